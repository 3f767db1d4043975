def zp_X6_init (kc ks : Nat) : List (Bool × Nat × zOp) := [
  (true, 0, o_al 0),
  (true, 1, o_oi 20),
  (true, 4, o_al 0),
  (true, 5, o_ic 2),
  (true, 6, o_na kc ks 0),
  (true, 8, o_pr 6 0),
  (true, 11, o_al 0),
  (true, 12, o_ic 110),
  (true, 14, o_na kc ks 0),
  (true, 16, o_pr 6 1),
  (true, 19, o_al 0),
  (true, 20, o_ic 9),
  (true, 22, o_na kc ks 0),
  (true, 24, o_pr 6 3),
  (true, 27, o_al 0),
  (true, 28, o_ic 9),
  (true, 30, o_na kc ks 0),
  (true, 32, o_pr 6 4),
  (true, 35, o_al 0),
  (true, 36, o_ic 9),
  (true, 38, o_na kc ks 0),
  (true, 40, o_pr 6 5),
  (true, 43, o_al 0),
  (true, 44, o_ic 9),
  (true, 46, o_na kc ks 0),
  (true, 48, o_pr 6 6),
  (true, 51, o_al 0),
  (true, 52, o_ic 27),
  (true, 54, o_na kc ks 0),
  (true, 56, o_pr 6 7),
  (true, 59, o_al 0),
  (true, 60, o_ic 40),
  (true, 62, o_na kc ks 0),
  (true, 64, o_pr 6 9),
  (true, 67, o_al 0),
  (true, 68, o_ic 3),
  (true, 69, o_na kc ks 0),
  (true, 71, o_pr 6 10),
  (true, 74, o_al 0),
  (true, 75, o_ic 6),
  (true, 77, o_na kc ks 0),
  (true, 79, o_pr 6 12),
  (true, 82, o_al 0),
  (true, 83, o_ic 6),
  (true, 85, o_na kc ks 0),
  (true, 87, o_pr 6 13),
  (true, 90, o_al 0),
  (true, 91, o_ic 6),
  (true, 93, o_na kc ks 0),
  (true, 95, o_pr 6 14),
  (true, 98, o_al 0),
  (true, 99, o_ic 6),
  (true, 101, o_na kc ks 0),
  (true, 103, o_pr 6 16),
  (true, 106, o_al 0),
  (true, 107, o_ic 6),
  (true, 109, o_na kc ks 0),
  (true, 111, o_pr 6 17),
  (true, 114, o_al 0),
  (true, 115, o_ic 40),
  (true, 117, o_na kc ks 0),
  (true, 119, o_pr 6 18),
  (true, 122, o_al 0),
  (true, 123, o_ic 8),
  (true, 125, o_na kc ks 0),
  (true, 127, o_pr 6 24),
  (true, 130, o_al 0),
  (true, 131, o_ic 40),
  (true, 133, o_na kc ks 0),
  (true, 135, o_pr 6 25),
  (true, 138, o_al 0),
  (true, 139, o_ic 40),
  (true, 141, o_na kc ks 0),
  (true, 143, o_pr 6 26),
  (true, 146, o_al 0),
  (true, 147, o_ic 40),
  (true, 149, o_na kc ks 0),
  (true, 151, o_pr 6 27),
  (true, 154, o_al 0),
  (true, 155, o_ic 40),
  (true, 157, o_na kc ks 0),
  (true, 159, o_pr 6 28),
  (true, 162, o_al 0),
  (true, 163, o_ic 320),
  (true, 166, o_na kc ks 0),
  (true, 168, o_pr 6 29),
  (true, 171, o_al 0),
  (true, 172, o_ic 8),
  (true, 174, o_na kc ks 0),
  (true, 176, o_pr 6 31),
  (true, 179, o_al 0),
  (true, 180, o_ic 8),
  (true, 182, o_na kc ks 0),
  (true, 184, o_pr 6 32),
  (true, 187, o_al 0),
  (true, 188, o_ic 8),
  (true, 190, o_na kc ks 0),
  (true, 192, o_pr 6 33),
  (true, 195, o_al 0),
  (true, 196, o_ic 400),
  (true, 199, o_na kc ks 0),
  (true, 201, o_pr 6 34),
  (true, 204, o_al 0),
  (true, 205, o_ic 4),
  (true, 206, o_na kc ks 1),
  (true, 208, o_pr 6 35),
  (true, 211, o_al 0),
  (true, 212, o_ic 4),
  (true, 213, o_na kc ks 0),
  (true, 215, o_pr 6 36),
  (true, 218, o_al 0),
  (true, 219, o_ic 4),
  (true, 220, o_na kc ks 0),
  (true, 222, o_pr 6 37),
  (true, 225, o_al 0),
  (true, 226, o_ic 240),
  (true, 229, o_na kc ks 0),
  (true, 231, o_pr 6 38),
  (true, 234, o_al 0),
  (true, 235, o_ic 60),
  (true, 237, o_na kc ks 0),
  (true, 239, o_pr 6 39),
  (true, 242, o_al 0),
  (true, 243, o_gf 6 10),
  (true, 246, o_ic 0),
  (true, 247, o_ic 30),
  (true, 249, o_iw),
  (true, 250, o_al 0),
  (true, 251, o_gf 6 10),
  (true, 254, o_ic 1),
  (true, 255, o_ic 60),
  (true, 257, o_iw),
  (true, 258, o_al 0),
  (true, 259, o_gf 6 10),
  (true, 262, o_ic 2),
  (true, 263, o_ic 4),
  (true, 264, o_iw),
  (true, 265, o_vr)]
set_option maxRecDepth 100000 in
set_option maxHeartbeats 4000000 in
theorem zk_X6_init (kc ks : Nat) : z_OK (zS RX6 cX6_init 1 "<init>" none 1 20 kc ks) (zp_X6_init kc ks) := by
  unfold zp_X6_init
  refine And.intro (s_aload_n dX6_init_0 rfl) ?_
  refine And.intro (s_oinit zl_790 zl_111 zl_112 (by decide) dX6_init_1) ?_
  refine And.intro (s_aload_n dX6_init_4 rfl) ?_
  refine And.intro (s_iconst dX6_init_5 (by decide)) ?_
  refine And.intro (s_newa (at0 := .int) (by decide) rfl zl_141 dX6_init_6) ?_
  refine And.intro (s_putRF (ty := tyX6 0) (C := RX6) (T := TX6) (N := 41) rfl zin_X6 (by decide) tyX6 tyX6_ok nmX6 zl_791 rfl rfl rfl (tyX6_ok 0 (by decide)) (fun _ => ⟨rfl, rfl⟩) dX6_init_8) ?_
  refine And.intro (s_aload_n dX6_init_11 rfl) ?_
  refine And.intro (s_bipush dX6_init_12 (by decide)) ?_
  refine And.intro (s_newa (at0 := .int) (by decide) rfl zl_141 dX6_init_14) ?_
  refine And.intro (s_putRF (ty := tyX6 1) (C := RX6) (T := TX6) (N := 41) rfl zin_X6 (by decide) tyX6 tyX6_ok nmX6 zl_792 rfl rfl rfl (tyX6_ok 1 (by decide)) (fun _ => ⟨rfl, rfl⟩) dX6_init_16) ?_
  refine And.intro (s_aload_n dX6_init_19 rfl) ?_
  refine And.intro (s_bipush dX6_init_20 (by decide)) ?_
  refine And.intro (s_newa (at0 := .int) (by decide) rfl zl_141 dX6_init_22) ?_
  refine And.intro (s_putRF (ty := tyX6 3) (C := RX6) (T := TX6) (N := 41) rfl zin_X6 (by decide) tyX6 tyX6_ok nmX6 zl_794 rfl rfl rfl (tyX6_ok 3 (by decide)) (fun _ => ⟨rfl, rfl⟩) dX6_init_24) ?_
  refine And.intro (s_aload_n dX6_init_27 rfl) ?_
  refine And.intro (s_bipush dX6_init_28 (by decide)) ?_
  refine And.intro (s_newa (at0 := .int) (by decide) rfl zl_141 dX6_init_30) ?_
  refine And.intro (s_putRF (ty := tyX6 4) (C := RX6) (T := TX6) (N := 41) rfl zin_X6 (by decide) tyX6 tyX6_ok nmX6 zl_795 rfl rfl rfl (tyX6_ok 4 (by decide)) (fun _ => ⟨rfl, rfl⟩) dX6_init_32) ?_
  refine And.intro (s_aload_n dX6_init_35 rfl) ?_
  refine And.intro (s_bipush dX6_init_36 (by decide)) ?_
  refine And.intro (s_newa (at0 := .int) (by decide) rfl zl_141 dX6_init_38) ?_
  refine And.intro (s_putRF (ty := tyX6 5) (C := RX6) (T := TX6) (N := 41) rfl zin_X6 (by decide) tyX6 tyX6_ok nmX6 zl_796 rfl rfl rfl (tyX6_ok 5 (by decide)) (fun _ => ⟨rfl, rfl⟩) dX6_init_40) ?_
  refine And.intro (s_aload_n dX6_init_43 rfl) ?_
  refine And.intro (s_bipush dX6_init_44 (by decide)) ?_
  refine And.intro (s_newa (at0 := .int) (by decide) rfl zl_141 dX6_init_46) ?_
  refine And.intro (s_putRF (ty := tyX6 6) (C := RX6) (T := TX6) (N := 41) rfl zin_X6 (by decide) tyX6 tyX6_ok nmX6 zl_797 rfl rfl rfl (tyX6_ok 6 (by decide)) (fun _ => ⟨rfl, rfl⟩) dX6_init_48) ?_
  refine And.intro (s_aload_n dX6_init_51 rfl) ?_
  refine And.intro (s_bipush dX6_init_52 (by decide)) ?_
  refine And.intro (s_newa (at0 := .int) (by decide) rfl zl_141 dX6_init_54) ?_
  refine And.intro (s_putRF (ty := tyX6 7) (C := RX6) (T := TX6) (N := 41) rfl zin_X6 (by decide) tyX6 tyX6_ok nmX6 zl_798 rfl rfl rfl (tyX6_ok 7 (by decide)) (fun _ => ⟨rfl, rfl⟩) dX6_init_56) ?_
  refine And.intro (s_aload_n dX6_init_59 rfl) ?_
  refine And.intro (s_bipush dX6_init_60 (by decide)) ?_
  refine And.intro (s_newa (at0 := .int) (by decide) rfl zl_141 dX6_init_62) ?_
  refine And.intro (s_putRF (ty := tyX6 9) (C := RX6) (T := TX6) (N := 41) rfl zin_X6 (by decide) tyX6 tyX6_ok nmX6 zl_800 rfl rfl rfl (tyX6_ok 9 (by decide)) (fun _ => ⟨rfl, rfl⟩) dX6_init_64) ?_
  refine And.intro (s_aload_n dX6_init_67 rfl) ?_
  refine And.intro (s_iconst dX6_init_68 (by decide)) ?_
  refine And.intro (s_newa (at0 := .int) (by decide) rfl zl_141 dX6_init_69) ?_
  refine And.intro (s_putRF (ty := tyX6 10) (C := RX6) (T := TX6) (N := 41) rfl zin_X6 (by decide) tyX6 tyX6_ok nmX6 zl_801 rfl rfl rfl (tyX6_ok 10 (by decide)) (fun _ => ⟨rfl, rfl⟩) dX6_init_71) ?_
  refine And.intro (s_aload_n dX6_init_74 rfl) ?_
  refine And.intro (s_bipush dX6_init_75 (by decide)) ?_
  refine And.intro (s_newa (at0 := .int) (by decide) rfl zl_141 dX6_init_77) ?_
  refine And.intro (s_putRF (ty := tyX6 12) (C := RX6) (T := TX6) (N := 41) rfl zin_X6 (by decide) tyX6 tyX6_ok nmX6 zl_803 rfl rfl rfl (tyX6_ok 12 (by decide)) (fun _ => ⟨rfl, rfl⟩) dX6_init_79) ?_
  refine And.intro (s_aload_n dX6_init_82 rfl) ?_
  refine And.intro (s_bipush dX6_init_83 (by decide)) ?_
  refine And.intro (s_newa (at0 := .int) (by decide) rfl zl_141 dX6_init_85) ?_
  refine And.intro (s_putRF (ty := tyX6 13) (C := RX6) (T := TX6) (N := 41) rfl zin_X6 (by decide) tyX6 tyX6_ok nmX6 zl_804 rfl rfl rfl (tyX6_ok 13 (by decide)) (fun _ => ⟨rfl, rfl⟩) dX6_init_87) ?_
  refine And.intro (s_aload_n dX6_init_90 rfl) ?_
  refine And.intro (s_bipush dX6_init_91 (by decide)) ?_
  refine And.intro (s_newa (at0 := .int) (by decide) rfl zl_141 dX6_init_93) ?_
  refine And.intro (s_putRF (ty := tyX6 14) (C := RX6) (T := TX6) (N := 41) rfl zin_X6 (by decide) tyX6 tyX6_ok nmX6 zl_805 rfl rfl rfl (tyX6_ok 14 (by decide)) (fun _ => ⟨rfl, rfl⟩) dX6_init_95) ?_
  refine And.intro (s_aload_n dX6_init_98 rfl) ?_
  refine And.intro (s_bipush dX6_init_99 (by decide)) ?_
  refine And.intro (s_newa (at0 := .int) (by decide) rfl zl_141 dX6_init_101) ?_
  refine And.intro (s_putRF (ty := tyX6 16) (C := RX6) (T := TX6) (N := 41) rfl zin_X6 (by decide) tyX6 tyX6_ok nmX6 zl_807 rfl rfl rfl (tyX6_ok 16 (by decide)) (fun _ => ⟨rfl, rfl⟩) dX6_init_103) ?_
  refine And.intro (s_aload_n dX6_init_106 rfl) ?_
  refine And.intro (s_bipush dX6_init_107 (by decide)) ?_
  refine And.intro (s_newa (at0 := .int) (by decide) rfl zl_141 dX6_init_109) ?_
  refine And.intro (s_putRF (ty := tyX6 17) (C := RX6) (T := TX6) (N := 41) rfl zin_X6 (by decide) tyX6 tyX6_ok nmX6 zl_808 rfl rfl rfl (tyX6_ok 17 (by decide)) (fun _ => ⟨rfl, rfl⟩) dX6_init_111) ?_
  refine And.intro (s_aload_n dX6_init_114 rfl) ?_
  refine And.intro (s_bipush dX6_init_115 (by decide)) ?_
  refine And.intro (s_newa (at0 := .int) (by decide) rfl zl_141 dX6_init_117) ?_
  refine And.intro (s_putRF (ty := tyX6 18) (C := RX6) (T := TX6) (N := 41) rfl zin_X6 (by decide) tyX6 tyX6_ok nmX6 zl_809 rfl rfl rfl (tyX6_ok 18 (by decide)) (fun _ => ⟨rfl, rfl⟩) dX6_init_119) ?_
  refine And.intro (s_aload_n dX6_init_122 rfl) ?_
  refine And.intro (s_bipush dX6_init_123 (by decide)) ?_
  refine And.intro (s_newa (at0 := .int) (by decide) rfl zl_141 dX6_init_125) ?_
  refine And.intro (s_putRF (ty := tyX6 24) (C := RX6) (T := TX6) (N := 41) rfl zin_X6 (by decide) tyX6 tyX6_ok nmX6 zl_815 rfl rfl rfl (tyX6_ok 24 (by decide)) (fun _ => ⟨rfl, rfl⟩) dX6_init_127) ?_
  refine And.intro (s_aload_n dX6_init_130 rfl) ?_
  refine And.intro (s_bipush dX6_init_131 (by decide)) ?_
  refine And.intro (s_newa (at0 := .int) (by decide) rfl zl_141 dX6_init_133) ?_
  refine And.intro (s_putRF (ty := tyX6 25) (C := RX6) (T := TX6) (N := 41) rfl zin_X6 (by decide) tyX6 tyX6_ok nmX6 zl_816 rfl rfl rfl (tyX6_ok 25 (by decide)) (fun _ => ⟨rfl, rfl⟩) dX6_init_135) ?_
  refine And.intro (s_aload_n dX6_init_138 rfl) ?_
  refine And.intro (s_bipush dX6_init_139 (by decide)) ?_
  refine And.intro (s_newa (at0 := .int) (by decide) rfl zl_141 dX6_init_141) ?_
  refine And.intro (s_putRF (ty := tyX6 26) (C := RX6) (T := TX6) (N := 41) rfl zin_X6 (by decide) tyX6 tyX6_ok nmX6 zl_817 rfl rfl rfl (tyX6_ok 26 (by decide)) (fun _ => ⟨rfl, rfl⟩) dX6_init_143) ?_
  refine And.intro (s_aload_n dX6_init_146 rfl) ?_
  refine And.intro (s_bipush dX6_init_147 (by decide)) ?_
  refine And.intro (s_newa (at0 := .int) (by decide) rfl zl_141 dX6_init_149) ?_
  refine And.intro (s_putRF (ty := tyX6 27) (C := RX6) (T := TX6) (N := 41) rfl zin_X6 (by decide) tyX6 tyX6_ok nmX6 zl_818 rfl rfl rfl (tyX6_ok 27 (by decide)) (fun _ => ⟨rfl, rfl⟩) dX6_init_151) ?_
  refine And.intro (s_aload_n dX6_init_154 rfl) ?_
  refine And.intro (s_bipush dX6_init_155 (by decide)) ?_
  refine And.intro (s_newa (at0 := .int) (by decide) rfl zl_141 dX6_init_157) ?_
  refine And.intro (s_putRF (ty := tyX6 28) (C := RX6) (T := TX6) (N := 41) rfl zin_X6 (by decide) tyX6 tyX6_ok nmX6 zl_819 rfl rfl rfl (tyX6_ok 28 (by decide)) (fun _ => ⟨rfl, rfl⟩) dX6_init_159) ?_
  refine And.intro (s_aload_n dX6_init_162 rfl) ?_
  refine And.intro (s_sipush dX6_init_163 (by decide)) ?_
  refine And.intro (s_newa (at0 := .int) (by decide) rfl zl_141 dX6_init_166) ?_
  refine And.intro (s_putRF (ty := tyX6 29) (C := RX6) (T := TX6) (N := 41) rfl zin_X6 (by decide) tyX6 tyX6_ok nmX6 zl_820 rfl rfl rfl (tyX6_ok 29 (by decide)) (fun _ => ⟨rfl, rfl⟩) dX6_init_168) ?_
  refine And.intro (s_aload_n dX6_init_171 rfl) ?_
  refine And.intro (s_bipush dX6_init_172 (by decide)) ?_
  refine And.intro (s_newa (at0 := .int) (by decide) rfl zl_141 dX6_init_174) ?_
  refine And.intro (s_putRF (ty := tyX6 31) (C := RX6) (T := TX6) (N := 41) rfl zin_X6 (by decide) tyX6 tyX6_ok nmX6 zl_822 rfl rfl rfl (tyX6_ok 31 (by decide)) (fun _ => ⟨rfl, rfl⟩) dX6_init_176) ?_
  refine And.intro (s_aload_n dX6_init_179 rfl) ?_
  refine And.intro (s_bipush dX6_init_180 (by decide)) ?_
  refine And.intro (s_newa (at0 := .int) (by decide) rfl zl_141 dX6_init_182) ?_
  refine And.intro (s_putRF (ty := tyX6 32) (C := RX6) (T := TX6) (N := 41) rfl zin_X6 (by decide) tyX6 tyX6_ok nmX6 zl_823 rfl rfl rfl (tyX6_ok 32 (by decide)) (fun _ => ⟨rfl, rfl⟩) dX6_init_184) ?_
  refine And.intro (s_aload_n dX6_init_187 rfl) ?_
  refine And.intro (s_bipush dX6_init_188 (by decide)) ?_
  refine And.intro (s_newa (at0 := .int) (by decide) rfl zl_141 dX6_init_190) ?_
  refine And.intro (s_putRF (ty := tyX6 33) (C := RX6) (T := TX6) (N := 41) rfl zin_X6 (by decide) tyX6 tyX6_ok nmX6 zl_824 rfl rfl rfl (tyX6_ok 33 (by decide)) (fun _ => ⟨rfl, rfl⟩) dX6_init_192) ?_
  refine And.intro (s_aload_n dX6_init_195 rfl) ?_
  refine And.intro (s_sipush dX6_init_196 (by decide)) ?_
  refine And.intro (s_newa (at0 := .int) (by decide) rfl zl_141 dX6_init_199) ?_
  refine And.intro (s_putRF (ty := tyX6 34) (C := RX6) (T := TX6) (N := 41) rfl zin_X6 (by decide) tyX6 tyX6_ok nmX6 zl_825 rfl rfl rfl (tyX6_ok 34 (by decide)) (fun _ => ⟨rfl, rfl⟩) dX6_init_201) ?_
  refine And.intro (s_aload_n dX6_init_204 rfl) ?_
  refine And.intro (s_iconst dX6_init_205 (by decide)) ?_
  refine And.intro (s_newa (at0 := .boolean) (by decide) rfl zl_915 dX6_init_206) ?_
  refine And.intro (s_putRF (ty := tyX6 35) (C := RX6) (T := TX6) (N := 41) rfl zin_X6 (by decide) tyX6 tyX6_ok nmX6 zl_826 rfl rfl rfl (tyX6_ok 35 (by decide)) (fun _ => ⟨rfl, rfl⟩) dX6_init_208) ?_
  refine And.intro (s_aload_n dX6_init_211 rfl) ?_
  refine And.intro (s_iconst dX6_init_212 (by decide)) ?_
  refine And.intro (s_newa (at0 := .int) (by decide) rfl zl_141 dX6_init_213) ?_
  refine And.intro (s_putRF (ty := tyX6 36) (C := RX6) (T := TX6) (N := 41) rfl zin_X6 (by decide) tyX6 tyX6_ok nmX6 zl_827 rfl rfl rfl (tyX6_ok 36 (by decide)) (fun _ => ⟨rfl, rfl⟩) dX6_init_215) ?_
  refine And.intro (s_aload_n dX6_init_218 rfl) ?_
  refine And.intro (s_iconst dX6_init_219 (by decide)) ?_
  refine And.intro (s_newa (at0 := .int) (by decide) rfl zl_141 dX6_init_220) ?_
  refine And.intro (s_putRF (ty := tyX6 37) (C := RX6) (T := TX6) (N := 41) rfl zin_X6 (by decide) tyX6 tyX6_ok nmX6 zl_828 rfl rfl rfl (tyX6_ok 37 (by decide)) (fun _ => ⟨rfl, rfl⟩) dX6_init_222) ?_
  refine And.intro (s_aload_n dX6_init_225 rfl) ?_
  refine And.intro (s_sipush dX6_init_226 (by decide)) ?_
  refine And.intro (s_newa (at0 := .int) (by decide) rfl zl_141 dX6_init_229) ?_
  refine And.intro (s_putRF (ty := tyX6 38) (C := RX6) (T := TX6) (N := 41) rfl zin_X6 (by decide) tyX6 tyX6_ok nmX6 zl_829 rfl rfl rfl (tyX6_ok 38 (by decide)) (fun _ => ⟨rfl, rfl⟩) dX6_init_231) ?_
  refine And.intro (s_aload_n dX6_init_234 rfl) ?_
  refine And.intro (s_bipush dX6_init_235 (by decide)) ?_
  refine And.intro (s_newa (at0 := .int) (by decide) rfl zl_141 dX6_init_237) ?_
  refine And.intro (s_putRF (ty := tyX6 39) (C := RX6) (T := TX6) (N := 41) rfl zin_X6 (by decide) tyX6 tyX6_ok nmX6 zl_830 rfl rfl rfl (tyX6_ok 39 (by decide)) (fun _ => ⟨rfl, rfl⟩) dX6_init_239) ?_
  refine And.intro (s_aload_n dX6_init_242 rfl) ?_
  refine And.intro (s_getf (C := RX6) (T := TX6) (N := 41) rfl zin_X6 (by decide) zl_801 dX6_init_243) ?_
  refine And.intro (s_iconst dX6_init_246 (by decide)) ?_
  refine And.intro (s_bipush dX6_init_247 (by decide)) ?_
  refine And.intro (s_iastore dX6_init_249) ?_
  refine And.intro (s_aload_n dX6_init_250 rfl) ?_
  refine And.intro (s_getf (C := RX6) (T := TX6) (N := 41) rfl zin_X6 (by decide) zl_801 dX6_init_251) ?_
  refine And.intro (s_iconst dX6_init_254 (by decide)) ?_
  refine And.intro (s_bipush dX6_init_255 (by decide)) ?_
  refine And.intro (s_iastore dX6_init_257) ?_
  refine And.intro (s_aload_n dX6_init_258 rfl) ?_
  refine And.intro (s_getf (C := RX6) (T := TX6) (N := 41) rfl zin_X6 (by decide) zl_801 dX6_init_259) ?_
  refine And.intro (s_iconst dX6_init_262 (by decide)) ?_
  refine And.intro (s_iconst dX6_init_263 (by decide)) ?_
  refine And.intro (s_iastore dX6_init_264) ?_
  refine And.intro (s_vreturn rfl dX6_init_265) ?_
  exact trivial
def zp_X6_isIn : List (Bool × Nat × zOp) := [
  (true, 0, o_il 0),
  (true, 1, o_il 1),
  (true, 2, o_ii (fun x y => x >>> (y &&& 31))),
  (true, 3, o_ic 1),
  (true, 4, o_ii (fun x y => x &&& y)),
  (true, 5, o_ic 1),
  (true, 6, o_cn (fun x y => x = y) 13),
  (true, 9, o_ic 1),
  (true, 10, o_go 14),
  (true, 13, o_ic 0),
  (true, 14, o_zr)]
set_option maxRecDepth 100000 in
set_option maxHeartbeats 4000000 in
theorem zk_X6_isIn (kc ks : Nat) : z_OK (zS RX6 cX6_isIn 2 "isIn" (some .boolean) 0 0 kc ks) zp_X6_isIn := by
  unfold zp_X6_isIn
  refine And.intro (s_iload_n dX6_isIn_0 rfl) ?_
  refine And.intro (s_iload_n dX6_isIn_1 rfl) ?_
  refine And.intro (s_ishr dX6_isIn_2) ?_
  refine And.intro (s_iconst dX6_isIn_3 (by decide)) ?_
  refine And.intro (s_iand dX6_isIn_4) ?_
  refine And.intro (s_iconst dX6_isIn_5 (by decide)) ?_
  refine And.intro (s_icmp_ne dX6_isIn_6 (by decide)) ?_
  refine And.intro (s_iconst dX6_isIn_9 (by decide)) ?_
  refine And.intro (s_goto dX6_isIn_10 (by decide)) ?_
  refine And.intro (s_iconst dX6_isIn_13 (by decide)) ?_
  refine And.intro (s_zreturn rfl dX6_isIn_14) ?_
  exact trivial
def zp_X6_in : List (Bool × Nat × zOp) := [
  (true, 0, o_il 0),
  (true, 1, o_il 1),
  (true, 2, o_cmp (fun x y => x < y) 14),
  (true, 5, o_il 0),
  (true, 6, o_il 2),
  (true, 7, o_cmp (fun x y => y < x) 14),
  (true, 10, o_ic 1),
  (true, 11, o_go 15),
  (true, 14, o_ic 0),
  (true, 15, o_zr)]
set_option maxRecDepth 100000 in
set_option maxHeartbeats 4000000 in
theorem zk_X6_in (kc ks : Nat) : z_OK (zS RX6 cX6_in 3 "in" (some .boolean) 0 0 kc ks) zp_X6_in := by
  unfold zp_X6_in
  refine And.intro (s_iload_n dX6_in_0 rfl) ?_
  refine And.intro (s_iload_n dX6_in_1 rfl) ?_
  refine And.intro (s_icmp_lt dX6_in_2 (by decide)) ?_
  refine And.intro (s_iload_n dX6_in_5 rfl) ?_
  refine And.intro (s_iload_n dX6_in_6 rfl) ?_
  refine And.intro (s_icmp_gt dX6_in_7 (by decide)) ?_
  refine And.intro (s_iconst dX6_in_10 (by decide)) ?_
  refine And.intro (s_goto dX6_in_11 (by decide)) ?_
  refine And.intro (s_iconst dX6_in_14 (by decide)) ?_
  refine And.intro (s_zreturn rfl dX6_in_15) ?_
  exact trivial
def zp_X6_readsElbows : List (Bool × Nat × zOp) := [
  (true, 0, o_al 0),
  (true, 1, o_ic 0),
  (true, 2, o_pi 6 8),
  (true, 5, o_ic 0),
  (true, 6, o_is 1),
  (false, 7, o_mark 7 []),
  (true, 7, o_il 1),
  (true, 8, o_ic 40),
  (true, 10, o_cmp (fun x y => y ≤ x) 26),
  (true, 13, o_al 0),
  (true, 14, o_gf 6 9),
  (true, 17, o_il 1),
  (true, 18, o_ic 3),
  (true, 19, o_iw),
  (true, 20, o_inc 1 1),
  (true, 23, o_gb 7 []),
  (true, 26, o_ic 0),
  (true, 27, o_is 1),
  (false, 28, o_mark 28 []),
  (true, 28, o_il 1),
  (true, 29, o_al 0),
  (true, 30, o_gf 6 0),
  (true, 33, o_ic 1),
  (true, 34, o_ia),
  (true, 35, o_cmp (fun x y => y ≤ x) 65),
  (true, 38, o_al 0),
  (true, 39, o_gf 6 1),
  (true, 42, o_ic 55),
  (true, 44, o_il 1),
  (true, 45, o_ii (fun x y => x + y)),
  (true, 46, o_ia),
  (true, 47, o_ic 48),
  (true, 49, o_ic 57),
  (true, 51, o_cs zi_X6_in 3),
  (true, 54, o_in (fun x => x = 0) 59),
  (true, 57, o_il 1),
  (true, 58, o_ir),
  (true, 59, o_inc 1 1),
  (true, 62, o_gb 28 []),
  (true, 65, o_ic 0),
  (true, 66, o_is 1),
  (false, 67, o_mark 67 []),
  (true, 67, o_il 1),
  (true, 68, o_al 0),
  (true, 69, o_gf 6 0),
  (true, 72, o_ic 1),
  (true, 73, o_ia),
  (true, 74, o_cmp (fun x y => y ≤ x) 101),
  (true, 77, o_al 0),
  (true, 78, o_gf 6 9),
  (true, 81, o_il 1),
  (true, 82, o_al 0),
  (true, 83, o_gf 6 1),
  (true, 86, o_ic 55),
  (true, 88, o_il 1),
  (true, 89, o_ii (fun x y => x + y)),
  (true, 90, o_ia),
  (true, 91, o_ic 48),
  (true, 93, o_ii (fun x y => x - y)),
  (true, 94, o_iw),
  (true, 95, o_inc 1 1),
  (true, 98, o_gb 67 []),
  (true, 101, o_al 0),
  (true, 102, o_al 0),
  (true, 103, o_gf 6 0),
  (true, 106, o_ic 1),
  (true, 107, o_ia),
  (true, 108, o_pi 6 8),
  (true, 111, o_ic (-1)),
  (true, 112, o_ir)]
set_option maxRecDepth 100000 in
set_option maxHeartbeats 4000000 in
theorem zk_X6_readsElbows (kc ks : Nat) : z_OK (zS RX6 cX6_readsElbows 2 "readsElbows" (some .int) 1 22 kc ks) zp_X6_readsElbows := by
  unfold zp_X6_readsElbows
  refine And.intro (s_aload_n dX6_readsElbows_0 rfl) ?_
  refine And.intro (s_iconst dX6_readsElbows_1 (by decide)) ?_
  refine And.intro (s_putI (C := RX6) (T := TX6) (N := 41) rfl zin_X6 (by decide) tyX6 tyX6_ok nmX6 zl_799 rfl (by decide +kernel) dX6_readsElbows_2) ?_
  refine And.intro (s_iconst dX6_readsElbows_5 (by decide)) ?_
  refine And.intro (s_istore_n dX6_readsElbows_6 rfl) ?_
  refine And.intro (s_mark) ?_
  refine And.intro (s_iload_n dX6_readsElbows_7 rfl) ?_
  refine And.intro (s_bipush dX6_readsElbows_8 (by decide)) ?_
  refine And.intro (s_icmp_ge dX6_readsElbows_10 (by decide)) ?_
  refine And.intro (s_aload_n dX6_readsElbows_13 rfl) ?_
  refine And.intro (s_getf (C := RX6) (T := TX6) (N := 41) rfl zin_X6 (by decide) zl_800 dX6_readsElbows_14) ?_
  refine And.intro (s_iload_n dX6_readsElbows_17 rfl) ?_
  refine And.intro (s_iconst dX6_readsElbows_18 (by decide)) ?_
  refine And.intro (s_iastore dX6_readsElbows_19) ?_
  refine And.intro (s_iinc dX6_readsElbows_20 (by decide)) ?_
  refine And.intro (s_gotob dX6_readsElbows_23 (by decide)) ?_
  refine And.intro (s_iconst dX6_readsElbows_26 (by decide)) ?_
  refine And.intro (s_istore_n dX6_readsElbows_27 rfl) ?_
  refine And.intro (s_mark) ?_
  refine And.intro (s_iload_n dX6_readsElbows_28 rfl) ?_
  refine And.intro (s_aload_n dX6_readsElbows_29 rfl) ?_
  refine And.intro (s_getf (C := RX6) (T := TX6) (N := 41) rfl zin_X6 (by decide) zl_791 dX6_readsElbows_30) ?_
  refine And.intro (s_iconst dX6_readsElbows_33 (by decide)) ?_
  refine And.intro (s_iaload dX6_readsElbows_34) ?_
  refine And.intro (s_icmp_ge dX6_readsElbows_35 (by decide)) ?_
  refine And.intro (s_aload_n dX6_readsElbows_38 rfl) ?_
  refine And.intro (s_getf (C := RX6) (T := TX6) (N := 41) rfl zin_X6 (by decide) zl_792 dX6_readsElbows_39) ?_
  refine And.intro (s_bipush dX6_readsElbows_42 (by decide)) ?_
  refine And.intro (s_iload_n dX6_readsElbows_44 rfl) ?_
  refine And.intro (s_iadd dX6_readsElbows_45) ?_
  refine And.intro (s_iaload dX6_readsElbows_46) ?_
  refine And.intro (s_bipush dX6_readsElbows_47 (by decide)) ?_
  refine And.intro (s_bipush dX6_readsElbows_49 (by decide)) ?_
  refine And.intro (s_callS zf_X6_in zl_924 zl_923 ⟨rfl, rfl⟩ dX6_readsElbows_51) ?_
  refine And.intro (s_if_ne dX6_readsElbows_54 (by decide)) ?_
  refine And.intro (s_iload_n dX6_readsElbows_57 rfl) ?_
  refine And.intro (s_ireturn rfl (fun _ => rfl) dX6_readsElbows_58) ?_
  refine And.intro (s_iinc dX6_readsElbows_59 (by decide)) ?_
  refine And.intro (s_gotob dX6_readsElbows_62 (by decide)) ?_
  refine And.intro (s_iconst dX6_readsElbows_65 (by decide)) ?_
  refine And.intro (s_istore_n dX6_readsElbows_66 rfl) ?_
  refine And.intro (s_mark) ?_
  refine And.intro (s_iload_n dX6_readsElbows_67 rfl) ?_
  refine And.intro (s_aload_n dX6_readsElbows_68 rfl) ?_
  refine And.intro (s_getf (C := RX6) (T := TX6) (N := 41) rfl zin_X6 (by decide) zl_791 dX6_readsElbows_69) ?_
  refine And.intro (s_iconst dX6_readsElbows_72 (by decide)) ?_
  refine And.intro (s_iaload dX6_readsElbows_73) ?_
  refine And.intro (s_icmp_ge dX6_readsElbows_74 (by decide)) ?_
  refine And.intro (s_aload_n dX6_readsElbows_77 rfl) ?_
  refine And.intro (s_getf (C := RX6) (T := TX6) (N := 41) rfl zin_X6 (by decide) zl_800 dX6_readsElbows_78) ?_
  refine And.intro (s_iload_n dX6_readsElbows_81 rfl) ?_
  refine And.intro (s_aload_n dX6_readsElbows_82 rfl) ?_
  refine And.intro (s_getf (C := RX6) (T := TX6) (N := 41) rfl zin_X6 (by decide) zl_792 dX6_readsElbows_83) ?_
  refine And.intro (s_bipush dX6_readsElbows_86 (by decide)) ?_
  refine And.intro (s_iload_n dX6_readsElbows_88 rfl) ?_
  refine And.intro (s_iadd dX6_readsElbows_89) ?_
  refine And.intro (s_iaload dX6_readsElbows_90) ?_
  refine And.intro (s_bipush dX6_readsElbows_91 (by decide)) ?_
  refine And.intro (s_isub dX6_readsElbows_93) ?_
  refine And.intro (s_iastore dX6_readsElbows_94) ?_
  refine And.intro (s_iinc dX6_readsElbows_95 (by decide)) ?_
  refine And.intro (s_gotob dX6_readsElbows_98 (by decide)) ?_
  refine And.intro (s_aload_n dX6_readsElbows_101 rfl) ?_
  refine And.intro (s_aload_n dX6_readsElbows_102 rfl) ?_
  refine And.intro (s_getf (C := RX6) (T := TX6) (N := 41) rfl zin_X6 (by decide) zl_791 dX6_readsElbows_103) ?_
  refine And.intro (s_iconst dX6_readsElbows_106 (by decide)) ?_
  refine And.intro (s_iaload dX6_readsElbows_107) ?_
  refine And.intro (s_putI (C := RX6) (T := TX6) (N := 41) rfl zin_X6 (by decide) tyX6 tyX6_ok nmX6 zl_799 rfl (by decide +kernel) dX6_readsElbows_108) ?_
  refine And.intro (s_iconst dX6_readsElbows_111 (by decide)) ?_
  refine And.intro (s_ireturn rfl (fun _ => rfl) dX6_readsElbows_112) ?_
  exact trivial
def zp_X6_byteAt : List (Bool × Nat × zOp) := [
  (true, 0, o_il 1),
  (true, 1, o_al 0),
  (true, 2, o_gf 6 0),
  (true, 5, o_ic 0),
  (true, 6, o_ia),
  (true, 7, o_cmp (fun x y => y ≤ x) 19),
  (true, 10, o_al 0),
  (true, 11, o_gf 6 1),
  (true, 14, o_il 1),
  (true, 15, o_ia),
  (true, 16, o_go 20),
  (true, 19, o_ic (-1)),
  (true, 20, o_ir)]
set_option maxRecDepth 100000 in
set_option maxHeartbeats 4000000 in
theorem zk_X6_byteAt (kc ks : Nat) : z_OK (zS RX6 cX6_byteAt 2 "byteAt" (some .int) 0 0 kc ks) zp_X6_byteAt := by
  unfold zp_X6_byteAt
  refine And.intro (s_iload_n dX6_byteAt_0 rfl) ?_
  refine And.intro (s_aload_n dX6_byteAt_1 rfl) ?_
  refine And.intro (s_getf (C := RX6) (T := TX6) (N := 41) rfl zin_X6 (by decide) zl_791 dX6_byteAt_2) ?_
  refine And.intro (s_iconst dX6_byteAt_5 (by decide)) ?_
  refine And.intro (s_iaload dX6_byteAt_6) ?_
  refine And.intro (s_icmp_ge dX6_byteAt_7 (by decide)) ?_
  refine And.intro (s_aload_n dX6_byteAt_10 rfl) ?_
  refine And.intro (s_getf (C := RX6) (T := TX6) (N := 41) rfl zin_X6 (by decide) zl_792 dX6_byteAt_11) ?_
  refine And.intro (s_iload_n dX6_byteAt_14 rfl) ?_
  refine And.intro (s_iaload dX6_byteAt_15) ?_
  refine And.intro (s_goto dX6_byteAt_16 (by decide)) ?_
  refine And.intro (s_iconst dX6_byteAt_19 (by decide)) ?_
  refine And.intro (s_ireturn rfl (fun _ => rfl) dX6_byteAt_20) ?_
  exact trivial
def zp_X6_doneAt : List (Bool × Nat × zOp) := [
  (true, 0, o_al 0),
  (true, 1, o_il 1),
  (true, 2, o_cv zi_X6_byteAt 1 6),
  (true, 5, o_is 2),
  (true, 6, o_il 2),
  (true, 7, o_ic 115),
  (true, 9, o_cn (fun x y => x = y) 16),
  (true, 12, o_ic 0),
  (true, 13, o_go 37),
  (true, 16, o_il 2),
  (true, 17, o_ic 119),
  (true, 19, o_cn (fun x y => x = y) 26),
  (true, 22, o_ic 1),
  (true, 23, o_go 37),
  (true, 26, o_il 2),
  (true, 27, o_ic 114),
  (true, 29, o_cn (fun x y => x = y) 36),
  (true, 32, o_ic 2),
  (true, 33, o_go 37),
  (true, 36, o_ic (-1)),
  (true, 37, o_ir)]
set_option maxRecDepth 100000 in
set_option maxHeartbeats 4000000 in
theorem zk_X6_doneAt (kc ks : Nat) : z_OK (zS RX6 cX6_doneAt 3 "doneAt" (some .int) 1 21 kc ks) zp_X6_doneAt := by
  unfold zp_X6_doneAt
  refine And.intro (s_aload_n dX6_doneAt_0 rfl) ?_
  refine And.intro (s_iload_n dX6_doneAt_1 rfl) ?_
  refine And.intro (s_callV (C := RX6) (T := TX6) (N := 41) rfl zf_X6_byteAt zg_X6_byteAt zl_950 ⟨rfl, rfl⟩ dX6_doneAt_2) ?_
  refine And.intro (s_istore_n dX6_doneAt_5 rfl) ?_
  refine And.intro (s_iload_n dX6_doneAt_6 rfl) ?_
  refine And.intro (s_bipush dX6_doneAt_7 (by decide)) ?_
  refine And.intro (s_icmp_ne dX6_doneAt_9 (by decide)) ?_
  refine And.intro (s_iconst dX6_doneAt_12 (by decide)) ?_
  refine And.intro (s_goto dX6_doneAt_13 (by decide)) ?_
  refine And.intro (s_iload_n dX6_doneAt_16 rfl) ?_
  refine And.intro (s_bipush dX6_doneAt_17 (by decide)) ?_
  refine And.intro (s_icmp_ne dX6_doneAt_19 (by decide)) ?_
  refine And.intro (s_iconst dX6_doneAt_22 (by decide)) ?_
  refine And.intro (s_goto dX6_doneAt_23 (by decide)) ?_
  refine And.intro (s_iload_n dX6_doneAt_26 rfl) ?_
  refine And.intro (s_bipush dX6_doneAt_27 (by decide)) ?_
  refine And.intro (s_icmp_ne dX6_doneAt_29 (by decide)) ?_
  refine And.intro (s_iconst dX6_doneAt_32 (by decide)) ?_
  refine And.intro (s_goto dX6_doneAt_33 (by decide)) ?_
  refine And.intro (s_iconst dX6_doneAt_36 (by decide)) ?_
  refine And.intro (s_ireturn rfl (fun _ => rfl) dX6_doneAt_37) ?_
  exact trivial
def zp_X6_readsHouse : List (Bool × Nat × zOp) := [
  (true, 0, o_al 0),
  (true, 1, o_il 2),
  (true, 2, o_cv zi_X6_byteAt 1 6),
  (true, 5, o_is 3),
  (true, 6, o_il 3),
  (true, 7, o_ic 46),
  (true, 9, o_cmp (fun x y => x = y) 27),
  (true, 12, o_il 3),
  (true, 13, o_ic 97),
  (true, 15, o_ic 97),
  (true, 17, o_il 1),
  (true, 18, o_ii (fun x y => x + y)),
  (true, 19, o_ic 1),
  (true, 20, o_ii (fun x y => x - y)),
  (true, 21, o_cs zi_X6_in 3),
  (true, 24, o_if (fun x => x = 0) 31),
  (true, 27, o_ic 1),
  (true, 28, o_go 32),
  (true, 31, o_ic 0),
  (true, 32, o_is 4),
  (true, 34, o_il 1),
  (true, 35, o_ic 8),
  (true, 37, o_cmp (fun x y => x = y) 45),
  (true, 40, o_il 4),
  (true, 42, o_in (fun x => x = 0) 47),
  (true, 45, o_ic (-1)),
  (true, 46, o_ir),
  (true, 47, o_al 0),
  (true, 48, o_il 2),
  (true, 49, o_ic 1),
  (true, 50, o_ii (fun x y => x + y)),
  (true, 51, o_cv zi_X6_byteAt 1 6),
  (true, 54, o_ic 97),
  (true, 56, o_ic 103),
  (true, 58, o_cs zi_X6_in 3),
  (true, 61, o_in (fun x => x = 0) 67),
  (true, 64, o_ic (-2)),
  (true, 66, o_ir),
  (true, 67, o_al 0),
  (true, 68, o_il 2),
  (true, 69, o_ic 2),
  (true, 70, o_ii (fun x y => x + y)),
  (true, 71, o_cv zi_X6_byteAt 1 6),
  (true, 74, o_ic 49),
  (true, 76, o_ic 57),
  (true, 78, o_cs zi_X6_in 3),
  (true, 81, o_in (fun x => x = 0) 87),
  (true, 84, o_ic (-3)),
  (true, 86, o_ir),
  (true, 87, o_al 0),
  (true, 88, o_il 2),
  (true, 89, o_ic 3),
  (true, 90, o_ii (fun x y => x + y)),
  (true, 91, o_cv zi_X6_doneAt 1 6),
  (true, 94, o_ic (-1)),
  (true, 95, o_cn (fun x y => x = y) 101),
  (true, 98, o_ic (-4)),
  (true, 100, o_ir),
  (true, 101, o_ic 0),
  (true, 102, o_is 5),
  (false, 104, o_mark 104 [4]),
  (true, 104, o_il 5),
  (true, 106, o_ic 3),
  (true, 107, o_cmp (fun x y => y ≤ x) 151),
  (true, 110, o_al 0),
  (true, 111, o_il 2),
  (true, 112, o_ic 3),
  (true, 113, o_ii (fun x y => x + y)),
  (true, 114, o_il 5),
  (true, 116, o_ii (fun x y => x + y)),
  (true, 117, o_cv zi_X6_doneAt 1 6),
  (true, 120, o_ic (-1)),
  (true, 121, o_cmp (fun x y => x = y) 151),
  (true, 124, o_al 0),
  (true, 125, o_gf 6 7),
  (true, 128, o_ic 3),
  (true, 129, o_il 1),
  (true, 130, o_ii (fun x y => x * y)),
  (true, 131, o_il 5),
  (true, 133, o_ii (fun x y => x + y)),
  (true, 134, o_al 0),
  (true, 135, o_il 2),
  (true, 136, o_ic 3),
  (true, 137, o_ii (fun x y => x + y)),
  (true, 138, o_il 5),
  (true, 140, o_ii (fun x y => x + y)),
  (true, 141, o_cv zi_X6_doneAt 1 6),
  (true, 144, o_iw),
  (true, 145, o_inc 5 1),
  (true, 148, o_gb 104 [4]),
  (true, 151, o_al 0),
  (true, 152, o_gf 6 3),
  (true, 155, o_il 1),
  (true, 156, o_il 3),
  (true, 157, o_ic 46),
  (true, 159, o_cn (fun x y => x = y) 166),
  (true, 162, o_ic (-1)),
  (true, 163, o_go 170),
  (true, 166, o_il 3),
  (true, 167, o_ic 97),
  (true, 169, o_ii (fun x y => x - y)),
  (true, 170, o_iw),
  (true, 171, o_al 0),
  (true, 172, o_gf 6 4),
  (true, 175, o_il 1),
  (true, 176, o_al 0),
  (true, 177, o_il 2),
  (true, 178, o_ic 1),
  (true, 179, o_ii (fun x y => x + y)),
  (true, 180, o_cv zi_X6_byteAt 1 6),
  (true, 183, o_ic 97),
  (true, 185, o_ii (fun x y => x - y)),
  (true, 186, o_iw),
  (true, 187, o_al 0),
  (true, 188, o_gf 6 5),
  (true, 191, o_il 1),
  (true, 192, o_al 0),
  (true, 193, o_il 2),
  (true, 194, o_ic 2),
  (true, 195, o_ii (fun x y => x + y)),
  (true, 196, o_cv zi_X6_byteAt 1 6),
  (true, 199, o_ic 48),
  (true, 201, o_ii (fun x y => x - y)),
  (true, 202, o_iw),
  (true, 203, o_al 0),
  (true, 204, o_gf 6 6),
  (true, 207, o_il 1),
  (true, 208, o_il 5),
  (true, 210, o_iw),
  (true, 211, o_ic 3),
  (true, 212, o_il 5),
  (true, 214, o_ii (fun x y => x + y)),
  (true, 215, o_ir)]
set_option maxRecDepth 100000 in
set_option maxHeartbeats 4000000 in
theorem zk_X6_readsHouse (kc ks : Nat) : z_OK (zS RX6 cX6_readsHouse 6 "readsHouse" (some .int) 2 43 kc ks) zp_X6_readsHouse := by
  unfold zp_X6_readsHouse
  refine And.intro (s_aload_n dX6_readsHouse_0 rfl) ?_
  refine And.intro (s_iload_n dX6_readsHouse_1 rfl) ?_
  refine And.intro (s_callV (C := RX6) (T := TX6) (N := 41) rfl zf_X6_byteAt zg_X6_byteAt zl_950 ⟨rfl, rfl⟩ dX6_readsHouse_2) ?_
  refine And.intro (s_istore_n dX6_readsHouse_5 rfl) ?_
  refine And.intro (s_iload_n dX6_readsHouse_6 rfl) ?_
  refine And.intro (s_bipush dX6_readsHouse_7 (by decide)) ?_
  refine And.intro (s_icmp_eq dX6_readsHouse_9 (by decide)) ?_
  refine And.intro (s_iload_n dX6_readsHouse_12 rfl) ?_
  refine And.intro (s_bipush dX6_readsHouse_13 (by decide)) ?_
  refine And.intro (s_bipush dX6_readsHouse_15 (by decide)) ?_
  refine And.intro (s_iload_n dX6_readsHouse_17 rfl) ?_
  refine And.intro (s_iadd dX6_readsHouse_18) ?_
  refine And.intro (s_iconst dX6_readsHouse_19 (by decide)) ?_
  refine And.intro (s_isub dX6_readsHouse_20) ?_
  refine And.intro (s_callS zf_X6_in zl_924 zl_923 ⟨rfl, rfl⟩ dX6_readsHouse_21) ?_
  refine And.intro (s_if_eq dX6_readsHouse_24 (by decide)) ?_
  refine And.intro (s_iconst dX6_readsHouse_27 (by decide)) ?_
  refine And.intro (s_goto dX6_readsHouse_28 (by decide)) ?_
  refine And.intro (s_iconst dX6_readsHouse_31 (by decide)) ?_
  refine And.intro (s_istore dX6_readsHouse_32) ?_
  refine And.intro (s_iload_n dX6_readsHouse_34 rfl) ?_
  refine And.intro (s_bipush dX6_readsHouse_35 (by decide)) ?_
  refine And.intro (s_icmp_eq dX6_readsHouse_37 (by decide)) ?_
  refine And.intro (s_iload dX6_readsHouse_40) ?_
  refine And.intro (s_if_ne dX6_readsHouse_42 (by decide)) ?_
  refine And.intro (s_iconst dX6_readsHouse_45 (by decide)) ?_
  refine And.intro (s_ireturn rfl (fun _ => rfl) dX6_readsHouse_46) ?_
  refine And.intro (s_aload_n dX6_readsHouse_47 rfl) ?_
  refine And.intro (s_iload_n dX6_readsHouse_48 rfl) ?_
  refine And.intro (s_iconst dX6_readsHouse_49 (by decide)) ?_
  refine And.intro (s_iadd dX6_readsHouse_50) ?_
  refine And.intro (s_callV (C := RX6) (T := TX6) (N := 41) rfl zf_X6_byteAt zg_X6_byteAt zl_950 ⟨rfl, rfl⟩ dX6_readsHouse_51) ?_
  refine And.intro (s_bipush dX6_readsHouse_54 (by decide)) ?_
  refine And.intro (s_bipush dX6_readsHouse_56 (by decide)) ?_
  refine And.intro (s_callS zf_X6_in zl_924 zl_923 ⟨rfl, rfl⟩ dX6_readsHouse_58) ?_
  refine And.intro (s_if_ne dX6_readsHouse_61 (by decide)) ?_
  refine And.intro (s_bipush dX6_readsHouse_64 (by decide)) ?_
  refine And.intro (s_ireturn rfl (fun _ => rfl) dX6_readsHouse_66) ?_
  refine And.intro (s_aload_n dX6_readsHouse_67 rfl) ?_
  refine And.intro (s_iload_n dX6_readsHouse_68 rfl) ?_
  refine And.intro (s_iconst dX6_readsHouse_69 (by decide)) ?_
  refine And.intro (s_iadd dX6_readsHouse_70) ?_
  refine And.intro (s_callV (C := RX6) (T := TX6) (N := 41) rfl zf_X6_byteAt zg_X6_byteAt zl_950 ⟨rfl, rfl⟩ dX6_readsHouse_71) ?_
  refine And.intro (s_bipush dX6_readsHouse_74 (by decide)) ?_
  refine And.intro (s_bipush dX6_readsHouse_76 (by decide)) ?_
  refine And.intro (s_callS zf_X6_in zl_924 zl_923 ⟨rfl, rfl⟩ dX6_readsHouse_78) ?_
  refine And.intro (s_if_ne dX6_readsHouse_81 (by decide)) ?_
  refine And.intro (s_bipush dX6_readsHouse_84 (by decide)) ?_
  refine And.intro (s_ireturn rfl (fun _ => rfl) dX6_readsHouse_86) ?_
  refine And.intro (s_aload_n dX6_readsHouse_87 rfl) ?_
  refine And.intro (s_iload_n dX6_readsHouse_88 rfl) ?_
  refine And.intro (s_iconst dX6_readsHouse_89 (by decide)) ?_
  refine And.intro (s_iadd dX6_readsHouse_90) ?_
  refine And.intro (s_callV (C := RX6) (T := TX6) (N := 41) rfl zf_X6_doneAt zg_X6_doneAt zl_954 ⟨rfl, rfl⟩ dX6_readsHouse_91) ?_
  refine And.intro (s_iconst dX6_readsHouse_94 (by decide)) ?_
  refine And.intro (s_icmp_ne dX6_readsHouse_95 (by decide)) ?_
  refine And.intro (s_bipush dX6_readsHouse_98 (by decide)) ?_
  refine And.intro (s_ireturn rfl (fun _ => rfl) dX6_readsHouse_100) ?_
  refine And.intro (s_iconst dX6_readsHouse_101 (by decide)) ?_
  refine And.intro (s_istore dX6_readsHouse_102) ?_
  refine And.intro (s_mark) ?_
  refine And.intro (s_iload dX6_readsHouse_104) ?_
  refine And.intro (s_iconst dX6_readsHouse_106 (by decide)) ?_
  refine And.intro (s_icmp_ge dX6_readsHouse_107 (by decide)) ?_
  refine And.intro (s_aload_n dX6_readsHouse_110 rfl) ?_
  refine And.intro (s_iload_n dX6_readsHouse_111 rfl) ?_
  refine And.intro (s_iconst dX6_readsHouse_112 (by decide)) ?_
  refine And.intro (s_iadd dX6_readsHouse_113) ?_
  refine And.intro (s_iload dX6_readsHouse_114) ?_
  refine And.intro (s_iadd dX6_readsHouse_116) ?_
  refine And.intro (s_callV (C := RX6) (T := TX6) (N := 41) rfl zf_X6_doneAt zg_X6_doneAt zl_954 ⟨rfl, rfl⟩ dX6_readsHouse_117) ?_
  refine And.intro (s_iconst dX6_readsHouse_120 (by decide)) ?_
  refine And.intro (s_icmp_eq dX6_readsHouse_121 (by decide)) ?_
  refine And.intro (s_aload_n dX6_readsHouse_124 rfl) ?_
  refine And.intro (s_getf (C := RX6) (T := TX6) (N := 41) rfl zin_X6 (by decide) zl_798 dX6_readsHouse_125) ?_
  refine And.intro (s_iconst dX6_readsHouse_128 (by decide)) ?_
  refine And.intro (s_iload_n dX6_readsHouse_129 rfl) ?_
  refine And.intro (s_imul dX6_readsHouse_130) ?_
  refine And.intro (s_iload dX6_readsHouse_131) ?_
  refine And.intro (s_iadd dX6_readsHouse_133) ?_
  refine And.intro (s_aload_n dX6_readsHouse_134 rfl) ?_
  refine And.intro (s_iload_n dX6_readsHouse_135 rfl) ?_
  refine And.intro (s_iconst dX6_readsHouse_136 (by decide)) ?_
  refine And.intro (s_iadd dX6_readsHouse_137) ?_
  refine And.intro (s_iload dX6_readsHouse_138) ?_
  refine And.intro (s_iadd dX6_readsHouse_140) ?_
  refine And.intro (s_callV (C := RX6) (T := TX6) (N := 41) rfl zf_X6_doneAt zg_X6_doneAt zl_954 ⟨rfl, rfl⟩ dX6_readsHouse_141) ?_
  refine And.intro (s_iastore dX6_readsHouse_144) ?_
  refine And.intro (s_iinc dX6_readsHouse_145 (by decide)) ?_
  refine And.intro (s_gotob dX6_readsHouse_148 (by decide)) ?_
  refine And.intro (s_aload_n dX6_readsHouse_151 rfl) ?_
  refine And.intro (s_getf (C := RX6) (T := TX6) (N := 41) rfl zin_X6 (by decide) zl_794 dX6_readsHouse_152) ?_
  refine And.intro (s_iload_n dX6_readsHouse_155 rfl) ?_
  refine And.intro (s_iload_n dX6_readsHouse_156 rfl) ?_
  refine And.intro (s_bipush dX6_readsHouse_157 (by decide)) ?_
  refine And.intro (s_icmp_ne dX6_readsHouse_159 (by decide)) ?_
  refine And.intro (s_iconst dX6_readsHouse_162 (by decide)) ?_
  refine And.intro (s_goto dX6_readsHouse_163 (by decide)) ?_
  refine And.intro (s_iload_n dX6_readsHouse_166 rfl) ?_
  refine And.intro (s_bipush dX6_readsHouse_167 (by decide)) ?_
  refine And.intro (s_isub dX6_readsHouse_169) ?_
  refine And.intro (s_iastore dX6_readsHouse_170) ?_
  refine And.intro (s_aload_n dX6_readsHouse_171 rfl) ?_
  refine And.intro (s_getf (C := RX6) (T := TX6) (N := 41) rfl zin_X6 (by decide) zl_795 dX6_readsHouse_172) ?_
  refine And.intro (s_iload_n dX6_readsHouse_175 rfl) ?_
  refine And.intro (s_aload_n dX6_readsHouse_176 rfl) ?_
  refine And.intro (s_iload_n dX6_readsHouse_177 rfl) ?_
  refine And.intro (s_iconst dX6_readsHouse_178 (by decide)) ?_
  refine And.intro (s_iadd dX6_readsHouse_179) ?_
  refine And.intro (s_callV (C := RX6) (T := TX6) (N := 41) rfl zf_X6_byteAt zg_X6_byteAt zl_950 ⟨rfl, rfl⟩ dX6_readsHouse_180) ?_
  refine And.intro (s_bipush dX6_readsHouse_183 (by decide)) ?_
  refine And.intro (s_isub dX6_readsHouse_185) ?_
  refine And.intro (s_iastore dX6_readsHouse_186) ?_
  refine And.intro (s_aload_n dX6_readsHouse_187 rfl) ?_
  refine And.intro (s_getf (C := RX6) (T := TX6) (N := 41) rfl zin_X6 (by decide) zl_796 dX6_readsHouse_188) ?_
  refine And.intro (s_iload_n dX6_readsHouse_191 rfl) ?_
  refine And.intro (s_aload_n dX6_readsHouse_192 rfl) ?_
  refine And.intro (s_iload_n dX6_readsHouse_193 rfl) ?_
  refine And.intro (s_iconst dX6_readsHouse_194 (by decide)) ?_
  refine And.intro (s_iadd dX6_readsHouse_195) ?_
  refine And.intro (s_callV (C := RX6) (T := TX6) (N := 41) rfl zf_X6_byteAt zg_X6_byteAt zl_950 ⟨rfl, rfl⟩ dX6_readsHouse_196) ?_
  refine And.intro (s_bipush dX6_readsHouse_199 (by decide)) ?_
  refine And.intro (s_isub dX6_readsHouse_201) ?_
  refine And.intro (s_iastore dX6_readsHouse_202) ?_
  refine And.intro (s_aload_n dX6_readsHouse_203 rfl) ?_
  refine And.intro (s_getf (C := RX6) (T := TX6) (N := 41) rfl zin_X6 (by decide) zl_797 dX6_readsHouse_204) ?_
  refine And.intro (s_iload_n dX6_readsHouse_207 rfl) ?_
  refine And.intro (s_iload dX6_readsHouse_208) ?_
  refine And.intro (s_iastore dX6_readsHouse_210) ?_
  refine And.intro (s_iconst dX6_readsHouse_211 (by decide)) ?_
  refine And.intro (s_iload dX6_readsHouse_212) ?_
  refine And.intro (s_iadd dX6_readsHouse_214) ?_
  refine And.intro (s_ireturn rfl (fun _ => rfl) dX6_readsHouse_215) ?_
  exact trivial
def zp_X6_readsHouses : List (Bool × Nat × zOp) := [
  (true, 0, o_ic 0),
  (true, 1, o_is 1),
  (true, 2, o_ic 0),
  (true, 3, o_is 2),
  (true, 4, o_al 0),
  (true, 5, o_ic 0),
  (true, 6, o_pi 6 2),
  (false, 9, o_mark 9 [3]),
  (true, 9, o_il 2),
  (true, 10, o_al 0),
  (true, 11, o_gf 6 0),
  (true, 14, o_ic 0),
  (true, 15, o_ia),
  (true, 16, o_cmp (fun x y => x < y) 23),
  (true, 19, o_il 2),
  (true, 20, o_if (fun x => x ≤ 0) 82),
  (true, 23, o_al 0),
  (true, 24, o_il 1),
  (true, 25, o_il 2),
  (true, 26, o_cv zi_X6_readsHouse 2 6),
  (true, 29, o_is 3),
  (true, 30, o_il 3),
  (true, 31, o_if (fun x => 0 ≤ x) 40),
  (true, 34, o_il 2),
  (true, 35, o_il 3),
  (true, 36, o_ii (fun x y => x - y)),
  (true, 37, o_ic 1),
  (true, 38, o_ii (fun x y => x - y)),
  (true, 39, o_ir),
  (true, 40, o_inc 1 1),
  (true, 43, o_il 2),
  (true, 44, o_il 3),
  (true, 45, o_ii (fun x y => x + y)),
  (true, 46, o_is 2),
  (true, 47, o_il 2),
  (true, 48, o_al 0),
  (true, 49, o_gf 6 0),
  (true, 52, o_ic 0),
  (true, 53, o_ia),
  (true, 54, o_cn (fun x y => x = y) 64),
  (true, 57, o_al 0),
  (true, 58, o_il 1),
  (true, 59, o_pi 6 2),
  (true, 62, o_ic (-1)),
  (true, 63, o_ir),
  (true, 64, o_al 0),
  (true, 65, o_il 2),
  (true, 66, o_cv zi_X6_byteAt 1 6),
  (true, 69, o_ic 59),
  (true, 71, o_cmp (fun x y => x = y) 76),
  (true, 74, o_il 2),
  (true, 75, o_ir),
  (true, 76, o_inc 2 1),
  (true, 79, o_gb 9 [3]),
  (true, 82, o_ic (-1)),
  (true, 83, o_ir)]
set_option maxRecDepth 100000 in
set_option maxHeartbeats 4000000 in
theorem zk_X6_readsHouses (kc ks : Nat) : z_OK (zS RX6 cX6_readsHouses 4 "readsHouses" (some .int) 3 68 kc ks) zp_X6_readsHouses := by
  unfold zp_X6_readsHouses
  refine And.intro (s_iconst dX6_readsHouses_0 (by decide)) ?_
  refine And.intro (s_istore_n dX6_readsHouses_1 rfl) ?_
  refine And.intro (s_iconst dX6_readsHouses_2 (by decide)) ?_
  refine And.intro (s_istore_n dX6_readsHouses_3 rfl) ?_
  refine And.intro (s_aload_n dX6_readsHouses_4 rfl) ?_
  refine And.intro (s_iconst dX6_readsHouses_5 (by decide)) ?_
  refine And.intro (s_putI (C := RX6) (T := TX6) (N := 41) rfl zin_X6 (by decide) tyX6 tyX6_ok nmX6 zl_793 rfl (by decide +kernel) dX6_readsHouses_6) ?_
  refine And.intro (s_mark) ?_
  refine And.intro (s_iload_n dX6_readsHouses_9 rfl) ?_
  refine And.intro (s_aload_n dX6_readsHouses_10 rfl) ?_
  refine And.intro (s_getf (C := RX6) (T := TX6) (N := 41) rfl zin_X6 (by decide) zl_791 dX6_readsHouses_11) ?_
  refine And.intro (s_iconst dX6_readsHouses_14 (by decide)) ?_
  refine And.intro (s_iaload dX6_readsHouses_15) ?_
  refine And.intro (s_icmp_lt dX6_readsHouses_16 (by decide)) ?_
  refine And.intro (s_iload_n dX6_readsHouses_19 rfl) ?_
  refine And.intro (s_if_le dX6_readsHouses_20 (by decide)) ?_
  refine And.intro (s_aload_n dX6_readsHouses_23 rfl) ?_
  refine And.intro (s_iload_n dX6_readsHouses_24 rfl) ?_
  refine And.intro (s_iload_n dX6_readsHouses_25 rfl) ?_
  refine And.intro (s_callV (C := RX6) (T := TX6) (N := 41) rfl zf_X6_readsHouse zg_X6_readsHouse zl_946 ⟨rfl, rfl⟩ dX6_readsHouses_26) ?_
  refine And.intro (s_istore_n dX6_readsHouses_29 rfl) ?_
  refine And.intro (s_iload_n dX6_readsHouses_30 rfl) ?_
  refine And.intro (s_if_ge dX6_readsHouses_31 (by decide)) ?_
  refine And.intro (s_iload_n dX6_readsHouses_34 rfl) ?_
  refine And.intro (s_iload_n dX6_readsHouses_35 rfl) ?_
  refine And.intro (s_isub dX6_readsHouses_36) ?_
  refine And.intro (s_iconst dX6_readsHouses_37 (by decide)) ?_
  refine And.intro (s_isub dX6_readsHouses_38) ?_
  refine And.intro (s_ireturn rfl (fun _ => rfl) dX6_readsHouses_39) ?_
  refine And.intro (s_iinc dX6_readsHouses_40 (by decide)) ?_
  refine And.intro (s_iload_n dX6_readsHouses_43 rfl) ?_
  refine And.intro (s_iload_n dX6_readsHouses_44 rfl) ?_
  refine And.intro (s_iadd dX6_readsHouses_45) ?_
  refine And.intro (s_istore_n dX6_readsHouses_46 rfl) ?_
  refine And.intro (s_iload_n dX6_readsHouses_47 rfl) ?_
  refine And.intro (s_aload_n dX6_readsHouses_48 rfl) ?_
  refine And.intro (s_getf (C := RX6) (T := TX6) (N := 41) rfl zin_X6 (by decide) zl_791 dX6_readsHouses_49) ?_
  refine And.intro (s_iconst dX6_readsHouses_52 (by decide)) ?_
  refine And.intro (s_iaload dX6_readsHouses_53) ?_
  refine And.intro (s_icmp_ne dX6_readsHouses_54 (by decide)) ?_
  refine And.intro (s_aload_n dX6_readsHouses_57 rfl) ?_
  refine And.intro (s_iload_n dX6_readsHouses_58 rfl) ?_
  refine And.intro (s_putI (C := RX6) (T := TX6) (N := 41) rfl zin_X6 (by decide) tyX6 tyX6_ok nmX6 zl_793 rfl (by decide +kernel) dX6_readsHouses_59) ?_
  refine And.intro (s_iconst dX6_readsHouses_62 (by decide)) ?_
  refine And.intro (s_ireturn rfl (fun _ => rfl) dX6_readsHouses_63) ?_
  refine And.intro (s_aload_n dX6_readsHouses_64 rfl) ?_
  refine And.intro (s_iload_n dX6_readsHouses_65 rfl) ?_
  refine And.intro (s_callV (C := RX6) (T := TX6) (N := 41) rfl zf_X6_byteAt zg_X6_byteAt zl_950 ⟨rfl, rfl⟩ dX6_readsHouses_66) ?_
  refine And.intro (s_bipush dX6_readsHouses_69 (by decide)) ?_
  refine And.intro (s_icmp_eq dX6_readsHouses_71 (by decide)) ?_
  refine And.intro (s_iload_n dX6_readsHouses_74 rfl) ?_
  refine And.intro (s_ireturn rfl (fun _ => rfl) dX6_readsHouses_75) ?_
  refine And.intro (s_iinc dX6_readsHouses_76 (by decide)) ?_
  refine And.intro (s_gotob dX6_readsHouses_79 (by decide)) ?_
  refine And.intro (s_iconst dX6_readsHouses_82 (by decide)) ?_
  refine And.intro (s_ireturn rfl (fun _ => rfl) dX6_readsHouses_83) ?_
  exact trivial
def zp_X6_faultOf : List (Bool × Nat × zOp) := [
  (true, 0, o_al 0),
  (true, 1, o_cv zi_X6_readsHouses 0 6),
  (true, 4, o_is 2),
  (true, 5, o_al 0),
  (true, 6, o_cv zi_X6_readsElbows 0 6),
  (true, 9, o_is 3),
  (true, 10, o_il 1),
  (true, 11, o_in (fun x => x = 0) 18),
  (true, 14, o_il 2),
  (true, 15, o_go 19),
  (true, 18, o_il 3),
  (true, 19, o_ir)]
set_option maxRecDepth 100000 in
set_option maxHeartbeats 4000000 in
theorem zk_X6_faultOf (kc ks : Nat) : z_OK (zS RX6 cX6_faultOf 4 "faultOf" (some .int) 4 91 kc ks) zp_X6_faultOf := by
  unfold zp_X6_faultOf
  refine And.intro (s_aload_n dX6_faultOf_0 rfl) ?_
  refine And.intro (s_callV (C := RX6) (T := TX6) (N := 41) rfl zf_X6_readsHouses zg_X6_readsHouses zl_942 ⟨rfl, rfl⟩ dX6_faultOf_1) ?_
  refine And.intro (s_istore_n dX6_faultOf_4 rfl) ?_
  refine And.intro (s_aload_n dX6_faultOf_5 rfl) ?_
  refine And.intro (s_callV (C := RX6) (T := TX6) (N := 41) rfl zf_X6_readsElbows zg_X6_readsElbows zl_958 ⟨rfl, rfl⟩ dX6_faultOf_6) ?_
  refine And.intro (s_istore_n dX6_faultOf_9 rfl) ?_
  refine And.intro (s_iload_n dX6_faultOf_10 rfl) ?_
  refine And.intro (s_if_ne dX6_faultOf_11 (by decide)) ?_
  refine And.intro (s_iload_n dX6_faultOf_14 rfl) ?_
  refine And.intro (s_goto dX6_faultOf_15 (by decide)) ?_
  refine And.intro (s_iload_n dX6_faultOf_18 rfl) ?_
  refine And.intro (s_ireturn rfl (fun _ => rfl) dX6_faultOf_19) ?_
  exact trivial
def zp_X6_reads : List (Bool × Nat × zOp) := [
  (true, 0, o_al 0),
  (true, 1, o_ic 0),
  (true, 2, o_cv zi_X6_faultOf 1 6),
  (true, 5, o_is 1),
  (true, 6, o_vr)]
set_option maxRecDepth 100000 in
set_option maxHeartbeats 4000000 in
theorem zk_X6_reads (kc ks : Nat) : z_OK (zS RX6 cX6_reads 2 "reads" none 5 114 kc ks) zp_X6_reads := by
  unfold zp_X6_reads
  refine And.intro (s_aload_n dX6_reads_0 rfl) ?_
  refine And.intro (s_iconst dX6_reads_1 (by decide)) ?_
  refine And.intro (s_callV (C := RX6) (T := TX6) (N := 41) rfl zf_X6_faultOf zg_X6_faultOf zl_938 ⟨rfl, rfl⟩ dX6_reads_2) ?_
  refine And.intro (s_istore_n dX6_reads_5 rfl) ?_
  refine And.intro (s_vreturn rfl dX6_reads_6) ?_
  exact trivial
def zp_X6_asTold : List (Bool × Nat × zOp) := [
  (true, 0, o_al 0),
  (true, 1, o_cv zi_X6_reads 0 6),
  (true, 4, o_ic 0),
  (true, 5, o_is 1),
  (false, 6, o_mark 6 []),
  (true, 6, o_il 1),
  (true, 7, o_ic 40),
  (true, 9, o_cmp (fun x y => y ≤ x) 30),
  (true, 12, o_al 0),
  (true, 13, o_gf 6 18),
  (true, 16, o_il 1),
  (true, 17, o_al 0),
  (true, 18, o_gf 6 9),
  (true, 21, o_il 1),
  (true, 22, o_ia),
  (true, 23, o_iw),
  (true, 24, o_inc 1 1),
  (true, 27, o_gb 6 []),
  (true, 30, o_al 0),
  (true, 31, o_ic 0),
  (true, 32, o_pi 6 19),
  (true, 35, o_al 0),
  (true, 36, o_ic 0),
  (true, 37, o_pi 6 20),
  (true, 40, o_al 0),
  (true, 41, o_ic (-1)),
  (true, 42, o_pi 6 21),
  (true, 45, o_al 0),
  (true, 46, o_al 0),
  (true, 47, o_gf 6 10),
  (true, 50, o_ic 0),
  (true, 51, o_ia),
  (true, 52, o_pi 6 22),
  (true, 55, o_vr)]
set_option maxRecDepth 100000 in
set_option maxHeartbeats 4000000 in
theorem zk_X6_asTold (kc ks : Nat) : z_OK (zS RX6 cX6_asTold 2 "asTold" none 6 135 kc ks) zp_X6_asTold := by
  unfold zp_X6_asTold
  refine And.intro (s_aload_n dX6_asTold_0 rfl) ?_
  refine And.intro (s_callV (C := RX6) (T := TX6) (N := 41) rfl zf_X6_reads zg_X6_reads zl_970 ⟨rfl, rfl⟩ dX6_asTold_1) ?_
  refine And.intro (s_iconst dX6_asTold_4 (by decide)) ?_
  refine And.intro (s_istore_n dX6_asTold_5 rfl) ?_
  refine And.intro (s_mark) ?_
  refine And.intro (s_iload_n dX6_asTold_6 rfl) ?_
  refine And.intro (s_bipush dX6_asTold_7 (by decide)) ?_
  refine And.intro (s_icmp_ge dX6_asTold_9 (by decide)) ?_
  refine And.intro (s_aload_n dX6_asTold_12 rfl) ?_
  refine And.intro (s_getf (C := RX6) (T := TX6) (N := 41) rfl zin_X6 (by decide) zl_809 dX6_asTold_13) ?_
  refine And.intro (s_iload_n dX6_asTold_16 rfl) ?_
  refine And.intro (s_aload_n dX6_asTold_17 rfl) ?_
  refine And.intro (s_getf (C := RX6) (T := TX6) (N := 41) rfl zin_X6 (by decide) zl_800 dX6_asTold_18) ?_
  refine And.intro (s_iload_n dX6_asTold_21 rfl) ?_
  refine And.intro (s_iaload dX6_asTold_22) ?_
  refine And.intro (s_iastore dX6_asTold_23) ?_
  refine And.intro (s_iinc dX6_asTold_24 (by decide)) ?_
  refine And.intro (s_gotob dX6_asTold_27 (by decide)) ?_
  refine And.intro (s_aload_n dX6_asTold_30 rfl) ?_
  refine And.intro (s_iconst dX6_asTold_31 (by decide)) ?_
  refine And.intro (s_putI (C := RX6) (T := TX6) (N := 41) rfl zin_X6 (by decide) tyX6 tyX6_ok nmX6 zl_810 rfl (by decide +kernel) dX6_asTold_32) ?_
  refine And.intro (s_aload_n dX6_asTold_35 rfl) ?_
  refine And.intro (s_iconst dX6_asTold_36 (by decide)) ?_
  refine And.intro (s_putI (C := RX6) (T := TX6) (N := 41) rfl zin_X6 (by decide) tyX6 tyX6_ok nmX6 zl_811 rfl (by decide +kernel) dX6_asTold_37) ?_
  refine And.intro (s_aload_n dX6_asTold_40 rfl) ?_
  refine And.intro (s_iconst dX6_asTold_41 (by decide)) ?_
  refine And.intro (s_putI (C := RX6) (T := TX6) (N := 41) rfl zin_X6 (by decide) tyX6 tyX6_ok nmX6 zl_812 rfl (by decide +kernel) dX6_asTold_42) ?_
  refine And.intro (s_aload_n dX6_asTold_45 rfl) ?_
  refine And.intro (s_aload_n dX6_asTold_46 rfl) ?_
  refine And.intro (s_getf (C := RX6) (T := TX6) (N := 41) rfl zin_X6 (by decide) zl_801 dX6_asTold_47) ?_
  refine And.intro (s_iconst dX6_asTold_50 (by decide)) ?_
  refine And.intro (s_iaload dX6_asTold_51) ?_
  refine And.intro (s_putI (C := RX6) (T := TX6) (N := 41) rfl zin_X6 (by decide) tyX6 tyX6_ok nmX6 zl_813 rfl (by decide +kernel) dX6_asTold_52) ?_
  refine And.intro (s_vreturn rfl dX6_asTold_55) ?_
  exact trivial
def zp_X6_doneIn : List (Bool × Nat × zOp) := [
  (true, 0, o_al 0),
  (true, 1, o_gf 6 7),
  (true, 4, o_ic 3),
  (true, 5, o_il 1),
  (true, 6, o_ii (fun x y => x * y)),
  (true, 7, o_il 2),
  (true, 8, o_al 0),
  (true, 9, o_gf 6 6),
  (true, 12, o_il 1),
  (true, 13, o_ia),
  (true, 14, o_iz (fun x y => x - x / y * y)),
  (true, 15, o_ii (fun x y => x + y)),
  (true, 16, o_ia),
  (true, 17, o_ir)]
set_option maxRecDepth 100000 in
set_option maxHeartbeats 4000000 in
theorem zk_X6_doneIn (kc ks : Nat) : z_OK (zS RX6 cX6_doneIn 3 "doneIn" (some .int) 0 0 kc ks) zp_X6_doneIn := by
  unfold zp_X6_doneIn
  refine And.intro (s_aload_n dX6_doneIn_0 rfl) ?_
  refine And.intro (s_getf (C := RX6) (T := TX6) (N := 41) rfl zin_X6 (by decide) zl_798 dX6_doneIn_1) ?_
  refine And.intro (s_iconst dX6_doneIn_4 (by decide)) ?_
  refine And.intro (s_iload_n dX6_doneIn_5 rfl) ?_
  refine And.intro (s_imul dX6_doneIn_6) ?_
  refine And.intro (s_iload_n dX6_doneIn_7 rfl) ?_
  refine And.intro (s_aload_n dX6_doneIn_8 rfl) ?_
  refine And.intro (s_getf (C := RX6) (T := TX6) (N := 41) rfl zin_X6 (by decide) zl_797 dX6_doneIn_9) ?_
  refine And.intro (s_iload_n dX6_doneIn_12 rfl) ?_
  refine And.intro (s_iaload dX6_doneIn_13) ?_
  refine And.intro (s_irem dX6_doneIn_14) ?_
  refine And.intro (s_iadd dX6_doneIn_15) ?_
  refine And.intro (s_iaload dX6_doneIn_16) ?_
  refine And.intro (s_ireturn rfl (fun _ => rfl) dX6_doneIn_17) ?_
  exact trivial
def zp_X6_needs : List (Bool × Nat × zOp) := [
  (true, 0, o_ic 1),
  (true, 1, o_al 0),
  (true, 2, o_il 1),
  (true, 3, o_il 2),
  (true, 4, o_cv zi_X6_doneIn 2 6),
  (true, 7, o_ii (fun x y => x <<< (y &&& 31))),
  (true, 8, o_ir)]
set_option maxRecDepth 100000 in
set_option maxHeartbeats 4000000 in
theorem zk_X6_needs (kc ks : Nat) : z_OK (zS RX6 cX6_needs 3 "needs" (some .int) 1 22 kc ks) zp_X6_needs := by
  unfold zp_X6_needs
  refine And.intro (s_iconst dX6_needs_0 (by decide)) ?_
  refine And.intro (s_aload_n dX6_needs_1 rfl) ?_
  refine And.intro (s_iload_n dX6_needs_2 rfl) ?_
  refine And.intro (s_iload_n dX6_needs_3 rfl) ?_
  refine And.intro (s_callV (C := RX6) (T := TX6) (N := 41) rfl zf_X6_doneIn zg_X6_doneIn zl_1060 ⟨rfl, rfl⟩ dX6_needs_4) ?_
  refine And.intro (s_ishl dX6_needs_7) ?_
  refine And.intro (s_ireturn rfl (fun _ => rfl) dX6_needs_8) ?_
  exact trivial
def zp_X6_gets : List (Bool × Nat × zOp) := [
  (true, 0, o_al 0),
  (true, 1, o_il 1),
  (true, 2, o_il 2),
  (true, 3, o_cv zi_X6_needs 2 6),
  (true, 6, o_is 3),
  (true, 7, o_al 0),
  (true, 8, o_gf 6 23),
  (true, 11, o_il 3),
  (true, 12, o_cmp (fun x y => y ≤ x) 22),
  (true, 15, o_al 0),
  (true, 16, o_gf 6 23),
  (true, 19, o_go 23),
  (true, 22, o_il 3),
  (true, 23, o_is 3),
  (true, 24, o_il 1),
  (true, 25, o_is 4),
  (false, 27, o_mark 27 [2]),
  (true, 27, o_il 4),
  (true, 29, o_ic (-1)),
  (true, 30, o_cmp (fun x y => x = y) 68),
  (true, 33, o_al 0),
  (true, 34, o_gf 6 24),
  (true, 37, o_il 4),
  (true, 39, o_ia),
  (true, 40, o_il 3),
  (true, 41, o_cmp (fun x y => y ≤ x) 54),
  (true, 44, o_al 0),
  (true, 45, o_gf 6 24),
  (true, 48, o_il 4),
  (true, 50, o_ia),
  (true, 51, o_go 55),
  (true, 54, o_il 3),
  (true, 55, o_is 3),
  (true, 56, o_al 0),
  (true, 57, o_gf 6 3),
  (true, 60, o_il 4),
  (true, 62, o_ia),
  (true, 63, o_is 4),
  (true, 65, o_gb 27 [2]),
  (true, 68, o_il 1),
  (true, 69, o_is 4),
  (false, 71, o_mark 71 [1, 2]),
  (true, 71, o_il 4),
  (true, 73, o_ic (-1)),
  (true, 74, o_cmp (fun x y => x = y) 100),
  (true, 77, o_al 0),
  (true, 78, o_gf 6 24),
  (true, 81, o_il 4),
  (true, 83, o_dup2),
  (true, 84, o_ia),
  (true, 85, o_il 3),
  (true, 86, o_ii (fun x y => x - y)),
  (true, 87, o_iw),
  (true, 88, o_al 0),
  (true, 89, o_gf 6 3),
  (true, 92, o_il 4),
  (true, 94, o_ia),
  (true, 95, o_is 4),
  (true, 97, o_gb 71 [1, 2]),
  (true, 100, o_al 0),
  (true, 101, o_dup),
  (true, 102, o_gf 6 23),
  (true, 105, o_il 3),
  (true, 106, o_ii (fun x y => x - y)),
  (true, 107, o_pi 6 23),
  (true, 110, o_il 3),
  (true, 111, o_ir)]
set_option maxRecDepth 100000 in
set_option maxHeartbeats 4000000 in
theorem zk_X6_gets (kc ks : Nat) : z_OK (zS RX6 cX6_gets 5 "gets" (some .int) 2 44 kc ks) zp_X6_gets := by
  unfold zp_X6_gets
  refine And.intro (s_aload_n dX6_gets_0 rfl) ?_
  refine And.intro (s_iload_n dX6_gets_1 rfl) ?_
  refine And.intro (s_iload_n dX6_gets_2 rfl) ?_
  refine And.intro (s_callV (C := RX6) (T := TX6) (N := 41) rfl zf_X6_needs zg_X6_needs zl_1056 ⟨rfl, rfl⟩ dX6_gets_3) ?_
  refine And.intro (s_istore_n dX6_gets_6 rfl) ?_
  refine And.intro (s_aload_n dX6_gets_7 rfl) ?_
  refine And.intro (s_getf (C := RX6) (T := TX6) (N := 41) rfl zin_X6 (by decide) zl_814 dX6_gets_8) ?_
  refine And.intro (s_iload_n dX6_gets_11 rfl) ?_
  refine And.intro (s_icmp_ge dX6_gets_12 (by decide)) ?_
  refine And.intro (s_aload_n dX6_gets_15 rfl) ?_
  refine And.intro (s_getf (C := RX6) (T := TX6) (N := 41) rfl zin_X6 (by decide) zl_814 dX6_gets_16) ?_
  refine And.intro (s_goto dX6_gets_19 (by decide)) ?_
  refine And.intro (s_iload_n dX6_gets_22 rfl) ?_
  refine And.intro (s_istore_n dX6_gets_23 rfl) ?_
  refine And.intro (s_iload_n dX6_gets_24 rfl) ?_
  refine And.intro (s_istore dX6_gets_25) ?_
  refine And.intro (s_mark) ?_
  refine And.intro (s_iload dX6_gets_27) ?_
  refine And.intro (s_iconst dX6_gets_29 (by decide)) ?_
  refine And.intro (s_icmp_eq dX6_gets_30 (by decide)) ?_
  refine And.intro (s_aload_n dX6_gets_33 rfl) ?_
  refine And.intro (s_getf (C := RX6) (T := TX6) (N := 41) rfl zin_X6 (by decide) zl_815 dX6_gets_34) ?_
  refine And.intro (s_iload dX6_gets_37) ?_
  refine And.intro (s_iaload dX6_gets_39) ?_
  refine And.intro (s_iload_n dX6_gets_40 rfl) ?_
  refine And.intro (s_icmp_ge dX6_gets_41 (by decide)) ?_
  refine And.intro (s_aload_n dX6_gets_44 rfl) ?_
  refine And.intro (s_getf (C := RX6) (T := TX6) (N := 41) rfl zin_X6 (by decide) zl_815 dX6_gets_45) ?_
  refine And.intro (s_iload dX6_gets_48) ?_
  refine And.intro (s_iaload dX6_gets_50) ?_
  refine And.intro (s_goto dX6_gets_51 (by decide)) ?_
  refine And.intro (s_iload_n dX6_gets_54 rfl) ?_
  refine And.intro (s_istore_n dX6_gets_55 rfl) ?_
  refine And.intro (s_aload_n dX6_gets_56 rfl) ?_
  refine And.intro (s_getf (C := RX6) (T := TX6) (N := 41) rfl zin_X6 (by decide) zl_794 dX6_gets_57) ?_
  refine And.intro (s_iload dX6_gets_60) ?_
  refine And.intro (s_iaload dX6_gets_62) ?_
  refine And.intro (s_istore dX6_gets_63) ?_
  refine And.intro (s_gotob dX6_gets_65 (by decide)) ?_
  refine And.intro (s_iload_n dX6_gets_68 rfl) ?_
  refine And.intro (s_istore dX6_gets_69) ?_
  refine And.intro (s_mark) ?_
  refine And.intro (s_iload dX6_gets_71) ?_
  refine And.intro (s_iconst dX6_gets_73 (by decide)) ?_
  refine And.intro (s_icmp_eq dX6_gets_74 (by decide)) ?_
  refine And.intro (s_aload_n dX6_gets_77 rfl) ?_
  refine And.intro (s_getf (C := RX6) (T := TX6) (N := 41) rfl zin_X6 (by decide) zl_815 dX6_gets_78) ?_
  refine And.intro (s_iload dX6_gets_81) ?_
  refine And.intro (s_dup2 dX6_gets_83) ?_
  refine And.intro (s_iaload dX6_gets_84) ?_
  refine And.intro (s_iload_n dX6_gets_85 rfl) ?_
  refine And.intro (s_isub dX6_gets_86) ?_
  refine And.intro (s_iastore dX6_gets_87) ?_
  refine And.intro (s_aload_n dX6_gets_88 rfl) ?_
  refine And.intro (s_getf (C := RX6) (T := TX6) (N := 41) rfl zin_X6 (by decide) zl_794 dX6_gets_89) ?_
  refine And.intro (s_iload dX6_gets_92) ?_
  refine And.intro (s_iaload dX6_gets_94) ?_
  refine And.intro (s_istore dX6_gets_95) ?_
  refine And.intro (s_gotob dX6_gets_97 (by decide)) ?_
  refine And.intro (s_aload_n dX6_gets_100 rfl) ?_
  refine And.intro (s_dup dX6_gets_101) ?_
  refine And.intro (s_getf (C := RX6) (T := TX6) (N := 41) rfl zin_X6 (by decide) zl_814 dX6_gets_102) ?_
  refine And.intro (s_iload_n dX6_gets_105 rfl) ?_
  refine And.intro (s_isub dX6_gets_106) ?_
  refine And.intro (s_putI (C := RX6) (T := TX6) (N := 41) rfl zin_X6 (by decide) tyX6 tyX6_ok nmX6 zl_814 rfl (by decide +kernel) dX6_gets_107) ?_
  refine And.intro (s_iload_n dX6_gets_110 rfl) ?_
  refine And.intro (s_ireturn rfl (fun _ => rfl) dX6_gets_111) ?_
  exact trivial
def zp_X6_leaking : List (Bool × Nat × zOp) := [
  (true, 0, o_ic 0),
  (true, 1, o_is 2),
  (true, 2, o_ic 0),
  (true, 3, o_is 3),
  (false, 4, o_mark 4 [4]),
  (true, 4, o_il 3),
  (true, 5, o_al 0),
  (true, 6, o_gf 6 11),
  (true, 9, o_cmp (fun x y => y ≤ x) 89),
  (true, 12, o_il 1),
  (true, 13, o_al 0),
  (true, 14, o_gf 6 12),
  (true, 17, o_il 3),
  (true, 18, o_ia),
  (true, 19, o_cmp (fun x y => x < y) 51),
  (true, 22, o_al 0),
  (true, 23, o_gf 6 14),
  (true, 26, o_il 3),
  (true, 27, o_ia),
  (true, 28, o_al 0),
  (true, 29, o_gf 6 12),
  (true, 32, o_il 3),
  (true, 33, o_ia),
  (true, 34, o_cmp (fun x y => x ≤ y) 47),
  (true, 37, o_il 1),
  (true, 38, o_al 0),
  (true, 39, o_gf 6 14),
  (true, 42, o_il 3),
  (true, 43, o_ia),
  (true, 44, o_cmp (fun x y => y ≤ x) 51),
  (true, 47, o_ic 1),
  (true, 48, o_go 52),
  (true, 51, o_ic 0),
  (true, 52, o_is 4),
  (true, 54, o_il 2),
  (true, 55, o_il 4),
  (true, 57, o_if (fun x => x = 0) 80),
  (true, 60, o_al 0),
  (true, 61, o_gf 6 19),
  (true, 64, o_il 3),
  (true, 65, o_cs zi_X6_isIn 2),
  (true, 68, o_in (fun x => x = 0) 80),
  (true, 71, o_al 0),
  (true, 72, o_gf 6 13),
  (true, 75, o_il 3),
  (true, 76, o_ia),
  (true, 77, o_go 81),
  (true, 80, o_ic 0),
  (true, 81, o_ii (fun x y => x + y)),
  (true, 82, o_is 2),
  (true, 83, o_inc 3 1),
  (true, 86, o_gb 4 [4]),
  (true, 89, o_il 2),
  (true, 90, o_ir)]
set_option maxRecDepth 100000 in
set_option maxHeartbeats 4000000 in
theorem zk_X6_leaking (kc ks : Nat) : z_OK (zS RX6 cX6_leaking 5 "leaking" (some .int) 1 21 kc ks) zp_X6_leaking := by
  unfold zp_X6_leaking
  refine And.intro (s_iconst dX6_leaking_0 (by decide)) ?_
  refine And.intro (s_istore_n dX6_leaking_1 rfl) ?_
  refine And.intro (s_iconst dX6_leaking_2 (by decide)) ?_
  refine And.intro (s_istore_n dX6_leaking_3 rfl) ?_
  refine And.intro (s_mark) ?_
  refine And.intro (s_iload_n dX6_leaking_4 rfl) ?_
  refine And.intro (s_aload_n dX6_leaking_5 rfl) ?_
  refine And.intro (s_getf (C := RX6) (T := TX6) (N := 41) rfl zin_X6 (by decide) zl_802 dX6_leaking_6) ?_
  refine And.intro (s_icmp_ge dX6_leaking_9 (by decide)) ?_
  refine And.intro (s_iload_n dX6_leaking_12 rfl) ?_
  refine And.intro (s_aload_n dX6_leaking_13 rfl) ?_
  refine And.intro (s_getf (C := RX6) (T := TX6) (N := 41) rfl zin_X6 (by decide) zl_803 dX6_leaking_14) ?_
  refine And.intro (s_iload_n dX6_leaking_17 rfl) ?_
  refine And.intro (s_iaload dX6_leaking_18) ?_
  refine And.intro (s_icmp_lt dX6_leaking_19 (by decide)) ?_
  refine And.intro (s_aload_n dX6_leaking_22 rfl) ?_
  refine And.intro (s_getf (C := RX6) (T := TX6) (N := 41) rfl zin_X6 (by decide) zl_805 dX6_leaking_23) ?_
  refine And.intro (s_iload_n dX6_leaking_26 rfl) ?_
  refine And.intro (s_iaload dX6_leaking_27) ?_
  refine And.intro (s_aload_n dX6_leaking_28 rfl) ?_
  refine And.intro (s_getf (C := RX6) (T := TX6) (N := 41) rfl zin_X6 (by decide) zl_803 dX6_leaking_29) ?_
  refine And.intro (s_iload_n dX6_leaking_32 rfl) ?_
  refine And.intro (s_iaload dX6_leaking_33) ?_
  refine And.intro (s_icmp_le dX6_leaking_34 (by decide)) ?_
  refine And.intro (s_iload_n dX6_leaking_37 rfl) ?_
  refine And.intro (s_aload_n dX6_leaking_38 rfl) ?_
  refine And.intro (s_getf (C := RX6) (T := TX6) (N := 41) rfl zin_X6 (by decide) zl_805 dX6_leaking_39) ?_
  refine And.intro (s_iload_n dX6_leaking_42 rfl) ?_
  refine And.intro (s_iaload dX6_leaking_43) ?_
  refine And.intro (s_icmp_ge dX6_leaking_44 (by decide)) ?_
  refine And.intro (s_iconst dX6_leaking_47 (by decide)) ?_
  refine And.intro (s_goto dX6_leaking_48 (by decide)) ?_
  refine And.intro (s_iconst dX6_leaking_51 (by decide)) ?_
  refine And.intro (s_istore dX6_leaking_52) ?_
  refine And.intro (s_iload_n dX6_leaking_54 rfl) ?_
  refine And.intro (s_iload dX6_leaking_55) ?_
  refine And.intro (s_if_eq dX6_leaking_57 (by decide)) ?_
  refine And.intro (s_aload_n dX6_leaking_60 rfl) ?_
  refine And.intro (s_getf (C := RX6) (T := TX6) (N := 41) rfl zin_X6 (by decide) zl_810 dX6_leaking_61) ?_
  refine And.intro (s_iload_n dX6_leaking_64 rfl) ?_
  refine And.intro (s_callS zf_X6_isIn zl_1046 zl_1045 ⟨rfl, rfl⟩ dX6_leaking_65) ?_
  refine And.intro (s_if_ne dX6_leaking_68 (by decide)) ?_
  refine And.intro (s_aload_n dX6_leaking_71 rfl) ?_
  refine And.intro (s_getf (C := RX6) (T := TX6) (N := 41) rfl zin_X6 (by decide) zl_804 dX6_leaking_72) ?_
  refine And.intro (s_iload_n dX6_leaking_75 rfl) ?_
  refine And.intro (s_iaload dX6_leaking_76) ?_
  refine And.intro (s_goto dX6_leaking_77 (by decide)) ?_
  refine And.intro (s_iconst dX6_leaking_80 (by decide)) ?_
  refine And.intro (s_iadd dX6_leaking_81) ?_
  refine And.intro (s_istore_n dX6_leaking_82 rfl) ?_
  refine And.intro (s_iinc dX6_leaking_83 (by decide)) ?_
  refine And.intro (s_gotob dX6_leaking_86 (by decide)) ?_
  refine And.intro (s_iload_n dX6_leaking_89 rfl) ?_
  refine And.intro (s_ireturn rfl (fun _ => rfl) dX6_leaking_90) ?_
  exact trivial
def zp_X6_opens : List (Bool × Nat × zOp) := [
  (true, 0, o_ic 0),
  (true, 1, o_is 2),
  (false, 2, o_mark 2 []),
  (true, 2, o_il 2),
  (true, 3, o_al 0),
  (true, 4, o_gf 6 2),
  (true, 7, o_cmp (fun x y => y ≤ x) 40),
  (true, 10, o_al 0),
  (true, 11, o_gf 6 24),
  (true, 14, o_il 2),
  (true, 15, o_il 2),
  (true, 16, o_al 0),
  (true, 17, o_gf 6 21),
  (true, 20, o_cn (fun x y => x = y) 27),
  (true, 23, o_ic 0),
  (true, 24, o_go 33),
  (true, 27, o_al 0),
  (true, 28, o_gf 6 5),
  (true, 31, o_il 2),
  (true, 32, o_ia),
  (true, 33, o_iw),
  (true, 34, o_inc 2 1),
  (true, 37, o_gb 2 []),
  (true, 40, o_ic 0),
  (true, 41, o_is 2),
  (false, 42, o_mark 42 []),
  (true, 42, o_il 2),
  (true, 43, o_al 0),
  (true, 44, o_gf 6 15),
  (true, 47, o_cmp (fun x y => y ≤ x) 102),
  (true, 50, o_al 0),
  (true, 51, o_gf 6 16),
  (true, 54, o_il 2),
  (true, 55, o_ia),
  (true, 56, o_il 1),
  (true, 57, o_cn (fun x y => x = y) 96),
  (true, 60, o_al 0),
  (true, 61, o_gf 6 17),
  (true, 64, o_il 2),
  (true, 65, o_ia),
  (true, 66, o_al 0),
  (true, 67, o_gf 6 2),
  (true, 70, o_cmp (fun x y => y ≤ x) 96),
  (true, 73, o_al 0),
  (true, 74, o_gf 6 20),
  (true, 77, o_il 2),
  (true, 78, o_cs zi_X6_isIn 2),
  (true, 81, o_in (fun x => x = 0) 96),
  (true, 84, o_al 0),
  (true, 85, o_gf 6 24),
  (true, 88, o_al 0),
  (true, 89, o_gf 6 17),
  (true, 92, o_il 2),
  (true, 93, o_ia),
  (true, 94, o_ic 0),
  (true, 95, o_iw),
  (true, 96, o_inc 2 1),
  (true, 99, o_gb 42 []),
  (true, 102, o_vr)]
set_option maxRecDepth 100000 in
set_option maxHeartbeats 4000000 in
theorem zk_X6_opens (kc ks : Nat) : z_OK (zS RX6 cX6_opens 3 "opens" none 1 21 kc ks) zp_X6_opens := by
  unfold zp_X6_opens
  refine And.intro (s_iconst dX6_opens_0 (by decide)) ?_
  refine And.intro (s_istore_n dX6_opens_1 rfl) ?_
  refine And.intro (s_mark) ?_
  refine And.intro (s_iload_n dX6_opens_2 rfl) ?_
  refine And.intro (s_aload_n dX6_opens_3 rfl) ?_
  refine And.intro (s_getf (C := RX6) (T := TX6) (N := 41) rfl zin_X6 (by decide) zl_793 dX6_opens_4) ?_
  refine And.intro (s_icmp_ge dX6_opens_7 (by decide)) ?_
  refine And.intro (s_aload_n dX6_opens_10 rfl) ?_
  refine And.intro (s_getf (C := RX6) (T := TX6) (N := 41) rfl zin_X6 (by decide) zl_815 dX6_opens_11) ?_
  refine And.intro (s_iload_n dX6_opens_14 rfl) ?_
  refine And.intro (s_iload_n dX6_opens_15 rfl) ?_
  refine And.intro (s_aload_n dX6_opens_16 rfl) ?_
  refine And.intro (s_getf (C := RX6) (T := TX6) (N := 41) rfl zin_X6 (by decide) zl_812 dX6_opens_17) ?_
  refine And.intro (s_icmp_ne dX6_opens_20 (by decide)) ?_
  refine And.intro (s_iconst dX6_opens_23 (by decide)) ?_
  refine And.intro (s_goto dX6_opens_24 (by decide)) ?_
  refine And.intro (s_aload_n dX6_opens_27 rfl) ?_
  refine And.intro (s_getf (C := RX6) (T := TX6) (N := 41) rfl zin_X6 (by decide) zl_796 dX6_opens_28) ?_
  refine And.intro (s_iload_n dX6_opens_31 rfl) ?_
  refine And.intro (s_iaload dX6_opens_32) ?_
  refine And.intro (s_iastore dX6_opens_33) ?_
  refine And.intro (s_iinc dX6_opens_34 (by decide)) ?_
  refine And.intro (s_gotob dX6_opens_37 (by decide)) ?_
  refine And.intro (s_iconst dX6_opens_40 (by decide)) ?_
  refine And.intro (s_istore_n dX6_opens_41 rfl) ?_
  refine And.intro (s_mark) ?_
  refine And.intro (s_iload_n dX6_opens_42 rfl) ?_
  refine And.intro (s_aload_n dX6_opens_43 rfl) ?_
  refine And.intro (s_getf (C := RX6) (T := TX6) (N := 41) rfl zin_X6 (by decide) zl_806 dX6_opens_44) ?_
  refine And.intro (s_icmp_ge dX6_opens_47 (by decide)) ?_
  refine And.intro (s_aload_n dX6_opens_50 rfl) ?_
  refine And.intro (s_getf (C := RX6) (T := TX6) (N := 41) rfl zin_X6 (by decide) zl_807 dX6_opens_51) ?_
  refine And.intro (s_iload_n dX6_opens_54 rfl) ?_
  refine And.intro (s_iaload dX6_opens_55) ?_
  refine And.intro (s_iload_n dX6_opens_56 rfl) ?_
  refine And.intro (s_icmp_ne dX6_opens_57 (by decide)) ?_
  refine And.intro (s_aload_n dX6_opens_60 rfl) ?_
  refine And.intro (s_getf (C := RX6) (T := TX6) (N := 41) rfl zin_X6 (by decide) zl_808 dX6_opens_61) ?_
  refine And.intro (s_iload_n dX6_opens_64 rfl) ?_
  refine And.intro (s_iaload dX6_opens_65) ?_
  refine And.intro (s_aload_n dX6_opens_66 rfl) ?_
  refine And.intro (s_getf (C := RX6) (T := TX6) (N := 41) rfl zin_X6 (by decide) zl_793 dX6_opens_67) ?_
  refine And.intro (s_icmp_ge dX6_opens_70 (by decide)) ?_
  refine And.intro (s_aload_n dX6_opens_73 rfl) ?_
  refine And.intro (s_getf (C := RX6) (T := TX6) (N := 41) rfl zin_X6 (by decide) zl_811 dX6_opens_74) ?_
  refine And.intro (s_iload_n dX6_opens_77 rfl) ?_
  refine And.intro (s_callS zf_X6_isIn zl_1046 zl_1045 ⟨rfl, rfl⟩ dX6_opens_78) ?_
  refine And.intro (s_if_ne dX6_opens_81 (by decide)) ?_
  refine And.intro (s_aload_n dX6_opens_84 rfl) ?_
  refine And.intro (s_getf (C := RX6) (T := TX6) (N := 41) rfl zin_X6 (by decide) zl_815 dX6_opens_85) ?_
  refine And.intro (s_aload_n dX6_opens_88 rfl) ?_
  refine And.intro (s_getf (C := RX6) (T := TX6) (N := 41) rfl zin_X6 (by decide) zl_808 dX6_opens_89) ?_
  refine And.intro (s_iload_n dX6_opens_92 rfl) ?_
  refine And.intro (s_iaload dX6_opens_93) ?_
  refine And.intro (s_iconst dX6_opens_94 (by decide)) ?_
  refine And.intro (s_iastore dX6_opens_95) ?_
  refine And.intro (s_iinc dX6_opens_96 (by decide)) ?_
  refine And.intro (s_gotob dX6_opens_99 (by decide)) ?_
  refine And.intro (s_vreturn rfl dX6_opens_102) ?_
  exact trivial
def zp_X6_goesBy : List (Bool × Nat × zOp) := [
  (true, 0, o_al 0),
  (true, 1, o_dup),
  (true, 2, o_gf 6 23),
  (true, 5, o_al 0),
  (true, 6, o_gf 6 10),
  (true, 9, o_ic 2),
  (true, 10, o_ia),
  (true, 11, o_al 0),
  (true, 12, o_gf 6 18),
  (true, 15, o_il 1),
  (true, 16, o_ia),
  (true, 17, o_ii (fun x y => x * y)),
  (true, 18, o_ii (fun x y => x + y)),
  (true, 19, o_pi 6 23),
  (true, 22, o_al 0),
  (true, 23, o_al 0),
  (true, 24, o_gf 6 23),
  (true, 27, o_al 0),
  (true, 28, o_gf 6 10),
  (true, 31, o_ic 1),
  (true, 32, o_ia),
  (true, 33, o_cmp (fun x y => y ≤ x) 43),
  (true, 36, o_al 0),
  (true, 37, o_gf 6 23),
  (true, 40, o_go 49),
  (true, 43, o_al 0),
  (true, 44, o_gf 6 10),
  (true, 47, o_ic 1),
  (true, 48, o_ia),
  (true, 49, o_pi 6 23),
  (true, 52, o_al 0),
  (true, 53, o_il 1),
  (true, 54, o_cv zi_X6_leaking 1 6),
  (true, 57, o_is 2),
  (true, 58, o_al 0),
  (true, 59, o_gf 6 26),
  (true, 62, o_il 1),
  (true, 63, o_il 2),
  (true, 64, o_al 0),
  (true, 65, o_gf 6 23),
  (true, 68, o_cmp (fun x y => y ≤ x) 75),
  (true, 71, o_il 2),
  (true, 72, o_go 79),
  (true, 75, o_al 0),
  (true, 76, o_gf 6 23),
  (true, 79, o_iw),
  (true, 80, o_al 0),
  (true, 81, o_dup),
  (true, 82, o_gf 6 23),
  (true, 85, o_al 0),
  (true, 86, o_gf 6 26),
  (true, 89, o_il 1),
  (true, 90, o_ia),
  (true, 91, o_ii (fun x y => x - y)),
  (true, 92, o_pi 6 23),
  (true, 95, o_al 0),
  (true, 96, o_il 1),
  (true, 97, o_cv zi_X6_opens 1 6),
  (true, 100, o_al 0),
  (true, 101, o_gf 6 27),
  (true, 104, o_il 1),
  (true, 105, o_ic 0),
  (true, 106, o_iw),
  (true, 107, o_al 0),
  (true, 108, o_gf 6 28),
  (true, 111, o_il 1),
  (true, 112, o_ic 0),
  (true, 113, o_iw),
  (true, 114, o_ic 0),
  (true, 115, o_is 3),
  (false, 116, o_mark 116 [2, 4]),
  (true, 116, o_il 3),
  (true, 117, o_al 0),
  (true, 118, o_gf 6 2),
  (true, 121, o_cmp (fun x y => y ≤ x) 204),
  (true, 124, o_al 0),
  (true, 125, o_il 3),
  (true, 126, o_il 1),
  (true, 127, o_cv zi_X6_gets 2 6),
  (true, 130, o_is 4),
  (true, 132, o_al 0),
  (true, 133, o_gf 6 29),
  (true, 136, o_ic 8),
  (true, 138, o_il 1),
  (true, 139, o_ii (fun x y => x * y)),
  (true, 140, o_il 3),
  (true, 141, o_ii (fun x y => x + y)),
  (true, 142, o_il 4),
  (true, 144, o_iw),
  (true, 145, o_al 0),
  (true, 146, o_gf 6 27),
  (true, 149, o_il 1),
  (true, 150, o_dup2),
  (true, 151, o_ia),
  (true, 152, o_il 4),
  (true, 154, o_if (fun x => x ≤ 0) 168),
  (true, 157, o_ic 1),
  (true, 158, o_al 0),
  (true, 159, o_gf 6 4),
  (true, 162, o_il 3),
  (true, 163, o_ia),
  (true, 164, o_ii (fun x y => x <<< (y &&& 31))),
  (true, 165, o_go 169),
  (true, 168, o_ic 0),
  (true, 169, o_ii (fun x y => x ||| y)),
  (true, 170, o_iw),
  (true, 171, o_al 0),
  (true, 172, o_gf 6 28),
  (true, 175, o_il 1),
  (true, 176, o_dup2),
  (true, 177, o_ia),
  (true, 178, o_il 4),
  (true, 180, o_al 0),
  (true, 181, o_il 3),
  (true, 182, o_il 1),
  (true, 183, o_cv zi_X6_needs 2 6),
  (true, 186, o_cmp (fun x y => y ≤ x) 195),
  (true, 189, o_ic 1),
  (true, 190, o_il 3),
  (true, 191, o_ii (fun x y => x <<< (y &&& 31))),
  (true, 192, o_go 196),
  (true, 195, o_ic 0),
  (true, 196, o_ii (fun x y => x ||| y)),
  (true, 197, o_iw),
  (true, 198, o_inc 3 1),
  (true, 201, o_gb 116 [2, 4]),
  (true, 204, o_al 0),
  (true, 205, o_gf 6 25),
  (true, 208, o_il 1),
  (true, 209, o_al 0),
  (true, 210, o_gf 6 23),
  (true, 213, o_iw),
  (true, 214, o_vr)]
set_option maxRecDepth 100000 in
set_option maxHeartbeats 4000000 in
theorem zk_X6_goesBy (kc ks : Nat) : z_OK (zS RX6 cX6_goesBy 5 "goesBy" none 3 68 kc ks) zp_X6_goesBy := by
  unfold zp_X6_goesBy
  refine And.intro (s_aload_n dX6_goesBy_0 rfl) ?_
  refine And.intro (s_dup dX6_goesBy_1) ?_
  refine And.intro (s_getf (C := RX6) (T := TX6) (N := 41) rfl zin_X6 (by decide) zl_814 dX6_goesBy_2) ?_
  refine And.intro (s_aload_n dX6_goesBy_5 rfl) ?_
  refine And.intro (s_getf (C := RX6) (T := TX6) (N := 41) rfl zin_X6 (by decide) zl_801 dX6_goesBy_6) ?_
  refine And.intro (s_iconst dX6_goesBy_9 (by decide)) ?_
  refine And.intro (s_iaload dX6_goesBy_10) ?_
  refine And.intro (s_aload_n dX6_goesBy_11 rfl) ?_
  refine And.intro (s_getf (C := RX6) (T := TX6) (N := 41) rfl zin_X6 (by decide) zl_809 dX6_goesBy_12) ?_
  refine And.intro (s_iload_n dX6_goesBy_15 rfl) ?_
  refine And.intro (s_iaload dX6_goesBy_16) ?_
  refine And.intro (s_imul dX6_goesBy_17) ?_
  refine And.intro (s_iadd dX6_goesBy_18) ?_
  refine And.intro (s_putI (C := RX6) (T := TX6) (N := 41) rfl zin_X6 (by decide) tyX6 tyX6_ok nmX6 zl_814 rfl (by decide +kernel) dX6_goesBy_19) ?_
  refine And.intro (s_aload_n dX6_goesBy_22 rfl) ?_
  refine And.intro (s_aload_n dX6_goesBy_23 rfl) ?_
  refine And.intro (s_getf (C := RX6) (T := TX6) (N := 41) rfl zin_X6 (by decide) zl_814 dX6_goesBy_24) ?_
  refine And.intro (s_aload_n dX6_goesBy_27 rfl) ?_
  refine And.intro (s_getf (C := RX6) (T := TX6) (N := 41) rfl zin_X6 (by decide) zl_801 dX6_goesBy_28) ?_
  refine And.intro (s_iconst dX6_goesBy_31 (by decide)) ?_
  refine And.intro (s_iaload dX6_goesBy_32) ?_
  refine And.intro (s_icmp_ge dX6_goesBy_33 (by decide)) ?_
  refine And.intro (s_aload_n dX6_goesBy_36 rfl) ?_
  refine And.intro (s_getf (C := RX6) (T := TX6) (N := 41) rfl zin_X6 (by decide) zl_814 dX6_goesBy_37) ?_
  refine And.intro (s_goto dX6_goesBy_40 (by decide)) ?_
  refine And.intro (s_aload_n dX6_goesBy_43 rfl) ?_
  refine And.intro (s_getf (C := RX6) (T := TX6) (N := 41) rfl zin_X6 (by decide) zl_801 dX6_goesBy_44) ?_
  refine And.intro (s_iconst dX6_goesBy_47 (by decide)) ?_
  refine And.intro (s_iaload dX6_goesBy_48) ?_
  refine And.intro (s_putI (C := RX6) (T := TX6) (N := 41) rfl zin_X6 (by decide) tyX6 tyX6_ok nmX6 zl_814 rfl (by decide +kernel) dX6_goesBy_49) ?_
  refine And.intro (s_aload_n dX6_goesBy_52 rfl) ?_
  refine And.intro (s_iload_n dX6_goesBy_53 rfl) ?_
  refine And.intro (s_callV (C := RX6) (T := TX6) (N := 41) rfl zf_X6_leaking zg_X6_leaking zl_1041 ⟨rfl, rfl⟩ dX6_goesBy_54) ?_
  refine And.intro (s_istore_n dX6_goesBy_57 rfl) ?_
  refine And.intro (s_aload_n dX6_goesBy_58 rfl) ?_
  refine And.intro (s_getf (C := RX6) (T := TX6) (N := 41) rfl zin_X6 (by decide) zl_817 dX6_goesBy_59) ?_
  refine And.intro (s_iload_n dX6_goesBy_62 rfl) ?_
  refine And.intro (s_iload_n dX6_goesBy_63 rfl) ?_
  refine And.intro (s_aload_n dX6_goesBy_64 rfl) ?_
  refine And.intro (s_getf (C := RX6) (T := TX6) (N := 41) rfl zin_X6 (by decide) zl_814 dX6_goesBy_65) ?_
  refine And.intro (s_icmp_ge dX6_goesBy_68 (by decide)) ?_
  refine And.intro (s_iload_n dX6_goesBy_71 rfl) ?_
  refine And.intro (s_goto dX6_goesBy_72 (by decide)) ?_
  refine And.intro (s_aload_n dX6_goesBy_75 rfl) ?_
  refine And.intro (s_getf (C := RX6) (T := TX6) (N := 41) rfl zin_X6 (by decide) zl_814 dX6_goesBy_76) ?_
  refine And.intro (s_iastore dX6_goesBy_79) ?_
  refine And.intro (s_aload_n dX6_goesBy_80 rfl) ?_
  refine And.intro (s_dup dX6_goesBy_81) ?_
  refine And.intro (s_getf (C := RX6) (T := TX6) (N := 41) rfl zin_X6 (by decide) zl_814 dX6_goesBy_82) ?_
  refine And.intro (s_aload_n dX6_goesBy_85 rfl) ?_
  refine And.intro (s_getf (C := RX6) (T := TX6) (N := 41) rfl zin_X6 (by decide) zl_817 dX6_goesBy_86) ?_
  refine And.intro (s_iload_n dX6_goesBy_89 rfl) ?_
  refine And.intro (s_iaload dX6_goesBy_90) ?_
  refine And.intro (s_isub dX6_goesBy_91) ?_
  refine And.intro (s_putI (C := RX6) (T := TX6) (N := 41) rfl zin_X6 (by decide) tyX6 tyX6_ok nmX6 zl_814 rfl (by decide +kernel) dX6_goesBy_92) ?_
  refine And.intro (s_aload_n dX6_goesBy_95 rfl) ?_
  refine And.intro (s_iload_n dX6_goesBy_96 rfl) ?_
  refine And.intro (s_callV (C := RX6) (T := TX6) (N := 41) rfl zf_X6_opens zg_X6_opens zl_1048 ⟨rfl, rfl⟩ dX6_goesBy_97) ?_
  refine And.intro (s_aload_n dX6_goesBy_100 rfl) ?_
  refine And.intro (s_getf (C := RX6) (T := TX6) (N := 41) rfl zin_X6 (by decide) zl_818 dX6_goesBy_101) ?_
  refine And.intro (s_iload_n dX6_goesBy_104 rfl) ?_
  refine And.intro (s_iconst dX6_goesBy_105 (by decide)) ?_
  refine And.intro (s_iastore dX6_goesBy_106) ?_
  refine And.intro (s_aload_n dX6_goesBy_107 rfl) ?_
  refine And.intro (s_getf (C := RX6) (T := TX6) (N := 41) rfl zin_X6 (by decide) zl_819 dX6_goesBy_108) ?_
  refine And.intro (s_iload_n dX6_goesBy_111 rfl) ?_
  refine And.intro (s_iconst dX6_goesBy_112 (by decide)) ?_
  refine And.intro (s_iastore dX6_goesBy_113) ?_
  refine And.intro (s_iconst dX6_goesBy_114 (by decide)) ?_
  refine And.intro (s_istore_n dX6_goesBy_115 rfl) ?_
  refine And.intro (s_mark) ?_
  refine And.intro (s_iload_n dX6_goesBy_116 rfl) ?_
  refine And.intro (s_aload_n dX6_goesBy_117 rfl) ?_
  refine And.intro (s_getf (C := RX6) (T := TX6) (N := 41) rfl zin_X6 (by decide) zl_793 dX6_goesBy_118) ?_
  refine And.intro (s_icmp_ge dX6_goesBy_121 (by decide)) ?_
  refine And.intro (s_aload_n dX6_goesBy_124 rfl) ?_
  refine And.intro (s_iload_n dX6_goesBy_125 rfl) ?_
  refine And.intro (s_iload_n dX6_goesBy_126 rfl) ?_
  refine And.intro (s_callV (C := RX6) (T := TX6) (N := 41) rfl zf_X6_gets zg_X6_gets zl_1052 ⟨rfl, rfl⟩ dX6_goesBy_127) ?_
  refine And.intro (s_istore dX6_goesBy_130) ?_
  refine And.intro (s_aload_n dX6_goesBy_132 rfl) ?_
  refine And.intro (s_getf (C := RX6) (T := TX6) (N := 41) rfl zin_X6 (by decide) zl_820 dX6_goesBy_133) ?_
  refine And.intro (s_bipush dX6_goesBy_136 (by decide)) ?_
  refine And.intro (s_iload_n dX6_goesBy_138 rfl) ?_
  refine And.intro (s_imul dX6_goesBy_139) ?_
  refine And.intro (s_iload_n dX6_goesBy_140 rfl) ?_
  refine And.intro (s_iadd dX6_goesBy_141) ?_
  refine And.intro (s_iload dX6_goesBy_142) ?_
  refine And.intro (s_iastore dX6_goesBy_144) ?_
  refine And.intro (s_aload_n dX6_goesBy_145 rfl) ?_
  refine And.intro (s_getf (C := RX6) (T := TX6) (N := 41) rfl zin_X6 (by decide) zl_818 dX6_goesBy_146) ?_
  refine And.intro (s_iload_n dX6_goesBy_149 rfl) ?_
  refine And.intro (s_dup2 dX6_goesBy_150) ?_
  refine And.intro (s_iaload dX6_goesBy_151) ?_
  refine And.intro (s_iload dX6_goesBy_152) ?_
  refine And.intro (s_if_le dX6_goesBy_154 (by decide)) ?_
  refine And.intro (s_iconst dX6_goesBy_157 (by decide)) ?_
  refine And.intro (s_aload_n dX6_goesBy_158 rfl) ?_
  refine And.intro (s_getf (C := RX6) (T := TX6) (N := 41) rfl zin_X6 (by decide) zl_795 dX6_goesBy_159) ?_
  refine And.intro (s_iload_n dX6_goesBy_162 rfl) ?_
  refine And.intro (s_iaload dX6_goesBy_163) ?_
  refine And.intro (s_ishl dX6_goesBy_164) ?_
  refine And.intro (s_goto dX6_goesBy_165 (by decide)) ?_
  refine And.intro (s_iconst dX6_goesBy_168 (by decide)) ?_
  refine And.intro (s_ior dX6_goesBy_169) ?_
  refine And.intro (s_iastore dX6_goesBy_170) ?_
  refine And.intro (s_aload_n dX6_goesBy_171 rfl) ?_
  refine And.intro (s_getf (C := RX6) (T := TX6) (N := 41) rfl zin_X6 (by decide) zl_819 dX6_goesBy_172) ?_
  refine And.intro (s_iload_n dX6_goesBy_175 rfl) ?_
  refine And.intro (s_dup2 dX6_goesBy_176) ?_
  refine And.intro (s_iaload dX6_goesBy_177) ?_
  refine And.intro (s_iload dX6_goesBy_178) ?_
  refine And.intro (s_aload_n dX6_goesBy_180 rfl) ?_
  refine And.intro (s_iload_n dX6_goesBy_181 rfl) ?_
  refine And.intro (s_iload_n dX6_goesBy_182 rfl) ?_
  refine And.intro (s_callV (C := RX6) (T := TX6) (N := 41) rfl zf_X6_needs zg_X6_needs zl_1056 ⟨rfl, rfl⟩ dX6_goesBy_183) ?_
  refine And.intro (s_icmp_ge dX6_goesBy_186 (by decide)) ?_
  refine And.intro (s_iconst dX6_goesBy_189 (by decide)) ?_
  refine And.intro (s_iload_n dX6_goesBy_190 rfl) ?_
  refine And.intro (s_ishl dX6_goesBy_191) ?_
  refine And.intro (s_goto dX6_goesBy_192 (by decide)) ?_
  refine And.intro (s_iconst dX6_goesBy_195 (by decide)) ?_
  refine And.intro (s_ior dX6_goesBy_196) ?_
  refine And.intro (s_iastore dX6_goesBy_197) ?_
  refine And.intro (s_iinc dX6_goesBy_198 (by decide)) ?_
  refine And.intro (s_gotob dX6_goesBy_201 (by decide)) ?_
  refine And.intro (s_aload_n dX6_goesBy_204 rfl) ?_
  refine And.intro (s_getf (C := RX6) (T := TX6) (N := 41) rfl zin_X6 (by decide) zl_816 dX6_goesBy_205) ?_
  refine And.intro (s_iload_n dX6_goesBy_208 rfl) ?_
  refine And.intro (s_aload_n dX6_goesBy_209 rfl) ?_
  refine And.intro (s_getf (C := RX6) (T := TX6) (N := 41) rfl zin_X6 (by decide) zl_814 dX6_goesBy_210) ?_
  refine And.intro (s_iastore dX6_goesBy_213) ?_
  refine And.intro (s_vreturn rfl dX6_goesBy_214) ?_
  exact trivial
def zp_X6_runs : List (Bool × Nat × zOp) := [
  (true, 0, o_al 0),
  (true, 1, o_al 0),
  (true, 2, o_gf 6 22),
  (true, 5, o_pi 6 23),
  (true, 8, o_ic 0),
  (true, 9, o_is 1),
  (false, 10, o_mark 10 []),
  (true, 10, o_il 1),
  (true, 11, o_ic 40),
  (true, 13, o_cmp (fun x y => y ≤ x) 27),
  (true, 16, o_al 0),
  (true, 17, o_il 1),
  (true, 18, o_cv zi_X6_goesBy 1 6),
  (true, 21, o_inc 1 1),
  (true, 24, o_gb 10 []),
  (true, 27, o_vr)]
set_option maxRecDepth 100000 in
set_option maxHeartbeats 4000000 in
theorem zk_X6_runs (kc ks : Nat) : z_OK (zS RX6 cX6_runs 2 "runs" none 4 92 kc ks) zp_X6_runs := by
  unfold zp_X6_runs
  refine And.intro (s_aload_n dX6_runs_0 rfl) ?_
  refine And.intro (s_aload_n dX6_runs_1 rfl) ?_
  refine And.intro (s_getf (C := RX6) (T := TX6) (N := 41) rfl zin_X6 (by decide) zl_813 dX6_runs_2) ?_
  refine And.intro (s_putI (C := RX6) (T := TX6) (N := 41) rfl zin_X6 (by decide) tyX6 tyX6_ok nmX6 zl_814 rfl (by decide +kernel) dX6_runs_5) ?_
  refine And.intro (s_iconst dX6_runs_8 (by decide)) ?_
  refine And.intro (s_istore_n dX6_runs_9 rfl) ?_
  refine And.intro (s_mark) ?_
  refine And.intro (s_iload_n dX6_runs_10 rfl) ?_
  refine And.intro (s_bipush dX6_runs_11 (by decide)) ?_
  refine And.intro (s_icmp_ge dX6_runs_13 (by decide)) ?_
  refine And.intro (s_aload_n dX6_runs_16 rfl) ?_
  refine And.intro (s_iload_n dX6_runs_17 rfl) ?_
  refine And.intro (s_callV (C := RX6) (T := TX6) (N := 41) rfl zf_X6_goesBy zg_X6_goesBy zl_1037 ⟨rfl, rfl⟩ dX6_runs_18) ?_
  refine And.intro (s_iinc dX6_runs_21 (by decide)) ?_
  refine And.intro (s_gotob dX6_runs_24 (by decide)) ?_
  refine And.intro (s_vreturn rfl dX6_runs_27) ?_
  exact trivial
def zp_X6_isSeen : List (Bool × Nat × zOp) := [
  (true, 0, o_al 0),
  (true, 1, o_cv zi_X6_runs 0 6),
  (true, 4, o_ic 1),
  (true, 5, o_is 1),
  (true, 6, o_ic 0),
  (true, 7, o_is 2),
  (false, 8, o_mark 8 []),
  (true, 8, o_il 2),
  (true, 9, o_al 0),
  (true, 10, o_gf 6 30),
  (true, 13, o_cmp (fun x y => y ≤ x) 75),
  (true, 16, o_il 1),
  (true, 17, o_if (fun x => x = 0) 75),
  (true, 20, o_al 0),
  (true, 21, o_gf 6 32),
  (true, 24, o_il 2),
  (true, 25, o_ia),
  (true, 26, o_al 0),
  (true, 27, o_gf 6 2),
  (true, 30, o_cmp (fun x y => y ≤ x) 67),
  (true, 33, o_al 0),
  (true, 34, o_gf 6 29),
  (true, 37, o_ic 8),
  (true, 39, o_al 0),
  (true, 40, o_gf 6 31),
  (true, 43, o_il 2),
  (true, 44, o_ia),
  (true, 45, o_ii (fun x y => x * y)),
  (true, 46, o_al 0),
  (true, 47, o_gf 6 32),
  (true, 50, o_il 2),
  (true, 51, o_ia),
  (true, 52, o_ii (fun x y => x + y)),
  (true, 53, o_ia),
  (true, 54, o_al 0),
  (true, 55, o_gf 6 33),
  (true, 58, o_il 2),
  (true, 59, o_ia),
  (true, 60, o_cn (fun x y => x = y) 67),
  (true, 63, o_ic 1),
  (true, 64, o_go 68),
  (true, 67, o_ic 0),
  (true, 68, o_is 1),
  (true, 69, o_inc 2 1),
  (true, 72, o_gb 8 []),
  (true, 75, o_il 1),
  (true, 76, o_zr)]
set_option maxRecDepth 100000 in
set_option maxHeartbeats 4000000 in
theorem zk_X6_isSeen (kc ks : Nat) : z_OK (zS RX6 cX6_isSeen 3 "isSeen" (some .boolean) 5 113 kc ks) zp_X6_isSeen := by
  unfold zp_X6_isSeen
  refine And.intro (s_aload_n dX6_isSeen_0 rfl) ?_
  refine And.intro (s_callV (C := RX6) (T := TX6) (N := 41) rfl zf_X6_runs zg_X6_runs zl_1033 ⟨rfl, rfl⟩ dX6_isSeen_1) ?_
  refine And.intro (s_iconst dX6_isSeen_4 (by decide)) ?_
  refine And.intro (s_istore_n dX6_isSeen_5 rfl) ?_
  refine And.intro (s_iconst dX6_isSeen_6 (by decide)) ?_
  refine And.intro (s_istore_n dX6_isSeen_7 rfl) ?_
  refine And.intro (s_mark) ?_
  refine And.intro (s_iload_n dX6_isSeen_8 rfl) ?_
  refine And.intro (s_aload_n dX6_isSeen_9 rfl) ?_
  refine And.intro (s_getf (C := RX6) (T := TX6) (N := 41) rfl zin_X6 (by decide) zl_821 dX6_isSeen_10) ?_
  refine And.intro (s_icmp_ge dX6_isSeen_13 (by decide)) ?_
  refine And.intro (s_iload_n dX6_isSeen_16 rfl) ?_
  refine And.intro (s_if_eq dX6_isSeen_17 (by decide)) ?_
  refine And.intro (s_aload_n dX6_isSeen_20 rfl) ?_
  refine And.intro (s_getf (C := RX6) (T := TX6) (N := 41) rfl zin_X6 (by decide) zl_823 dX6_isSeen_21) ?_
  refine And.intro (s_iload_n dX6_isSeen_24 rfl) ?_
  refine And.intro (s_iaload dX6_isSeen_25) ?_
  refine And.intro (s_aload_n dX6_isSeen_26 rfl) ?_
  refine And.intro (s_getf (C := RX6) (T := TX6) (N := 41) rfl zin_X6 (by decide) zl_793 dX6_isSeen_27) ?_
  refine And.intro (s_icmp_ge dX6_isSeen_30 (by decide)) ?_
  refine And.intro (s_aload_n dX6_isSeen_33 rfl) ?_
  refine And.intro (s_getf (C := RX6) (T := TX6) (N := 41) rfl zin_X6 (by decide) zl_820 dX6_isSeen_34) ?_
  refine And.intro (s_bipush dX6_isSeen_37 (by decide)) ?_
  refine And.intro (s_aload_n dX6_isSeen_39 rfl) ?_
  refine And.intro (s_getf (C := RX6) (T := TX6) (N := 41) rfl zin_X6 (by decide) zl_822 dX6_isSeen_40) ?_
  refine And.intro (s_iload_n dX6_isSeen_43 rfl) ?_
  refine And.intro (s_iaload dX6_isSeen_44) ?_
  refine And.intro (s_imul dX6_isSeen_45) ?_
  refine And.intro (s_aload_n dX6_isSeen_46 rfl) ?_
  refine And.intro (s_getf (C := RX6) (T := TX6) (N := 41) rfl zin_X6 (by decide) zl_823 dX6_isSeen_47) ?_
  refine And.intro (s_iload_n dX6_isSeen_50 rfl) ?_
  refine And.intro (s_iaload dX6_isSeen_51) ?_
  refine And.intro (s_iadd dX6_isSeen_52) ?_
  refine And.intro (s_iaload dX6_isSeen_53) ?_
  refine And.intro (s_aload_n dX6_isSeen_54 rfl) ?_
  refine And.intro (s_getf (C := RX6) (T := TX6) (N := 41) rfl zin_X6 (by decide) zl_824 dX6_isSeen_55) ?_
  refine And.intro (s_iload_n dX6_isSeen_58 rfl) ?_
  refine And.intro (s_iaload dX6_isSeen_59) ?_
  refine And.intro (s_icmp_ne dX6_isSeen_60 (by decide)) ?_
  refine And.intro (s_iconst dX6_isSeen_63 (by decide)) ?_
  refine And.intro (s_goto dX6_isSeen_64 (by decide)) ?_
  refine And.intro (s_iconst dX6_isSeen_67 (by decide)) ?_
  refine And.intro (s_istore_n dX6_isSeen_68 rfl) ?_
  refine And.intro (s_iinc dX6_isSeen_69 (by decide)) ?_
  refine And.intro (s_gotob dX6_isSeen_72 (by decide)) ?_
  refine And.intro (s_iload_n dX6_isSeen_75 rfl) ?_
  refine And.intro (s_zreturn rfl dX6_isSeen_76) ?_
  exact trivial
def zp_X6_wasOf : List (Bool × Nat × zOp) := [
  (true, 0, o_al 0),
  (true, 1, o_cv zi_X6_asTold 0 6),
  (true, 4, o_al 0),
  (true, 5, o_gf 6 5),
  (true, 8, o_il 1),
  (true, 9, o_ia),
  (true, 10, o_is 2),
  (true, 11, o_ic 0),
  (true, 12, o_is 3),
  (true, 13, o_ic 1),
  (true, 14, o_is 4),
  (false, 16, o_mark 16 [5]),
  (true, 16, o_il 4),
  (true, 18, o_ic 10),
  (true, 20, o_cmp (fun x y => y ≤ x) 96),
  (true, 23, o_al 0),
  (true, 24, o_gf 6 5),
  (true, 27, o_il 1),
  (true, 28, o_il 4),
  (true, 30, o_iw),
  (true, 31, o_il 3),
  (true, 32, o_al 0),
  (true, 33, o_cv zi_X6_isSeen 0 6),
  (true, 36, o_if (fun x => x = 0) 46),
  (true, 39, o_ic 1),
  (true, 40, o_il 4),
  (true, 42, o_ii (fun x y => x <<< (y &&& 31))),
  (true, 43, o_go 47),
  (true, 46, o_ic 0),
  (true, 47, o_ii (fun x y => x ||| y)),
  (true, 48, o_is 3),
  (true, 49, o_ic 0),
  (true, 50, o_is 5),
  (false, 52, o_mark 52 []),
  (true, 52, o_il 5),
  (true, 54, o_ic 40),
  (true, 56, o_cmp (fun x y => y ≤ x) 90),
  (true, 59, o_al 0),
  (true, 60, o_gf 6 34),
  (true, 63, o_ic 40),
  (true, 65, o_il 4),
  (true, 67, o_ii (fun x y => x * y)),
  (true, 68, o_il 5),
  (true, 70, o_ii (fun x y => x + y)),
  (true, 71, o_al 0),
  (true, 72, o_gf 6 29),
  (true, 75, o_ic 8),
  (true, 77, o_il 5),
  (true, 79, o_ii (fun x y => x * y)),
  (true, 80, o_il 1),
  (true, 81, o_ii (fun x y => x + y)),
  (true, 82, o_ia),
  (true, 83, o_iw),
  (true, 84, o_inc 5 1),
  (true, 87, o_gb 52 []),
  (true, 90, o_inc 4 1),
  (true, 93, o_gb 16 [5]),
  (true, 96, o_al 0),
  (true, 97, o_gf 6 5),
  (true, 100, o_il 1),
  (true, 101, o_il 2),
  (true, 102, o_iw),
  (true, 103, o_il 3),
  (true, 104, o_ir)]
set_option maxRecDepth 100000 in
set_option maxHeartbeats 4000000 in
theorem zk_X6_wasOf (kc ks : Nat) : z_OK (zS RX6 cX6_wasOf 6 "wasOf" (some .int) 7 156 kc ks) zp_X6_wasOf := by
  unfold zp_X6_wasOf
  refine And.intro (s_aload_n dX6_wasOf_0 rfl) ?_
  refine And.intro (s_callV (C := RX6) (T := TX6) (N := 41) rfl zf_X6_asTold zg_X6_asTold zl_1029 ⟨rfl, rfl⟩ dX6_wasOf_1) ?_
  refine And.intro (s_aload_n dX6_wasOf_4 rfl) ?_
  refine And.intro (s_getf (C := RX6) (T := TX6) (N := 41) rfl zin_X6 (by decide) zl_796 dX6_wasOf_5) ?_
  refine And.intro (s_iload_n dX6_wasOf_8 rfl) ?_
  refine And.intro (s_iaload dX6_wasOf_9) ?_
  refine And.intro (s_istore_n dX6_wasOf_10 rfl) ?_
  refine And.intro (s_iconst dX6_wasOf_11 (by decide)) ?_
  refine And.intro (s_istore_n dX6_wasOf_12 rfl) ?_
  refine And.intro (s_iconst dX6_wasOf_13 (by decide)) ?_
  refine And.intro (s_istore dX6_wasOf_14) ?_
  refine And.intro (s_mark) ?_
  refine And.intro (s_iload dX6_wasOf_16) ?_
  refine And.intro (s_bipush dX6_wasOf_18 (by decide)) ?_
  refine And.intro (s_icmp_ge dX6_wasOf_20 (by decide)) ?_
  refine And.intro (s_aload_n dX6_wasOf_23 rfl) ?_
  refine And.intro (s_getf (C := RX6) (T := TX6) (N := 41) rfl zin_X6 (by decide) zl_796 dX6_wasOf_24) ?_
  refine And.intro (s_iload_n dX6_wasOf_27 rfl) ?_
  refine And.intro (s_iload dX6_wasOf_28) ?_
  refine And.intro (s_iastore dX6_wasOf_30) ?_
  refine And.intro (s_iload_n dX6_wasOf_31 rfl) ?_
  refine And.intro (s_aload_n dX6_wasOf_32 rfl) ?_
  refine And.intro (s_callV (C := RX6) (T := TX6) (N := 41) rfl zf_X6_isSeen zg_X6_isSeen zl_1160 ⟨rfl, rfl⟩ dX6_wasOf_33) ?_
  refine And.intro (s_if_eq dX6_wasOf_36 (by decide)) ?_
  refine And.intro (s_iconst dX6_wasOf_39 (by decide)) ?_
  refine And.intro (s_iload dX6_wasOf_40) ?_
  refine And.intro (s_ishl dX6_wasOf_42) ?_
  refine And.intro (s_goto dX6_wasOf_43 (by decide)) ?_
  refine And.intro (s_iconst dX6_wasOf_46 (by decide)) ?_
  refine And.intro (s_ior dX6_wasOf_47) ?_
  refine And.intro (s_istore_n dX6_wasOf_48 rfl) ?_
  refine And.intro (s_iconst dX6_wasOf_49 (by decide)) ?_
  refine And.intro (s_istore dX6_wasOf_50) ?_
  refine And.intro (s_mark) ?_
  refine And.intro (s_iload dX6_wasOf_52) ?_
  refine And.intro (s_bipush dX6_wasOf_54 (by decide)) ?_
  refine And.intro (s_icmp_ge dX6_wasOf_56 (by decide)) ?_
  refine And.intro (s_aload_n dX6_wasOf_59 rfl) ?_
  refine And.intro (s_getf (C := RX6) (T := TX6) (N := 41) rfl zin_X6 (by decide) zl_825 dX6_wasOf_60) ?_
  refine And.intro (s_bipush dX6_wasOf_63 (by decide)) ?_
  refine And.intro (s_iload dX6_wasOf_65) ?_
  refine And.intro (s_imul dX6_wasOf_67) ?_
  refine And.intro (s_iload dX6_wasOf_68) ?_
  refine And.intro (s_iadd dX6_wasOf_70) ?_
  refine And.intro (s_aload_n dX6_wasOf_71 rfl) ?_
  refine And.intro (s_getf (C := RX6) (T := TX6) (N := 41) rfl zin_X6 (by decide) zl_820 dX6_wasOf_72) ?_
  refine And.intro (s_bipush dX6_wasOf_75 (by decide)) ?_
  refine And.intro (s_iload dX6_wasOf_77) ?_
  refine And.intro (s_imul dX6_wasOf_79) ?_
  refine And.intro (s_iload_n dX6_wasOf_80 rfl) ?_
  refine And.intro (s_iadd dX6_wasOf_81) ?_
  refine And.intro (s_iaload dX6_wasOf_82) ?_
  refine And.intro (s_iastore dX6_wasOf_83) ?_
  refine And.intro (s_iinc dX6_wasOf_84 (by decide)) ?_
  refine And.intro (s_gotob dX6_wasOf_87 (by decide)) ?_
  refine And.intro (s_iinc dX6_wasOf_90 (by decide)) ?_
  refine And.intro (s_gotob dX6_wasOf_93 (by decide)) ?_
  refine And.intro (s_aload_n dX6_wasOf_96 rfl) ?_
  refine And.intro (s_getf (C := RX6) (T := TX6) (N := 41) rfl zin_X6 (by decide) zl_796 dX6_wasOf_97) ?_
  refine And.intro (s_iload_n dX6_wasOf_100 rfl) ?_
  refine And.intro (s_iload_n dX6_wasOf_101 rfl) ?_
  refine And.intro (s_iastore dX6_wasOf_102) ?_
  refine And.intro (s_iload_n dX6_wasOf_103 rfl) ?_
  refine And.intro (s_ireturn rfl (fun _ => rfl) dX6_wasOf_104) ?_
  exact trivial
def zp_X6_askOf : List (Bool × Nat × zOp) := [
  (true, 0, o_al 0),
  (true, 1, o_il 1),
  (true, 2, o_cv zi_X6_wasOf 1 6),
  (true, 5, o_is 2),
  (true, 6, o_ic (-1)),
  (true, 7, o_is 3),
  (true, 8, o_ic 0),
  (true, 9, o_is 4),
  (true, 11, o_ic 0),
  (true, 12, o_is 5),
  (false, 14, o_mark 14 [1, 6, 7, 8, 9]),
  (true, 14, o_il 5),
  (true, 16, o_ic 40),
  (true, 18, o_cmp (fun x y => y ≤ x) 183),
  (true, 21, o_ic 0),
  (true, 22, o_is 6),
  (true, 24, o_ic 1),
  (true, 25, o_is 7),
  (false, 27, o_mark 27 [1, 8, 9]),
  (true, 27, o_il 7),
  (true, 29, o_ic 10),
  (true, 31, o_cmp (fun x y => y ≤ x) 132),
  (true, 34, o_ic 0),
  (true, 35, o_is 8),
  (true, 37, o_ic 1),
  (true, 38, o_is 9),
  (false, 40, o_mark 40 [1]),
  (true, 40, o_il 9),
  (true, 42, o_ic 10),
  (true, 44, o_cmp (fun x y => y ≤ x) 110),
  (true, 47, o_il 8),
  (true, 49, o_il 2),
  (true, 50, o_il 7),
  (true, 52, o_cs zi_X6_isIn 2),
  (true, 55, o_if (fun x => x = 0) 100),
  (true, 58, o_il 2),
  (true, 59, o_il 9),
  (true, 61, o_cs zi_X6_isIn 2),
  (true, 64, o_if (fun x => x = 0) 100),
  (true, 67, o_al 0),
  (true, 68, o_gf 6 34),
  (true, 71, o_ic 40),
  (true, 73, o_il 7),
  (true, 75, o_ii (fun x y => x * y)),
  (true, 76, o_il 5),
  (true, 78, o_ii (fun x y => x + y)),
  (true, 79, o_ia),
  (true, 80, o_al 0),
  (true, 81, o_gf 6 34),
  (true, 84, o_ic 40),
  (true, 86, o_il 9),
  (true, 88, o_ii (fun x y => x * y)),
  (true, 89, o_il 5),
  (true, 91, o_ii (fun x y => x + y)),
  (true, 92, o_ia),
  (true, 93, o_cn (fun x y => x = y) 100),
  (true, 96, o_ic 1),
  (true, 97, o_go 101),
  (true, 100, o_ic 0),
  (true, 101, o_ii (fun x y => x + y)),
  (true, 102, o_is 8),
  (true, 104, o_inc 9 1),
  (true, 107, o_gb 40 [1]),
  (true, 110, o_il 8),
  (true, 112, o_il 6),
  (true, 114, o_cmp (fun x y => x ≤ y) 122),
  (true, 117, o_il 8),
  (true, 119, o_go 124),
  (true, 122, o_il 6),
  (true, 124, o_is 6),
  (true, 126, o_inc 7 1),
  (true, 129, o_gb 27 [1, 8, 9]),
  (true, 132, o_il 3),
  (true, 133, o_ic (-1)),
  (true, 134, o_cmp (fun x y => x = y) 144),
  (true, 137, o_il 6),
  (true, 139, o_il 4),
  (true, 141, o_cmp (fun x y => y ≤ x) 148),
  (true, 144, o_ic 1),
  (true, 145, o_go 149),
  (true, 148, o_ic 0),
  (true, 149, o_is 7),
  (true, 151, o_il 7),
  (true, 153, o_if (fun x => x = 0) 161),
  (true, 156, o_il 5),
  (true, 158, o_go 162),
  (true, 161, o_il 3),
  (true, 162, o_is 3),
  (true, 163, o_il 7),
  (true, 165, o_if (fun x => x = 0) 173),
  (true, 168, o_il 6),
  (true, 170, o_go 175),
  (true, 173, o_il 4),
  (true, 175, o_is 4),
  (true, 177, o_inc 5 1),
  (true, 180, o_gb 14 [1, 6, 7, 8, 9]),
  (true, 183, o_il 3),
  (true, 184, o_ir)]
set_option maxRecDepth 100000 in
set_option maxHeartbeats 4000000 in
theorem zk_X6_askOf (kc ks : Nat) : z_OK (zS RX6 cX6_askOf 10 "askOf" (some .int) 8 181 kc ks) zp_X6_askOf := by
  unfold zp_X6_askOf
  refine And.intro (s_aload_n dX6_askOf_0 rfl) ?_
  refine And.intro (s_iload_n dX6_askOf_1 rfl) ?_
  refine And.intro (s_callV (C := RX6) (T := TX6) (N := 41) rfl zf_X6_wasOf zg_X6_wasOf zl_1168 ⟨rfl, rfl⟩ dX6_askOf_2) ?_
  refine And.intro (s_istore_n dX6_askOf_5 rfl) ?_
  refine And.intro (s_iconst dX6_askOf_6 (by decide)) ?_
  refine And.intro (s_istore_n dX6_askOf_7 rfl) ?_
  refine And.intro (s_iconst dX6_askOf_8 (by decide)) ?_
  refine And.intro (s_istore dX6_askOf_9) ?_
  refine And.intro (s_iconst dX6_askOf_11 (by decide)) ?_
  refine And.intro (s_istore dX6_askOf_12) ?_
  refine And.intro (s_mark) ?_
  refine And.intro (s_iload dX6_askOf_14) ?_
  refine And.intro (s_bipush dX6_askOf_16 (by decide)) ?_
  refine And.intro (s_icmp_ge dX6_askOf_18 (by decide)) ?_
  refine And.intro (s_iconst dX6_askOf_21 (by decide)) ?_
  refine And.intro (s_istore dX6_askOf_22) ?_
  refine And.intro (s_iconst dX6_askOf_24 (by decide)) ?_
  refine And.intro (s_istore dX6_askOf_25) ?_
  refine And.intro (s_mark) ?_
  refine And.intro (s_iload dX6_askOf_27) ?_
  refine And.intro (s_bipush dX6_askOf_29 (by decide)) ?_
  refine And.intro (s_icmp_ge dX6_askOf_31 (by decide)) ?_
  refine And.intro (s_iconst dX6_askOf_34 (by decide)) ?_
  refine And.intro (s_istore dX6_askOf_35) ?_
  refine And.intro (s_iconst dX6_askOf_37 (by decide)) ?_
  refine And.intro (s_istore dX6_askOf_38) ?_
  refine And.intro (s_mark) ?_
  refine And.intro (s_iload dX6_askOf_40) ?_
  refine And.intro (s_bipush dX6_askOf_42 (by decide)) ?_
  refine And.intro (s_icmp_ge dX6_askOf_44 (by decide)) ?_
  refine And.intro (s_iload dX6_askOf_47) ?_
  refine And.intro (s_iload_n dX6_askOf_49 rfl) ?_
  refine And.intro (s_iload dX6_askOf_50) ?_
  refine And.intro (s_callS zf_X6_isIn zl_1046 zl_1045 ⟨rfl, rfl⟩ dX6_askOf_52) ?_
  refine And.intro (s_if_eq dX6_askOf_55 (by decide)) ?_
  refine And.intro (s_iload_n dX6_askOf_58 rfl) ?_
  refine And.intro (s_iload dX6_askOf_59) ?_
  refine And.intro (s_callS zf_X6_isIn zl_1046 zl_1045 ⟨rfl, rfl⟩ dX6_askOf_61) ?_
  refine And.intro (s_if_eq dX6_askOf_64 (by decide)) ?_
  refine And.intro (s_aload_n dX6_askOf_67 rfl) ?_
  refine And.intro (s_getf (C := RX6) (T := TX6) (N := 41) rfl zin_X6 (by decide) zl_825 dX6_askOf_68) ?_
  refine And.intro (s_bipush dX6_askOf_71 (by decide)) ?_
  refine And.intro (s_iload dX6_askOf_73) ?_
  refine And.intro (s_imul dX6_askOf_75) ?_
  refine And.intro (s_iload dX6_askOf_76) ?_
  refine And.intro (s_iadd dX6_askOf_78) ?_
  refine And.intro (s_iaload dX6_askOf_79) ?_
  refine And.intro (s_aload_n dX6_askOf_80 rfl) ?_
  refine And.intro (s_getf (C := RX6) (T := TX6) (N := 41) rfl zin_X6 (by decide) zl_825 dX6_askOf_81) ?_
  refine And.intro (s_bipush dX6_askOf_84 (by decide)) ?_
  refine And.intro (s_iload dX6_askOf_86) ?_
  refine And.intro (s_imul dX6_askOf_88) ?_
  refine And.intro (s_iload dX6_askOf_89) ?_
  refine And.intro (s_iadd dX6_askOf_91) ?_
  refine And.intro (s_iaload dX6_askOf_92) ?_
  refine And.intro (s_icmp_ne dX6_askOf_93 (by decide)) ?_
  refine And.intro (s_iconst dX6_askOf_96 (by decide)) ?_
  refine And.intro (s_goto dX6_askOf_97 (by decide)) ?_
  refine And.intro (s_iconst dX6_askOf_100 (by decide)) ?_
  refine And.intro (s_iadd dX6_askOf_101) ?_
  refine And.intro (s_istore dX6_askOf_102) ?_
  refine And.intro (s_iinc dX6_askOf_104 (by decide)) ?_
  refine And.intro (s_gotob dX6_askOf_107 (by decide)) ?_
  refine And.intro (s_iload dX6_askOf_110) ?_
  refine And.intro (s_iload dX6_askOf_112) ?_
  refine And.intro (s_icmp_le dX6_askOf_114 (by decide)) ?_
  refine And.intro (s_iload dX6_askOf_117) ?_
  refine And.intro (s_goto dX6_askOf_119 (by decide)) ?_
  refine And.intro (s_iload dX6_askOf_122) ?_
  refine And.intro (s_istore dX6_askOf_124) ?_
  refine And.intro (s_iinc dX6_askOf_126 (by decide)) ?_
  refine And.intro (s_gotob dX6_askOf_129 (by decide)) ?_
  refine And.intro (s_iload_n dX6_askOf_132 rfl) ?_
  refine And.intro (s_iconst dX6_askOf_133 (by decide)) ?_
  refine And.intro (s_icmp_eq dX6_askOf_134 (by decide)) ?_
  refine And.intro (s_iload dX6_askOf_137) ?_
  refine And.intro (s_iload dX6_askOf_139) ?_
  refine And.intro (s_icmp_ge dX6_askOf_141 (by decide)) ?_
  refine And.intro (s_iconst dX6_askOf_144 (by decide)) ?_
  refine And.intro (s_goto dX6_askOf_145 (by decide)) ?_
  refine And.intro (s_iconst dX6_askOf_148 (by decide)) ?_
  refine And.intro (s_istore dX6_askOf_149) ?_
  refine And.intro (s_iload dX6_askOf_151) ?_
  refine And.intro (s_if_eq dX6_askOf_153 (by decide)) ?_
  refine And.intro (s_iload dX6_askOf_156) ?_
  refine And.intro (s_goto dX6_askOf_158 (by decide)) ?_
  refine And.intro (s_iload_n dX6_askOf_161 rfl) ?_
  refine And.intro (s_istore_n dX6_askOf_162 rfl) ?_
  refine And.intro (s_iload dX6_askOf_163) ?_
  refine And.intro (s_if_eq dX6_askOf_165 (by decide)) ?_
  refine And.intro (s_iload dX6_askOf_168) ?_
  refine And.intro (s_goto dX6_askOf_170 (by decide)) ?_
  refine And.intro (s_iload dX6_askOf_173) ?_
  refine And.intro (s_istore dX6_askOf_175) ?_
  refine And.intro (s_iinc dX6_askOf_177 (by decide)) ?_
  refine And.intro (s_gotob dX6_askOf_180 (by decide)) ?_
  refine And.intro (s_iload_n dX6_askOf_183 rfl) ?_
  refine And.intro (s_ireturn rfl (fun _ => rfl) dX6_askOf_184) ?_
  exact trivial
def zp_X6_isHouse : List (Bool × Nat × zOp) := [
  (true, 0, o_al 0),
  (true, 1, o_cv zi_X6_reads 0 6),
  (true, 4, o_il 1),
  (true, 5, o_ic 0),
  (true, 6, o_al 0),
  (true, 7, o_gf 6 2),
  (true, 10, o_ic 1),
  (true, 11, o_ii (fun x y => x - y)),
  (true, 12, o_cs zi_X6_in 3),
  (true, 15, o_zr)]
set_option maxRecDepth 100000 in
set_option maxHeartbeats 4000000 in
theorem zk_X6_isHouse (kc ks : Nat) : z_OK (zS RX6 cX6_isHouse 2 "isHouse" (some .boolean) 6 135 kc ks) zp_X6_isHouse := by
  unfold zp_X6_isHouse
  refine And.intro (s_aload_n dX6_isHouse_0 rfl) ?_
  refine And.intro (s_callV (C := RX6) (T := TX6) (N := 41) rfl zf_X6_reads zg_X6_reads zl_970 ⟨rfl, rfl⟩ dX6_isHouse_1) ?_
  refine And.intro (s_iload_n dX6_isHouse_4 rfl) ?_
  refine And.intro (s_iconst dX6_isHouse_5 (by decide)) ?_
  refine And.intro (s_aload_n dX6_isHouse_6 rfl) ?_
  refine And.intro (s_getf (C := RX6) (T := TX6) (N := 41) rfl zin_X6 (by decide) zl_793 dX6_isHouse_7) ?_
  refine And.intro (s_iconst dX6_isHouse_10 (by decide)) ?_
  refine And.intro (s_isub dX6_isHouse_11) ?_
  refine And.intro (s_callS zf_X6_in zl_924 zl_923 ⟨rfl, rfl⟩ dX6_isHouse_12) ?_
  refine And.intro (s_zreturn rfl dX6_isHouse_15) ?_
  exact trivial
def zp_X6_ask : List (Bool × Nat × zOp) := [
  (true, 0, o_al 0),
  (true, 1, o_il 1),
  (true, 2, o_cv zi_X6_isHouse 1 6),
  (true, 5, o_if (fun x => x = 0) 16),
  (true, 8, o_al 0),
  (true, 9, o_il 1),
  (true, 10, o_cv zi_X6_askOf 1 6),
  (true, 13, o_go 18),
  (true, 16, o_ic (-2)),
  (true, 18, o_ir)]
set_option maxRecDepth 100000 in
set_option maxHeartbeats 4000000 in
theorem zk_X6_ask (kc ks : Nat) : z_OK (zS RX6 cX6_ask 2 "ask" (some .int) 9 210 kc ks) zp_X6_ask := by
  unfold zp_X6_ask
  refine And.intro (s_aload_n dX6_ask_0 rfl) ?_
  refine And.intro (s_iload_n dX6_ask_1 rfl) ?_
  refine And.intro (s_callV (C := RX6) (T := TX6) (N := 41) rfl zf_X6_isHouse zg_X6_isHouse zl_966 ⟨rfl, rfl⟩ dX6_ask_2) ?_
  refine And.intro (s_if_eq dX6_ask_5 (by decide)) ?_
  refine And.intro (s_aload_n dX6_ask_8 rfl) ?_
  refine And.intro (s_iload_n dX6_ask_9 rfl) ?_
  refine And.intro (s_callV (C := RX6) (T := TX6) (N := 41) rfl zf_X6_askOf zg_X6_askOf zl_1184 ⟨rfl, rfl⟩ dX6_ask_10) ?_
  refine And.intro (s_goto dX6_ask_13 (by decide)) ?_
  refine And.intro (s_bipush dX6_ask_16 (by decide)) ?_
  refine And.intro (s_ireturn rfl (fun _ => rfl) dX6_ask_18) ?_
  exact trivial
def zp_X6_back : List (Bool × Nat × zOp) := [
  (true, 0, o_il 1),
  (true, 1, o_ic 0),
  (true, 2, o_ic 1),
  (true, 3, o_cs zi_X6_in 3),
  (true, 6, o_in (fun x => x = 0) 12),
  (true, 9, o_ic (-2)),
  (true, 11, o_ir),
  (true, 12, o_il 1),
  (true, 13, o_in (fun x => x = 0) 23),
  (true, 16, o_al 0),
  (true, 17, o_gf 6 11),
  (true, 20, o_go 27),
  (true, 23, o_al 0),
  (true, 24, o_gf 6 15),
  (true, 27, o_is 2),
  (true, 28, o_il 2),
  (true, 29, o_in (fun x => x = 0) 35),
  (true, 32, o_ic (-3)),
  (true, 34, o_ir),
  (true, 35, o_al 0),
  (true, 36, o_dup),
  (true, 37, o_gf 6 11),
  (true, 40, o_il 1),
  (true, 41, o_in (fun x => x = 0) 48),
  (true, 44, o_ic 1),
  (true, 45, o_go 49),
  (true, 48, o_ic 0),
  (true, 49, o_ii (fun x y => x - y)),
  (true, 50, o_pi 6 11),
  (true, 53, o_al 0),
  (true, 54, o_dup),
  (true, 55, o_gf 6 15),
  (true, 58, o_il 1),
  (true, 59, o_ic 1),
  (true, 60, o_cn (fun x y => x = y) 67),
  (true, 63, o_ic 1),
  (true, 64, o_go 68),
  (true, 67, o_ic 0),
  (true, 68, o_ii (fun x y => x - y)),
  (true, 69, o_pi 6 15),
  (true, 72, o_il 2),
  (true, 73, o_ic 1),
  (true, 74, o_ii (fun x y => x - y)),
  (true, 75, o_ir)]
set_option maxRecDepth 100000 in
set_option maxHeartbeats 4000000 in
theorem zk_X6_back (kc ks : Nat) : z_OK (zS RX6 cX6_back 3 "back" (some .int) 1 22 kc ks) zp_X6_back := by
  unfold zp_X6_back
  refine And.intro (s_iload_n dX6_back_0 rfl) ?_
  refine And.intro (s_iconst dX6_back_1 (by decide)) ?_
  refine And.intro (s_iconst dX6_back_2 (by decide)) ?_
  refine And.intro (s_callS zf_X6_in zl_924 zl_923 ⟨rfl, rfl⟩ dX6_back_3) ?_
  refine And.intro (s_if_ne dX6_back_6 (by decide)) ?_
  refine And.intro (s_bipush dX6_back_9 (by decide)) ?_
  refine And.intro (s_ireturn rfl (fun _ => rfl) dX6_back_11) ?_
  refine And.intro (s_iload_n dX6_back_12 rfl) ?_
  refine And.intro (s_if_ne dX6_back_13 (by decide)) ?_
  refine And.intro (s_aload_n dX6_back_16 rfl) ?_
  refine And.intro (s_getf (C := RX6) (T := TX6) (N := 41) rfl zin_X6 (by decide) zl_802 dX6_back_17) ?_
  refine And.intro (s_goto dX6_back_20 (by decide)) ?_
  refine And.intro (s_aload_n dX6_back_23 rfl) ?_
  refine And.intro (s_getf (C := RX6) (T := TX6) (N := 41) rfl zin_X6 (by decide) zl_806 dX6_back_24) ?_
  refine And.intro (s_istore_n dX6_back_27 rfl) ?_
  refine And.intro (s_iload_n dX6_back_28 rfl) ?_
  refine And.intro (s_if_ne dX6_back_29 (by decide)) ?_
  refine And.intro (s_bipush dX6_back_32 (by decide)) ?_
  refine And.intro (s_ireturn rfl (fun _ => rfl) dX6_back_34) ?_
  refine And.intro (s_aload_n dX6_back_35 rfl) ?_
  refine And.intro (s_dup dX6_back_36) ?_
  refine And.intro (s_getf (C := RX6) (T := TX6) (N := 41) rfl zin_X6 (by decide) zl_802 dX6_back_37) ?_
  refine And.intro (s_iload_n dX6_back_40 rfl) ?_
  refine And.intro (s_if_ne dX6_back_41 (by decide)) ?_
  refine And.intro (s_iconst dX6_back_44 (by decide)) ?_
  refine And.intro (s_goto dX6_back_45 (by decide)) ?_
  refine And.intro (s_iconst dX6_back_48 (by decide)) ?_
  refine And.intro (s_isub dX6_back_49) ?_
  refine And.intro (s_putI (C := RX6) (T := TX6) (N := 41) rfl zin_X6 (by decide) tyX6 tyX6_ok nmX6 zl_802 rfl (by decide +kernel) dX6_back_50) ?_
  refine And.intro (s_aload_n dX6_back_53 rfl) ?_
  refine And.intro (s_dup dX6_back_54) ?_
  refine And.intro (s_getf (C := RX6) (T := TX6) (N := 41) rfl zin_X6 (by decide) zl_806 dX6_back_55) ?_
  refine And.intro (s_iload_n dX6_back_58 rfl) ?_
  refine And.intro (s_iconst dX6_back_59 (by decide)) ?_
  refine And.intro (s_icmp_ne dX6_back_60 (by decide)) ?_
  refine And.intro (s_iconst dX6_back_63 (by decide)) ?_
  refine And.intro (s_goto dX6_back_64 (by decide)) ?_
  refine And.intro (s_iconst dX6_back_67 (by decide)) ?_
  refine And.intro (s_isub dX6_back_68) ?_
  refine And.intro (s_putI (C := RX6) (T := TX6) (N := 41) rfl zin_X6 (by decide) tyX6 tyX6_ok nmX6 zl_806 rfl (by decide +kernel) dX6_back_69) ?_
  refine And.intro (s_iload_n dX6_back_72 rfl) ?_
  refine And.intro (s_iconst dX6_back_73 (by decide)) ?_
  refine And.intro (s_isub dX6_back_74) ?_
  refine And.intro (s_ireturn rfl (fun _ => rfl) dX6_back_75) ?_
  exact trivial
def zp_X6_runsTold : List (Bool × Nat × zOp) := [
  (true, 0, o_al 0),
  (true, 1, o_cv zi_X6_asTold 0 6),
  (true, 4, o_al 0),
  (true, 5, o_cv zi_X6_runs 0 6),
  (true, 8, o_vr)]
set_option maxRecDepth 100000 in
set_option maxHeartbeats 4000000 in
theorem zk_X6_runsTold (kc ks : Nat) : z_OK (zS RX6 cX6_runsTold 1 "runsTold" none 7 156 kc ks) zp_X6_runsTold := by
  unfold zp_X6_runsTold
  refine And.intro (s_aload_n dX6_runsTold_0 rfl) ?_
  refine And.intro (s_callV (C := RX6) (T := TX6) (N := 41) rfl zf_X6_asTold zg_X6_asTold zl_1029 ⟨rfl, rfl⟩ dX6_runsTold_1) ?_
  refine And.intro (s_aload_n dX6_runsTold_4 rfl) ?_
  refine And.intro (s_callV (C := RX6) (T := TX6) (N := 41) rfl zf_X6_runs zg_X6_runs zl_1033 ⟨rfl, rfl⟩ dX6_runsTold_5) ?_
  refine And.intro (s_vreturn rfl dX6_runsTold_8) ?_
  exact trivial
def zp_X6_bagOf : List (Bool × Nat × zOp) := [
  (true, 0, o_al 0),
  (true, 1, o_cv zi_X6_runsTold 0 6),
  (true, 4, o_il 2),
  (true, 5, o_in (fun x => x = 0) 17),
  (true, 8, o_al 0),
  (true, 9, o_gf 6 25),
  (true, 12, o_il 1),
  (true, 13, o_ia),
  (true, 14, o_go 51),
  (true, 17, o_il 2),
  (true, 18, o_ic 1),
  (true, 19, o_cn (fun x y => x = y) 31),
  (true, 22, o_al 0),
  (true, 23, o_gf 6 26),
  (true, 26, o_il 1),
  (true, 27, o_ia),
  (true, 28, o_go 51),
  (true, 31, o_il 2),
  (true, 32, o_ic 2),
  (true, 33, o_cn (fun x y => x = y) 45),
  (true, 36, o_al 0),
  (true, 37, o_gf 6 27),
  (true, 40, o_il 1),
  (true, 41, o_ia),
  (true, 42, o_go 51),
  (true, 45, o_al 0),
  (true, 46, o_gf 6 28),
  (true, 49, o_il 1),
  (true, 50, o_ia),
  (true, 51, o_ir)]
set_option maxRecDepth 100000 in
set_option maxHeartbeats 4000000 in
theorem zk_X6_bagOf (kc ks : Nat) : z_OK (zS RX6 cX6_bagOf 3 "bagOf" (some .int) 8 176 kc ks) zp_X6_bagOf := by
  unfold zp_X6_bagOf
  refine And.intro (s_aload_n dX6_bagOf_0 rfl) ?_
  refine And.intro (s_callV (C := RX6) (T := TX6) (N := 41) rfl zf_X6_runsTold zg_X6_runsTold zl_1025 ⟨rfl, rfl⟩ dX6_bagOf_1) ?_
  refine And.intro (s_iload_n dX6_bagOf_4 rfl) ?_
  refine And.intro (s_if_ne dX6_bagOf_5 (by decide)) ?_
  refine And.intro (s_aload_n dX6_bagOf_8 rfl) ?_
  refine And.intro (s_getf (C := RX6) (T := TX6) (N := 41) rfl zin_X6 (by decide) zl_816 dX6_bagOf_9) ?_
  refine And.intro (s_iload_n dX6_bagOf_12 rfl) ?_
  refine And.intro (s_iaload dX6_bagOf_13) ?_
  refine And.intro (s_goto dX6_bagOf_14 (by decide)) ?_
  refine And.intro (s_iload_n dX6_bagOf_17 rfl) ?_
  refine And.intro (s_iconst dX6_bagOf_18 (by decide)) ?_
  refine And.intro (s_icmp_ne dX6_bagOf_19 (by decide)) ?_
  refine And.intro (s_aload_n dX6_bagOf_22 rfl) ?_
  refine And.intro (s_getf (C := RX6) (T := TX6) (N := 41) rfl zin_X6 (by decide) zl_817 dX6_bagOf_23) ?_
  refine And.intro (s_iload_n dX6_bagOf_26 rfl) ?_
  refine And.intro (s_iaload dX6_bagOf_27) ?_
  refine And.intro (s_goto dX6_bagOf_28 (by decide)) ?_
  refine And.intro (s_iload_n dX6_bagOf_31 rfl) ?_
  refine And.intro (s_iconst dX6_bagOf_32 (by decide)) ?_
  refine And.intro (s_icmp_ne dX6_bagOf_33 (by decide)) ?_
  refine And.intro (s_aload_n dX6_bagOf_36 rfl) ?_
  refine And.intro (s_getf (C := RX6) (T := TX6) (N := 41) rfl zin_X6 (by decide) zl_818 dX6_bagOf_37) ?_
  refine And.intro (s_iload_n dX6_bagOf_40 rfl) ?_
  refine And.intro (s_iaload dX6_bagOf_41) ?_
  refine And.intro (s_goto dX6_bagOf_42 (by decide)) ?_
  refine And.intro (s_aload_n dX6_bagOf_45 rfl) ?_
  refine And.intro (s_getf (C := RX6) (T := TX6) (N := 41) rfl zin_X6 (by decide) zl_819 dX6_bagOf_46) ?_
  refine And.intro (s_iload_n dX6_bagOf_49 rfl) ?_
  refine And.intro (s_iaload dX6_bagOf_50) ?_
  refine And.intro (s_ireturn rfl (fun _ => rfl) dX6_bagOf_51) ?_
  exact trivial
def zp_X6_isHour : List (Bool × Nat × zOp) := [
  (true, 0, o_il 0),
  (true, 1, o_ic 0),
  (true, 2, o_ic 39),
  (true, 4, o_cs zi_X6_in 3),
  (true, 7, o_zr)]
set_option maxRecDepth 100000 in
set_option maxHeartbeats 4000000 in
theorem zk_X6_isHour (kc ks : Nat) : z_OK (zS RX6 cX6_isHour 1 "isHour" (some .boolean) 1 22 kc ks) zp_X6_isHour := by
  unfold zp_X6_isHour
  refine And.intro (s_iload_n dX6_isHour_0 rfl) ?_
  refine And.intro (s_iconst dX6_isHour_1 (by decide)) ?_
  refine And.intro (s_bipush dX6_isHour_2 (by decide)) ?_
  refine And.intro (s_callS zf_X6_in zl_924 zl_923 ⟨rfl, rfl⟩ dX6_isHour_4) ?_
  refine And.intro (s_zreturn rfl dX6_isHour_7) ?_
  exact trivial
def zp_X6_bag : List (Bool × Nat × zOp) := [
  (true, 0, o_il 1),
  (true, 1, o_cs zi_X6_isHour 1),
  (true, 4, o_if (fun x => x = 0) 25),
  (true, 7, o_il 2),
  (true, 8, o_ic 0),
  (true, 9, o_ic 3),
  (true, 10, o_cs zi_X6_in 3),
  (true, 13, o_if (fun x => x = 0) 25),
  (true, 16, o_al 0),
  (true, 17, o_il 1),
  (true, 18, o_il 2),
  (true, 19, o_cv zi_X6_bagOf 2 6),
  (true, 22, o_go 27),
  (true, 25, o_ic (-2)),
  (true, 27, o_ir)]
set_option maxRecDepth 100000 in
set_option maxHeartbeats 4000000 in
theorem zk_X6_bag (kc ks : Nat) : z_OK (zS RX6 cX6_bag 3 "bag" (some .int) 9 198 kc ks) zp_X6_bag := by
  unfold zp_X6_bag
  refine And.intro (s_iload_n dX6_bag_0 rfl) ?_
  refine And.intro (s_callS zf_X6_isHour zl_983 zl_982 ⟨rfl, rfl⟩ dX6_bag_1) ?_
  refine And.intro (s_if_eq dX6_bag_4 (by decide)) ?_
  refine And.intro (s_iload_n dX6_bag_7 rfl) ?_
  refine And.intro (s_iconst dX6_bag_8 (by decide)) ?_
  refine And.intro (s_iconst dX6_bag_9 (by decide)) ?_
  refine And.intro (s_callS zf_X6_in zl_924 zl_923 ⟨rfl, rfl⟩ dX6_bag_10) ?_
  refine And.intro (s_if_eq dX6_bag_13 (by decide)) ?_
  refine And.intro (s_aload_n dX6_bag_16 rfl) ?_
  refine And.intro (s_iload_n dX6_bag_17 rfl) ?_
  refine And.intro (s_iload_n dX6_bag_18 rfl) ?_
  refine And.intro (s_callV (C := RX6) (T := TX6) (N := 41) rfl zf_X6_bagOf zg_X6_bagOf zl_1021 ⟨rfl, rfl⟩ dX6_bag_19) ?_
  refine And.intro (s_goto dX6_bag_22 (by decide)) ?_
  refine And.intro (s_bipush dX6_bag_25 (by decide)) ?_
  refine And.intro (s_ireturn rfl (fun _ => rfl) dX6_bag_27) ?_
  exact trivial
def zp_X6_isSheet : List (Bool × Nat × zOp) := [
  (true, 0, o_il 0),
  (true, 1, o_ic 0),
  (true, 2, o_ic 3),
  (true, 3, o_cs zi_X6_in 3),
  (true, 6, o_zr)]
set_option maxRecDepth 100000 in
set_option maxHeartbeats 4000000 in
theorem zk_X6_isSheet (kc ks : Nat) : z_OK (zS RX6 cX6_isSheet 1 "isSheet" (some .boolean) 1 22 kc ks) zp_X6_isSheet := by
  unfold zp_X6_isSheet
  refine And.intro (s_iload_n dX6_isSheet_0 rfl) ?_
  refine And.intro (s_iconst dX6_isSheet_1 (by decide)) ?_
  refine And.intro (s_iconst dX6_isSheet_2 (by decide)) ?_
  refine And.intro (s_callS zf_X6_in zl_924 zl_923 ⟨rfl, rfl⟩ dX6_isSheet_3) ?_
  refine And.intro (s_zreturn rfl dX6_isSheet_6) ?_
  exact trivial
def zp_X6_meets : List (Bool × Nat × zOp) := [
  (true, 0, o_al 0),
  (true, 1, o_il 1),
  (true, 2, o_pi 6 40),
  (true, 5, o_ic (-10)),
  (true, 7, o_il 1),
  (true, 8, o_ii (fun x y => x - y)),
  (true, 9, o_ir)]
set_option maxRecDepth 100000 in
set_option maxHeartbeats 4000000 in
theorem zk_X6_meets (kc ks : Nat) : z_OK (zS RX6 cX6_meets 2 "meets" (some .int) 0 0 kc ks) zp_X6_meets := by
  unfold zp_X6_meets
  refine And.intro (s_aload_n dX6_meets_0 rfl) ?_
  refine And.intro (s_iload_n dX6_meets_1 rfl) ?_
  refine And.intro (s_putI (C := RX6) (T := TX6) (N := 41) rfl zin_X6 (by decide) tyX6 tyX6_ok nmX6 zl_831 rfl (by decide +kernel) dX6_meets_2) ?_
  refine And.intro (s_bipush dX6_meets_5 (by decide)) ?_
  refine And.intro (s_iload_n dX6_meets_7 rfl) ?_
  refine And.intro (s_isub dX6_meets_8) ?_
  refine And.intro (s_ireturn rfl (fun _ => rfl) dX6_meets_9) ?_
  exact trivial
def zp_X6_copy : List (Bool × Nat × zOp) := [
  (true, 0, o_il 1),
  (true, 1, o_cs zi_X6_isSheet 1),
  (true, 4, o_if (fun x => x = 0) 14),
  (true, 7, o_il 3),
  (true, 8, o_cs zi_X6_isSheet 1),
  (true, 11, o_in (fun x => x = 0) 17),
  (true, 14, o_ic (-2)),
  (true, 16, o_ir),
  (true, 17, o_al 0),
  (true, 18, o_gf 6 35),
  (true, 21, o_il 1),
  (true, 22, o_ba),
  (true, 23, o_if (fun x => x = 0) 35),
  (true, 26, o_al 0),
  (true, 27, o_gf 6 35),
  (true, 30, o_il 3),
  (true, 31, o_ba),
  (true, 32, o_in (fun x => x = 0) 41),
  (true, 35, o_al 0),
  (true, 36, o_ic 1),
  (true, 37, o_cv zi_X6_meets 1 6),
  (true, 40, o_ir),
  (true, 41, o_al 0),
  (true, 42, o_gf 6 36),
  (true, 45, o_il 1),
  (true, 46, o_ia),
  (true, 47, o_al 0),
  (true, 48, o_gf 6 36),
  (true, 51, o_il 3),
  (true, 52, o_ia),
  (true, 53, o_cmp (fun x y => x = y) 62),
  (true, 56, o_al 0),
  (true, 57, o_ic 4),
  (true, 58, o_cv zi_X6_meets 1 6),
  (true, 61, o_ir),
  (true, 62, o_il 2),
  (true, 63, o_if (fun x => x < 0) 111),
  (true, 66, o_il 4),
  (true, 68, o_if (fun x => x < 0) 111),
  (true, 71, o_il 5),
  (true, 73, o_if (fun x => x < 0) 111),
  (true, 76, o_il 2),
  (true, 77, o_i2l),
  (true, 78, o_il 5),
  (true, 80, o_i2l),
  (true, 81, o_jj (fun x y => x + y)),
  (true, 82, o_al 0),
  (true, 83, o_gf 6 37),
  (true, 86, o_il 1),
  (true, 87, o_ia),
  (true, 88, o_i2l),
  (true, 89, o_jc lg_cmp),
  (true, 90, o_if (fun x => 0 < x) 111),
  (true, 93, o_il 4),
  (true, 95, o_i2l),
  (true, 96, o_il 5),
  (true, 98, o_i2l),
  (true, 99, o_jj (fun x y => x + y)),
  (true, 100, o_al 0),
  (true, 101, o_gf 6 37),
  (true, 104, o_il 3),
  (true, 105, o_ia),
  (true, 106, o_i2l),
  (true, 107, o_jc lg_cmp),
  (true, 108, o_if (fun x => x ≤ 0) 117),
  (true, 111, o_al 0),
  (true, 112, o_ic 2),
  (true, 113, o_cv zi_X6_meets 1 6),
  (true, 116, o_ir),
  (true, 117, o_ic 0),
  (true, 118, o_is 6),
  (false, 120, o_mark 120 []),
  (true, 120, o_il 6),
  (true, 122, o_il 5),
  (true, 124, o_cmp (fun x y => y ≤ x) 154),
  (true, 127, o_al 0),
  (true, 128, o_gf 6 39),
  (true, 131, o_il 6),
  (true, 133, o_al 0),
  (true, 134, o_gf 6 38),
  (true, 137, o_ic 60),
  (true, 139, o_il 1),
  (true, 140, o_ii (fun x y => x * y)),
  (true, 141, o_il 2),
  (true, 142, o_ii (fun x y => x + y)),
  (true, 143, o_il 6),
  (true, 145, o_ii (fun x y => x + y)),
  (true, 146, o_ia),
  (true, 147, o_iw),
  (true, 148, o_inc 6 1),
  (true, 151, o_gb 120 []),
  (true, 154, o_ic 0),
  (true, 155, o_is 6),
  (false, 157, o_mark 157 [1, 2]),
  (true, 157, o_il 6),
  (true, 159, o_il 5),
  (true, 161, o_cmp (fun x y => y ≤ x) 192),
  (true, 164, o_al 0),
  (true, 165, o_gf 6 38),
  (true, 168, o_ic 60),
  (true, 170, o_il 3),
  (true, 171, o_ii (fun x y => x * y)),
  (true, 172, o_il 4),
  (true, 174, o_ii (fun x y => x + y)),
  (true, 175, o_il 6),
  (true, 177, o_ii (fun x y => x + y)),
  (true, 178, o_al 0),
  (true, 179, o_gf 6 39),
  (true, 182, o_il 6),
  (true, 184, o_ia),
  (true, 185, o_iw),
  (true, 186, o_inc 6 1),
  (true, 189, o_gb 157 [1, 2]),
  (true, 192, o_ic 1),
  (true, 193, o_ir)]
set_option maxRecDepth 100000 in
set_option maxHeartbeats 4000000 in
theorem zk_X6_copy (kc ks : Nat) : z_OK (zS RX6 cX6_copy 7 "copy" (some .int) 2 42 kc ks) zp_X6_copy := by
  unfold zp_X6_copy
  refine And.intro (s_iload_n dX6_copy_0 rfl) ?_
  refine And.intro (s_callS zf_X6_isSheet zl_1010 zl_1009 ⟨rfl, rfl⟩ dX6_copy_1) ?_
  refine And.intro (s_if_eq dX6_copy_4 (by decide)) ?_
  refine And.intro (s_iload_n dX6_copy_7 rfl) ?_
  refine And.intro (s_callS zf_X6_isSheet zl_1010 zl_1009 ⟨rfl, rfl⟩ dX6_copy_8) ?_
  refine And.intro (s_if_ne dX6_copy_11 (by decide)) ?_
  refine And.intro (s_bipush dX6_copy_14 (by decide)) ?_
  refine And.intro (s_ireturn rfl (fun _ => rfl) dX6_copy_16) ?_
  refine And.intro (s_aload_n dX6_copy_17 rfl) ?_
  refine And.intro (s_getf (C := RX6) (T := TX6) (N := 41) rfl zin_X6 (by decide) zl_826 dX6_copy_18) ?_
  refine And.intro (s_iload_n dX6_copy_21 rfl) ?_
  refine And.intro (s_baload dX6_copy_22) ?_
  refine And.intro (s_if_eq dX6_copy_23 (by decide)) ?_
  refine And.intro (s_aload_n dX6_copy_26 rfl) ?_
  refine And.intro (s_getf (C := RX6) (T := TX6) (N := 41) rfl zin_X6 (by decide) zl_826 dX6_copy_27) ?_
  refine And.intro (s_iload_n dX6_copy_30 rfl) ?_
  refine And.intro (s_baload dX6_copy_31) ?_
  refine And.intro (s_if_ne dX6_copy_32 (by decide)) ?_
  refine And.intro (s_aload_n dX6_copy_35 rfl) ?_
  refine And.intro (s_iconst dX6_copy_36 (by decide)) ?_
  refine And.intro (s_callV (C := RX6) (T := TX6) (N := 41) rfl zf_X6_meets zg_X6_meets zl_1012 ⟨rfl, rfl⟩ dX6_copy_37) ?_
  refine And.intro (s_ireturn rfl (fun _ => rfl) dX6_copy_40) ?_
  refine And.intro (s_aload_n dX6_copy_41 rfl) ?_
  refine And.intro (s_getf (C := RX6) (T := TX6) (N := 41) rfl zin_X6 (by decide) zl_827 dX6_copy_42) ?_
  refine And.intro (s_iload_n dX6_copy_45 rfl) ?_
  refine And.intro (s_iaload dX6_copy_46) ?_
  refine And.intro (s_aload_n dX6_copy_47 rfl) ?_
  refine And.intro (s_getf (C := RX6) (T := TX6) (N := 41) rfl zin_X6 (by decide) zl_827 dX6_copy_48) ?_
  refine And.intro (s_iload_n dX6_copy_51 rfl) ?_
  refine And.intro (s_iaload dX6_copy_52) ?_
  refine And.intro (s_icmp_eq dX6_copy_53 (by decide)) ?_
  refine And.intro (s_aload_n dX6_copy_56 rfl) ?_
  refine And.intro (s_iconst dX6_copy_57 (by decide)) ?_
  refine And.intro (s_callV (C := RX6) (T := TX6) (N := 41) rfl zf_X6_meets zg_X6_meets zl_1012 ⟨rfl, rfl⟩ dX6_copy_58) ?_
  refine And.intro (s_ireturn rfl (fun _ => rfl) dX6_copy_61) ?_
  refine And.intro (s_iload_n dX6_copy_62 rfl) ?_
  refine And.intro (s_if_lt dX6_copy_63 (by decide)) ?_
  refine And.intro (s_iload dX6_copy_66) ?_
  refine And.intro (s_if_lt dX6_copy_68 (by decide)) ?_
  refine And.intro (s_iload dX6_copy_71) ?_
  refine And.intro (s_if_lt dX6_copy_73 (by decide)) ?_
  refine And.intro (s_iload_n dX6_copy_76 rfl) ?_
  refine And.intro (s_i2l dX6_copy_77) ?_
  refine And.intro (s_iload dX6_copy_78) ?_
  refine And.intro (s_i2l dX6_copy_80) ?_
  refine And.intro (s_ladd dX6_copy_81) ?_
  refine And.intro (s_aload_n dX6_copy_82 rfl) ?_
  refine And.intro (s_getf (C := RX6) (T := TX6) (N := 41) rfl zin_X6 (by decide) zl_828 dX6_copy_83) ?_
  refine And.intro (s_iload_n dX6_copy_86 rfl) ?_
  refine And.intro (s_iaload dX6_copy_87) ?_
  refine And.intro (s_i2l dX6_copy_88) ?_
  refine And.intro (s_lcmp dX6_copy_89) ?_
  refine And.intro (s_if_gt dX6_copy_90 (by decide)) ?_
  refine And.intro (s_iload dX6_copy_93) ?_
  refine And.intro (s_i2l dX6_copy_95) ?_
  refine And.intro (s_iload dX6_copy_96) ?_
  refine And.intro (s_i2l dX6_copy_98) ?_
  refine And.intro (s_ladd dX6_copy_99) ?_
  refine And.intro (s_aload_n dX6_copy_100 rfl) ?_
  refine And.intro (s_getf (C := RX6) (T := TX6) (N := 41) rfl zin_X6 (by decide) zl_828 dX6_copy_101) ?_
  refine And.intro (s_iload_n dX6_copy_104 rfl) ?_
  refine And.intro (s_iaload dX6_copy_105) ?_
  refine And.intro (s_i2l dX6_copy_106) ?_
  refine And.intro (s_lcmp dX6_copy_107) ?_
  refine And.intro (s_if_le dX6_copy_108 (by decide)) ?_
  refine And.intro (s_aload_n dX6_copy_111 rfl) ?_
  refine And.intro (s_iconst dX6_copy_112 (by decide)) ?_
  refine And.intro (s_callV (C := RX6) (T := TX6) (N := 41) rfl zf_X6_meets zg_X6_meets zl_1012 ⟨rfl, rfl⟩ dX6_copy_113) ?_
  refine And.intro (s_ireturn rfl (fun _ => rfl) dX6_copy_116) ?_
  refine And.intro (s_iconst dX6_copy_117 (by decide)) ?_
  refine And.intro (s_istore dX6_copy_118) ?_
  refine And.intro (s_mark) ?_
  refine And.intro (s_iload dX6_copy_120) ?_
  refine And.intro (s_iload dX6_copy_122) ?_
  refine And.intro (s_icmp_ge dX6_copy_124 (by decide)) ?_
  refine And.intro (s_aload_n dX6_copy_127 rfl) ?_
  refine And.intro (s_getf (C := RX6) (T := TX6) (N := 41) rfl zin_X6 (by decide) zl_830 dX6_copy_128) ?_
  refine And.intro (s_iload dX6_copy_131) ?_
  refine And.intro (s_aload_n dX6_copy_133 rfl) ?_
  refine And.intro (s_getf (C := RX6) (T := TX6) (N := 41) rfl zin_X6 (by decide) zl_829 dX6_copy_134) ?_
  refine And.intro (s_bipush dX6_copy_137 (by decide)) ?_
  refine And.intro (s_iload_n dX6_copy_139 rfl) ?_
  refine And.intro (s_imul dX6_copy_140) ?_
  refine And.intro (s_iload_n dX6_copy_141 rfl) ?_
  refine And.intro (s_iadd dX6_copy_142) ?_
  refine And.intro (s_iload dX6_copy_143) ?_
  refine And.intro (s_iadd dX6_copy_145) ?_
  refine And.intro (s_iaload dX6_copy_146) ?_
  refine And.intro (s_iastore dX6_copy_147) ?_
  refine And.intro (s_iinc dX6_copy_148 (by decide)) ?_
  refine And.intro (s_gotob dX6_copy_151 (by decide)) ?_
  refine And.intro (s_iconst dX6_copy_154 (by decide)) ?_
  refine And.intro (s_istore dX6_copy_155) ?_
  refine And.intro (s_mark) ?_
  refine And.intro (s_iload dX6_copy_157) ?_
  refine And.intro (s_iload dX6_copy_159) ?_
  refine And.intro (s_icmp_ge dX6_copy_161 (by decide)) ?_
  refine And.intro (s_aload_n dX6_copy_164 rfl) ?_
  refine And.intro (s_getf (C := RX6) (T := TX6) (N := 41) rfl zin_X6 (by decide) zl_829 dX6_copy_165) ?_
  refine And.intro (s_bipush dX6_copy_168 (by decide)) ?_
  refine And.intro (s_iload_n dX6_copy_170 rfl) ?_
  refine And.intro (s_imul dX6_copy_171) ?_
  refine And.intro (s_iload dX6_copy_172) ?_
  refine And.intro (s_iadd dX6_copy_174) ?_
  refine And.intro (s_iload dX6_copy_175) ?_
  refine And.intro (s_iadd dX6_copy_177) ?_
  refine And.intro (s_aload_n dX6_copy_178 rfl) ?_
  refine And.intro (s_getf (C := RX6) (T := TX6) (N := 41) rfl zin_X6 (by decide) zl_830 dX6_copy_179) ?_
  refine And.intro (s_iload dX6_copy_182) ?_
  refine And.intro (s_iaload dX6_copy_184) ?_
  refine And.intro (s_iastore dX6_copy_185) ?_
  refine And.intro (s_iinc dX6_copy_186 (by decide)) ?_
  refine And.intro (s_gotob dX6_copy_189 (by decide)) ?_
  refine And.intro (s_iconst dX6_copy_192 (by decide)) ?_
  refine And.intro (s_ireturn rfl (fun _ => rfl) dX6_copy_193) ?_
  exact trivial
def zp_X6_shortOf : List (Bool × Nat × zOp) := [
  (true, 0, o_ic 0),
  (true, 1, o_is 2),
  (true, 2, o_ic 0),
  (true, 3, o_is 3),
  (false, 4, o_mark 4 []),
  (true, 4, o_il 3),
  (true, 5, o_ic 40),
  (true, 7, o_cmp (fun x y => y ≤ x) 37),
  (true, 10, o_il 2),
  (true, 11, o_al 0),
  (true, 12, o_gf 6 28),
  (true, 15, o_il 3),
  (true, 16, o_ia),
  (true, 17, o_il 1),
  (true, 18, o_cs zi_X6_isIn 2),
  (true, 21, o_if (fun x => x = 0) 28),
  (true, 24, o_ic 1),
  (true, 25, o_go 29),
  (true, 28, o_ic 0),
  (true, 29, o_ii (fun x y => x + y)),
  (true, 30, o_is 2),
  (true, 31, o_inc 3 1),
  (true, 34, o_gb 4 []),
  (true, 37, o_il 2),
  (true, 38, o_ir)]
set_option maxRecDepth 100000 in
set_option maxHeartbeats 4000000 in
theorem zk_X6_shortOf (kc ks : Nat) : z_OK (zS RX6 cX6_shortOf 4 "shortOf" (some .int) 1 21 kc ks) zp_X6_shortOf := by
  unfold zp_X6_shortOf
  refine And.intro (s_iconst dX6_shortOf_0 (by decide)) ?_
  refine And.intro (s_istore_n dX6_shortOf_1 rfl) ?_
  refine And.intro (s_iconst dX6_shortOf_2 (by decide)) ?_
  refine And.intro (s_istore_n dX6_shortOf_3 rfl) ?_
  refine And.intro (s_mark) ?_
  refine And.intro (s_iload_n dX6_shortOf_4 rfl) ?_
  refine And.intro (s_bipush dX6_shortOf_5 (by decide)) ?_
  refine And.intro (s_icmp_ge dX6_shortOf_7 (by decide)) ?_
  refine And.intro (s_iload_n dX6_shortOf_10 rfl) ?_
  refine And.intro (s_aload_n dX6_shortOf_11 rfl) ?_
  refine And.intro (s_getf (C := RX6) (T := TX6) (N := 41) rfl zin_X6 (by decide) zl_819 dX6_shortOf_12) ?_
  refine And.intro (s_iload_n dX6_shortOf_15 rfl) ?_
  refine And.intro (s_iaload dX6_shortOf_16) ?_
  refine And.intro (s_iload_n dX6_shortOf_17 rfl) ?_
  refine And.intro (s_callS zf_X6_isIn zl_1046 zl_1045 ⟨rfl, rfl⟩ dX6_shortOf_18) ?_
  refine And.intro (s_if_eq dX6_shortOf_21 (by decide)) ?_
  refine And.intro (s_iconst dX6_shortOf_24 (by decide)) ?_
  refine And.intro (s_goto dX6_shortOf_25 (by decide)) ?_
  refine And.intro (s_iconst dX6_shortOf_28 (by decide)) ?_
  refine And.intro (s_iadd dX6_shortOf_29) ?_
  refine And.intro (s_istore_n dX6_shortOf_30 rfl) ?_
  refine And.intro (s_iinc dX6_shortOf_31 (by decide)) ?_
  refine And.intro (s_gotob dX6_shortOf_34 (by decide)) ?_
  refine And.intro (s_iload_n dX6_shortOf_37 rfl) ?_
  refine And.intro (s_ireturn rfl (fun _ => rfl) dX6_shortOf_38) ?_
  exact trivial
def zp_X6_shortAll : List (Bool × Nat × zOp) := [
  (true, 0, o_ic 0),
  (true, 1, o_is 1),
  (true, 2, o_ic 0),
  (true, 3, o_is 2),
  (false, 4, o_mark 4 []),
  (true, 4, o_il 2),
  (true, 5, o_al 0),
  (true, 6, o_gf 6 2),
  (true, 9, o_cmp (fun x y => y ≤ x) 26),
  (true, 12, o_il 1),
  (true, 13, o_al 0),
  (true, 14, o_il 2),
  (true, 15, o_cv zi_X6_shortOf 1 6),
  (true, 18, o_ii (fun x y => x + y)),
  (true, 19, o_is 1),
  (true, 20, o_inc 2 1),
  (true, 23, o_gb 4 []),
  (true, 26, o_il 1),
  (true, 27, o_ir)]
set_option maxRecDepth 100000 in
set_option maxHeartbeats 4000000 in
theorem zk_X6_shortAll (kc ks : Nat) : z_OK (zS RX6 cX6_shortAll 3 "shortAll" (some .int) 2 44 kc ks) zp_X6_shortAll := by
  unfold zp_X6_shortAll
  refine And.intro (s_iconst dX6_shortAll_0 (by decide)) ?_
  refine And.intro (s_istore_n dX6_shortAll_1 rfl) ?_
  refine And.intro (s_iconst dX6_shortAll_2 (by decide)) ?_
  refine And.intro (s_istore_n dX6_shortAll_3 rfl) ?_
  refine And.intro (s_mark) ?_
  refine And.intro (s_iload_n dX6_shortAll_4 rfl) ?_
  refine And.intro (s_aload_n dX6_shortAll_5 rfl) ?_
  refine And.intro (s_getf (C := RX6) (T := TX6) (N := 41) rfl zin_X6 (by decide) zl_793 dX6_shortAll_6) ?_
  refine And.intro (s_icmp_ge dX6_shortAll_9 (by decide)) ?_
  refine And.intro (s_iload_n dX6_shortAll_12 rfl) ?_
  refine And.intro (s_aload_n dX6_shortAll_13 rfl) ?_
  refine And.intro (s_iload_n dX6_shortAll_14 rfl) ?_
  refine And.intro (s_callV (C := RX6) (T := TX6) (N := 41) rfl zf_X6_shortOf zg_X6_shortOf zl_1080 ⟨rfl, rfl⟩ dX6_shortAll_15) ?_
  refine And.intro (s_iadd dX6_shortAll_18) ?_
  refine And.intro (s_istore_n dX6_shortAll_19 rfl) ?_
  refine And.intro (s_iinc dX6_shortAll_20 (by decide)) ?_
  refine And.intro (s_gotob dX6_shortAll_23 (by decide)) ?_
  refine And.intro (s_iload_n dX6_shortAll_26 rfl) ?_
  refine And.intro (s_ireturn rfl (fun _ => rfl) dX6_shortAll_27) ?_
  exact trivial
def zp_X6_sumOf : List (Bool × Nat × zOp) := [
  (true, 0, o_al 0),
  (true, 1, o_cv zi_X6_runsTold 0 6),
  (true, 4, o_il 1),
  (true, 5, o_in (fun x => x = 0) 15),
  (true, 8, o_al 0),
  (true, 9, o_gf 6 2),
  (true, 12, o_go 31),
  (true, 15, o_il 1),
  (true, 16, o_ic 1),
  (true, 17, o_cn (fun x y => x = y) 27),
  (true, 20, o_al 0),
  (true, 21, o_gf 6 8),
  (true, 24, o_go 31),
  (true, 27, o_al 0),
  (true, 28, o_cv zi_X6_shortAll 0 6),
  (true, 31, o_ir)]
set_option maxRecDepth 100000 in
set_option maxHeartbeats 4000000 in
theorem zk_X6_sumOf (kc ks : Nat) : z_OK (zS RX6 cX6_sumOf 2 "sumOf" (some .int) 8 176 kc ks) zp_X6_sumOf := by
  unfold zp_X6_sumOf
  refine And.intro (s_aload_n dX6_sumOf_0 rfl) ?_
  refine And.intro (s_callV (C := RX6) (T := TX6) (N := 41) rfl zf_X6_runsTold zg_X6_runsTold zl_1025 ⟨rfl, rfl⟩ dX6_sumOf_1) ?_
  refine And.intro (s_iload_n dX6_sumOf_4 rfl) ?_
  refine And.intro (s_if_ne dX6_sumOf_5 (by decide)) ?_
  refine And.intro (s_aload_n dX6_sumOf_8 rfl) ?_
  refine And.intro (s_getf (C := RX6) (T := TX6) (N := 41) rfl zin_X6 (by decide) zl_793 dX6_sumOf_9) ?_
  refine And.intro (s_goto dX6_sumOf_12 (by decide)) ?_
  refine And.intro (s_iload_n dX6_sumOf_15 rfl) ?_
  refine And.intro (s_iconst dX6_sumOf_16 (by decide)) ?_
  refine And.intro (s_icmp_ne dX6_sumOf_17 (by decide)) ?_
  refine And.intro (s_aload_n dX6_sumOf_20 rfl) ?_
  refine And.intro (s_getf (C := RX6) (T := TX6) (N := 41) rfl zin_X6 (by decide) zl_799 dX6_sumOf_21) ?_
  refine And.intro (s_goto dX6_sumOf_24 (by decide)) ?_
  refine And.intro (s_aload_n dX6_sumOf_27 rfl) ?_
  refine And.intro (s_callV (C := RX6) (T := TX6) (N := 41) rfl zf_X6_shortAll zg_X6_shortAll zl_1116 ⟨rfl, rfl⟩ dX6_sumOf_28) ?_
  refine And.intro (s_ireturn rfl (fun _ => rfl) dX6_sumOf_31) ?_
  exact trivial
def zp_X6_count : List (Bool × Nat × zOp) := [
  (true, 0, o_il 1),
  (true, 1, o_sw 0 [52, 52, 58, 58, 67, 72, 52, 77, 82] 87),
  (true, 52, o_al 0),
  (true, 53, o_il 1),
  (true, 54, o_cv zi_X6_sumOf 1 6),
  (true, 57, o_ir),
  (true, 58, o_al 0),
  (true, 59, o_gf 6 0),
  (true, 62, o_il 1),
  (true, 63, o_ic 2),
  (true, 64, o_ii (fun x y => x - y)),
  (true, 65, o_ia),
  (true, 66, o_ir),
  (true, 67, o_al 0),
  (true, 68, o_gf 6 11),
  (true, 71, o_ir),
  (true, 72, o_al 0),
  (true, 73, o_gf 6 15),
  (true, 76, o_ir),
  (true, 77, o_al 0),
  (true, 78, o_gf 6 30),
  (true, 81, o_ir),
  (true, 82, o_al 0),
  (true, 83, o_gf 6 40),
  (true, 86, o_ir),
  (true, 87, o_ic (-2)),
  (true, 89, o_ir)]
set_option maxRecDepth 100000 in
set_option maxHeartbeats 4000000 in
theorem zk_X6_count (kc ks : Nat) : z_OK (zS RX6 cX6_count 2 "count" (some .int) 9 197 kc ks) zp_X6_count := by
  unfold zp_X6_count
  refine And.intro (s_iload_n dX6_count_0 rfl) ?_
  refine And.intro (s_tsw dX6_count_1 (by decide) (by decide) (by decide)) ?_
  refine And.intro (s_aload_n dX6_count_52 rfl) ?_
  refine And.intro (s_iload_n dX6_count_53 rfl) ?_
  refine And.intro (s_callV (C := RX6) (T := TX6) (N := 41) rfl zf_X6_sumOf zg_X6_sumOf zl_1249 ⟨rfl, rfl⟩ dX6_count_54) ?_
  refine And.intro (s_ireturn rfl (fun _ => rfl) dX6_count_57) ?_
  refine And.intro (s_aload_n dX6_count_58 rfl) ?_
  refine And.intro (s_getf (C := RX6) (T := TX6) (N := 41) rfl zin_X6 (by decide) zl_791 dX6_count_59) ?_
  refine And.intro (s_iload_n dX6_count_62 rfl) ?_
  refine And.intro (s_iconst dX6_count_63 (by decide)) ?_
  refine And.intro (s_isub dX6_count_64) ?_
  refine And.intro (s_iaload dX6_count_65) ?_
  refine And.intro (s_ireturn rfl (fun _ => rfl) dX6_count_66) ?_
  refine And.intro (s_aload_n dX6_count_67 rfl) ?_
  refine And.intro (s_getf (C := RX6) (T := TX6) (N := 41) rfl zin_X6 (by decide) zl_802 dX6_count_68) ?_
  refine And.intro (s_ireturn rfl (fun _ => rfl) dX6_count_71) ?_
  refine And.intro (s_aload_n dX6_count_72 rfl) ?_
  refine And.intro (s_getf (C := RX6) (T := TX6) (N := 41) rfl zin_X6 (by decide) zl_806 dX6_count_73) ?_
  refine And.intro (s_ireturn rfl (fun _ => rfl) dX6_count_76) ?_
  refine And.intro (s_aload_n dX6_count_77 rfl) ?_
  refine And.intro (s_getf (C := RX6) (T := TX6) (N := 41) rfl zin_X6 (by decide) zl_821 dX6_count_78) ?_
  refine And.intro (s_ireturn rfl (fun _ => rfl) dX6_count_81) ?_
  refine And.intro (s_aload_n dX6_count_82 rfl) ?_
  refine And.intro (s_getf (C := RX6) (T := TX6) (N := 41) rfl zin_X6 (by decide) zl_831 dX6_count_83) ?_
  refine And.intro (s_ireturn rfl (fun _ => rfl) dX6_count_86) ?_
  refine And.intro (s_bipush dX6_count_87 (by decide)) ?_
  refine And.intro (s_ireturn rfl (fun _ => rfl) dX6_count_89) ?_
  exact trivial
def zp_X6_elbowOf : List (Bool × Nat × zOp) := [
  (true, 0, o_al 0),
  (true, 1, o_cv zi_X6_asTold 0 6),
  (true, 4, o_ic (-1)),
  (true, 5, o_is 2),
  (true, 6, o_ic 999),
  (true, 9, o_is 3),
  (true, 10, o_ic 0),
  (true, 11, o_is 4),
  (false, 13, o_mark 13 [5]),
  (true, 13, o_il 4),
  (true, 15, o_ic 40),
  (true, 17, o_cmp (fun x y => y ≤ x) 92),
  (true, 20, o_al 0),
  (true, 21, o_gf 6 18),
  (true, 24, o_il 4),
  (true, 26, o_al 0),
  (true, 27, o_gf 6 9),
  (true, 30, o_il 4),
  (true, 32, o_ia),
  (true, 33, o_ic 1),
  (true, 34, o_ii (fun x y => x + y)),
  (true, 35, o_iw),
  (true, 36, o_al 0),
  (true, 37, o_cv zi_X6_runs 0 6),
  (true, 40, o_al 0),
  (true, 41, o_gf 6 18),
  (true, 44, o_il 4),
  (true, 46, o_al 0),
  (true, 47, o_gf 6 9),
  (true, 50, o_il 4),
  (true, 52, o_ia),
  (true, 53, o_iw),
  (true, 54, o_al 0),
  (true, 55, o_cv zi_X6_shortAll 0 6),
  (true, 58, o_is 5),
  (true, 60, o_il 5),
  (true, 62, o_il 3),
  (true, 63, o_cmp (fun x y => y ≤ x) 71),
  (true, 66, o_il 4),
  (true, 68, o_go 72),
  (true, 71, o_il 2),
  (true, 72, o_is 2),
  (true, 73, o_il 5),
  (true, 75, o_il 3),
  (true, 76, o_cmp (fun x y => y ≤ x) 84),
  (true, 79, o_il 5),
  (true, 81, o_go 85),
  (true, 84, o_il 3),
  (true, 85, o_is 3),
  (true, 86, o_inc 4 1),
  (true, 89, o_gb 13 [5]),
  (true, 92, o_il 1),
  (true, 93, o_in (fun x => x = 0) 100),
  (true, 96, o_il 2),
  (true, 97, o_go 101),
  (true, 100, o_il 3),
  (true, 101, o_ir)]
set_option maxRecDepth 100000 in
set_option maxHeartbeats 4000000 in
theorem zk_X6_elbowOf (kc ks : Nat) : z_OK (zS RX6 cX6_elbowOf 6 "elbowOf" (some .int) 7 156 kc ks) zp_X6_elbowOf := by
  unfold zp_X6_elbowOf
  refine And.intro (s_aload_n dX6_elbowOf_0 rfl) ?_
  refine And.intro (s_callV (C := RX6) (T := TX6) (N := 41) rfl zf_X6_asTold zg_X6_asTold zl_1029 ⟨rfl, rfl⟩ dX6_elbowOf_1) ?_
  refine And.intro (s_iconst dX6_elbowOf_4 (by decide)) ?_
  refine And.intro (s_istore_n dX6_elbowOf_5 rfl) ?_
  refine And.intro (s_sipush dX6_elbowOf_6 (by decide)) ?_
  refine And.intro (s_istore_n dX6_elbowOf_9 rfl) ?_
  refine And.intro (s_iconst dX6_elbowOf_10 (by decide)) ?_
  refine And.intro (s_istore dX6_elbowOf_11) ?_
  refine And.intro (s_mark) ?_
  refine And.intro (s_iload dX6_elbowOf_13) ?_
  refine And.intro (s_bipush dX6_elbowOf_15 (by decide)) ?_
  refine And.intro (s_icmp_ge dX6_elbowOf_17 (by decide)) ?_
  refine And.intro (s_aload_n dX6_elbowOf_20 rfl) ?_
  refine And.intro (s_getf (C := RX6) (T := TX6) (N := 41) rfl zin_X6 (by decide) zl_809 dX6_elbowOf_21) ?_
  refine And.intro (s_iload dX6_elbowOf_24) ?_
  refine And.intro (s_aload_n dX6_elbowOf_26 rfl) ?_
  refine And.intro (s_getf (C := RX6) (T := TX6) (N := 41) rfl zin_X6 (by decide) zl_800 dX6_elbowOf_27) ?_
  refine And.intro (s_iload dX6_elbowOf_30) ?_
  refine And.intro (s_iaload dX6_elbowOf_32) ?_
  refine And.intro (s_iconst dX6_elbowOf_33 (by decide)) ?_
  refine And.intro (s_iadd dX6_elbowOf_34) ?_
  refine And.intro (s_iastore dX6_elbowOf_35) ?_
  refine And.intro (s_aload_n dX6_elbowOf_36 rfl) ?_
  refine And.intro (s_callV (C := RX6) (T := TX6) (N := 41) rfl zf_X6_runs zg_X6_runs zl_1033 ⟨rfl, rfl⟩ dX6_elbowOf_37) ?_
  refine And.intro (s_aload_n dX6_elbowOf_40 rfl) ?_
  refine And.intro (s_getf (C := RX6) (T := TX6) (N := 41) rfl zin_X6 (by decide) zl_809 dX6_elbowOf_41) ?_
  refine And.intro (s_iload dX6_elbowOf_44) ?_
  refine And.intro (s_aload_n dX6_elbowOf_46 rfl) ?_
  refine And.intro (s_getf (C := RX6) (T := TX6) (N := 41) rfl zin_X6 (by decide) zl_800 dX6_elbowOf_47) ?_
  refine And.intro (s_iload dX6_elbowOf_50) ?_
  refine And.intro (s_iaload dX6_elbowOf_52) ?_
  refine And.intro (s_iastore dX6_elbowOf_53) ?_
  refine And.intro (s_aload_n dX6_elbowOf_54 rfl) ?_
  refine And.intro (s_callV (C := RX6) (T := TX6) (N := 41) rfl zf_X6_shortAll zg_X6_shortAll zl_1116 ⟨rfl, rfl⟩ dX6_elbowOf_55) ?_
  refine And.intro (s_istore dX6_elbowOf_58) ?_
  refine And.intro (s_iload dX6_elbowOf_60) ?_
  refine And.intro (s_iload_n dX6_elbowOf_62 rfl) ?_
  refine And.intro (s_icmp_ge dX6_elbowOf_63 (by decide)) ?_
  refine And.intro (s_iload dX6_elbowOf_66) ?_
  refine And.intro (s_goto dX6_elbowOf_68 (by decide)) ?_
  refine And.intro (s_iload_n dX6_elbowOf_71 rfl) ?_
  refine And.intro (s_istore_n dX6_elbowOf_72 rfl) ?_
  refine And.intro (s_iload dX6_elbowOf_73) ?_
  refine And.intro (s_iload_n dX6_elbowOf_75 rfl) ?_
  refine And.intro (s_icmp_ge dX6_elbowOf_76 (by decide)) ?_
  refine And.intro (s_iload dX6_elbowOf_79) ?_
  refine And.intro (s_goto dX6_elbowOf_81 (by decide)) ?_
  refine And.intro (s_iload_n dX6_elbowOf_84 rfl) ?_
  refine And.intro (s_istore_n dX6_elbowOf_85 rfl) ?_
  refine And.intro (s_iinc dX6_elbowOf_86 (by decide)) ?_
  refine And.intro (s_gotob dX6_elbowOf_89 (by decide)) ?_
  refine And.intro (s_iload_n dX6_elbowOf_92 rfl) ?_
  refine And.intro (s_if_ne dX6_elbowOf_93 (by decide)) ?_
  refine And.intro (s_iload_n dX6_elbowOf_96 rfl) ?_
  refine And.intro (s_goto dX6_elbowOf_97 (by decide)) ?_
  refine And.intro (s_iload_n dX6_elbowOf_100 rfl) ?_
  refine And.intro (s_ireturn rfl (fun _ => rfl) dX6_elbowOf_101) ?_
  exact trivial
def zp_X6_elbowsOf : List (Bool × Nat × zOp) := [
  (true, 0, o_al 0),
  (true, 1, o_cv zi_X6_reads 0 6),
  (true, 4, o_al 0),
  (true, 5, o_gf 6 9),
  (true, 8, o_il 1),
  (true, 9, o_ia),
  (true, 10, o_ir)]
set_option maxRecDepth 100000 in
set_option maxHeartbeats 4000000 in
theorem zk_X6_elbowsOf (kc ks : Nat) : z_OK (zS RX6 cX6_elbowsOf 2 "elbowsOf" (some .int) 6 135 kc ks) zp_X6_elbowsOf := by
  unfold zp_X6_elbowsOf
  refine And.intro (s_aload_n dX6_elbowsOf_0 rfl) ?_
  refine And.intro (s_callV (C := RX6) (T := TX6) (N := 41) rfl zf_X6_reads zg_X6_reads zl_970 ⟨rfl, rfl⟩ dX6_elbowsOf_1) ?_
  refine And.intro (s_aload_n dX6_elbowsOf_4 rfl) ?_
  refine And.intro (s_getf (C := RX6) (T := TX6) (N := 41) rfl zin_X6 (by decide) zl_800 dX6_elbowsOf_5) ?_
  refine And.intro (s_iload_n dX6_elbowsOf_8 rfl) ?_
  refine And.intro (s_iaload dX6_elbowsOf_9) ?_
  refine And.intro (s_ireturn rfl (fun _ => rfl) dX6_elbowsOf_10) ?_
  exact trivial
def zp_X6_firstOf : List (Bool × Nat × zOp) := [
  (true, 0, o_al 0),
  (true, 1, o_cv zi_X6_runsTold 0 6),
  (true, 4, o_ic (-1)),
  (true, 5, o_is 1),
  (true, 6, o_ic 39),
  (true, 8, o_is 2),
  (false, 9, o_mark 9 []),
  (true, 9, o_il 2),
  (true, 10, o_if (fun x => x < 0) 34),
  (true, 13, o_al 0),
  (true, 14, o_gf 6 28),
  (true, 17, o_il 2),
  (true, 18, o_ia),
  (true, 19, o_if (fun x => x = 0) 26),
  (true, 22, o_il 2),
  (true, 23, o_go 27),
  (true, 26, o_il 1),
  (true, 27, o_is 1),
  (true, 28, o_inc 2 (-1)),
  (true, 31, o_gb 9 []),
  (true, 34, o_il 1),
  (true, 35, o_ir)]
set_option maxRecDepth 100000 in
set_option maxHeartbeats 4000000 in
theorem zk_X6_firstOf (kc ks : Nat) : z_OK (zS RX6 cX6_firstOf 3 "firstOf" (some .int) 8 176 kc ks) zp_X6_firstOf := by
  unfold zp_X6_firstOf
  refine And.intro (s_aload_n dX6_firstOf_0 rfl) ?_
  refine And.intro (s_callV (C := RX6) (T := TX6) (N := 41) rfl zf_X6_runsTold zg_X6_runsTold zl_1025 ⟨rfl, rfl⟩ dX6_firstOf_1) ?_
  refine And.intro (s_iconst dX6_firstOf_4 (by decide)) ?_
  refine And.intro (s_istore_n dX6_firstOf_5 rfl) ?_
  refine And.intro (s_bipush dX6_firstOf_6 (by decide)) ?_
  refine And.intro (s_istore_n dX6_firstOf_8 rfl) ?_
  refine And.intro (s_mark) ?_
  refine And.intro (s_iload_n dX6_firstOf_9 rfl) ?_
  refine And.intro (s_if_lt dX6_firstOf_10 (by decide)) ?_
  refine And.intro (s_aload_n dX6_firstOf_13 rfl) ?_
  refine And.intro (s_getf (C := RX6) (T := TX6) (N := 41) rfl zin_X6 (by decide) zl_819 dX6_firstOf_14) ?_
  refine And.intro (s_iload_n dX6_firstOf_17 rfl) ?_
  refine And.intro (s_iaload dX6_firstOf_18) ?_
  refine And.intro (s_if_eq dX6_firstOf_19 (by decide)) ?_
  refine And.intro (s_iload_n dX6_firstOf_22 rfl) ?_
  refine And.intro (s_goto dX6_firstOf_23 (by decide)) ?_
  refine And.intro (s_iload_n dX6_firstOf_26 rfl) ?_
  refine And.intro (s_istore_n dX6_firstOf_27 rfl) ?_
  refine And.intro (s_iinc dX6_firstOf_28 (by decide)) ?_
  refine And.intro (s_gotob dX6_firstOf_31 (by decide)) ?_
  refine And.intro (s_iload_n dX6_firstOf_34 rfl) ?_
  refine And.intro (s_ireturn rfl (fun _ => rfl) dX6_firstOf_35) ?_
  exact trivial
def zp_X6_heldOf : List (Bool × Nat × zOp) := [
  (true, 0, o_al 0),
  (true, 1, o_cv zi_X6_runsTold 0 6),
  (true, 4, o_ic (-1)),
  (true, 5, o_is 3),
  (true, 6, o_ic 39),
  (true, 8, o_is 4),
  (false, 10, o_mark 10 []),
  (true, 10, o_il 4),
  (true, 12, o_if (fun x => x < 0) 42),
  (true, 15, o_al 0),
  (true, 16, o_gf 6 28),
  (true, 19, o_il 4),
  (true, 21, o_ia),
  (true, 22, o_il 1),
  (true, 23, o_cs zi_X6_isIn 2),
  (true, 26, o_if (fun x => x = 0) 34),
  (true, 29, o_il 4),
  (true, 31, o_go 35),
  (true, 34, o_il 3),
  (true, 35, o_is 3),
  (true, 36, o_inc 4 (-1)),
  (true, 39, o_gb 10 []),
  (true, 42, o_il 2),
  (true, 43, o_in (fun x => x = 0) 50),
  (true, 46, o_il 3),
  (true, 47, o_go 55),
  (true, 50, o_al 0),
  (true, 51, o_il 1),
  (true, 52, o_cv zi_X6_shortOf 1 6),
  (true, 55, o_ir)]
set_option maxRecDepth 100000 in
set_option maxHeartbeats 4000000 in
theorem zk_X6_heldOf (kc ks : Nat) : z_OK (zS RX6 cX6_heldOf 5 "heldOf" (some .int) 8 176 kc ks) zp_X6_heldOf := by
  unfold zp_X6_heldOf
  refine And.intro (s_aload_n dX6_heldOf_0 rfl) ?_
  refine And.intro (s_callV (C := RX6) (T := TX6) (N := 41) rfl zf_X6_runsTold zg_X6_runsTold zl_1025 ⟨rfl, rfl⟩ dX6_heldOf_1) ?_
  refine And.intro (s_iconst dX6_heldOf_4 (by decide)) ?_
  refine And.intro (s_istore_n dX6_heldOf_5 rfl) ?_
  refine And.intro (s_bipush dX6_heldOf_6 (by decide)) ?_
  refine And.intro (s_istore dX6_heldOf_8) ?_
  refine And.intro (s_mark) ?_
  refine And.intro (s_iload dX6_heldOf_10) ?_
  refine And.intro (s_if_lt dX6_heldOf_12 (by decide)) ?_
  refine And.intro (s_aload_n dX6_heldOf_15 rfl) ?_
  refine And.intro (s_getf (C := RX6) (T := TX6) (N := 41) rfl zin_X6 (by decide) zl_819 dX6_heldOf_16) ?_
  refine And.intro (s_iload dX6_heldOf_19) ?_
  refine And.intro (s_iaload dX6_heldOf_21) ?_
  refine And.intro (s_iload_n dX6_heldOf_22 rfl) ?_
  refine And.intro (s_callS zf_X6_isIn zl_1046 zl_1045 ⟨rfl, rfl⟩ dX6_heldOf_23) ?_
  refine And.intro (s_if_eq dX6_heldOf_26 (by decide)) ?_
  refine And.intro (s_iload dX6_heldOf_29) ?_
  refine And.intro (s_goto dX6_heldOf_31 (by decide)) ?_
  refine And.intro (s_iload_n dX6_heldOf_34 rfl) ?_
  refine And.intro (s_istore_n dX6_heldOf_35 rfl) ?_
  refine And.intro (s_iinc dX6_heldOf_36 (by decide)) ?_
  refine And.intro (s_gotob dX6_heldOf_39 (by decide)) ?_
  refine And.intro (s_iload_n dX6_heldOf_42 rfl) ?_
  refine And.intro (s_if_ne dX6_heldOf_43 (by decide)) ?_
  refine And.intro (s_iload_n dX6_heldOf_46 rfl) ?_
  refine And.intro (s_goto dX6_heldOf_47 (by decide)) ?_
  refine And.intro (s_aload_n dX6_heldOf_50 rfl) ?_
  refine And.intro (s_iload_n dX6_heldOf_51 rfl) ?_
  refine And.intro (s_callV (C := RX6) (T := TX6) (N := 41) rfl zf_X6_shortOf zg_X6_shortOf zl_1080 ⟨rfl, rfl⟩ dX6_heldOf_52) ?_
  refine And.intro (s_ireturn rfl (fun _ => rfl) dX6_heldOf_55) ?_
  exact trivial
def zp_X6_gotOf : List (Bool × Nat × zOp) := [
  (true, 0, o_al 0),
  (true, 1, o_cv zi_X6_runsTold 0 6),
  (true, 4, o_il 3),
  (true, 5, o_in (fun x => x = 0) 22),
  (true, 8, o_al 0),
  (true, 9, o_gf 6 29),
  (true, 12, o_ic 8),
  (true, 14, o_il 1),
  (true, 15, o_ii (fun x y => x * y)),
  (true, 16, o_il 2),
  (true, 17, o_ii (fun x y => x + y)),
  (true, 18, o_ia),
  (true, 19, o_go 42),
  (true, 22, o_il 3),
  (true, 23, o_ic 1),
  (true, 24, o_cn (fun x y => x = y) 36),
  (true, 27, o_al 0),
  (true, 28, o_il 2),
  (true, 29, o_il 1),
  (true, 30, o_cv zi_X6_needs 2 6),
  (true, 33, o_go 42),
  (true, 36, o_al 0),
  (true, 37, o_il 2),
  (true, 38, o_il 1),
  (true, 39, o_cv zi_X6_doneIn 2 6),
  (true, 42, o_ir)]
set_option maxRecDepth 100000 in
set_option maxHeartbeats 4000000 in
theorem zk_X6_gotOf (kc ks : Nat) : z_OK (zS RX6 cX6_gotOf 4 "gotOf" (some .int) 8 176 kc ks) zp_X6_gotOf := by
  unfold zp_X6_gotOf
  refine And.intro (s_aload_n dX6_gotOf_0 rfl) ?_
  refine And.intro (s_callV (C := RX6) (T := TX6) (N := 41) rfl zf_X6_runsTold zg_X6_runsTold zl_1025 ⟨rfl, rfl⟩ dX6_gotOf_1) ?_
  refine And.intro (s_iload_n dX6_gotOf_4 rfl) ?_
  refine And.intro (s_if_ne dX6_gotOf_5 (by decide)) ?_
  refine And.intro (s_aload_n dX6_gotOf_8 rfl) ?_
  refine And.intro (s_getf (C := RX6) (T := TX6) (N := 41) rfl zin_X6 (by decide) zl_820 dX6_gotOf_9) ?_
  refine And.intro (s_bipush dX6_gotOf_12 (by decide)) ?_
  refine And.intro (s_iload_n dX6_gotOf_14 rfl) ?_
  refine And.intro (s_imul dX6_gotOf_15) ?_
  refine And.intro (s_iload_n dX6_gotOf_16 rfl) ?_
  refine And.intro (s_iadd dX6_gotOf_17) ?_
  refine And.intro (s_iaload dX6_gotOf_18) ?_
  refine And.intro (s_goto dX6_gotOf_19 (by decide)) ?_
  refine And.intro (s_iload_n dX6_gotOf_22 rfl) ?_
  refine And.intro (s_iconst dX6_gotOf_23 (by decide)) ?_
  refine And.intro (s_icmp_ne dX6_gotOf_24 (by decide)) ?_
  refine And.intro (s_aload_n dX6_gotOf_27 rfl) ?_
  refine And.intro (s_iload_n dX6_gotOf_28 rfl) ?_
  refine And.intro (s_iload_n dX6_gotOf_29 rfl) ?_
  refine And.intro (s_callV (C := RX6) (T := TX6) (N := 41) rfl zf_X6_needs zg_X6_needs zl_1056 ⟨rfl, rfl⟩ dX6_gotOf_30) ?_
  refine And.intro (s_goto dX6_gotOf_33 (by decide)) ?_
  refine And.intro (s_aload_n dX6_gotOf_36 rfl) ?_
  refine And.intro (s_iload_n dX6_gotOf_37 rfl) ?_
  refine And.intro (s_iload_n dX6_gotOf_38 rfl) ?_
  refine And.intro (s_callV (C := RX6) (T := TX6) (N := 41) rfl zf_X6_doneIn zg_X6_doneIn zl_1060 ⟨rfl, rfl⟩ dX6_gotOf_39) ?_
  refine And.intro (s_ireturn rfl (fun _ => rfl) dX6_gotOf_42) ?_
  exact trivial
def zp_X6_hourDigest : List (Bool × Nat × zOp) := [
  (true, 0, o_ll 1),
  (true, 1, o_ls 5),
  (true, 3, o_ic 0),
  (true, 4, o_is 7),
  (false, 6, o_mark 6 [1, 2]),
  (true, 6, o_il 7),
  (true, 8, o_ic 3),
  (true, 9, o_cmp (fun x y => y ≤ x) 37),
  (true, 12, o_lc 31),
  (true, 15, o_ll 5),
  (true, 17, o_jj (fun x y => x * y)),
  (true, 18, o_al 0),
  (true, 19, o_il 3),
  (true, 20, o_il 4),
  (true, 22, o_il 7),
  (true, 24, o_cv zi_X6_gotOf 3 6),
  (true, 27, o_i2l),
  (true, 28, o_jj (fun x y => x + y)),
  (true, 29, o_ls 5),
  (true, 31, o_inc 7 1),
  (true, 34, o_gb 6 [1, 2]),
  (true, 37, o_ll 5),
  (true, 39, o_lr)]
set_option maxRecDepth 100000 in
set_option maxHeartbeats 4000000 in
theorem zk_X6_hourDigest (kc ks : Nat) : z_OK (zS RX6 cX6_hourDigest 8 "hourDigest" (some .long) 9 199 kc ks) zp_X6_hourDigest := by
  unfold zp_X6_hourDigest
  refine And.intro (s_lload_n dX6_hourDigest_0 rfl) ?_
  refine And.intro (s_lstore dX6_hourDigest_1) ?_
  refine And.intro (s_iconst dX6_hourDigest_3 (by decide)) ?_
  refine And.intro (s_istore dX6_hourDigest_4) ?_
  refine And.intro (s_mark) ?_
  refine And.intro (s_iload dX6_hourDigest_6) ?_
  refine And.intro (s_iconst dX6_hourDigest_8 (by decide)) ?_
  refine And.intro (s_icmp_ge dX6_hourDigest_9 (by decide)) ?_
  refine And.intro (s_ldc2 zl_1258 dX6_hourDigest_12) ?_
  refine And.intro (s_lload dX6_hourDigest_15) ?_
  refine And.intro (s_lmul dX6_hourDigest_17) ?_
  refine And.intro (s_aload_n dX6_hourDigest_18 rfl) ?_
  refine And.intro (s_iload_n dX6_hourDigest_19 rfl) ?_
  refine And.intro (s_iload dX6_hourDigest_20) ?_
  refine And.intro (s_iload dX6_hourDigest_22) ?_
  refine And.intro (s_callV (C := RX6) (T := TX6) (N := 41) rfl zf_X6_gotOf zg_X6_gotOf zl_1068 ⟨rfl, rfl⟩ dX6_hourDigest_24) ?_
  refine And.intro (s_i2l dX6_hourDigest_27) ?_
  refine And.intro (s_ladd dX6_hourDigest_28) ?_
  refine And.intro (s_lstore dX6_hourDigest_29) ?_
  refine And.intro (s_iinc dX6_hourDigest_31 (by decide)) ?_
  refine And.intro (s_gotob dX6_hourDigest_34 (by decide)) ?_
  refine And.intro (s_lload dX6_hourDigest_37) ?_
  refine And.intro (s_lreturn rfl dX6_hourDigest_39) ?_
  exact trivial
def zp_X6_houseOf : List (Bool × Nat × zOp) := [
  (true, 0, o_il 2),
  (true, 1, o_in (fun x => x = 0) 13),
  (true, 4, o_al 0),
  (true, 5, o_gf 6 3),
  (true, 8, o_il 1),
  (true, 9, o_ia),
  (true, 10, o_go 83),
  (true, 13, o_il 2),
  (true, 14, o_ic 1),
  (true, 15, o_cn (fun x y => x = y) 27),
  (true, 18, o_al 0),
  (true, 19, o_gf 6 4),
  (true, 22, o_il 1),
  (true, 23, o_ia),
  (true, 24, o_go 83),
  (true, 27, o_il 2),
  (true, 28, o_ic 2),
  (true, 29, o_cn (fun x y => x = y) 41),
  (true, 32, o_al 0),
  (true, 33, o_gf 6 5),
  (true, 36, o_il 1),
  (true, 37, o_ia),
  (true, 38, o_go 83),
  (true, 41, o_il 2),
  (true, 42, o_ic 3),
  (true, 43, o_cn (fun x y => x = y) 55),
  (true, 46, o_al 0),
  (true, 47, o_gf 6 6),
  (true, 50, o_il 1),
  (true, 51, o_ia),
  (true, 52, o_go 83),
  (true, 55, o_il 2),
  (true, 56, o_ic 4),
  (true, 57, o_ii (fun x y => x - y)),
  (true, 58, o_al 0),
  (true, 59, o_gf 6 6),
  (true, 62, o_il 1),
  (true, 63, o_ia),
  (true, 64, o_cmp (fun x y => y ≤ x) 82),
  (true, 67, o_al 0),
  (true, 68, o_gf 6 7),
  (true, 71, o_ic 3),
  (true, 72, o_il 1),
  (true, 73, o_ii (fun x y => x * y)),
  (true, 74, o_il 2),
  (true, 75, o_ii (fun x y => x + y)),
  (true, 76, o_ic 4),
  (true, 77, o_ii (fun x y => x - y)),
  (true, 78, o_ia),
  (true, 79, o_go 83),
  (true, 82, o_ic (-1)),
  (true, 83, o_ir)]
set_option maxRecDepth 100000 in
set_option maxHeartbeats 4000000 in
theorem zk_X6_houseOf (kc ks : Nat) : z_OK (zS RX6 cX6_houseOf 3 "houseOf" (some .int) 0 0 kc ks) zp_X6_houseOf := by
  unfold zp_X6_houseOf
  refine And.intro (s_iload_n dX6_houseOf_0 rfl) ?_
  refine And.intro (s_if_ne dX6_houseOf_1 (by decide)) ?_
  refine And.intro (s_aload_n dX6_houseOf_4 rfl) ?_
  refine And.intro (s_getf (C := RX6) (T := TX6) (N := 41) rfl zin_X6 (by decide) zl_794 dX6_houseOf_5) ?_
  refine And.intro (s_iload_n dX6_houseOf_8 rfl) ?_
  refine And.intro (s_iaload dX6_houseOf_9) ?_
  refine And.intro (s_goto dX6_houseOf_10 (by decide)) ?_
  refine And.intro (s_iload_n dX6_houseOf_13 rfl) ?_
  refine And.intro (s_iconst dX6_houseOf_14 (by decide)) ?_
  refine And.intro (s_icmp_ne dX6_houseOf_15 (by decide)) ?_
  refine And.intro (s_aload_n dX6_houseOf_18 rfl) ?_
  refine And.intro (s_getf (C := RX6) (T := TX6) (N := 41) rfl zin_X6 (by decide) zl_795 dX6_houseOf_19) ?_
  refine And.intro (s_iload_n dX6_houseOf_22 rfl) ?_
  refine And.intro (s_iaload dX6_houseOf_23) ?_
  refine And.intro (s_goto dX6_houseOf_24 (by decide)) ?_
  refine And.intro (s_iload_n dX6_houseOf_27 rfl) ?_
  refine And.intro (s_iconst dX6_houseOf_28 (by decide)) ?_
  refine And.intro (s_icmp_ne dX6_houseOf_29 (by decide)) ?_
  refine And.intro (s_aload_n dX6_houseOf_32 rfl) ?_
  refine And.intro (s_getf (C := RX6) (T := TX6) (N := 41) rfl zin_X6 (by decide) zl_796 dX6_houseOf_33) ?_
  refine And.intro (s_iload_n dX6_houseOf_36 rfl) ?_
  refine And.intro (s_iaload dX6_houseOf_37) ?_
  refine And.intro (s_goto dX6_houseOf_38 (by decide)) ?_
  refine And.intro (s_iload_n dX6_houseOf_41 rfl) ?_
  refine And.intro (s_iconst dX6_houseOf_42 (by decide)) ?_
  refine And.intro (s_icmp_ne dX6_houseOf_43 (by decide)) ?_
  refine And.intro (s_aload_n dX6_houseOf_46 rfl) ?_
  refine And.intro (s_getf (C := RX6) (T := TX6) (N := 41) rfl zin_X6 (by decide) zl_797 dX6_houseOf_47) ?_
  refine And.intro (s_iload_n dX6_houseOf_50 rfl) ?_
  refine And.intro (s_iaload dX6_houseOf_51) ?_
  refine And.intro (s_goto dX6_houseOf_52 (by decide)) ?_
  refine And.intro (s_iload_n dX6_houseOf_55 rfl) ?_
  refine And.intro (s_iconst dX6_houseOf_56 (by decide)) ?_
  refine And.intro (s_isub dX6_houseOf_57) ?_
  refine And.intro (s_aload_n dX6_houseOf_58 rfl) ?_
  refine And.intro (s_getf (C := RX6) (T := TX6) (N := 41) rfl zin_X6 (by decide) zl_797 dX6_houseOf_59) ?_
  refine And.intro (s_iload_n dX6_houseOf_62 rfl) ?_
  refine And.intro (s_iaload dX6_houseOf_63) ?_
  refine And.intro (s_icmp_ge dX6_houseOf_64 (by decide)) ?_
  refine And.intro (s_aload_n dX6_houseOf_67 rfl) ?_
  refine And.intro (s_getf (C := RX6) (T := TX6) (N := 41) rfl zin_X6 (by decide) zl_798 dX6_houseOf_68) ?_
  refine And.intro (s_iconst dX6_houseOf_71 (by decide)) ?_
  refine And.intro (s_iload_n dX6_houseOf_72 rfl) ?_
  refine And.intro (s_imul dX6_houseOf_73) ?_
  refine And.intro (s_iload_n dX6_houseOf_74 rfl) ?_
  refine And.intro (s_iadd dX6_houseOf_75) ?_
  refine And.intro (s_iconst dX6_houseOf_76 (by decide)) ?_
  refine And.intro (s_isub dX6_houseOf_77) ?_
  refine And.intro (s_iaload dX6_houseOf_78) ?_
  refine And.intro (s_goto dX6_houseOf_79 (by decide)) ?_
  refine And.intro (s_iconst dX6_houseOf_82 (by decide)) ?_
  refine And.intro (s_ireturn rfl (fun _ => rfl) dX6_houseOf_83) ?_
  exact trivial
def zp_X6_lowest : List (Bool × Nat × zOp) := [
  (true, 0, o_ll 0),
  (true, 1, o_ls 5),
  (true, 3, o_ll 2),
  (true, 4, o_ls 7),
  (false, 6, o_mark 6 [9, 10]),
  (true, 6, o_ll 7),
  (true, 8, o_lc 0),
  (true, 9, o_jc lg_cmp),
  (true, 10, o_if (fun x => x = 0) 31),
  (true, 13, o_ll 5),
  (true, 15, o_ll 7),
  (true, 17, o_jz (fun x y => x - x / y * y)),
  (true, 18, o_ls 9),
  (true, 20, o_ll 7),
  (true, 22, o_ls 5),
  (true, 24, o_ll 9),
  (true, 26, o_ls 7),
  (true, 28, o_gb 6 [9, 10]),
  (true, 31, o_il 4),
  (true, 33, o_in (fun x => x = 0) 43),
  (true, 36, o_ll 0),
  (true, 37, o_ll 5),
  (true, 39, o_jz (fun x y => x / y)),
  (true, 40, o_go 47),
  (true, 43, o_ll 2),
  (true, 44, o_ll 5),
  (true, 46, o_jz (fun x y => x / y)),
  (true, 47, o_lr)]
set_option maxRecDepth 100000 in
set_option maxHeartbeats 4000000 in
theorem zk_X6_lowest (kc ks : Nat) : z_OK (zS RX6 cX6_lowest 11 "lowest" (some .long) 0 0 kc ks) zp_X6_lowest := by
  unfold zp_X6_lowest
  refine And.intro (s_lload_n dX6_lowest_0 rfl) ?_
  refine And.intro (s_lstore dX6_lowest_1) ?_
  refine And.intro (s_lload_n dX6_lowest_3 rfl) ?_
  refine And.intro (s_lstore dX6_lowest_4) ?_
  refine And.intro (s_mark) ?_
  refine And.intro (s_lload dX6_lowest_6) ?_
  refine And.intro (s_lconst dX6_lowest_8 (by decide)) ?_
  refine And.intro (s_lcmp dX6_lowest_9) ?_
  refine And.intro (s_if_eq dX6_lowest_10 (by decide)) ?_
  refine And.intro (s_lload dX6_lowest_13) ?_
  refine And.intro (s_lload dX6_lowest_15) ?_
  refine And.intro (s_lrem dX6_lowest_17) ?_
  refine And.intro (s_lstore dX6_lowest_18) ?_
  refine And.intro (s_lload dX6_lowest_20) ?_
  refine And.intro (s_lstore dX6_lowest_22) ?_
  refine And.intro (s_lload dX6_lowest_24) ?_
  refine And.intro (s_lstore dX6_lowest_26) ?_
  refine And.intro (s_gotob dX6_lowest_28 (by decide)) ?_
  refine And.intro (s_iload dX6_lowest_31) ?_
  refine And.intro (s_if_ne dX6_lowest_33 (by decide)) ?_
  refine And.intro (s_lload_n dX6_lowest_36 rfl) ?_
  refine And.intro (s_lload dX6_lowest_37) ?_
  refine And.intro (s_ldiv dX6_lowest_39) ?_
  refine And.intro (s_goto dX6_lowest_40 (by decide)) ?_
  refine And.intro (s_lload_n dX6_lowest_43 rfl) ?_
  refine And.intro (s_lload dX6_lowest_44) ?_
  refine And.intro (s_ldiv dX6_lowest_46) ?_
  refine And.intro (s_lreturn rfl dX6_lowest_47) ?_
  exact trivial
def zp_X6_mothOf : List (Bool × Nat × zOp) := [
  (true, 0, o_al 0),
  (true, 1, o_cv zi_X6_asTold 0 6),
  (true, 4, o_lc 0),
  (true, 5, o_ls 4),
  (true, 7, o_ic 0),
  (true, 8, o_is 6),
  (false, 10, o_mark 10 [7, 8, 9]),
  (true, 10, o_il 6),
  (true, 12, o_ic 1),
  (true, 13, o_al 0),
  (true, 14, o_gf 6 11),
  (true, 17, o_ii (fun x y => x <<< (y &&& 31))),
  (true, 18, o_cmp (fun x y => y ≤ x) 102),
  (true, 21, o_lc 1),
  (true, 22, o_ls 7),
  (true, 24, o_ic 0),
  (true, 25, o_is 9),
  (false, 27, o_mark 27 []),
  (true, 27, o_il 9),
  (true, 29, o_al 0),
  (true, 30, o_gf 6 11),
  (true, 33, o_cmp (fun x y => y ≤ x) 67),
  (true, 36, o_ll 7),
  (true, 38, o_il 6),
  (true, 40, o_il 9),
  (true, 42, o_cs zi_X6_isIn 2),
  (true, 45, o_if (fun x => x = 0) 56),
  (true, 48, o_ic 16),
  (true, 50, o_il 1),
  (true, 51, o_ii (fun x y => x - y)),
  (true, 52, o_i2l),
  (true, 53, o_go 58),
  (true, 56, o_il 1),
  (true, 57, o_i2l),
  (true, 58, o_jj (fun x y => x * y)),
  (true, 59, o_ls 7),
  (true, 61, o_inc 9 1),
  (true, 64, o_gb 27 []),
  (true, 67, o_al 0),
  (true, 68, o_il 6),
  (true, 70, o_pi 6 19),
  (true, 73, o_al 0),
  (true, 74, o_cv zi_X6_runs 0 6),
  (true, 77, o_ll 4),
  (true, 79, o_al 0),
  (true, 80, o_il 2),
  (true, 81, o_cv zi_X6_shortOf 1 6),
  (true, 84, o_in (fun x => x = 0) 92),
  (true, 87, o_ll 7),
  (true, 89, o_go 93),
  (true, 92, o_lc 0),
  (true, 93, o_jj (fun x y => x + y)),
  (true, 94, o_ls 4),
  (true, 96, o_inc 6 1),
  (true, 99, o_gb 10 [7, 8, 9]),
  (true, 102, o_ll 4),
  (true, 104, o_lc 1),
  (true, 105, o_ic 4),
  (true, 106, o_al 0),
  (true, 107, o_gf 6 11),
  (true, 110, o_ii (fun x y => x * y)),
  (true, 111, o_js (fun x y => x <<< (y.toInt64 &&& 63))),
  (true, 112, o_il 3),
  (true, 113, o_cs zi_X6_lowest 3),
  (true, 116, o_lr)]
set_option maxRecDepth 100000 in
set_option maxHeartbeats 4000000 in
theorem zk_X6_mothOf (kc ks : Nat) : z_OK (zS RX6 cX6_mothOf 10 "mothOf" (some .long) 7 156 kc ks) zp_X6_mothOf := by
  unfold zp_X6_mothOf
  refine And.intro (s_aload_n dX6_mothOf_0 rfl) ?_
  refine And.intro (s_callV (C := RX6) (T := TX6) (N := 41) rfl zf_X6_asTold zg_X6_asTold zl_1029 ⟨rfl, rfl⟩ dX6_mothOf_1) ?_
  refine And.intro (s_lconst dX6_mothOf_4 (by decide)) ?_
  refine And.intro (s_lstore dX6_mothOf_5) ?_
  refine And.intro (s_iconst dX6_mothOf_7 (by decide)) ?_
  refine And.intro (s_istore dX6_mothOf_8) ?_
  refine And.intro (s_mark) ?_
  refine And.intro (s_iload dX6_mothOf_10) ?_
  refine And.intro (s_iconst dX6_mothOf_12 (by decide)) ?_
  refine And.intro (s_aload_n dX6_mothOf_13 rfl) ?_
  refine And.intro (s_getf (C := RX6) (T := TX6) (N := 41) rfl zin_X6 (by decide) zl_802 dX6_mothOf_14) ?_
  refine And.intro (s_ishl dX6_mothOf_17) ?_
  refine And.intro (s_icmp_ge dX6_mothOf_18 (by decide)) ?_
  refine And.intro (s_lconst dX6_mothOf_21 (by decide)) ?_
  refine And.intro (s_lstore dX6_mothOf_22) ?_
  refine And.intro (s_iconst dX6_mothOf_24 (by decide)) ?_
  refine And.intro (s_istore dX6_mothOf_25) ?_
  refine And.intro (s_mark) ?_
  refine And.intro (s_iload dX6_mothOf_27) ?_
  refine And.intro (s_aload_n dX6_mothOf_29 rfl) ?_
  refine And.intro (s_getf (C := RX6) (T := TX6) (N := 41) rfl zin_X6 (by decide) zl_802 dX6_mothOf_30) ?_
  refine And.intro (s_icmp_ge dX6_mothOf_33 (by decide)) ?_
  refine And.intro (s_lload dX6_mothOf_36) ?_
  refine And.intro (s_iload dX6_mothOf_38) ?_
  refine And.intro (s_iload dX6_mothOf_40) ?_
  refine And.intro (s_callS zf_X6_isIn zl_1046 zl_1045 ⟨rfl, rfl⟩ dX6_mothOf_42) ?_
  refine And.intro (s_if_eq dX6_mothOf_45 (by decide)) ?_
  refine And.intro (s_bipush dX6_mothOf_48 (by decide)) ?_
  refine And.intro (s_iload_n dX6_mothOf_50 rfl) ?_
  refine And.intro (s_isub dX6_mothOf_51) ?_
  refine And.intro (s_i2l dX6_mothOf_52) ?_
  refine And.intro (s_goto dX6_mothOf_53 (by decide)) ?_
  refine And.intro (s_iload_n dX6_mothOf_56 rfl) ?_
  refine And.intro (s_i2l dX6_mothOf_57) ?_
  refine And.intro (s_lmul dX6_mothOf_58) ?_
  refine And.intro (s_lstore dX6_mothOf_59) ?_
  refine And.intro (s_iinc dX6_mothOf_61 (by decide)) ?_
  refine And.intro (s_gotob dX6_mothOf_64 (by decide)) ?_
  refine And.intro (s_aload_n dX6_mothOf_67 rfl) ?_
  refine And.intro (s_iload dX6_mothOf_68) ?_
  refine And.intro (s_putI (C := RX6) (T := TX6) (N := 41) rfl zin_X6 (by decide) tyX6 tyX6_ok nmX6 zl_810 rfl (by decide +kernel) dX6_mothOf_70) ?_
  refine And.intro (s_aload_n dX6_mothOf_73 rfl) ?_
  refine And.intro (s_callV (C := RX6) (T := TX6) (N := 41) rfl zf_X6_runs zg_X6_runs zl_1033 ⟨rfl, rfl⟩ dX6_mothOf_74) ?_
  refine And.intro (s_lload dX6_mothOf_77) ?_
  refine And.intro (s_aload_n dX6_mothOf_79 rfl) ?_
  refine And.intro (s_iload_n dX6_mothOf_80 rfl) ?_
  refine And.intro (s_callV (C := RX6) (T := TX6) (N := 41) rfl zf_X6_shortOf zg_X6_shortOf zl_1080 ⟨rfl, rfl⟩ dX6_mothOf_81) ?_
  refine And.intro (s_if_ne dX6_mothOf_84 (by decide)) ?_
  refine And.intro (s_lload dX6_mothOf_87) ?_
  refine And.intro (s_goto dX6_mothOf_89 (by decide)) ?_
  refine And.intro (s_lconst dX6_mothOf_92 (by decide)) ?_
  refine And.intro (s_ladd dX6_mothOf_93) ?_
  refine And.intro (s_lstore dX6_mothOf_94) ?_
  refine And.intro (s_iinc dX6_mothOf_96 (by decide)) ?_
  refine And.intro (s_gotob dX6_mothOf_99 (by decide)) ?_
  refine And.intro (s_lload dX6_mothOf_102) ?_
  refine And.intro (s_lconst dX6_mothOf_104 (by decide)) ?_
  refine And.intro (s_iconst dX6_mothOf_105 (by decide)) ?_
  refine And.intro (s_aload_n dX6_mothOf_106 rfl) ?_
  refine And.intro (s_getf (C := RX6) (T := TX6) (N := 41) rfl zin_X6 (by decide) zl_802 dX6_mothOf_107) ?_
  refine And.intro (s_imul dX6_mothOf_110) ?_
  refine And.intro (s_lshl dX6_mothOf_111) ?_
  refine And.intro (s_iload_n dX6_mothOf_112 rfl) ?_
  refine And.intro (s_callS zf_X6_lowest zl_1197 zl_1196 ⟨rfl, rfl⟩ dX6_mothOf_113) ?_
  refine And.intro (s_lreturn rfl dX6_mothOf_116) ?_
  exact trivial
def zp_X6_shutOf : List (Bool × Nat × zOp) := [
  (true, 0, o_al 0),
  (true, 1, o_cv zi_X6_asTold 0 6),
  (true, 4, o_ic (-1)),
  (true, 5, o_is 3),
  (true, 6, o_ic 999),
  (true, 9, o_is 4),
  (true, 11, o_ic 0),
  (true, 12, o_is 5),
  (false, 14, o_mark 14 [6]),
  (true, 14, o_il 5),
  (true, 16, o_al 0),
  (true, 17, o_gf 6 2),
  (true, 20, o_cmp (fun x y => y ≤ x) 82),
  (true, 23, o_il 5),
  (true, 25, o_il 1),
  (true, 26, o_cmp (fun x y => x = y) 76),
  (true, 29, o_al 0),
  (true, 30, o_il 5),
  (true, 32, o_pi 6 21),
  (true, 35, o_al 0),
  (true, 36, o_cv zi_X6_runs 0 6),
  (true, 39, o_al 0),
  (true, 40, o_il 1),
  (true, 41, o_cv zi_X6_shortOf 1 6),
  (true, 44, o_is 6),
  (true, 46, o_il 6),
  (true, 48, o_il 4),
  (true, 50, o_cmp (fun x y => y ≤ x) 58),
  (true, 53, o_il 5),
  (true, 55, o_go 59),
  (true, 58, o_il 3),
  (true, 59, o_is 3),
  (true, 60, o_il 6),
  (true, 62, o_il 4),
  (true, 64, o_cmp (fun x y => y ≤ x) 72),
  (true, 67, o_il 6),
  (true, 69, o_go 74),
  (true, 72, o_il 4),
  (true, 74, o_is 4),
  (true, 76, o_inc 5 1),
  (true, 79, o_gb 14 [6]),
  (true, 82, o_il 3),
  (true, 83, o_ic (-1)),
  (true, 84, o_cmp (fun x y => x = y) 91),
  (true, 87, o_il 2),
  (true, 88, o_in (fun x => x = 0) 95),
  (true, 91, o_il 3),
  (true, 92, o_go 97),
  (true, 95, o_il 4),
  (true, 97, o_ir)]
set_option maxRecDepth 100000 in
set_option maxHeartbeats 4000000 in
theorem zk_X6_shutOf (kc ks : Nat) : z_OK (zS RX6 cX6_shutOf 7 "shutOf" (some .int) 7 156 kc ks) zp_X6_shutOf := by
  unfold zp_X6_shutOf
  refine And.intro (s_aload_n dX6_shutOf_0 rfl) ?_
  refine And.intro (s_callV (C := RX6) (T := TX6) (N := 41) rfl zf_X6_asTold zg_X6_asTold zl_1029 ⟨rfl, rfl⟩ dX6_shutOf_1) ?_
  refine And.intro (s_iconst dX6_shutOf_4 (by decide)) ?_
  refine And.intro (s_istore_n dX6_shutOf_5 rfl) ?_
  refine And.intro (s_sipush dX6_shutOf_6 (by decide)) ?_
  refine And.intro (s_istore dX6_shutOf_9) ?_
  refine And.intro (s_iconst dX6_shutOf_11 (by decide)) ?_
  refine And.intro (s_istore dX6_shutOf_12) ?_
  refine And.intro (s_mark) ?_
  refine And.intro (s_iload dX6_shutOf_14) ?_
  refine And.intro (s_aload_n dX6_shutOf_16 rfl) ?_
  refine And.intro (s_getf (C := RX6) (T := TX6) (N := 41) rfl zin_X6 (by decide) zl_793 dX6_shutOf_17) ?_
  refine And.intro (s_icmp_ge dX6_shutOf_20 (by decide)) ?_
  refine And.intro (s_iload dX6_shutOf_23) ?_
  refine And.intro (s_iload_n dX6_shutOf_25 rfl) ?_
  refine And.intro (s_icmp_eq dX6_shutOf_26 (by decide)) ?_
  refine And.intro (s_aload_n dX6_shutOf_29 rfl) ?_
  refine And.intro (s_iload dX6_shutOf_30) ?_
  refine And.intro (s_putI (C := RX6) (T := TX6) (N := 41) rfl zin_X6 (by decide) tyX6 tyX6_ok nmX6 zl_812 rfl (by decide +kernel) dX6_shutOf_32) ?_
  refine And.intro (s_aload_n dX6_shutOf_35 rfl) ?_
  refine And.intro (s_callV (C := RX6) (T := TX6) (N := 41) rfl zf_X6_runs zg_X6_runs zl_1033 ⟨rfl, rfl⟩ dX6_shutOf_36) ?_
  refine And.intro (s_aload_n dX6_shutOf_39 rfl) ?_
  refine And.intro (s_iload_n dX6_shutOf_40 rfl) ?_
  refine And.intro (s_callV (C := RX6) (T := TX6) (N := 41) rfl zf_X6_shortOf zg_X6_shortOf zl_1080 ⟨rfl, rfl⟩ dX6_shutOf_41) ?_
  refine And.intro (s_istore dX6_shutOf_44) ?_
  refine And.intro (s_iload dX6_shutOf_46) ?_
  refine And.intro (s_iload dX6_shutOf_48) ?_
  refine And.intro (s_icmp_ge dX6_shutOf_50 (by decide)) ?_
  refine And.intro (s_iload dX6_shutOf_53) ?_
  refine And.intro (s_goto dX6_shutOf_55 (by decide)) ?_
  refine And.intro (s_iload_n dX6_shutOf_58 rfl) ?_
  refine And.intro (s_istore_n dX6_shutOf_59 rfl) ?_
  refine And.intro (s_iload dX6_shutOf_60) ?_
  refine And.intro (s_iload dX6_shutOf_62) ?_
  refine And.intro (s_icmp_ge dX6_shutOf_64 (by decide)) ?_
  refine And.intro (s_iload dX6_shutOf_67) ?_
  refine And.intro (s_goto dX6_shutOf_69 (by decide)) ?_
  refine And.intro (s_iload dX6_shutOf_72) ?_
  refine And.intro (s_istore dX6_shutOf_74) ?_
  refine And.intro (s_iinc dX6_shutOf_76 (by decide)) ?_
  refine And.intro (s_gotob dX6_shutOf_79 (by decide)) ?_
  refine And.intro (s_iload_n dX6_shutOf_82 rfl) ?_
  refine And.intro (s_iconst dX6_shutOf_83 (by decide)) ?_
  refine And.intro (s_icmp_eq dX6_shutOf_84 (by decide)) ?_
  refine And.intro (s_iload_n dX6_shutOf_87 rfl) ?_
  refine And.intro (s_if_ne dX6_shutOf_88 (by decide)) ?_
  refine And.intro (s_iload_n dX6_shutOf_91 rfl) ?_
  refine And.intro (s_goto dX6_shutOf_92 (by decide)) ?_
  refine And.intro (s_iload dX6_shutOf_95) ?_
  refine And.intro (s_ireturn rfl (fun _ => rfl) dX6_shutOf_97) ?_
  exact trivial
def zp_X6_houseDigest : List (Bool × Nat × zOp) := [
  (true, 0, o_ll 1),
  (true, 1, o_ls 4),
  (true, 3, o_ic 0),
  (true, 4, o_is 6),
  (false, 6, o_mark 6 [1, 2]),
  (true, 6, o_il 6),
  (true, 8, o_ic 7),
  (true, 10, o_cmp (fun x y => y ≤ x) 36),
  (true, 13, o_lc 31),
  (true, 16, o_ll 4),
  (true, 18, o_jj (fun x y => x * y)),
  (true, 19, o_al 0),
  (true, 20, o_il 3),
  (true, 21, o_il 6),
  (true, 23, o_cv zi_X6_houseOf 2 6),
  (true, 26, o_i2l),
  (true, 27, o_jj (fun x y => x + y)),
  (true, 28, o_ls 4),
  (true, 30, o_inc 6 1),
  (true, 33, o_gb 6 [1, 2]),
  (true, 36, o_al 0),
  (true, 37, o_ll 4),
  (true, 39, o_ic 0),
  (true, 40, o_il 3),
  (true, 41, o_cv zi_X6_hourDigest 3 6),
  (true, 44, o_ls 4),
  (true, 46, o_al 0),
  (true, 47, o_ll 4),
  (true, 49, o_ic 7),
  (true, 51, o_il 3),
  (true, 52, o_cv zi_X6_hourDigest 3 6),
  (true, 55, o_ls 4),
  (true, 57, o_al 0),
  (true, 58, o_ll 4),
  (true, 60, o_ic 20),
  (true, 62, o_il 3),
  (true, 63, o_cv zi_X6_hourDigest 3 6),
  (true, 66, o_ls 4),
  (true, 68, o_al 0),
  (true, 69, o_ll 4),
  (true, 71, o_ic 39),
  (true, 73, o_il 3),
  (true, 74, o_cv zi_X6_hourDigest 3 6),
  (true, 77, o_ls 4),
  (true, 79, o_lc 31),
  (true, 82, o_ll 4),
  (true, 84, o_jj (fun x y => x * y)),
  (true, 85, o_al 0),
  (true, 86, o_il 3),
  (true, 87, o_ic 0),
  (true, 88, o_cv zi_X6_heldOf 2 6),
  (true, 91, o_i2l),
  (true, 92, o_jj (fun x y => x + y)),
  (true, 93, o_ls 4),
  (true, 95, o_lc 31),
  (true, 98, o_ll 4),
  (true, 100, o_jj (fun x y => x * y)),
  (true, 101, o_al 0),
  (true, 102, o_il 3),
  (true, 103, o_ic 1),
  (true, 104, o_cv zi_X6_heldOf 2 6),
  (true, 107, o_i2l),
  (true, 108, o_jj (fun x y => x + y)),
  (true, 109, o_ls 4),
  (true, 111, o_lc 31),
  (true, 114, o_ll 4),
  (true, 116, o_jj (fun x y => x * y)),
  (true, 117, o_al 0),
  (true, 118, o_il 3),
  (true, 119, o_ic 0),
  (true, 120, o_cv zi_X6_shutOf 2 6),
  (true, 123, o_i2l),
  (true, 124, o_jj (fun x y => x + y)),
  (true, 125, o_ls 4),
  (true, 127, o_lc 31),
  (true, 130, o_ll 4),
  (true, 132, o_jj (fun x y => x * y)),
  (true, 133, o_al 0),
  (true, 134, o_il 3),
  (true, 135, o_ic 1),
  (true, 136, o_cv zi_X6_shutOf 2 6),
  (true, 139, o_i2l),
  (true, 140, o_jj (fun x y => x + y)),
  (true, 141, o_ls 4),
  (true, 143, o_lc 31),
  (true, 146, o_ll 4),
  (true, 148, o_jj (fun x y => x * y)),
  (true, 149, o_al 0),
  (true, 150, o_il 3),
  (true, 151, o_cv zi_X6_wasOf 1 6),
  (true, 154, o_i2l),
  (true, 155, o_jj (fun x y => x + y)),
  (true, 156, o_ls 4),
  (true, 158, o_lc 31),
  (true, 161, o_ll 4),
  (true, 163, o_jj (fun x y => x * y)),
  (true, 164, o_al 0),
  (true, 165, o_il 3),
  (true, 166, o_cv zi_X6_askOf 1 6),
  (true, 169, o_i2l),
  (true, 170, o_jj (fun x y => x + y)),
  (true, 171, o_ls 4),
  (true, 173, o_lc 31),
  (true, 176, o_ll 4),
  (true, 178, o_jj (fun x y => x * y)),
  (true, 179, o_al 0),
  (true, 180, o_ic 5),
  (true, 181, o_il 3),
  (true, 182, o_ic 0),
  (true, 183, o_cv zi_X6_mothOf 3 6),
  (true, 186, o_jj (fun x y => x + y)),
  (true, 187, o_ls 4),
  (true, 189, o_lc 31),
  (true, 192, o_ll 4),
  (true, 194, o_jj (fun x y => x * y)),
  (true, 195, o_al 0),
  (true, 196, o_ic 5),
  (true, 197, o_il 3),
  (true, 198, o_ic 1),
  (true, 199, o_cv zi_X6_mothOf 3 6),
  (true, 202, o_jj (fun x y => x + y)),
  (true, 203, o_lr)]
set_option maxRecDepth 100000 in
set_option maxHeartbeats 4000000 in
theorem zk_X6_houseDigest (kc ks : Nat) : z_OK (zS RX6 cX6_houseDigest 7 "houseDigest" (some .long) 10 226 kc ks) zp_X6_houseDigest := by
  unfold zp_X6_houseDigest
  refine And.intro (s_lload_n dX6_houseDigest_0 rfl) ?_
  refine And.intro (s_lstore dX6_houseDigest_1) ?_
  refine And.intro (s_iconst dX6_houseDigest_3 (by decide)) ?_
  refine And.intro (s_istore dX6_houseDigest_4) ?_
  refine And.intro (s_mark) ?_
  refine And.intro (s_iload dX6_houseDigest_6) ?_
  refine And.intro (s_bipush dX6_houseDigest_8 (by decide)) ?_
  refine And.intro (s_icmp_ge dX6_houseDigest_10 (by decide)) ?_
  refine And.intro (s_ldc2 zl_1258 dX6_houseDigest_13) ?_
  refine And.intro (s_lload dX6_houseDigest_16) ?_
  refine And.intro (s_lmul dX6_houseDigest_18) ?_
  refine And.intro (s_aload_n dX6_houseDigest_19 rfl) ?_
  refine And.intro (s_iload_n dX6_houseDigest_20 rfl) ?_
  refine And.intro (s_iload dX6_houseDigest_21) ?_
  refine And.intro (s_callV (C := RX6) (T := TX6) (N := 41) rfl zf_X6_houseOf zg_X6_houseOf zl_974 ⟨rfl, rfl⟩ dX6_houseDigest_23) ?_
  refine And.intro (s_i2l dX6_houseDigest_26) ?_
  refine And.intro (s_ladd dX6_houseDigest_27) ?_
  refine And.intro (s_lstore dX6_houseDigest_28) ?_
  refine And.intro (s_iinc dX6_houseDigest_30 (by decide)) ?_
  refine And.intro (s_gotob dX6_houseDigest_33 (by decide)) ?_
  refine And.intro (s_aload_n dX6_houseDigest_36 rfl) ?_
  refine And.intro (s_lload dX6_houseDigest_37) ?_
  refine And.intro (s_iconst dX6_houseDigest_39 (by decide)) ?_
  refine And.intro (s_iload_n dX6_houseDigest_40 rfl) ?_
  refine And.intro (s_callV (C := RX6) (T := TX6) (N := 41) rfl zf_X6_hourDigest zg_X6_hourDigest zl_1264 ⟨rfl, rfl⟩ dX6_houseDigest_41) ?_
  refine And.intro (s_lstore dX6_houseDigest_44) ?_
  refine And.intro (s_aload_n dX6_houseDigest_46 rfl) ?_
  refine And.intro (s_lload dX6_houseDigest_47) ?_
  refine And.intro (s_bipush dX6_houseDigest_49 (by decide)) ?_
  refine And.intro (s_iload_n dX6_houseDigest_51 rfl) ?_
  refine And.intro (s_callV (C := RX6) (T := TX6) (N := 41) rfl zf_X6_hourDigest zg_X6_hourDigest zl_1264 ⟨rfl, rfl⟩ dX6_houseDigest_52) ?_
  refine And.intro (s_lstore dX6_houseDigest_55) ?_
  refine And.intro (s_aload_n dX6_houseDigest_57 rfl) ?_
  refine And.intro (s_lload dX6_houseDigest_58) ?_
  refine And.intro (s_bipush dX6_houseDigest_60 (by decide)) ?_
  refine And.intro (s_iload_n dX6_houseDigest_62 rfl) ?_
  refine And.intro (s_callV (C := RX6) (T := TX6) (N := 41) rfl zf_X6_hourDigest zg_X6_hourDigest zl_1264 ⟨rfl, rfl⟩ dX6_houseDigest_63) ?_
  refine And.intro (s_lstore dX6_houseDigest_66) ?_
  refine And.intro (s_aload_n dX6_houseDigest_68 rfl) ?_
  refine And.intro (s_lload dX6_houseDigest_69) ?_
  refine And.intro (s_bipush dX6_houseDigest_71 (by decide)) ?_
  refine And.intro (s_iload_n dX6_houseDigest_73 rfl) ?_
  refine And.intro (s_callV (C := RX6) (T := TX6) (N := 41) rfl zf_X6_hourDigest zg_X6_hourDigest zl_1264 ⟨rfl, rfl⟩ dX6_houseDigest_74) ?_
  refine And.intro (s_lstore dX6_houseDigest_77) ?_
  refine And.intro (s_ldc2 zl_1258 dX6_houseDigest_79) ?_
  refine And.intro (s_lload dX6_houseDigest_82) ?_
  refine And.intro (s_lmul dX6_houseDigest_84) ?_
  refine And.intro (s_aload_n dX6_houseDigest_85 rfl) ?_
  refine And.intro (s_iload_n dX6_houseDigest_86 rfl) ?_
  refine And.intro (s_iconst dX6_houseDigest_87 (by decide)) ?_
  refine And.intro (s_callV (C := RX6) (T := TX6) (N := 41) rfl zf_X6_heldOf zg_X6_heldOf zl_1076 ⟨rfl, rfl⟩ dX6_houseDigest_88) ?_
  refine And.intro (s_i2l dX6_houseDigest_91) ?_
  refine And.intro (s_ladd dX6_houseDigest_92) ?_
  refine And.intro (s_lstore dX6_houseDigest_93) ?_
  refine And.intro (s_ldc2 zl_1258 dX6_houseDigest_95) ?_
  refine And.intro (s_lload dX6_houseDigest_98) ?_
  refine And.intro (s_lmul dX6_houseDigest_100) ?_
  refine And.intro (s_aload_n dX6_houseDigest_101 rfl) ?_
  refine And.intro (s_iload_n dX6_houseDigest_102 rfl) ?_
  refine And.intro (s_iconst dX6_houseDigest_103 (by decide)) ?_
  refine And.intro (s_callV (C := RX6) (T := TX6) (N := 41) rfl zf_X6_heldOf zg_X6_heldOf zl_1076 ⟨rfl, rfl⟩ dX6_houseDigest_104) ?_
  refine And.intro (s_i2l dX6_houseDigest_107) ?_
  refine And.intro (s_ladd dX6_houseDigest_108) ?_
  refine And.intro (s_lstore dX6_houseDigest_109) ?_
  refine And.intro (s_ldc2 zl_1258 dX6_houseDigest_111) ?_
  refine And.intro (s_lload dX6_houseDigest_114) ?_
  refine And.intro (s_lmul dX6_houseDigest_116) ?_
  refine And.intro (s_aload_n dX6_houseDigest_117 rfl) ?_
  refine And.intro (s_iload_n dX6_houseDigest_118 rfl) ?_
  refine And.intro (s_iconst dX6_houseDigest_119 (by decide)) ?_
  refine And.intro (s_callV (C := RX6) (T := TX6) (N := 41) rfl zf_X6_shutOf zg_X6_shutOf zl_1124 ⟨rfl, rfl⟩ dX6_houseDigest_120) ?_
  refine And.intro (s_i2l dX6_houseDigest_123) ?_
  refine And.intro (s_ladd dX6_houseDigest_124) ?_
  refine And.intro (s_lstore dX6_houseDigest_125) ?_
  refine And.intro (s_ldc2 zl_1258 dX6_houseDigest_127) ?_
  refine And.intro (s_lload dX6_houseDigest_130) ?_
  refine And.intro (s_lmul dX6_houseDigest_132) ?_
  refine And.intro (s_aload_n dX6_houseDigest_133 rfl) ?_
  refine And.intro (s_iload_n dX6_houseDigest_134 rfl) ?_
  refine And.intro (s_iconst dX6_houseDigest_135 (by decide)) ?_
  refine And.intro (s_callV (C := RX6) (T := TX6) (N := 41) rfl zf_X6_shutOf zg_X6_shutOf zl_1124 ⟨rfl, rfl⟩ dX6_houseDigest_136) ?_
  refine And.intro (s_i2l dX6_houseDigest_139) ?_
  refine And.intro (s_ladd dX6_houseDigest_140) ?_
  refine And.intro (s_lstore dX6_houseDigest_141) ?_
  refine And.intro (s_ldc2 zl_1258 dX6_houseDigest_143) ?_
  refine And.intro (s_lload dX6_houseDigest_146) ?_
  refine And.intro (s_lmul dX6_houseDigest_148) ?_
  refine And.intro (s_aload_n dX6_houseDigest_149 rfl) ?_
  refine And.intro (s_iload_n dX6_houseDigest_150 rfl) ?_
  refine And.intro (s_callV (C := RX6) (T := TX6) (N := 41) rfl zf_X6_wasOf zg_X6_wasOf zl_1168 ⟨rfl, rfl⟩ dX6_houseDigest_151) ?_
  refine And.intro (s_i2l dX6_houseDigest_154) ?_
  refine And.intro (s_ladd dX6_houseDigest_155) ?_
  refine And.intro (s_lstore dX6_houseDigest_156) ?_
  refine And.intro (s_ldc2 zl_1258 dX6_houseDigest_158) ?_
  refine And.intro (s_lload dX6_houseDigest_161) ?_
  refine And.intro (s_lmul dX6_houseDigest_163) ?_
  refine And.intro (s_aload_n dX6_houseDigest_164 rfl) ?_
  refine And.intro (s_iload_n dX6_houseDigest_165 rfl) ?_
  refine And.intro (s_callV (C := RX6) (T := TX6) (N := 41) rfl zf_X6_askOf zg_X6_askOf zl_1184 ⟨rfl, rfl⟩ dX6_houseDigest_166) ?_
  refine And.intro (s_i2l dX6_houseDigest_169) ?_
  refine And.intro (s_ladd dX6_houseDigest_170) ?_
  refine And.intro (s_lstore dX6_houseDigest_171) ?_
  refine And.intro (s_ldc2 zl_1258 dX6_houseDigest_173) ?_
  refine And.intro (s_lload dX6_houseDigest_176) ?_
  refine And.intro (s_lmul dX6_houseDigest_178) ?_
  refine And.intro (s_aload_n dX6_houseDigest_179 rfl) ?_
  refine And.intro (s_iconst dX6_houseDigest_180 (by decide)) ?_
  refine And.intro (s_iload_n dX6_houseDigest_181 rfl) ?_
  refine And.intro (s_iconst dX6_houseDigest_182 (by decide)) ?_
  refine And.intro (s_callV (C := RX6) (T := TX6) (N := 41) rfl zf_X6_mothOf zg_X6_mothOf zl_1192 ⟨rfl, rfl⟩ dX6_houseDigest_183) ?_
  refine And.intro (s_ladd dX6_houseDigest_186) ?_
  refine And.intro (s_lstore dX6_houseDigest_187) ?_
  refine And.intro (s_ldc2 zl_1258 dX6_houseDigest_189) ?_
  refine And.intro (s_lload dX6_houseDigest_192) ?_
  refine And.intro (s_lmul dX6_houseDigest_194) ?_
  refine And.intro (s_aload_n dX6_houseDigest_195 rfl) ?_
  refine And.intro (s_iconst dX6_houseDigest_196 (by decide)) ?_
  refine And.intro (s_iload_n dX6_houseDigest_197 rfl) ?_
  refine And.intro (s_iconst dX6_houseDigest_198 (by decide)) ?_
  refine And.intro (s_callV (C := RX6) (T := TX6) (N := 41) rfl zf_X6_mothOf zg_X6_mothOf zl_1192 ⟨rfl, rfl⟩ dX6_houseDigest_199) ?_
  refine And.intro (s_ladd dX6_houseDigest_202) ?_
  refine And.intro (s_lreturn rfl dX6_houseDigest_203) ?_
  exact trivial
def zp_X6_leastNow : List (Bool × Nat × zOp) := [
  (true, 0, o_al 0),
  (true, 1, o_cv zi_X6_asTold 0 6),
  (true, 4, o_ic (-1)),
  (true, 5, o_is 1),
  (true, 6, o_ic 0),
  (true, 7, o_is 2),
  (false, 8, o_mark 8 []),
  (true, 8, o_il 2),
  (true, 9, o_ic 61),
  (true, 11, o_cmp (fun x y => y ≤ x) 47),
  (true, 14, o_il 1),
  (true, 15, o_ic (-1)),
  (true, 16, o_cn (fun x y => x = y) 47),
  (true, 19, o_al 0),
  (true, 20, o_il 2),
  (true, 21, o_pi 6 22),
  (true, 24, o_al 0),
  (true, 25, o_cv zi_X6_runs 0 6),
  (true, 28, o_al 0),
  (true, 29, o_cv zi_X6_shortAll 0 6),
  (true, 32, o_in (fun x => x = 0) 39),
  (true, 35, o_il 2),
  (true, 36, o_go 40),
  (true, 39, o_ic (-1)),
  (true, 40, o_is 1),
  (true, 41, o_inc 2 1),
  (true, 44, o_gb 8 []),
  (true, 47, o_il 1),
  (true, 48, o_ir)]
set_option maxRecDepth 100000 in
set_option maxHeartbeats 4000000 in
theorem zk_X6_leastNow (kc ks : Nat) : z_OK (zS RX6 cX6_leastNow 3 "leastNow" (some .int) 7 156 kc ks) zp_X6_leastNow := by
  unfold zp_X6_leastNow
  refine And.intro (s_aload_n dX6_leastNow_0 rfl) ?_
  refine And.intro (s_callV (C := RX6) (T := TX6) (N := 41) rfl zf_X6_asTold zg_X6_asTold zl_1029 ⟨rfl, rfl⟩ dX6_leastNow_1) ?_
  refine And.intro (s_iconst dX6_leastNow_4 (by decide)) ?_
  refine And.intro (s_istore_n dX6_leastNow_5 rfl) ?_
  refine And.intro (s_iconst dX6_leastNow_6 (by decide)) ?_
  refine And.intro (s_istore_n dX6_leastNow_7 rfl) ?_
  refine And.intro (s_mark) ?_
  refine And.intro (s_iload_n dX6_leastNow_8 rfl) ?_
  refine And.intro (s_bipush dX6_leastNow_9 (by decide)) ?_
  refine And.intro (s_icmp_ge dX6_leastNow_11 (by decide)) ?_
  refine And.intro (s_iload_n dX6_leastNow_14 rfl) ?_
  refine And.intro (s_iconst dX6_leastNow_15 (by decide)) ?_
  refine And.intro (s_icmp_ne dX6_leastNow_16 (by decide)) ?_
  refine And.intro (s_aload_n dX6_leastNow_19 rfl) ?_
  refine And.intro (s_iload_n dX6_leastNow_20 rfl) ?_
  refine And.intro (s_putI (C := RX6) (T := TX6) (N := 41) rfl zin_X6 (by decide) tyX6 tyX6_ok nmX6 zl_813 rfl (by decide +kernel) dX6_leastNow_21) ?_
  refine And.intro (s_aload_n dX6_leastNow_24 rfl) ?_
  refine And.intro (s_callV (C := RX6) (T := TX6) (N := 41) rfl zf_X6_runs zg_X6_runs zl_1033 ⟨rfl, rfl⟩ dX6_leastNow_25) ?_
  refine And.intro (s_aload_n dX6_leastNow_28 rfl) ?_
  refine And.intro (s_callV (C := RX6) (T := TX6) (N := 41) rfl zf_X6_shortAll zg_X6_shortAll zl_1116 ⟨rfl, rfl⟩ dX6_leastNow_29) ?_
  refine And.intro (s_if_ne dX6_leastNow_32 (by decide)) ?_
  refine And.intro (s_iload_n dX6_leastNow_35 rfl) ?_
  refine And.intro (s_goto dX6_leastNow_36 (by decide)) ?_
  refine And.intro (s_iconst dX6_leastNow_39 (by decide)) ?_
  refine And.intro (s_istore_n dX6_leastNow_40 rfl) ?_
  refine And.intro (s_iinc dX6_leastNow_41 (by decide)) ?_
  refine And.intro (s_gotob dX6_leastNow_44 (by decide)) ?_
  refine And.intro (s_iload_n dX6_leastNow_47 rfl) ?_
  refine And.intro (s_ireturn rfl (fun _ => rfl) dX6_leastNow_48) ?_
  exact trivial
def zp_X6_neverNow : List (Bool × Nat × zOp) := [
  (true, 0, o_al 0),
  (true, 1, o_cv zi_X6_asTold 0 6),
  (true, 4, o_ic 0),
  (true, 5, o_is 1),
  (true, 6, o_ic 0),
  (true, 7, o_is 2),
  (false, 8, o_mark 8 []),
  (true, 8, o_il 2),
  (true, 9, o_al 0),
  (true, 10, o_gf 6 15),
  (true, 13, o_cmp (fun x y => y ≤ x) 46),
  (true, 16, o_al 0),
  (true, 17, o_ic 1),
  (true, 18, o_il 2),
  (true, 19, o_ii (fun x y => x <<< (y &&& 31))),
  (true, 20, o_pi 6 20),
  (true, 23, o_il 1),
  (true, 24, o_al 0),
  (true, 25, o_cv zi_X6_isSeen 0 6),
  (true, 28, o_if (fun x => x = 0) 37),
  (true, 31, o_ic 1),
  (true, 32, o_il 2),
  (true, 33, o_ii (fun x y => x <<< (y &&& 31))),
  (true, 34, o_go 38),
  (true, 37, o_ic 0),
  (true, 38, o_ii (fun x y => x ||| y)),
  (true, 39, o_is 1),
  (true, 40, o_inc 2 1),
  (true, 43, o_gb 8 []),
  (true, 46, o_il 1),
  (true, 47, o_ir)]
set_option maxRecDepth 100000 in
set_option maxHeartbeats 4000000 in
theorem zk_X6_neverNow (kc ks : Nat) : z_OK (zS RX6 cX6_neverNow 3 "neverNow" (some .int) 7 156 kc ks) zp_X6_neverNow := by
  unfold zp_X6_neverNow
  refine And.intro (s_aload_n dX6_neverNow_0 rfl) ?_
  refine And.intro (s_callV (C := RX6) (T := TX6) (N := 41) rfl zf_X6_asTold zg_X6_asTold zl_1029 ⟨rfl, rfl⟩ dX6_neverNow_1) ?_
  refine And.intro (s_iconst dX6_neverNow_4 (by decide)) ?_
  refine And.intro (s_istore_n dX6_neverNow_5 rfl) ?_
  refine And.intro (s_iconst dX6_neverNow_6 (by decide)) ?_
  refine And.intro (s_istore_n dX6_neverNow_7 rfl) ?_
  refine And.intro (s_mark) ?_
  refine And.intro (s_iload_n dX6_neverNow_8 rfl) ?_
  refine And.intro (s_aload_n dX6_neverNow_9 rfl) ?_
  refine And.intro (s_getf (C := RX6) (T := TX6) (N := 41) rfl zin_X6 (by decide) zl_806 dX6_neverNow_10) ?_
  refine And.intro (s_icmp_ge dX6_neverNow_13 (by decide)) ?_
  refine And.intro (s_aload_n dX6_neverNow_16 rfl) ?_
  refine And.intro (s_iconst dX6_neverNow_17 (by decide)) ?_
  refine And.intro (s_iload_n dX6_neverNow_18 rfl) ?_
  refine And.intro (s_ishl dX6_neverNow_19) ?_
  refine And.intro (s_putI (C := RX6) (T := TX6) (N := 41) rfl zin_X6 (by decide) tyX6 tyX6_ok nmX6 zl_811 rfl (by decide +kernel) dX6_neverNow_20) ?_
  refine And.intro (s_iload_n dX6_neverNow_23 rfl) ?_
  refine And.intro (s_aload_n dX6_neverNow_24 rfl) ?_
  refine And.intro (s_callV (C := RX6) (T := TX6) (N := 41) rfl zf_X6_isSeen zg_X6_isSeen zl_1160 ⟨rfl, rfl⟩ dX6_neverNow_25) ?_
  refine And.intro (s_if_eq dX6_neverNow_28 (by decide)) ?_
  refine And.intro (s_iconst dX6_neverNow_31 (by decide)) ?_
  refine And.intro (s_iload_n dX6_neverNow_32 rfl) ?_
  refine And.intro (s_ishl dX6_neverNow_33) ?_
  refine And.intro (s_goto dX6_neverNow_34 (by decide)) ?_
  refine And.intro (s_iconst dX6_neverNow_37 (by decide)) ?_
  refine And.intro (s_ior dX6_neverNow_38) ?_
  refine And.intro (s_istore_n dX6_neverNow_39 rfl) ?_
  refine And.intro (s_iinc dX6_neverNow_40 (by decide)) ?_
  refine And.intro (s_gotob dX6_neverNow_43 (by decide)) ?_
  refine And.intro (s_iload_n dX6_neverNow_46 rfl) ?_
  refine And.intro (s_ireturn rfl (fun _ => rfl) dX6_neverNow_47) ?_
  exact trivial
def zp_X6_patchOf : List (Bool × Nat × zOp) := [
  (true, 0, o_al 0),
  (true, 1, o_cv zi_X6_asTold 0 6),
  (true, 4, o_ic (-1)),
  (true, 5, o_is 2),
  (true, 6, o_ic 999),
  (true, 9, o_is 3),
  (true, 10, o_ic 0),
  (true, 11, o_is 4),
  (false, 13, o_mark 13 [5]),
  (true, 13, o_il 4),
  (true, 15, o_al 0),
  (true, 16, o_gf 6 11),
  (true, 19, o_cmp (fun x y => y ≤ x) 72),
  (true, 22, o_al 0),
  (true, 23, o_ic 1),
  (true, 24, o_il 4),
  (true, 26, o_ii (fun x y => x <<< (y &&& 31))),
  (true, 27, o_pi 6 19),
  (true, 30, o_al 0),
  (true, 31, o_cv zi_X6_runs 0 6),
  (true, 34, o_al 0),
  (true, 35, o_cv zi_X6_shortAll 0 6),
  (true, 38, o_is 5),
  (true, 40, o_il 5),
  (true, 42, o_il 3),
  (true, 43, o_cmp (fun x y => y ≤ x) 51),
  (true, 46, o_il 4),
  (true, 48, o_go 52),
  (true, 51, o_il 2),
  (true, 52, o_is 2),
  (true, 53, o_il 5),
  (true, 55, o_il 3),
  (true, 56, o_cmp (fun x y => y ≤ x) 64),
  (true, 59, o_il 5),
  (true, 61, o_go 65),
  (true, 64, o_il 3),
  (true, 65, o_is 3),
  (true, 66, o_inc 4 1),
  (true, 69, o_gb 13 [5]),
  (true, 72, o_il 2),
  (true, 73, o_ic (-1)),
  (true, 74, o_cmp (fun x y => x = y) 81),
  (true, 77, o_il 1),
  (true, 78, o_in (fun x => x = 0) 85),
  (true, 81, o_il 2),
  (true, 82, o_go 86),
  (true, 85, o_il 3),
  (true, 86, o_ir)]
set_option maxRecDepth 100000 in
set_option maxHeartbeats 4000000 in
theorem zk_X6_patchOf (kc ks : Nat) : z_OK (zS RX6 cX6_patchOf 6 "patchOf" (some .int) 7 156 kc ks) zp_X6_patchOf := by
  unfold zp_X6_patchOf
  refine And.intro (s_aload_n dX6_patchOf_0 rfl) ?_
  refine And.intro (s_callV (C := RX6) (T := TX6) (N := 41) rfl zf_X6_asTold zg_X6_asTold zl_1029 ⟨rfl, rfl⟩ dX6_patchOf_1) ?_
  refine And.intro (s_iconst dX6_patchOf_4 (by decide)) ?_
  refine And.intro (s_istore_n dX6_patchOf_5 rfl) ?_
  refine And.intro (s_sipush dX6_patchOf_6 (by decide)) ?_
  refine And.intro (s_istore_n dX6_patchOf_9 rfl) ?_
  refine And.intro (s_iconst dX6_patchOf_10 (by decide)) ?_
  refine And.intro (s_istore dX6_patchOf_11) ?_
  refine And.intro (s_mark) ?_
  refine And.intro (s_iload dX6_patchOf_13) ?_
  refine And.intro (s_aload_n dX6_patchOf_15 rfl) ?_
  refine And.intro (s_getf (C := RX6) (T := TX6) (N := 41) rfl zin_X6 (by decide) zl_802 dX6_patchOf_16) ?_
  refine And.intro (s_icmp_ge dX6_patchOf_19 (by decide)) ?_
  refine And.intro (s_aload_n dX6_patchOf_22 rfl) ?_
  refine And.intro (s_iconst dX6_patchOf_23 (by decide)) ?_
  refine And.intro (s_iload dX6_patchOf_24) ?_
  refine And.intro (s_ishl dX6_patchOf_26) ?_
  refine And.intro (s_putI (C := RX6) (T := TX6) (N := 41) rfl zin_X6 (by decide) tyX6 tyX6_ok nmX6 zl_810 rfl (by decide +kernel) dX6_patchOf_27) ?_
  refine And.intro (s_aload_n dX6_patchOf_30 rfl) ?_
  refine And.intro (s_callV (C := RX6) (T := TX6) (N := 41) rfl zf_X6_runs zg_X6_runs zl_1033 ⟨rfl, rfl⟩ dX6_patchOf_31) ?_
  refine And.intro (s_aload_n dX6_patchOf_34 rfl) ?_
  refine And.intro (s_callV (C := RX6) (T := TX6) (N := 41) rfl zf_X6_shortAll zg_X6_shortAll zl_1116 ⟨rfl, rfl⟩ dX6_patchOf_35) ?_
  refine And.intro (s_istore dX6_patchOf_38) ?_
  refine And.intro (s_iload dX6_patchOf_40) ?_
  refine And.intro (s_iload_n dX6_patchOf_42 rfl) ?_
  refine And.intro (s_icmp_ge dX6_patchOf_43 (by decide)) ?_
  refine And.intro (s_iload dX6_patchOf_46) ?_
  refine And.intro (s_goto dX6_patchOf_48 (by decide)) ?_
  refine And.intro (s_iload_n dX6_patchOf_51 rfl) ?_
  refine And.intro (s_istore_n dX6_patchOf_52 rfl) ?_
  refine And.intro (s_iload dX6_patchOf_53) ?_
  refine And.intro (s_iload_n dX6_patchOf_55 rfl) ?_
  refine And.intro (s_icmp_ge dX6_patchOf_56 (by decide)) ?_
  refine And.intro (s_iload dX6_patchOf_59) ?_
  refine And.intro (s_goto dX6_patchOf_61 (by decide)) ?_
  refine And.intro (s_iload_n dX6_patchOf_64 rfl) ?_
  refine And.intro (s_istore_n dX6_patchOf_65 rfl) ?_
  refine And.intro (s_iinc dX6_patchOf_66 (by decide)) ?_
  refine And.intro (s_gotob dX6_patchOf_69 (by decide)) ?_
  refine And.intro (s_iload_n dX6_patchOf_72 rfl) ?_
  refine And.intro (s_iconst dX6_patchOf_73 (by decide)) ?_
  refine And.intro (s_icmp_eq dX6_patchOf_74 (by decide)) ?_
  refine And.intro (s_iload_n dX6_patchOf_77 rfl) ?_
  refine And.intro (s_if_ne dX6_patchOf_78 (by decide)) ?_
  refine And.intro (s_iload_n dX6_patchOf_81 rfl) ?_
  refine And.intro (s_goto dX6_patchOf_82 (by decide)) ?_
  refine And.intro (s_iload_n dX6_patchOf_85 rfl) ?_
  refine And.intro (s_ireturn rfl (fun _ => rfl) dX6_patchOf_86) ?_
  exact trivial
def zp_X6_quietOf : List (Bool × Nat × zOp) := [
  (true, 0, o_al 0),
  (true, 1, o_cv zi_X6_runsTold 0 6),
  (true, 4, o_ic (-1)),
  (true, 5, o_is 1),
  (true, 6, o_ic 39),
  (true, 8, o_is 2),
  (false, 9, o_mark 9 []),
  (true, 9, o_il 2),
  (true, 10, o_if (fun x => x < 0) 34),
  (true, 13, o_al 0),
  (true, 14, o_gf 6 25),
  (true, 17, o_il 2),
  (true, 18, o_ia),
  (true, 19, o_in (fun x => x = 0) 26),
  (true, 22, o_il 2),
  (true, 23, o_go 27),
  (true, 26, o_il 1),
  (true, 27, o_is 1),
  (true, 28, o_inc 2 (-1)),
  (true, 31, o_gb 9 []),
  (true, 34, o_il 1),
  (true, 35, o_ir)]
set_option maxRecDepth 100000 in
set_option maxHeartbeats 4000000 in
theorem zk_X6_quietOf (kc ks : Nat) : z_OK (zS RX6 cX6_quietOf 3 "quietOf" (some .int) 8 176 kc ks) zp_X6_quietOf := by
  unfold zp_X6_quietOf
  refine And.intro (s_aload_n dX6_quietOf_0 rfl) ?_
  refine And.intro (s_callV (C := RX6) (T := TX6) (N := 41) rfl zf_X6_runsTold zg_X6_runsTold zl_1025 ⟨rfl, rfl⟩ dX6_quietOf_1) ?_
  refine And.intro (s_iconst dX6_quietOf_4 (by decide)) ?_
  refine And.intro (s_istore_n dX6_quietOf_5 rfl) ?_
  refine And.intro (s_bipush dX6_quietOf_6 (by decide)) ?_
  refine And.intro (s_istore_n dX6_quietOf_8 rfl) ?_
  refine And.intro (s_mark) ?_
  refine And.intro (s_iload_n dX6_quietOf_9 rfl) ?_
  refine And.intro (s_if_lt dX6_quietOf_10 (by decide)) ?_
  refine And.intro (s_aload_n dX6_quietOf_13 rfl) ?_
  refine And.intro (s_getf (C := RX6) (T := TX6) (N := 41) rfl zin_X6 (by decide) zl_816 dX6_quietOf_14) ?_
  refine And.intro (s_iload_n dX6_quietOf_17 rfl) ?_
  refine And.intro (s_iaload dX6_quietOf_18) ?_
  refine And.intro (s_if_ne dX6_quietOf_19 (by decide)) ?_
  refine And.intro (s_iload_n dX6_quietOf_22 rfl) ?_
  refine And.intro (s_goto dX6_quietOf_23 (by decide)) ?_
  refine And.intro (s_iload_n dX6_quietOf_26 rfl) ?_
  refine And.intro (s_istore_n dX6_quietOf_27 rfl) ?_
  refine And.intro (s_iinc dX6_quietOf_28 (by decide)) ?_
  refine And.intro (s_gotob dX6_quietOf_31 (by decide)) ?_
  refine And.intro (s_iload_n dX6_quietOf_34 rfl) ?_
  refine And.intro (s_ireturn rfl (fun _ => rfl) dX6_quietOf_35) ?_
  exact trivial
def zp_X6_startsOf : List (Bool × Nat × zOp) := [
  (true, 0, o_al 0),
  (true, 1, o_cv zi_X6_asTold 0 6),
  (true, 4, o_ic 0),
  (true, 5, o_is 2),
  (true, 6, o_ic (-1)),
  (true, 7, o_is 3),
  (true, 8, o_ic (-1)),
  (true, 9, o_is 4),
  (true, 11, o_ic 0),
  (true, 12, o_is 5),
  (false, 14, o_mark 14 [6]),
  (true, 14, o_il 5),
  (true, 16, o_ic 61),
  (true, 18, o_cmp (fun x y => y ≤ x) 83),
  (true, 21, o_al 0),
  (true, 22, o_il 5),
  (true, 24, o_pi 6 22),
  (true, 27, o_al 0),
  (true, 28, o_cv zi_X6_isSeen 0 6),
  (true, 31, o_is 6),
  (true, 33, o_il 2),
  (true, 34, o_il 6),
  (true, 36, o_if (fun x => x = 0) 43),
  (true, 39, o_ic 1),
  (true, 40, o_go 44),
  (true, 43, o_ic 0),
  (true, 44, o_ii (fun x y => x + y)),
  (true, 45, o_is 2),
  (true, 46, o_il 6),
  (true, 48, o_if (fun x => x = 0) 61),
  (true, 51, o_il 3),
  (true, 52, o_ic (-1)),
  (true, 53, o_cn (fun x y => x = y) 61),
  (true, 56, o_il 5),
  (true, 58, o_go 62),
  (true, 61, o_il 3),
  (true, 62, o_is 3),
  (true, 63, o_il 6),
  (true, 65, o_if (fun x => x = 0) 73),
  (true, 68, o_il 5),
  (true, 70, o_go 75),
  (true, 73, o_il 4),
  (true, 75, o_is 4),
  (true, 77, o_inc 5 1),
  (true, 80, o_gb 14 [6]),
  (true, 83, o_il 1),
  (true, 84, o_in (fun x => x = 0) 91),
  (true, 87, o_il 2),
  (true, 88, o_go 102),
  (true, 91, o_il 1),
  (true, 92, o_ic 1),
  (true, 93, o_cn (fun x y => x = y) 100),
  (true, 96, o_il 3),
  (true, 97, o_go 102),
  (true, 100, o_il 4),
  (true, 102, o_ir)]
set_option maxRecDepth 100000 in
set_option maxHeartbeats 4000000 in
theorem zk_X6_startsOf (kc ks : Nat) : z_OK (zS RX6 cX6_startsOf 7 "startsOf" (some .int) 7 156 kc ks) zp_X6_startsOf := by
  unfold zp_X6_startsOf
  refine And.intro (s_aload_n dX6_startsOf_0 rfl) ?_
  refine And.intro (s_callV (C := RX6) (T := TX6) (N := 41) rfl zf_X6_asTold zg_X6_asTold zl_1029 ⟨rfl, rfl⟩ dX6_startsOf_1) ?_
  refine And.intro (s_iconst dX6_startsOf_4 (by decide)) ?_
  refine And.intro (s_istore_n dX6_startsOf_5 rfl) ?_
  refine And.intro (s_iconst dX6_startsOf_6 (by decide)) ?_
  refine And.intro (s_istore_n dX6_startsOf_7 rfl) ?_
  refine And.intro (s_iconst dX6_startsOf_8 (by decide)) ?_
  refine And.intro (s_istore dX6_startsOf_9) ?_
  refine And.intro (s_iconst dX6_startsOf_11 (by decide)) ?_
  refine And.intro (s_istore dX6_startsOf_12) ?_
  refine And.intro (s_mark) ?_
  refine And.intro (s_iload dX6_startsOf_14) ?_
  refine And.intro (s_bipush dX6_startsOf_16 (by decide)) ?_
  refine And.intro (s_icmp_ge dX6_startsOf_18 (by decide)) ?_
  refine And.intro (s_aload_n dX6_startsOf_21 rfl) ?_
  refine And.intro (s_iload dX6_startsOf_22) ?_
  refine And.intro (s_putI (C := RX6) (T := TX6) (N := 41) rfl zin_X6 (by decide) tyX6 tyX6_ok nmX6 zl_813 rfl (by decide +kernel) dX6_startsOf_24) ?_
  refine And.intro (s_aload_n dX6_startsOf_27 rfl) ?_
  refine And.intro (s_callV (C := RX6) (T := TX6) (N := 41) rfl zf_X6_isSeen zg_X6_isSeen zl_1160 ⟨rfl, rfl⟩ dX6_startsOf_28) ?_
  refine And.intro (s_istore dX6_startsOf_31) ?_
  refine And.intro (s_iload_n dX6_startsOf_33 rfl) ?_
  refine And.intro (s_iload dX6_startsOf_34) ?_
  refine And.intro (s_if_eq dX6_startsOf_36 (by decide)) ?_
  refine And.intro (s_iconst dX6_startsOf_39 (by decide)) ?_
  refine And.intro (s_goto dX6_startsOf_40 (by decide)) ?_
  refine And.intro (s_iconst dX6_startsOf_43 (by decide)) ?_
  refine And.intro (s_iadd dX6_startsOf_44) ?_
  refine And.intro (s_istore_n dX6_startsOf_45 rfl) ?_
  refine And.intro (s_iload dX6_startsOf_46) ?_
  refine And.intro (s_if_eq dX6_startsOf_48 (by decide)) ?_
  refine And.intro (s_iload_n dX6_startsOf_51 rfl) ?_
  refine And.intro (s_iconst dX6_startsOf_52 (by decide)) ?_
  refine And.intro (s_icmp_ne dX6_startsOf_53 (by decide)) ?_
  refine And.intro (s_iload dX6_startsOf_56) ?_
  refine And.intro (s_goto dX6_startsOf_58 (by decide)) ?_
  refine And.intro (s_iload_n dX6_startsOf_61 rfl) ?_
  refine And.intro (s_istore_n dX6_startsOf_62 rfl) ?_
  refine And.intro (s_iload dX6_startsOf_63) ?_
  refine And.intro (s_if_eq dX6_startsOf_65 (by decide)) ?_
  refine And.intro (s_iload dX6_startsOf_68) ?_
  refine And.intro (s_goto dX6_startsOf_70 (by decide)) ?_
  refine And.intro (s_iload dX6_startsOf_73) ?_
  refine And.intro (s_istore dX6_startsOf_75) ?_
  refine And.intro (s_iinc dX6_startsOf_77 (by decide)) ?_
  refine And.intro (s_gotob dX6_startsOf_80 (by decide)) ?_
  refine And.intro (s_iload_n dX6_startsOf_83 rfl) ?_
  refine And.intro (s_if_ne dX6_startsOf_84 (by decide)) ?_
  refine And.intro (s_iload_n dX6_startsOf_87 rfl) ?_
  refine And.intro (s_goto dX6_startsOf_88 (by decide)) ?_
  refine And.intro (s_iload_n dX6_startsOf_91 rfl) ?_
  refine And.intro (s_iconst dX6_startsOf_92 (by decide)) ?_
  refine And.intro (s_icmp_ne dX6_startsOf_93 (by decide)) ?_
  refine And.intro (s_iload_n dX6_startsOf_96 rfl) ?_
  refine And.intro (s_goto dX6_startsOf_97 (by decide)) ?_
  refine And.intro (s_iload dX6_startsOf_100) ?_
  refine And.intro (s_ireturn rfl (fun _ => rfl) dX6_startsOf_102) ?_
  exact trivial
def zp_X6_wellOf : List (Bool × Nat × zOp) := [
  (true, 0, o_al 0),
  (true, 1, o_cv zi_X6_runsTold 0 6),
  (true, 4, o_ic 0),
  (true, 5, o_is 1),
  (true, 6, o_ic 0),
  (true, 7, o_is 2),
  (false, 8, o_mark 8 []),
  (true, 8, o_il 2),
  (true, 9, o_ic 40),
  (true, 11, o_cmp (fun x y => y ≤ x) 37),
  (true, 14, o_il 1),
  (true, 15, o_al 0),
  (true, 16, o_gf 6 28),
  (true, 19, o_il 2),
  (true, 20, o_ia),
  (true, 21, o_in (fun x => x = 0) 28),
  (true, 24, o_ic 1),
  (true, 25, o_go 29),
  (true, 28, o_ic 0),
  (true, 29, o_ii (fun x y => x + y)),
  (true, 30, o_is 1),
  (true, 31, o_inc 2 1),
  (true, 34, o_gb 8 []),
  (true, 37, o_il 1),
  (true, 38, o_ir)]
set_option maxRecDepth 100000 in
set_option maxHeartbeats 4000000 in
theorem zk_X6_wellOf (kc ks : Nat) : z_OK (zS RX6 cX6_wellOf 3 "wellOf" (some .int) 8 176 kc ks) zp_X6_wellOf := by
  unfold zp_X6_wellOf
  refine And.intro (s_aload_n dX6_wellOf_0 rfl) ?_
  refine And.intro (s_callV (C := RX6) (T := TX6) (N := 41) rfl zf_X6_runsTold zg_X6_runsTold zl_1025 ⟨rfl, rfl⟩ dX6_wellOf_1) ?_
  refine And.intro (s_iconst dX6_wellOf_4 (by decide)) ?_
  refine And.intro (s_istore_n dX6_wellOf_5 rfl) ?_
  refine And.intro (s_iconst dX6_wellOf_6 (by decide)) ?_
  refine And.intro (s_istore_n dX6_wellOf_7 rfl) ?_
  refine And.intro (s_mark) ?_
  refine And.intro (s_iload_n dX6_wellOf_8 rfl) ?_
  refine And.intro (s_bipush dX6_wellOf_9 (by decide)) ?_
  refine And.intro (s_icmp_ge dX6_wellOf_11 (by decide)) ?_
  refine And.intro (s_iload_n dX6_wellOf_14 rfl) ?_
  refine And.intro (s_aload_n dX6_wellOf_15 rfl) ?_
  refine And.intro (s_getf (C := RX6) (T := TX6) (N := 41) rfl zin_X6 (by decide) zl_819 dX6_wellOf_16) ?_
  refine And.intro (s_iload_n dX6_wellOf_19 rfl) ?_
  refine And.intro (s_iaload dX6_wellOf_20) ?_
  refine And.intro (s_if_ne dX6_wellOf_21 (by decide)) ?_
  refine And.intro (s_iconst dX6_wellOf_24 (by decide)) ?_
  refine And.intro (s_goto dX6_wellOf_25 (by decide)) ?_
  refine And.intro (s_iconst dX6_wellOf_28 (by decide)) ?_
  refine And.intro (s_iadd dX6_wellOf_29) ?_
  refine And.intro (s_istore_n dX6_wellOf_30 rfl) ?_
  refine And.intro (s_iinc dX6_wellOf_31 (by decide)) ?_
  refine And.intro (s_gotob dX6_wellOf_34 (by decide)) ?_
  refine And.intro (s_iload_n dX6_wellOf_37 rfl) ?_
  refine And.intro (s_ireturn rfl (fun _ => rfl) dX6_wellOf_38) ?_
  exact trivial
def zp_X6_yearOf : List (Bool × Nat × zOp) := [
  (true, 0, o_al 0),
  (true, 1, o_cv zi_X6_asTold 0 6),
  (true, 4, o_il 1),
  (true, 5, o_is 4),
  (true, 7, o_ic 0),
  (true, 8, o_is 5),
  (false, 10, o_mark 10 [1]),
  (true, 10, o_il 5),
  (true, 12, o_ic 40),
  (true, 14, o_cmp (fun x y => y ≤ x) 71),
  (true, 17, o_il 5),
  (true, 19, o_il 2),
  (true, 20, o_cmp (fun x y => y ≤ x) 36),
  (true, 23, o_ic 1103515245),
  (true, 26, o_il 4),
  (true, 28, o_ii (fun x y => x * y)),
  (true, 29, o_ic 12345),
  (true, 32, o_ii (fun x y => x + y)),
  (true, 33, o_go 38),
  (true, 36, o_il 4),
  (true, 38, o_is 4),
  (true, 40, o_al 0),
  (true, 41, o_gf 6 18),
  (true, 44, o_il 5),
  (true, 46, o_il 5),
  (true, 48, o_il 2),
  (true, 49, o_cmp (fun x y => y ≤ x) 63),
  (true, 52, o_il 4),
  (true, 54, o_ic 16),
  (true, 56, o_ii (fun x y => (x.toUInt32 >>> (y.toUInt32 &&& Int32.toUInt32 31)).toInt32)),
  (true, 57, o_ic 10),
  (true, 59, o_iz (fun x y => x - x / y * y)),
  (true, 60, o_go 64),
  (true, 63, o_ic 3),
  (true, 64, o_iw),
  (true, 65, o_inc 5 1),
  (true, 68, o_gb 10 [1]),
  (true, 71, o_al 0),
  (true, 72, o_cv zi_X6_runs 0 6),
  (true, 75, o_il 3),
  (true, 76, o_in (fun x => x = 0) 86),
  (true, 79, o_al 0),
  (true, 80, o_cv zi_X6_shortAll 0 6),
  (true, 83, o_go 90),
  (true, 86, o_al 0),
  (true, 87, o_gf 6 23),
  (true, 90, o_ir)]
set_option maxRecDepth 100000 in
set_option maxHeartbeats 4000000 in
theorem zk_X6_yearOf (kc ks : Nat) : z_OK (zS RX6 cX6_yearOf 6 "yearOf" (some .int) 7 156 kc ks) zp_X6_yearOf := by
  unfold zp_X6_yearOf
  refine And.intro (s_aload_n dX6_yearOf_0 rfl) ?_
  refine And.intro (s_callV (C := RX6) (T := TX6) (N := 41) rfl zf_X6_asTold zg_X6_asTold zl_1029 ⟨rfl, rfl⟩ dX6_yearOf_1) ?_
  refine And.intro (s_iload_n dX6_yearOf_4 rfl) ?_
  refine And.intro (s_istore dX6_yearOf_5) ?_
  refine And.intro (s_iconst dX6_yearOf_7 (by decide)) ?_
  refine And.intro (s_istore dX6_yearOf_8) ?_
  refine And.intro (s_mark) ?_
  refine And.intro (s_iload dX6_yearOf_10) ?_
  refine And.intro (s_bipush dX6_yearOf_12 (by decide)) ?_
  refine And.intro (s_icmp_ge dX6_yearOf_14 (by decide)) ?_
  refine And.intro (s_iload dX6_yearOf_17) ?_
  refine And.intro (s_iload_n dX6_yearOf_19 rfl) ?_
  refine And.intro (s_icmp_ge dX6_yearOf_20 (by decide)) ?_
  refine And.intro (s_ldcw zl_1211 dX6_yearOf_23) ?_
  refine And.intro (s_iload dX6_yearOf_26) ?_
  refine And.intro (s_imul dX6_yearOf_28) ?_
  refine And.intro (s_sipush dX6_yearOf_29 (by decide)) ?_
  refine And.intro (s_iadd dX6_yearOf_32) ?_
  refine And.intro (s_goto dX6_yearOf_33 (by decide)) ?_
  refine And.intro (s_iload dX6_yearOf_36) ?_
  refine And.intro (s_istore dX6_yearOf_38) ?_
  refine And.intro (s_aload_n dX6_yearOf_40 rfl) ?_
  refine And.intro (s_getf (C := RX6) (T := TX6) (N := 41) rfl zin_X6 (by decide) zl_809 dX6_yearOf_41) ?_
  refine And.intro (s_iload dX6_yearOf_44) ?_
  refine And.intro (s_iload dX6_yearOf_46) ?_
  refine And.intro (s_iload_n dX6_yearOf_48 rfl) ?_
  refine And.intro (s_icmp_ge dX6_yearOf_49 (by decide)) ?_
  refine And.intro (s_iload dX6_yearOf_52) ?_
  refine And.intro (s_bipush dX6_yearOf_54 (by decide)) ?_
  refine And.intro (s_iushr dX6_yearOf_56) ?_
  refine And.intro (s_bipush dX6_yearOf_57 (by decide)) ?_
  refine And.intro (s_irem dX6_yearOf_59) ?_
  refine And.intro (s_goto dX6_yearOf_60 (by decide)) ?_
  refine And.intro (s_iconst dX6_yearOf_63 (by decide)) ?_
  refine And.intro (s_iastore dX6_yearOf_64) ?_
  refine And.intro (s_iinc dX6_yearOf_65 (by decide)) ?_
  refine And.intro (s_gotob dX6_yearOf_68 (by decide)) ?_
  refine And.intro (s_aload_n dX6_yearOf_71 rfl) ?_
  refine And.intro (s_callV (C := RX6) (T := TX6) (N := 41) rfl zf_X6_runs zg_X6_runs zl_1033 ⟨rfl, rfl⟩ dX6_yearOf_72) ?_
  refine And.intro (s_iload_n dX6_yearOf_75 rfl) ?_
  refine And.intro (s_if_ne dX6_yearOf_76 (by decide)) ?_
  refine And.intro (s_aload_n dX6_yearOf_79 rfl) ?_
  refine And.intro (s_callV (C := RX6) (T := TX6) (N := 41) rfl zf_X6_shortAll zg_X6_shortAll zl_1116 ⟨rfl, rfl⟩ dX6_yearOf_80) ?_
  refine And.intro (s_goto dX6_yearOf_83 (by decide)) ?_
  refine And.intro (s_aload_n dX6_yearOf_86 rfl) ?_
  refine And.intro (s_getf (C := RX6) (T := TX6) (N := 41) rfl zin_X6 (by decide) zl_814 dX6_yearOf_87) ?_
  refine And.intro (s_ireturn rfl (fun _ => rfl) dX6_yearOf_90) ?_
  exact trivial
def zp_X6_digest : List (Bool × Nat × zOp) := [
  (true, 0, o_lc 17),
  (true, 3, o_ls 1),
  (true, 4, o_ic 0),
  (true, 5, o_is 3),
  (false, 6, o_mark 6 [4]),
  (true, 6, o_il 3),
  (true, 7, o_ic 8),
  (true, 9, o_cmp (fun x y => y ≤ x) 31),
  (true, 12, o_lc 31),
  (true, 15, o_ll 1),
  (true, 16, o_jj (fun x y => x * y)),
  (true, 17, o_al 0),
  (true, 18, o_il 3),
  (true, 19, o_cv zi_X6_count 1 6),
  (true, 22, o_i2l),
  (true, 23, o_jj (fun x y => x + y)),
  (true, 24, o_ls 1),
  (true, 25, o_inc 3 1),
  (true, 28, o_gb 6 [4]),
  (true, 31, o_lc 31),
  (true, 34, o_ll 1),
  (true, 35, o_jj (fun x y => x * y)),
  (true, 36, o_al 0),
  (true, 37, o_ic 0),
  (true, 38, o_cv zi_X6_faultOf 1 6),
  (true, 41, o_i2l),
  (true, 42, o_jj (fun x y => x + y)),
  (true, 43, o_ls 1),
  (true, 44, o_lc 31),
  (true, 47, o_ll 1),
  (true, 48, o_jj (fun x y => x * y)),
  (true, 49, o_al 0),
  (true, 50, o_ic 1),
  (true, 51, o_cv zi_X6_faultOf 1 6),
  (true, 54, o_i2l),
  (true, 55, o_jj (fun x y => x + y)),
  (true, 56, o_ls 1),
  (true, 57, o_ic 0),
  (true, 58, o_is 3),
  (false, 59, o_mark 59 [4]),
  (true, 59, o_il 3),
  (true, 60, o_ic 40),
  (true, 62, o_cmp (fun x y => y ≤ x) 114),
  (true, 65, o_lc 31),
  (true, 68, o_ll 1),
  (true, 69, o_jj (fun x y => x * y)),
  (true, 70, o_al 0),
  (true, 71, o_il 3),
  (true, 72, o_cv zi_X6_elbowsOf 1 6),
  (true, 75, o_i2l),
  (true, 76, o_jj (fun x y => x + y)),
  (true, 77, o_ls 1),
  (true, 78, o_ic 0),
  (true, 79, o_is 4),
  (false, 81, o_mark 81 []),
  (true, 81, o_il 4),
  (true, 83, o_ic 4),
  (true, 84, o_cmp (fun x y => y ≤ x) 108),
  (true, 87, o_lc 31),
  (true, 90, o_ll 1),
  (true, 91, o_jj (fun x y => x * y)),
  (true, 92, o_al 0),
  (true, 93, o_il 3),
  (true, 94, o_il 4),
  (true, 96, o_cv zi_X6_bagOf 2 6),
  (true, 99, o_i2l),
  (true, 100, o_jj (fun x y => x + y)),
  (true, 101, o_ls 1),
  (true, 102, o_inc 4 1),
  (true, 105, o_gb 81 []),
  (true, 108, o_inc 3 1),
  (true, 111, o_gb 59 [4]),
  (true, 114, o_ic 0),
  (true, 115, o_is 3),
  (false, 116, o_mark 116 [4]),
  (true, 116, o_il 3),
  (true, 117, o_al 0),
  (true, 118, o_gf 6 2),
  (true, 121, o_cmp (fun x y => y ≤ x) 137),
  (true, 124, o_al 0),
  (true, 125, o_ll 1),
  (true, 126, o_il 3),
  (true, 127, o_cv zi_X6_houseDigest 2 6),
  (true, 130, o_ls 1),
  (true, 131, o_inc 3 1),
  (true, 134, o_gb 116 [4]),
  (true, 137, o_lc 31),
  (true, 140, o_ll 1),
  (true, 141, o_jj (fun x y => x * y)),
  (true, 142, o_al 0),
  (true, 143, o_cv zi_X6_firstOf 0 6),
  (true, 146, o_i2l),
  (true, 147, o_jj (fun x y => x + y)),
  (true, 148, o_ls 1),
  (true, 149, o_lc 31),
  (true, 152, o_ll 1),
  (true, 153, o_jj (fun x y => x * y)),
  (true, 154, o_al 0),
  (true, 155, o_cv zi_X6_quietOf 0 6),
  (true, 158, o_i2l),
  (true, 159, o_jj (fun x y => x + y)),
  (true, 160, o_ls 1),
  (true, 161, o_lc 31),
  (true, 164, o_ll 1),
  (true, 165, o_jj (fun x y => x * y)),
  (true, 166, o_al 0),
  (true, 167, o_cv zi_X6_wellOf 0 6),
  (true, 170, o_i2l),
  (true, 171, o_jj (fun x y => x + y)),
  (true, 172, o_ls 1),
  (true, 173, o_lc 31),
  (true, 176, o_ll 1),
  (true, 177, o_jj (fun x y => x * y)),
  (true, 178, o_al 0),
  (true, 179, o_ic 0),
  (true, 180, o_cv zi_X6_elbowOf 1 6),
  (true, 183, o_i2l),
  (true, 184, o_jj (fun x y => x + y)),
  (true, 185, o_ls 1),
  (true, 186, o_lc 31),
  (true, 189, o_ll 1),
  (true, 190, o_jj (fun x y => x * y)),
  (true, 191, o_al 0),
  (true, 192, o_ic 1),
  (true, 193, o_cv zi_X6_elbowOf 1 6),
  (true, 196, o_i2l),
  (true, 197, o_jj (fun x y => x + y)),
  (true, 198, o_ls 1),
  (true, 199, o_lc 31),
  (true, 202, o_ll 1),
  (true, 203, o_jj (fun x y => x * y)),
  (true, 204, o_al 0),
  (true, 205, o_cv zi_X6_leastNow 0 6),
  (true, 208, o_i2l),
  (true, 209, o_jj (fun x y => x + y)),
  (true, 210, o_ls 1),
  (true, 211, o_lc 31),
  (true, 214, o_ll 1),
  (true, 215, o_jj (fun x y => x * y)),
  (true, 216, o_al 0),
  (true, 217, o_ic 0),
  (true, 218, o_cv zi_X6_patchOf 1 6),
  (true, 221, o_i2l),
  (true, 222, o_jj (fun x y => x + y)),
  (true, 223, o_ls 1),
  (true, 224, o_lc 31),
  (true, 227, o_ll 1),
  (true, 228, o_jj (fun x y => x * y)),
  (true, 229, o_al 0),
  (true, 230, o_ic 1),
  (true, 231, o_cv zi_X6_patchOf 1 6),
  (true, 234, o_i2l),
  (true, 235, o_jj (fun x y => x + y)),
  (true, 236, o_ls 1),
  (true, 237, o_lc 31),
  (true, 240, o_ll 1),
  (true, 241, o_jj (fun x y => x * y)),
  (true, 242, o_al 0),
  (true, 243, o_cv zi_X6_neverNow 0 6),
  (true, 246, o_i2l),
  (true, 247, o_jj (fun x y => x + y)),
  (true, 248, o_ls 1),
  (true, 249, o_ic 0),
  (true, 250, o_is 3),
  (false, 251, o_mark 251 [4]),
  (true, 251, o_il 3),
  (true, 252, o_ic 3),
  (true, 253, o_cmp (fun x y => y ≤ x) 275),
  (true, 256, o_lc 31),
  (true, 259, o_ll 1),
  (true, 260, o_jj (fun x y => x * y)),
  (true, 261, o_al 0),
  (true, 262, o_il 3),
  (true, 263, o_cv zi_X6_startsOf 1 6),
  (true, 266, o_i2l),
  (true, 267, o_jj (fun x y => x + y)),
  (true, 268, o_ls 1),
  (true, 269, o_inc 3 1),
  (true, 272, o_gb 251 [4]),
  (true, 275, o_lc 31),
  (true, 278, o_ll 1),
  (true, 279, o_jj (fun x y => x * y)),
  (true, 280, o_al 0),
  (true, 281, o_ic 7),
  (true, 283, o_ic 25),
  (true, 285, o_ic 0),
  (true, 286, o_cv zi_X6_yearOf 3 6),
  (true, 289, o_i2l),
  (true, 290, o_jj (fun x y => x + y)),
  (true, 291, o_ls 1),
  (true, 292, o_lc 31),
  (true, 295, o_ll 1),
  (true, 296, o_jj (fun x y => x * y)),
  (true, 297, o_al 0),
  (true, 298, o_ic 7),
  (true, 300, o_ic 25),
  (true, 302, o_ic 1),
  (true, 303, o_cv zi_X6_yearOf 3 6),
  (true, 306, o_i2l),
  (true, 307, o_jj (fun x y => x + y)),
  (true, 308, o_lr)]
set_option maxRecDepth 100000 in
set_option maxHeartbeats 4000000 in
theorem zk_X6_digest (kc ks : Nat) : z_OK (zS RX6 cX6_digest 5 "digest" (some .long) 11 252 kc ks) zp_X6_digest := by
  unfold zp_X6_digest
  refine And.intro (s_ldc2 zl_1257 dX6_digest_0) ?_
  refine And.intro (s_lstore_n dX6_digest_3 rfl) ?_
  refine And.intro (s_iconst dX6_digest_4 (by decide)) ?_
  refine And.intro (s_istore_n dX6_digest_5 rfl) ?_
  refine And.intro (s_mark) ?_
  refine And.intro (s_iload_n dX6_digest_6 rfl) ?_
  refine And.intro (s_bipush dX6_digest_7 (by decide)) ?_
  refine And.intro (s_icmp_ge dX6_digest_9 (by decide)) ?_
  refine And.intro (s_ldc2 zl_1258 dX6_digest_12) ?_
  refine And.intro (s_lload_n dX6_digest_15 rfl) ?_
  refine And.intro (s_lmul dX6_digest_16) ?_
  refine And.intro (s_aload_n dX6_digest_17 rfl) ?_
  refine And.intro (s_iload_n dX6_digest_18 rfl) ?_
  refine And.intro (s_callV (C := RX6) (T := TX6) (N := 41) rfl zf_X6_count zg_X6_count zl_1259 ⟨rfl, rfl⟩ dX6_digest_19) ?_
  refine And.intro (s_i2l dX6_digest_22) ?_
  refine And.intro (s_ladd dX6_digest_23) ?_
  refine And.intro (s_lstore_n dX6_digest_24 rfl) ?_
  refine And.intro (s_iinc dX6_digest_25 (by decide)) ?_
  refine And.intro (s_gotob dX6_digest_28 (by decide)) ?_
  refine And.intro (s_ldc2 zl_1258 dX6_digest_31) ?_
  refine And.intro (s_lload_n dX6_digest_34 rfl) ?_
  refine And.intro (s_lmul dX6_digest_35) ?_
  refine And.intro (s_aload_n dX6_digest_36 rfl) ?_
  refine And.intro (s_iconst dX6_digest_37 (by decide)) ?_
  refine And.intro (s_callV (C := RX6) (T := TX6) (N := 41) rfl zf_X6_faultOf zg_X6_faultOf zl_938 ⟨rfl, rfl⟩ dX6_digest_38) ?_
  refine And.intro (s_i2l dX6_digest_41) ?_
  refine And.intro (s_ladd dX6_digest_42) ?_
  refine And.intro (s_lstore_n dX6_digest_43 rfl) ?_
  refine And.intro (s_ldc2 zl_1258 dX6_digest_44) ?_
  refine And.intro (s_lload_n dX6_digest_47 rfl) ?_
  refine And.intro (s_lmul dX6_digest_48) ?_
  refine And.intro (s_aload_n dX6_digest_49 rfl) ?_
  refine And.intro (s_iconst dX6_digest_50 (by decide)) ?_
  refine And.intro (s_callV (C := RX6) (T := TX6) (N := 41) rfl zf_X6_faultOf zg_X6_faultOf zl_938 ⟨rfl, rfl⟩ dX6_digest_51) ?_
  refine And.intro (s_i2l dX6_digest_54) ?_
  refine And.intro (s_ladd dX6_digest_55) ?_
  refine And.intro (s_lstore_n dX6_digest_56 rfl) ?_
  refine And.intro (s_iconst dX6_digest_57 (by decide)) ?_
  refine And.intro (s_istore_n dX6_digest_58 rfl) ?_
  refine And.intro (s_mark) ?_
  refine And.intro (s_iload_n dX6_digest_59 rfl) ?_
  refine And.intro (s_bipush dX6_digest_60 (by decide)) ?_
  refine And.intro (s_icmp_ge dX6_digest_62 (by decide)) ?_
  refine And.intro (s_ldc2 zl_1258 dX6_digest_65) ?_
  refine And.intro (s_lload_n dX6_digest_68 rfl) ?_
  refine And.intro (s_lmul dX6_digest_69) ?_
  refine And.intro (s_aload_n dX6_digest_70 rfl) ?_
  refine And.intro (s_iload_n dX6_digest_71 rfl) ?_
  refine And.intro (s_callV (C := RX6) (T := TX6) (N := 41) rfl zf_X6_elbowsOf zg_X6_elbowsOf zl_985 ⟨rfl, rfl⟩ dX6_digest_72) ?_
  refine And.intro (s_i2l dX6_digest_75) ?_
  refine And.intro (s_ladd dX6_digest_76) ?_
  refine And.intro (s_lstore_n dX6_digest_77 rfl) ?_
  refine And.intro (s_iconst dX6_digest_78 (by decide)) ?_
  refine And.intro (s_istore dX6_digest_79) ?_
  refine And.intro (s_mark) ?_
  refine And.intro (s_iload dX6_digest_81) ?_
  refine And.intro (s_iconst dX6_digest_83 (by decide)) ?_
  refine And.intro (s_icmp_ge dX6_digest_84 (by decide)) ?_
  refine And.intro (s_ldc2 zl_1258 dX6_digest_87) ?_
  refine And.intro (s_lload_n dX6_digest_90 rfl) ?_
  refine And.intro (s_lmul dX6_digest_91) ?_
  refine And.intro (s_aload_n dX6_digest_92 rfl) ?_
  refine And.intro (s_iload_n dX6_digest_93 rfl) ?_
  refine And.intro (s_iload dX6_digest_94) ?_
  refine And.intro (s_callV (C := RX6) (T := TX6) (N := 41) rfl zf_X6_bagOf zg_X6_bagOf zl_1021 ⟨rfl, rfl⟩ dX6_digest_96) ?_
  refine And.intro (s_i2l dX6_digest_99) ?_
  refine And.intro (s_ladd dX6_digest_100) ?_
  refine And.intro (s_lstore_n dX6_digest_101 rfl) ?_
  refine And.intro (s_iinc dX6_digest_102 (by decide)) ?_
  refine And.intro (s_gotob dX6_digest_105 (by decide)) ?_
  refine And.intro (s_iinc dX6_digest_108 (by decide)) ?_
  refine And.intro (s_gotob dX6_digest_111 (by decide)) ?_
  refine And.intro (s_iconst dX6_digest_114 (by decide)) ?_
  refine And.intro (s_istore_n dX6_digest_115 rfl) ?_
  refine And.intro (s_mark) ?_
  refine And.intro (s_iload_n dX6_digest_116 rfl) ?_
  refine And.intro (s_aload_n dX6_digest_117 rfl) ?_
  refine And.intro (s_getf (C := RX6) (T := TX6) (N := 41) rfl zin_X6 (by decide) zl_793 dX6_digest_118) ?_
  refine And.intro (s_icmp_ge dX6_digest_121 (by decide)) ?_
  refine And.intro (s_aload_n dX6_digest_124 rfl) ?_
  refine And.intro (s_lload_n dX6_digest_125 rfl) ?_
  refine And.intro (s_iload_n dX6_digest_126 rfl) ?_
  refine And.intro (s_callV (C := RX6) (T := TX6) (N := 41) rfl zf_X6_houseDigest zg_X6_houseDigest zl_1260 ⟨rfl, rfl⟩ dX6_digest_127) ?_
  refine And.intro (s_lstore_n dX6_digest_130 rfl) ?_
  refine And.intro (s_iinc dX6_digest_131 (by decide)) ?_
  refine And.intro (s_gotob dX6_digest_134 (by decide)) ?_
  refine And.intro (s_ldc2 zl_1258 dX6_digest_137) ?_
  refine And.intro (s_lload_n dX6_digest_140 rfl) ?_
  refine And.intro (s_lmul dX6_digest_141) ?_
  refine And.intro (s_aload_n dX6_digest_142 rfl) ?_
  refine And.intro (s_callV (C := RX6) (T := TX6) (N := 41) rfl zf_X6_firstOf zg_X6_firstOf zl_1088 ⟨rfl, rfl⟩ dX6_digest_143) ?_
  refine And.intro (s_i2l dX6_digest_146) ?_
  refine And.intro (s_ladd dX6_digest_147) ?_
  refine And.intro (s_lstore_n dX6_digest_148 rfl) ?_
  refine And.intro (s_ldc2 zl_1258 dX6_digest_149) ?_
  refine And.intro (s_lload_n dX6_digest_152 rfl) ?_
  refine And.intro (s_lmul dX6_digest_153) ?_
  refine And.intro (s_aload_n dX6_digest_154 rfl) ?_
  refine And.intro (s_callV (C := RX6) (T := TX6) (N := 41) rfl zf_X6_quietOf zg_X6_quietOf zl_1096 ⟨rfl, rfl⟩ dX6_digest_155) ?_
  refine And.intro (s_i2l dX6_digest_158) ?_
  refine And.intro (s_ladd dX6_digest_159) ?_
  refine And.intro (s_lstore_n dX6_digest_160 rfl) ?_
  refine And.intro (s_ldc2 zl_1258 dX6_digest_161) ?_
  refine And.intro (s_lload_n dX6_digest_164 rfl) ?_
  refine And.intro (s_lmul dX6_digest_165) ?_
  refine And.intro (s_aload_n dX6_digest_166 rfl) ?_
  refine And.intro (s_callV (C := RX6) (T := TX6) (N := 41) rfl zf_X6_wellOf zg_X6_wellOf zl_1104 ⟨rfl, rfl⟩ dX6_digest_167) ?_
  refine And.intro (s_i2l dX6_digest_170) ?_
  refine And.intro (s_ladd dX6_digest_171) ?_
  refine And.intro (s_lstore_n dX6_digest_172 rfl) ?_
  refine And.intro (s_ldc2 zl_1258 dX6_digest_173) ?_
  refine And.intro (s_lload_n dX6_digest_176 rfl) ?_
  refine And.intro (s_lmul dX6_digest_177) ?_
  refine And.intro (s_aload_n dX6_digest_178 rfl) ?_
  refine And.intro (s_iconst dX6_digest_179 (by decide)) ?_
  refine And.intro (s_callV (C := RX6) (T := TX6) (N := 41) rfl zf_X6_elbowOf zg_X6_elbowOf zl_1112 ⟨rfl, rfl⟩ dX6_digest_180) ?_
  refine And.intro (s_i2l dX6_digest_183) ?_
  refine And.intro (s_ladd dX6_digest_184) ?_
  refine And.intro (s_lstore_n dX6_digest_185 rfl) ?_
  refine And.intro (s_ldc2 zl_1258 dX6_digest_186) ?_
  refine And.intro (s_lload_n dX6_digest_189 rfl) ?_
  refine And.intro (s_lmul dX6_digest_190) ?_
  refine And.intro (s_aload_n dX6_digest_191 rfl) ?_
  refine And.intro (s_iconst dX6_digest_192 (by decide)) ?_
  refine And.intro (s_callV (C := RX6) (T := TX6) (N := 41) rfl zf_X6_elbowOf zg_X6_elbowOf zl_1112 ⟨rfl, rfl⟩ dX6_digest_193) ?_
  refine And.intro (s_i2l dX6_digest_196) ?_
  refine And.intro (s_ladd dX6_digest_197) ?_
  refine And.intro (s_lstore_n dX6_digest_198 rfl) ?_
  refine And.intro (s_ldc2 zl_1258 dX6_digest_199) ?_
  refine And.intro (s_lload_n dX6_digest_202 rfl) ?_
  refine And.intro (s_lmul dX6_digest_203) ?_
  refine And.intro (s_aload_n dX6_digest_204 rfl) ?_
  refine And.intro (s_callV (C := RX6) (T := TX6) (N := 41) rfl zf_X6_leastNow zg_X6_leastNow zl_1132 ⟨rfl, rfl⟩ dX6_digest_205) ?_
  refine And.intro (s_i2l dX6_digest_208) ?_
  refine And.intro (s_ladd dX6_digest_209) ?_
  refine And.intro (s_lstore_n dX6_digest_210 rfl) ?_
  refine And.intro (s_ldc2 zl_1258 dX6_digest_211) ?_
  refine And.intro (s_lload_n dX6_digest_214 rfl) ?_
  refine And.intro (s_lmul dX6_digest_215) ?_
  refine And.intro (s_aload_n dX6_digest_216 rfl) ?_
  refine And.intro (s_iconst dX6_digest_217 (by decide)) ?_
  refine And.intro (s_callV (C := RX6) (T := TX6) (N := 41) rfl zf_X6_patchOf zg_X6_patchOf zl_1140 ⟨rfl, rfl⟩ dX6_digest_218) ?_
  refine And.intro (s_i2l dX6_digest_221) ?_
  refine And.intro (s_ladd dX6_digest_222) ?_
  refine And.intro (s_lstore_n dX6_digest_223 rfl) ?_
  refine And.intro (s_ldc2 zl_1258 dX6_digest_224) ?_
  refine And.intro (s_lload_n dX6_digest_227 rfl) ?_
  refine And.intro (s_lmul dX6_digest_228) ?_
  refine And.intro (s_aload_n dX6_digest_229 rfl) ?_
  refine And.intro (s_iconst dX6_digest_230 (by decide)) ?_
  refine And.intro (s_callV (C := RX6) (T := TX6) (N := 41) rfl zf_X6_patchOf zg_X6_patchOf zl_1140 ⟨rfl, rfl⟩ dX6_digest_231) ?_
  refine And.intro (s_i2l dX6_digest_234) ?_
  refine And.intro (s_ladd dX6_digest_235) ?_
  refine And.intro (s_lstore_n dX6_digest_236 rfl) ?_
  refine And.intro (s_ldc2 zl_1258 dX6_digest_237) ?_
  refine And.intro (s_lload_n dX6_digest_240 rfl) ?_
  refine And.intro (s_lmul dX6_digest_241) ?_
  refine And.intro (s_aload_n dX6_digest_242 rfl) ?_
  refine And.intro (s_callV (C := RX6) (T := TX6) (N := 41) rfl zf_X6_neverNow zg_X6_neverNow zl_1156 ⟨rfl, rfl⟩ dX6_digest_243) ?_
  refine And.intro (s_i2l dX6_digest_246) ?_
  refine And.intro (s_ladd dX6_digest_247) ?_
  refine And.intro (s_lstore_n dX6_digest_248 rfl) ?_
  refine And.intro (s_iconst dX6_digest_249 (by decide)) ?_
  refine And.intro (s_istore_n dX6_digest_250 rfl) ?_
  refine And.intro (s_mark) ?_
  refine And.intro (s_iload_n dX6_digest_251 rfl) ?_
  refine And.intro (s_iconst dX6_digest_252 (by decide)) ?_
  refine And.intro (s_icmp_ge dX6_digest_253 (by decide)) ?_
  refine And.intro (s_ldc2 zl_1258 dX6_digest_256) ?_
  refine And.intro (s_lload_n dX6_digest_259 rfl) ?_
  refine And.intro (s_lmul dX6_digest_260) ?_
  refine And.intro (s_aload_n dX6_digest_261 rfl) ?_
  refine And.intro (s_iload_n dX6_digest_262 rfl) ?_
  refine And.intro (s_callV (C := RX6) (T := TX6) (N := 41) rfl zf_X6_startsOf zg_X6_startsOf zl_1176 ⟨rfl, rfl⟩ dX6_digest_263) ?_
  refine And.intro (s_i2l dX6_digest_266) ?_
  refine And.intro (s_ladd dX6_digest_267) ?_
  refine And.intro (s_lstore_n dX6_digest_268 rfl) ?_
  refine And.intro (s_iinc dX6_digest_269 (by decide)) ?_
  refine And.intro (s_gotob dX6_digest_272 (by decide)) ?_
  refine And.intro (s_ldc2 zl_1258 dX6_digest_275) ?_
  refine And.intro (s_lload_n dX6_digest_278 rfl) ?_
  refine And.intro (s_lmul dX6_digest_279) ?_
  refine And.intro (s_aload_n dX6_digest_280 rfl) ?_
  refine And.intro (s_bipush dX6_digest_281 (by decide)) ?_
  refine And.intro (s_bipush dX6_digest_283 (by decide)) ?_
  refine And.intro (s_iconst dX6_digest_285 (by decide)) ?_
  refine And.intro (s_callV (C := RX6) (T := TX6) (N := 41) rfl zf_X6_yearOf zg_X6_yearOf zl_1207 ⟨rfl, rfl⟩ dX6_digest_286) ?_
  refine And.intro (s_i2l dX6_digest_289) ?_
  refine And.intro (s_ladd dX6_digest_290) ?_
  refine And.intro (s_lstore_n dX6_digest_291 rfl) ?_
  refine And.intro (s_ldc2 zl_1258 dX6_digest_292) ?_
  refine And.intro (s_lload_n dX6_digest_295 rfl) ?_
  refine And.intro (s_lmul dX6_digest_296) ?_
  refine And.intro (s_aload_n dX6_digest_297 rfl) ?_
  refine And.intro (s_bipush dX6_digest_298 (by decide)) ?_
  refine And.intro (s_bipush dX6_digest_300 (by decide)) ?_
  refine And.intro (s_iconst dX6_digest_302 (by decide)) ?_
  refine And.intro (s_callV (C := RX6) (T := TX6) (N := 41) rfl zf_X6_yearOf zg_X6_yearOf zl_1207 ⟨rfl, rfl⟩ dX6_digest_303) ?_
  refine And.intro (s_i2l dX6_digest_306) ?_
  refine And.intro (s_ladd dX6_digest_307) ?_
  refine And.intro (s_lreturn rfl dX6_digest_308) ?_
  exact trivial
def zp_X6_elbow : List (Bool × Nat × zOp) := [
  (true, 0, o_il 1),
  (true, 1, o_ic 0),
  (true, 2, o_ic 1),
  (true, 3, o_cs zi_X6_in 3),
  (true, 6, o_if (fun x => x = 0) 17),
  (true, 9, o_al 0),
  (true, 10, o_il 1),
  (true, 11, o_cv zi_X6_elbowOf 1 6),
  (true, 14, o_go 19),
  (true, 17, o_ic (-2)),
  (true, 19, o_ir)]
set_option maxRecDepth 100000 in
set_option maxHeartbeats 4000000 in
theorem zk_X6_elbow (kc ks : Nat) : z_OK (zS RX6 cX6_elbow 2 "elbow" (some .int) 8 181 kc ks) zp_X6_elbow := by
  unfold zp_X6_elbow
  refine And.intro (s_iload_n dX6_elbow_0 rfl) ?_
  refine And.intro (s_iconst dX6_elbow_1 (by decide)) ?_
  refine And.intro (s_iconst dX6_elbow_2 (by decide)) ?_
  refine And.intro (s_callS zf_X6_in zl_924 zl_923 ⟨rfl, rfl⟩ dX6_elbow_3) ?_
  refine And.intro (s_if_eq dX6_elbow_6 (by decide)) ?_
  refine And.intro (s_aload_n dX6_elbow_9 rfl) ?_
  refine And.intro (s_iload_n dX6_elbow_10 rfl) ?_
  refine And.intro (s_callV (C := RX6) (T := TX6) (N := 41) rfl zf_X6_elbowOf zg_X6_elbowOf zl_1112 ⟨rfl, rfl⟩ dX6_elbow_11) ?_
  refine And.intro (s_goto dX6_elbow_14 (by decide)) ?_
  refine And.intro (s_bipush dX6_elbow_17 (by decide)) ?_
  refine And.intro (s_ireturn rfl (fun _ => rfl) dX6_elbow_19) ?_
  exact trivial
def zp_X6_elbows : List (Bool × Nat × zOp) := [
  (true, 0, o_il 1),
  (true, 1, o_cs zi_X6_isHour 1),
  (true, 4, o_if (fun x => x = 0) 15),
  (true, 7, o_al 0),
  (true, 8, o_il 1),
  (true, 9, o_cv zi_X6_elbowsOf 1 6),
  (true, 12, o_go 17),
  (true, 15, o_ic (-2)),
  (true, 17, o_ir)]
set_option maxRecDepth 100000 in
set_option maxHeartbeats 4000000 in
theorem zk_X6_elbows (kc ks : Nat) : z_OK (zS RX6 cX6_elbows 2 "elbows" (some .int) 7 156 kc ks) zp_X6_elbows := by
  unfold zp_X6_elbows
  refine And.intro (s_iload_n dX6_elbows_0 rfl) ?_
  refine And.intro (s_callS zf_X6_isHour zl_983 zl_982 ⟨rfl, rfl⟩ dX6_elbows_1) ?_
  refine And.intro (s_if_eq dX6_elbows_4 (by decide)) ?_
  refine And.intro (s_aload_n dX6_elbows_7 rfl) ?_
  refine And.intro (s_iload_n dX6_elbows_8 rfl) ?_
  refine And.intro (s_callV (C := RX6) (T := TX6) (N := 41) rfl zf_X6_elbowsOf zg_X6_elbowsOf zl_985 ⟨rfl, rfl⟩ dX6_elbows_9) ?_
  refine And.intro (s_goto dX6_elbows_12 (by decide)) ?_
  refine And.intro (s_bipush dX6_elbows_15 (by decide)) ?_
  refine And.intro (s_ireturn rfl (fun _ => rfl) dX6_elbows_17) ?_
  exact trivial
def zp_X6_isText : List (Bool × Nat × zOp) := [
  (true, 0, o_il 0),
  (true, 1, o_ic 0),
  (true, 2, o_ic 1),
  (true, 3, o_cs zi_X6_in 3),
  (true, 6, o_zr)]
set_option maxRecDepth 100000 in
set_option maxHeartbeats 4000000 in
theorem zk_X6_isText (kc ks : Nat) : z_OK (zS RX6 cX6_isText 1 "isText" (some .boolean) 1 22 kc ks) zp_X6_isText := by
  unfold zp_X6_isText
  refine And.intro (s_iload_n dX6_isText_0 rfl) ?_
  refine And.intro (s_iconst dX6_isText_1 (by decide)) ?_
  refine And.intro (s_iconst dX6_isText_2 (by decide)) ?_
  refine And.intro (s_callS zf_X6_in zl_924 zl_923 ⟨rfl, rfl⟩ dX6_isText_3) ?_
  refine And.intro (s_zreturn rfl dX6_isText_6) ?_
  exact trivial
def zp_X6_fault : List (Bool × Nat × zOp) := [
  (true, 0, o_il 1),
  (true, 1, o_cs zi_X6_isText 1),
  (true, 4, o_if (fun x => x = 0) 15),
  (true, 7, o_al 0),
  (true, 8, o_il 1),
  (true, 9, o_cv zi_X6_faultOf 1 6),
  (true, 12, o_go 17),
  (true, 15, o_ic (-2)),
  (true, 17, o_ir)]
set_option maxRecDepth 100000 in
set_option maxHeartbeats 4000000 in
theorem zk_X6_fault (kc ks : Nat) : z_OK (zS RX6 cX6_fault 2 "fault" (some .int) 5 114 kc ks) zp_X6_fault := by
  unfold zp_X6_fault
  refine And.intro (s_iload_n dX6_fault_0 rfl) ?_
  refine And.intro (s_callS zf_X6_isText zl_921 zl_920 ⟨rfl, rfl⟩ dX6_fault_1) ?_
  refine And.intro (s_if_eq dX6_fault_4 (by decide)) ?_
  refine And.intro (s_aload_n dX6_fault_7 rfl) ?_
  refine And.intro (s_iload_n dX6_fault_8 rfl) ?_
  refine And.intro (s_callV (C := RX6) (T := TX6) (N := 41) rfl zf_X6_faultOf zg_X6_faultOf zl_938 ⟨rfl, rfl⟩ dX6_fault_9) ?_
  refine And.intro (s_goto dX6_fault_12 (by decide)) ?_
  refine And.intro (s_bipush dX6_fault_15 (by decide)) ?_
  refine And.intro (s_ireturn rfl (fun _ => rfl) dX6_fault_17) ?_
  exact trivial
def zp_X6_first : List (Bool × Nat × zOp) := [
  (true, 0, o_al 0),
  (true, 1, o_cv zi_X6_firstOf 0 6),
  (true, 4, o_ir)]
set_option maxRecDepth 100000 in
set_option maxHeartbeats 4000000 in
theorem zk_X6_first (kc ks : Nat) : z_OK (zS RX6 cX6_first 1 "first" (some .int) 9 198 kc ks) zp_X6_first := by
  unfold zp_X6_first
  refine And.intro (s_aload_n dX6_first_0 rfl) ?_
  refine And.intro (s_callV (C := RX6) (T := TX6) (N := 41) rfl zf_X6_firstOf zg_X6_firstOf zl_1088 ⟨rfl, rfl⟩ dX6_first_1) ?_
  refine And.intro (s_ireturn rfl (fun _ => rfl) dX6_first_4) ?_
  exact trivial
def zp_X6_forget : List (Bool × Nat × zOp) := [
  (true, 0, o_al 0),
  (true, 1, o_gf 6 30),
  (true, 4, o_is 1),
  (true, 5, o_al 0),
  (true, 6, o_ic 0),
  (true, 7, o_pi 6 30),
  (true, 10, o_il 1),
  (true, 11, o_ir)]
set_option maxRecDepth 100000 in
set_option maxHeartbeats 4000000 in
theorem zk_X6_forget (kc ks : Nat) : z_OK (zS RX6 cX6_forget 2 "forget" (some .int) 0 0 kc ks) zp_X6_forget := by
  unfold zp_X6_forget
  refine And.intro (s_aload_n dX6_forget_0 rfl) ?_
  refine And.intro (s_getf (C := RX6) (T := TX6) (N := 41) rfl zin_X6 (by decide) zl_821 dX6_forget_1) ?_
  refine And.intro (s_istore_n dX6_forget_4 rfl) ?_
  refine And.intro (s_aload_n dX6_forget_5 rfl) ?_
  refine And.intro (s_iconst dX6_forget_6 (by decide)) ?_
  refine And.intro (s_putI (C := RX6) (T := TX6) (N := 41) rfl zin_X6 (by decide) tyX6 tyX6_ok nmX6 zl_821 rfl (by decide +kernel) dX6_forget_7) ?_
  refine And.intro (s_iload_n dX6_forget_10 rfl) ?_
  refine And.intro (s_ireturn rfl (fun _ => rfl) dX6_forget_11) ?_
  exact trivial
def zp_X6_lacks : List (Bool × Nat × zOp) := [
  (true, 0, o_al 0),
  (true, 1, o_gf 6 35),
  (true, 4, o_il 1),
  (true, 5, o_ba),
  (true, 6, o_in (fun x => x = 0) 13),
  (true, 9, o_ic 1),
  (true, 10, o_go 48),
  (true, 13, o_al 0),
  (true, 14, o_gf 6 36),
  (true, 17, o_il 1),
  (true, 18, o_ia),
  (true, 19, o_il 2),
  (true, 20, o_cmp (fun x y => x = y) 27),
  (true, 23, o_ic 3),
  (true, 24, o_go 48),
  (true, 27, o_il 3),
  (true, 28, o_ic 0),
  (true, 29, o_al 0),
  (true, 30, o_gf 6 37),
  (true, 33, o_il 1),
  (true, 34, o_ia),
  (true, 35, o_ic 1),
  (true, 36, o_ii (fun x y => x - y)),
  (true, 37, o_cs zi_X6_in 3),
  (true, 40, o_if (fun x => x = 0) 47),
  (true, 43, o_ic 0),
  (true, 44, o_go 48),
  (true, 47, o_ic 2),
  (true, 48, o_ir)]
set_option maxRecDepth 100000 in
set_option maxHeartbeats 4000000 in
theorem zk_X6_lacks (kc ks : Nat) : z_OK (zS RX6 cX6_lacks 4 "lacks" (some .int) 1 22 kc ks) zp_X6_lacks := by
  unfold zp_X6_lacks
  refine And.intro (s_aload_n dX6_lacks_0 rfl) ?_
  refine And.intro (s_getf (C := RX6) (T := TX6) (N := 41) rfl zin_X6 (by decide) zl_826 dX6_lacks_1) ?_
  refine And.intro (s_iload_n dX6_lacks_4 rfl) ?_
  refine And.intro (s_baload dX6_lacks_5) ?_
  refine And.intro (s_if_ne dX6_lacks_6 (by decide)) ?_
  refine And.intro (s_iconst dX6_lacks_9 (by decide)) ?_
  refine And.intro (s_goto dX6_lacks_10 (by decide)) ?_
  refine And.intro (s_aload_n dX6_lacks_13 rfl) ?_
  refine And.intro (s_getf (C := RX6) (T := TX6) (N := 41) rfl zin_X6 (by decide) zl_827 dX6_lacks_14) ?_
  refine And.intro (s_iload_n dX6_lacks_17 rfl) ?_
  refine And.intro (s_iaload dX6_lacks_18) ?_
  refine And.intro (s_iload_n dX6_lacks_19 rfl) ?_
  refine And.intro (s_icmp_eq dX6_lacks_20 (by decide)) ?_
  refine And.intro (s_iconst dX6_lacks_23 (by decide)) ?_
  refine And.intro (s_goto dX6_lacks_24 (by decide)) ?_
  refine And.intro (s_iload_n dX6_lacks_27 rfl) ?_
  refine And.intro (s_iconst dX6_lacks_28 (by decide)) ?_
  refine And.intro (s_aload_n dX6_lacks_29 rfl) ?_
  refine And.intro (s_getf (C := RX6) (T := TX6) (N := 41) rfl zin_X6 (by decide) zl_828 dX6_lacks_30) ?_
  refine And.intro (s_iload_n dX6_lacks_33 rfl) ?_
  refine And.intro (s_iaload dX6_lacks_34) ?_
  refine And.intro (s_iconst dX6_lacks_35 (by decide)) ?_
  refine And.intro (s_isub dX6_lacks_36) ?_
  refine And.intro (s_callS zf_X6_in zl_924 zl_923 ⟨rfl, rfl⟩ dX6_lacks_37) ?_
  refine And.intro (s_if_eq dX6_lacks_40 (by decide)) ?_
  refine And.intro (s_iconst dX6_lacks_43 (by decide)) ?_
  refine And.intro (s_goto dX6_lacks_44 (by decide)) ?_
  refine And.intro (s_iconst dX6_lacks_47 (by decide)) ?_
  refine And.intro (s_ireturn rfl (fun _ => rfl) dX6_lacks_48) ?_
  exact trivial
def zp_X6_get : List (Bool × Nat × zOp) := [
  (true, 0, o_il 1),
  (true, 1, o_cs zi_X6_isSheet 1),
  (true, 4, o_if (fun x => x = 0) 16),
  (true, 7, o_il 2),
  (true, 8, o_ic 0),
  (true, 9, o_ic 2),
  (true, 10, o_cs zi_X6_in 3),
  (true, 13, o_in (fun x => x = 0) 20),
  (true, 16, o_ic (-2147483648)),
  (true, 19, o_ir),
  (true, 20, o_al 0),
  (true, 21, o_il 1),
  (true, 22, o_il 2),
  (true, 23, o_il 3),
  (true, 24, o_cv zi_X6_lacks 3 6),
  (true, 27, o_is 4),
  (true, 29, o_il 4),
  (true, 31, o_if (fun x => x ≤ 0) 44),
  (true, 34, o_al 0),
  (true, 35, o_il 4),
  (true, 37, o_pi 6 40),
  (true, 40, o_ic (-2147483648)),
  (true, 43, o_ir),
  (true, 44, o_al 0),
  (true, 45, o_gf 6 38),
  (true, 48, o_ic 60),
  (true, 50, o_il 1),
  (true, 51, o_ii (fun x y => x * y)),
  (true, 52, o_il 3),
  (true, 53, o_ii (fun x y => x + y)),
  (true, 54, o_ia),
  (true, 55, o_ir)]
set_option maxRecDepth 100000 in
set_option maxHeartbeats 4000000 in
theorem zk_X6_get (kc ks : Nat) : z_OK (zS RX6 cX6_get 5 "get" (some .int) 2 45 kc ks) zp_X6_get := by
  unfold zp_X6_get
  refine And.intro (s_iload_n dX6_get_0 rfl) ?_
  refine And.intro (s_callS zf_X6_isSheet zl_1010 zl_1009 ⟨rfl, rfl⟩ dX6_get_1) ?_
  refine And.intro (s_if_eq dX6_get_4 (by decide)) ?_
  refine And.intro (s_iload_n dX6_get_7 rfl) ?_
  refine And.intro (s_iconst dX6_get_8 (by decide)) ?_
  refine And.intro (s_iconst dX6_get_9 (by decide)) ?_
  refine And.intro (s_callS zf_X6_in zl_924 zl_923 ⟨rfl, rfl⟩ dX6_get_10) ?_
  refine And.intro (s_if_ne dX6_get_13 (by decide)) ?_
  refine And.intro (s_ldcw zl_1236 dX6_get_16) ?_
  refine And.intro (s_ireturn rfl (fun _ => rfl) dX6_get_19) ?_
  refine And.intro (s_aload_n dX6_get_20 rfl) ?_
  refine And.intro (s_iload_n dX6_get_21 rfl) ?_
  refine And.intro (s_iload_n dX6_get_22 rfl) ?_
  refine And.intro (s_iload_n dX6_get_23 rfl) ?_
  refine And.intro (s_callV (C := RX6) (T := TX6) (N := 41) rfl zf_X6_lacks zg_X6_lacks zl_1224 ⟨rfl, rfl⟩ dX6_get_24) ?_
  refine And.intro (s_istore dX6_get_27) ?_
  refine And.intro (s_iload dX6_get_29) ?_
  refine And.intro (s_if_le dX6_get_31 (by decide)) ?_
  refine And.intro (s_aload_n dX6_get_34 rfl) ?_
  refine And.intro (s_iload dX6_get_35) ?_
  refine And.intro (s_putI (C := RX6) (T := TX6) (N := 41) rfl zin_X6 (by decide) tyX6 tyX6_ok nmX6 zl_831 rfl (by decide +kernel) dX6_get_37) ?_
  refine And.intro (s_ldcw zl_1236 dX6_get_40) ?_
  refine And.intro (s_ireturn rfl (fun _ => rfl) dX6_get_43) ?_
  refine And.intro (s_aload_n dX6_get_44 rfl) ?_
  refine And.intro (s_getf (C := RX6) (T := TX6) (N := 41) rfl zin_X6 (by decide) zl_829 dX6_get_45) ?_
  refine And.intro (s_bipush dX6_get_48 (by decide)) ?_
  refine And.intro (s_iload_n dX6_get_50 rfl) ?_
  refine And.intro (s_imul dX6_get_51) ?_
  refine And.intro (s_iload_n dX6_get_52 rfl) ?_
  refine And.intro (s_iadd dX6_get_53) ?_
  refine And.intro (s_iaload dX6_get_54) ?_
  refine And.intro (s_ireturn rfl (fun _ => rfl) dX6_get_55) ?_
  exact trivial
def zp_X6_got : List (Bool × Nat × zOp) := [
  (true, 0, o_il 1),
  (true, 1, o_cs zi_X6_isHour 1),
  (true, 4, o_if (fun x => x = 0) 34),
  (true, 7, o_al 0),
  (true, 8, o_il 2),
  (true, 9, o_cv zi_X6_isHouse 1 6),
  (true, 12, o_if (fun x => x = 0) 34),
  (true, 15, o_il 3),
  (true, 16, o_ic 0),
  (true, 17, o_ic 2),
  (true, 18, o_cs zi_X6_in 3),
  (true, 21, o_if (fun x => x = 0) 34),
  (true, 24, o_al 0),
  (true, 25, o_il 1),
  (true, 26, o_il 2),
  (true, 27, o_il 3),
  (true, 28, o_cv zi_X6_gotOf 3 6),
  (true, 31, o_go 36),
  (true, 34, o_ic (-2)),
  (true, 36, o_ir)]
set_option maxRecDepth 100000 in
set_option maxHeartbeats 4000000 in
theorem zk_X6_got (kc ks : Nat) : z_OK (zS RX6 cX6_got 4 "got" (some .int) 9 199 kc ks) zp_X6_got := by
  unfold zp_X6_got
  refine And.intro (s_iload_n dX6_got_0 rfl) ?_
  refine And.intro (s_callS zf_X6_isHour zl_983 zl_982 ⟨rfl, rfl⟩ dX6_got_1) ?_
  refine And.intro (s_if_eq dX6_got_4 (by decide)) ?_
  refine And.intro (s_aload_n dX6_got_7 rfl) ?_
  refine And.intro (s_iload_n dX6_got_8 rfl) ?_
  refine And.intro (s_callV (C := RX6) (T := TX6) (N := 41) rfl zf_X6_isHouse zg_X6_isHouse zl_966 ⟨rfl, rfl⟩ dX6_got_9) ?_
  refine And.intro (s_if_eq dX6_got_12 (by decide)) ?_
  refine And.intro (s_iload_n dX6_got_15 rfl) ?_
  refine And.intro (s_iconst dX6_got_16 (by decide)) ?_
  refine And.intro (s_iconst dX6_got_17 (by decide)) ?_
  refine And.intro (s_callS zf_X6_in zl_924 zl_923 ⟨rfl, rfl⟩ dX6_got_18) ?_
  refine And.intro (s_if_eq dX6_got_21 (by decide)) ?_
  refine And.intro (s_aload_n dX6_got_24 rfl) ?_
  refine And.intro (s_iload_n dX6_got_25 rfl) ?_
  refine And.intro (s_iload_n dX6_got_26 rfl) ?_
  refine And.intro (s_iload_n dX6_got_27 rfl) ?_
  refine And.intro (s_callV (C := RX6) (T := TX6) (N := 41) rfl zf_X6_gotOf zg_X6_gotOf zl_1068 ⟨rfl, rfl⟩ dX6_got_28) ?_
  refine And.intro (s_goto dX6_got_31 (by decide)) ?_
  refine And.intro (s_bipush dX6_got_34 (by decide)) ?_
  refine And.intro (s_ireturn rfl (fun _ => rfl) dX6_got_36) ?_
  exact trivial
def zp_X6_held : List (Bool × Nat × zOp) := [
  (true, 0, o_al 0),
  (true, 1, o_il 1),
  (true, 2, o_cv zi_X6_isHouse 1 6),
  (true, 5, o_if (fun x => x = 0) 26),
  (true, 8, o_il 2),
  (true, 9, o_ic 0),
  (true, 10, o_ic 1),
  (true, 11, o_cs zi_X6_in 3),
  (true, 14, o_if (fun x => x = 0) 26),
  (true, 17, o_al 0),
  (true, 18, o_il 1),
  (true, 19, o_il 2),
  (true, 20, o_cv zi_X6_heldOf 2 6),
  (true, 23, o_go 28),
  (true, 26, o_ic (-2)),
  (true, 28, o_ir)]
set_option maxRecDepth 100000 in
set_option maxHeartbeats 4000000 in
theorem zk_X6_held (kc ks : Nat) : z_OK (zS RX6 cX6_held 3 "held" (some .int) 9 200 kc ks) zp_X6_held := by
  unfold zp_X6_held
  refine And.intro (s_aload_n dX6_held_0 rfl) ?_
  refine And.intro (s_iload_n dX6_held_1 rfl) ?_
  refine And.intro (s_callV (C := RX6) (T := TX6) (N := 41) rfl zf_X6_isHouse zg_X6_isHouse zl_966 ⟨rfl, rfl⟩ dX6_held_2) ?_
  refine And.intro (s_if_eq dX6_held_5 (by decide)) ?_
  refine And.intro (s_iload_n dX6_held_8 rfl) ?_
  refine And.intro (s_iconst dX6_held_9 (by decide)) ?_
  refine And.intro (s_iconst dX6_held_10 (by decide)) ?_
  refine And.intro (s_callS zf_X6_in zl_924 zl_923 ⟨rfl, rfl⟩ dX6_held_11) ?_
  refine And.intro (s_if_eq dX6_held_14 (by decide)) ?_
  refine And.intro (s_aload_n dX6_held_17 rfl) ?_
  refine And.intro (s_iload_n dX6_held_18 rfl) ?_
  refine And.intro (s_iload_n dX6_held_19 rfl) ?_
  refine And.intro (s_callV (C := RX6) (T := TX6) (N := 41) rfl zf_X6_heldOf zg_X6_heldOf zl_1076 ⟨rfl, rfl⟩ dX6_held_20) ?_
  refine And.intro (s_goto dX6_held_23 (by decide)) ?_
  refine And.intro (s_bipush dX6_held_26 (by decide)) ?_
  refine And.intro (s_ireturn rfl (fun _ => rfl) dX6_held_28) ?_
  exact trivial
def zp_X6_house : List (Bool × Nat × zOp) := [
  (true, 0, o_al 0),
  (true, 1, o_il 1),
  (true, 2, o_cv zi_X6_isHouse 1 6),
  (true, 5, o_if (fun x => x = 0) 27),
  (true, 8, o_il 2),
  (true, 9, o_ic 0),
  (true, 10, o_ic 6),
  (true, 12, o_cs zi_X6_in 3),
  (true, 15, o_if (fun x => x = 0) 27),
  (true, 18, o_al 0),
  (true, 19, o_il 1),
  (true, 20, o_il 2),
  (true, 21, o_cv zi_X6_houseOf 2 6),
  (true, 24, o_go 29),
  (true, 27, o_ic (-2)),
  (true, 29, o_ir)]
set_option maxRecDepth 100000 in
set_option maxHeartbeats 4000000 in
theorem zk_X6_house (kc ks : Nat) : z_OK (zS RX6 cX6_house 3 "house" (some .int) 7 156 kc ks) zp_X6_house := by
  unfold zp_X6_house
  refine And.intro (s_aload_n dX6_house_0 rfl) ?_
  refine And.intro (s_iload_n dX6_house_1 rfl) ?_
  refine And.intro (s_callV (C := RX6) (T := TX6) (N := 41) rfl zf_X6_isHouse zg_X6_isHouse zl_966 ⟨rfl, rfl⟩ dX6_house_2) ?_
  refine And.intro (s_if_eq dX6_house_5 (by decide)) ?_
  refine And.intro (s_iload_n dX6_house_8 rfl) ?_
  refine And.intro (s_iconst dX6_house_9 (by decide)) ?_
  refine And.intro (s_bipush dX6_house_10 (by decide)) ?_
  refine And.intro (s_callS zf_X6_in zl_924 zl_923 ⟨rfl, rfl⟩ dX6_house_12) ?_
  refine And.intro (s_if_eq dX6_house_15 (by decide)) ?_
  refine And.intro (s_aload_n dX6_house_18 rfl) ?_
  refine And.intro (s_iload_n dX6_house_19 rfl) ?_
  refine And.intro (s_iload_n dX6_house_20 rfl) ?_
  refine And.intro (s_callV (C := RX6) (T := TX6) (N := 41) rfl zf_X6_houseOf zg_X6_houseOf zl_974 ⟨rfl, rfl⟩ dX6_house_21) ?_
  refine And.intro (s_goto dX6_house_24 (by decide)) ?_
  refine And.intro (s_bipush dX6_house_27 (by decide)) ?_
  refine And.intro (s_ireturn rfl (fun _ => rfl) dX6_house_29) ?_
  exact trivial
def zp_X6_leak : List (Bool × Nat × zOp) := [
  (true, 0, o_il 1),
  (true, 1, o_cs zi_X6_isHour 1),
  (true, 4, o_if (fun x => x = 0) 24),
  (true, 7, o_il 2),
  (true, 8, o_ic 1),
  (true, 9, o_ic 9),
  (true, 11, o_cs zi_X6_in 3),
  (true, 14, o_if (fun x => x = 0) 24),
  (true, 17, o_il 3),
  (true, 18, o_cs zi_X6_isHour 1),
  (true, 21, o_in (fun x => x = 0) 27),
  (true, 24, o_ic (-2)),
  (true, 26, o_ir),
  (true, 27, o_al 0),
  (true, 28, o_gf 6 11),
  (true, 31, o_ic 6),
  (true, 33, o_cn (fun x y => x = y) 39),
  (true, 36, o_ic (-4)),
  (true, 38, o_ir),
  (true, 39, o_al 0),
  (true, 40, o_gf 6 12),
  (true, 43, o_al 0),
  (true, 44, o_gf 6 11),
  (true, 47, o_il 1),
  (true, 48, o_iw),
  (true, 49, o_al 0),
  (true, 50, o_gf 6 13),
  (true, 53, o_al 0),
  (true, 54, o_gf 6 11),
  (true, 57, o_il 2),
  (true, 58, o_iw),
  (true, 59, o_al 0),
  (true, 60, o_gf 6 14),
  (true, 63, o_al 0),
  (true, 64, o_gf 6 11),
  (true, 67, o_il 3),
  (true, 68, o_iw),
  (true, 69, o_al 0),
  (true, 70, o_dup),
  (true, 71, o_gf 6 11),
  (true, 74, o_ic 1),
  (true, 75, o_ii (fun x y => x + y)),
  (true, 76, o_pi 6 11),
  (true, 79, o_al 0),
  (true, 80, o_gf 6 11),
  (true, 83, o_ir)]
set_option maxRecDepth 100000 in
set_option maxHeartbeats 4000000 in
theorem zk_X6_leak (kc ks : Nat) : z_OK (zS RX6 cX6_leak 4 "leak" (some .int) 2 42 kc ks) zp_X6_leak := by
  unfold zp_X6_leak
  refine And.intro (s_iload_n dX6_leak_0 rfl) ?_
  refine And.intro (s_callS zf_X6_isHour zl_983 zl_982 ⟨rfl, rfl⟩ dX6_leak_1) ?_
  refine And.intro (s_if_eq dX6_leak_4 (by decide)) ?_
  refine And.intro (s_iload_n dX6_leak_7 rfl) ?_
  refine And.intro (s_iconst dX6_leak_8 (by decide)) ?_
  refine And.intro (s_bipush dX6_leak_9 (by decide)) ?_
  refine And.intro (s_callS zf_X6_in zl_924 zl_923 ⟨rfl, rfl⟩ dX6_leak_11) ?_
  refine And.intro (s_if_eq dX6_leak_14 (by decide)) ?_
  refine And.intro (s_iload_n dX6_leak_17 rfl) ?_
  refine And.intro (s_callS zf_X6_isHour zl_983 zl_982 ⟨rfl, rfl⟩ dX6_leak_18) ?_
  refine And.intro (s_if_ne dX6_leak_21 (by decide)) ?_
  refine And.intro (s_bipush dX6_leak_24 (by decide)) ?_
  refine And.intro (s_ireturn rfl (fun _ => rfl) dX6_leak_26) ?_
  refine And.intro (s_aload_n dX6_leak_27 rfl) ?_
  refine And.intro (s_getf (C := RX6) (T := TX6) (N := 41) rfl zin_X6 (by decide) zl_802 dX6_leak_28) ?_
  refine And.intro (s_bipush dX6_leak_31 (by decide)) ?_
  refine And.intro (s_icmp_ne dX6_leak_33 (by decide)) ?_
  refine And.intro (s_bipush dX6_leak_36 (by decide)) ?_
  refine And.intro (s_ireturn rfl (fun _ => rfl) dX6_leak_38) ?_
  refine And.intro (s_aload_n dX6_leak_39 rfl) ?_
  refine And.intro (s_getf (C := RX6) (T := TX6) (N := 41) rfl zin_X6 (by decide) zl_803 dX6_leak_40) ?_
  refine And.intro (s_aload_n dX6_leak_43 rfl) ?_
  refine And.intro (s_getf (C := RX6) (T := TX6) (N := 41) rfl zin_X6 (by decide) zl_802 dX6_leak_44) ?_
  refine And.intro (s_iload_n dX6_leak_47 rfl) ?_
  refine And.intro (s_iastore dX6_leak_48) ?_
  refine And.intro (s_aload_n dX6_leak_49 rfl) ?_
  refine And.intro (s_getf (C := RX6) (T := TX6) (N := 41) rfl zin_X6 (by decide) zl_804 dX6_leak_50) ?_
  refine And.intro (s_aload_n dX6_leak_53 rfl) ?_
  refine And.intro (s_getf (C := RX6) (T := TX6) (N := 41) rfl zin_X6 (by decide) zl_802 dX6_leak_54) ?_
  refine And.intro (s_iload_n dX6_leak_57 rfl) ?_
  refine And.intro (s_iastore dX6_leak_58) ?_
  refine And.intro (s_aload_n dX6_leak_59 rfl) ?_
  refine And.intro (s_getf (C := RX6) (T := TX6) (N := 41) rfl zin_X6 (by decide) zl_805 dX6_leak_60) ?_
  refine And.intro (s_aload_n dX6_leak_63 rfl) ?_
  refine And.intro (s_getf (C := RX6) (T := TX6) (N := 41) rfl zin_X6 (by decide) zl_802 dX6_leak_64) ?_
  refine And.intro (s_iload_n dX6_leak_67 rfl) ?_
  refine And.intro (s_iastore dX6_leak_68) ?_
  refine And.intro (s_aload_n dX6_leak_69 rfl) ?_
  refine And.intro (s_dup dX6_leak_70) ?_
  refine And.intro (s_getf (C := RX6) (T := TX6) (N := 41) rfl zin_X6 (by decide) zl_802 dX6_leak_71) ?_
  refine And.intro (s_iconst dX6_leak_74 (by decide)) ?_
  refine And.intro (s_iadd dX6_leak_75) ?_
  refine And.intro (s_putI (C := RX6) (T := TX6) (N := 41) rfl zin_X6 (by decide) tyX6 tyX6_ok nmX6 zl_802 rfl (by decide +kernel) dX6_leak_76) ?_
  refine And.intro (s_aload_n dX6_leak_79 rfl) ?_
  refine And.intro (s_getf (C := RX6) (T := TX6) (N := 41) rfl zin_X6 (by decide) zl_802 dX6_leak_80) ?_
  refine And.intro (s_ireturn rfl (fun _ => rfl) dX6_leak_83) ?_
  exact trivial
def zp_X6_least : List (Bool × Nat × zOp) := [
  (true, 0, o_al 0),
  (true, 1, o_cv zi_X6_leastNow 0 6),
  (true, 4, o_ir)]
set_option maxRecDepth 100000 in
set_option maxHeartbeats 4000000 in
theorem zk_X6_least (kc ks : Nat) : z_OK (zS RX6 cX6_least 1 "least" (some .int) 8 178 kc ks) zp_X6_least := by
  unfold zp_X6_least
  refine And.intro (s_aload_n dX6_least_0 rfl) ?_
  refine And.intro (s_callV (C := RX6) (T := TX6) (N := 41) rfl zf_X6_leastNow zg_X6_leastNow zl_1132 ⟨rfl, rfl⟩ dX6_least_1) ?_
  refine And.intro (s_ireturn rfl (fun _ => rfl) dX6_least_4) ?_
  exact trivial
def zp_X6_lose : List (Bool × Nat × zOp) := [
  (true, 0, o_il 1),
  (true, 1, o_cs zi_X6_isSheet 1),
  (true, 4, o_in (fun x => x = 0) 10),
  (true, 7, o_ic (-2)),
  (true, 9, o_ir),
  (true, 10, o_al 0),
  (true, 11, o_gf 6 35),
  (true, 14, o_il 1),
  (true, 15, o_ba),
  (true, 16, o_in (fun x => x = 0) 25),
  (true, 19, o_al 0),
  (true, 20, o_ic 1),
  (true, 21, o_cv zi_X6_meets 1 6),
  (true, 24, o_ir),
  (true, 25, o_al 0),
  (true, 26, o_gf 6 35),
  (true, 29, o_il 1),
  (true, 30, o_ic 0),
  (true, 31, o_bw),
  (true, 32, o_al 0),
  (true, 33, o_gf 6 37),
  (true, 36, o_il 1),
  (true, 37, o_ia),
  (true, 38, o_ir)]
set_option maxRecDepth 100000 in
set_option maxHeartbeats 4000000 in
theorem zk_X6_lose (kc ks : Nat) : z_OK (zS RX6 cX6_lose 2 "lose" (some .int) 2 42 kc ks) zp_X6_lose := by
  unfold zp_X6_lose
  refine And.intro (s_iload_n dX6_lose_0 rfl) ?_
  refine And.intro (s_callS zf_X6_isSheet zl_1010 zl_1009 ⟨rfl, rfl⟩ dX6_lose_1) ?_
  refine And.intro (s_if_ne dX6_lose_4 (by decide)) ?_
  refine And.intro (s_bipush dX6_lose_7 (by decide)) ?_
  refine And.intro (s_ireturn rfl (fun _ => rfl) dX6_lose_9) ?_
  refine And.intro (s_aload_n dX6_lose_10 rfl) ?_
  refine And.intro (s_getf (C := RX6) (T := TX6) (N := 41) rfl zin_X6 (by decide) zl_826 dX6_lose_11) ?_
  refine And.intro (s_iload_n dX6_lose_14 rfl) ?_
  refine And.intro (s_baload dX6_lose_15) ?_
  refine And.intro (s_if_ne dX6_lose_16 (by decide)) ?_
  refine And.intro (s_aload_n dX6_lose_19 rfl) ?_
  refine And.intro (s_iconst dX6_lose_20 (by decide)) ?_
  refine And.intro (s_callV (C := RX6) (T := TX6) (N := 41) rfl zf_X6_meets zg_X6_meets zl_1012 ⟨rfl, rfl⟩ dX6_lose_21) ?_
  refine And.intro (s_ireturn rfl (fun _ => rfl) dX6_lose_24) ?_
  refine And.intro (s_aload_n dX6_lose_25 rfl) ?_
  refine And.intro (s_getf (C := RX6) (T := TX6) (N := 41) rfl zin_X6 (by decide) zl_826 dX6_lose_26) ?_
  refine And.intro (s_iload_n dX6_lose_29 rfl) ?_
  refine And.intro (s_iconst dX6_lose_30 (by decide)) ?_
  refine And.intro (s_bastore dX6_lose_31) ?_
  refine And.intro (s_aload_n dX6_lose_32 rfl) ?_
  refine And.intro (s_getf (C := RX6) (T := TX6) (N := 41) rfl zin_X6 (by decide) zl_828 dX6_lose_33) ?_
  refine And.intro (s_iload_n dX6_lose_36 rfl) ?_
  refine And.intro (s_iaload dX6_lose_37) ?_
  refine And.intro (s_ireturn rfl (fun _ => rfl) dX6_lose_38) ?_
  exact trivial
def zp_X6_no : List (Bool × Nat × zOp) := [
  (true, 0, o_lc (-9223372036854775808)),
  (true, 3, o_il 0),
  (true, 4, o_i2l),
  (true, 5, o_jj (fun x y => x - y)),
  (true, 6, o_lr)]
set_option maxRecDepth 100000 in
set_option maxHeartbeats 4000000 in
theorem zk_X6_no (kc ks : Nat) : z_OK (zS RX6 cX6_no 1 "no" (some .long) 0 0 kc ks) zp_X6_no := by
  unfold zp_X6_no
  refine And.intro (s_ldc2 zl_1202 dX6_no_0) ?_
  refine And.intro (s_iload_n dX6_no_3 rfl) ?_
  refine And.intro (s_i2l dX6_no_4) ?_
  refine And.intro (s_lsub dX6_no_5) ?_
  refine And.intro (s_lreturn rfl dX6_no_6) ?_
  exact trivial
def zp_X6_moth : List (Bool × Nat × zOp) := [
  (true, 0, o_il 1),
  (true, 1, o_ic 0),
  (true, 2, o_ic 16),
  (true, 4, o_cs zi_X6_in 3),
  (true, 7, o_if (fun x => x = 0) 37),
  (true, 10, o_al 0),
  (true, 11, o_il 2),
  (true, 12, o_cv zi_X6_isHouse 1 6),
  (true, 15, o_if (fun x => x = 0) 37),
  (true, 18, o_il 3),
  (true, 19, o_ic 0),
  (true, 20, o_ic 1),
  (true, 21, o_cs zi_X6_in 3),
  (true, 24, o_if (fun x => x = 0) 37),
  (true, 27, o_al 0),
  (true, 28, o_il 1),
  (true, 29, o_il 2),
  (true, 30, o_il 3),
  (true, 31, o_cv zi_X6_mothOf 3 6),
  (true, 34, o_go 42),
  (true, 37, o_ic (-2)),
  (true, 39, o_cs zi_X6_no 1),
  (true, 42, o_lr)]
set_option maxRecDepth 100000 in
set_option maxHeartbeats 4000000 in
theorem zk_X6_moth (kc ks : Nat) : z_OK (zS RX6 cX6_moth 4 "moth" (some .long) 8 185 kc ks) zp_X6_moth := by
  unfold zp_X6_moth
  refine And.intro (s_iload_n dX6_moth_0 rfl) ?_
  refine And.intro (s_iconst dX6_moth_1 (by decide)) ?_
  refine And.intro (s_bipush dX6_moth_2 (by decide)) ?_
  refine And.intro (s_callS zf_X6_in zl_924 zl_923 ⟨rfl, rfl⟩ dX6_moth_4) ?_
  refine And.intro (s_if_eq dX6_moth_7 (by decide)) ?_
  refine And.intro (s_aload_n dX6_moth_10 rfl) ?_
  refine And.intro (s_iload_n dX6_moth_11 rfl) ?_
  refine And.intro (s_callV (C := RX6) (T := TX6) (N := 41) rfl zf_X6_isHouse zg_X6_isHouse zl_966 ⟨rfl, rfl⟩ dX6_moth_12) ?_
  refine And.intro (s_if_eq dX6_moth_15 (by decide)) ?_
  refine And.intro (s_iload_n dX6_moth_18 rfl) ?_
  refine And.intro (s_iconst dX6_moth_19 (by decide)) ?_
  refine And.intro (s_iconst dX6_moth_20 (by decide)) ?_
  refine And.intro (s_callS zf_X6_in zl_924 zl_923 ⟨rfl, rfl⟩ dX6_moth_21) ?_
  refine And.intro (s_if_eq dX6_moth_24 (by decide)) ?_
  refine And.intro (s_aload_n dX6_moth_27 rfl) ?_
  refine And.intro (s_iload_n dX6_moth_28 rfl) ?_
  refine And.intro (s_iload_n dX6_moth_29 rfl) ?_
  refine And.intro (s_iload_n dX6_moth_30 rfl) ?_
  refine And.intro (s_callV (C := RX6) (T := TX6) (N := 41) rfl zf_X6_mothOf zg_X6_mothOf zl_1192 ⟨rfl, rfl⟩ dX6_moth_31) ?_
  refine And.intro (s_goto dX6_moth_34 (by decide)) ?_
  refine And.intro (s_bipush dX6_moth_37 (by decide)) ?_
  refine And.intro (s_callS zf_X6_no zl_1200 zl_1199 ⟨rfl, rfl⟩ dX6_moth_39) ?_
  refine And.intro (s_lreturn rfl dX6_moth_42) ?_
  exact trivial
def zp_X6_never : List (Bool × Nat × zOp) := [
  (true, 0, o_al 0),
  (true, 1, o_cv zi_X6_neverNow 0 6),
  (true, 4, o_ir)]
set_option maxRecDepth 100000 in
set_option maxHeartbeats 4000000 in
theorem zk_X6_never (kc ks : Nat) : z_OK (zS RX6 cX6_never 1 "never" (some .int) 8 178 kc ks) zp_X6_never := by
  unfold zp_X6_never
  refine And.intro (s_aload_n dX6_never_0 rfl) ?_
  refine And.intro (s_callV (C := RX6) (T := TX6) (N := 41) rfl zf_X6_neverNow zg_X6_neverNow zl_1156 ⟨rfl, rfl⟩ dX6_never_1) ?_
  refine And.intro (s_ireturn rfl (fun _ => rfl) dX6_never_4) ?_
  exact trivial
def zp_X6_patch : List (Bool × Nat × zOp) := [
  (true, 0, o_il 1),
  (true, 1, o_ic 0),
  (true, 2, o_ic 1),
  (true, 3, o_cs zi_X6_in 3),
  (true, 6, o_if (fun x => x = 0) 17),
  (true, 9, o_al 0),
  (true, 10, o_il 1),
  (true, 11, o_cv zi_X6_patchOf 1 6),
  (true, 14, o_go 19),
  (true, 17, o_ic (-2)),
  (true, 19, o_ir)]
set_option maxRecDepth 100000 in
set_option maxHeartbeats 4000000 in
theorem zk_X6_patch (kc ks : Nat) : z_OK (zS RX6 cX6_patch 2 "patch" (some .int) 8 181 kc ks) zp_X6_patch := by
  unfold zp_X6_patch
  refine And.intro (s_iload_n dX6_patch_0 rfl) ?_
  refine And.intro (s_iconst dX6_patch_1 (by decide)) ?_
  refine And.intro (s_iconst dX6_patch_2 (by decide)) ?_
  refine And.intro (s_callS zf_X6_in zl_924 zl_923 ⟨rfl, rfl⟩ dX6_patch_3) ?_
  refine And.intro (s_if_eq dX6_patch_6 (by decide)) ?_
  refine And.intro (s_aload_n dX6_patch_9 rfl) ?_
  refine And.intro (s_iload_n dX6_patch_10 rfl) ?_
  refine And.intro (s_callV (C := RX6) (T := TX6) (N := 41) rfl zf_X6_patchOf zg_X6_patchOf zl_1140 ⟨rfl, rfl⟩ dX6_patch_11) ?_
  refine And.intro (s_goto dX6_patch_14 (by decide)) ?_
  refine And.intro (s_bipush dX6_patch_17 (by decide)) ?_
  refine And.intro (s_ireturn rfl (fun _ => rfl) dX6_patch_19) ?_
  exact trivial
def zp_X6_pinch : List (Bool × Nat × zOp) := [
  (true, 0, o_il 1),
  (true, 1, o_cs zi_X6_isHour 1),
  (true, 4, o_if (fun x => x = 0) 17),
  (true, 7, o_il 2),
  (true, 8, o_ic 0),
  (true, 9, o_ic 7),
  (true, 11, o_cs zi_X6_in 3),
  (true, 14, o_in (fun x => x = 0) 20),
  (true, 17, o_ic (-2)),
  (true, 19, o_ir),
  (true, 20, o_al 0),
  (true, 21, o_gf 6 15),
  (true, 24, o_ic 6),
  (true, 26, o_cn (fun x y => x = y) 32),
  (true, 29, o_ic (-4)),
  (true, 31, o_ir),
  (true, 32, o_al 0),
  (true, 33, o_gf 6 16),
  (true, 36, o_al 0),
  (true, 37, o_gf 6 15),
  (true, 40, o_il 1),
  (true, 41, o_iw),
  (true, 42, o_al 0),
  (true, 43, o_gf 6 17),
  (true, 46, o_al 0),
  (true, 47, o_gf 6 15),
  (true, 50, o_il 2),
  (true, 51, o_iw),
  (true, 52, o_al 0),
  (true, 53, o_dup),
  (true, 54, o_gf 6 15),
  (true, 57, o_ic 1),
  (true, 58, o_ii (fun x y => x + y)),
  (true, 59, o_pi 6 15),
  (true, 62, o_al 0),
  (true, 63, o_gf 6 15),
  (true, 66, o_ir)]
set_option maxRecDepth 100000 in
set_option maxHeartbeats 4000000 in
theorem zk_X6_pinch (kc ks : Nat) : z_OK (zS RX6 cX6_pinch 3 "pinch" (some .int) 2 42 kc ks) zp_X6_pinch := by
  unfold zp_X6_pinch
  refine And.intro (s_iload_n dX6_pinch_0 rfl) ?_
  refine And.intro (s_callS zf_X6_isHour zl_983 zl_982 ⟨rfl, rfl⟩ dX6_pinch_1) ?_
  refine And.intro (s_if_eq dX6_pinch_4 (by decide)) ?_
  refine And.intro (s_iload_n dX6_pinch_7 rfl) ?_
  refine And.intro (s_iconst dX6_pinch_8 (by decide)) ?_
  refine And.intro (s_bipush dX6_pinch_9 (by decide)) ?_
  refine And.intro (s_callS zf_X6_in zl_924 zl_923 ⟨rfl, rfl⟩ dX6_pinch_11) ?_
  refine And.intro (s_if_ne dX6_pinch_14 (by decide)) ?_
  refine And.intro (s_bipush dX6_pinch_17 (by decide)) ?_
  refine And.intro (s_ireturn rfl (fun _ => rfl) dX6_pinch_19) ?_
  refine And.intro (s_aload_n dX6_pinch_20 rfl) ?_
  refine And.intro (s_getf (C := RX6) (T := TX6) (N := 41) rfl zin_X6 (by decide) zl_806 dX6_pinch_21) ?_
  refine And.intro (s_bipush dX6_pinch_24 (by decide)) ?_
  refine And.intro (s_icmp_ne dX6_pinch_26 (by decide)) ?_
  refine And.intro (s_bipush dX6_pinch_29 (by decide)) ?_
  refine And.intro (s_ireturn rfl (fun _ => rfl) dX6_pinch_31) ?_
  refine And.intro (s_aload_n dX6_pinch_32 rfl) ?_
  refine And.intro (s_getf (C := RX6) (T := TX6) (N := 41) rfl zin_X6 (by decide) zl_807 dX6_pinch_33) ?_
  refine And.intro (s_aload_n dX6_pinch_36 rfl) ?_
  refine And.intro (s_getf (C := RX6) (T := TX6) (N := 41) rfl zin_X6 (by decide) zl_806 dX6_pinch_37) ?_
  refine And.intro (s_iload_n dX6_pinch_40 rfl) ?_
  refine And.intro (s_iastore dX6_pinch_41) ?_
  refine And.intro (s_aload_n dX6_pinch_42 rfl) ?_
  refine And.intro (s_getf (C := RX6) (T := TX6) (N := 41) rfl zin_X6 (by decide) zl_808 dX6_pinch_43) ?_
  refine And.intro (s_aload_n dX6_pinch_46 rfl) ?_
  refine And.intro (s_getf (C := RX6) (T := TX6) (N := 41) rfl zin_X6 (by decide) zl_806 dX6_pinch_47) ?_
  refine And.intro (s_iload_n dX6_pinch_50 rfl) ?_
  refine And.intro (s_iastore dX6_pinch_51) ?_
  refine And.intro (s_aload_n dX6_pinch_52 rfl) ?_
  refine And.intro (s_dup dX6_pinch_53) ?_
  refine And.intro (s_getf (C := RX6) (T := TX6) (N := 41) rfl zin_X6 (by decide) zl_806 dX6_pinch_54) ?_
  refine And.intro (s_iconst dX6_pinch_57 (by decide)) ?_
  refine And.intro (s_iadd dX6_pinch_58) ?_
  refine And.intro (s_putI (C := RX6) (T := TX6) (N := 41) rfl zin_X6 (by decide) tyX6 tyX6_ok nmX6 zl_806 rfl (by decide +kernel) dX6_pinch_59) ?_
  refine And.intro (s_aload_n dX6_pinch_62 rfl) ?_
  refine And.intro (s_getf (C := RX6) (T := TX6) (N := 41) rfl zin_X6 (by decide) zl_806 dX6_pinch_63) ?_
  refine And.intro (s_ireturn rfl (fun _ => rfl) dX6_pinch_66) ?_
  exact trivial
def zp_X6_keep : List (Bool × Nat × zOp) := [
  (true, 0, o_al 0),
  (true, 1, o_gf 6 38),
  (true, 4, o_ic 60),
  (true, 6, o_il 1),
  (true, 7, o_ii (fun x y => x * y)),
  (true, 8, o_il 2),
  (true, 9, o_ii (fun x y => x + y)),
  (true, 10, o_al 0),
  (true, 11, o_gf 6 36),
  (true, 14, o_il 1),
  (true, 15, o_ia),
  (true, 16, o_in (fun x => x = 0) 24),
  (true, 19, o_il 3),
  (true, 20, o_i1 (fun x => x.toInt8.toInt32)),
  (true, 21, o_go 40),
  (true, 24, o_al 0),
  (true, 25, o_gf 6 36),
  (true, 28, o_il 1),
  (true, 29, o_ia),
  (true, 30, o_ic 1),
  (true, 31, o_cn (fun x y => x = y) 39),
  (true, 34, o_il 3),
  (true, 35, o_i1 (fun x => x.toInt16.toInt32)),
  (true, 36, o_go 40),
  (true, 39, o_il 3),
  (true, 40, o_iw),
  (true, 41, o_vr)]
set_option maxRecDepth 100000 in
set_option maxHeartbeats 4000000 in
theorem zk_X6_keep (kc ks : Nat) : z_OK (zS RX6 cX6_keep 4 "keep" none 0 0 kc ks) zp_X6_keep := by
  unfold zp_X6_keep
  refine And.intro (s_aload_n dX6_keep_0 rfl) ?_
  refine And.intro (s_getf (C := RX6) (T := TX6) (N := 41) rfl zin_X6 (by decide) zl_829 dX6_keep_1) ?_
  refine And.intro (s_bipush dX6_keep_4 (by decide)) ?_
  refine And.intro (s_iload_n dX6_keep_6 rfl) ?_
  refine And.intro (s_imul dX6_keep_7) ?_
  refine And.intro (s_iload_n dX6_keep_8 rfl) ?_
  refine And.intro (s_iadd dX6_keep_9) ?_
  refine And.intro (s_aload_n dX6_keep_10 rfl) ?_
  refine And.intro (s_getf (C := RX6) (T := TX6) (N := 41) rfl zin_X6 (by decide) zl_827 dX6_keep_11) ?_
  refine And.intro (s_iload_n dX6_keep_14 rfl) ?_
  refine And.intro (s_iaload dX6_keep_15) ?_
  refine And.intro (s_if_ne dX6_keep_16 (by decide)) ?_
  refine And.intro (s_iload_n dX6_keep_19 rfl) ?_
  refine And.intro (s_i2b dX6_keep_20) ?_
  refine And.intro (s_goto dX6_keep_21 (by decide)) ?_
  refine And.intro (s_aload_n dX6_keep_24 rfl) ?_
  refine And.intro (s_getf (C := RX6) (T := TX6) (N := 41) rfl zin_X6 (by decide) zl_827 dX6_keep_25) ?_
  refine And.intro (s_iload_n dX6_keep_28 rfl) ?_
  refine And.intro (s_iaload dX6_keep_29) ?_
  refine And.intro (s_iconst dX6_keep_30 (by decide)) ?_
  refine And.intro (s_icmp_ne dX6_keep_31 (by decide)) ?_
  refine And.intro (s_iload_n dX6_keep_34 rfl) ?_
  refine And.intro (s_i2s dX6_keep_35) ?_
  refine And.intro (s_goto dX6_keep_36 (by decide)) ?_
  refine And.intro (s_iload_n dX6_keep_39 rfl) ?_
  refine And.intro (s_iastore dX6_keep_40) ?_
  refine And.intro (s_vreturn rfl dX6_keep_41) ?_
  exact trivial
def zp_X6_put : List (Bool × Nat × zOp) := [
  (true, 0, o_il 1),
  (true, 1, o_cs zi_X6_isSheet 1),
  (true, 4, o_if (fun x => x = 0) 16),
  (true, 7, o_il 2),
  (true, 8, o_ic 0),
  (true, 9, o_ic 2),
  (true, 10, o_cs zi_X6_in 3),
  (true, 13, o_in (fun x => x = 0) 19),
  (true, 16, o_ic (-2)),
  (true, 18, o_ir),
  (true, 19, o_al 0),
  (true, 20, o_il 1),
  (true, 21, o_il 2),
  (true, 22, o_il 3),
  (true, 23, o_cv zi_X6_lacks 3 6),
  (true, 26, o_is 5),
  (true, 28, o_il 5),
  (true, 30, o_if (fun x => x ≤ 0) 40),
  (true, 33, o_al 0),
  (true, 34, o_il 5),
  (true, 36, o_cv zi_X6_meets 1 6),
  (true, 39, o_ir),
  (true, 40, o_al 0),
  (true, 41, o_il 1),
  (true, 42, o_il 3),
  (true, 43, o_il 4),
  (true, 45, o_cv zi_X6_keep 3 6),
  (true, 48, o_ic 1),
  (true, 49, o_ir)]
set_option maxRecDepth 100000 in
set_option maxHeartbeats 4000000 in
theorem zk_X6_put (kc ks : Nat) : z_OK (zS RX6 cX6_put 6 "put" (some .int) 2 45 kc ks) zp_X6_put := by
  unfold zp_X6_put
  refine And.intro (s_iload_n dX6_put_0 rfl) ?_
  refine And.intro (s_callS zf_X6_isSheet zl_1010 zl_1009 ⟨rfl, rfl⟩ dX6_put_1) ?_
  refine And.intro (s_if_eq dX6_put_4 (by decide)) ?_
  refine And.intro (s_iload_n dX6_put_7 rfl) ?_
  refine And.intro (s_iconst dX6_put_8 (by decide)) ?_
  refine And.intro (s_iconst dX6_put_9 (by decide)) ?_
  refine And.intro (s_callS zf_X6_in zl_924 zl_923 ⟨rfl, rfl⟩ dX6_put_10) ?_
  refine And.intro (s_if_ne dX6_put_13 (by decide)) ?_
  refine And.intro (s_bipush dX6_put_16 (by decide)) ?_
  refine And.intro (s_ireturn rfl (fun _ => rfl) dX6_put_18) ?_
  refine And.intro (s_aload_n dX6_put_19 rfl) ?_
  refine And.intro (s_iload_n dX6_put_20 rfl) ?_
  refine And.intro (s_iload_n dX6_put_21 rfl) ?_
  refine And.intro (s_iload_n dX6_put_22 rfl) ?_
  refine And.intro (s_callV (C := RX6) (T := TX6) (N := 41) rfl zf_X6_lacks zg_X6_lacks zl_1224 ⟨rfl, rfl⟩ dX6_put_23) ?_
  refine And.intro (s_istore dX6_put_26) ?_
  refine And.intro (s_iload dX6_put_28) ?_
  refine And.intro (s_if_le dX6_put_30 (by decide)) ?_
  refine And.intro (s_aload_n dX6_put_33 rfl) ?_
  refine And.intro (s_iload dX6_put_34) ?_
  refine And.intro (s_callV (C := RX6) (T := TX6) (N := 41) rfl zf_X6_meets zg_X6_meets zl_1012 ⟨rfl, rfl⟩ dX6_put_36) ?_
  refine And.intro (s_ireturn rfl (fun _ => rfl) dX6_put_39) ?_
  refine And.intro (s_aload_n dX6_put_40 rfl) ?_
  refine And.intro (s_iload_n dX6_put_41 rfl) ?_
  refine And.intro (s_iload_n dX6_put_42 rfl) ?_
  refine And.intro (s_iload dX6_put_43) ?_
  refine And.intro (s_callV (C := RX6) (T := TX6) (N := 41) rfl zf_X6_keep zg_X6_keep zl_1228 ⟨rfl, rfl⟩ dX6_put_45) ?_
  refine And.intro (s_iconst dX6_put_48 (by decide)) ?_
  refine And.intro (s_ireturn rfl (fun _ => rfl) dX6_put_49) ?_
  exact trivial
def zp_X6_quiet : List (Bool × Nat × zOp) := [
  (true, 0, o_al 0),
  (true, 1, o_cv zi_X6_quietOf 0 6),
  (true, 4, o_ir)]
set_option maxRecDepth 100000 in
set_option maxHeartbeats 4000000 in
theorem zk_X6_quiet (kc ks : Nat) : z_OK (zS RX6 cX6_quiet 1 "quiet" (some .int) 9 198 kc ks) zp_X6_quiet := by
  unfold zp_X6_quiet
  refine And.intro (s_aload_n dX6_quiet_0 rfl) ?_
  refine And.intro (s_callV (C := RX6) (T := TX6) (N := 41) rfl zf_X6_quietOf zg_X6_quietOf zl_1096 ⟨rfl, rfl⟩ dX6_quiet_1) ?_
  refine And.intro (s_ireturn rfl (fun _ => rfl) dX6_quiet_4) ?_
  exact trivial
def zp_X6_read : List (Bool × Nat × zOp) := [
  (true, 0, o_il 1),
  (true, 1, o_cs zi_X6_isSheet 1),
  (true, 4, o_in (fun x => x = 0) 10),
  (true, 7, o_ic (-2)),
  (true, 9, o_ir),
  (true, 10, o_al 0),
  (true, 11, o_gf 6 35),
  (true, 14, o_il 1),
  (true, 15, o_ba),
  (true, 16, o_in (fun x => x = 0) 25),
  (true, 19, o_al 0),
  (true, 20, o_ic 1),
  (true, 21, o_cv zi_X6_meets 1 6),
  (true, 24, o_ir),
  (true, 25, o_ic 0),
  (true, 26, o_is 2),
  (false, 27, o_mark 27 []),
  (true, 27, o_ic 2),
  (true, 28, o_il 2),
  (true, 29, o_ii (fun x y => x * y)),
  (true, 30, o_ic 1),
  (true, 31, o_ii (fun x y => x + y)),
  (true, 32, o_al 0),
  (true, 33, o_gf 6 37),
  (true, 36, o_il 1),
  (true, 37, o_ia),
  (true, 38, o_cmp (fun x y => y ≤ x) 82),
  (true, 41, o_al 0),
  (true, 42, o_al 0),
  (true, 43, o_gf 6 38),
  (true, 46, o_ic 60),
  (true, 48, o_il 1),
  (true, 49, o_ii (fun x y => x * y)),
  (true, 50, o_ic 2),
  (true, 51, o_il 2),
  (true, 52, o_ii (fun x y => x * y)),
  (true, 53, o_ii (fun x y => x + y)),
  (true, 54, o_ia),
  (true, 55, o_al 0),
  (true, 56, o_gf 6 38),
  (true, 59, o_ic 60),
  (true, 61, o_il 1),
  (true, 62, o_ii (fun x y => x * y)),
  (true, 63, o_ic 2),
  (true, 64, o_il 2),
  (true, 65, o_ii (fun x y => x * y)),
  (true, 66, o_ii (fun x y => x + y)),
  (true, 67, o_ic 1),
  (true, 68, o_ii (fun x y => x + y)),
  (true, 69, o_ia),
  (true, 70, o_cv zi_X6_pinch 2 6),
  (true, 73, o_if (fun x => x ≤ 0) 82),
  (true, 76, o_inc 2 1),
  (true, 79, o_gb 27 []),
  (true, 82, o_il 2),
  (true, 83, o_ir)]
set_option maxRecDepth 100000 in
set_option maxHeartbeats 4000000 in
theorem zk_X6_read (kc ks : Nat) : z_OK (zS RX6 cX6_read 3 "read" (some .int) 3 64 kc ks) zp_X6_read := by
  unfold zp_X6_read
  refine And.intro (s_iload_n dX6_read_0 rfl) ?_
  refine And.intro (s_callS zf_X6_isSheet zl_1010 zl_1009 ⟨rfl, rfl⟩ dX6_read_1) ?_
  refine And.intro (s_if_ne dX6_read_4 (by decide)) ?_
  refine And.intro (s_bipush dX6_read_7 (by decide)) ?_
  refine And.intro (s_ireturn rfl (fun _ => rfl) dX6_read_9) ?_
  refine And.intro (s_aload_n dX6_read_10 rfl) ?_
  refine And.intro (s_getf (C := RX6) (T := TX6) (N := 41) rfl zin_X6 (by decide) zl_826 dX6_read_11) ?_
  refine And.intro (s_iload_n dX6_read_14 rfl) ?_
  refine And.intro (s_baload dX6_read_15) ?_
  refine And.intro (s_if_ne dX6_read_16 (by decide)) ?_
  refine And.intro (s_aload_n dX6_read_19 rfl) ?_
  refine And.intro (s_iconst dX6_read_20 (by decide)) ?_
  refine And.intro (s_callV (C := RX6) (T := TX6) (N := 41) rfl zf_X6_meets zg_X6_meets zl_1012 ⟨rfl, rfl⟩ dX6_read_21) ?_
  refine And.intro (s_ireturn rfl (fun _ => rfl) dX6_read_24) ?_
  refine And.intro (s_iconst dX6_read_25 (by decide)) ?_
  refine And.intro (s_istore_n dX6_read_26 rfl) ?_
  refine And.intro (s_mark) ?_
  refine And.intro (s_iconst dX6_read_27 (by decide)) ?_
  refine And.intro (s_iload_n dX6_read_28 rfl) ?_
  refine And.intro (s_imul dX6_read_29) ?_
  refine And.intro (s_iconst dX6_read_30 (by decide)) ?_
  refine And.intro (s_iadd dX6_read_31) ?_
  refine And.intro (s_aload_n dX6_read_32 rfl) ?_
  refine And.intro (s_getf (C := RX6) (T := TX6) (N := 41) rfl zin_X6 (by decide) zl_828 dX6_read_33) ?_
  refine And.intro (s_iload_n dX6_read_36 rfl) ?_
  refine And.intro (s_iaload dX6_read_37) ?_
  refine And.intro (s_icmp_ge dX6_read_38 (by decide)) ?_
  refine And.intro (s_aload_n dX6_read_41 rfl) ?_
  refine And.intro (s_aload_n dX6_read_42 rfl) ?_
  refine And.intro (s_getf (C := RX6) (T := TX6) (N := 41) rfl zin_X6 (by decide) zl_829 dX6_read_43) ?_
  refine And.intro (s_bipush dX6_read_46 (by decide)) ?_
  refine And.intro (s_iload_n dX6_read_48 rfl) ?_
  refine And.intro (s_imul dX6_read_49) ?_
  refine And.intro (s_iconst dX6_read_50 (by decide)) ?_
  refine And.intro (s_iload_n dX6_read_51 rfl) ?_
  refine And.intro (s_imul dX6_read_52) ?_
  refine And.intro (s_iadd dX6_read_53) ?_
  refine And.intro (s_iaload dX6_read_54) ?_
  refine And.intro (s_aload_n dX6_read_55 rfl) ?_
  refine And.intro (s_getf (C := RX6) (T := TX6) (N := 41) rfl zin_X6 (by decide) zl_829 dX6_read_56) ?_
  refine And.intro (s_bipush dX6_read_59 (by decide)) ?_
  refine And.intro (s_iload_n dX6_read_61 rfl) ?_
  refine And.intro (s_imul dX6_read_62) ?_
  refine And.intro (s_iconst dX6_read_63 (by decide)) ?_
  refine And.intro (s_iload_n dX6_read_64 rfl) ?_
  refine And.intro (s_imul dX6_read_65) ?_
  refine And.intro (s_iadd dX6_read_66) ?_
  refine And.intro (s_iconst dX6_read_67 (by decide)) ?_
  refine And.intro (s_iadd dX6_read_68) ?_
  refine And.intro (s_iaload dX6_read_69) ?_
  refine And.intro (s_callV (C := RX6) (T := TX6) (N := 41) rfl zf_X6_pinch zg_X6_pinch zl_1016 ⟨rfl, rfl⟩ dX6_read_70) ?_
  refine And.intro (s_if_le dX6_read_73 (by decide)) ?_
  refine And.intro (s_iinc dX6_read_76 (by decide)) ?_
  refine And.intro (s_gotob dX6_read_79 (by decide)) ?_
  refine And.intro (s_iload_n dX6_read_82 rfl) ?_
  refine And.intro (s_ireturn rfl (fun _ => rfl) dX6_read_83) ?_
  exact trivial
def zp_X6_seen : List (Bool × Nat × zOp) := [
  (true, 0, o_il 1),
  (true, 1, o_cs zi_X6_isHour 1),
  (true, 4, o_if (fun x => x = 0) 26),
  (true, 7, o_il 2),
  (true, 8, o_ic 0),
  (true, 9, o_ic 7),
  (true, 11, o_cs zi_X6_in 3),
  (true, 14, o_if (fun x => x = 0) 26),
  (true, 17, o_il 3),
  (true, 18, o_ic 0),
  (true, 19, o_ic 4),
  (true, 20, o_cs zi_X6_in 3),
  (true, 23, o_in (fun x => x = 0) 29),
  (true, 26, o_ic (-2)),
  (true, 28, o_ir),
  (true, 29, o_al 0),
  (true, 30, o_gf 6 30),
  (true, 33, o_ic 8),
  (true, 35, o_cn (fun x y => x = y) 41),
  (true, 38, o_ic (-4)),
  (true, 40, o_ir),
  (true, 41, o_al 0),
  (true, 42, o_gf 6 31),
  (true, 45, o_al 0),
  (true, 46, o_gf 6 30),
  (true, 49, o_il 1),
  (true, 50, o_iw),
  (true, 51, o_al 0),
  (true, 52, o_gf 6 32),
  (true, 55, o_al 0),
  (true, 56, o_gf 6 30),
  (true, 59, o_il 2),
  (true, 60, o_iw),
  (true, 61, o_al 0),
  (true, 62, o_gf 6 33),
  (true, 65, o_al 0),
  (true, 66, o_gf 6 30),
  (true, 69, o_il 3),
  (true, 70, o_iw),
  (true, 71, o_al 0),
  (true, 72, o_dup),
  (true, 73, o_gf 6 30),
  (true, 76, o_ic 1),
  (true, 77, o_ii (fun x y => x + y)),
  (true, 78, o_pi 6 30),
  (true, 81, o_al 0),
  (true, 82, o_gf 6 30),
  (true, 85, o_ir)]
set_option maxRecDepth 100000 in
set_option maxHeartbeats 4000000 in
theorem zk_X6_seen (kc ks : Nat) : z_OK (zS RX6 cX6_seen 4 "seen" (some .int) 2 42 kc ks) zp_X6_seen := by
  unfold zp_X6_seen
  refine And.intro (s_iload_n dX6_seen_0 rfl) ?_
  refine And.intro (s_callS zf_X6_isHour zl_983 zl_982 ⟨rfl, rfl⟩ dX6_seen_1) ?_
  refine And.intro (s_if_eq dX6_seen_4 (by decide)) ?_
  refine And.intro (s_iload_n dX6_seen_7 rfl) ?_
  refine And.intro (s_iconst dX6_seen_8 (by decide)) ?_
  refine And.intro (s_bipush dX6_seen_9 (by decide)) ?_
  refine And.intro (s_callS zf_X6_in zl_924 zl_923 ⟨rfl, rfl⟩ dX6_seen_11) ?_
  refine And.intro (s_if_eq dX6_seen_14 (by decide)) ?_
  refine And.intro (s_iload_n dX6_seen_17 rfl) ?_
  refine And.intro (s_iconst dX6_seen_18 (by decide)) ?_
  refine And.intro (s_iconst dX6_seen_19 (by decide)) ?_
  refine And.intro (s_callS zf_X6_in zl_924 zl_923 ⟨rfl, rfl⟩ dX6_seen_20) ?_
  refine And.intro (s_if_ne dX6_seen_23 (by decide)) ?_
  refine And.intro (s_bipush dX6_seen_26 (by decide)) ?_
  refine And.intro (s_ireturn rfl (fun _ => rfl) dX6_seen_28) ?_
  refine And.intro (s_aload_n dX6_seen_29 rfl) ?_
  refine And.intro (s_getf (C := RX6) (T := TX6) (N := 41) rfl zin_X6 (by decide) zl_821 dX6_seen_30) ?_
  refine And.intro (s_bipush dX6_seen_33 (by decide)) ?_
  refine And.intro (s_icmp_ne dX6_seen_35 (by decide)) ?_
  refine And.intro (s_bipush dX6_seen_38 (by decide)) ?_
  refine And.intro (s_ireturn rfl (fun _ => rfl) dX6_seen_40) ?_
  refine And.intro (s_aload_n dX6_seen_41 rfl) ?_
  refine And.intro (s_getf (C := RX6) (T := TX6) (N := 41) rfl zin_X6 (by decide) zl_822 dX6_seen_42) ?_
  refine And.intro (s_aload_n dX6_seen_45 rfl) ?_
  refine And.intro (s_getf (C := RX6) (T := TX6) (N := 41) rfl zin_X6 (by decide) zl_821 dX6_seen_46) ?_
  refine And.intro (s_iload_n dX6_seen_49 rfl) ?_
  refine And.intro (s_iastore dX6_seen_50) ?_
  refine And.intro (s_aload_n dX6_seen_51 rfl) ?_
  refine And.intro (s_getf (C := RX6) (T := TX6) (N := 41) rfl zin_X6 (by decide) zl_823 dX6_seen_52) ?_
  refine And.intro (s_aload_n dX6_seen_55 rfl) ?_
  refine And.intro (s_getf (C := RX6) (T := TX6) (N := 41) rfl zin_X6 (by decide) zl_821 dX6_seen_56) ?_
  refine And.intro (s_iload_n dX6_seen_59 rfl) ?_
  refine And.intro (s_iastore dX6_seen_60) ?_
  refine And.intro (s_aload_n dX6_seen_61 rfl) ?_
  refine And.intro (s_getf (C := RX6) (T := TX6) (N := 41) rfl zin_X6 (by decide) zl_824 dX6_seen_62) ?_
  refine And.intro (s_aload_n dX6_seen_65 rfl) ?_
  refine And.intro (s_getf (C := RX6) (T := TX6) (N := 41) rfl zin_X6 (by decide) zl_821 dX6_seen_66) ?_
  refine And.intro (s_iload_n dX6_seen_69 rfl) ?_
  refine And.intro (s_iastore dX6_seen_70) ?_
  refine And.intro (s_aload_n dX6_seen_71 rfl) ?_
  refine And.intro (s_dup dX6_seen_72) ?_
  refine And.intro (s_getf (C := RX6) (T := TX6) (N := 41) rfl zin_X6 (by decide) zl_821 dX6_seen_73) ?_
  refine And.intro (s_iconst dX6_seen_76 (by decide)) ?_
  refine And.intro (s_iadd dX6_seen_77) ?_
  refine And.intro (s_putI (C := RX6) (T := TX6) (N := 41) rfl zin_X6 (by decide) tyX6 tyX6_ok nmX6 zl_821 rfl (by decide +kernel) dX6_seen_78) ?_
  refine And.intro (s_aload_n dX6_seen_81 rfl) ?_
  refine And.intro (s_getf (C := RX6) (T := TX6) (N := 41) rfl zin_X6 (by decide) zl_821 dX6_seen_82) ?_
  refine And.intro (s_ireturn rfl (fun _ => rfl) dX6_seen_85) ?_
  exact trivial
def zp_X6_set : List (Bool × Nat × zOp) := [
  (true, 0, o_il 1),
  (true, 1, o_ic 0),
  (true, 2, o_ic 2),
  (true, 3, o_cs zi_X6_in 3),
  (true, 6, o_if (fun x => x = 0) 46),
  (true, 9, o_il 2),
  (true, 10, o_il 1),
  (true, 11, o_in (fun x => x = 0) 18),
  (true, 14, o_ic 0),
  (true, 15, o_go 19),
  (true, 18, o_ic 1),
  (true, 19, o_il 1),
  (true, 20, o_in (fun x => x = 0) 28),
  (true, 23, o_ic 60),
  (true, 25, o_go 40),
  (true, 28, o_il 1),
  (true, 29, o_ic 1),
  (true, 30, o_cn (fun x y => x = y) 38),
  (true, 33, o_ic 99),
  (true, 35, o_go 40),
  (true, 38, o_ic 9),
  (true, 40, o_cs zi_X6_in 3),
  (true, 43, o_in (fun x => x = 0) 49),
  (true, 46, o_ic (-2)),
  (true, 48, o_ir),
  (true, 49, o_al 0),
  (true, 50, o_gf 6 10),
  (true, 53, o_il 1),
  (true, 54, o_ia),
  (true, 55, o_is 3),
  (true, 56, o_al 0),
  (true, 57, o_gf 6 10),
  (true, 60, o_il 1),
  (true, 61, o_il 2),
  (true, 62, o_iw),
  (true, 63, o_il 3),
  (true, 64, o_ir)]
set_option maxRecDepth 100000 in
set_option maxHeartbeats 4000000 in
theorem zk_X6_set (kc ks : Nat) : z_OK (zS RX6 cX6_set 4 "set" (some .int) 1 22 kc ks) zp_X6_set := by
  unfold zp_X6_set
  refine And.intro (s_iload_n dX6_set_0 rfl) ?_
  refine And.intro (s_iconst dX6_set_1 (by decide)) ?_
  refine And.intro (s_iconst dX6_set_2 (by decide)) ?_
  refine And.intro (s_callS zf_X6_in zl_924 zl_923 ⟨rfl, rfl⟩ dX6_set_3) ?_
  refine And.intro (s_if_eq dX6_set_6 (by decide)) ?_
  refine And.intro (s_iload_n dX6_set_9 rfl) ?_
  refine And.intro (s_iload_n dX6_set_10 rfl) ?_
  refine And.intro (s_if_ne dX6_set_11 (by decide)) ?_
  refine And.intro (s_iconst dX6_set_14 (by decide)) ?_
  refine And.intro (s_goto dX6_set_15 (by decide)) ?_
  refine And.intro (s_iconst dX6_set_18 (by decide)) ?_
  refine And.intro (s_iload_n dX6_set_19 rfl) ?_
  refine And.intro (s_if_ne dX6_set_20 (by decide)) ?_
  refine And.intro (s_bipush dX6_set_23 (by decide)) ?_
  refine And.intro (s_goto dX6_set_25 (by decide)) ?_
  refine And.intro (s_iload_n dX6_set_28 rfl) ?_
  refine And.intro (s_iconst dX6_set_29 (by decide)) ?_
  refine And.intro (s_icmp_ne dX6_set_30 (by decide)) ?_
  refine And.intro (s_bipush dX6_set_33 (by decide)) ?_
  refine And.intro (s_goto dX6_set_35 (by decide)) ?_
  refine And.intro (s_bipush dX6_set_38 (by decide)) ?_
  refine And.intro (s_callS zf_X6_in zl_924 zl_923 ⟨rfl, rfl⟩ dX6_set_40) ?_
  refine And.intro (s_if_ne dX6_set_43 (by decide)) ?_
  refine And.intro (s_bipush dX6_set_46 (by decide)) ?_
  refine And.intro (s_ireturn rfl (fun _ => rfl) dX6_set_48) ?_
  refine And.intro (s_aload_n dX6_set_49 rfl) ?_
  refine And.intro (s_getf (C := RX6) (T := TX6) (N := 41) rfl zin_X6 (by decide) zl_801 dX6_set_50) ?_
  refine And.intro (s_iload_n dX6_set_53 rfl) ?_
  refine And.intro (s_iaload dX6_set_54) ?_
  refine And.intro (s_istore_n dX6_set_55 rfl) ?_
  refine And.intro (s_aload_n dX6_set_56 rfl) ?_
  refine And.intro (s_getf (C := RX6) (T := TX6) (N := 41) rfl zin_X6 (by decide) zl_801 dX6_set_57) ?_
  refine And.intro (s_iload_n dX6_set_60 rfl) ?_
  refine And.intro (s_iload_n dX6_set_61 rfl) ?_
  refine And.intro (s_iastore dX6_set_62) ?_
  refine And.intro (s_iload_n dX6_set_63 rfl) ?_
  refine And.intro (s_ireturn rfl (fun _ => rfl) dX6_set_64) ?_
  exact trivial
def zp_X6_sheet : List (Bool × Nat × zOp) := [
  (true, 0, o_il 1),
  (true, 1, o_cs zi_X6_isSheet 1),
  (true, 4, o_if (fun x => x = 0) 22),
  (true, 7, o_il 2),
  (true, 8, o_ic 0),
  (true, 9, o_ic 2),
  (true, 10, o_cs zi_X6_in 3),
  (true, 13, o_if (fun x => x = 0) 22),
  (true, 16, o_il 3),
  (true, 17, o_ic 60),
  (true, 19, o_cmp (fun x y => x ≤ y) 25),
  (true, 22, o_ic (-2)),
  (true, 24, o_ir),
  (true, 25, o_il 3),
  (true, 26, o_if (fun x => 0 ≤ x) 35),
  (true, 29, o_al 0),
  (true, 30, o_ic 5),
  (true, 31, o_cv zi_X6_meets 1 6),
  (true, 34, o_ir),
  (true, 35, o_al 0),
  (true, 36, o_gf 6 35),
  (true, 39, o_il 1),
  (true, 40, o_ic 1),
  (true, 41, o_bw),
  (true, 42, o_al 0),
  (true, 43, o_gf 6 36),
  (true, 46, o_il 1),
  (true, 47, o_il 2),
  (true, 48, o_iw),
  (true, 49, o_al 0),
  (true, 50, o_gf 6 37),
  (true, 53, o_il 1),
  (true, 54, o_il 3),
  (true, 55, o_iw),
  (true, 56, o_ic 0),
  (true, 57, o_is 4),
  (false, 59, o_mark 59 [2]),
  (true, 59, o_il 4),
  (true, 61, o_ic 60),
  (true, 63, o_cmp (fun x y => y ≤ x) 85),
  (true, 66, o_al 0),
  (true, 67, o_gf 6 38),
  (true, 70, o_ic 60),
  (true, 72, o_il 1),
  (true, 73, o_ii (fun x y => x * y)),
  (true, 74, o_il 4),
  (true, 76, o_ii (fun x y => x + y)),
  (true, 77, o_ic 0),
  (true, 78, o_iw),
  (true, 79, o_inc 4 1),
  (true, 82, o_gb 59 [2]),
  (true, 85, o_il 3),
  (true, 86, o_ir)]
set_option maxRecDepth 100000 in
set_option maxHeartbeats 4000000 in
theorem zk_X6_sheet (kc ks : Nat) : z_OK (zS RX6 cX6_sheet 5 "sheet" (some .int) 2 42 kc ks) zp_X6_sheet := by
  unfold zp_X6_sheet
  refine And.intro (s_iload_n dX6_sheet_0 rfl) ?_
  refine And.intro (s_callS zf_X6_isSheet zl_1010 zl_1009 ⟨rfl, rfl⟩ dX6_sheet_1) ?_
  refine And.intro (s_if_eq dX6_sheet_4 (by decide)) ?_
  refine And.intro (s_iload_n dX6_sheet_7 rfl) ?_
  refine And.intro (s_iconst dX6_sheet_8 (by decide)) ?_
  refine And.intro (s_iconst dX6_sheet_9 (by decide)) ?_
  refine And.intro (s_callS zf_X6_in zl_924 zl_923 ⟨rfl, rfl⟩ dX6_sheet_10) ?_
  refine And.intro (s_if_eq dX6_sheet_13 (by decide)) ?_
  refine And.intro (s_iload_n dX6_sheet_16 rfl) ?_
  refine And.intro (s_bipush dX6_sheet_17 (by decide)) ?_
  refine And.intro (s_icmp_le dX6_sheet_19 (by decide)) ?_
  refine And.intro (s_bipush dX6_sheet_22 (by decide)) ?_
  refine And.intro (s_ireturn rfl (fun _ => rfl) dX6_sheet_24) ?_
  refine And.intro (s_iload_n dX6_sheet_25 rfl) ?_
  refine And.intro (s_if_ge dX6_sheet_26 (by decide)) ?_
  refine And.intro (s_aload_n dX6_sheet_29 rfl) ?_
  refine And.intro (s_iconst dX6_sheet_30 (by decide)) ?_
  refine And.intro (s_callV (C := RX6) (T := TX6) (N := 41) rfl zf_X6_meets zg_X6_meets zl_1012 ⟨rfl, rfl⟩ dX6_sheet_31) ?_
  refine And.intro (s_ireturn rfl (fun _ => rfl) dX6_sheet_34) ?_
  refine And.intro (s_aload_n dX6_sheet_35 rfl) ?_
  refine And.intro (s_getf (C := RX6) (T := TX6) (N := 41) rfl zin_X6 (by decide) zl_826 dX6_sheet_36) ?_
  refine And.intro (s_iload_n dX6_sheet_39 rfl) ?_
  refine And.intro (s_iconst dX6_sheet_40 (by decide)) ?_
  refine And.intro (s_bastore dX6_sheet_41) ?_
  refine And.intro (s_aload_n dX6_sheet_42 rfl) ?_
  refine And.intro (s_getf (C := RX6) (T := TX6) (N := 41) rfl zin_X6 (by decide) zl_827 dX6_sheet_43) ?_
  refine And.intro (s_iload_n dX6_sheet_46 rfl) ?_
  refine And.intro (s_iload_n dX6_sheet_47 rfl) ?_
  refine And.intro (s_iastore dX6_sheet_48) ?_
  refine And.intro (s_aload_n dX6_sheet_49 rfl) ?_
  refine And.intro (s_getf (C := RX6) (T := TX6) (N := 41) rfl zin_X6 (by decide) zl_828 dX6_sheet_50) ?_
  refine And.intro (s_iload_n dX6_sheet_53 rfl) ?_
  refine And.intro (s_iload_n dX6_sheet_54 rfl) ?_
  refine And.intro (s_iastore dX6_sheet_55) ?_
  refine And.intro (s_iconst dX6_sheet_56 (by decide)) ?_
  refine And.intro (s_istore dX6_sheet_57) ?_
  refine And.intro (s_mark) ?_
  refine And.intro (s_iload dX6_sheet_59) ?_
  refine And.intro (s_bipush dX6_sheet_61 (by decide)) ?_
  refine And.intro (s_icmp_ge dX6_sheet_63 (by decide)) ?_
  refine And.intro (s_aload_n dX6_sheet_66 rfl) ?_
  refine And.intro (s_getf (C := RX6) (T := TX6) (N := 41) rfl zin_X6 (by decide) zl_829 dX6_sheet_67) ?_
  refine And.intro (s_bipush dX6_sheet_70 (by decide)) ?_
  refine And.intro (s_iload_n dX6_sheet_72 rfl) ?_
  refine And.intro (s_imul dX6_sheet_73) ?_
  refine And.intro (s_iload dX6_sheet_74) ?_
  refine And.intro (s_iadd dX6_sheet_76) ?_
  refine And.intro (s_iconst dX6_sheet_77 (by decide)) ?_
  refine And.intro (s_iastore dX6_sheet_78) ?_
  refine And.intro (s_iinc dX6_sheet_79 (by decide)) ?_
  refine And.intro (s_gotob dX6_sheet_82 (by decide)) ?_
  refine And.intro (s_iload_n dX6_sheet_85 rfl) ?_
  refine And.intro (s_ireturn rfl (fun _ => rfl) dX6_sheet_86) ?_
  exact trivial
def zp_X6_shut : List (Bool × Nat × zOp) := [
  (true, 0, o_al 0),
  (true, 1, o_il 1),
  (true, 2, o_cv zi_X6_isHouse 1 6),
  (true, 5, o_if (fun x => x = 0) 26),
  (true, 8, o_il 2),
  (true, 9, o_ic 0),
  (true, 10, o_ic 1),
  (true, 11, o_cs zi_X6_in 3),
  (true, 14, o_if (fun x => x = 0) 26),
  (true, 17, o_al 0),
  (true, 18, o_il 1),
  (true, 19, o_il 2),
  (true, 20, o_cv zi_X6_shutOf 2 6),
  (true, 23, o_go 28),
  (true, 26, o_ic (-2)),
  (true, 28, o_ir)]
set_option maxRecDepth 100000 in
set_option maxHeartbeats 4000000 in
theorem zk_X6_shut (kc ks : Nat) : z_OK (zS RX6 cX6_shut 3 "shut" (some .int) 8 182 kc ks) zp_X6_shut := by
  unfold zp_X6_shut
  refine And.intro (s_aload_n dX6_shut_0 rfl) ?_
  refine And.intro (s_iload_n dX6_shut_1 rfl) ?_
  refine And.intro (s_callV (C := RX6) (T := TX6) (N := 41) rfl zf_X6_isHouse zg_X6_isHouse zl_966 ⟨rfl, rfl⟩ dX6_shut_2) ?_
  refine And.intro (s_if_eq dX6_shut_5 (by decide)) ?_
  refine And.intro (s_iload_n dX6_shut_8 rfl) ?_
  refine And.intro (s_iconst dX6_shut_9 (by decide)) ?_
  refine And.intro (s_iconst dX6_shut_10 (by decide)) ?_
  refine And.intro (s_callS zf_X6_in zl_924 zl_923 ⟨rfl, rfl⟩ dX6_shut_11) ?_
  refine And.intro (s_if_eq dX6_shut_14 (by decide)) ?_
  refine And.intro (s_aload_n dX6_shut_17 rfl) ?_
  refine And.intro (s_iload_n dX6_shut_18 rfl) ?_
  refine And.intro (s_iload_n dX6_shut_19 rfl) ?_
  refine And.intro (s_callV (C := RX6) (T := TX6) (N := 41) rfl zf_X6_shutOf zg_X6_shutOf zl_1124 ⟨rfl, rfl⟩ dX6_shut_20) ?_
  refine And.intro (s_goto dX6_shut_23 (by decide)) ?_
  refine And.intro (s_bipush dX6_shut_26 (by decide)) ?_
  refine And.intro (s_ireturn rfl (fun _ => rfl) dX6_shut_28) ?_
  exact trivial
def zp_X6_starts : List (Bool × Nat × zOp) := [
  (true, 0, o_il 1),
  (true, 1, o_ic 0),
  (true, 2, o_ic 2),
  (true, 3, o_cs zi_X6_in 3),
  (true, 6, o_if (fun x => x = 0) 17),
  (true, 9, o_al 0),
  (true, 10, o_il 1),
  (true, 11, o_cv zi_X6_startsOf 1 6),
  (true, 14, o_go 19),
  (true, 17, o_ic (-2)),
  (true, 19, o_ir)]
set_option maxRecDepth 100000 in
set_option maxHeartbeats 4000000 in
theorem zk_X6_starts (kc ks : Nat) : z_OK (zS RX6 cX6_starts 2 "starts" (some .int) 8 182 kc ks) zp_X6_starts := by
  unfold zp_X6_starts
  refine And.intro (s_iload_n dX6_starts_0 rfl) ?_
  refine And.intro (s_iconst dX6_starts_1 (by decide)) ?_
  refine And.intro (s_iconst dX6_starts_2 (by decide)) ?_
  refine And.intro (s_callS zf_X6_in zl_924 zl_923 ⟨rfl, rfl⟩ dX6_starts_3) ?_
  refine And.intro (s_if_eq dX6_starts_6 (by decide)) ?_
  refine And.intro (s_aload_n dX6_starts_9 rfl) ?_
  refine And.intro (s_iload_n dX6_starts_10 rfl) ?_
  refine And.intro (s_callV (C := RX6) (T := TX6) (N := 41) rfl zf_X6_startsOf zg_X6_startsOf zl_1176 ⟨rfl, rfl⟩ dX6_starts_11) ?_
  refine And.intro (s_goto dX6_starts_14 (by decide)) ?_
  refine And.intro (s_bipush dX6_starts_17 (by decide)) ?_
  refine And.intro (s_ireturn rfl (fun _ => rfl) dX6_starts_19) ?_
  exact trivial
def zp_X6_type : List (Bool × Nat × zOp) := [
  (true, 0, o_il 1),
  (true, 1, o_cs zi_X6_isText 1),
  (true, 4, o_if (fun x => x = 0) 18),
  (true, 7, o_il 2),
  (true, 8, o_ic 0),
  (true, 9, o_ic 255),
  (true, 12, o_cs zi_X6_in 3),
  (true, 15, o_in (fun x => x = 0) 21),
  (true, 18, o_ic (-2)),
  (true, 20, o_ir),
  (true, 21, o_al 0),
  (true, 22, o_gf 6 0),
  (true, 25, o_il 1),
  (true, 26, o_ia),
  (true, 27, o_il 1),
  (true, 28, o_in (fun x => x = 0) 36),
  (true, 31, o_ic 55),
  (true, 33, o_go 38),
  (true, 36, o_ic 40),
  (true, 38, o_cn (fun x y => x = y) 44),
  (true, 41, o_ic (-4)),
  (true, 43, o_ir),
  (true, 44, o_al 0),
  (true, 45, o_gf 6 1),
  (true, 48, o_ic 55),
  (true, 50, o_il 1),
  (true, 51, o_ii (fun x y => x * y)),
  (true, 52, o_al 0),
  (true, 53, o_gf 6 0),
  (true, 56, o_il 1),
  (true, 57, o_ia),
  (true, 58, o_ii (fun x y => x + y)),
  (true, 59, o_il 2),
  (true, 60, o_iw),
  (true, 61, o_al 0),
  (true, 62, o_gf 6 0),
  (true, 65, o_il 1),
  (true, 66, o_dup2),
  (true, 67, o_ia),
  (true, 68, o_ic 1),
  (true, 69, o_ii (fun x y => x + y)),
  (true, 70, o_iw),
  (true, 71, o_al 0),
  (true, 72, o_gf 6 0),
  (true, 75, o_il 1),
  (true, 76, o_ia),
  (true, 77, o_ir)]
set_option maxRecDepth 100000 in
set_option maxHeartbeats 4000000 in
theorem zk_X6_type (kc ks : Nat) : z_OK (zS RX6 cX6_type 3 "type" (some .int) 2 42 kc ks) zp_X6_type := by
  unfold zp_X6_type
  refine And.intro (s_iload_n dX6_type_0 rfl) ?_
  refine And.intro (s_callS zf_X6_isText zl_921 zl_920 ⟨rfl, rfl⟩ dX6_type_1) ?_
  refine And.intro (s_if_eq dX6_type_4 (by decide)) ?_
  refine And.intro (s_iload_n dX6_type_7 rfl) ?_
  refine And.intro (s_iconst dX6_type_8 (by decide)) ?_
  refine And.intro (s_sipush dX6_type_9 (by decide)) ?_
  refine And.intro (s_callS zf_X6_in zl_924 zl_923 ⟨rfl, rfl⟩ dX6_type_12) ?_
  refine And.intro (s_if_ne dX6_type_15 (by decide)) ?_
  refine And.intro (s_bipush dX6_type_18 (by decide)) ?_
  refine And.intro (s_ireturn rfl (fun _ => rfl) dX6_type_20) ?_
  refine And.intro (s_aload_n dX6_type_21 rfl) ?_
  refine And.intro (s_getf (C := RX6) (T := TX6) (N := 41) rfl zin_X6 (by decide) zl_791 dX6_type_22) ?_
  refine And.intro (s_iload_n dX6_type_25 rfl) ?_
  refine And.intro (s_iaload dX6_type_26) ?_
  refine And.intro (s_iload_n dX6_type_27 rfl) ?_
  refine And.intro (s_if_ne dX6_type_28 (by decide)) ?_
  refine And.intro (s_bipush dX6_type_31 (by decide)) ?_
  refine And.intro (s_goto dX6_type_33 (by decide)) ?_
  refine And.intro (s_bipush dX6_type_36 (by decide)) ?_
  refine And.intro (s_icmp_ne dX6_type_38 (by decide)) ?_
  refine And.intro (s_bipush dX6_type_41 (by decide)) ?_
  refine And.intro (s_ireturn rfl (fun _ => rfl) dX6_type_43) ?_
  refine And.intro (s_aload_n dX6_type_44 rfl) ?_
  refine And.intro (s_getf (C := RX6) (T := TX6) (N := 41) rfl zin_X6 (by decide) zl_792 dX6_type_45) ?_
  refine And.intro (s_bipush dX6_type_48 (by decide)) ?_
  refine And.intro (s_iload_n dX6_type_50 rfl) ?_
  refine And.intro (s_imul dX6_type_51) ?_
  refine And.intro (s_aload_n dX6_type_52 rfl) ?_
  refine And.intro (s_getf (C := RX6) (T := TX6) (N := 41) rfl zin_X6 (by decide) zl_791 dX6_type_53) ?_
  refine And.intro (s_iload_n dX6_type_56 rfl) ?_
  refine And.intro (s_iaload dX6_type_57) ?_
  refine And.intro (s_iadd dX6_type_58) ?_
  refine And.intro (s_iload_n dX6_type_59 rfl) ?_
  refine And.intro (s_iastore dX6_type_60) ?_
  refine And.intro (s_aload_n dX6_type_61 rfl) ?_
  refine And.intro (s_getf (C := RX6) (T := TX6) (N := 41) rfl zin_X6 (by decide) zl_791 dX6_type_62) ?_
  refine And.intro (s_iload_n dX6_type_65 rfl) ?_
  refine And.intro (s_dup2 dX6_type_66) ?_
  refine And.intro (s_iaload dX6_type_67) ?_
  refine And.intro (s_iconst dX6_type_68 (by decide)) ?_
  refine And.intro (s_iadd dX6_type_69) ?_
  refine And.intro (s_iastore dX6_type_70) ?_
  refine And.intro (s_aload_n dX6_type_71 rfl) ?_
  refine And.intro (s_getf (C := RX6) (T := TX6) (N := 41) rfl zin_X6 (by decide) zl_791 dX6_type_72) ?_
  refine And.intro (s_iload_n dX6_type_75 rfl) ?_
  refine And.intro (s_iaload dX6_type_76) ?_
  refine And.intro (s_ireturn rfl (fun _ => rfl) dX6_type_77) ?_
  exact trivial
def zp_X6_undo : List (Bool × Nat × zOp) := [
  (true, 0, o_il 1),
  (true, 1, o_cs zi_X6_isText 1),
  (true, 4, o_in (fun x => x = 0) 10),
  (true, 7, o_ic (-2)),
  (true, 9, o_ir),
  (true, 10, o_al 0),
  (true, 11, o_gf 6 0),
  (true, 14, o_il 1),
  (true, 15, o_ia),
  (true, 16, o_in (fun x => x = 0) 22),
  (true, 19, o_ic (-3)),
  (true, 21, o_ir),
  (true, 22, o_al 0),
  (true, 23, o_gf 6 0),
  (true, 26, o_il 1),
  (true, 27, o_dup2),
  (true, 28, o_ia),
  (true, 29, o_ic 1),
  (true, 30, o_ii (fun x y => x - y)),
  (true, 31, o_iw),
  (true, 32, o_al 0),
  (true, 33, o_gf 6 0),
  (true, 36, o_il 1),
  (true, 37, o_ia),
  (true, 38, o_ir)]
set_option maxRecDepth 100000 in
set_option maxHeartbeats 4000000 in
theorem zk_X6_undo (kc ks : Nat) : z_OK (zS RX6 cX6_undo 2 "undo" (some .int) 2 42 kc ks) zp_X6_undo := by
  unfold zp_X6_undo
  refine And.intro (s_iload_n dX6_undo_0 rfl) ?_
  refine And.intro (s_callS zf_X6_isText zl_921 zl_920 ⟨rfl, rfl⟩ dX6_undo_1) ?_
  refine And.intro (s_if_ne dX6_undo_4 (by decide)) ?_
  refine And.intro (s_bipush dX6_undo_7 (by decide)) ?_
  refine And.intro (s_ireturn rfl (fun _ => rfl) dX6_undo_9) ?_
  refine And.intro (s_aload_n dX6_undo_10 rfl) ?_
  refine And.intro (s_getf (C := RX6) (T := TX6) (N := 41) rfl zin_X6 (by decide) zl_791 dX6_undo_11) ?_
  refine And.intro (s_iload_n dX6_undo_14 rfl) ?_
  refine And.intro (s_iaload dX6_undo_15) ?_
  refine And.intro (s_if_ne dX6_undo_16 (by decide)) ?_
  refine And.intro (s_bipush dX6_undo_19 (by decide)) ?_
  refine And.intro (s_ireturn rfl (fun _ => rfl) dX6_undo_21) ?_
  refine And.intro (s_aload_n dX6_undo_22 rfl) ?_
  refine And.intro (s_getf (C := RX6) (T := TX6) (N := 41) rfl zin_X6 (by decide) zl_791 dX6_undo_23) ?_
  refine And.intro (s_iload_n dX6_undo_26 rfl) ?_
  refine And.intro (s_dup2 dX6_undo_27) ?_
  refine And.intro (s_iaload dX6_undo_28) ?_
  refine And.intro (s_iconst dX6_undo_29 (by decide)) ?_
  refine And.intro (s_isub dX6_undo_30) ?_
  refine And.intro (s_iastore dX6_undo_31) ?_
  refine And.intro (s_aload_n dX6_undo_32 rfl) ?_
  refine And.intro (s_getf (C := RX6) (T := TX6) (N := 41) rfl zin_X6 (by decide) zl_791 dX6_undo_33) ?_
  refine And.intro (s_iload_n dX6_undo_36 rfl) ?_
  refine And.intro (s_iaload dX6_undo_37) ?_
  refine And.intro (s_ireturn rfl (fun _ => rfl) dX6_undo_38) ?_
  exact trivial
def zp_X6_was : List (Bool × Nat × zOp) := [
  (true, 0, o_al 0),
  (true, 1, o_il 1),
  (true, 2, o_cv zi_X6_isHouse 1 6),
  (true, 5, o_if (fun x => x = 0) 16),
  (true, 8, o_al 0),
  (true, 9, o_il 1),
  (true, 10, o_cv zi_X6_wasOf 1 6),
  (true, 13, o_go 18),
  (true, 16, o_ic (-2)),
  (true, 18, o_ir)]
set_option maxRecDepth 100000 in
set_option maxHeartbeats 4000000 in
theorem zk_X6_was (kc ks : Nat) : z_OK (zS RX6 cX6_was 2 "was" (some .int) 8 181 kc ks) zp_X6_was := by
  unfold zp_X6_was
  refine And.intro (s_aload_n dX6_was_0 rfl) ?_
  refine And.intro (s_iload_n dX6_was_1 rfl) ?_
  refine And.intro (s_callV (C := RX6) (T := TX6) (N := 41) rfl zf_X6_isHouse zg_X6_isHouse zl_966 ⟨rfl, rfl⟩ dX6_was_2) ?_
  refine And.intro (s_if_eq dX6_was_5 (by decide)) ?_
  refine And.intro (s_aload_n dX6_was_8 rfl) ?_
  refine And.intro (s_iload_n dX6_was_9 rfl) ?_
  refine And.intro (s_callV (C := RX6) (T := TX6) (N := 41) rfl zf_X6_wasOf zg_X6_wasOf zl_1168 ⟨rfl, rfl⟩ dX6_was_10) ?_
  refine And.intro (s_goto dX6_was_13 (by decide)) ?_
  refine And.intro (s_bipush dX6_was_16 (by decide)) ?_
  refine And.intro (s_ireturn rfl (fun _ => rfl) dX6_was_18) ?_
  exact trivial
def zp_X6_well : List (Bool × Nat × zOp) := [
  (true, 0, o_al 0),
  (true, 1, o_cv zi_X6_wellOf 0 6),
  (true, 4, o_ir)]
set_option maxRecDepth 100000 in
set_option maxHeartbeats 4000000 in
theorem zk_X6_well (kc ks : Nat) : z_OK (zS RX6 cX6_well 1 "well" (some .int) 9 198 kc ks) zp_X6_well := by
  unfold zp_X6_well
  refine And.intro (s_aload_n dX6_well_0 rfl) ?_
  refine And.intro (s_callV (C := RX6) (T := TX6) (N := 41) rfl zf_X6_wellOf zg_X6_wellOf zl_1104 ⟨rfl, rfl⟩ dX6_well_1) ?_
  refine And.intro (s_ireturn rfl (fun _ => rfl) dX6_well_4) ?_
  exact trivial
def zp_X6_wipe : List (Bool × Nat × zOp) := [
  (true, 0, o_il 1),
  (true, 1, o_cs zi_X6_isText 1),
  (true, 4, o_in (fun x => x = 0) 10),
  (true, 7, o_ic (-2)),
  (true, 9, o_ir),
  (true, 10, o_al 0),
  (true, 11, o_gf 6 0),
  (true, 14, o_il 1),
  (true, 15, o_ia),
  (true, 16, o_is 2),
  (true, 17, o_al 0),
  (true, 18, o_gf 6 0),
  (true, 21, o_il 1),
  (true, 22, o_ic 0),
  (true, 23, o_iw),
  (true, 24, o_il 2),
  (true, 25, o_ir)]
set_option maxRecDepth 100000 in
set_option maxHeartbeats 4000000 in
theorem zk_X6_wipe (kc ks : Nat) : z_OK (zS RX6 cX6_wipe 3 "wipe" (some .int) 2 42 kc ks) zp_X6_wipe := by
  unfold zp_X6_wipe
  refine And.intro (s_iload_n dX6_wipe_0 rfl) ?_
  refine And.intro (s_callS zf_X6_isText zl_921 zl_920 ⟨rfl, rfl⟩ dX6_wipe_1) ?_
  refine And.intro (s_if_ne dX6_wipe_4 (by decide)) ?_
  refine And.intro (s_bipush dX6_wipe_7 (by decide)) ?_
  refine And.intro (s_ireturn rfl (fun _ => rfl) dX6_wipe_9) ?_
  refine And.intro (s_aload_n dX6_wipe_10 rfl) ?_
  refine And.intro (s_getf (C := RX6) (T := TX6) (N := 41) rfl zin_X6 (by decide) zl_791 dX6_wipe_11) ?_
  refine And.intro (s_iload_n dX6_wipe_14 rfl) ?_
  refine And.intro (s_iaload dX6_wipe_15) ?_
  refine And.intro (s_istore_n dX6_wipe_16 rfl) ?_
  refine And.intro (s_aload_n dX6_wipe_17 rfl) ?_
  refine And.intro (s_getf (C := RX6) (T := TX6) (N := 41) rfl zin_X6 (by decide) zl_791 dX6_wipe_18) ?_
  refine And.intro (s_iload_n dX6_wipe_21 rfl) ?_
  refine And.intro (s_iconst dX6_wipe_22 (by decide)) ?_
  refine And.intro (s_iastore dX6_wipe_23) ?_
  refine And.intro (s_iload_n dX6_wipe_24 rfl) ?_
  refine And.intro (s_ireturn rfl (fun _ => rfl) dX6_wipe_25) ?_
  exact trivial
def zp_X6_write : List (Bool × Nat × zOp) := [
  (true, 0, o_al 0),
  (true, 1, o_il 1),
  (true, 2, o_cv zi_X6_isHouse 1 6),
  (true, 5, o_if (fun x => x = 0) 15),
  (true, 8, o_il 2),
  (true, 9, o_cs zi_X6_isSheet 1),
  (true, 12, o_in (fun x => x = 0) 18),
  (true, 15, o_ic (-2)),
  (true, 17, o_ir),
  (true, 18, o_al 0),
  (true, 19, o_gf 6 35),
  (true, 22, o_il 2),
  (true, 23, o_ba),
  (true, 24, o_in (fun x => x = 0) 33),
  (true, 27, o_al 0),
  (true, 28, o_ic 1),
  (true, 29, o_cv zi_X6_meets 1 6),
  (true, 32, o_ir),
  (true, 33, o_al 0),
  (true, 34, o_cv zi_X6_runsTold 0 6),
  (true, 37, o_ic 0),
  (true, 38, o_is 3),
  (false, 39, o_mark 39 []),
  (true, 39, o_il 3),
  (true, 40, o_al 0),
  (true, 41, o_gf 6 37),
  (true, 44, o_il 2),
  (true, 45, o_ia),
  (true, 46, o_cmp (fun x y => y ≤ x) 78),
  (true, 49, o_il 3),
  (true, 50, o_ic 40),
  (true, 52, o_cmp (fun x y => y ≤ x) 78),
  (true, 55, o_al 0),
  (true, 56, o_il 2),
  (true, 57, o_il 3),
  (true, 58, o_al 0),
  (true, 59, o_gf 6 29),
  (true, 62, o_ic 8),
  (true, 64, o_il 3),
  (true, 65, o_ii (fun x y => x * y)),
  (true, 66, o_il 1),
  (true, 67, o_ii (fun x y => x + y)),
  (true, 68, o_ia),
  (true, 69, o_cv zi_X6_keep 3 6),
  (true, 72, o_inc 3 1),
  (true, 75, o_gb 39 []),
  (true, 78, o_il 3),
  (true, 79, o_ir)]
set_option maxRecDepth 100000 in
set_option maxHeartbeats 4000000 in
theorem zk_X6_write (kc ks : Nat) : z_OK (zS RX6 cX6_write 4 "write" (some .int) 8 176 kc ks) zp_X6_write := by
  unfold zp_X6_write
  refine And.intro (s_aload_n dX6_write_0 rfl) ?_
  refine And.intro (s_iload_n dX6_write_1 rfl) ?_
  refine And.intro (s_callV (C := RX6) (T := TX6) (N := 41) rfl zf_X6_isHouse zg_X6_isHouse zl_966 ⟨rfl, rfl⟩ dX6_write_2) ?_
  refine And.intro (s_if_eq dX6_write_5 (by decide)) ?_
  refine And.intro (s_iload_n dX6_write_8 rfl) ?_
  refine And.intro (s_callS zf_X6_isSheet zl_1010 zl_1009 ⟨rfl, rfl⟩ dX6_write_9) ?_
  refine And.intro (s_if_ne dX6_write_12 (by decide)) ?_
  refine And.intro (s_bipush dX6_write_15 (by decide)) ?_
  refine And.intro (s_ireturn rfl (fun _ => rfl) dX6_write_17) ?_
  refine And.intro (s_aload_n dX6_write_18 rfl) ?_
  refine And.intro (s_getf (C := RX6) (T := TX6) (N := 41) rfl zin_X6 (by decide) zl_826 dX6_write_19) ?_
  refine And.intro (s_iload_n dX6_write_22 rfl) ?_
  refine And.intro (s_baload dX6_write_23) ?_
  refine And.intro (s_if_ne dX6_write_24 (by decide)) ?_
  refine And.intro (s_aload_n dX6_write_27 rfl) ?_
  refine And.intro (s_iconst dX6_write_28 (by decide)) ?_
  refine And.intro (s_callV (C := RX6) (T := TX6) (N := 41) rfl zf_X6_meets zg_X6_meets zl_1012 ⟨rfl, rfl⟩ dX6_write_29) ?_
  refine And.intro (s_ireturn rfl (fun _ => rfl) dX6_write_32) ?_
  refine And.intro (s_aload_n dX6_write_33 rfl) ?_
  refine And.intro (s_callV (C := RX6) (T := TX6) (N := 41) rfl zf_X6_runsTold zg_X6_runsTold zl_1025 ⟨rfl, rfl⟩ dX6_write_34) ?_
  refine And.intro (s_iconst dX6_write_37 (by decide)) ?_
  refine And.intro (s_istore_n dX6_write_38 rfl) ?_
  refine And.intro (s_mark) ?_
  refine And.intro (s_iload_n dX6_write_39 rfl) ?_
  refine And.intro (s_aload_n dX6_write_40 rfl) ?_
  refine And.intro (s_getf (C := RX6) (T := TX6) (N := 41) rfl zin_X6 (by decide) zl_828 dX6_write_41) ?_
  refine And.intro (s_iload_n dX6_write_44 rfl) ?_
  refine And.intro (s_iaload dX6_write_45) ?_
  refine And.intro (s_icmp_ge dX6_write_46 (by decide)) ?_
  refine And.intro (s_iload_n dX6_write_49 rfl) ?_
  refine And.intro (s_bipush dX6_write_50 (by decide)) ?_
  refine And.intro (s_icmp_ge dX6_write_52 (by decide)) ?_
  refine And.intro (s_aload_n dX6_write_55 rfl) ?_
  refine And.intro (s_iload_n dX6_write_56 rfl) ?_
  refine And.intro (s_iload_n dX6_write_57 rfl) ?_
  refine And.intro (s_aload_n dX6_write_58 rfl) ?_
  refine And.intro (s_getf (C := RX6) (T := TX6) (N := 41) rfl zin_X6 (by decide) zl_820 dX6_write_59) ?_
  refine And.intro (s_bipush dX6_write_62 (by decide)) ?_
  refine And.intro (s_iload_n dX6_write_64 rfl) ?_
  refine And.intro (s_imul dX6_write_65) ?_
  refine And.intro (s_iload_n dX6_write_66 rfl) ?_
  refine And.intro (s_iadd dX6_write_67) ?_
  refine And.intro (s_iaload dX6_write_68) ?_
  refine And.intro (s_callV (C := RX6) (T := TX6) (N := 41) rfl zf_X6_keep zg_X6_keep zl_1228 ⟨rfl, rfl⟩ dX6_write_69) ?_
  refine And.intro (s_iinc dX6_write_72 (by decide)) ?_
  refine And.intro (s_gotob dX6_write_75 (by decide)) ?_
  refine And.intro (s_iload_n dX6_write_78 rfl) ?_
  refine And.intro (s_ireturn rfl (fun _ => rfl) dX6_write_79) ?_
  exact trivial
def zp_X6_year : List (Bool × Nat × zOp) := [
  (true, 0, o_il 2),
  (true, 1, o_ic 0),
  (true, 2, o_ic 40),
  (true, 4, o_cs zi_X6_in 3),
  (true, 7, o_if (fun x => x = 0) 29),
  (true, 10, o_il 3),
  (true, 11, o_ic 0),
  (true, 12, o_ic 1),
  (true, 13, o_cs zi_X6_in 3),
  (true, 16, o_if (fun x => x = 0) 29),
  (true, 19, o_al 0),
  (true, 20, o_il 1),
  (true, 21, o_il 2),
  (true, 22, o_il 3),
  (true, 23, o_cv zi_X6_yearOf 3 6),
  (true, 26, o_go 31),
  (true, 29, o_ic (-2)),
  (true, 31, o_ir)]
set_option maxRecDepth 100000 in
set_option maxHeartbeats 4000000 in
theorem zk_X6_year (kc ks : Nat) : z_OK (zS RX6 cX6_year 4 "year" (some .int) 8 181 kc ks) zp_X6_year := by
  unfold zp_X6_year
  refine And.intro (s_iload_n dX6_year_0 rfl) ?_
  refine And.intro (s_iconst dX6_year_1 (by decide)) ?_
  refine And.intro (s_bipush dX6_year_2 (by decide)) ?_
  refine And.intro (s_callS zf_X6_in zl_924 zl_923 ⟨rfl, rfl⟩ dX6_year_4) ?_
  refine And.intro (s_if_eq dX6_year_7 (by decide)) ?_
  refine And.intro (s_iload_n dX6_year_10 rfl) ?_
  refine And.intro (s_iconst dX6_year_11 (by decide)) ?_
  refine And.intro (s_iconst dX6_year_12 (by decide)) ?_
  refine And.intro (s_callS zf_X6_in zl_924 zl_923 ⟨rfl, rfl⟩ dX6_year_13) ?_
  refine And.intro (s_if_eq dX6_year_16 (by decide)) ?_
  refine And.intro (s_aload_n dX6_year_19 rfl) ?_
  refine And.intro (s_iload_n dX6_year_20 rfl) ?_
  refine And.intro (s_iload_n dX6_year_21 rfl) ?_
  refine And.intro (s_iload_n dX6_year_22 rfl) ?_
  refine And.intro (s_callV (C := RX6) (T := TX6) (N := 41) rfl zf_X6_yearOf zg_X6_yearOf zl_1207 ⟨rfl, rfl⟩ dX6_year_23) ?_
  refine And.intro (s_goto dX6_year_26 (by decide)) ?_
  refine And.intro (s_bipush dX6_year_29 (by decide)) ?_
  refine And.intro (s_ireturn rfl (fun _ => rfl) dX6_year_31) ?_
  exact trivial
