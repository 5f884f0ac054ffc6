/-! the abstract machine runs as the functions say, by wip/whole/gen_fun.py -/
theorem q90_0 : z_fi (z_mi 90) 0 = some (0, .iload_n 1, 0, 0, 0, 0, 0) := rfl
theorem q90_1 : z_fi (z_mi 90) 1 = some (1, .ifCond .eq 14, 0, 15, 0, 0, 0) := rfl
theorem q90_4 : z_fi (z_mi 90) 4 = some (4, .iload_n 1, 0, 0, 0, 0, 0) := rfl
theorem q90_5 : z_fi (z_mi 90) 5 = some (5, .bipush 7, 0, 0, 0, 7, 0) := rfl
theorem q90_7 : z_fi (z_mi 90) 7 = some (7, .if_icmp .eq 8, 0, 15, 0, 0, 0) := rfl
theorem q90_10 : z_fi (z_mi 90) 10 = some (10, .iload_n 1, 0, 0, 0, 0, 0) := rfl
theorem q90_11 : z_fi (z_mi 90) 11 = some (11, .iconst 5, 0, 0, 0, 5, 0) := rfl
theorem q90_12 : z_fi (z_mi 90) 12 = some (12, .if_icmp .ne 7, 0, 19, 0, 0, 0) := rfl
theorem q90_15 : z_fi (z_mi 90) 15 = some (15, .iconst 0, 0, 0, 0, 0, 0) := rfl
theorem q90_16 : z_fi (z_mi 90) 16 = some (16, .goto 9, 0, 25, 0, 0, 0) := rfl
theorem q90_19 : z_fi (z_mi 90) 19 = some (19, .aload_n 0, 0, 0, 0, 0, 0) := rfl
theorem q90_20 : z_fi (z_mi 90) 20 = some (20, .getfield 15, 0, 7, 4, 0, 0) := rfl
theorem q90_23 : z_fi (z_mi 90) 23 = some (23, .iconst 0, 0, 0, 0, 0, 0) := rfl
theorem q90_24 : z_fi (z_mi 90) 24 = some (24, .iaload, 0, 0, 0, 0, 0) := rfl
theorem q90_25 : z_fi (z_mi 90) 25 = some (25, .istore_n 2, 0, 0, 0, 0, 0) := rfl
theorem q90_26 : z_fi (z_mi 90) 26 = some (26, .iload_n 1, 0, 0, 0, 0, 0) := rfl
theorem q90_27 : z_fi (z_mi 90) 27 = some (27, .iconst 0, 0, 0, 0, 0, 0) := rfl
theorem q90_28 : z_fi (z_mi 90) 28 = some (28, .bipush 7, 0, 0, 0, 7, 0) := rfl
theorem q90_30 : z_fi (z_mi 90) 30 = some (30, .invokestatic 141, 4, 99, 3, 0, 0) := rfl
theorem q90_33 : z_fi (z_mi 90) 33 = some (33, .ifCond .eq 15, 0, 48, 0, 0, 0) := rfl
theorem q90_36 : z_fi (z_mi 90) 36 = some (36, .aload_n 0, 0, 0, 0, 0, 0) := rfl
theorem q90_37 : z_fi (z_mi 90) 37 = some (37, .getfield 11, 0, 7, 3, 0, 0) := rfl
theorem q90_40 : z_fi (z_mi 90) 40 = some (40, .iload_n 1, 0, 0, 0, 0, 0) := rfl
theorem q90_41 : z_fi (z_mi 90) 41 = some (41, .dup2, 0, 0, 0, 0, 0) := rfl
theorem q90_42 : z_fi (z_mi 90) 42 = some (42, .iaload, 0, 0, 0, 0, 0) := rfl
theorem q90_43 : z_fi (z_mi 90) 43 = some (43, .iconst 1, 0, 0, 0, 1, 0) := rfl
theorem q90_44 : z_fi (z_mi 90) 44 = some (44, .iload_n 2, 0, 0, 0, 0, 0) := rfl
theorem q90_45 : z_fi (z_mi 90) 45 = some (45, .ishl, 0, 0, 0, 0, 0) := rfl
theorem q90_46 : z_fi (z_mi 90) 46 = some (46, .ior, 0, 0, 0, 0, 0) := rfl
theorem q90_47 : z_fi (z_mi 90) 47 = some (47, .iastore, 0, 0, 0, 0, 0) := rfl
theorem q90_48 : z_fi (z_mi 90) 48 = some (48, .iload_n 1, 0, 0, 0, 0, 0) := rfl
theorem q90_49 : z_fi (z_mi 90) 49 = some (49, .tableswitch 198 0 6 #[43, 72, 95, 112, 129, 141, 172], 43, 0, 0, 0, 0) := rfl
theorem q90_92 : z_fi (z_mi 90) 92 = some (92, .aload_n 0, 0, 0, 0, 0, 0) := rfl
theorem q90_93 : z_fi (z_mi 90) 93 = some (93, .getfield 22, 0, 7, 2, 0, 0) := rfl
theorem q90_96 : z_fi (z_mi 90) 96 = some (96, .aload_n 0, 0, 0, 0, 0, 0) := rfl
theorem q90_97 : z_fi (z_mi 90) 97 = some (97, .getfield 15, 0, 7, 4, 0, 0) := rfl
theorem q90_100 : z_fi (z_mi 90) 100 = some (100, .iconst 0, 0, 0, 0, 0, 0) := rfl
theorem q90_101 : z_fi (z_mi 90) 101 = some (101, .iaload, 0, 0, 0, 0, 0) := rfl
theorem q90_102 : z_fi (z_mi 90) 102 = some (102, .putfield 173, 0, 0, 0, 0, 0) := rfl
theorem q90_105 : z_fi (z_mi 90) 105 = some (105, .aload_n 0, 0, 0, 0, 0, 0) := rfl
theorem q90_106 : z_fi (z_mi 90) 106 = some (106, .getfield 22, 0, 7, 2, 0, 0) := rfl
theorem q90_109 : z_fi (z_mi 90) 109 = some (109, .aload_n 0, 0, 0, 0, 0, 0) := rfl
theorem q90_110 : z_fi (z_mi 90) 110 = some (110, .getfield 15, 0, 7, 4, 0, 0) := rfl
theorem q90_113 : z_fi (z_mi 90) 113 = some (113, .iconst 1, 0, 0, 0, 1, 0) := rfl
theorem q90_114 : z_fi (z_mi 90) 114 = some (114, .iaload, 0, 0, 0, 0, 0) := rfl
theorem q90_115 : z_fi (z_mi 90) 115 = some (115, .putfield 176, 0, 0, 1, 0, 0) := rfl
theorem q90_118 : z_fi (z_mi 90) 118 = some (118, .goto 145, 0, 263, 0, 0, 0) := rfl
theorem q90_121 : z_fi (z_mi 90) 121 = some (121, .aload_n 0, 0, 0, 0, 0, 0) := rfl
theorem q90_122 : z_fi (z_mi 90) 122 = some (122, .getfield 22, 0, 7, 2, 0, 0) := rfl
theorem q90_125 : z_fi (z_mi 90) 125 = some (125, .iload_n 2, 0, 0, 0, 0, 0) := rfl
theorem q90_126 : z_fi (z_mi 90) 126 = some (126, .aload_n 0, 0, 0, 0, 0, 0) := rfl
theorem q90_127 : z_fi (z_mi 90) 127 = some (127, .getfield 15, 0, 7, 4, 0, 0) := rfl
theorem q90_130 : z_fi (z_mi 90) 130 = some (130, .iconst 1, 0, 0, 0, 1, 0) := rfl
theorem q90_131 : z_fi (z_mi 90) 131 = some (131, .iaload, 0, 0, 0, 0, 0) := rfl
theorem q90_132 : z_fi (z_mi 90) 132 = some (132, .aload_n 0, 0, 0, 0, 0, 0) := rfl
theorem q90_133 : z_fi (z_mi 90) 133 = some (133, .getfield 15, 0, 7, 4, 0, 0) := rfl
theorem q90_136 : z_fi (z_mi 90) 136 = some (136, .iconst 2, 0, 0, 0, 2, 0) := rfl
theorem q90_137 : z_fi (z_mi 90) 137 = some (137, .iaload, 0, 0, 0, 0, 0) := rfl
theorem q90_138 : z_fi (z_mi 90) 138 = some (138, .invokevirtual 179, 0, 14, 3, 0, 0) := rfl
theorem q90_141 : z_fi (z_mi 90) 141 = some (141, .goto 122, 0, 263, 0, 0, 0) := rfl
theorem q90_144 : z_fi (z_mi 90) 144 = some (144, .aload_n 0, 0, 0, 0, 0, 0) := rfl
set_option maxRecDepth 8000 in
theorem q90_145 : z_fi (z_mi 90) 145 = some (145, .getfield 22, 0, 7, 2, 0, 0) := rfl
set_option maxRecDepth 8000 in
theorem q90_148 : z_fi (z_mi 90) 148 = some (148, .iload_n 2, 0, 0, 0, 0, 0) := rfl
set_option maxRecDepth 8000 in
theorem q90_149 : z_fi (z_mi 90) 149 = some (149, .aload_n 0, 0, 0, 0, 0, 0) := rfl
set_option maxRecDepth 8000 in
theorem q90_150 : z_fi (z_mi 90) 150 = some (150, .getfield 15, 0, 7, 4, 0, 0) := rfl
set_option maxRecDepth 8000 in
theorem q90_153 : z_fi (z_mi 90) 153 = some (153, .iconst 1, 0, 0, 0, 1, 0) := rfl
set_option maxRecDepth 8000 in
theorem q90_154 : z_fi (z_mi 90) 154 = some (154, .iaload, 0, 0, 0, 0, 0) := rfl
set_option maxRecDepth 8000 in
theorem q90_155 : z_fi (z_mi 90) 155 = some (155, .invokevirtual 183, 0, 16, 2, 0, 0) := rfl
set_option maxRecDepth 8000 in
theorem q90_158 : z_fi (z_mi 90) 158 = some (158, .goto 105, 0, 263, 0, 0, 0) := rfl
set_option maxRecDepth 8000 in
theorem q90_161 : z_fi (z_mi 90) 161 = some (161, .aload_n 0, 0, 0, 0, 0, 0) := rfl
set_option maxRecDepth 8000 in
theorem q90_162 : z_fi (z_mi 90) 162 = some (162, .getfield 22, 0, 7, 2, 0, 0) := rfl
set_option maxRecDepth 8000 in
theorem q90_165 : z_fi (z_mi 90) 165 = some (165, .iload_n 2, 0, 0, 0, 0, 0) := rfl
set_option maxRecDepth 8000 in
theorem q90_166 : z_fi (z_mi 90) 166 = some (166, .aload_n 0, 0, 0, 0, 0, 0) := rfl
set_option maxRecDepth 8000 in
theorem q90_167 : z_fi (z_mi 90) 167 = some (167, .getfield 15, 0, 7, 4, 0, 0) := rfl
set_option maxRecDepth 8000 in
theorem q90_170 : z_fi (z_mi 90) 170 = some (170, .iconst 1, 0, 0, 0, 1, 0) := rfl
set_option maxRecDepth 8000 in
theorem q90_171 : z_fi (z_mi 90) 171 = some (171, .iaload, 0, 0, 0, 0, 0) := rfl
set_option maxRecDepth 8000 in
theorem q90_172 : z_fi (z_mi 90) 172 = some (172, .invokevirtual 186, 0, 17, 2, 0, 0) := rfl
set_option maxRecDepth 8000 in
theorem q90_175 : z_fi (z_mi 90) 175 = some (175, .goto 88, 0, 263, 0, 0, 0) := rfl
set_option maxRecDepth 8000 in
theorem q90_178 : z_fi (z_mi 90) 178 = some (178, .aload_n 0, 0, 0, 0, 0, 0) := rfl
set_option maxRecDepth 8000 in
theorem q90_179 : z_fi (z_mi 90) 179 = some (179, .getfield 22, 0, 7, 2, 0, 0) := rfl
set_option maxRecDepth 8000 in
theorem q90_182 : z_fi (z_mi 90) 182 = some (182, .iload_n 2, 0, 0, 0, 0, 0) := rfl
set_option maxRecDepth 8000 in
theorem q90_183 : z_fi (z_mi 90) 183 = some (183, .iconst 1, 0, 0, 0, 1, 0) := rfl
set_option maxRecDepth 8000 in
theorem q90_184 : z_fi (z_mi 90) 184 = some (184, .invokevirtual 189, 0, 12, 2, 0, 0) := rfl
set_option maxRecDepth 8000 in
theorem q90_187 : z_fi (z_mi 90) 187 = some (187, .goto 76, 0, 263, 0, 0, 0) := rfl
set_option maxRecDepth 8000 in
theorem q90_190 : z_fi (z_mi 90) 190 = some (190, .aload_n 0, 0, 0, 0, 0, 0) := rfl
set_option maxRecDepth 8000 in
theorem q90_191 : z_fi (z_mi 90) 191 = some (191, .getfield 22, 0, 7, 2, 0, 0) := rfl
set_option maxRecDepth 8000 in
theorem q90_194 : z_fi (z_mi 90) 194 = some (194, .getfield 149, 0, 0, 8, 0, 0) := rfl
set_option maxRecDepth 8000 in
theorem q90_197 : z_fi (z_mi 90) 197 = some (197, .aload_n 0, 0, 0, 0, 0, 0) := rfl
set_option maxRecDepth 8000 in
theorem q90_198 : z_fi (z_mi 90) 198 = some (198, .getfield 15, 0, 7, 4, 0, 0) := rfl
set_option maxRecDepth 8000 in
theorem q90_201 : z_fi (z_mi 90) 201 = some (201, .iconst 0, 0, 0, 0, 0, 0) := rfl
set_option maxRecDepth 8000 in
theorem q90_202 : z_fi (z_mi 90) 202 = some (202, .iaload, 0, 0, 0, 0, 0) := rfl
set_option maxRecDepth 8000 in
theorem q90_203 : z_fi (z_mi 90) 203 = some (203, .aload_n 0, 0, 0, 0, 0, 0) := rfl
set_option maxRecDepth 8000 in
theorem q90_204 : z_fi (z_mi 90) 204 = some (204, .getfield 15, 0, 7, 4, 0, 0) := rfl
set_option maxRecDepth 8000 in
theorem q90_207 : z_fi (z_mi 90) 207 = some (207, .iconst 1, 0, 0, 0, 1, 0) := rfl
set_option maxRecDepth 8000 in
theorem q90_208 : z_fi (z_mi 90) 208 = some (208, .iaload, 0, 0, 0, 0, 0) := rfl
set_option maxRecDepth 8000 in
theorem q90_209 : z_fi (z_mi 90) 209 = some (209, .aload_n 0, 0, 0, 0, 0, 0) := rfl
set_option maxRecDepth 8000 in
theorem q90_210 : z_fi (z_mi 90) 210 = some (210, .getfield 15, 0, 7, 4, 0, 0) := rfl
set_option maxRecDepth 8000 in
theorem q90_213 : z_fi (z_mi 90) 213 = some (213, .iconst 2, 0, 0, 0, 2, 0) := rfl
set_option maxRecDepth 8000 in
theorem q90_214 : z_fi (z_mi 90) 214 = some (214, .iaload, 0, 0, 0, 0, 0) := rfl
set_option maxRecDepth 8000 in
theorem q90_215 : z_fi (z_mi 90) 215 = some (215, .invokevirtual 193, 0, 36, 3, 0, 0) := rfl
set_option maxRecDepth 8000 in
theorem q90_218 : z_fi (z_mi 90) 218 = some (218, .goto 45, 0, 263, 0, 0, 0) := rfl
set_option maxRecDepth 8000 in
theorem q90_221 : z_fi (z_mi 90) 221 = some (221, .aload_n 0, 0, 0, 0, 0, 0) := rfl
set_option maxRecDepth 8000 in
theorem q90_222 : z_fi (z_mi 90) 222 = some (222, .getfield 22, 0, 7, 2, 0, 0) := rfl
set_option maxRecDepth 8000 in
theorem q90_225 : z_fi (z_mi 90) 225 = some (225, .getfield 196, 0, 0, 9, 0, 0) := rfl
set_option maxRecDepth 8000 in
theorem q90_228 : z_fi (z_mi 90) 228 = some (228, .iload_n 2, 0, 0, 0, 0, 0) := rfl
set_option maxRecDepth 8000 in
theorem q90_229 : z_fi (z_mi 90) 229 = some (229, .aload_n 0, 0, 0, 0, 0, 0) := rfl
set_option maxRecDepth 8000 in
theorem q90_230 : z_fi (z_mi 90) 230 = some (230, .getfield 15, 0, 7, 4, 0, 0) := rfl
set_option maxRecDepth 8000 in
theorem q90_233 : z_fi (z_mi 90) 233 = some (233, .iconst 1, 0, 0, 0, 1, 0) := rfl
set_option maxRecDepth 8000 in
theorem q90_234 : z_fi (z_mi 90) 234 = some (234, .iaload, 0, 0, 0, 0, 0) := rfl
set_option maxRecDepth 8000 in
theorem q90_235 : z_fi (z_mi 90) 235 = some (235, .aload_n 0, 0, 0, 0, 0, 0) := rfl
set_option maxRecDepth 8000 in
theorem q90_236 : z_fi (z_mi 90) 236 = some (236, .getfield 15, 0, 7, 4, 0, 0) := rfl
set_option maxRecDepth 8000 in
theorem q90_239 : z_fi (z_mi 90) 239 = some (239, .iconst 2, 0, 0, 0, 2, 0) := rfl
set_option maxRecDepth 8000 in
theorem q90_240 : z_fi (z_mi 90) 240 = some (240, .iaload, 0, 0, 0, 0, 0) := rfl
set_option maxRecDepth 8000 in
theorem q90_241 : z_fi (z_mi 90) 241 = some (241, .invokevirtual 200, 0, 62, 3, 0, 0) := rfl
set_option maxRecDepth 8000 in
theorem q90_244 : z_fi (z_mi 90) 244 = some (244, .goto 19, 0, 263, 0, 0, 0) := rfl
set_option maxRecDepth 8000 in
theorem q90_247 : z_fi (z_mi 90) 247 = some (247, .aload_n 0, 0, 0, 0, 0, 0) := rfl
set_option maxRecDepth 8000 in
theorem q90_248 : z_fi (z_mi 90) 248 = some (248, .getfield 22, 0, 7, 2, 0, 0) := rfl
set_option maxRecDepth 8000 in
theorem q90_251 : z_fi (z_mi 90) 251 = some (251, .getfield 196, 0, 0, 9, 0, 0) := rfl
set_option maxRecDepth 8000 in
theorem q90_254 : z_fi (z_mi 90) 254 = some (254, .aload_n 0, 0, 0, 0, 0, 0) := rfl
set_option maxRecDepth 8000 in
theorem q90_255 : z_fi (z_mi 90) 255 = some (255, .getfield 15, 0, 7, 4, 0, 0) := rfl
set_option maxRecDepth 8000 in
theorem q90_258 : z_fi (z_mi 90) 258 = some (258, .iconst 0, 0, 0, 0, 0, 0) := rfl
set_option maxRecDepth 8000 in
theorem q90_259 : z_fi (z_mi 90) 259 = some (259, .iaload, 0, 0, 0, 0, 0) := rfl
set_option maxRecDepth 8000 in
theorem q90_260 : z_fi (z_mi 90) 260 = some (260, .putfield 205, 0, 4, 2, 0, 0) := rfl
set_option maxRecDepth 8000 in
theorem q90_263 : z_fi (z_mi 90) 263 = some (263, .return_, 0, 0, 0, 0, 0) := rfl
set_option maxRecDepth 20000 in
set_option maxHeartbeats 4000000 in
theorem t_Tr_take_37 {xL : Nat} {xs : Nat → Int32} {ρ : Nat → Nat → Option Nat} (hρ : z_hR ρ) (d : Nat) (a1 : Int32) (σ : zS) : ∀ q, f_Tr_take_37 a1 σ = some q → z_ec xL xs ρ (d + 3) 90 [.ref 37, .int a1] σ (em_v q) := by
  refine j_of (W := [.ref 37, .int a1, .null]) (fun L hL => ?_) ?_
  · subst hL; exact z_vl_0 _ 1 rfl
  · unfold f_Tr_take_37
    refine j_iload_n (pc' := 1) q90_0 rfl rfl ?_
    refine j_join (T := Int32) 25 (fun t1 => [.ref 37, .int a1, .null]) (fun t1 => [.int t1]) (fun t1 => σ) (fun t1 => ?_) (fun j1 hj1 => ?_)
    · show z_J _ _ _ _ _ _ _ _ _ _ _ _
      refine j_istore2 (pc' := 26) q90_25 rfl (Nat.le_of_ble_eq_true rfl) rfl ?_
      refine j_iload_n (pc' := 27) q90_26 rfl rfl ?_
      refine j_iconst (pc' := 28) q90_27 rfl ?_
      refine j_bipush (pc' := 30) q90_28 rfl ?_
      refine j_callS3_pi (d := d + 2) (pc' := 33) q90_30 (Or.inr rfl) (Nat.le_of_ble_eq_true rfl) (Nat.le_of_ble_eq_true rfl) rfl (t_Y_isIn hρ (d + 2) _ _ _ _) (fun r2 => ?_)
      refine j_join (T := zS) 48 (fun t3 => [.ref 37, .int a1, .int t1]) (fun t3 => []) (fun t3 => t3) (fun t3 => ?_) (fun j3 hj3 => ?_)
      · show z_J _ _ _ _ _ _ _ _ _ _ _ _
        refine j_iload_n (pc' := 49) q90_48 rfl rfl ?_
        refine j_if (fun c4 => ?_) (fun c4 => ?_)
        · refine j_tin (pc' := 92) (j := 0) (off := 43) q90_49 c4 (Nat.le_of_ble_eq_true rfl) (by decide) rfl (by decide) ?_
          refine j_aload_n (pc' := 93) q90_92 rfl (by decide) rfl ?_
          refine j_getr (k := 37) (q := 17) (pc' := 96) q90_93 rfl (hρ 37 2 17 rfl) rfl ?_
          refine j_aload_n (pc' := 97) q90_96 rfl (by decide) rfl ?_
          refine j_getr (k := 37) (q := 39) (pc' := 100) q90_97 rfl (hρ 37 4 39 rfl) rfl ?_
          refine j_iconst (pc' := 101) q90_100 rfl ?_
          refine j_iald (k := 39) (N := 3) (pc' := 102) q90_101 rfl (by decide) rfl ?_
          refine j_putf (k := 17) (pc' := 105) q90_102 rfl rfl ?_
          refine j_nameS (fun τ5 => ?_)
          refine j_aload_n (pc' := 106) q90_105 rfl (by decide) rfl ?_
          refine j_getr (k := 37) (q := 17) (pc' := 109) q90_106 rfl (hρ 37 2 17 rfl) rfl ?_
          refine j_aload_n (pc' := 110) q90_109 rfl (by decide) rfl ?_
          refine j_getr (k := 37) (q := 39) (pc' := 113) q90_110 rfl (hρ 37 4 39 rfl) rfl ?_
          refine j_iconst (pc' := 114) q90_113 rfl ?_
          refine j_iald (k := 39) (N := 3) (pc' := 115) q90_114 rfl (by decide) rfl ?_
          refine j_putf (k := 17) (pc' := 118) q90_115 rfl rfl ?_
          refine j_nameS (fun τ6 => ?_)
          refine j_goto q90_118 rfl ?_
          exact j_vret q90_263 rfl
        refine j_if (fun c7 => ?_) (fun c7 => ?_)
        · refine j_tin (pc' := 121) (j := 1) (off := 72) q90_49 c7 (Nat.le_of_ble_eq_true rfl) (by decide) rfl (by decide) ?_
          refine j_aload_n (pc' := 122) q90_121 rfl (by decide) rfl ?_
          refine j_getr (k := 37) (q := 17) (pc' := 125) q90_122 rfl (hρ 37 2 17 rfl) rfl ?_
          refine j_iload_n (pc' := 126) q90_125 rfl rfl ?_
          refine j_aload_n (pc' := 127) q90_126 rfl (by decide) rfl ?_
          refine j_getr (k := 37) (q := 39) (pc' := 130) q90_127 rfl (hρ 37 4 39 rfl) rfl ?_
          refine j_iconst (pc' := 131) q90_130 rfl ?_
          refine j_iald (k := 39) (N := 3) (pc' := 132) q90_131 rfl (by decide) rfl ?_
          refine j_aload_n (pc' := 133) q90_132 rfl (by decide) rfl ?_
          refine j_getr (k := 37) (q := 39) (pc' := 136) q90_133 rfl (hρ 37 4 39 rfl) rfl ?_
          refine j_iconst (pc' := 137) q90_136 rfl ?_
          refine j_iald (k := 39) (N := 3) (pc' := 138) q90_137 rfl (by decide) rfl ?_
          refine j_callV3_v (d := d + 2) (pc' := 141) q90_138 rfl (Nat.le_of_ble_eq_true rfl) (Nat.le_of_ble_eq_true rfl) rfl (t_G_set_17 hρ (d + 1) _ _ _ _) (fun r8 => ?_)
          refine j_goto q90_141 rfl ?_
          exact j_vret q90_263 rfl
        refine j_if (fun c9 => ?_) (fun c9 => ?_)
        · refine j_tin (pc' := 144) (j := 2) (off := 95) q90_49 c9 (Nat.le_of_ble_eq_true rfl) (by decide) rfl (by decide) ?_
          refine j_aload_n (pc' := 145) q90_144 rfl (by decide) rfl ?_
          refine j_getr (k := 37) (q := 17) (pc' := 148) q90_145 rfl (hρ 37 2 17 rfl) rfl ?_
          refine j_iload_n (pc' := 149) q90_148 rfl rfl ?_
          refine j_aload_n (pc' := 150) q90_149 rfl (by decide) rfl ?_
          refine j_getr (k := 37) (q := 39) (pc' := 153) q90_150 rfl (hρ 37 4 39 rfl) rfl ?_
          refine j_iconst (pc' := 154) q90_153 rfl ?_
          refine j_iald (k := 39) (N := 3) (pc' := 155) q90_154 rfl (by decide) rfl ?_
          refine j_callV2_v (d := d + 2) (pc' := 158) q90_155 rfl (Nat.le_of_ble_eq_true rfl) (Nat.le_of_ble_eq_true rfl) rfl (t_G_setCrop_17 hρ (d + 1) _ _ _) (fun r10 => ?_)
          refine j_goto q90_158 rfl ?_
          exact j_vret q90_263 rfl
        refine j_if (fun c11 => ?_) (fun c11 => ?_)
        · refine j_tin (pc' := 161) (j := 3) (off := 112) q90_49 c11 (Nat.le_of_ble_eq_true rfl) (by decide) rfl (by decide) ?_
          refine j_aload_n (pc' := 162) q90_161 rfl (by decide) rfl ?_
          refine j_getr (k := 37) (q := 17) (pc' := 165) q90_162 rfl (hρ 37 2 17 rfl) rfl ?_
          refine j_iload_n (pc' := 166) q90_165 rfl rfl ?_
          refine j_aload_n (pc' := 167) q90_166 rfl (by decide) rfl ?_
          refine j_getr (k := 37) (q := 39) (pc' := 170) q90_167 rfl (hρ 37 4 39 rfl) rfl ?_
          refine j_iconst (pc' := 171) q90_170 rfl ?_
          refine j_iald (k := 39) (N := 3) (pc' := 172) q90_171 rfl (by decide) rfl ?_
          refine j_callV2_v (d := d + 2) (pc' := 175) q90_172 rfl (Nat.le_of_ble_eq_true rfl) (Nat.le_of_ble_eq_true rfl) rfl (t_G_setOwner_17 hρ (d + 1) _ _ _) (fun r12 => ?_)
          refine j_goto q90_175 rfl ?_
          exact j_vret q90_263 rfl
        refine j_if (fun c13 => ?_) (fun c13 => ?_)
        · refine j_tin (pc' := 178) (j := 4) (off := 129) q90_49 c13 (Nat.le_of_ble_eq_true rfl) (by decide) rfl (by decide) ?_
          refine j_aload_n (pc' := 179) q90_178 rfl (by decide) rfl ?_
          refine j_getr (k := 37) (q := 17) (pc' := 182) q90_179 rfl (hρ 37 2 17 rfl) rfl ?_
          refine j_iload_n (pc' := 183) q90_182 rfl rfl ?_
          refine j_iconst (pc' := 184) q90_183 rfl ?_
          refine j_callV2_v (d := d + 2) (pc' := 187) q90_184 rfl (Nat.le_of_ble_eq_true rfl) (Nat.le_of_ble_eq_true rfl) rfl (t_G_setWall_17 hρ (d + 2) _ _ _) (fun r14 => ?_)
          refine j_goto q90_187 rfl ?_
          exact j_vret q90_263 rfl
        refine j_if (fun c15 => ?_) (fun c15 => ?_)
        · refine j_tin (pc' := 190) (j := 5) (off := 141) q90_49 c15 (Nat.le_of_ble_eq_true rfl) (by decide) rfl (by decide) ?_
          refine j_aload_n (pc' := 191) q90_190 rfl (by decide) rfl ?_
          refine j_getr (k := 37) (q := 17) (pc' := 194) q90_191 rfl (hρ 37 2 17 rfl) rfl ?_
          refine j_getr (k := 17) (q := 23) (pc' := 197) q90_194 rfl (hρ 17 8 23 rfl) rfl ?_
          refine j_aload_n (pc' := 198) q90_197 rfl (by decide) rfl ?_
          refine j_getr (k := 37) (q := 39) (pc' := 201) q90_198 rfl (hρ 37 4 39 rfl) rfl ?_
          refine j_iconst (pc' := 202) q90_201 rfl ?_
          refine j_iald (k := 39) (N := 3) (pc' := 203) q90_202 rfl (by decide) rfl ?_
          refine j_aload_n (pc' := 204) q90_203 rfl (by decide) rfl ?_
          refine j_getr (k := 37) (q := 39) (pc' := 207) q90_204 rfl (hρ 37 4 39 rfl) rfl ?_
          refine j_iconst (pc' := 208) q90_207 rfl ?_
          refine j_iald (k := 39) (N := 3) (pc' := 209) q90_208 rfl (by decide) rfl ?_
          refine j_aload_n (pc' := 210) q90_209 rfl (by decide) rfl ?_
          refine j_getr (k := 37) (q := 39) (pc' := 213) q90_210 rfl (hρ 37 4 39 rfl) rfl ?_
          refine j_iconst (pc' := 214) q90_213 rfl ?_
          refine j_iald (k := 39) (N := 3) (pc' := 215) q90_214 rfl (by decide) rfl ?_
          refine j_callV3_v (d := d + 2) (pc' := 218) q90_215 rfl (Nat.le_of_ble_eq_true rfl) (Nat.le_of_ble_eq_true rfl) rfl (t_Lw_add_23 hρ (d + 2) _ _ _ _) (fun r16 => ?_)
          refine j_goto q90_218 rfl ?_
          exact j_vret q90_263 rfl
        refine j_if (fun c17 => ?_) (fun c17 => ?_)
        · refine j_tin (pc' := 221) (j := 6) (off := 172) q90_49 c17 (Nat.le_of_ble_eq_true rfl) (by decide) rfl (by decide) ?_
          refine j_aload_n (pc' := 222) q90_221 rfl (by decide) rfl ?_
          refine j_getr (k := 37) (q := 17) (pc' := 225) q90_222 rfl (hρ 37 2 17 rfl) rfl ?_
          refine j_getr (k := 17) (q := 27) (pc' := 228) q90_225 rfl (hρ 17 9 27 rfl) rfl ?_
          refine j_iload_n (pc' := 229) q90_228 rfl rfl ?_
          refine j_aload_n (pc' := 230) q90_229 rfl (by decide) rfl ?_
          refine j_getr (k := 37) (q := 39) (pc' := 233) q90_230 rfl (hρ 37 4 39 rfl) rfl ?_
          refine j_iconst (pc' := 234) q90_233 rfl ?_
          refine j_iald (k := 39) (N := 3) (pc' := 235) q90_234 rfl (by decide) rfl ?_
          refine j_aload_n (pc' := 236) q90_235 rfl (by decide) rfl ?_
          refine j_getr (k := 37) (q := 39) (pc' := 239) q90_236 rfl (hρ 37 4 39 rfl) rfl ?_
          refine j_iconst (pc' := 240) q90_239 rfl ?_
          refine j_iald (k := 39) (N := 3) (pc' := 241) q90_240 rfl (by decide) rfl ?_
          refine j_callV3_v (d := d + 2) (pc' := 244) q90_241 rfl (Nat.le_of_ble_eq_true rfl) (Nat.le_of_ble_eq_true rfl) rfl (t_Sp_offer_27 hρ (d + 0) _ _ _ _) (fun r18 => ?_)
          refine j_goto q90_244 rfl ?_
          exact j_vret q90_263 rfl
        refine j_tdef (pc' := 247) 7 q90_49 rfl (by decide) (z_noS (z_noS (z_noS (z_noS (z_noS (z_noS (z_noS (z_no0) c4) c7) c9) c11) c13) c15) c17) (by decide) ?_
        refine j_aload_n (pc' := 248) q90_247 rfl (by decide) rfl ?_
        refine j_getr (k := 37) (q := 17) (pc' := 251) q90_248 rfl (hρ 37 2 17 rfl) rfl ?_
        refine j_getr (k := 17) (q := 27) (pc' := 254) q90_251 rfl (hρ 17 9 27 rfl) rfl ?_
        refine j_aload_n (pc' := 255) q90_254 rfl (by decide) rfl ?_
        refine j_getr (k := 37) (q := 39) (pc' := 258) q90_255 rfl (hρ 37 4 39 rfl) rfl ?_
        refine j_iconst (pc' := 259) q90_258 rfl ?_
        refine j_iald (k := 39) (N := 3) (pc' := 260) q90_259 rfl (by decide) rfl ?_
        refine j_putf (k := 27) (pc' := 263) q90_260 rfl rfl ?_
        refine j_nameS (fun τ19 => ?_)
        exact j_vret q90_263 rfl
      · show z_J _ _ _ _ _ _ _ _ _ _ _ _
        refine j_if_eq (pc' := 36) q90_33 rfl (fun c20 => ?_) (fun c20 => ?_)
        · refine j_forget (z_le_s (z_le_s (z_le_s (z_le_nil)))) (hj3 σ)
        · refine j_aload_n (pc' := 37) q90_36 rfl (by decide) rfl ?_
          refine j_getr (k := 37) (q := 38) (pc' := 40) q90_37 rfl (hρ 37 3 38 rfl) rfl ?_
          refine j_iload_n (pc' := 41) q90_40 rfl rfl ?_
          refine j_dup2 (pc' := 42) q90_41 ⟨rfl, rfl⟩ rfl ?_
          refine j_if (fun hi21 => ?_) (fun _ => j_none)
          refine j_iald (k := 38) (N := 8) (pc' := 43) q90_42 rfl hi21 rfl ?_
          refine j_iconst (pc' := 44) q90_43 rfl ?_
          refine j_iload_n (pc' := 45) q90_44 rfl rfl ?_
          refine j_ishl (pc' := 46) q90_45 rfl ?_
          refine j_ior (pc' := 47) q90_46 rfl ?_
          refine j_if (fun hi22 => ?_) (fun _ => j_none)
          refine j_iast (k := 38) (N := 8) (pc' := 48) q90_47 rfl hi22 rfl ?_
          refine j_nameS (fun τ23 => ?_)
          refine j_forget (z_le_s (z_le_s (z_le_s (z_le_nil)))) (hj3 τ23)
    · show z_J _ _ _ _ _ _ _ _ _ _ _ _
      refine j_join (T := Unit) 15 (fun t24 => [.ref 37, .int a1, .null]) (fun t24 => []) (fun t24 => σ) (fun t24 => ?_) (fun j24 hj24 => ?_)
      · show z_J _ _ _ _ _ _ _ _ _ _ _ _
        refine j_iconst (pc' := 16) q90_15 rfl ?_
        refine j_goto q90_16 rfl ?_
        refine j_forget (z_le_s (z_le_s (z_le_n (z_le_nil)))) (hj1 (0 : Int32))
      · show z_J _ _ _ _ _ _ _ _ _ _ _ _
        refine j_if_eq (pc' := 4) q90_1 rfl (fun c25 => ?_) (fun c25 => ?_)
        · refine j_forget (z_le_s (z_le_s (z_le_n (z_le_nil)))) (hj24 ())
        · refine j_iload_n (pc' := 5) q90_4 rfl rfl ?_
          refine j_bipush (pc' := 7) q90_5 rfl ?_
          refine j_icmp_eq (pc' := 10) q90_7 rfl (fun c26 => ?_) (fun c26 => ?_)
          · refine j_forget (z_le_s (z_le_s (z_le_n (z_le_nil)))) (hj24 ())
          · refine j_iload_n (pc' := 11) q90_10 rfl rfl ?_
            refine j_iconst (pc' := 12) q90_11 rfl ?_
            refine j_icmp_ne (pc' := 15) q90_12 rfl (fun c27 => ?_) (fun c27 => ?_)
            · refine j_forget (z_le_s (z_le_s (z_le_n (z_le_nil)))) (hj24 ())
            · refine j_aload_n (pc' := 20) q90_19 rfl (by decide) rfl ?_
              refine j_getr (k := 37) (q := 39) (pc' := 23) q90_20 rfl (hρ 37 4 39 rfl) rfl ?_
              refine j_iconst (pc' := 24) q90_23 rfl ?_
              refine j_iald (k := 39) (N := 3) (pc' := 25) q90_24 rfl (by decide) rfl ?_
              refine j_forget (z_le_s (z_le_s (z_le_n (z_le_nil)))) (hj1 (σ 39 (0 : Int32).toNatClampNeg))
theorem q89_0 : z_fi (z_mi 89) 0 = some (0, .aload_n 0, 0, 0, 0, 0, 0) := rfl
theorem q89_1 : z_fi (z_mi 89) 1 = some (1, .getfield 31, 0, 7, 1, 0, 0) := rfl
theorem q89_4 : z_fi (z_mi 89) 4 = some (4, .invokevirtual 68, 0, 94, 0, 0, 0) := rfl
theorem q89_7 : z_fi (z_mi 89) 7 = some (7, .aload_n 0, 0, 0, 0, 0, 0) := rfl
theorem q89_8 : z_fi (z_mi 89) 8 = some (8, .getfield 31, 0, 7, 1, 0, 0) := rfl
theorem q89_11 : z_fi (z_mi 89) 11 = some (11, .getfield 71, 0, 8, 1, 0, 0) := rfl
theorem q89_14 : z_fi (z_mi 89) 14 = some (14, .iconst 4, 0, 0, 0, 4, 0) := rfl
theorem q89_15 : z_fi (z_mi 89) 15 = some (15, .if_icmp .ne 18, 0, 33, 0, 0, 0) := rfl
theorem q89_18 : z_fi (z_mi 89) 18 = some (18, .aload_n 0, 0, 0, 0, 0, 0) := rfl
theorem q89_19 : z_fi (z_mi 89) 19 = some (19, .iconst 1, 0, 0, 0, 1, 0) := rfl
theorem q89_20 : z_fi (z_mi 89) 20 = some (20, .aload_n 0, 0, 0, 0, 0, 0) := rfl
theorem q89_21 : z_fi (z_mi 89) 21 = some (21, .getfield 31, 0, 7, 1, 0, 0) := rfl
theorem q89_24 : z_fi (z_mi 89) 24 = some (24, .getfield 82, 0, 8, 2, 0, 0) := rfl
theorem q89_27 : z_fi (z_mi 89) 27 = some (27, .invokevirtual 85, 0, 79, 2, 0, 0) := rfl
theorem q89_30 : z_fi (z_mi 89) 30 = some (30, .goto 26, 0, 56, 0, 0, 0) := rfl
theorem q89_33 : z_fi (z_mi 89) 33 = some (33, .aload_n 0, 0, 0, 0, 0, 0) := rfl
theorem q89_34 : z_fi (z_mi 89) 34 = some (34, .getfield 31, 0, 7, 1, 0, 0) := rfl
theorem q89_37 : z_fi (z_mi 89) 37 = some (37, .getfield 71, 0, 8, 1, 0, 0) := rfl
theorem q89_40 : z_fi (z_mi 89) 40 = some (40, .iconst 3, 0, 0, 0, 3, 0) := rfl
theorem q89_41 : z_fi (z_mi 89) 41 = some (41, .if_icmp .eq 15, 0, 56, 0, 0, 0) := rfl
theorem q89_44 : z_fi (z_mi 89) 44 = some (44, .aload_n 0, 0, 0, 0, 0, 0) := rfl
theorem q89_45 : z_fi (z_mi 89) 45 = some (45, .iconst 2, 0, 0, 0, 2, 0) := rfl
theorem q89_46 : z_fi (z_mi 89) 46 = some (46, .aload_n 0, 0, 0, 0, 0, 0) := rfl
theorem q89_47 : z_fi (z_mi 89) 47 = some (47, .getfield 31, 0, 7, 1, 0, 0) := rfl
theorem q89_50 : z_fi (z_mi 89) 50 = some (50, .getfield 82, 0, 8, 2, 0, 0) := rfl
theorem q89_53 : z_fi (z_mi 89) 53 = some (53, .invokevirtual 85, 0, 79, 2, 0, 0) := rfl
theorem q89_56 : z_fi (z_mi 89) 56 = some (56, .return_, 0, 0, 0, 0, 0) := rfl
set_option maxRecDepth 20000 in
set_option maxHeartbeats 4000000 in
theorem t_Tr_readSemicolon_37 {xL : Nat} {xs : Nat → Int32} {ρ : Nat → Nat → Option Nat} (hρ : z_hR ρ) (d : Nat)  (σ : zS) : ∀ q, f_Tr_readSemicolon_37  σ = some q → z_ec xL xs ρ (d + 3) 89 [.ref 37] σ (em_v q) := by
  refine j_of (W := [.ref 37]) (fun L hL => ?_) ?_
  · subst hL; exact z_vl_0 _ 0 rfl
  · unfold f_Tr_readSemicolon_37
    refine j_aload_n (pc' := 1) q89_0 rfl (by decide) rfl ?_
    refine j_getr (k := 37) (q := 40) (pc' := 4) q89_1 rfl (hρ 37 1 40 rfl) rfl ?_
    refine j_callV0_v (d := d + 2) (pc' := 7) q89_4 rfl (Nat.le_of_ble_eq_true rfl) (Nat.le_of_ble_eq_true rfl) rfl (t_Tk_move_40 hρ (d + 0) _) (fun r1 => ?_)
    refine j_aload_n (pc' := 8) q89_7 rfl (by decide) rfl ?_
    refine j_getr (k := 37) (q := 40) (pc' := 11) q89_8 rfl (hρ 37 1 40 rfl) rfl ?_
    refine j_getf (k := 40) (pc' := 14) q89_11 rfl rfl ?_
    refine j_iconst (pc' := 15) q89_14 rfl ?_
    refine j_icmp_ne (pc' := 18) q89_15 rfl (fun c2 => ?_) (fun c2 => ?_)
    · refine j_aload_n (pc' := 19) q89_18 rfl (by decide) rfl ?_
      refine j_iconst (pc' := 20) q89_19 rfl ?_
      refine j_aload_n (pc' := 21) q89_20 rfl (by decide) rfl ?_
      refine j_getr (k := 37) (q := 40) (pc' := 24) q89_21 rfl (hρ 37 1 40 rfl) rfl ?_
      refine j_getf (k := 40) (pc' := 27) q89_24 rfl rfl ?_
      refine j_callV2_v (d := d + 2) (pc' := 30) q89_27 rfl (Nat.le_of_ble_eq_true rfl) (Nat.le_of_ble_eq_true rfl) rfl (t_Tr_fail_37 hρ (d + 2) _ _ _) (fun r3 => ?_)
      refine j_goto q89_30 rfl ?_
      exact j_vret q89_56 rfl
    · refine j_aload_n (pc' := 34) q89_33 rfl (by decide) rfl ?_
      refine j_getr (k := 37) (q := 40) (pc' := 37) q89_34 rfl (hρ 37 1 40 rfl) rfl ?_
      refine j_getf (k := 40) (pc' := 40) q89_37 rfl rfl ?_
      refine j_iconst (pc' := 41) q89_40 rfl ?_
      refine j_icmp_eq (pc' := 44) q89_41 rfl (fun c4 => ?_) (fun c4 => ?_)
      · exact j_vret q89_56 rfl
      · refine j_aload_n (pc' := 45) q89_44 rfl (by decide) rfl ?_
        refine j_iconst (pc' := 46) q89_45 rfl ?_
        refine j_aload_n (pc' := 47) q89_46 rfl (by decide) rfl ?_
        refine j_getr (k := 37) (q := 40) (pc' := 50) q89_47 rfl (hρ 37 1 40 rfl) rfl ?_
        refine j_getf (k := 40) (pc' := 53) q89_50 rfl rfl ?_
        refine j_callV2_v (d := d + 2) (pc' := 56) q89_53 rfl (Nat.le_of_ble_eq_true rfl) (Nat.le_of_ble_eq_true rfl) rfl (t_Tr_fail_37 hρ (d + 2) _ _ _) (fun r5 => ?_)
        exact j_vret q89_56 rfl
theorem q80_0 : z_fi (z_mi 80) 0 = some (0, .aload_n 0, 0, 0, 0, 0, 0) := rfl
theorem q80_1 : z_fi (z_mi 80) 1 = some (1, .getfield 31, 0, 7, 1, 0, 0) := rfl
theorem q80_4 : z_fi (z_mi 80) 4 = some (4, .invokevirtual 68, 0, 94, 0, 0, 0) := rfl
theorem q80_7 : z_fi (z_mi 80) 7 = some (7, .aload_n 0, 0, 0, 0, 0, 0) := rfl
theorem q80_8 : z_fi (z_mi 80) 8 = some (8, .getfield 31, 0, 7, 1, 0, 0) := rfl
theorem q80_11 : z_fi (z_mi 80) 11 = some (11, .getfield 71, 0, 8, 1, 0, 0) := rfl
theorem q80_14 : z_fi (z_mi 80) 14 = some (14, .ifCond .ne 5, 0, 19, 0, 0, 0) := rfl
theorem q80_17 : z_fi (z_mi 80) 17 = some (17, .iconst 0, 0, 0, 0, 0, 0) := rfl
theorem q80_18 : z_fi (z_mi 80) 18 = some (18, .ireturn, 0, 0, 0, 0, 0) := rfl
theorem q80_19 : z_fi (z_mi 80) 19 = some (19, .aload_n 0, 0, 0, 0, 0, 0) := rfl
theorem q80_20 : z_fi (z_mi 80) 20 = some (20, .invokevirtual 74, 0, 81, 0, 0, 0) := rfl
theorem q80_23 : z_fi (z_mi 80) 23 = some (23, .istore_n 1, 0, 0, 0, 0, 0) := rfl
theorem q80_24 : z_fi (z_mi 80) 24 = some (24, .aload_n 0, 0, 0, 0, 0, 0) := rfl
theorem q80_25 : z_fi (z_mi 80) 25 = some (25, .iload_n 1, 0, 0, 0, 0, 0) := rfl
theorem q80_26 : z_fi (z_mi 80) 26 = some (26, .invokevirtual 78, 0, 85, 1, 0, 0) := rfl
theorem q80_29 : z_fi (z_mi 80) 29 = some (29, .istore_n 2, 0, 0, 0, 0, 0) := rfl
theorem q80_30 : z_fi (z_mi 80) 30 = some (30, .iload_n 2, 0, 0, 0, 0, 0) := rfl
theorem q80_31 : z_fi (z_mi 80) 31 = some (31, .ifCond .eq 17, 0, 48, 0, 0, 0) := rfl
theorem q80_34 : z_fi (z_mi 80) 34 = some (34, .aload_n 0, 0, 0, 0, 0, 0) := rfl
theorem q80_35 : z_fi (z_mi 80) 35 = some (35, .iload_n 2, 0, 0, 0, 0, 0) := rfl
theorem q80_36 : z_fi (z_mi 80) 36 = some (36, .aload_n 0, 0, 0, 0, 0, 0) := rfl
theorem q80_37 : z_fi (z_mi 80) 37 = some (37, .getfield 31, 0, 7, 1, 0, 0) := rfl
theorem q80_40 : z_fi (z_mi 80) 40 = some (40, .getfield 82, 0, 8, 2, 0, 0) := rfl
theorem q80_43 : z_fi (z_mi 80) 43 = some (43, .invokevirtual 85, 0, 79, 2, 0, 0) := rfl
theorem q80_46 : z_fi (z_mi 80) 46 = some (46, .iconst 0, 0, 0, 0, 0, 0) := rfl
theorem q80_47 : z_fi (z_mi 80) 47 = some (47, .ireturn, 0, 0, 0, 0, 0) := rfl
theorem q80_48 : z_fi (z_mi 80) 48 = some (48, .iconst 0, 0, 0, 0, 0, 0) := rfl
theorem q80_49 : z_fi (z_mi 80) 49 = some (49, .istore_n 3, 0, 0, 0, 0, 0) := rfl
theorem q80_50 : z_fi (z_mi 80) 50 = some (50, .iload_n 3, 0, 0, 0, 0, 0) := rfl
theorem q80_51 : z_fi (z_mi 80) 51 = some (51, .getstatic 89, 0, 1, 0, 0, 0) := rfl
theorem q80_54 : z_fi (z_mi 80) 54 = some (54, .iload_n 1, 0, 0, 0, 0, 0) := rfl
theorem q80_55 : z_fi (z_mi 80) 55 = some (55, .iaload, 0, 0, 0, 0, 0) := rfl
theorem q80_56 : z_fi (z_mi 80) 56 = some (56, .if_icmp .ge 22, 0, 78, 0, 0, 0) := rfl
theorem q80_59 : z_fi (z_mi 80) 59 = some (59, .aload_n 0, 0, 0, 0, 0, 0) := rfl
theorem q80_60 : z_fi (z_mi 80) 60 = some (60, .getfield 53, 0, 7, 6, 0, 0) := rfl
theorem q80_63 : z_fi (z_mi 80) 63 = some (63, .ifCond .ne 15, 0, 78, 0, 0, 0) := rfl
theorem q80_66 : z_fi (z_mi 80) 66 = some (66, .aload_n 0, 0, 0, 0, 0, 0) := rfl
theorem q80_67 : z_fi (z_mi 80) 67 = some (67, .iload_n 1, 0, 0, 0, 0, 0) := rfl
theorem q80_68 : z_fi (z_mi 80) 68 = some (68, .iload_n 3, 0, 0, 0, 0, 0) := rfl
theorem q80_69 : z_fi (z_mi 80) 69 = some (69, .invokevirtual 92, 0, 87, 2, 0, 0) := rfl
theorem q80_72 : z_fi (z_mi 80) 72 = some (72, .iinc 3 1, 0, 0, 0, 1, 0) := rfl
theorem q80_75 : z_fi (z_mi 80) 75 = some (75, .goto (-25), 0, 50, 0, 0, 0) := rfl
theorem q80_78 : z_fi (z_mi 80) 78 = some (78, .aload_n 0, 0, 0, 0, 0, 0) := rfl
theorem q80_79 : z_fi (z_mi 80) 79 = some (79, .getfield 53, 0, 7, 6, 0, 0) := rfl
theorem q80_82 : z_fi (z_mi 80) 82 = some (82, .ifCond .ne 7, 0, 89, 0, 0, 0) := rfl
theorem q80_85 : z_fi (z_mi 80) 85 = some (85, .aload_n 0, 0, 0, 0, 0, 0) := rfl
theorem q80_86 : z_fi (z_mi 80) 86 = some (86, .invokevirtual 95, 0, 89, 0, 0, 0) := rfl
theorem q80_89 : z_fi (z_mi 80) 89 = some (89, .aload_n 0, 0, 0, 0, 0, 0) := rfl
theorem q80_90 : z_fi (z_mi 80) 90 = some (90, .getfield 53, 0, 7, 6, 0, 0) := rfl
theorem q80_93 : z_fi (z_mi 80) 93 = some (93, .ifCond .ne 18, 0, 111, 0, 0, 0) := rfl
theorem q80_96 : z_fi (z_mi 80) 96 = some (96, .aload_n 0, 0, 0, 0, 0, 0) := rfl
theorem q80_97 : z_fi (z_mi 80) 97 = some (97, .iload_n 1, 0, 0, 0, 0, 0) := rfl
theorem q80_98 : z_fi (z_mi 80) 98 = some (98, .invokevirtual 98, 0, 90, 1, 0, 0) := rfl
theorem q80_101 : z_fi (z_mi 80) 101 = some (101, .aload_n 0, 0, 0, 0, 0, 0) := rfl
theorem q80_102 : z_fi (z_mi 80) 102 = some (102, .dup, 0, 0, 0, 0, 0) := rfl
theorem q80_103 : z_fi (z_mi 80) 103 = some (103, .getfield 49, 0, 7, 5, 0, 0) := rfl
theorem q80_106 : z_fi (z_mi 80) 106 = some (106, .iconst 1, 0, 0, 0, 1, 0) := rfl
theorem q80_107 : z_fi (z_mi 80) 107 = some (107, .iadd, 0, 0, 0, 0, 0) := rfl
theorem q80_108 : z_fi (z_mi 80) 108 = some (108, .putfield 49, 0, 7, 5, 0, 0) := rfl
theorem q80_111 : z_fi (z_mi 80) 111 = some (111, .aload_n 0, 0, 0, 0, 0, 0) := rfl
theorem q80_112 : z_fi (z_mi 80) 112 = some (112, .getfield 53, 0, 7, 6, 0, 0) := rfl
set_option maxRecDepth 8000 in
theorem q80_115 : z_fi (z_mi 80) 115 = some (115, .ifCond .ne 7, 0, 122, 0, 0, 0) := rfl
set_option maxRecDepth 8000 in
theorem q80_118 : z_fi (z_mi 80) 118 = some (118, .iconst 1, 0, 0, 0, 1, 0) := rfl
set_option maxRecDepth 8000 in
theorem q80_119 : z_fi (z_mi 80) 119 = some (119, .goto 4, 0, 123, 0, 0, 0) := rfl
set_option maxRecDepth 8000 in
theorem q80_122 : z_fi (z_mi 80) 122 = some (122, .iconst 0, 0, 0, 0, 0, 0) := rfl
set_option maxRecDepth 8000 in
theorem q80_123 : z_fi (z_mi 80) 123 = some (123, .ireturn, 0, 0, 0, 0, 0) := rfl
set_option maxRecDepth 20000 in
set_option maxHeartbeats 4000000 in
theorem t_Tr_readLine_37 {xL : Nat} {xs : Nat → Int32} {ρ : Nat → Nat → Option Nat} (hρ : z_hR ρ) (d : Nat)  (σ : zS) : ∀ q, f_Tr_readLine_37  σ = some q → z_ec xL xs ρ (d + 7) 80 [.ref 37] σ (em_i q) := by
  refine j_of (W := [.ref 37, .null, .null, .null]) (fun L hL => ?_) ?_
  · subst hL; exact z_vl_0 _ 3 rfl
  · unfold f_Tr_readLine_37
    refine j_aload_n (pc' := 1) q80_0 rfl (by decide) rfl ?_
    refine j_getr (k := 37) (q := 40) (pc' := 4) q80_1 rfl (hρ 37 1 40 rfl) rfl ?_
    refine j_callV0_v (d := d + 6) (pc' := 7) q80_4 rfl (Nat.le_of_ble_eq_true rfl) (Nat.le_of_ble_eq_true rfl) rfl (t_Tk_move_40 hρ (d + 4) _) (fun r1 => ?_)
    refine j_aload_n (pc' := 8) q80_7 rfl (by decide) rfl ?_
    refine j_getr (k := 37) (q := 40) (pc' := 11) q80_8 rfl (hρ 37 1 40 rfl) rfl ?_
    refine j_getf (k := 40) (pc' := 14) q80_11 rfl rfl ?_
    refine j_if_ne (pc' := 17) q80_14 rfl (fun c2 => ?_) (fun c2 => ?_)
    · refine j_iconst (pc' := 18) q80_17 rfl ?_
      exact j_zret q80_18 rfl (Or.inl rfl)
    · refine j_aload_n (pc' := 20) q80_19 rfl (by decide) rfl ?_
      refine j_callV0_pi (d := d + 6) (pc' := 23) q80_20 rfl (Nat.le_of_ble_eq_true rfl) (Nat.le_of_ble_eq_true rfl) rfl (t_Tr_lineNamed_37 hρ (d + 1) _) (fun r3 => ?_)
      refine j_istore1 (pc' := 24) q80_23 rfl (Nat.le_of_ble_eq_true rfl) rfl ?_
      refine j_aload_n (pc' := 25) q80_24 rfl (by decide) rfl ?_
      refine j_iload_n (pc' := 26) q80_25 rfl rfl ?_
      refine j_callV1_pi (d := d + 6) (pc' := 29) q80_26 rfl (Nat.le_of_ble_eq_true rfl) (Nat.le_of_ble_eq_true rfl) rfl (t_Tr_nameFault_37 hρ (d + 4) _ _) (fun r4 => ?_)
      refine j_istore2 (pc' := 30) q80_29 rfl (Nat.le_of_ble_eq_true rfl) rfl ?_
      refine j_iload_n (pc' := 31) q80_30 rfl rfl ?_
      refine j_if_eq (pc' := 34) q80_31 rfl (fun c5 => ?_) (fun c5 => ?_)
      · refine j_iconst (pc' := 49) q80_48 rfl ?_
        refine j_istore3 (pc' := 50) q80_49 rfl (Nat.le_of_ble_eq_true rfl) rfl ?_
        refine j_forget (V' := [.ref 37, .int r3, .null, .int (0 : Int32)]) (z_le_s (z_le_s (z_le_n (z_le_s (z_le_nil))))) ?_
        refine j_loopX (S := Int32 × zS) (E := zS) (fun e => e) 78 (fun s6 => [.ref 37, .int r3, .null, .int s6.1]) (fun s6 => s6.2) (fun b6 => [.ref 37, .int r3, .null, .null]) (fun b6 => b6) (fun b6 => ?_) (fun R6 hR6 hX6 s6 => ?_) ((0 : Int32), r1)
        · show z_J _ _ _ _ _ _ _ _ _ _ _ _
          refine j_aload_n (pc' := 79) q80_78 rfl (by decide) rfl ?_
          refine j_getf (k := 37) (pc' := 82) q80_79 rfl rfl ?_
          refine j_join (T := zS) 89 (fun t11 => [.ref 37, .int r3, .null, .null]) (fun t11 => []) (fun t11 => t11) (fun t11 => ?_) (fun j11 hj11 => ?_)
          · show z_J _ _ _ _ _ _ _ _ _ _ _ _
            refine j_aload_n (pc' := 90) q80_89 rfl (by decide) rfl ?_
            refine j_getf (k := 37) (pc' := 93) q80_90 rfl rfl ?_
            refine j_join (T := zS) 111 (fun t12 => [.ref 37, .null, .null, .null]) (fun t12 => []) (fun t12 => t12) (fun t12 => ?_) (fun j12 hj12 => ?_)
            · show z_J _ _ _ _ _ _ _ _ _ _ _ _
              refine j_aload_n (pc' := 112) q80_111 rfl (by decide) rfl ?_
              refine j_getf (k := 37) (pc' := 115) q80_112 rfl rfl ?_
              refine j_if_ne (pc' := 118) q80_115 rfl (fun c13 => ?_) (fun c13 => ?_)
              · refine j_iconst (pc' := 119) q80_118 rfl ?_
                refine j_goto q80_119 rfl ?_
                exact j_zret q80_123 rfl (Or.inr rfl)
              · refine j_iconst (pc' := 123) q80_122 rfl ?_
                exact j_zret q80_123 rfl (Or.inl rfl)
            · show z_J _ _ _ _ _ _ _ _ _ _ _ _
              refine j_if_ne (pc' := 96) q80_93 rfl (fun c14 => ?_) (fun c14 => ?_)
              · refine j_aload_n (pc' := 97) q80_96 rfl (by decide) rfl ?_
                refine j_iload_n (pc' := 98) q80_97 rfl rfl ?_
                refine j_callV1_v (d := d + 6) (pc' := 101) q80_98 rfl (Nat.le_of_ble_eq_true rfl) (Nat.le_of_ble_eq_true rfl) rfl (t_Tr_take_37 hρ (d + 3) _ _) (fun r15 => ?_)
                refine j_aload_n (pc' := 102) q80_101 rfl (by decide) rfl ?_
                refine j_dup (pc' := 103) q80_102 rfl rfl ?_
                refine j_getf (k := 37) (pc' := 106) q80_103 rfl rfl ?_
                refine j_iconst (pc' := 107) q80_106 rfl ?_
                refine j_iadd (pc' := 108) q80_107 rfl ?_
                refine j_putf (k := 37) (pc' := 111) q80_108 rfl rfl ?_
                refine j_nameS (fun τ16 => ?_)
                refine j_forget (z_le_s (z_le_n (z_le_n (z_le_n (z_le_nil))))) (hj12 τ16)
              · refine j_forget (z_le_s (z_le_n (z_le_n (z_le_n (z_le_nil))))) (hj12 t11)
          · show z_J _ _ _ _ _ _ _ _ _ _ _ _
            refine j_if_ne (pc' := 85) q80_82 rfl (fun c17 => ?_) (fun c17 => ?_)
            · refine j_aload_n (pc' := 86) q80_85 rfl (by decide) rfl ?_
              refine j_callV0_v (d := d + 6) (pc' := 89) q80_86 rfl (Nat.le_of_ble_eq_true rfl) (Nat.le_of_ble_eq_true rfl) rfl (t_Tr_readSemicolon_37 hρ (d + 3) _) (fun r18 => ?_)
              refine j_forget (z_le_s (z_le_s (z_le_n (z_le_n (z_le_nil))))) (hj11 r18)
            · refine j_forget (z_le_s (z_le_s (z_le_n (z_le_n (z_le_nil))))) (hj11 b6)
        · show z_J _ _ _ _ _ _ _ _ _ _ _ _
          refine j_iload_n (pc' := 51) q80_50 rfl rfl ?_
          refine j_gstA (pc' := 54) q80_51 rfl rfl ?_
          refine j_iload_n (pc' := 55) q80_54 rfl rfl ?_
          refine j_if (fun hi7 => ?_) (fun _ => j_none)
          refine j_tald (k := 1001) (N := 8) (pc' := 56) q80_55 ⟨Nat.le_of_ble_eq_true rfl, Nat.le_of_ble_eq_true rfl, rfl⟩ hi7 rfl ?_
          refine j_icmp_ge (pc' := 59) q80_56 rfl (fun c8 => ?_) (fun c8 => ?_)
          · exact j_exit (j_forget (z_le_s (z_le_s (z_le_n (z_le_n (z_le_nil))))) (hX6 s6.2))
          · refine j_aload_n (pc' := 60) q80_59 rfl (by decide) rfl ?_
            refine j_getf (k := 37) (pc' := 63) q80_60 rfl rfl ?_
            refine j_if_ne (pc' := 66) q80_63 rfl (fun c9 => ?_) (fun c9 => ?_)
            · refine j_aload_n (pc' := 67) q80_66 rfl (by decide) rfl ?_
              refine j_iload_n (pc' := 68) q80_67 rfl rfl ?_
              refine j_iload_n (pc' := 69) q80_68 rfl rfl ?_
              refine j_callV2_v (d := d + 6) (pc' := 72) q80_69 rfl (Nat.le_of_ble_eq_true rfl) (Nat.le_of_ble_eq_true rfl) rfl (t_Tr_readField_37 hρ (d + 0) _ _ _) (fun r10 => ?_)
              refine j_iinc3 (pc' := 75) q80_72 rfl (Nat.le_of_ble_eq_true rfl) rfl ?_
              refine j_goto q80_75 rfl ?_
              exact j_again (j_forget (z_le_s (z_le_s (z_le_n (z_le_s (z_le_nil))))) (hR6 ((s6.1 + (1 : Int32)), r10)))
            · exact j_exit (j_forget (z_le_s (z_le_s (z_le_n (z_le_n (z_le_nil))))) (hX6 s6.2))
      · refine j_aload_n (pc' := 35) q80_34 rfl (by decide) rfl ?_
        refine j_iload_n (pc' := 36) q80_35 rfl rfl ?_
        refine j_aload_n (pc' := 37) q80_36 rfl (by decide) rfl ?_
        refine j_getr (k := 37) (q := 40) (pc' := 40) q80_37 rfl (hρ 37 1 40 rfl) rfl ?_
        refine j_getf (k := 40) (pc' := 43) q80_40 rfl rfl ?_
        refine j_callV2_v (d := d + 6) (pc' := 46) q80_43 rfl (Nat.le_of_ble_eq_true rfl) (Nat.le_of_ble_eq_true rfl) rfl (t_Tr_fail_37 hρ (d + 6) _ _ _) (fun r19 => ?_)
        refine j_iconst (pc' := 47) q80_46 rfl ?_
        exact j_zret q80_47 rfl (Or.inl rfl)
theorem q7_0 : z_fi (z_mi 7) 0 = some (0, .aload_n 0, 0, 0, 0, 0, 0) := rfl
theorem q7_1 : z_fi (z_mi 7) 1 = some (1, .getfield 53, 0, 0, 0, 0, 0) := rfl
theorem q7_4 : z_fi (z_mi 7) 4 = some (4, .aload_n 0, 0, 0, 0, 0, 0) := rfl
theorem q7_5 : z_fi (z_mi 7) 5 = some (5, .getfield 57, 0, 0, 1, 0, 0) := rfl
theorem q7_8 : z_fi (z_mi 7) 8 = some (8, .imul, 0, 0, 0, 0, 0) := rfl
theorem q7_9 : z_fi (z_mi 7) 9 = some (9, .istore_n 1, 0, 0, 0, 0, 0) := rfl
theorem q7_10 : z_fi (z_mi 7) 10 = some (10, .iload_n 1, 0, 0, 0, 0, 0) := rfl
theorem q7_11 : z_fi (z_mi 7) 11 = some (11, .bipush 16, 0, 0, 0, 16, 0) := rfl
theorem q7_13 : z_fi (z_mi 7) 13 = some (13, .if_icmp .ge 7, 0, 20, 0, 0, 0) := rfl
theorem q7_16 : z_fi (z_mi 7) 16 = some (16, .iload_n 1, 0, 0, 0, 0, 0) := rfl
theorem q7_17 : z_fi (z_mi 7) 17 = some (17, .goto 5, 0, 22, 0, 0, 0) := rfl
theorem q7_20 : z_fi (z_mi 7) 20 = some (20, .bipush 16, 0, 0, 0, 16, 0) := rfl
theorem q7_22 : z_fi (z_mi 7) 22 = some (22, .ireturn, 0, 0, 0, 0, 0) := rfl
set_option maxRecDepth 20000 in
set_option maxHeartbeats 4000000 in
theorem t_G_cells_17 {xL : Nat} {xs : Nat → Int32} {ρ : Nat → Nat → Option Nat} (hρ : z_hR ρ) (d : Nat)  (σ : zS) : ∀ q, f_G_cells_17  σ = some q → z_ec xL xs ρ (d + 0) 7 [.ref 17] σ (em_pi σ q) := by
  refine j_of (W := [.ref 17, .null]) (fun L hL => ?_) ?_
  · subst hL; exact z_vl_0 _ 1 rfl
  · unfold f_G_cells_17
    refine j_aload_n (pc' := 1) q7_0 rfl (by decide) rfl ?_
    refine j_getf (k := 17) (pc' := 4) q7_1 rfl rfl ?_
    refine j_aload_n (pc' := 5) q7_4 rfl (by decide) rfl ?_
    refine j_getf (k := 17) (pc' := 8) q7_5 rfl rfl ?_
    refine j_imul (pc' := 9) q7_8 rfl ?_
    refine j_istore1 (pc' := 10) q7_9 rfl (Nat.le_of_ble_eq_true rfl) rfl ?_
    refine j_iload_n (pc' := 11) q7_10 rfl rfl ?_
    refine j_bipush (pc' := 13) q7_11 rfl ?_
    refine j_icmp_ge (pc' := 16) q7_13 rfl (fun c1 => ?_) (fun c1 => ?_)
    · refine j_bipush (pc' := 22) q7_20 rfl ?_
      exact j_piret q7_22 rfl
    · refine j_iload_n (pc' := 17) q7_16 rfl rfl ?_
      refine j_goto q7_17 rfl ?_
      exact j_piret q7_22 rfl
theorem q8_0 : z_fi (z_mi 8) 0 = some (0, .iload_n 1, 0, 0, 0, 0, 0) := rfl
theorem q8_1 : z_fi (z_mi 8) 1 = some (1, .ifCond .lt 15, 0, 16, 0, 0, 0) := rfl
theorem q8_4 : z_fi (z_mi 8) 4 = some (4, .iload_n 1, 0, 0, 0, 0, 0) := rfl
theorem q8_5 : z_fi (z_mi 8) 5 = some (5, .aload_n 0, 0, 0, 0, 0, 0) := rfl
theorem q8_6 : z_fi (z_mi 8) 6 = some (6, .invokevirtual 95, 0, 7, 0, 0, 0) := rfl
theorem q8_9 : z_fi (z_mi 8) 9 = some (9, .if_icmp .ge 7, 0, 16, 0, 0, 0) := rfl
theorem q8_12 : z_fi (z_mi 8) 12 = some (12, .iconst 1, 0, 0, 0, 1, 0) := rfl
theorem q8_13 : z_fi (z_mi 8) 13 = some (13, .goto 4, 0, 17, 0, 0, 0) := rfl
theorem q8_16 : z_fi (z_mi 8) 16 = some (16, .iconst 0, 0, 0, 0, 0, 0) := rfl
theorem q8_17 : z_fi (z_mi 8) 17 = some (17, .ireturn, 0, 0, 0, 0, 0) := rfl
set_option maxRecDepth 20000 in
set_option maxHeartbeats 4000000 in
theorem t_G_hasCell_17 {xL : Nat} {xs : Nat → Int32} {ρ : Nat → Nat → Option Nat} (hρ : z_hR ρ) (d : Nat) (a1 : Int32) (σ : zS) : ∀ q, f_G_hasCell_17 a1 σ = some q → z_ec xL xs ρ (d + 1) 8 [.ref 17, .int a1] σ (em_pi σ q) := by
  refine j_of (W := [.ref 17, .int a1]) (fun L hL => ?_) ?_
  · subst hL; exact z_vl_0 _ 0 rfl
  · unfold f_G_hasCell_17
    refine j_iload_n (pc' := 1) q8_0 rfl rfl ?_
    refine j_if_lt (pc' := 4) q8_1 rfl (fun c1 => ?_) (fun c1 => ?_)
    · refine j_iconst (pc' := 17) q8_16 rfl ?_
      exact j_pzret q8_17 rfl (Or.inl rfl)
    · refine j_iload_n (pc' := 5) q8_4 rfl rfl ?_
      refine j_aload_n (pc' := 6) q8_5 rfl (by decide) rfl ?_
      refine j_callV0_pi (d := d + 0) (pc' := 9) q8_6 rfl (Nat.le_of_ble_eq_true rfl) (Nat.le_of_ble_eq_true rfl) rfl (t_G_cells_17 hρ (d + 0) _) (fun r2 => ?_)
      refine j_icmp_ge (pc' := 12) q8_9 rfl (fun c3 => ?_) (fun c3 => ?_)
      · refine j_iconst (pc' := 17) q8_16 rfl ?_
        exact j_pzret q8_17 rfl (Or.inl rfl)
      · refine j_iconst (pc' := 13) q8_12 rfl ?_
        refine j_goto q8_13 rfl ?_
        exact j_pzret q8_17 rfl (Or.inr rfl)
theorem q9_0 : z_fi (z_mi 9) 0 = some (0, .aload_n 0, 0, 0, 0, 0, 0) := rfl
theorem q9_1 : z_fi (z_mi 9) 1 = some (1, .getfield 53, 0, 0, 0, 0, 0) := rfl
theorem q9_4 : z_fi (z_mi 9) 4 = some (4, .ifCond .le 22, 0, 26, 0, 0, 0) := rfl
theorem q9_7 : z_fi (z_mi 9) 7 = some (7, .iload_n 1, 0, 0, 0, 0, 0) := rfl
theorem q9_8 : z_fi (z_mi 9) 8 = some (8, .aload_n 0, 0, 0, 0, 0, 0) := rfl
theorem q9_9 : z_fi (z_mi 9) 9 = some (9, .getfield 53, 0, 0, 0, 0, 0) := rfl
theorem q9_12 : z_fi (z_mi 9) 12 = some (12, .irem, 0, 0, 0, 0, 0) := rfl
theorem q9_13 : z_fi (z_mi 9) 13 = some (13, .aload_n 0, 0, 0, 0, 0, 0) := rfl
theorem q9_14 : z_fi (z_mi 9) 14 = some (14, .getfield 53, 0, 0, 0, 0, 0) := rfl
theorem q9_17 : z_fi (z_mi 9) 17 = some (17, .iconst 1, 0, 0, 0, 1, 0) := rfl
theorem q9_18 : z_fi (z_mi 9) 18 = some (18, .isub, 0, 0, 0, 0, 0) := rfl
theorem q9_19 : z_fi (z_mi 9) 19 = some (19, .if_icmp .ge 7, 0, 26, 0, 0, 0) := rfl
theorem q9_22 : z_fi (z_mi 9) 22 = some (22, .iconst 1, 0, 0, 0, 1, 0) := rfl
theorem q9_23 : z_fi (z_mi 9) 23 = some (23, .goto 4, 0, 27, 0, 0, 0) := rfl
theorem q9_26 : z_fi (z_mi 9) 26 = some (26, .iconst 0, 0, 0, 0, 0, 0) := rfl
theorem q9_27 : z_fi (z_mi 9) 27 = some (27, .ireturn, 0, 0, 0, 0, 0) := rfl
set_option maxRecDepth 20000 in
set_option maxHeartbeats 4000000 in
theorem t_G_hasEast_17 {xL : Nat} {xs : Nat → Int32} {ρ : Nat → Nat → Option Nat} (hρ : z_hR ρ) (d : Nat) (a1 : Int32) (σ : zS) : ∀ q, f_G_hasEast_17 a1 σ = some q → z_ec xL xs ρ (d + 0) 9 [.ref 17, .int a1] σ (em_pi σ q) := by
  refine j_of (W := [.ref 17, .int a1]) (fun L hL => ?_) ?_
  · subst hL; exact z_vl_0 _ 0 rfl
  · unfold f_G_hasEast_17
    refine j_aload_n (pc' := 1) q9_0 rfl (by decide) rfl ?_
    refine j_getf (k := 17) (pc' := 4) q9_1 rfl rfl ?_
    refine j_if_le (pc' := 7) q9_4 rfl (fun c1 => ?_) (fun c1 => ?_)
    · refine j_iconst (pc' := 27) q9_26 rfl ?_
      exact j_pzret q9_27 rfl (Or.inl rfl)
    · refine j_iload_n (pc' := 8) q9_7 rfl rfl ?_
      refine j_aload_n (pc' := 9) q9_8 rfl (by decide) rfl ?_
      refine j_getf (k := 17) (pc' := 12) q9_9 rfl rfl ?_
      refine j_if (fun _ => j_none) (fun hz2 => ?_)
      refine j_irem (pc' := 13) q9_12 hz2 rfl ?_
      refine j_aload_n (pc' := 14) q9_13 rfl (by decide) rfl ?_
      refine j_getf (k := 17) (pc' := 17) q9_14 rfl rfl ?_
      refine j_iconst (pc' := 18) q9_17 rfl ?_
      refine j_isub (pc' := 19) q9_18 rfl ?_
      refine j_icmp_ge (pc' := 22) q9_19 rfl (fun c3 => ?_) (fun c3 => ?_)
      · refine j_iconst (pc' := 27) q9_26 rfl ?_
        exact j_pzret q9_27 rfl (Or.inl rfl)
      · refine j_iconst (pc' := 23) q9_22 rfl ?_
        refine j_goto q9_23 rfl ?_
        exact j_pzret q9_27 rfl (Or.inr rfl)
theorem q10_0 : z_fi (z_mi 10) 0 = some (0, .iload_n 1, 0, 0, 0, 0, 0) := rfl
theorem q10_1 : z_fi (z_mi 10) 1 = some (1, .iconst 1, 0, 0, 0, 1, 0) := rfl
theorem q10_2 : z_fi (z_mi 10) 2 = some (2, .ishr, 0, 0, 0, 0, 0) := rfl
theorem q10_3 : z_fi (z_mi 10) 3 = some (3, .istore_n 2, 0, 0, 0, 0, 0) := rfl
theorem q10_4 : z_fi (z_mi 10) 4 = some (4, .aload_n 0, 0, 0, 0, 0, 0) := rfl
theorem q10_5 : z_fi (z_mi 10) 5 = some (5, .iload_n 2, 0, 0, 0, 0, 0) := rfl
theorem q10_6 : z_fi (z_mi 10) 6 = some (6, .invokevirtual 99, 0, 8, 1, 0, 0) := rfl
theorem q10_9 : z_fi (z_mi 10) 9 = some (9, .ifCond .ne 5, 0, 14, 0, 0, 0) := rfl
theorem q10_12 : z_fi (z_mi 10) 12 = some (12, .iconst 0, 0, 0, 0, 0, 0) := rfl
theorem q10_13 : z_fi (z_mi 10) 13 = some (13, .ireturn, 0, 0, 0, 0, 0) := rfl
theorem q10_14 : z_fi (z_mi 10) 14 = some (14, .iload_n 1, 0, 0, 0, 0, 0) := rfl
theorem q10_15 : z_fi (z_mi 10) 15 = some (15, .iconst 1, 0, 0, 0, 1, 0) := rfl
theorem q10_16 : z_fi (z_mi 10) 16 = some (16, .iand, 0, 0, 0, 0, 0) := rfl
theorem q10_17 : z_fi (z_mi 10) 17 = some (17, .ifCond .ne 11, 0, 28, 0, 0, 0) := rfl
theorem q10_20 : z_fi (z_mi 10) 20 = some (20, .aload_n 0, 0, 0, 0, 0, 0) := rfl
theorem q10_21 : z_fi (z_mi 10) 21 = some (21, .iload_n 2, 0, 0, 0, 0, 0) := rfl
theorem q10_22 : z_fi (z_mi 10) 22 = some (22, .invokevirtual 103, 0, 9, 1, 0, 0) := rfl
theorem q10_25 : z_fi (z_mi 10) 25 = some (25, .goto 13, 0, 38, 0, 0, 0) := rfl
theorem q10_28 : z_fi (z_mi 10) 28 = some (28, .aload_n 0, 0, 0, 0, 0, 0) := rfl
theorem q10_29 : z_fi (z_mi 10) 29 = some (29, .iload_n 2, 0, 0, 0, 0, 0) := rfl
theorem q10_30 : z_fi (z_mi 10) 30 = some (30, .aload_n 0, 0, 0, 0, 0, 0) := rfl
theorem q10_31 : z_fi (z_mi 10) 31 = some (31, .getfield 53, 0, 0, 0, 0, 0) := rfl
theorem q10_34 : z_fi (z_mi 10) 34 = some (34, .iadd, 0, 0, 0, 0, 0) := rfl
theorem q10_35 : z_fi (z_mi 10) 35 = some (35, .invokevirtual 99, 0, 8, 1, 0, 0) := rfl
theorem q10_38 : z_fi (z_mi 10) 38 = some (38, .ireturn, 0, 0, 0, 0, 0) := rfl
set_option maxRecDepth 20000 in
set_option maxHeartbeats 4000000 in
theorem t_G_hasEdge_17 {xL : Nat} {xs : Nat → Int32} {ρ : Nat → Nat → Option Nat} (hρ : z_hR ρ) (d : Nat) (a1 : Int32) (σ : zS) : ∀ q, f_G_hasEdge_17 a1 σ = some q → z_ec xL xs ρ (d + 2) 10 [.ref 17, .int a1] σ (em_pi σ q) := by
  refine j_of (W := [.ref 17, .int a1, .null]) (fun L hL => ?_) ?_
  · subst hL; exact z_vl_0 _ 1 rfl
  · unfold f_G_hasEdge_17
    refine j_iload_n (pc' := 1) q10_0 rfl rfl ?_
    refine j_iconst (pc' := 2) q10_1 rfl ?_
    refine j_ishr (pc' := 3) q10_2 rfl ?_
    refine j_istore2 (pc' := 4) q10_3 rfl (Nat.le_of_ble_eq_true rfl) rfl ?_
    refine j_aload_n (pc' := 5) q10_4 rfl (by decide) rfl ?_
    refine j_iload_n (pc' := 6) q10_5 rfl rfl ?_
    refine j_callV1_pi (d := d + 1) (pc' := 9) q10_6 rfl (Nat.le_of_ble_eq_true rfl) (Nat.le_of_ble_eq_true rfl) rfl (t_G_hasCell_17 hρ (d + 0) _ _) (fun r1 => ?_)
    refine j_if_ne (pc' := 12) q10_9 rfl (fun c2 => ?_) (fun c2 => ?_)
    · refine j_iconst (pc' := 13) q10_12 rfl ?_
      exact j_pzret q10_13 rfl (Or.inl rfl)
    · refine j_iload_n (pc' := 15) q10_14 rfl rfl ?_
      refine j_iconst (pc' := 16) q10_15 rfl ?_
      refine j_iand (pc' := 17) q10_16 rfl ?_
      refine j_if_ne (pc' := 20) q10_17 rfl (fun c3 => ?_) (fun c3 => ?_)
      · refine j_aload_n (pc' := 21) q10_20 rfl (by decide) rfl ?_
        refine j_iload_n (pc' := 22) q10_21 rfl rfl ?_
        refine j_callV1_pi (d := d + 1) (pc' := 25) q10_22 rfl (Nat.le_of_ble_eq_true rfl) (Nat.le_of_ble_eq_true rfl) rfl (t_G_hasEast_17 hρ (d + 1) _ _) (fun r4 => ?_)
        refine j_goto q10_25 rfl ?_
        refine j_if (fun hb5 => ?_) (fun _ => j_none)
        exact j_pzret q10_38 rfl hb5
      · refine j_aload_n (pc' := 29) q10_28 rfl (by decide) rfl ?_
        refine j_iload_n (pc' := 30) q10_29 rfl rfl ?_
        refine j_aload_n (pc' := 31) q10_30 rfl (by decide) rfl ?_
        refine j_getf (k := 17) (pc' := 34) q10_31 rfl rfl ?_
        refine j_iadd (pc' := 35) q10_34 rfl ?_
        refine j_callV1_pi (d := d + 1) (pc' := 38) q10_35 rfl (Nat.le_of_ble_eq_true rfl) (Nat.le_of_ble_eq_true rfl) rfl (t_G_hasCell_17 hρ (d + 0) _ _) (fun r6 => ?_)
        refine j_if (fun hb7 => ?_) (fun _ => j_none)
        exact j_pzret q10_38 rfl hb7
theorem q91_0 : z_fi (z_mi 91) 0 = some (0, .aload_n 0, 0, 0, 0, 0, 0) := rfl
theorem q91_1 : z_fi (z_mi 91) 1 = some (1, .getfield 11, 0, 7, 3, 0, 0) := rfl
theorem q91_4 : z_fi (z_mi 91) 4 = some (4, .iconst 1, 0, 0, 0, 1, 0) := rfl
theorem q91_5 : z_fi (z_mi 91) 5 = some (5, .iaload, 0, 0, 0, 0, 0) := rfl
theorem q91_6 : z_fi (z_mi 91) 6 = some (6, .aload_n 0, 0, 0, 0, 0, 0) := rfl
theorem q91_7 : z_fi (z_mi 91) 7 = some (7, .getfield 11, 0, 7, 3, 0, 0) := rfl
theorem q91_10 : z_fi (z_mi 91) 10 = some (10, .iconst 2, 0, 0, 0, 2, 0) := rfl
theorem q91_11 : z_fi (z_mi 91) 11 = some (11, .iaload, 0, 0, 0, 0, 0) := rfl
theorem q91_12 : z_fi (z_mi 91) 12 = some (12, .ior, 0, 0, 0, 0, 0) := rfl
theorem q91_13 : z_fi (z_mi 91) 13 = some (13, .aload_n 0, 0, 0, 0, 0, 0) := rfl
theorem q91_14 : z_fi (z_mi 91) 14 = some (14, .getfield 11, 0, 7, 3, 0, 0) := rfl
theorem q91_17 : z_fi (z_mi 91) 17 = some (17, .iconst 3, 0, 0, 0, 3, 0) := rfl
theorem q91_18 : z_fi (z_mi 91) 18 = some (18, .iaload, 0, 0, 0, 0, 0) := rfl
theorem q91_19 : z_fi (z_mi 91) 19 = some (19, .ior, 0, 0, 0, 0, 0) := rfl
theorem q91_20 : z_fi (z_mi 91) 20 = some (20, .aload_n 0, 0, 0, 0, 0, 0) := rfl
theorem q91_21 : z_fi (z_mi 91) 21 = some (21, .getfield 22, 0, 7, 2, 0, 0) := rfl
theorem q91_24 : z_fi (z_mi 91) 24 = some (24, .invokevirtual 207, 0, 7, 0, 0, 0) := rfl
theorem q91_27 : z_fi (z_mi 91) 27 = some (27, .iushr, 0, 0, 0, 0, 0) := rfl
theorem q91_28 : z_fi (z_mi 91) 28 = some (28, .ifCond .eq 17, 0, 45, 0, 0, 0) := rfl
theorem q91_31 : z_fi (z_mi 91) 31 = some (31, .aload_n 0, 0, 0, 0, 0, 0) := rfl
theorem q91_32 : z_fi (z_mi 91) 32 = some (32, .bipush 6, 0, 0, 0, 6, 0) := rfl
theorem q91_34 : z_fi (z_mi 91) 34 = some (34, .aload_n 0, 0, 0, 0, 0, 0) := rfl
theorem q91_35 : z_fi (z_mi 91) 35 = some (35, .getfield 18, 0, 7, 0, 0, 0) := rfl
theorem q91_38 : z_fi (z_mi 91) 38 = some (38, .getfield 210, 0, 6, 1, 0, 0) := rfl
theorem q91_41 : z_fi (z_mi 91) 41 = some (41, .invokevirtual 85, 0, 79, 2, 0, 0) := rfl
theorem q91_44 : z_fi (z_mi 91) 44 = some (44, .return_, 0, 0, 0, 0, 0) := rfl
theorem q91_45 : z_fi (z_mi 91) 45 = some (45, .iconst 0, 0, 0, 0, 0, 0) := rfl
theorem q91_46 : z_fi (z_mi 91) 46 = some (46, .istore_n 1, 0, 0, 0, 0, 0) := rfl
theorem q91_47 : z_fi (z_mi 91) 47 = some (47, .iload_n 1, 0, 0, 0, 0, 0) := rfl
theorem q91_48 : z_fi (z_mi 91) 48 = some (48, .bipush 32, 0, 0, 0, 32, 0) := rfl
theorem q91_50 : z_fi (z_mi 91) 50 = some (50, .if_icmp .ge 42, 0, 92, 0, 0, 0) := rfl
theorem q91_53 : z_fi (z_mi 91) 53 = some (53, .aload_n 0, 0, 0, 0, 0, 0) := rfl
theorem q91_54 : z_fi (z_mi 91) 54 = some (54, .iconst 4, 0, 0, 0, 4, 0) := rfl
theorem q91_55 : z_fi (z_mi 91) 55 = some (55, .iload_n 1, 0, 0, 0, 0, 0) := rfl
theorem q91_56 : z_fi (z_mi 91) 56 = some (56, .invokevirtual 145, 0, 86, 2, 0, 0) := rfl
theorem q91_59 : z_fi (z_mi 91) 59 = some (59, .ifCond .eq 27, 0, 86, 0, 0, 0) := rfl
theorem q91_62 : z_fi (z_mi 91) 62 = some (62, .aload_n 0, 0, 0, 0, 0, 0) := rfl
theorem q91_63 : z_fi (z_mi 91) 63 = some (63, .getfield 22, 0, 7, 2, 0, 0) := rfl
theorem q91_66 : z_fi (z_mi 91) 66 = some (66, .iload_n 1, 0, 0, 0, 0, 0) := rfl
theorem q91_67 : z_fi (z_mi 91) 67 = some (67, .invokevirtual 213, 0, 10, 1, 0, 0) := rfl
theorem q91_70 : z_fi (z_mi 91) 70 = some (70, .ifCond .ne 16, 0, 86, 0, 0, 0) := rfl
theorem q91_73 : z_fi (z_mi 91) 73 = some (73, .aload_n 0, 0, 0, 0, 0, 0) := rfl
theorem q91_74 : z_fi (z_mi 91) 74 = some (74, .bipush 7, 0, 0, 0, 7, 0) := rfl
theorem q91_76 : z_fi (z_mi 91) 76 = some (76, .aload_n 0, 0, 0, 0, 0, 0) := rfl
theorem q91_77 : z_fi (z_mi 91) 77 = some (77, .getfield 18, 0, 7, 0, 0, 0) := rfl
theorem q91_80 : z_fi (z_mi 91) 80 = some (80, .getfield 210, 0, 6, 1, 0, 0) := rfl
theorem q91_83 : z_fi (z_mi 91) 83 = some (83, .invokevirtual 85, 0, 79, 2, 0, 0) := rfl
theorem q91_86 : z_fi (z_mi 91) 86 = some (86, .iinc 1 1, 0, 0, 0, 1, 0) := rfl
theorem q91_89 : z_fi (z_mi 91) 89 = some (89, .goto (-42), 0, 47, 0, 0, 0) := rfl
theorem q91_92 : z_fi (z_mi 91) 92 = some (92, .return_, 0, 0, 0, 0, 0) := rfl
set_option maxRecDepth 20000 in
set_option maxHeartbeats 4000000 in
theorem t_Tr_checkAll_37 {xL : Nat} {xs : Nat → Int32} {ρ : Nat → Nat → Option Nat} (hρ : z_hR ρ) (d : Nat)  (σ : zS) : ∀ q, f_Tr_checkAll_37  σ = some q → z_ec xL xs ρ (d + 3) 91 [.ref 37] σ (em_v q) := by
  refine j_of (W := [.ref 37, .null]) (fun L hL => ?_) ?_
  · subst hL; exact z_vl_0 _ 1 rfl
  · unfold f_Tr_checkAll_37
    refine j_aload_n (pc' := 1) q91_0 rfl (by decide) rfl ?_
    refine j_getr (k := 37) (q := 38) (pc' := 4) q91_1 rfl (hρ 37 3 38 rfl) rfl ?_
    refine j_iconst (pc' := 5) q91_4 rfl ?_
    refine j_iald (k := 38) (N := 8) (pc' := 6) q91_5 rfl (by decide) rfl ?_
    refine j_aload_n (pc' := 7) q91_6 rfl (by decide) rfl ?_
    refine j_getr (k := 37) (q := 38) (pc' := 10) q91_7 rfl (hρ 37 3 38 rfl) rfl ?_
    refine j_iconst (pc' := 11) q91_10 rfl ?_
    refine j_iald (k := 38) (N := 8) (pc' := 12) q91_11 rfl (by decide) rfl ?_
    refine j_ior (pc' := 13) q91_12 rfl ?_
    refine j_aload_n (pc' := 14) q91_13 rfl (by decide) rfl ?_
    refine j_getr (k := 37) (q := 38) (pc' := 17) q91_14 rfl (hρ 37 3 38 rfl) rfl ?_
    refine j_iconst (pc' := 18) q91_17 rfl ?_
    refine j_iald (k := 38) (N := 8) (pc' := 19) q91_18 rfl (by decide) rfl ?_
    refine j_ior (pc' := 20) q91_19 rfl ?_
    refine j_aload_n (pc' := 21) q91_20 rfl (by decide) rfl ?_
    refine j_getr (k := 37) (q := 17) (pc' := 24) q91_21 rfl (hρ 37 2 17 rfl) rfl ?_
    refine j_callV0_pi (d := d + 2) (pc' := 27) q91_24 rfl (Nat.le_of_ble_eq_true rfl) (Nat.le_of_ble_eq_true rfl) rfl (t_G_cells_17 hρ (d + 2) _) (fun r1 => ?_)
    refine j_iushr (pc' := 28) q91_27 rfl ?_
    refine j_if_eq (pc' := 31) q91_28 rfl (fun c2 => ?_) (fun c2 => ?_)
    · refine j_iconst (pc' := 46) q91_45 rfl ?_
      refine j_istore1 (pc' := 47) q91_46 rfl (Nat.le_of_ble_eq_true rfl) rfl ?_
      refine j_forget (V' := [.ref 37, .int (0 : Int32)]) (z_le_s (z_le_s (z_le_nil))) ?_
      refine j_loopX (S := Int32 × zS) (E := zS) (fun e => e) 92 (fun s3 => [.ref 37, .int s3.1]) (fun s3 => s3.2) (fun b3 => [.null, .null]) (fun b3 => b3) (fun b3 => ?_) (fun R3 hR3 hX3 s3 => ?_) ((0 : Int32), σ)
      · show z_J _ _ _ _ _ _ _ _ _ _ _ _
        exact j_vret q91_92 rfl
      · show z_J _ _ _ _ _ _ _ _ _ _ _ _
        refine j_iload_n (pc' := 48) q91_47 rfl rfl ?_
        refine j_bipush (pc' := 50) q91_48 rfl ?_
        refine j_icmp_ge (pc' := 53) q91_50 rfl (fun c4 => ?_) (fun c4 => ?_)
        · exact j_exit (j_forget (z_le_n (z_le_n (z_le_nil))) (hX3 s3.2))
        · refine j_aload_n (pc' := 54) q91_53 rfl (by decide) rfl ?_
          refine j_iconst (pc' := 55) q91_54 rfl ?_
          refine j_iload_n (pc' := 56) q91_55 rfl rfl ?_
          refine j_callV2_pi (d := d + 2) (pc' := 59) q91_56 rfl (Nat.le_of_ble_eq_true rfl) (Nat.le_of_ble_eq_true rfl) rfl (t_Tr_isTold_37 hρ (d + 1) _ _ _) (fun r5 => ?_)
          refine j_join (T := zS) 86 (fun t6 => [.ref 37, .int s3.1]) (fun t6 => []) (fun t6 => t6) (fun t6 => ?_) (fun j6 hj6 => ?_)
          · show z_J _ _ _ _ _ _ _ _ _ _ _ _
            refine j_iinc1 (pc' := 89) q91_86 rfl (Nat.le_of_ble_eq_true rfl) rfl ?_
            refine j_goto q91_89 rfl ?_
            exact j_again (j_forget (z_le_s (z_le_s (z_le_nil))) (hR3 ((s3.1 + (1 : Int32)), t6)))
          · show z_J _ _ _ _ _ _ _ _ _ _ _ _
            refine j_if_eq (pc' := 62) q91_59 rfl (fun c7 => ?_) (fun c7 => ?_)
            · refine j_forget (z_le_s (z_le_s (z_le_nil))) (hj6 s3.2)
            · refine j_aload_n (pc' := 63) q91_62 rfl (by decide) rfl ?_
              refine j_getr (k := 37) (q := 17) (pc' := 66) q91_63 rfl (hρ 37 2 17 rfl) rfl ?_
              refine j_iload_n (pc' := 67) q91_66 rfl rfl ?_
              refine j_callV1_pi (d := d + 2) (pc' := 70) q91_67 rfl (Nat.le_of_ble_eq_true rfl) (Nat.le_of_ble_eq_true rfl) rfl (t_G_hasEdge_17 hρ (d + 0) _ _) (fun r8 => ?_)
              refine j_if_ne (pc' := 73) q91_70 rfl (fun c9 => ?_) (fun c9 => ?_)
              · refine j_aload_n (pc' := 74) q91_73 rfl (by decide) rfl ?_
                refine j_bipush (pc' := 76) q91_74 rfl ?_
                refine j_aload_n (pc' := 77) q91_76 rfl (by decide) rfl ?_
                refine j_getr (k := 37) (q := 35) (pc' := 80) q91_77 rfl (hρ 37 0 35 rfl) rfl ?_
                refine j_getf (k := 35) (pc' := 83) q91_80 rfl rfl ?_
                refine j_callV2_v (d := d + 2) (pc' := 86) q91_83 rfl (Nat.le_of_ble_eq_true rfl) (Nat.le_of_ble_eq_true rfl) rfl (t_Tr_fail_37 hρ (d + 2) _ _ _) (fun r10 => ?_)
                refine j_forget (z_le_s (z_le_s (z_le_nil))) (hj6 r10)
              · refine j_forget (z_le_s (z_le_s (z_le_nil))) (hj6 s3.2)
    · refine j_aload_n (pc' := 32) q91_31 rfl (by decide) rfl ?_
      refine j_bipush (pc' := 34) q91_32 rfl ?_
      refine j_aload_n (pc' := 35) q91_34 rfl (by decide) rfl ?_
      refine j_getr (k := 37) (q := 35) (pc' := 38) q91_35 rfl (hρ 37 0 35 rfl) rfl ?_
      refine j_getf (k := 35) (pc' := 41) q91_38 rfl rfl ?_
      refine j_callV2_v (d := d + 2) (pc' := 44) q91_41 rfl (Nat.le_of_ble_eq_true rfl) (Nat.le_of_ble_eq_true rfl) rfl (t_Tr_fail_37 hρ (d + 2) _ _ _) (fun r11 => ?_)
      exact j_vret q91_44 rfl
theorem q78_0 : z_fi (z_mi 78) 0 = some (0, .aload_n 0, 0, 0, 0, 0, 0) := rfl
theorem q78_1 : z_fi (z_mi 78) 1 = some (1, .getfield 22, 0, 7, 2, 0, 0) := rfl
theorem q78_4 : z_fi (z_mi 78) 4 = some (4, .invokevirtual 35, 0, 5, 0, 0, 0) := rfl
theorem q78_7 : z_fi (z_mi 78) 7 = some (7, .aload_n 0, 0, 0, 0, 0, 0) := rfl
theorem q78_8 : z_fi (z_mi 78) 8 = some (8, .getfield 31, 0, 7, 1, 0, 0) := rfl
theorem q78_11 : z_fi (z_mi 78) 11 = some (11, .invokevirtual 40, 0, 93, 0, 0, 0) := rfl
theorem q78_14 : z_fi (z_mi 78) 14 = some (14, .aload_n 0, 0, 0, 0, 0, 0) := rfl
theorem q78_15 : z_fi (z_mi 78) 15 = some (15, .getfield 11, 0, 7, 3, 0, 0) := rfl
theorem q78_18 : z_fi (z_mi 78) 18 = some (18, .iconst 0, 0, 0, 0, 0, 0) := rfl
theorem q78_19 : z_fi (z_mi 78) 19 = some (19, .invokestatic 43, 1, 240, 2, 0, 0) := rfl
theorem q78_22 : z_fi (z_mi 78) 22 = some (22, .aload_n 0, 0, 0, 0, 0, 0) := rfl
theorem q78_23 : z_fi (z_mi 78) 23 = some (23, .iconst 0, 0, 0, 0, 0, 0) := rfl
theorem q78_24 : z_fi (z_mi 78) 24 = some (24, .putfield 49, 0, 7, 5, 0, 0) := rfl
theorem q78_27 : z_fi (z_mi 78) 27 = some (27, .aload_n 0, 0, 0, 0, 0, 0) := rfl
theorem q78_28 : z_fi (z_mi 78) 28 = some (28, .iconst 0, 0, 0, 0, 0, 0) := rfl
theorem q78_29 : z_fi (z_mi 78) 29 = some (29, .putfield 53, 0, 7, 6, 0, 0) := rfl
theorem q78_32 : z_fi (z_mi 78) 32 = some (32, .aload_n 0, 0, 0, 0, 0, 0) := rfl
theorem q78_33 : z_fi (z_mi 78) 33 = some (33, .iconst 0, 0, 0, 0, 0, 0) := rfl
theorem q78_34 : z_fi (z_mi 78) 34 = some (34, .putfield 56, 0, 7, 7, 0, 0) := rfl
theorem q78_37 : z_fi (z_mi 78) 37 = some (37, .iconst 1, 0, 0, 0, 1, 0) := rfl
theorem q78_38 : z_fi (z_mi 78) 38 = some (38, .istore_n 1, 0, 0, 0, 0, 0) := rfl
theorem q78_39 : z_fi (z_mi 78) 39 = some (39, .iconst 0, 0, 0, 0, 0, 0) := rfl
theorem q78_40 : z_fi (z_mi 78) 40 = some (40, .istore_n 2, 0, 0, 0, 0, 0) := rfl
theorem q78_41 : z_fi (z_mi 78) 41 = some (41, .iload_n 2, 0, 0, 0, 0, 0) := rfl
theorem q78_42 : z_fi (z_mi 78) 42 = some (42, .sipush 160, 0, 0, 0, 160, 0) := rfl
theorem q78_45 : z_fi (z_mi 78) 45 = some (45, .if_icmp .gt 18, 0, 63, 0, 0, 0) := rfl
theorem q78_48 : z_fi (z_mi 78) 48 = some (48, .iload_n 1, 0, 0, 0, 0, 0) := rfl
theorem q78_49 : z_fi (z_mi 78) 49 = some (49, .ifCond .eq 14, 0, 63, 0, 0, 0) := rfl
theorem q78_52 : z_fi (z_mi 78) 52 = some (52, .aload_n 0, 0, 0, 0, 0, 0) := rfl
theorem q78_53 : z_fi (z_mi 78) 53 = some (53, .invokevirtual 61, 0, 80, 0, 0, 0) := rfl
theorem q78_56 : z_fi (z_mi 78) 56 = some (56, .istore_n 1, 0, 0, 0, 0, 0) := rfl
theorem q78_57 : z_fi (z_mi 78) 57 = some (57, .iinc 2 1, 0, 0, 0, 1, 0) := rfl
theorem q78_60 : z_fi (z_mi 78) 60 = some (60, .goto (-19), 0, 41, 0, 0, 0) := rfl
theorem q78_63 : z_fi (z_mi 78) 63 = some (63, .aload_n 0, 0, 0, 0, 0, 0) := rfl
theorem q78_64 : z_fi (z_mi 78) 64 = some (64, .getfield 53, 0, 7, 6, 0, 0) := rfl
theorem q78_67 : z_fi (z_mi 78) 67 = some (67, .ifCond .ne 7, 0, 74, 0, 0, 0) := rfl
theorem q78_70 : z_fi (z_mi 78) 70 = some (70, .aload_n 0, 0, 0, 0, 0, 0) := rfl
theorem q78_71 : z_fi (z_mi 78) 71 = some (71, .invokevirtual 65, 0, 91, 0, 0, 0) := rfl
theorem q78_74 : z_fi (z_mi 78) 74 = some (74, .aload_n 0, 0, 0, 0, 0, 0) := rfl
theorem q78_75 : z_fi (z_mi 78) 75 = some (75, .getfield 53, 0, 7, 6, 0, 0) := rfl
theorem q78_78 : z_fi (z_mi 78) 78 = some (78, .ifCond .ne 7, 0, 85, 0, 0, 0) := rfl
theorem q78_81 : z_fi (z_mi 78) 81 = some (81, .iconst 1, 0, 0, 0, 1, 0) := rfl
theorem q78_82 : z_fi (z_mi 78) 82 = some (82, .goto 4, 0, 86, 0, 0, 0) := rfl
theorem q78_85 : z_fi (z_mi 78) 85 = some (85, .iconst 0, 0, 0, 0, 0, 0) := rfl
theorem q78_86 : z_fi (z_mi 78) 86 = some (86, .ireturn, 0, 0, 0, 0, 0) := rfl
set_option maxRecDepth 20000 in
set_option maxHeartbeats 4000000 in
theorem t_Tr_readAll_37 {xL : Nat} {xs : Nat → Int32} {ρ : Nat → Nat → Option Nat} (hρ : z_hR ρ) (d : Nat)  (σ : zS) : ∀ q, f_Tr_readAll_37  σ = some q → z_ec xL xs ρ (d + 8) 78 [.ref 37] σ (em_i q) := by
  refine j_of (W := [.ref 37, .null, .null]) (fun L hL => ?_) ?_
  · subst hL; exact z_vl_0 _ 2 rfl
  · unfold f_Tr_readAll_37
    refine j_aload_n (pc' := 1) q78_0 rfl (by decide) rfl ?_
    refine j_getr (k := 37) (q := 17) (pc' := 4) q78_1 rfl (hρ 37 2 17 rfl) rfl ?_
    refine j_callV0_v (d := d + 7) (pc' := 7) q78_4 rfl (Nat.le_of_ble_eq_true rfl) (Nat.le_of_ble_eq_true rfl) rfl (t_G_clear_17 hρ (d + 5) _) (fun r1 => ?_)
    refine j_aload_n (pc' := 8) q78_7 rfl (by decide) rfl ?_
    refine j_getr (k := 37) (q := 40) (pc' := 11) q78_8 rfl (hρ 37 1 40 rfl) rfl ?_
    refine j_callV0_v (d := d + 7) (pc' := 14) q78_11 rfl (Nat.le_of_ble_eq_true rfl) (Nat.le_of_ble_eq_true rfl) rfl (t_Tk_begin_40 hρ (d + 7) _) (fun r2 => ?_)
    refine j_aload_n (pc' := 15) q78_14 rfl (by decide) rfl ?_
    refine j_getr (k := 37) (q := 38) (pc' := 18) q78_15 rfl (hρ 37 3 38 rfl) rfl ?_
    refine j_iconst (pc' := 19) q78_18 rfl ?_
    refine j_callS2_v (d := d + 7) (pc' := 22) q78_19 (Or.inl rfl) (Nat.le_of_ble_eq_true rfl) (Nat.le_of_ble_eq_true rfl) rfl (t_JA_fill_38 hρ (d + 7) _ _) (fun r3 => ?_)
    refine j_aload_n (pc' := 23) q78_22 rfl (by decide) rfl ?_
    refine j_iconst (pc' := 24) q78_23 rfl ?_
    refine j_putf (k := 37) (pc' := 27) q78_24 rfl rfl ?_
    refine j_nameS (fun τ4 => ?_)
    refine j_aload_n (pc' := 28) q78_27 rfl (by decide) rfl ?_
    refine j_iconst (pc' := 29) q78_28 rfl ?_
    refine j_putf (k := 37) (pc' := 32) q78_29 rfl rfl ?_
    refine j_nameS (fun τ5 => ?_)
    refine j_aload_n (pc' := 33) q78_32 rfl (by decide) rfl ?_
    refine j_iconst (pc' := 34) q78_33 rfl ?_
    refine j_putf (k := 37) (pc' := 37) q78_34 rfl rfl ?_
    refine j_nameS (fun τ6 => ?_)
    refine j_iconst (pc' := 38) q78_37 rfl ?_
    refine j_istore1 (pc' := 39) q78_38 rfl (Nat.le_of_ble_eq_true rfl) rfl ?_
    refine j_iconst (pc' := 40) q78_39 rfl ?_
    refine j_istore2 (pc' := 41) q78_40 rfl (Nat.le_of_ble_eq_true rfl) rfl ?_
    refine j_forget (V' := [.ref 37, .int (1 : Int32), .int (0 : Int32)]) (z_le_s (z_le_s (z_le_s (z_le_nil)))) ?_
    refine j_loopX (S := Int32 × Int32 × zS) (E := zS) (fun e => e) 63 (fun s7 => [.ref 37, .int s7.1, .int s7.2.1]) (fun s7 => s7.2.2) (fun b7 => [.ref 37, .null, .null]) (fun b7 => b7) (fun b7 => ?_) (fun R7 hR7 hX7 s7 => ?_) ((1 : Int32), (0 : Int32), τ6)
    · show z_J _ _ _ _ _ _ _ _ _ _ _ _
      refine j_aload_n (pc' := 64) q78_63 rfl (by decide) rfl ?_
      refine j_getf (k := 37) (pc' := 67) q78_64 rfl rfl ?_
      refine j_join (T := zS) 74 (fun t11 => [.ref 37, .null, .null]) (fun t11 => []) (fun t11 => t11) (fun t11 => ?_) (fun j11 hj11 => ?_)
      · show z_J _ _ _ _ _ _ _ _ _ _ _ _
        refine j_aload_n (pc' := 75) q78_74 rfl (by decide) rfl ?_
        refine j_getf (k := 37) (pc' := 78) q78_75 rfl rfl ?_
        refine j_if_ne (pc' := 81) q78_78 rfl (fun c12 => ?_) (fun c12 => ?_)
        · refine j_iconst (pc' := 82) q78_81 rfl ?_
          refine j_goto q78_82 rfl ?_
          exact j_zret q78_86 rfl (Or.inr rfl)
        · refine j_iconst (pc' := 86) q78_85 rfl ?_
          exact j_zret q78_86 rfl (Or.inl rfl)
      · show z_J _ _ _ _ _ _ _ _ _ _ _ _
        refine j_if_ne (pc' := 70) q78_67 rfl (fun c13 => ?_) (fun c13 => ?_)
        · refine j_aload_n (pc' := 71) q78_70 rfl (by decide) rfl ?_
          refine j_callV0_v (d := d + 7) (pc' := 74) q78_71 rfl (Nat.le_of_ble_eq_true rfl) (Nat.le_of_ble_eq_true rfl) rfl (t_Tr_checkAll_37 hρ (d + 4) _) (fun r14 => ?_)
          refine j_forget (z_le_s (z_le_n (z_le_n (z_le_nil)))) (hj11 r14)
        · refine j_forget (z_le_s (z_le_n (z_le_n (z_le_nil)))) (hj11 b7)
    · show z_J _ _ _ _ _ _ _ _ _ _ _ _
      refine j_iload_n (pc' := 42) q78_41 rfl rfl ?_
      refine j_sipush (pc' := 45) q78_42 rfl ?_
      refine j_icmp_gt (pc' := 48) q78_45 rfl (fun c8 => ?_) (fun c8 => ?_)
      · exact j_exit (j_forget (z_le_s (z_le_n (z_le_n (z_le_nil)))) (hX7 s7.2.2))
      · refine j_iload_n (pc' := 49) q78_48 rfl rfl ?_
        refine j_if_eq (pc' := 52) q78_49 rfl (fun c9 => ?_) (fun c9 => ?_)
        · exact j_exit (j_forget (z_le_s (z_le_n (z_le_n (z_le_nil)))) (hX7 s7.2.2))
        · refine j_aload_n (pc' := 53) q78_52 rfl (by decide) rfl ?_
          refine j_callV0_i (d := d + 7) (pc' := 56) q78_53 rfl (Nat.le_of_ble_eq_true rfl) (Nat.le_of_ble_eq_true rfl) rfl (t_Tr_readLine_37 hρ (d + 0) _) (fun r10 => ?_)
          refine j_istore1 (pc' := 57) q78_56 rfl (Nat.le_of_ble_eq_true rfl) rfl ?_
          refine j_iinc2 (pc' := 60) q78_57 rfl (Nat.le_of_ble_eq_true rfl) rfl ?_
          refine j_goto q78_60 rfl ?_
          exact j_again (j_forget (z_le_s (z_le_s (z_le_s (z_le_nil)))) (hR7 (r10.1, (s7.2.1 + (1 : Int32)), r10.2)))
theorem q37_0 : z_fi (z_mi 37) 0 = some (0, .aload_n 1, 0, 0, 0, 0, 0) := rfl
theorem q37_1 : z_fi (z_mi 37) 1 = some (1, .getfield 9, 0, 1, 0, 0, 0) := rfl
theorem q37_4 : z_fi (z_mi 37) 4 = some (4, .iconst 0, 0, 0, 0, 0, 0) := rfl
theorem q37_5 : z_fi (z_mi 37) 5 = some (5, .aload_n 0, 0, 0, 0, 0, 0) := rfl
theorem q37_6 : z_fi (z_mi 37) 6 = some (6, .getfield 9, 0, 1, 0, 0, 0) := rfl
theorem q37_9 : z_fi (z_mi 37) 9 = some (9, .iconst 0, 0, 0, 0, 0, 0) := rfl
theorem q37_10 : z_fi (z_mi 37) 10 = some (10, .iconst 5, 0, 0, 0, 5, 0) := rfl
theorem q37_11 : z_fi (z_mi 37) 11 = some (11, .invokestatic 25, 6, 0, 5, 0, 0) := rfl
theorem q37_14 : z_fi (z_mi 37) 14 = some (14, .aload_n 1, 0, 0, 0, 0, 0) := rfl
theorem q37_15 : z_fi (z_mi 37) 15 = some (15, .getfield 15, 0, 1, 1, 0, 0) := rfl
theorem q37_18 : z_fi (z_mi 37) 18 = some (18, .iconst 0, 0, 0, 0, 0, 0) := rfl
theorem q37_19 : z_fi (z_mi 37) 19 = some (19, .aload_n 0, 0, 0, 0, 0, 0) := rfl
theorem q37_20 : z_fi (z_mi 37) 20 = some (20, .getfield 15, 0, 1, 1, 0, 0) := rfl
theorem q37_23 : z_fi (z_mi 37) 23 = some (23, .iconst 0, 0, 0, 0, 0, 0) := rfl
theorem q37_24 : z_fi (z_mi 37) 24 = some (24, .iconst 5, 0, 0, 0, 5, 0) := rfl
theorem q37_25 : z_fi (z_mi 37) 25 = some (25, .invokestatic 25, 6, 0, 5, 0, 0) := rfl
theorem q37_28 : z_fi (z_mi 37) 28 = some (28, .aload_n 1, 0, 0, 0, 0, 0) := rfl
theorem q37_29 : z_fi (z_mi 37) 29 = some (29, .getfield 18, 0, 1, 2, 0, 0) := rfl
theorem q37_32 : z_fi (z_mi 37) 32 = some (32, .iconst 0, 0, 0, 0, 0, 0) := rfl
theorem q37_33 : z_fi (z_mi 37) 33 = some (33, .aload_n 0, 0, 0, 0, 0, 0) := rfl
theorem q37_34 : z_fi (z_mi 37) 34 = some (34, .getfield 18, 0, 1, 2, 0, 0) := rfl
theorem q37_37 : z_fi (z_mi 37) 37 = some (37, .iconst 0, 0, 0, 0, 0, 0) := rfl
theorem q37_38 : z_fi (z_mi 37) 38 = some (38, .iconst 5, 0, 0, 0, 5, 0) := rfl
theorem q37_39 : z_fi (z_mi 37) 39 = some (39, .invokestatic 25, 6, 0, 5, 0, 0) := rfl
theorem q37_42 : z_fi (z_mi 37) 42 = some (42, .aload_n 0, 0, 0, 0, 0, 0) := rfl
theorem q37_43 : z_fi (z_mi 37) 43 = some (43, .aload_n 1, 0, 0, 0, 0, 0) := rfl
theorem q37_44 : z_fi (z_mi 37) 44 = some (44, .getfield 21, 0, 1, 3, 0, 0) := rfl
theorem q37_47 : z_fi (z_mi 37) 47 = some (47, .putfield 21, 0, 1, 3, 0, 0) := rfl
theorem q37_50 : z_fi (z_mi 37) 50 = some (50, .return_, 0, 0, 0, 0, 0) := rfl
set_option maxRecDepth 20000 in
set_option maxHeartbeats 4000000 in
theorem t_Lw_copyFrom_7_23 {xL : Nat} {xs : Nat → Int32} {ρ : Nat → Nat → Option Nat} (hρ : z_hR ρ) (d : Nat)  (σ : zS) : ∀ q, f_Lw_copyFrom_7_23  σ = some q → z_ec xL xs ρ (d + 0) 37 [.ref 7, .ref 23] σ (em_v q) := by
  refine j_of (W := [.ref 7, .ref 23]) (fun L hL => ?_) ?_
  · subst hL; exact z_vl_0 _ 0 rfl
  · unfold f_Lw_copyFrom_7_23
    refine j_aload_n (pc' := 1) q37_0 rfl (by decide) rfl ?_
    refine j_getr (k := 23) (q := 24) (pc' := 4) q37_1 rfl (hρ 23 0 24 rfl) rfl ?_
    refine j_iconst (pc' := 5) q37_4 rfl ?_
    refine j_aload_n (pc' := 6) q37_5 rfl (by decide) rfl ?_
    refine j_getr (k := 7) (q := 8) (pc' := 9) q37_6 rfl (hρ 7 0 8 rfl) rfl ?_
    refine j_iconst (pc' := 10) q37_9 rfl ?_
    refine j_iconst (pc' := 11) q37_10 rfl ?_
    refine j_acopy (ks := 24) (kd := 8) (pc' := 14) q37_11 rfl (by decide) (Nat.le_of_ble_eq_true rfl) rfl ?_
    refine j_nameS (fun τ1 => ?_)
    refine j_aload_n (pc' := 15) q37_14 rfl (by decide) rfl ?_
    refine j_getr (k := 23) (q := 25) (pc' := 18) q37_15 rfl (hρ 23 1 25 rfl) rfl ?_
    refine j_iconst (pc' := 19) q37_18 rfl ?_
    refine j_aload_n (pc' := 20) q37_19 rfl (by decide) rfl ?_
    refine j_getr (k := 7) (q := 9) (pc' := 23) q37_20 rfl (hρ 7 1 9 rfl) rfl ?_
    refine j_iconst (pc' := 24) q37_23 rfl ?_
    refine j_iconst (pc' := 25) q37_24 rfl ?_
    refine j_acopy (ks := 25) (kd := 9) (pc' := 28) q37_25 rfl (by decide) (Nat.le_of_ble_eq_true rfl) rfl ?_
    refine j_nameS (fun τ2 => ?_)
    refine j_aload_n (pc' := 29) q37_28 rfl (by decide) rfl ?_
    refine j_getr (k := 23) (q := 26) (pc' := 32) q37_29 rfl (hρ 23 2 26 rfl) rfl ?_
    refine j_iconst (pc' := 33) q37_32 rfl ?_
    refine j_aload_n (pc' := 34) q37_33 rfl (by decide) rfl ?_
    refine j_getr (k := 7) (q := 10) (pc' := 37) q37_34 rfl (hρ 7 2 10 rfl) rfl ?_
    refine j_iconst (pc' := 38) q37_37 rfl ?_
    refine j_iconst (pc' := 39) q37_38 rfl ?_
    refine j_acopy (ks := 26) (kd := 10) (pc' := 42) q37_39 rfl (by decide) (Nat.le_of_ble_eq_true rfl) rfl ?_
    refine j_nameS (fun τ3 => ?_)
    refine j_aload_n (pc' := 43) q37_42 rfl (by decide) rfl ?_
    refine j_aload_n (pc' := 44) q37_43 rfl (by decide) rfl ?_
    refine j_getf (k := 23) (pc' := 47) q37_44 rfl rfl ?_
    refine j_putf (k := 7) (pc' := 50) q37_47 rfl rfl ?_
    refine j_nameS (fun τ4 => ?_)
    exact j_vret q37_50 rfl
theorem q65_0 : z_fi (z_mi 65) 0 = some (0, .aload_n 1, 0, 0, 0, 0, 0) := rfl
theorem q65_1 : z_fi (z_mi 65) 1 = some (1, .getfield 9, 0, 4, 0, 0, 0) := rfl
theorem q65_4 : z_fi (z_mi 65) 4 = some (4, .iconst 0, 0, 0, 0, 0, 0) := rfl
theorem q65_5 : z_fi (z_mi 65) 5 = some (5, .aload_n 0, 0, 0, 0, 0, 0) := rfl
theorem q65_6 : z_fi (z_mi 65) 6 = some (6, .getfield 9, 0, 4, 0, 0, 0) := rfl
theorem q65_9 : z_fi (z_mi 65) 9 = some (9, .iconst 0, 0, 0, 0, 0, 0) := rfl
theorem q65_10 : z_fi (z_mi 65) 10 = some (10, .iconst 4, 0, 0, 0, 4, 0) := rfl
theorem q65_11 : z_fi (z_mi 65) 11 = some (11, .invokestatic 32, 6, 0, 5, 0, 0) := rfl
theorem q65_14 : z_fi (z_mi 65) 14 = some (14, .aload_n 1, 0, 0, 0, 0, 0) := rfl
theorem q65_15 : z_fi (z_mi 65) 15 = some (15, .getfield 15, 0, 4, 1, 0, 0) := rfl
theorem q65_18 : z_fi (z_mi 65) 18 = some (18, .iconst 0, 0, 0, 0, 0, 0) := rfl
theorem q65_19 : z_fi (z_mi 65) 19 = some (19, .aload_n 0, 0, 0, 0, 0, 0) := rfl
theorem q65_20 : z_fi (z_mi 65) 20 = some (20, .getfield 15, 0, 4, 1, 0, 0) := rfl
theorem q65_23 : z_fi (z_mi 65) 23 = some (23, .iconst 0, 0, 0, 0, 0, 0) := rfl
theorem q65_24 : z_fi (z_mi 65) 24 = some (24, .iconst 4, 0, 0, 0, 4, 0) := rfl
theorem q65_25 : z_fi (z_mi 65) 25 = some (25, .invokestatic 32, 6, 0, 5, 0, 0) := rfl
theorem q65_28 : z_fi (z_mi 65) 28 = some (28, .aload_n 0, 0, 0, 0, 0, 0) := rfl
theorem q65_29 : z_fi (z_mi 65) 29 = some (29, .aload_n 1, 0, 0, 0, 0, 0) := rfl
theorem q65_30 : z_fi (z_mi 65) 30 = some (30, .getfield 24, 0, 4, 2, 0, 0) := rfl
theorem q65_33 : z_fi (z_mi 65) 33 = some (33, .putfield 24, 0, 4, 2, 0, 0) := rfl
theorem q65_36 : z_fi (z_mi 65) 36 = some (36, .return_, 0, 0, 0, 0, 0) := rfl
set_option maxRecDepth 20000 in
set_option maxHeartbeats 4000000 in
theorem t_Sp_copyFrom_11_27 {xL : Nat} {xs : Nat → Int32} {ρ : Nat → Nat → Option Nat} (hρ : z_hR ρ) (d : Nat)  (σ : zS) : ∀ q, f_Sp_copyFrom_11_27  σ = some q → z_ec xL xs ρ (d + 0) 65 [.ref 11, .ref 27] σ (em_v q) := by
  refine j_of (W := [.ref 11, .ref 27]) (fun L hL => ?_) ?_
  · subst hL; exact z_vl_0 _ 0 rfl
  · unfold f_Sp_copyFrom_11_27
    refine j_aload_n (pc' := 1) q65_0 rfl (by decide) rfl ?_
    refine j_getr (k := 27) (q := 28) (pc' := 4) q65_1 rfl (hρ 27 0 28 rfl) rfl ?_
    refine j_iconst (pc' := 5) q65_4 rfl ?_
    refine j_aload_n (pc' := 6) q65_5 rfl (by decide) rfl ?_
    refine j_getr (k := 11) (q := 12) (pc' := 9) q65_6 rfl (hρ 11 0 12 rfl) rfl ?_
    refine j_iconst (pc' := 10) q65_9 rfl ?_
    refine j_iconst (pc' := 11) q65_10 rfl ?_
    refine j_acopy (ks := 28) (kd := 12) (pc' := 14) q65_11 rfl (by decide) (Nat.le_of_ble_eq_true rfl) rfl ?_
    refine j_nameS (fun τ1 => ?_)
    refine j_aload_n (pc' := 15) q65_14 rfl (by decide) rfl ?_
    refine j_getr (k := 27) (q := 29) (pc' := 18) q65_15 rfl (hρ 27 1 29 rfl) rfl ?_
    refine j_iconst (pc' := 19) q65_18 rfl ?_
    refine j_aload_n (pc' := 20) q65_19 rfl (by decide) rfl ?_
    refine j_getr (k := 11) (q := 13) (pc' := 23) q65_20 rfl (hρ 11 1 13 rfl) rfl ?_
    refine j_iconst (pc' := 24) q65_23 rfl ?_
    refine j_iconst (pc' := 25) q65_24 rfl ?_
    refine j_acopy (ks := 29) (kd := 13) (pc' := 28) q65_25 rfl (by decide) (Nat.le_of_ble_eq_true rfl) rfl ?_
    refine j_nameS (fun τ2 => ?_)
    refine j_aload_n (pc' := 29) q65_28 rfl (by decide) rfl ?_
    refine j_aload_n (pc' := 30) q65_29 rfl (by decide) rfl ?_
    refine j_getf (k := 27) (pc' := 33) q65_30 rfl rfl ?_
    refine j_putf (k := 11) (pc' := 36) q65_33 rfl rfl ?_
    refine j_nameS (fun τ3 => ?_)
    exact j_vret q65_36 rfl
theorem q6_0 : z_fi (z_mi 6) 0 = some (0, .aload_n 0, 0, 0, 0, 0, 0) := rfl
theorem q6_1 : z_fi (z_mi 6) 1 = some (1, .aload_n 1, 0, 0, 0, 0, 0) := rfl
theorem q6_2 : z_fi (z_mi 6) 2 = some (2, .getfield 53, 0, 0, 0, 0, 0) := rfl
theorem q6_5 : z_fi (z_mi 6) 5 = some (5, .putfield 53, 0, 0, 0, 0, 0) := rfl
theorem q6_8 : z_fi (z_mi 6) 8 = some (8, .aload_n 0, 0, 0, 0, 0, 0) := rfl
theorem q6_9 : z_fi (z_mi 6) 9 = some (9, .aload_n 1, 0, 0, 0, 0, 0) := rfl
theorem q6_10 : z_fi (z_mi 6) 10 = some (10, .getfield 57, 0, 0, 1, 0, 0) := rfl
theorem q6_13 : z_fi (z_mi 6) 13 = some (13, .putfield 57, 0, 0, 1, 0, 0) := rfl
theorem q6_16 : z_fi (z_mi 6) 16 = some (16, .aload_n 1, 0, 0, 0, 0, 0) := rfl
theorem q6_17 : z_fi (z_mi 6) 17 = some (17, .getfield 9, 0, 0, 2, 0, 0) := rfl
theorem q6_20 : z_fi (z_mi 6) 20 = some (20, .iconst 0, 0, 0, 0, 0, 0) := rfl
theorem q6_21 : z_fi (z_mi 6) 21 = some (21, .aload_n 0, 0, 0, 0, 0, 0) := rfl
theorem q6_22 : z_fi (z_mi 6) 22 = some (22, .getfield 9, 0, 0, 2, 0, 0) := rfl
theorem q6_25 : z_fi (z_mi 6) 25 = some (25, .iconst 0, 0, 0, 0, 0, 0) := rfl
theorem q6_26 : z_fi (z_mi 6) 26 = some (26, .bipush 16, 0, 0, 0, 16, 0) := rfl
theorem q6_28 : z_fi (z_mi 6) 28 = some (28, .invokestatic 82, 6, 0, 5, 0, 0) := rfl
theorem q6_31 : z_fi (z_mi 6) 31 = some (31, .aload_n 1, 0, 0, 0, 0, 0) := rfl
theorem q6_32 : z_fi (z_mi 6) 32 = some (32, .getfield 15, 0, 0, 3, 0, 0) := rfl
theorem q6_35 : z_fi (z_mi 6) 35 = some (35, .iconst 0, 0, 0, 0, 0, 0) := rfl
theorem q6_36 : z_fi (z_mi 6) 36 = some (36, .aload_n 0, 0, 0, 0, 0, 0) := rfl
theorem q6_37 : z_fi (z_mi 6) 37 = some (37, .getfield 15, 0, 0, 3, 0, 0) := rfl
theorem q6_40 : z_fi (z_mi 6) 40 = some (40, .iconst 0, 0, 0, 0, 0, 0) := rfl
theorem q6_41 : z_fi (z_mi 6) 41 = some (41, .bipush 16, 0, 0, 0, 16, 0) := rfl
theorem q6_43 : z_fi (z_mi 6) 43 = some (43, .invokestatic 82, 6, 0, 5, 0, 0) := rfl
theorem q6_46 : z_fi (z_mi 6) 46 = some (46, .aload_n 1, 0, 0, 0, 0, 0) := rfl
theorem q6_47 : z_fi (z_mi 6) 47 = some (47, .getfield 18, 0, 0, 4, 0, 0) := rfl
theorem q6_50 : z_fi (z_mi 6) 50 = some (50, .iconst 0, 0, 0, 0, 0, 0) := rfl
theorem q6_51 : z_fi (z_mi 6) 51 = some (51, .aload_n 0, 0, 0, 0, 0, 0) := rfl
theorem q6_52 : z_fi (z_mi 6) 52 = some (52, .getfield 18, 0, 0, 4, 0, 0) := rfl
theorem q6_55 : z_fi (z_mi 6) 55 = some (55, .iconst 0, 0, 0, 0, 0, 0) := rfl
theorem q6_56 : z_fi (z_mi 6) 56 = some (56, .bipush 16, 0, 0, 0, 16, 0) := rfl
theorem q6_58 : z_fi (z_mi 6) 58 = some (58, .invokestatic 82, 6, 0, 5, 0, 0) := rfl
theorem q6_61 : z_fi (z_mi 6) 61 = some (61, .aload_n 1, 0, 0, 0, 0, 0) := rfl
theorem q6_62 : z_fi (z_mi 6) 62 = some (62, .getfield 21, 0, 0, 5, 0, 0) := rfl
theorem q6_65 : z_fi (z_mi 6) 65 = some (65, .iconst 0, 0, 0, 0, 0, 0) := rfl
theorem q6_66 : z_fi (z_mi 6) 66 = some (66, .aload_n 0, 0, 0, 0, 0, 0) := rfl
theorem q6_67 : z_fi (z_mi 6) 67 = some (67, .getfield 21, 0, 0, 5, 0, 0) := rfl
theorem q6_70 : z_fi (z_mi 6) 70 = some (70, .iconst 0, 0, 0, 0, 0, 0) := rfl
theorem q6_71 : z_fi (z_mi 6) 71 = some (71, .bipush 16, 0, 0, 0, 16, 0) := rfl
theorem q6_73 : z_fi (z_mi 6) 73 = some (73, .invokestatic 82, 6, 0, 5, 0, 0) := rfl
theorem q6_76 : z_fi (z_mi 6) 76 = some (76, .aload_n 1, 0, 0, 0, 0, 0) := rfl
theorem q6_77 : z_fi (z_mi 6) 77 = some (77, .getfield 24, 0, 0, 6, 0, 0) := rfl
theorem q6_80 : z_fi (z_mi 6) 80 = some (80, .iconst 0, 0, 0, 0, 0, 0) := rfl
theorem q6_81 : z_fi (z_mi 6) 81 = some (81, .aload_n 0, 0, 0, 0, 0, 0) := rfl
theorem q6_82 : z_fi (z_mi 6) 82 = some (82, .getfield 24, 0, 0, 6, 0, 0) := rfl
theorem q6_85 : z_fi (z_mi 6) 85 = some (85, .iconst 0, 0, 0, 0, 0, 0) := rfl
theorem q6_86 : z_fi (z_mi 6) 86 = some (86, .bipush 16, 0, 0, 0, 16, 0) := rfl
theorem q6_88 : z_fi (z_mi 6) 88 = some (88, .invokestatic 82, 6, 0, 5, 0, 0) := rfl
theorem q6_91 : z_fi (z_mi 6) 91 = some (91, .aload_n 0, 0, 0, 0, 0, 0) := rfl
theorem q6_92 : z_fi (z_mi 6) 92 = some (92, .aload_n 1, 0, 0, 0, 0, 0) := rfl
theorem q6_93 : z_fi (z_mi 6) 93 = some (93, .getfield 66, 0, 0, 7, 0, 0) := rfl
theorem q6_96 : z_fi (z_mi 6) 96 = some (96, .putfield 66, 0, 0, 7, 0, 0) := rfl
theorem q6_99 : z_fi (z_mi 6) 99 = some (99, .aload_n 0, 0, 0, 0, 0, 0) := rfl
theorem q6_100 : z_fi (z_mi 6) 100 = some (100, .getfield 30, 0, 0, 8, 0, 0) := rfl
theorem q6_103 : z_fi (z_mi 6) 103 = some (103, .aload_n 1, 0, 0, 0, 0, 0) := rfl
theorem q6_104 : z_fi (z_mi 6) 104 = some (104, .getfield 30, 0, 0, 8, 0, 0) := rfl
theorem q6_107 : z_fi (z_mi 6) 107 = some (107, .invokevirtual 88, 0, 37, 1, 0, 0) := rfl
theorem q6_110 : z_fi (z_mi 6) 110 = some (110, .aload_n 0, 0, 0, 0, 0, 0) := rfl
theorem q6_111 : z_fi (z_mi 6) 111 = some (111, .getfield 37, 0, 0, 9, 0, 0) := rfl
theorem q6_114 : z_fi (z_mi 6) 114 = some (114, .aload_n 1, 0, 0, 0, 0, 0) := rfl
theorem q6_115 : z_fi (z_mi 6) 115 = some (115, .getfield 37, 0, 0, 9, 0, 0) := rfl
set_option maxRecDepth 8000 in
theorem q6_118 : z_fi (z_mi 6) 118 = some (118, .invokevirtual 92, 0, 65, 1, 0, 0) := rfl
set_option maxRecDepth 8000 in
theorem q6_121 : z_fi (z_mi 6) 121 = some (121, .aload_n 0, 0, 0, 0, 0, 0) := rfl
set_option maxRecDepth 8000 in
theorem q6_122 : z_fi (z_mi 6) 122 = some (122, .aload_n 1, 0, 0, 0, 0, 0) := rfl
set_option maxRecDepth 8000 in
theorem q6_123 : z_fi (z_mi 6) 123 = some (123, .getfield 73, 0, 0, 10, 0, 0) := rfl
set_option maxRecDepth 8000 in
theorem q6_126 : z_fi (z_mi 6) 126 = some (126, .putfield 73, 0, 0, 10, 0, 0) := rfl
set_option maxRecDepth 8000 in
theorem q6_129 : z_fi (z_mi 6) 129 = some (129, .aload_n 1, 0, 0, 0, 0, 0) := rfl
set_option maxRecDepth 8000 in
theorem q6_130 : z_fi (z_mi 6) 130 = some (130, .getfield 41, 0, 0, 11, 0, 0) := rfl
set_option maxRecDepth 8000 in
theorem q6_133 : z_fi (z_mi 6) 133 = some (133, .iconst 0, 0, 0, 0, 0, 0) := rfl
set_option maxRecDepth 8000 in
theorem q6_134 : z_fi (z_mi 6) 134 = some (134, .aload_n 0, 0, 0, 0, 0, 0) := rfl
set_option maxRecDepth 8000 in
theorem q6_135 : z_fi (z_mi 6) 135 = some (135, .getfield 41, 0, 0, 11, 0, 0) := rfl
set_option maxRecDepth 8000 in
theorem q6_138 : z_fi (z_mi 6) 138 = some (138, .iconst 0, 0, 0, 0, 0, 0) := rfl
set_option maxRecDepth 8000 in
theorem q6_139 : z_fi (z_mi 6) 139 = some (139, .iconst 3, 0, 0, 0, 3, 0) := rfl
set_option maxRecDepth 8000 in
theorem q6_140 : z_fi (z_mi 6) 140 = some (140, .invokestatic 82, 6, 0, 5, 0, 0) := rfl
set_option maxRecDepth 8000 in
theorem q6_143 : z_fi (z_mi 6) 143 = some (143, .aload_n 0, 0, 0, 0, 0, 0) := rfl
set_option maxRecDepth 8000 in
theorem q6_144 : z_fi (z_mi 6) 144 = some (144, .aload_n 1, 0, 0, 0, 0, 0) := rfl
set_option maxRecDepth 8000 in
theorem q6_145 : z_fi (z_mi 6) 145 = some (145, .getfield 76, 0, 0, 12, 0, 0) := rfl
set_option maxRecDepth 8000 in
theorem q6_148 : z_fi (z_mi 6) 148 = some (148, .putfield 76, 0, 0, 12, 0, 0) := rfl
set_option maxRecDepth 8000 in
theorem q6_151 : z_fi (z_mi 6) 151 = some (151, .aload_n 0, 0, 0, 0, 0, 0) := rfl
set_option maxRecDepth 8000 in
theorem q6_152 : z_fi (z_mi 6) 152 = some (152, .aload_n 1, 0, 0, 0, 0, 0) := rfl
set_option maxRecDepth 8000 in
theorem q6_153 : z_fi (z_mi 6) 153 = some (153, .getfield 79, 0, 0, 13, 0, 0) := rfl
set_option maxRecDepth 8000 in
theorem q6_156 : z_fi (z_mi 6) 156 = some (156, .putfield 79, 0, 0, 13, 0, 0) := rfl
set_option maxRecDepth 8000 in
theorem q6_159 : z_fi (z_mi 6) 159 = some (159, .return_, 0, 0, 0, 0, 0) := rfl
set_option maxRecDepth 20000 in
set_option maxHeartbeats 4000000 in
theorem t_G_copyFrom_1_17 {xL : Nat} {xs : Nat → Int32} {ρ : Nat → Nat → Option Nat} (hρ : z_hR ρ) (d : Nat)  (σ : zS) : ∀ q, f_G_copyFrom_1_17  σ = some q → z_ec xL xs ρ (d + 1) 6 [.ref 1, .ref 17] σ (em_v q) := by
  refine j_of (W := [.ref 1, .ref 17]) (fun L hL => ?_) ?_
  · subst hL; exact z_vl_0 _ 0 rfl
  · unfold f_G_copyFrom_1_17
    refine j_aload_n (pc' := 1) q6_0 rfl (by decide) rfl ?_
    refine j_aload_n (pc' := 2) q6_1 rfl (by decide) rfl ?_
    refine j_getf (k := 17) (pc' := 5) q6_2 rfl rfl ?_
    refine j_putf (k := 1) (pc' := 8) q6_5 rfl rfl ?_
    refine j_nameS (fun τ1 => ?_)
    refine j_aload_n (pc' := 9) q6_8 rfl (by decide) rfl ?_
    refine j_aload_n (pc' := 10) q6_9 rfl (by decide) rfl ?_
    refine j_getf (k := 17) (pc' := 13) q6_10 rfl rfl ?_
    refine j_putf (k := 1) (pc' := 16) q6_13 rfl rfl ?_
    refine j_nameS (fun τ2 => ?_)
    refine j_aload_n (pc' := 17) q6_16 rfl (by decide) rfl ?_
    refine j_getr (k := 17) (q := 18) (pc' := 20) q6_17 rfl (hρ 17 2 18 rfl) rfl ?_
    refine j_iconst (pc' := 21) q6_20 rfl ?_
    refine j_aload_n (pc' := 22) q6_21 rfl (by decide) rfl ?_
    refine j_getr (k := 1) (q := 2) (pc' := 25) q6_22 rfl (hρ 1 2 2 rfl) rfl ?_
    refine j_iconst (pc' := 26) q6_25 rfl ?_
    refine j_bipush (pc' := 28) q6_26 rfl ?_
    refine j_acopy (ks := 18) (kd := 2) (pc' := 31) q6_28 rfl (by decide) (Nat.le_of_ble_eq_true rfl) rfl ?_
    refine j_nameS (fun τ3 => ?_)
    refine j_aload_n (pc' := 32) q6_31 rfl (by decide) rfl ?_
    refine j_getr (k := 17) (q := 19) (pc' := 35) q6_32 rfl (hρ 17 3 19 rfl) rfl ?_
    refine j_iconst (pc' := 36) q6_35 rfl ?_
    refine j_aload_n (pc' := 37) q6_36 rfl (by decide) rfl ?_
    refine j_getr (k := 1) (q := 3) (pc' := 40) q6_37 rfl (hρ 1 3 3 rfl) rfl ?_
    refine j_iconst (pc' := 41) q6_40 rfl ?_
    refine j_bipush (pc' := 43) q6_41 rfl ?_
    refine j_acopy (ks := 19) (kd := 3) (pc' := 46) q6_43 rfl (by decide) (Nat.le_of_ble_eq_true rfl) rfl ?_
    refine j_nameS (fun τ4 => ?_)
    refine j_aload_n (pc' := 47) q6_46 rfl (by decide) rfl ?_
    refine j_getr (k := 17) (q := 20) (pc' := 50) q6_47 rfl (hρ 17 4 20 rfl) rfl ?_
    refine j_iconst (pc' := 51) q6_50 rfl ?_
    refine j_aload_n (pc' := 52) q6_51 rfl (by decide) rfl ?_
    refine j_getr (k := 1) (q := 4) (pc' := 55) q6_52 rfl (hρ 1 4 4 rfl) rfl ?_
    refine j_iconst (pc' := 56) q6_55 rfl ?_
    refine j_bipush (pc' := 58) q6_56 rfl ?_
    refine j_acopy (ks := 20) (kd := 4) (pc' := 61) q6_58 rfl (by decide) (Nat.le_of_ble_eq_true rfl) rfl ?_
    refine j_nameS (fun τ5 => ?_)
    refine j_aload_n (pc' := 62) q6_61 rfl (by decide) rfl ?_
    refine j_getr (k := 17) (q := 21) (pc' := 65) q6_62 rfl (hρ 17 5 21 rfl) rfl ?_
    refine j_iconst (pc' := 66) q6_65 rfl ?_
    refine j_aload_n (pc' := 67) q6_66 rfl (by decide) rfl ?_
    refine j_getr (k := 1) (q := 5) (pc' := 70) q6_67 rfl (hρ 1 5 5 rfl) rfl ?_
    refine j_iconst (pc' := 71) q6_70 rfl ?_
    refine j_bipush (pc' := 73) q6_71 rfl ?_
    refine j_acopy (ks := 21) (kd := 5) (pc' := 76) q6_73 rfl (by decide) (Nat.le_of_ble_eq_true rfl) rfl ?_
    refine j_nameS (fun τ6 => ?_)
    refine j_aload_n (pc' := 77) q6_76 rfl (by decide) rfl ?_
    refine j_getr (k := 17) (q := 22) (pc' := 80) q6_77 rfl (hρ 17 6 22 rfl) rfl ?_
    refine j_iconst (pc' := 81) q6_80 rfl ?_
    refine j_aload_n (pc' := 82) q6_81 rfl (by decide) rfl ?_
    refine j_getr (k := 1) (q := 6) (pc' := 85) q6_82 rfl (hρ 1 6 6 rfl) rfl ?_
    refine j_iconst (pc' := 86) q6_85 rfl ?_
    refine j_bipush (pc' := 88) q6_86 rfl ?_
    refine j_acopy (ks := 22) (kd := 6) (pc' := 91) q6_88 rfl (by decide) (Nat.le_of_ble_eq_true rfl) rfl ?_
    refine j_nameS (fun τ7 => ?_)
    refine j_aload_n (pc' := 92) q6_91 rfl (by decide) rfl ?_
    refine j_aload_n (pc' := 93) q6_92 rfl (by decide) rfl ?_
    refine j_getf (k := 17) (pc' := 96) q6_93 rfl rfl ?_
    refine j_putf (k := 1) (pc' := 99) q6_96 rfl rfl ?_
    refine j_nameS (fun τ8 => ?_)
    refine j_aload_n (pc' := 100) q6_99 rfl (by decide) rfl ?_
    refine j_getr (k := 1) (q := 7) (pc' := 103) q6_100 rfl (hρ 1 8 7 rfl) rfl ?_
    refine j_aload_n (pc' := 104) q6_103 rfl (by decide) rfl ?_
    refine j_getr (k := 17) (q := 23) (pc' := 107) q6_104 rfl (hρ 17 8 23 rfl) rfl ?_
    refine j_callV1_v (d := d + 0) (pc' := 110) q6_107 rfl (Nat.le_of_ble_eq_true rfl) (Nat.le_of_ble_eq_true rfl) rfl (t_Lw_copyFrom_7_23 hρ (d + 0) _) (fun r9 => ?_)
    refine j_aload_n (pc' := 111) q6_110 rfl (by decide) rfl ?_
    refine j_getr (k := 1) (q := 11) (pc' := 114) q6_111 rfl (hρ 1 9 11 rfl) rfl ?_
    refine j_aload_n (pc' := 115) q6_114 rfl (by decide) rfl ?_
    refine j_getr (k := 17) (q := 27) (pc' := 118) q6_115 rfl (hρ 17 9 27 rfl) rfl ?_
    refine j_callV1_v (d := d + 0) (pc' := 121) q6_118 rfl (Nat.le_of_ble_eq_true rfl) (Nat.le_of_ble_eq_true rfl) rfl (t_Sp_copyFrom_11_27 hρ (d + 0) _) (fun r10 => ?_)
    refine j_aload_n (pc' := 122) q6_121 rfl (by decide) rfl ?_
    refine j_aload_n (pc' := 123) q6_122 rfl (by decide) rfl ?_
    refine j_getf (k := 17) (pc' := 126) q6_123 rfl rfl ?_
    refine j_putf (k := 1) (pc' := 129) q6_126 rfl rfl ?_
    refine j_nameS (fun τ11 => ?_)
    refine j_aload_n (pc' := 130) q6_129 rfl (by decide) rfl ?_
    refine j_getr (k := 17) (q := 30) (pc' := 133) q6_130 rfl (hρ 17 11 30 rfl) rfl ?_
    refine j_iconst (pc' := 134) q6_133 rfl ?_
    refine j_aload_n (pc' := 135) q6_134 rfl (by decide) rfl ?_
    refine j_getr (k := 1) (q := 14) (pc' := 138) q6_135 rfl (hρ 1 11 14 rfl) rfl ?_
    refine j_iconst (pc' := 139) q6_138 rfl ?_
    refine j_iconst (pc' := 140) q6_139 rfl ?_
    refine j_acopy (ks := 30) (kd := 14) (pc' := 143) q6_140 rfl (by decide) (Nat.le_of_ble_eq_true rfl) rfl ?_
    refine j_nameS (fun τ12 => ?_)
    refine j_aload_n (pc' := 144) q6_143 rfl (by decide) rfl ?_
    refine j_aload_n (pc' := 145) q6_144 rfl (by decide) rfl ?_
    refine j_getf (k := 17) (pc' := 148) q6_145 rfl rfl ?_
    refine j_putf (k := 1) (pc' := 151) q6_148 rfl rfl ?_
    refine j_nameS (fun τ13 => ?_)
    refine j_aload_n (pc' := 152) q6_151 rfl (by decide) rfl ?_
    refine j_aload_n (pc' := 153) q6_152 rfl (by decide) rfl ?_
    refine j_getf (k := 17) (pc' := 156) q6_153 rfl rfl ?_
    refine j_putf (k := 1) (pc' := 159) q6_156 rfl rfl ?_
    refine j_nameS (fun τ14 => ?_)
    exact j_vret q6_159 rfl
theorem q103_0 : z_fi (z_mi 103) 0 = some (0, .aload_n 0, 0, 0, 0, 0, 0) := rfl
theorem q103_1 : z_fi (z_mi 103) 1 = some (1, .getfield 41, 0, 9, 5, 0, 0) := rfl
theorem q103_4 : z_fi (z_mi 103) 4 = some (4, .invokevirtual 72, 0, 78, 0, 0, 0) := rfl
theorem q103_7 : z_fi (z_mi 103) 7 = some (7, .istore_n 1, 0, 0, 0, 0, 0) := rfl
theorem q103_8 : z_fi (z_mi 103) 8 = some (8, .aload_n 0, 0, 0, 0, 0, 0) := rfl
theorem q103_9 : z_fi (z_mi 103) 9 = some (9, .aload_n 0, 0, 0, 0, 0, 0) := rfl
theorem q103_10 : z_fi (z_mi 103) 10 = some (10, .getfield 41, 0, 9, 5, 0, 0) := rfl
theorem q103_13 : z_fi (z_mi 103) 13 = some (13, .getfield 76, 0, 7, 6, 0, 0) := rfl
theorem q103_16 : z_fi (z_mi 103) 16 = some (16, .putfield 79, 0, 9, 9, 0, 0) := rfl
theorem q103_19 : z_fi (z_mi 103) 19 = some (19, .aload_n 0, 0, 0, 0, 0, 0) := rfl
theorem q103_20 : z_fi (z_mi 103) 20 = some (20, .getfield 32, 0, 9, 4, 0, 0) := rfl
theorem q103_23 : z_fi (z_mi 103) 23 = some (23, .iconst 0, 0, 0, 0, 0, 0) := rfl
theorem q103_24 : z_fi (z_mi 103) 24 = some (24, .putfield 68, 0, 6, 1, 0, 0) := rfl
theorem q103_27 : z_fi (z_mi 103) 27 = some (27, .iload_n 1, 0, 0, 0, 0, 0) := rfl
theorem q103_28 : z_fi (z_mi 103) 28 = some (28, .ifCond .ne 14, 0, 42, 0, 0, 0) := rfl
theorem q103_31 : z_fi (z_mi 103) 31 = some (31, .bipush (-10), 0, 0, 0, (-10), 0) := rfl
theorem q103_33 : z_fi (z_mi 103) 33 = some (33, .aload_n 0, 0, 0, 0, 0, 0) := rfl
theorem q103_34 : z_fi (z_mi 103) 34 = some (34, .getfield 41, 0, 9, 5, 0, 0) := rfl
theorem q103_37 : z_fi (z_mi 103) 37 = some (37, .getfield 82, 0, 7, 7, 0, 0) := rfl
theorem q103_40 : z_fi (z_mi 103) 40 = some (40, .isub, 0, 0, 0, 0, 0) := rfl
theorem q103_41 : z_fi (z_mi 103) 41 = some (41, .ireturn, 0, 0, 0, 0, 0) := rfl
theorem q103_42 : z_fi (z_mi 103) 42 = some (42, .aload_n 0, 0, 0, 0, 0, 0) := rfl
theorem q103_43 : z_fi (z_mi 103) 43 = some (43, .getfield 10, 0, 9, 0, 0, 0) := rfl
theorem q103_46 : z_fi (z_mi 103) 46 = some (46, .aload_n 0, 0, 0, 0, 0, 0) := rfl
theorem q103_47 : z_fi (z_mi 103) 47 = some (47, .getfield 16, 0, 9, 1, 0, 0) := rfl
theorem q103_50 : z_fi (z_mi 103) 50 = some (50, .invokevirtual 85, 0, 6, 1, 0, 0) := rfl
theorem q103_53 : z_fi (z_mi 103) 53 = some (53, .aload_n 0, 0, 0, 0, 0, 0) := rfl
theorem q103_54 : z_fi (z_mi 103) 54 = some (54, .getfield 55, 0, 9, 7, 0, 0) := rfl
theorem q103_57 : z_fi (z_mi 103) 57 = some (57, .iconst 0, 0, 0, 0, 0, 0) := rfl
theorem q103_58 : z_fi (z_mi 103) 58 = some (58, .putfield 89, 0, 5, 2, 0, 0) := rfl
theorem q103_61 : z_fi (z_mi 103) 61 = some (61, .aload_n 0, 0, 0, 0, 0, 0) := rfl
theorem q103_62 : z_fi (z_mi 103) 62 = some (62, .iconst 0, 0, 0, 0, 0, 0) := rfl
theorem q103_63 : z_fi (z_mi 103) 63 = some (63, .putfield 92, 0, 9, 8, 0, 0) := rfl
theorem q103_66 : z_fi (z_mi 103) 66 = some (66, .aload_n 0, 0, 0, 0, 0, 0) := rfl
theorem q103_67 : z_fi (z_mi 103) 67 = some (67, .getfield 41, 0, 9, 5, 0, 0) := rfl
theorem q103_70 : z_fi (z_mi 103) 70 = some (70, .getfield 95, 0, 7, 5, 0, 0) := rfl
theorem q103_73 : z_fi (z_mi 103) 73 = some (73, .ireturn, 0, 0, 0, 0, 0) := rfl
set_option maxRecDepth 20000 in
set_option maxHeartbeats 4000000 in
theorem t_Y_text {xL : Nat} {xs : Nat → Int32} {ρ : Nat → Nat → Option Nat} (hρ : z_hR ρ) (d : Nat)  (σ : zS) : ∀ q, f_Y_text  σ = some q → z_ec xL xs ρ (d + 9) 103 [.ref 0] σ (em_i q) := by
  refine j_of (W := [.ref 0, .null]) (fun L hL => ?_) ?_
  · subst hL; exact z_vl_0 _ 1 rfl
  · unfold f_Y_text
    refine j_aload_n (pc' := 1) q103_0 rfl (by decide) rfl ?_
    refine j_getr (k := 0) (q := 37) (pc' := 4) q103_1 rfl (hρ 0 5 37 rfl) rfl ?_
    refine j_callV0_i (d := d + 8) (pc' := 7) q103_4 rfl (Nat.le_of_ble_eq_true rfl) (Nat.le_of_ble_eq_true rfl) rfl (t_Tr_readAll_37 hρ (d + 0) _) (fun r1 => ?_)
    refine j_istore1 (pc' := 8) q103_7 rfl (Nat.le_of_ble_eq_true rfl) rfl ?_
    refine j_aload_n (pc' := 9) q103_8 rfl (by decide) rfl ?_
    refine j_aload_n (pc' := 10) q103_9 rfl (by decide) rfl ?_
    refine j_getr (k := 0) (q := 37) (pc' := 13) q103_10 rfl (hρ 0 5 37 rfl) rfl ?_
    refine j_getf (k := 37) (pc' := 16) q103_13 rfl rfl ?_
    refine j_putf (k := 0) (pc' := 19) q103_16 rfl rfl ?_
    refine j_nameS (fun τ2 => ?_)
    refine j_aload_n (pc' := 20) q103_19 rfl (by decide) rfl ?_
    refine j_getr (k := 0) (q := 35) (pc' := 23) q103_20 rfl (hρ 0 4 35 rfl) rfl ?_
    refine j_iconst (pc' := 24) q103_23 rfl ?_
    refine j_putf (k := 35) (pc' := 27) q103_24 rfl rfl ?_
    refine j_nameS (fun τ3 => ?_)
    refine j_iload_n (pc' := 28) q103_27 rfl rfl ?_
    refine j_if_ne (pc' := 31) q103_28 rfl (fun c4 => ?_) (fun c4 => ?_)
    · refine j_bipush (pc' := 33) q103_31 rfl ?_
      refine j_aload_n (pc' := 34) q103_33 rfl (by decide) rfl ?_
      refine j_getr (k := 0) (q := 37) (pc' := 37) q103_34 rfl (hρ 0 5 37 rfl) rfl ?_
      refine j_getf (k := 37) (pc' := 40) q103_37 rfl rfl ?_
      refine j_isub (pc' := 41) q103_40 rfl ?_
      exact j_iret q103_41 rfl
    · refine j_aload_n (pc' := 43) q103_42 rfl (by decide) rfl ?_
      refine j_getr (k := 0) (q := 1) (pc' := 46) q103_43 rfl (hρ 0 0 1 rfl) rfl ?_
      refine j_aload_n (pc' := 47) q103_46 rfl (by decide) rfl ?_
      refine j_getr (k := 0) (q := 17) (pc' := 50) q103_47 rfl (hρ 0 1 17 rfl) rfl ?_
      refine j_callV1_v (d := d + 8) (pc' := 53) q103_50 rfl (Nat.le_of_ble_eq_true rfl) (Nat.le_of_ble_eq_true rfl) rfl (t_G_copyFrom_1_17 hρ (d + 7) _) (fun r5 => ?_)
      refine j_aload_n (pc' := 54) q103_53 rfl (by decide) rfl ?_
      refine j_getr (k := 0) (q := 44) (pc' := 57) q103_54 rfl (hρ 0 7 44 rfl) rfl ?_
      refine j_iconst (pc' := 58) q103_57 rfl ?_
      refine j_putf (k := 44) (pc' := 61) q103_58 rfl rfl ?_
      refine j_nameS (fun τ6 => ?_)
      refine j_aload_n (pc' := 62) q103_61 rfl (by decide) rfl ?_
      refine j_iconst (pc' := 63) q103_62 rfl ?_
      refine j_putf (k := 0) (pc' := 66) q103_63 rfl rfl ?_
      refine j_nameS (fun τ7 => ?_)
      refine j_aload_n (pc' := 67) q103_66 rfl (by decide) rfl ?_
      refine j_getr (k := 0) (q := 37) (pc' := 70) q103_67 rfl (hρ 0 5 37 rfl) rfl ?_
      refine j_getf (k := 37) (pc' := 73) q103_70 rfl rfl ?_
      exact j_iret q103_73 rfl
theorem q152_0 : z_fi (z_mi 152) 0 = some (0, .iload_n 1, 0, 0, 0, 0, 0) := rfl
theorem q152_1 : z_fi (z_mi 152) 1 = some (1, .aload_n 0, 0, 0, 0, 0, 0) := rfl
theorem q152_2 : z_fi (z_mi 152) 2 = some (2, .getfield 66, 0, 10, 13, 0, 0) := rfl
theorem q152_5 : z_fi (z_mi 152) 5 = some (5, .if_icmp .ge 12, 0, 17, 0, 0, 0) := rfl
theorem q152_8 : z_fi (z_mi 152) 8 = some (8, .aload_n 0, 0, 0, 0, 0, 0) := rfl
theorem q152_9 : z_fi (z_mi 152) 9 = some (9, .getfield 29, 0, 10, 12, 0, 0) := rfl
theorem q152_12 : z_fi (z_mi 152) 12 = some (12, .iload_n 1, 0, 0, 0, 0, 0) := rfl
theorem q152_13 : z_fi (z_mi 152) 13 = some (13, .iaload, 0, 0, 0, 0, 0) := rfl
theorem q152_14 : z_fi (z_mi 152) 14 = some (14, .goto 5, 0, 19, 0, 0, 0) := rfl
theorem q152_17 : z_fi (z_mi 152) 17 = some (17, .bipush (-4), 0, 0, 0, (-4), 0) := rfl
theorem q152_19 : z_fi (z_mi 152) 19 = some (19, .ireturn, 0, 0, 0, 0, 0) := rfl
set_option maxRecDepth 20000 in
set_option maxHeartbeats 4000000 in
theorem t_M_byteAt {xL : Nat} {xs : Nat → Int32} {ρ : Nat → Nat → Option Nat} (hρ : z_hR ρ) (d : Nat) (a1 : Int32) (σ : zS) : ∀ q, f_M_byteAt a1 σ = some q → z_ec xL xs ρ (d + 0) 152 [.ref 90, .int a1] σ (em_pi σ q) := by
  refine j_of (W := [.ref 90, .int a1]) (fun L hL => ?_) ?_
  · subst hL; exact z_vl_0 _ 0 rfl
  · unfold f_M_byteAt
    refine j_iload_n (pc' := 1) q152_0 rfl rfl ?_
    refine j_aload_n (pc' := 2) q152_1 rfl (by decide) rfl ?_
    refine j_getf (k := 90) (pc' := 5) q152_2 rfl rfl ?_
    refine j_icmp_ge (pc' := 8) q152_5 rfl (fun c1 => ?_) (fun c1 => ?_)
    · refine j_bipush (pc' := 19) q152_17 rfl ?_
      exact j_piret q152_19 rfl
    · refine j_aload_n (pc' := 9) q152_8 rfl (by decide) rfl ?_
      refine j_getr (k := 90) (q := 95) (pc' := 12) q152_9 rfl (hρ 90 12 95 rfl) rfl ?_
      refine j_iload_n (pc' := 13) q152_12 rfl rfl ?_
      refine j_if (fun hi2 => ?_) (fun _ => j_none)
      refine j_iald (k := 95) (N := 160) (pc' := 14) q152_13 rfl hi2 rfl ?_
      refine j_goto q152_14 rfl ?_
      exact j_piret q152_19 rfl
theorem q153_0 : z_fi (z_mi 153) 0 = some (0, .aload_n 0, 0, 0, 0, 0, 0) := rfl
theorem q153_1 : z_fi (z_mi 153) 1 = some (1, .getfield 69, 0, 10, 15, 0, 0) := rfl
theorem q153_4 : z_fi (z_mi 153) 4 = some (4, .ifCond .ne 16, 0, 20, 0, 0, 0) := rfl
theorem q153_7 : z_fi (z_mi 153) 7 = some (7, .aload_n 0, 0, 0, 0, 0, 0) := rfl
theorem q153_8 : z_fi (z_mi 153) 8 = some (8, .iload_n 1, 0, 0, 0, 0, 0) := rfl
theorem q153_9 : z_fi (z_mi 153) 9 = some (9, .putfield 69, 0, 10, 15, 0, 0) := rfl
theorem q153_12 : z_fi (z_mi 153) 12 = some (12, .aload_n 0, 0, 0, 0, 0, 0) := rfl
theorem q153_13 : z_fi (z_mi 153) 13 = some (13, .aload_n 0, 0, 0, 0, 0, 0) := rfl
theorem q153_14 : z_fi (z_mi 153) 14 = some (14, .getfield 72, 0, 10, 18, 0, 0) := rfl
theorem q153_17 : z_fi (z_mi 153) 17 = some (17, .putfield 75, 0, 10, 16, 0, 0) := rfl
theorem q153_20 : z_fi (z_mi 153) 20 = some (20, .return_, 0, 0, 0, 0, 0) := rfl
set_option maxRecDepth 20000 in
set_option maxHeartbeats 4000000 in
theorem t_M_fails {xL : Nat} {xs : Nat → Int32} {ρ : Nat → Nat → Option Nat} (hρ : z_hR ρ) (d : Nat) (a1 : Int32) (σ : zS) : ∀ q, f_M_fails a1 σ = some q → z_ec xL xs ρ (d + 0) 153 [.ref 90, .int a1] σ (em_v q) := by
  refine j_of (W := [.ref 90, .int a1]) (fun L hL => ?_) ?_
  · subst hL; exact z_vl_0 _ 0 rfl
  · unfold f_M_fails
    refine j_aload_n (pc' := 1) q153_0 rfl (by decide) rfl ?_
    refine j_getf (k := 90) (pc' := 4) q153_1 rfl rfl ?_
    refine j_if_ne (pc' := 7) q153_4 rfl (fun c1 => ?_) (fun c1 => ?_)
    · refine j_aload_n (pc' := 8) q153_7 rfl (by decide) rfl ?_
      refine j_iload_n (pc' := 9) q153_8 rfl rfl ?_
      refine j_putf (k := 90) (pc' := 12) q153_9 rfl rfl ?_
      refine j_nameS (fun τ2 => ?_)
      refine j_aload_n (pc' := 13) q153_12 rfl (by decide) rfl ?_
      refine j_aload_n (pc' := 14) q153_13 rfl (by decide) rfl ?_
      refine j_getf (k := 90) (pc' := 17) q153_14 rfl rfl ?_
      refine j_putf (k := 90) (pc' := 20) q153_17 rfl rfl ?_
      refine j_nameS (fun τ3 => ?_)
      exact j_vret q153_20 rfl
    · exact j_vret q153_20 rfl
theorem q155_0 : z_fi (z_mi 155) 0 = some (0, .aload_n 0, 0, 0, 0, 0, 0) := rfl
theorem q155_1 : z_fi (z_mi 155) 1 = some (1, .getfield 69, 0, 10, 15, 0, 0) := rfl
theorem q155_4 : z_fi (z_mi 155) 4 = some (4, .ifCond .le 4, 0, 8, 0, 0, 0) := rfl
theorem q155_7 : z_fi (z_mi 155) 7 = some (7, .return_, 0, 0, 0, 0, 0) := rfl
theorem q155_8 : z_fi (z_mi 155) 8 = some (8, .aload_n 0, 0, 0, 0, 0, 0) := rfl
theorem q155_9 : z_fi (z_mi 155) 9 = some (9, .aload_n 0, 0, 0, 0, 0, 0) := rfl
theorem q155_10 : z_fi (z_mi 155) 10 = some (10, .getfield 81, 0, 10, 17, 0, 0) := rfl
theorem q155_13 : z_fi (z_mi 155) 13 = some (13, .invokevirtual 84, 0, 152, 1, 0, 0) := rfl
theorem q155_16 : z_fi (z_mi 155) 16 = some (16, .bipush 32, 0, 0, 0, 32, 0) := rfl
theorem q155_18 : z_fi (z_mi 155) 18 = some (18, .if_icmp .ne 16, 0, 34, 0, 0, 0) := rfl
theorem q155_21 : z_fi (z_mi 155) 21 = some (21, .aload_n 0, 0, 0, 0, 0, 0) := rfl
theorem q155_22 : z_fi (z_mi 155) 22 = some (22, .dup, 0, 0, 0, 0, 0) := rfl
theorem q155_23 : z_fi (z_mi 155) 23 = some (23, .getfield 81, 0, 10, 17, 0, 0) := rfl
theorem q155_26 : z_fi (z_mi 155) 26 = some (26, .iconst 1, 0, 0, 0, 1, 0) := rfl
theorem q155_27 : z_fi (z_mi 155) 27 = some (27, .iadd, 0, 0, 0, 0, 0) := rfl
theorem q155_28 : z_fi (z_mi 155) 28 = some (28, .putfield 81, 0, 10, 17, 0, 0) := rfl
theorem q155_31 : z_fi (z_mi 155) 31 = some (31, .goto (-23), 0, 8, 0, 0, 0) := rfl
theorem q155_34 : z_fi (z_mi 155) 34 = some (34, .aload_n 0, 0, 0, 0, 0, 0) := rfl
theorem q155_35 : z_fi (z_mi 155) 35 = some (35, .aload_n 0, 0, 0, 0, 0, 0) := rfl
theorem q155_36 : z_fi (z_mi 155) 36 = some (36, .getfield 81, 0, 10, 17, 0, 0) := rfl
theorem q155_39 : z_fi (z_mi 155) 39 = some (39, .putfield 72, 0, 10, 18, 0, 0) := rfl
theorem q155_42 : z_fi (z_mi 155) 42 = some (42, .aload_n 0, 0, 0, 0, 0, 0) := rfl
theorem q155_43 : z_fi (z_mi 155) 43 = some (43, .aload_n 0, 0, 0, 0, 0, 0) := rfl
theorem q155_44 : z_fi (z_mi 155) 44 = some (44, .getfield 81, 0, 10, 17, 0, 0) := rfl
theorem q155_47 : z_fi (z_mi 155) 47 = some (47, .invokevirtual 84, 0, 152, 1, 0, 0) := rfl
theorem q155_50 : z_fi (z_mi 155) 50 = some (50, .istore_n 1, 0, 0, 0, 0, 0) := rfl
theorem q155_51 : z_fi (z_mi 155) 51 = some (51, .aload_n 0, 0, 0, 0, 0, 0) := rfl
theorem q155_52 : z_fi (z_mi 155) 52 = some (52, .iconst 0, 0, 0, 0, 0, 0) := rfl
theorem q155_53 : z_fi (z_mi 155) 53 = some (53, .putfield 88, 0, 10, 20, 0, 0) := rfl
theorem q155_56 : z_fi (z_mi 155) 56 = some (56, .iload_n 1, 0, 0, 0, 0, 0) := rfl
theorem q155_57 : z_fi (z_mi 155) 57 = some (57, .bipush (-4), 0, 0, 0, (-4), 0) := rfl
theorem q155_59 : z_fi (z_mi 155) 59 = some (59, .if_icmp .ne 11, 0, 70, 0, 0, 0) := rfl
theorem q155_62 : z_fi (z_mi 155) 62 = some (62, .aload_n 0, 0, 0, 0, 0, 0) := rfl
theorem q155_63 : z_fi (z_mi 155) 63 = some (63, .iconst 0, 0, 0, 0, 0, 0) := rfl
theorem q155_64 : z_fi (z_mi 155) 64 = some (64, .putfield 78, 0, 10, 19, 0, 0) := rfl
theorem q155_67 : z_fi (z_mi 155) 67 = some (67, .goto 202, 0, 269, 0, 0, 0) := rfl
theorem q155_70 : z_fi (z_mi 155) 70 = some (70, .iload_n 1, 0, 0, 0, 0, 0) := rfl
theorem q155_71 : z_fi (z_mi 155) 71 = some (71, .i2l, 0, 0, 0, 0, 0) := rfl
theorem q155_72 : z_fi (z_mi 155) 72 = some (72, .ldc2_w 91, 0, 0, 0, 0, 97) := rfl
theorem q155_75 : z_fi (z_mi 155) 75 = some (75, .ldc2_w 93, 0, 0, 0, 0, 122) := rfl
theorem q155_78 : z_fi (z_mi 155) 78 = some (78, .invokestatic 62, 1, 149, 3, 0, 0) := rfl
theorem q155_81 : z_fi (z_mi 155) 81 = some (81, .ifCond .eq 45, 0, 126, 0, 0, 0) := rfl
theorem q155_84 : z_fi (z_mi 155) 84 = some (84, .aload_n 0, 0, 0, 0, 0, 0) := rfl
theorem q155_85 : z_fi (z_mi 155) 85 = some (85, .aload_n 0, 0, 0, 0, 0, 0) := rfl
theorem q155_86 : z_fi (z_mi 155) 86 = some (86, .getfield 81, 0, 10, 17, 0, 0) := rfl
theorem q155_89 : z_fi (z_mi 155) 89 = some (89, .invokevirtual 84, 0, 152, 1, 0, 0) := rfl
theorem q155_92 : z_fi (z_mi 155) 92 = some (92, .i2l, 0, 0, 0, 0, 0) := rfl
theorem q155_93 : z_fi (z_mi 155) 93 = some (93, .ldc2_w 91, 0, 0, 0, 0, 97) := rfl
theorem q155_96 : z_fi (z_mi 155) 96 = some (96, .ldc2_w 93, 0, 0, 0, 0, 122) := rfl
theorem q155_99 : z_fi (z_mi 155) 99 = some (99, .invokestatic 62, 1, 149, 3, 0, 0) := rfl
theorem q155_102 : z_fi (z_mi 155) 102 = some (102, .ifCond .eq 16, 0, 118, 0, 0, 0) := rfl
theorem q155_105 : z_fi (z_mi 155) 105 = some (105, .aload_n 0, 0, 0, 0, 0, 0) := rfl
theorem q155_106 : z_fi (z_mi 155) 106 = some (106, .dup, 0, 0, 0, 0, 0) := rfl
theorem q155_107 : z_fi (z_mi 155) 107 = some (107, .getfield 81, 0, 10, 17, 0, 0) := rfl
theorem q155_110 : z_fi (z_mi 155) 110 = some (110, .iconst 1, 0, 0, 0, 1, 0) := rfl
theorem q155_111 : z_fi (z_mi 155) 111 = some (111, .iadd, 0, 0, 0, 0, 0) := rfl
theorem q155_112 : z_fi (z_mi 155) 112 = some (112, .putfield 81, 0, 10, 17, 0, 0) := rfl
theorem q155_115 : z_fi (z_mi 155) 115 = some (115, .goto (-31), 0, 84, 0, 0, 0) := rfl
theorem q155_118 : z_fi (z_mi 155) 118 = some (118, .aload_n 0, 0, 0, 0, 0, 0) := rfl
theorem q155_119 : z_fi (z_mi 155) 119 = some (119, .iconst 1, 0, 0, 0, 1, 0) := rfl
theorem q155_120 : z_fi (z_mi 155) 120 = some (120, .putfield 78, 0, 10, 19, 0, 0) := rfl
set_option maxRecDepth 8000 in
theorem q155_123 : z_fi (z_mi 155) 123 = some (123, .goto 146, 0, 269, 0, 0, 0) := rfl
set_option maxRecDepth 8000 in
theorem q155_126 : z_fi (z_mi 155) 126 = some (126, .iload_n 1, 0, 0, 0, 0, 0) := rfl
set_option maxRecDepth 8000 in
theorem q155_127 : z_fi (z_mi 155) 127 = some (127, .i2l, 0, 0, 0, 0, 0) := rfl
set_option maxRecDepth 8000 in
theorem q155_128 : z_fi (z_mi 155) 128 = some (128, .ldc2_w 95, 0, 0, 0, 0, 48) := rfl
set_option maxRecDepth 8000 in
theorem q155_131 : z_fi (z_mi 155) 131 = some (131, .ldc2_w 97, 0, 0, 0, 0, 57) := rfl
set_option maxRecDepth 8000 in
theorem q155_134 : z_fi (z_mi 155) 134 = some (134, .invokestatic 62, 1, 149, 3, 0, 0) := rfl
set_option maxRecDepth 8000 in
theorem q155_137 : z_fi (z_mi 155) 137 = some (137, .ifCond .eq 106, 0, 243, 0, 0, 0) := rfl
set_option maxRecDepth 8000 in
theorem q155_140 : z_fi (z_mi 155) 140 = some (140, .aload_n 0, 0, 0, 0, 0, 0) := rfl
set_option maxRecDepth 8000 in
theorem q155_141 : z_fi (z_mi 155) 141 = some (141, .aload_n 0, 0, 0, 0, 0, 0) := rfl
set_option maxRecDepth 8000 in
theorem q155_142 : z_fi (z_mi 155) 142 = some (142, .getfield 81, 0, 10, 17, 0, 0) := rfl
set_option maxRecDepth 8000 in
theorem q155_145 : z_fi (z_mi 155) 145 = some (145, .invokevirtual 84, 0, 152, 1, 0, 0) := rfl
set_option maxRecDepth 8000 in
theorem q155_148 : z_fi (z_mi 155) 148 = some (148, .i2l, 0, 0, 0, 0, 0) := rfl
set_option maxRecDepth 8000 in
theorem q155_149 : z_fi (z_mi 155) 149 = some (149, .ldc2_w 95, 0, 0, 0, 0, 48) := rfl
set_option maxRecDepth 8000 in
theorem q155_152 : z_fi (z_mi 155) 152 = some (152, .ldc2_w 97, 0, 0, 0, 0, 57) := rfl
set_option maxRecDepth 8000 in
theorem q155_155 : z_fi (z_mi 155) 155 = some (155, .invokestatic 62, 1, 149, 3, 0, 0) := rfl
set_option maxRecDepth 8000 in
theorem q155_158 : z_fi (z_mi 155) 158 = some (158, .ifCond .eq 59, 0, 217, 0, 0, 0) := rfl
set_option maxRecDepth 8000 in
theorem q155_161 : z_fi (z_mi 155) 161 = some (161, .aload_n 0, 0, 0, 0, 0, 0) := rfl
set_option maxRecDepth 8000 in
theorem q155_162 : z_fi (z_mi 155) 162 = some (162, .aload_n 0, 0, 0, 0, 0, 0) := rfl
set_option maxRecDepth 8000 in
theorem q155_163 : z_fi (z_mi 155) 163 = some (163, .getfield 81, 0, 10, 17, 0, 0) := rfl
set_option maxRecDepth 8000 in
theorem q155_166 : z_fi (z_mi 155) 166 = some (166, .aload_n 0, 0, 0, 0, 0, 0) := rfl
set_option maxRecDepth 8000 in
theorem q155_167 : z_fi (z_mi 155) 167 = some (167, .getfield 72, 0, 10, 18, 0, 0) := rfl
set_option maxRecDepth 8000 in
theorem q155_170 : z_fi (z_mi 155) 170 = some (170, .isub, 0, 0, 0, 0, 0) := rfl
set_option maxRecDepth 8000 in
theorem q155_171 : z_fi (z_mi 155) 171 = some (171, .iconst 2, 0, 0, 0, 2, 0) := rfl
set_option maxRecDepth 8000 in
theorem q155_172 : z_fi (z_mi 155) 172 = some (172, .if_icmp .ge 25, 0, 197, 0, 0, 0) := rfl
set_option maxRecDepth 8000 in
theorem q155_175 : z_fi (z_mi 155) 175 = some (175, .bipush 10, 0, 0, 0, 10, 0) := rfl
set_option maxRecDepth 8000 in
theorem q155_177 : z_fi (z_mi 155) 177 = some (177, .aload_n 0, 0, 0, 0, 0, 0) := rfl
set_option maxRecDepth 8000 in
theorem q155_178 : z_fi (z_mi 155) 178 = some (178, .getfield 88, 0, 10, 20, 0, 0) := rfl
set_option maxRecDepth 8000 in
theorem q155_181 : z_fi (z_mi 155) 181 = some (181, .imul, 0, 0, 0, 0, 0) := rfl
set_option maxRecDepth 8000 in
theorem q155_182 : z_fi (z_mi 155) 182 = some (182, .aload_n 0, 0, 0, 0, 0, 0) := rfl
set_option maxRecDepth 8000 in
theorem q155_183 : z_fi (z_mi 155) 183 = some (183, .aload_n 0, 0, 0, 0, 0, 0) := rfl
set_option maxRecDepth 8000 in
theorem q155_184 : z_fi (z_mi 155) 184 = some (184, .getfield 81, 0, 10, 17, 0, 0) := rfl
set_option maxRecDepth 8000 in
theorem q155_187 : z_fi (z_mi 155) 187 = some (187, .invokevirtual 84, 0, 152, 1, 0, 0) := rfl
set_option maxRecDepth 8000 in
theorem q155_190 : z_fi (z_mi 155) 190 = some (190, .iadd, 0, 0, 0, 0, 0) := rfl
set_option maxRecDepth 8000 in
theorem q155_191 : z_fi (z_mi 155) 191 = some (191, .bipush 48, 0, 0, 0, 48, 0) := rfl
set_option maxRecDepth 8000 in
theorem q155_193 : z_fi (z_mi 155) 193 = some (193, .isub, 0, 0, 0, 0, 0) := rfl
set_option maxRecDepth 8000 in
theorem q155_194 : z_fi (z_mi 155) 194 = some (194, .goto 7, 0, 201, 0, 0, 0) := rfl
set_option maxRecDepth 8000 in
theorem q155_197 : z_fi (z_mi 155) 197 = some (197, .aload_n 0, 0, 0, 0, 0, 0) := rfl
set_option maxRecDepth 8000 in
theorem q155_198 : z_fi (z_mi 155) 198 = some (198, .getfield 88, 0, 10, 20, 0, 0) := rfl
set_option maxRecDepth 8000 in
theorem q155_201 : z_fi (z_mi 155) 201 = some (201, .putfield 88, 0, 10, 20, 0, 0) := rfl
set_option maxRecDepth 8000 in
theorem q155_204 : z_fi (z_mi 155) 204 = some (204, .aload_n 0, 0, 0, 0, 0, 0) := rfl
set_option maxRecDepth 8000 in
theorem q155_205 : z_fi (z_mi 155) 205 = some (205, .dup, 0, 0, 0, 0, 0) := rfl
set_option maxRecDepth 8000 in
theorem q155_206 : z_fi (z_mi 155) 206 = some (206, .getfield 81, 0, 10, 17, 0, 0) := rfl
set_option maxRecDepth 8000 in
theorem q155_209 : z_fi (z_mi 155) 209 = some (209, .iconst 1, 0, 0, 0, 1, 0) := rfl
set_option maxRecDepth 8000 in
theorem q155_210 : z_fi (z_mi 155) 210 = some (210, .iadd, 0, 0, 0, 0, 0) := rfl
set_option maxRecDepth 8000 in
theorem q155_211 : z_fi (z_mi 155) 211 = some (211, .putfield 81, 0, 10, 17, 0, 0) := rfl
set_option maxRecDepth 8000 in
theorem q155_214 : z_fi (z_mi 155) 214 = some (214, .goto (-74), 0, 140, 0, 0, 0) := rfl
set_option maxRecDepth 8000 in
theorem q155_217 : z_fi (z_mi 155) 217 = some (217, .aload_n 0, 0, 0, 0, 0, 0) := rfl
set_option maxRecDepth 8000 in
theorem q155_218 : z_fi (z_mi 155) 218 = some (218, .iconst 2, 0, 0, 0, 2, 0) := rfl
set_option maxRecDepth 8000 in
theorem q155_219 : z_fi (z_mi 155) 219 = some (219, .putfield 78, 0, 10, 19, 0, 0) := rfl
set_option maxRecDepth 8000 in
theorem q155_222 : z_fi (z_mi 155) 222 = some (222, .aload_n 0, 0, 0, 0, 0, 0) := rfl
set_option maxRecDepth 8000 in
theorem q155_223 : z_fi (z_mi 155) 223 = some (223, .getfield 81, 0, 10, 17, 0, 0) := rfl
set_option maxRecDepth 8000 in
theorem q155_226 : z_fi (z_mi 155) 226 = some (226, .aload_n 0, 0, 0, 0, 0, 0) := rfl
set_option maxRecDepth 8000 in
theorem q155_227 : z_fi (z_mi 155) 227 = some (227, .getfield 72, 0, 10, 18, 0, 0) := rfl
set_option maxRecDepth 8000 in
theorem q155_230 : z_fi (z_mi 155) 230 = some (230, .isub, 0, 0, 0, 0, 0) := rfl
set_option maxRecDepth 8000 in
theorem q155_231 : z_fi (z_mi 155) 231 = some (231, .iconst 2, 0, 0, 0, 2, 0) := rfl
set_option maxRecDepth 8000 in
theorem q155_232 : z_fi (z_mi 155) 232 = some (232, .if_icmp .le 37, 0, 269, 0, 0, 0) := rfl
set_option maxRecDepth 8000 in
theorem q155_235 : z_fi (z_mi 155) 235 = some (235, .aload_n 0, 0, 0, 0, 0, 0) := rfl
set_option maxRecDepth 8000 in
theorem q155_236 : z_fi (z_mi 155) 236 = some (236, .iconst 1, 0, 0, 0, 1, 0) := rfl
set_option maxRecDepth 8000 in
theorem q155_237 : z_fi (z_mi 155) 237 = some (237, .invokevirtual 99, 0, 153, 1, 0, 0) := rfl
set_option maxRecDepth 8000 in
theorem q155_240 : z_fi (z_mi 155) 240 = some (240, .goto 29, 0, 269, 0, 0, 0) := rfl
set_option maxRecDepth 8000 in
theorem q155_243 : z_fi (z_mi 155) 243 = some (243, .aload_n 0, 0, 0, 0, 0, 0) := rfl
set_option maxRecDepth 8000 in
theorem q155_244 : z_fi (z_mi 155) 244 = some (244, .iconst 3, 0, 0, 0, 3, 0) := rfl
set_option maxRecDepth 8000 in
theorem q155_245 : z_fi (z_mi 155) 245 = some (245, .putfield 78, 0, 10, 19, 0, 0) := rfl
set_option maxRecDepth 8000 in
theorem q155_248 : z_fi (z_mi 155) 248 = some (248, .aload_n 0, 0, 0, 0, 0, 0) := rfl
set_option maxRecDepth 8000 in
theorem q155_249 : z_fi (z_mi 155) 249 = some (249, .dup, 0, 0, 0, 0, 0) := rfl
set_option maxRecDepth 8000 in
theorem q155_250 : z_fi (z_mi 155) 250 = some (250, .getfield 81, 0, 10, 17, 0, 0) := rfl
set_option maxRecDepth 8000 in
theorem q155_253 : z_fi (z_mi 155) 253 = some (253, .iconst 1, 0, 0, 0, 1, 0) := rfl
set_option maxRecDepth 8000 in
theorem q155_254 : z_fi (z_mi 155) 254 = some (254, .iadd, 0, 0, 0, 0, 0) := rfl
set_option maxRecDepth 8000 in
theorem q155_255 : z_fi (z_mi 155) 255 = some (255, .putfield 81, 0, 10, 17, 0, 0) := rfl
set_option maxRecDepth 8000 in
theorem q155_258 : z_fi (z_mi 155) 258 = some (258, .iload_n 1, 0, 0, 0, 0, 0) := rfl
set_option maxRecDepth 8000 in
theorem q155_259 : z_fi (z_mi 155) 259 = some (259, .bipush 59, 0, 0, 0, 59, 0) := rfl
set_option maxRecDepth 8000 in
theorem q155_261 : z_fi (z_mi 155) 261 = some (261, .if_icmp .eq 8, 0, 269, 0, 0, 0) := rfl
set_option maxRecDepth 8000 in
theorem q155_264 : z_fi (z_mi 155) 264 = some (264, .aload_n 0, 0, 0, 0, 0, 0) := rfl
set_option maxRecDepth 8000 in
theorem q155_265 : z_fi (z_mi 155) 265 = some (265, .iconst 1, 0, 0, 0, 1, 0) := rfl
set_option maxRecDepth 8000 in
theorem q155_266 : z_fi (z_mi 155) 266 = some (266, .invokevirtual 99, 0, 153, 1, 0, 0) := rfl
set_option maxRecDepth 8000 in
theorem q155_269 : z_fi (z_mi 155) 269 = some (269, .return_, 0, 0, 0, 0, 0) := rfl
set_option maxRecDepth 20000 in
set_option maxHeartbeats 4000000 in
theorem t_M_step {xL : Nat} {xs : Nat → Int32} {ρ : Nat → Nat → Option Nat} (hρ : z_hR ρ) (d : Nat)  (σ : zS) : ∀ q, f_M_step  σ = some q → z_ec xL xs ρ (d + 1) 155 [.ref 90] σ (em_v q) := by
  refine j_of (W := [.ref 90, .null]) (fun L hL => ?_) ?_
  · subst hL; exact z_vl_0 _ 1 rfl
  · unfold f_M_step
    refine j_aload_n (pc' := 1) q155_0 rfl (by decide) rfl ?_
    refine j_getf (k := 90) (pc' := 4) q155_1 rfl rfl ?_
    refine j_if_le (pc' := 7) q155_4 rfl (fun c1 => ?_) (fun c1 => ?_)
    · refine j_forget (V' := [.ref 90, .null]) (z_le_s (z_le_n (z_le_nil))) ?_
      refine j_loopX (S := zS) (E := zS) (fun e => e) 34 (fun s2 => [.ref 90, .null]) (fun s2 => s2) (fun b2 => [.ref 90, .null]) (fun b2 => b2) (fun b2 => ?_) (fun R2 hR2 hX2 s2 => ?_) σ
      · show z_J _ _ _ _ _ _ _ _ _ _ _ _
        refine j_aload_n (pc' := 35) q155_34 rfl (by decide) rfl ?_
        refine j_aload_n (pc' := 36) q155_35 rfl (by decide) rfl ?_
        refine j_getf (k := 90) (pc' := 39) q155_36 rfl rfl ?_
        refine j_putf (k := 90) (pc' := 42) q155_39 rfl rfl ?_
        refine j_nameS (fun τ6 => ?_)
        refine j_aload_n (pc' := 43) q155_42 rfl (by decide) rfl ?_
        refine j_aload_n (pc' := 44) q155_43 rfl (by decide) rfl ?_
        refine j_getf (k := 90) (pc' := 47) q155_44 rfl rfl ?_
        refine j_callV1_pi (d := d + 0) (pc' := 50) q155_47 rfl (Nat.le_of_ble_eq_true rfl) (Nat.le_of_ble_eq_true rfl) rfl (t_M_byteAt hρ (d + 0) _ _) (fun r7 => ?_)
        refine j_istore1 (pc' := 51) q155_50 rfl (Nat.le_of_ble_eq_true rfl) rfl ?_
        refine j_aload_n (pc' := 52) q155_51 rfl (by decide) rfl ?_
        refine j_iconst (pc' := 53) q155_52 rfl ?_
        refine j_putf (k := 90) (pc' := 56) q155_53 rfl rfl ?_
        refine j_nameS (fun τ8 => ?_)
        refine j_iload_n (pc' := 57) q155_56 rfl rfl ?_
        refine j_bipush (pc' := 59) q155_57 rfl ?_
        refine j_icmp_ne (pc' := 62) q155_59 rfl (fun c9 => ?_) (fun c9 => ?_)
        · refine j_aload_n (pc' := 63) q155_62 rfl (by decide) rfl ?_
          refine j_iconst (pc' := 64) q155_63 rfl ?_
          refine j_putf (k := 90) (pc' := 67) q155_64 rfl rfl ?_
          refine j_nameS (fun τ10 => ?_)
          refine j_goto q155_67 rfl ?_
          exact j_vret q155_269 rfl
        · refine j_iload_n (pc' := 71) q155_70 rfl rfl ?_
          refine j_i2l (pc' := 72) q155_71 rfl ?_
          refine j_ldc2 (pc' := 75) q155_72 rfl ?_
          refine j_ldc2 (pc' := 78) q155_75 rfl ?_
          refine j_callS3_pi (d := d + 0) (pc' := 81) q155_78 (Or.inl rfl) (Nat.le_of_ble_eq_true rfl) (Nat.le_of_ble_eq_true rfl) rfl (t_M_in hρ (d + 0) _ _ _ _) (fun r11 => ?_)
          refine j_if_eq (pc' := 84) q155_81 rfl (fun c12 => ?_) (fun c12 => ?_)
          · refine j_iload_n (pc' := 127) q155_126 rfl rfl ?_
            refine j_i2l (pc' := 128) q155_127 rfl ?_
            refine j_ldc2 (pc' := 131) q155_128 rfl ?_
            refine j_ldc2 (pc' := 134) q155_131 rfl ?_
            refine j_callS3_pi (d := d + 0) (pc' := 137) q155_134 (Or.inl rfl) (Nat.le_of_ble_eq_true rfl) (Nat.le_of_ble_eq_true rfl) rfl (t_M_in hρ (d + 0) _ _ _ _) (fun r13 => ?_)
            refine j_if_eq (pc' := 140) q155_137 rfl (fun c14 => ?_) (fun c14 => ?_)
            · refine j_aload_n (pc' := 244) q155_243 rfl (by decide) rfl ?_
              refine j_iconst (pc' := 245) q155_244 rfl ?_
              refine j_putf (k := 90) (pc' := 248) q155_245 rfl rfl ?_
              refine j_nameS (fun τ15 => ?_)
              refine j_aload_n (pc' := 249) q155_248 rfl (by decide) rfl ?_
              refine j_dup (pc' := 250) q155_249 rfl rfl ?_
              refine j_getf (k := 90) (pc' := 253) q155_250 rfl rfl ?_
              refine j_iconst (pc' := 254) q155_253 rfl ?_
              refine j_iadd (pc' := 255) q155_254 rfl ?_
              refine j_putf (k := 90) (pc' := 258) q155_255 rfl rfl ?_
              refine j_nameS (fun τ16 => ?_)
              refine j_iload_n (pc' := 259) q155_258 rfl rfl ?_
              refine j_bipush (pc' := 261) q155_259 rfl ?_
              refine j_icmp_eq (pc' := 264) q155_261 rfl (fun c17 => ?_) (fun c17 => ?_)
              · exact j_vret q155_269 rfl
              · refine j_aload_n (pc' := 265) q155_264 rfl (by decide) rfl ?_
                refine j_iconst (pc' := 266) q155_265 rfl ?_
                refine j_callV1_v (d := d + 0) (pc' := 269) q155_266 rfl (Nat.le_of_ble_eq_true rfl) (Nat.le_of_ble_eq_true rfl) rfl (t_M_fails hρ (d + 0) _ _) (fun r18 => ?_)
                exact j_vret q155_269 rfl
            · refine j_forget (V' := [.ref 90, .null]) (z_le_s (z_le_n (z_le_nil))) ?_
              refine j_loopX (S := zS) (E := zS) (fun e => e) 217 (fun s19 => [.ref 90, .null]) (fun s19 => s19) (fun b19 => [.ref 90, .null]) (fun b19 => b19) (fun b19 => ?_) (fun R19 hR19 hX19 s19 => ?_) τ8
              · show z_J _ _ _ _ _ _ _ _ _ _ _ _
                refine j_aload_n (pc' := 218) q155_217 rfl (by decide) rfl ?_
                refine j_iconst (pc' := 219) q155_218 rfl ?_
                refine j_putf (k := 90) (pc' := 222) q155_219 rfl rfl ?_
                refine j_nameS (fun τ28 => ?_)
                refine j_aload_n (pc' := 223) q155_222 rfl (by decide) rfl ?_
                refine j_getf (k := 90) (pc' := 226) q155_223 rfl rfl ?_
                refine j_aload_n (pc' := 227) q155_226 rfl (by decide) rfl ?_
                refine j_getf (k := 90) (pc' := 230) q155_227 rfl rfl ?_
                refine j_isub (pc' := 231) q155_230 rfl ?_
                refine j_iconst (pc' := 232) q155_231 rfl ?_
                refine j_icmp_le (pc' := 235) q155_232 rfl (fun c29 => ?_) (fun c29 => ?_)
                · exact j_vret q155_269 rfl
                · refine j_aload_n (pc' := 236) q155_235 rfl (by decide) rfl ?_
                  refine j_iconst (pc' := 237) q155_236 rfl ?_
                  refine j_callV1_v (d := d + 0) (pc' := 240) q155_237 rfl (Nat.le_of_ble_eq_true rfl) (Nat.le_of_ble_eq_true rfl) rfl (t_M_fails hρ (d + 0) _ _) (fun r30 => ?_)
                  refine j_goto q155_240 rfl ?_
                  exact j_vret q155_269 rfl
              · show z_J _ _ _ _ _ _ _ _ _ _ _ _
                refine j_aload_n (pc' := 141) q155_140 rfl (by decide) rfl ?_
                refine j_aload_n (pc' := 142) q155_141 rfl (by decide) rfl ?_
                refine j_getf (k := 90) (pc' := 145) q155_142 rfl rfl ?_
                refine j_callV1_pi (d := d + 0) (pc' := 148) q155_145 rfl (Nat.le_of_ble_eq_true rfl) (Nat.le_of_ble_eq_true rfl) rfl (t_M_byteAt hρ (d + 0) _ _) (fun r20 => ?_)
                refine j_i2l (pc' := 149) q155_148 rfl ?_
                refine j_ldc2 (pc' := 152) q155_149 rfl ?_
                refine j_ldc2 (pc' := 155) q155_152 rfl ?_
                refine j_callS3_pi (d := d + 0) (pc' := 158) q155_155 (Or.inl rfl) (Nat.le_of_ble_eq_true rfl) (Nat.le_of_ble_eq_true rfl) rfl (t_M_in hρ (d + 0) _ _ _ _) (fun r21 => ?_)
                refine j_if_eq (pc' := 161) q155_158 rfl (fun c22 => ?_) (fun c22 => ?_)
                · exact j_exit (j_forget (z_le_s (z_le_n (z_le_nil))) (hX19 s19))
                · refine j_aload_n (pc' := 162) q155_161 rfl (by decide) rfl ?_
                  refine j_aload_n (pc' := 163) q155_162 rfl (by decide) rfl ?_
                  refine j_getf (k := 90) (pc' := 166) q155_163 rfl rfl ?_
                  refine j_aload_n (pc' := 167) q155_166 rfl (by decide) rfl ?_
                  refine j_getf (k := 90) (pc' := 170) q155_167 rfl rfl ?_
                  refine j_isub (pc' := 171) q155_170 rfl ?_
                  refine j_iconst (pc' := 172) q155_171 rfl ?_
                  refine j_join (T := Int32) 201 (fun t23 => [.ref 90, .null]) (fun t23 => [.int t23, .ref 90]) (fun t23 => s19) (fun t23 => ?_) (fun j23 hj23 => ?_)
                  · show z_J _ _ _ _ _ _ _ _ _ _ _ _
                    refine j_putf (k := 90) (pc' := 204) q155_201 rfl rfl ?_
                    refine j_nameS (fun τ24 => ?_)
                    refine j_aload_n (pc' := 205) q155_204 rfl (by decide) rfl ?_
                    refine j_dup (pc' := 206) q155_205 rfl rfl ?_
                    refine j_getf (k := 90) (pc' := 209) q155_206 rfl rfl ?_
                    refine j_iconst (pc' := 210) q155_209 rfl ?_
                    refine j_iadd (pc' := 211) q155_210 rfl ?_
                    refine j_putf (k := 90) (pc' := 214) q155_211 rfl rfl ?_
                    refine j_nameS (fun τ25 => ?_)
                    refine j_goto q155_214 rfl ?_
                    exact j_again (j_forget (z_le_s (z_le_n (z_le_nil))) (hR19 τ25))
                  · show z_J _ _ _ _ _ _ _ _ _ _ _ _
                    refine j_icmp_ge (pc' := 175) q155_172 rfl (fun c26 => ?_) (fun c26 => ?_)
                    · refine j_aload_n (pc' := 198) q155_197 rfl (by decide) rfl ?_
                      refine j_getf (k := 90) (pc' := 201) q155_198 rfl rfl ?_
                      refine j_forget (z_le_s (z_le_n (z_le_nil))) (hj23 (s19 90 20))
                    · refine j_bipush (pc' := 177) q155_175 rfl ?_
                      refine j_aload_n (pc' := 178) q155_177 rfl (by decide) rfl ?_
                      refine j_getf (k := 90) (pc' := 181) q155_178 rfl rfl ?_
                      refine j_imul (pc' := 182) q155_181 rfl ?_
                      refine j_aload_n (pc' := 183) q155_182 rfl (by decide) rfl ?_
                      refine j_aload_n (pc' := 184) q155_183 rfl (by decide) rfl ?_
                      refine j_getf (k := 90) (pc' := 187) q155_184 rfl rfl ?_
                      refine j_callV1_pi (d := d + 0) (pc' := 190) q155_187 rfl (Nat.le_of_ble_eq_true rfl) (Nat.le_of_ble_eq_true rfl) rfl (t_M_byteAt hρ (d + 0) _ _) (fun r27 => ?_)
                      refine j_iadd (pc' := 191) q155_190 rfl ?_
                      refine j_bipush (pc' := 193) q155_191 rfl ?_
                      refine j_isub (pc' := 194) q155_193 rfl ?_
                      refine j_goto q155_194 rfl ?_
                      refine j_forget (z_le_s (z_le_n (z_le_nil))) (hj23 ((((10 : Int32) * (s19 90 20)) + r27) - (48 : Int32)))
          · refine j_forget (V' := [.ref 90, .null]) (z_le_s (z_le_n (z_le_nil))) ?_
            refine j_loopX (S := zS) (E := zS) (fun e => e) 118 (fun s31 => [.ref 90, .null]) (fun s31 => s31) (fun b31 => [.ref 90, .null]) (fun b31 => b31) (fun b31 => ?_) (fun R31 hR31 hX31 s31 => ?_) τ8
            · show z_J _ _ _ _ _ _ _ _ _ _ _ _
              refine j_aload_n (pc' := 119) q155_118 rfl (by decide) rfl ?_
              refine j_iconst (pc' := 120) q155_119 rfl ?_
              refine j_putf (k := 90) (pc' := 123) q155_120 rfl rfl ?_
              refine j_nameS (fun τ36 => ?_)
              refine j_goto q155_123 rfl ?_
              exact j_vret q155_269 rfl
            · show z_J _ _ _ _ _ _ _ _ _ _ _ _
              refine j_aload_n (pc' := 85) q155_84 rfl (by decide) rfl ?_
              refine j_aload_n (pc' := 86) q155_85 rfl (by decide) rfl ?_
              refine j_getf (k := 90) (pc' := 89) q155_86 rfl rfl ?_
              refine j_callV1_pi (d := d + 0) (pc' := 92) q155_89 rfl (Nat.le_of_ble_eq_true rfl) (Nat.le_of_ble_eq_true rfl) rfl (t_M_byteAt hρ (d + 0) _ _) (fun r32 => ?_)
              refine j_i2l (pc' := 93) q155_92 rfl ?_
              refine j_ldc2 (pc' := 96) q155_93 rfl ?_
              refine j_ldc2 (pc' := 99) q155_96 rfl ?_
              refine j_callS3_pi (d := d + 0) (pc' := 102) q155_99 (Or.inl rfl) (Nat.le_of_ble_eq_true rfl) (Nat.le_of_ble_eq_true rfl) rfl (t_M_in hρ (d + 0) _ _ _ _) (fun r33 => ?_)
              refine j_if_eq (pc' := 105) q155_102 rfl (fun c34 => ?_) (fun c34 => ?_)
              · exact j_exit (j_forget (z_le_s (z_le_n (z_le_nil))) (hX31 s31))
              · refine j_aload_n (pc' := 106) q155_105 rfl (by decide) rfl ?_
                refine j_dup (pc' := 107) q155_106 rfl rfl ?_
                refine j_getf (k := 90) (pc' := 110) q155_107 rfl rfl ?_
                refine j_iconst (pc' := 111) q155_110 rfl ?_
                refine j_iadd (pc' := 112) q155_111 rfl ?_
                refine j_putf (k := 90) (pc' := 115) q155_112 rfl rfl ?_
                refine j_nameS (fun τ35 => ?_)
                refine j_goto q155_115 rfl ?_
                exact j_again (j_forget (z_le_s (z_le_n (z_le_nil))) (hR31 τ35))
      · show z_J _ _ _ _ _ _ _ _ _ _ _ _
        refine j_aload_n (pc' := 9) q155_8 rfl (by decide) rfl ?_
        refine j_aload_n (pc' := 10) q155_9 rfl (by decide) rfl ?_
        refine j_getf (k := 90) (pc' := 13) q155_10 rfl rfl ?_
        refine j_callV1_pi (d := d + 0) (pc' := 16) q155_13 rfl (Nat.le_of_ble_eq_true rfl) (Nat.le_of_ble_eq_true rfl) rfl (t_M_byteAt hρ (d + 0) _ _) (fun r3 => ?_)
        refine j_bipush (pc' := 18) q155_16 rfl ?_
        refine j_icmp_ne (pc' := 21) q155_18 rfl (fun c4 => ?_) (fun c4 => ?_)
        · refine j_aload_n (pc' := 22) q155_21 rfl (by decide) rfl ?_
          refine j_dup (pc' := 23) q155_22 rfl rfl ?_
          refine j_getf (k := 90) (pc' := 26) q155_23 rfl rfl ?_
          refine j_iconst (pc' := 27) q155_26 rfl ?_
          refine j_iadd (pc' := 28) q155_27 rfl ?_
          refine j_putf (k := 90) (pc' := 31) q155_28 rfl rfl ?_
          refine j_nameS (fun τ5 => ?_)
          refine j_goto q155_31 rfl ?_
          exact j_again (j_forget (z_le_s (z_le_n (z_le_nil))) (hR2 τ5))
        · exact j_exit (j_forget (z_le_s (z_le_n (z_le_nil))) (hX2 s2))
    · exact j_vret q155_7 rfl
theorem q154_0 : z_fi (z_mi 154) 0 = some (0, .iconst 0, 0, 0, 0, 0, 0) := rfl
theorem q154_1 : z_fi (z_mi 154) 1 = some (1, .istore_n 1, 0, 0, 0, 0, 0) := rfl
theorem q154_2 : z_fi (z_mi 154) 2 = some (2, .iload_n 1, 0, 0, 0, 0, 0) := rfl
theorem q154_3 : z_fi (z_mi 154) 3 = some (3, .bipush 13, 0, 0, 0, 13, 0) := rfl
theorem q154_5 : z_fi (z_mi 154) 5 = some (5, .if_icmp .ge 113, 0, 118, 0, 0, 0) := rfl
theorem q154_8 : z_fi (z_mi 154) 8 = some (8, .aload_n 0, 0, 0, 0, 0, 0) := rfl
theorem q154_9 : z_fi (z_mi 154) 9 = some (9, .getfield 78, 0, 10, 19, 0, 0) := rfl
theorem q154_12 : z_fi (z_mi 154) 12 = some (12, .iconst 1, 0, 0, 0, 1, 0) := rfl
theorem q154_13 : z_fi (z_mi 154) 13 = some (13, .if_icmp .ne 105, 0, 118, 0, 0, 0) := rfl
theorem q154_16 : z_fi (z_mi 154) 16 = some (16, .aload_n 0, 0, 0, 0, 0, 0) := rfl
theorem q154_17 : z_fi (z_mi 154) 17 = some (17, .getfield 81, 0, 10, 17, 0, 0) := rfl
theorem q154_20 : z_fi (z_mi 154) 20 = some (20, .aload_n 0, 0, 0, 0, 0, 0) := rfl
theorem q154_21 : z_fi (z_mi 154) 21 = some (21, .getfield 72, 0, 10, 18, 0, 0) := rfl
theorem q154_24 : z_fi (z_mi 154) 24 = some (24, .isub, 0, 0, 0, 0, 0) := rfl
theorem q154_25 : z_fi (z_mi 154) 25 = some (25, .aload_n 0, 0, 0, 0, 0, 0) := rfl
theorem q154_26 : z_fi (z_mi 154) 26 = some (26, .getfield 32, 0, 10, 21, 0, 0) := rfl
theorem q154_29 : z_fi (z_mi 154) 29 = some (29, .iload_n 1, 0, 0, 0, 0, 0) := rfl
theorem q154_30 : z_fi (z_mi 154) 30 = some (30, .iconst 1, 0, 0, 0, 1, 0) := rfl
theorem q154_31 : z_fi (z_mi 154) 31 = some (31, .iadd, 0, 0, 0, 0, 0) := rfl
theorem q154_32 : z_fi (z_mi 154) 32 = some (32, .iaload, 0, 0, 0, 0, 0) := rfl
theorem q154_33 : z_fi (z_mi 154) 33 = some (33, .aload_n 0, 0, 0, 0, 0, 0) := rfl
theorem q154_34 : z_fi (z_mi 154) 34 = some (34, .getfield 32, 0, 10, 21, 0, 0) := rfl
theorem q154_37 : z_fi (z_mi 154) 37 = some (37, .iload_n 1, 0, 0, 0, 0, 0) := rfl
theorem q154_38 : z_fi (z_mi 154) 38 = some (38, .iaload, 0, 0, 0, 0, 0) := rfl
theorem q154_39 : z_fi (z_mi 154) 39 = some (39, .isub, 0, 0, 0, 0, 0) := rfl
theorem q154_40 : z_fi (z_mi 154) 40 = some (40, .if_icmp .ne 7, 0, 47, 0, 0, 0) := rfl
theorem q154_43 : z_fi (z_mi 154) 43 = some (43, .iconst 1, 0, 0, 0, 1, 0) := rfl
theorem q154_44 : z_fi (z_mi 154) 44 = some (44, .goto 4, 0, 48, 0, 0, 0) := rfl
theorem q154_47 : z_fi (z_mi 154) 47 = some (47, .iconst 0, 0, 0, 0, 0, 0) := rfl
theorem q154_48 : z_fi (z_mi 154) 48 = some (48, .istore_n 2, 0, 0, 0, 0, 0) := rfl
theorem q154_49 : z_fi (z_mi 154) 49 = some (49, .iconst 0, 0, 0, 0, 0, 0) := rfl
theorem q154_50 : z_fi (z_mi 154) 50 = some (50, .istore_n 3, 0, 0, 0, 0, 0) := rfl
theorem q154_51 : z_fi (z_mi 154) 51 = some (51, .iload_n 2, 0, 0, 0, 0, 0) := rfl
theorem q154_52 : z_fi (z_mi 154) 52 = some (52, .ifCond .eq 54, 0, 106, 0, 0, 0) := rfl
theorem q154_55 : z_fi (z_mi 154) 55 = some (55, .iload_n 3, 0, 0, 0, 0, 0) := rfl
theorem q154_56 : z_fi (z_mi 154) 56 = some (56, .aload_n 0, 0, 0, 0, 0, 0) := rfl
theorem q154_57 : z_fi (z_mi 154) 57 = some (57, .getfield 81, 0, 10, 17, 0, 0) := rfl
theorem q154_60 : z_fi (z_mi 154) 60 = some (60, .aload_n 0, 0, 0, 0, 0, 0) := rfl
theorem q154_61 : z_fi (z_mi 154) 61 = some (61, .getfield 72, 0, 10, 18, 0, 0) := rfl
theorem q154_64 : z_fi (z_mi 154) 64 = some (64, .isub, 0, 0, 0, 0, 0) := rfl
theorem q154_65 : z_fi (z_mi 154) 65 = some (65, .if_icmp .ge 41, 0, 106, 0, 0, 0) := rfl
theorem q154_68 : z_fi (z_mi 154) 68 = some (68, .aload_n 0, 0, 0, 0, 0, 0) := rfl
theorem q154_69 : z_fi (z_mi 154) 69 = some (69, .aload_n 0, 0, 0, 0, 0, 0) := rfl
theorem q154_70 : z_fi (z_mi 154) 70 = some (70, .getfield 72, 0, 10, 18, 0, 0) := rfl
theorem q154_73 : z_fi (z_mi 154) 73 = some (73, .iload_n 3, 0, 0, 0, 0, 0) := rfl
theorem q154_74 : z_fi (z_mi 154) 74 = some (74, .iadd, 0, 0, 0, 0, 0) := rfl
theorem q154_75 : z_fi (z_mi 154) 75 = some (75, .invokevirtual 84, 0, 152, 1, 0, 0) := rfl
theorem q154_78 : z_fi (z_mi 154) 78 = some (78, .aload_n 0, 0, 0, 0, 0, 0) := rfl
theorem q154_79 : z_fi (z_mi 154) 79 = some (79, .getfield 35, 0, 10, 22, 0, 0) := rfl
theorem q154_82 : z_fi (z_mi 154) 82 = some (82, .aload_n 0, 0, 0, 0, 0, 0) := rfl
theorem q154_83 : z_fi (z_mi 154) 83 = some (83, .getfield 32, 0, 10, 21, 0, 0) := rfl
theorem q154_86 : z_fi (z_mi 154) 86 = some (86, .iload_n 1, 0, 0, 0, 0, 0) := rfl
theorem q154_87 : z_fi (z_mi 154) 87 = some (87, .iaload, 0, 0, 0, 0, 0) := rfl
theorem q154_88 : z_fi (z_mi 154) 88 = some (88, .iload_n 3, 0, 0, 0, 0, 0) := rfl
theorem q154_89 : z_fi (z_mi 154) 89 = some (89, .iadd, 0, 0, 0, 0, 0) := rfl
theorem q154_90 : z_fi (z_mi 154) 90 = some (90, .iaload, 0, 0, 0, 0, 0) := rfl
theorem q154_91 : z_fi (z_mi 154) 91 = some (91, .if_icmp .ne 7, 0, 98, 0, 0, 0) := rfl
theorem q154_94 : z_fi (z_mi 154) 94 = some (94, .iconst 1, 0, 0, 0, 1, 0) := rfl
theorem q154_95 : z_fi (z_mi 154) 95 = some (95, .goto 4, 0, 99, 0, 0, 0) := rfl
theorem q154_98 : z_fi (z_mi 154) 98 = some (98, .iconst 0, 0, 0, 0, 0, 0) := rfl
theorem q154_99 : z_fi (z_mi 154) 99 = some (99, .istore_n 2, 0, 0, 0, 0, 0) := rfl
set_option maxRecDepth 8000 in
theorem q154_100 : z_fi (z_mi 154) 100 = some (100, .iinc 3 1, 0, 0, 0, 1, 0) := rfl
set_option maxRecDepth 8000 in
theorem q154_103 : z_fi (z_mi 154) 103 = some (103, .goto (-52), 0, 51, 0, 0, 0) := rfl
set_option maxRecDepth 8000 in
theorem q154_106 : z_fi (z_mi 154) 106 = some (106, .iload_n 2, 0, 0, 0, 0, 0) := rfl
set_option maxRecDepth 8000 in
theorem q154_107 : z_fi (z_mi 154) 107 = some (107, .ifCond .eq 5, 0, 112, 0, 0, 0) := rfl
set_option maxRecDepth 8000 in
theorem q154_110 : z_fi (z_mi 154) 110 = some (110, .iload_n 1, 0, 0, 0, 0, 0) := rfl
set_option maxRecDepth 8000 in
theorem q154_111 : z_fi (z_mi 154) 111 = some (111, .ireturn, 0, 0, 0, 0, 0) := rfl
set_option maxRecDepth 8000 in
theorem q154_112 : z_fi (z_mi 154) 112 = some (112, .iinc 1 1, 0, 0, 0, 1, 0) := rfl
set_option maxRecDepth 8000 in
theorem q154_115 : z_fi (z_mi 154) 115 = some (115, .goto (-113), 0, 2, 0, 0, 0) := rfl
set_option maxRecDepth 8000 in
theorem q154_118 : z_fi (z_mi 154) 118 = some (118, .bipush (-4), 0, 0, 0, (-4), 0) := rfl
set_option maxRecDepth 8000 in
theorem q154_120 : z_fi (z_mi 154) 120 = some (120, .ireturn, 0, 0, 0, 0, 0) := rfl
set_option maxRecDepth 20000 in
set_option maxHeartbeats 4000000 in
theorem t_M_nameHere {xL : Nat} {xs : Nat → Int32} {ρ : Nat → Nat → Option Nat} (hρ : z_hR ρ) (d : Nat)  (σ : zS) : ∀ q, f_M_nameHere  σ = some q → z_ec xL xs ρ (d + 1) 154 [.ref 90] σ (em_pi σ q) := by
  refine j_of (W := [.ref 90, .null, .null, .null]) (fun L hL => ?_) ?_
  · subst hL; exact z_vl_0 _ 3 rfl
  · unfold f_M_nameHere
    refine j_iconst (pc' := 1) q154_0 rfl ?_
    refine j_istore1 (pc' := 2) q154_1 rfl (Nat.le_of_ble_eq_true rfl) rfl ?_
    refine j_forget (V' := [.ref 90, .int (0 : Int32), .null, .null]) (z_le_s (z_le_s (z_le_n (z_le_n (z_le_nil))))) ?_
    refine j_loopX (S := Int32) (E := Unit) Sum.inl 118 (fun s1 => [.ref 90, .int s1, .null, .null]) (fun s1 => σ) (fun b1 => [.null, .null, .null, .null]) (fun b1 => σ) (fun b1 => ?_) (fun R1 hR1 hX1 s1 => ?_) (0 : Int32)
    · show z_J _ _ _ _ _ _ _ _ _ _ _ _
      refine j_bipush (pc' := 120) q154_118 rfl ?_
      exact j_piret q154_120 rfl
    · show z_J _ _ _ _ _ _ _ _ _ _ _ _
      refine j_iload_n (pc' := 3) q154_2 rfl rfl ?_
      refine j_bipush (pc' := 5) q154_3 rfl ?_
      refine j_icmp_ge (pc' := 8) q154_5 rfl (fun c2 => ?_) (fun c2 => ?_)
      · exact j_exit (j_forget (z_le_n (z_le_n (z_le_n (z_le_n (z_le_nil))))) (hX1 ()))
      · refine j_aload_n (pc' := 9) q154_8 rfl (by decide) rfl ?_
        refine j_getf (k := 90) (pc' := 12) q154_9 rfl rfl ?_
        refine j_iconst (pc' := 13) q154_12 rfl ?_
        refine j_icmp_ne (pc' := 16) q154_13 rfl (fun c3 => ?_) (fun c3 => ?_)
        · refine j_aload_n (pc' := 17) q154_16 rfl (by decide) rfl ?_
          refine j_getf (k := 90) (pc' := 20) q154_17 rfl rfl ?_
          refine j_aload_n (pc' := 21) q154_20 rfl (by decide) rfl ?_
          refine j_getf (k := 90) (pc' := 24) q154_21 rfl rfl ?_
          refine j_isub (pc' := 25) q154_24 rfl ?_
          refine j_aload_n (pc' := 26) q154_25 rfl (by decide) rfl ?_
          refine j_getr (k := 90) (q := 96) (pc' := 29) q154_26 rfl (hρ 90 21 96 rfl) rfl ?_
          refine j_iload_n (pc' := 30) q154_29 rfl rfl ?_
          refine j_iconst (pc' := 31) q154_30 rfl ?_
          refine j_iadd (pc' := 32) q154_31 rfl ?_
          refine j_if (fun hi4 => ?_) (fun _ => j_none)
          refine j_iald (k := 96) (N := 14) (pc' := 33) q154_32 rfl hi4 rfl ?_
          refine j_aload_n (pc' := 34) q154_33 rfl (by decide) rfl ?_
          refine j_getr (k := 90) (q := 96) (pc' := 37) q154_34 rfl (hρ 90 21 96 rfl) rfl ?_
          refine j_iload_n (pc' := 38) q154_37 rfl rfl ?_
          refine j_if (fun hi5 => ?_) (fun _ => j_none)
          refine j_iald (k := 96) (N := 14) (pc' := 39) q154_38 rfl hi5 rfl ?_
          refine j_isub (pc' := 40) q154_39 rfl ?_
          refine j_join (T := Int32) 48 (fun t6 => [.ref 90, .int s1, .null, .null]) (fun t6 => [.int t6]) (fun t6 => σ) (fun t6 => ?_) (fun j6 hj6 => ?_)
          · show z_J _ _ _ _ _ _ _ _ _ _ _ _
            refine j_istore2 (pc' := 49) q154_48 rfl (Nat.le_of_ble_eq_true rfl) rfl ?_
            refine j_iconst (pc' := 50) q154_49 rfl ?_
            refine j_istore3 (pc' := 51) q154_50 rfl (Nat.le_of_ble_eq_true rfl) rfl ?_
            refine j_forget (V' := [.ref 90, .int s1, .int t6, .int (0 : Int32)]) (z_le_s (z_le_s (z_le_s (z_le_s (z_le_nil))))) ?_
            refine j_loopX (S := Int32 × Int32) (E := Int32) (fun e => e) 106 (fun s7 => [.ref 90, .int s1, .int s7.1, .int s7.2]) (fun s7 => σ) (fun b7 => [.ref 90, .int s1, .int b7, .null]) (fun b7 => σ) (fun b7 => ?_) (fun R7 hR7 hX7 s7 => ?_) (t6, (0 : Int32))
            · show z_J _ _ _ _ _ _ _ _ _ _ _ _
              refine j_iload_n (pc' := 107) q154_106 rfl rfl ?_
              refine j_if_eq (pc' := 110) q154_107 rfl (fun c15 => ?_) (fun c15 => ?_)
              · refine j_iinc1 (pc' := 115) q154_112 rfl (Nat.le_of_ble_eq_true rfl) rfl ?_
                refine j_goto q154_115 rfl ?_
                exact j_again (j_forget (z_le_s (z_le_s (z_le_n (z_le_n (z_le_nil))))) (hR1 (s1 + (1 : Int32))))
              · refine j_iload_n (pc' := 111) q154_110 rfl rfl ?_
                refine j_exit ?_
                exact j_piret q154_111 rfl
            · show z_J _ _ _ _ _ _ _ _ _ _ _ _
              refine j_iload_n (pc' := 52) q154_51 rfl rfl ?_
              refine j_if_eq (pc' := 55) q154_52 rfl (fun c8 => ?_) (fun c8 => ?_)
              · exact j_exit (j_forget (z_le_s (z_le_s (z_le_s (z_le_n (z_le_nil))))) (hX7 s7.1))
              · refine j_iload_n (pc' := 56) q154_55 rfl rfl ?_
                refine j_aload_n (pc' := 57) q154_56 rfl (by decide) rfl ?_
                refine j_getf (k := 90) (pc' := 60) q154_57 rfl rfl ?_
                refine j_aload_n (pc' := 61) q154_60 rfl (by decide) rfl ?_
                refine j_getf (k := 90) (pc' := 64) q154_61 rfl rfl ?_
                refine j_isub (pc' := 65) q154_64 rfl ?_
                refine j_icmp_ge (pc' := 68) q154_65 rfl (fun c9 => ?_) (fun c9 => ?_)
                · exact j_exit (j_forget (z_le_s (z_le_s (z_le_s (z_le_n (z_le_nil))))) (hX7 s7.1))
                · refine j_aload_n (pc' := 69) q154_68 rfl (by decide) rfl ?_
                  refine j_aload_n (pc' := 70) q154_69 rfl (by decide) rfl ?_
                  refine j_getf (k := 90) (pc' := 73) q154_70 rfl rfl ?_
                  refine j_iload_n (pc' := 74) q154_73 rfl rfl ?_
                  refine j_iadd (pc' := 75) q154_74 rfl ?_
                  refine j_callV1_pi (d := d + 0) (pc' := 78) q154_75 rfl (Nat.le_of_ble_eq_true rfl) (Nat.le_of_ble_eq_true rfl) rfl (t_M_byteAt hρ (d + 0) _ _) (fun r10 => ?_)
                  refine j_aload_n (pc' := 79) q154_78 rfl (by decide) rfl ?_
                  refine j_getr (k := 90) (q := 97) (pc' := 82) q154_79 rfl (hρ 90 22 97 rfl) rfl ?_
                  refine j_aload_n (pc' := 83) q154_82 rfl (by decide) rfl ?_
                  refine j_getr (k := 90) (q := 96) (pc' := 86) q154_83 rfl (hρ 90 21 96 rfl) rfl ?_
                  refine j_iload_n (pc' := 87) q154_86 rfl rfl ?_
                  refine j_if (fun hi11 => ?_) (fun _ => j_none)
                  refine j_iald (k := 96) (N := 14) (pc' := 88) q154_87 rfl hi11 rfl ?_
                  refine j_iload_n (pc' := 89) q154_88 rfl rfl ?_
                  refine j_iadd (pc' := 90) q154_89 rfl ?_
                  refine j_if (fun hi12 => ?_) (fun _ => j_none)
                  refine j_iald (k := 97) (N := 51) (pc' := 91) q154_90 rfl hi12 rfl ?_
                  refine j_join (T := Int32) 99 (fun t13 => [.ref 90, .int s1, .null, .int s7.2]) (fun t13 => [.int t13]) (fun t13 => σ) (fun t13 => ?_) (fun j13 hj13 => ?_)
                  · show z_J _ _ _ _ _ _ _ _ _ _ _ _
                    refine j_istore2 (pc' := 100) q154_99 rfl (Nat.le_of_ble_eq_true rfl) rfl ?_
                    refine j_iinc3 (pc' := 103) q154_100 rfl (Nat.le_of_ble_eq_true rfl) rfl ?_
                    refine j_goto q154_103 rfl ?_
                    exact j_again (j_forget (z_le_s (z_le_s (z_le_s (z_le_s (z_le_nil))))) (hR7 (t13, (s7.2 + (1 : Int32)))))
                  · show z_J _ _ _ _ _ _ _ _ _ _ _ _
                    refine j_icmp_ne (pc' := 94) q154_91 rfl (fun c14 => ?_) (fun c14 => ?_)
                    · refine j_iconst (pc' := 95) q154_94 rfl ?_
                      refine j_goto q154_95 rfl ?_
                      refine j_forget (z_le_s (z_le_s (z_le_n (z_le_s (z_le_nil))))) (hj13 (1 : Int32))
                    · refine j_iconst (pc' := 99) q154_98 rfl ?_
                      refine j_forget (z_le_s (z_le_s (z_le_n (z_le_s (z_le_nil))))) (hj13 (0 : Int32))
          · show z_J _ _ _ _ _ _ _ _ _ _ _ _
            refine j_icmp_ne (pc' := 43) q154_40 rfl (fun c16 => ?_) (fun c16 => ?_)
            · refine j_iconst (pc' := 44) q154_43 rfl ?_
              refine j_goto q154_44 rfl ?_
              refine j_forget (z_le_s (z_le_s (z_le_n (z_le_n (z_le_nil))))) (hj6 (1 : Int32))
            · refine j_iconst (pc' := 48) q154_47 rfl ?_
              refine j_forget (z_le_s (z_le_s (z_le_n (z_le_n (z_le_nil))))) (hj6 (0 : Int32))
        · exact j_exit (j_forget (z_le_n (z_le_n (z_le_n (z_le_n (z_le_nil))))) (hX1 ()))
theorem q156_0 : z_fi (z_mi 156) 0 = some (0, .aload_n 0, 0, 0, 0, 0, 0) := rfl
theorem q156_1 : z_fi (z_mi 156) 1 = some (1, .getfield 69, 0, 10, 15, 0, 0) := rfl
theorem q156_4 : z_fi (z_mi 156) 4 = some (4, .ifCond .ne 16, 0, 20, 0, 0, 0) := rfl
theorem q156_7 : z_fi (z_mi 156) 7 = some (7, .aload_n 0, 0, 0, 0, 0, 0) := rfl
theorem q156_8 : z_fi (z_mi 156) 8 = some (8, .getfield 78, 0, 10, 19, 0, 0) := rfl
theorem q156_11 : z_fi (z_mi 156) 11 = some (11, .iconst 2, 0, 0, 0, 2, 0) := rfl
theorem q156_12 : z_fi (z_mi 156) 12 = some (12, .if_icmp .eq 8, 0, 20, 0, 0, 0) := rfl
theorem q156_15 : z_fi (z_mi 156) 15 = some (15, .aload_n 0, 0, 0, 0, 0, 0) := rfl
theorem q156_16 : z_fi (z_mi 156) 16 = some (16, .iconst 2, 0, 0, 0, 2, 0) := rfl
theorem q156_17 : z_fi (z_mi 156) 17 = some (17, .invokevirtual 99, 0, 153, 1, 0, 0) := rfl
theorem q156_20 : z_fi (z_mi 156) 20 = some (20, .aload_n 0, 0, 0, 0, 0, 0) := rfl
theorem q156_21 : z_fi (z_mi 156) 21 = some (21, .getfield 69, 0, 10, 15, 0, 0) := rfl
theorem q156_24 : z_fi (z_mi 156) 24 = some (24, .ifCond .ne 23, 0, 47, 0, 0, 0) := rfl
theorem q156_27 : z_fi (z_mi 156) 27 = some (27, .aload_n 0, 0, 0, 0, 0, 0) := rfl
theorem q156_28 : z_fi (z_mi 156) 28 = some (28, .getfield 88, 0, 10, 20, 0, 0) := rfl
theorem q156_31 : z_fi (z_mi 156) 31 = some (31, .i2l, 0, 0, 0, 0, 0) := rfl
theorem q156_32 : z_fi (z_mi 156) 32 = some (32, .iload_n 1, 0, 0, 0, 0, 0) := rfl
theorem q156_33 : z_fi (z_mi 156) 33 = some (33, .i2l, 0, 0, 0, 0, 0) := rfl
theorem q156_34 : z_fi (z_mi 156) 34 = some (34, .iload_n 2, 0, 0, 0, 0, 0) := rfl
theorem q156_35 : z_fi (z_mi 156) 35 = some (35, .i2l, 0, 0, 0, 0, 0) := rfl
theorem q156_36 : z_fi (z_mi 156) 36 = some (36, .invokestatic 62, 1, 149, 3, 0, 0) := rfl
theorem q156_39 : z_fi (z_mi 156) 39 = some (39, .ifCond .ne 8, 0, 47, 0, 0, 0) := rfl
theorem q156_42 : z_fi (z_mi 156) 42 = some (42, .aload_n 0, 0, 0, 0, 0, 0) := rfl
theorem q156_43 : z_fi (z_mi 156) 43 = some (43, .iconst 3, 0, 0, 0, 3, 0) := rfl
theorem q156_44 : z_fi (z_mi 156) 44 = some (44, .invokevirtual 99, 0, 153, 1, 0, 0) := rfl
theorem q156_47 : z_fi (z_mi 156) 47 = some (47, .aload_n 0, 0, 0, 0, 0, 0) := rfl
theorem q156_48 : z_fi (z_mi 156) 48 = some (48, .getfield 69, 0, 10, 15, 0, 0) := rfl
theorem q156_51 : z_fi (z_mi 156) 51 = some (51, .ifCond .ne 29, 0, 80, 0, 0, 0) := rfl
theorem q156_54 : z_fi (z_mi 156) 54 = some (54, .aload_n 0, 0, 0, 0, 0, 0) := rfl
theorem q156_55 : z_fi (z_mi 156) 55 = some (55, .getfield 88, 0, 10, 20, 0, 0) := rfl
theorem q156_58 : z_fi (z_mi 156) 58 = some (58, .bipush 32, 0, 0, 0, 32, 0) := rfl
theorem q156_60 : z_fi (z_mi 156) 60 = some (60, .if_icmp .ge 20, 0, 80, 0, 0, 0) := rfl
theorem q156_63 : z_fi (z_mi 156) 63 = some (63, .iload_n 3, 0, 0, 0, 0, 0) := rfl
theorem q156_64 : z_fi (z_mi 156) 64 = some (64, .aload_n 0, 0, 0, 0, 0, 0) := rfl
theorem q156_65 : z_fi (z_mi 156) 65 = some (65, .getfield 88, 0, 10, 20, 0, 0) := rfl
theorem q156_68 : z_fi (z_mi 156) 68 = some (68, .ishr, 0, 0, 0, 0, 0) := rfl
theorem q156_69 : z_fi (z_mi 156) 69 = some (69, .iconst 1, 0, 0, 0, 1, 0) := rfl
theorem q156_70 : z_fi (z_mi 156) 70 = some (70, .iand, 0, 0, 0, 0, 0) := rfl
theorem q156_71 : z_fi (z_mi 156) 71 = some (71, .iconst 1, 0, 0, 0, 1, 0) := rfl
theorem q156_72 : z_fi (z_mi 156) 72 = some (72, .if_icmp .ne 8, 0, 80, 0, 0, 0) := rfl
theorem q156_75 : z_fi (z_mi 156) 75 = some (75, .aload_n 0, 0, 0, 0, 0, 0) := rfl
theorem q156_76 : z_fi (z_mi 156) 76 = some (76, .iconst 4, 0, 0, 0, 4, 0) := rfl
theorem q156_77 : z_fi (z_mi 156) 77 = some (77, .invokevirtual 99, 0, 153, 1, 0, 0) := rfl
theorem q156_80 : z_fi (z_mi 156) 80 = some (80, .aload_n 0, 0, 0, 0, 0, 0) := rfl
theorem q156_81 : z_fi (z_mi 156) 81 = some (81, .getfield 69, 0, 10, 15, 0, 0) := rfl
theorem q156_84 : z_fi (z_mi 156) 84 = some (84, .ifCond .ne 10, 0, 94, 0, 0, 0) := rfl
theorem q156_87 : z_fi (z_mi 156) 87 = some (87, .aload_n 0, 0, 0, 0, 0, 0) := rfl
theorem q156_88 : z_fi (z_mi 156) 88 = some (88, .getfield 88, 0, 10, 20, 0, 0) := rfl
theorem q156_91 : z_fi (z_mi 156) 91 = some (91, .goto 4, 0, 95, 0, 0, 0) := rfl
theorem q156_94 : z_fi (z_mi 156) 94 = some (94, .iload_n 1, 0, 0, 0, 0, 0) := rfl
theorem q156_95 : z_fi (z_mi 156) 95 = some (95, .istore 4, 0, 0, 0, 0, 0) := rfl
theorem q156_97 : z_fi (z_mi 156) 97 = some (97, .aload_n 0, 0, 0, 0, 0, 0) := rfl
theorem q156_98 : z_fi (z_mi 156) 98 = some (98, .invokevirtual 103, 0, 155, 0, 0, 0) := rfl
theorem q156_101 : z_fi (z_mi 156) 101 = some (101, .iload 4, 0, 0, 0, 0, 0) := rfl
theorem q156_103 : z_fi (z_mi 156) 103 = some (103, .ireturn, 0, 0, 0, 0, 0) := rfl
set_option maxRecDepth 20000 in
set_option maxHeartbeats 4000000 in
theorem t_M_other {xL : Nat} {xs : Nat → Int32} {ρ : Nat → Nat → Option Nat} (hρ : z_hR ρ) (d : Nat) (a1 : Int32) (a2 : Int32) (a3 : Int32) (σ : zS) : ∀ q, f_M_other a1 a2 a3 σ = some q → z_ec xL xs ρ (d + 2) 156 [.ref 90, .int a1, .int a2, .int a3] σ (em_i q) := by
  refine j_of (W := [.ref 90, .int a1, .int a2, .int a3, .null]) (fun L hL => ?_) ?_
  · subst hL; exact z_vl_0 _ 1 rfl
  · unfold f_M_other
    refine j_aload_n (pc' := 1) q156_0 rfl (by decide) rfl ?_
    refine j_getf (k := 90) (pc' := 4) q156_1 rfl rfl ?_
    refine j_join (T := zS) 20 (fun t1 => [.ref 90, .int a1, .int a2, .int a3, .null]) (fun t1 => []) (fun t1 => t1) (fun t1 => ?_) (fun j1 hj1 => ?_)
    · show z_J _ _ _ _ _ _ _ _ _ _ _ _
      refine j_aload_n (pc' := 21) q156_20 rfl (by decide) rfl ?_
      refine j_getf (k := 90) (pc' := 24) q156_21 rfl rfl ?_
      refine j_join (T := zS) 47 (fun t2 => [.ref 90, .int a1, .null, .int a3, .null]) (fun t2 => []) (fun t2 => t2) (fun t2 => ?_) (fun j2 hj2 => ?_)
      · show z_J _ _ _ _ _ _ _ _ _ _ _ _
        refine j_aload_n (pc' := 48) q156_47 rfl (by decide) rfl ?_
        refine j_getf (k := 90) (pc' := 51) q156_48 rfl rfl ?_
        refine j_join (T := zS) 80 (fun t3 => [.ref 90, .int a1, .null, .null, .null]) (fun t3 => []) (fun t3 => t3) (fun t3 => ?_) (fun j3 hj3 => ?_)
        · show z_J _ _ _ _ _ _ _ _ _ _ _ _
          refine j_aload_n (pc' := 81) q156_80 rfl (by decide) rfl ?_
          refine j_getf (k := 90) (pc' := 84) q156_81 rfl rfl ?_
          refine j_join (T := Int32) 95 (fun t4 => [.ref 90, .null, .null, .null, .null]) (fun t4 => [.int t4]) (fun t4 => t3) (fun t4 => ?_) (fun j4 hj4 => ?_)
          · show z_J _ _ _ _ _ _ _ _ _ _ _ _
            refine j_istore4 (pc' := 97) q156_95 rfl (Nat.le_of_ble_eq_true rfl) rfl ?_
            refine j_aload_n (pc' := 98) q156_97 rfl (by decide) rfl ?_
            refine j_callV0_v (d := d + 1) (pc' := 101) q156_98 rfl (Nat.le_of_ble_eq_true rfl) (Nat.le_of_ble_eq_true rfl) rfl (t_M_step hρ (d + 0) _) (fun r5 => ?_)
            refine j_iload (pc' := 103) q156_101 rfl rfl ?_
            exact j_iret q156_103 rfl
          · show z_J _ _ _ _ _ _ _ _ _ _ _ _
            refine j_if_ne (pc' := 87) q156_84 rfl (fun c6 => ?_) (fun c6 => ?_)
            · refine j_aload_n (pc' := 88) q156_87 rfl (by decide) rfl ?_
              refine j_getf (k := 90) (pc' := 91) q156_88 rfl rfl ?_
              refine j_goto q156_91 rfl ?_
              refine j_forget (z_le_s (z_le_n (z_le_n (z_le_n (z_le_n (z_le_nil)))))) (hj4 (t3 90 20))
            · refine j_iload_n (pc' := 95) q156_94 rfl rfl ?_
              refine j_forget (z_le_s (z_le_n (z_le_n (z_le_n (z_le_n (z_le_nil)))))) (hj4 a1)
        · show z_J _ _ _ _ _ _ _ _ _ _ _ _
          refine j_if_ne (pc' := 54) q156_51 rfl (fun c7 => ?_) (fun c7 => ?_)
          · refine j_aload_n (pc' := 55) q156_54 rfl (by decide) rfl ?_
            refine j_getf (k := 90) (pc' := 58) q156_55 rfl rfl ?_
            refine j_bipush (pc' := 60) q156_58 rfl ?_
            refine j_icmp_ge (pc' := 63) q156_60 rfl (fun c8 => ?_) (fun c8 => ?_)
            · refine j_forget (z_le_s (z_le_s (z_le_n (z_le_n (z_le_n (z_le_nil)))))) (hj3 t2)
            · refine j_iload_n (pc' := 64) q156_63 rfl rfl ?_
              refine j_aload_n (pc' := 65) q156_64 rfl (by decide) rfl ?_
              refine j_getf (k := 90) (pc' := 68) q156_65 rfl rfl ?_
              refine j_ishr (pc' := 69) q156_68 rfl ?_
              refine j_iconst (pc' := 70) q156_69 rfl ?_
              refine j_iand (pc' := 71) q156_70 rfl ?_
              refine j_iconst (pc' := 72) q156_71 rfl ?_
              refine j_icmp_ne (pc' := 75) q156_72 rfl (fun c9 => ?_) (fun c9 => ?_)
              · refine j_aload_n (pc' := 76) q156_75 rfl (by decide) rfl ?_
                refine j_iconst (pc' := 77) q156_76 rfl ?_
                refine j_callV1_v (d := d + 1) (pc' := 80) q156_77 rfl (Nat.le_of_ble_eq_true rfl) (Nat.le_of_ble_eq_true rfl) rfl (t_M_fails hρ (d + 1) _ _) (fun r10 => ?_)
                refine j_forget (z_le_s (z_le_s (z_le_n (z_le_n (z_le_n (z_le_nil)))))) (hj3 r10)
              · refine j_forget (z_le_s (z_le_s (z_le_n (z_le_n (z_le_n (z_le_nil)))))) (hj3 t2)
          · refine j_forget (z_le_s (z_le_s (z_le_n (z_le_n (z_le_n (z_le_nil)))))) (hj3 t2)
      · show z_J _ _ _ _ _ _ _ _ _ _ _ _
        refine j_if_ne (pc' := 27) q156_24 rfl (fun c11 => ?_) (fun c11 => ?_)
        · refine j_aload_n (pc' := 28) q156_27 rfl (by decide) rfl ?_
          refine j_getf (k := 90) (pc' := 31) q156_28 rfl rfl ?_
          refine j_i2l (pc' := 32) q156_31 rfl ?_
          refine j_iload_n (pc' := 33) q156_32 rfl rfl ?_
          refine j_i2l (pc' := 34) q156_33 rfl ?_
          refine j_iload_n (pc' := 35) q156_34 rfl rfl ?_
          refine j_i2l (pc' := 36) q156_35 rfl ?_
          refine j_callS3_pi (d := d + 1) (pc' := 39) q156_36 (Or.inl rfl) (Nat.le_of_ble_eq_true rfl) (Nat.le_of_ble_eq_true rfl) rfl (t_M_in hρ (d + 1) _ _ _ _) (fun r12 => ?_)
          refine j_if_ne (pc' := 42) q156_39 rfl (fun c13 => ?_) (fun c13 => ?_)
          · refine j_aload_n (pc' := 43) q156_42 rfl (by decide) rfl ?_
            refine j_iconst (pc' := 44) q156_43 rfl ?_
            refine j_callV1_v (d := d + 1) (pc' := 47) q156_44 rfl (Nat.le_of_ble_eq_true rfl) (Nat.le_of_ble_eq_true rfl) rfl (t_M_fails hρ (d + 1) _ _) (fun r14 => ?_)
            refine j_forget (z_le_s (z_le_s (z_le_n (z_le_s (z_le_n (z_le_nil)))))) (hj2 r14)
          · refine j_forget (z_le_s (z_le_s (z_le_n (z_le_s (z_le_n (z_le_nil)))))) (hj2 t1)
        · refine j_forget (z_le_s (z_le_s (z_le_n (z_le_s (z_le_n (z_le_nil)))))) (hj2 t1)
    · show z_J _ _ _ _ _ _ _ _ _ _ _ _
      refine j_if_ne (pc' := 7) q156_4 rfl (fun c15 => ?_) (fun c15 => ?_)
      · refine j_aload_n (pc' := 8) q156_7 rfl (by decide) rfl ?_
        refine j_getf (k := 90) (pc' := 11) q156_8 rfl rfl ?_
        refine j_iconst (pc' := 12) q156_11 rfl ?_
        refine j_icmp_eq (pc' := 15) q156_12 rfl (fun c16 => ?_) (fun c16 => ?_)
        · refine j_forget (z_le_s (z_le_s (z_le_s (z_le_s (z_le_n (z_le_nil)))))) (hj1 σ)
        · refine j_aload_n (pc' := 16) q156_15 rfl (by decide) rfl ?_
          refine j_iconst (pc' := 17) q156_16 rfl ?_
          refine j_callV1_v (d := d + 1) (pc' := 20) q156_17 rfl (Nat.le_of_ble_eq_true rfl) (Nat.le_of_ble_eq_true rfl) rfl (t_M_fails hρ (d + 1) _ _) (fun r17 => ?_)
          refine j_forget (z_le_s (z_le_s (z_le_s (z_le_s (z_le_n (z_le_nil)))))) (hj1 r17)
      · refine j_forget (z_le_s (z_le_s (z_le_s (z_le_s (z_le_n (z_le_nil)))))) (hj1 σ)
theorem q157_0 : z_fi (z_mi 157) 0 = some (0, .aload_n 0, 0, 0, 0, 0, 0) := rfl
theorem q157_1 : z_fi (z_mi 157) 1 = some (1, .iconst 0, 0, 0, 0, 0, 0) := rfl
theorem q157_2 : z_fi (z_mi 157) 2 = some (2, .iload_n 2, 0, 0, 0, 0, 0) := rfl
theorem q157_3 : z_fi (z_mi 157) 3 = some (3, .aload_n 0, 0, 0, 0, 0, 0) := rfl
theorem q157_4 : z_fi (z_mi 157) 4 = some (4, .getfield 26, 0, 10, 10, 0, 0) := rfl
theorem q157_7 : z_fi (z_mi 157) 7 = some (7, .iload_n 1, 0, 0, 0, 0, 0) := rfl
theorem q157_8 : z_fi (z_mi 157) 8 = some (8, .iaload, 0, 0, 0, 0, 0) := rfl
theorem q157_9 : z_fi (z_mi 157) 9 = some (9, .invokevirtual 106, 0, 156, 3, 0, 0) := rfl
theorem q157_12 : z_fi (z_mi 157) 12 = some (12, .istore_n 3, 0, 0, 0, 0, 0) := rfl
theorem q157_13 : z_fi (z_mi 157) 13 = some (13, .aload_n 0, 0, 0, 0, 0, 0) := rfl
theorem q157_14 : z_fi (z_mi 157) 14 = some (14, .getfield 26, 0, 10, 10, 0, 0) := rfl
theorem q157_17 : z_fi (z_mi 157) 17 = some (17, .iload_n 1, 0, 0, 0, 0, 0) := rfl
theorem q157_18 : z_fi (z_mi 157) 18 = some (18, .dup2, 0, 0, 0, 0, 0) := rfl
theorem q157_19 : z_fi (z_mi 157) 19 = some (19, .iaload, 0, 0, 0, 0, 0) := rfl
theorem q157_20 : z_fi (z_mi 157) 20 = some (20, .iconst 1, 0, 0, 0, 1, 0) := rfl
theorem q157_21 : z_fi (z_mi 157) 21 = some (21, .iload_n 3, 0, 0, 0, 0, 0) := rfl
theorem q157_22 : z_fi (z_mi 157) 22 = some (22, .ishl, 0, 0, 0, 0, 0) := rfl
theorem q157_23 : z_fi (z_mi 157) 23 = some (23, .ior, 0, 0, 0, 0, 0) := rfl
theorem q157_24 : z_fi (z_mi 157) 24 = some (24, .iastore, 0, 0, 0, 0, 0) := rfl
theorem q157_25 : z_fi (z_mi 157) 25 = some (25, .aload_n 0, 0, 0, 0, 0, 0) := rfl
theorem q157_26 : z_fi (z_mi 157) 26 = some (26, .iload_n 1, 0, 0, 0, 0, 0) := rfl
theorem q157_27 : z_fi (z_mi 157) 27 = some (27, .iconst 4, 0, 0, 0, 4, 0) := rfl
theorem q157_28 : z_fi (z_mi 157) 28 = some (28, .if_icmp .ge 15, 0, 43, 0, 0, 0) := rfl
theorem q157_31 : z_fi (z_mi 157) 31 = some (31, .iload_n 3, 0, 0, 0, 0, 0) := rfl
theorem q157_32 : z_fi (z_mi 157) 32 = some (32, .aload_n 0, 0, 0, 0, 0, 0) := rfl
theorem q157_33 : z_fi (z_mi 157) 33 = some (33, .getfield 110, 0, 10, 11, 0, 0) := rfl
theorem q157_36 : z_fi (z_mi 157) 36 = some (36, .if_icmp .le 7, 0, 43, 0, 0, 0) := rfl
theorem q157_39 : z_fi (z_mi 157) 39 = some (39, .iload_n 3, 0, 0, 0, 0, 0) := rfl
theorem q157_40 : z_fi (z_mi 157) 40 = some (40, .goto 7, 0, 47, 0, 0, 0) := rfl
theorem q157_43 : z_fi (z_mi 157) 43 = some (43, .aload_n 0, 0, 0, 0, 0, 0) := rfl
theorem q157_44 : z_fi (z_mi 157) 44 = some (44, .getfield 110, 0, 10, 11, 0, 0) := rfl
theorem q157_47 : z_fi (z_mi 157) 47 = some (47, .putfield 110, 0, 10, 11, 0, 0) := rfl
theorem q157_50 : z_fi (z_mi 157) 50 = some (50, .iload_n 3, 0, 0, 0, 0, 0) := rfl
theorem q157_51 : z_fi (z_mi 157) 51 = some (51, .ireturn, 0, 0, 0, 0, 0) := rfl
set_option maxRecDepth 20000 in
set_option maxHeartbeats 4000000 in
theorem t_M_fresh {xL : Nat} {xs : Nat → Int32} {ρ : Nat → Nat → Option Nat} (hρ : z_hR ρ) (d : Nat) (a1 : Int32) (a2 : Int32) (σ : zS) : ∀ q, f_M_fresh a1 a2 σ = some q → z_ec xL xs ρ (d + 3) 157 [.ref 90, .int a1, .int a2] σ (em_i q) := by
  refine j_of (W := [.ref 90, .int a1, .int a2, .null]) (fun L hL => ?_) ?_
  · subst hL; exact z_vl_0 _ 1 rfl
  · unfold f_M_fresh
    refine j_aload_n (pc' := 1) q157_0 rfl (by decide) rfl ?_
    refine j_iconst (pc' := 2) q157_1 rfl ?_
    refine j_iload_n (pc' := 3) q157_2 rfl rfl ?_
    refine j_aload_n (pc' := 4) q157_3 rfl (by decide) rfl ?_
    refine j_getr (k := 90) (q := 94) (pc' := 7) q157_4 rfl (hρ 90 10 94 rfl) rfl ?_
    refine j_iload_n (pc' := 8) q157_7 rfl rfl ?_
    refine j_if (fun hi1 => ?_) (fun _ => j_none)
    refine j_iald (k := 94) (N := 8) (pc' := 9) q157_8 rfl hi1 rfl ?_
    refine j_callV3_i (d := d + 2) (pc' := 12) q157_9 rfl (Nat.le_of_ble_eq_true rfl) (Nat.le_of_ble_eq_true rfl) rfl (t_M_other hρ (d + 0) _ _ _ _) (fun r2 => ?_)
    refine j_istore3 (pc' := 13) q157_12 rfl (Nat.le_of_ble_eq_true rfl) rfl ?_
    refine j_aload_n (pc' := 14) q157_13 rfl (by decide) rfl ?_
    refine j_getr (k := 90) (q := 94) (pc' := 17) q157_14 rfl (hρ 90 10 94 rfl) rfl ?_
    refine j_iload_n (pc' := 18) q157_17 rfl rfl ?_
    refine j_dup2 (pc' := 19) q157_18 ⟨rfl, rfl⟩ rfl ?_
    refine j_if (fun hi3 => ?_) (fun _ => j_none)
    refine j_iald (k := 94) (N := 8) (pc' := 20) q157_19 rfl hi3 rfl ?_
    refine j_iconst (pc' := 21) q157_20 rfl ?_
    refine j_iload_n (pc' := 22) q157_21 rfl rfl ?_
    refine j_ishl (pc' := 23) q157_22 rfl ?_
    refine j_ior (pc' := 24) q157_23 rfl ?_
    refine j_if (fun hi4 => ?_) (fun _ => j_none)
    refine j_iast (k := 94) (N := 8) (pc' := 25) q157_24 rfl hi4 rfl ?_
    refine j_nameS (fun τ5 => ?_)
    refine j_aload_n (pc' := 26) q157_25 rfl (by decide) rfl ?_
    refine j_iload_n (pc' := 27) q157_26 rfl rfl ?_
    refine j_iconst (pc' := 28) q157_27 rfl ?_
    refine j_join (T := Int32) 47 (fun t6 => [.null, .null, .null, .int r2.1]) (fun t6 => [.int t6, .ref 90]) (fun t6 => τ5) (fun t6 => ?_) (fun j6 hj6 => ?_)
    · show z_J _ _ _ _ _ _ _ _ _ _ _ _
      refine j_putf (k := 90) (pc' := 50) q157_47 rfl rfl ?_
      refine j_nameS (fun τ7 => ?_)
      refine j_iload_n (pc' := 51) q157_50 rfl rfl ?_
      exact j_iret q157_51 rfl
    · show z_J _ _ _ _ _ _ _ _ _ _ _ _
      refine j_join (T := Unit) 43 (fun t8 => [.ref 90, .null, .null, .int r2.1]) (fun t8 => [.ref 90]) (fun t8 => τ5) (fun t8 => ?_) (fun j8 hj8 => ?_)
      · show z_J _ _ _ _ _ _ _ _ _ _ _ _
        refine j_aload_n (pc' := 44) q157_43 rfl (by decide) rfl ?_
        refine j_getf (k := 90) (pc' := 47) q157_44 rfl rfl ?_
        refine j_forget (z_le_n (z_le_n (z_le_n (z_le_s (z_le_nil))))) (hj6 (τ5 90 11))
      · show z_J _ _ _ _ _ _ _ _ _ _ _ _
        refine j_icmp_ge (pc' := 31) q157_28 rfl (fun c9 => ?_) (fun c9 => ?_)
        · refine j_forget (z_le_s (z_le_n (z_le_n (z_le_s (z_le_nil))))) (hj8 ())
        · refine j_iload_n (pc' := 32) q157_31 rfl rfl ?_
          refine j_aload_n (pc' := 33) q157_32 rfl (by decide) rfl ?_
          refine j_getf (k := 90) (pc' := 36) q157_33 rfl rfl ?_
          refine j_icmp_le (pc' := 39) q157_36 rfl (fun c10 => ?_) (fun c10 => ?_)
          · refine j_forget (z_le_s (z_le_n (z_le_n (z_le_s (z_le_nil))))) (hj8 ())
          · refine j_iload_n (pc' := 40) q157_39 rfl rfl ?_
            refine j_goto q157_40 rfl ?_
            refine j_forget (z_le_n (z_le_n (z_le_n (z_le_s (z_le_nil))))) (hj6 r2.1)
theorem q159_0 : z_fi (z_mi 159) 0 = some (0, .iload_n 1, 0, 0, 0, 0, 0) := rfl
theorem q159_1 : z_fi (z_mi 159) 1 = some (1, .iconst 4, 0, 0, 0, 4, 0) := rfl
theorem q159_2 : z_fi (z_mi 159) 2 = some (2, .if_icmp .ne 27, 0, 29, 0, 0, 0) := rfl
theorem q159_5 : z_fi (z_mi 159) 5 = some (5, .aload_n 0, 0, 0, 0, 0, 0) := rfl
theorem q159_6 : z_fi (z_mi 159) 6 = some (6, .iload_n 1, 0, 0, 0, 0, 0) := rfl
theorem q159_7 : z_fi (z_mi 159) 7 = some (7, .bipush 31, 0, 0, 0, 31, 0) := rfl
theorem q159_9 : z_fi (z_mi 159) 9 = some (9, .invokevirtual 113, 0, 157, 2, 0, 0) := rfl
theorem q159_12 : z_fi (z_mi 159) 12 = some (12, .istore_n 2, 0, 0, 0, 0, 0) := rfl
theorem q159_13 : z_fi (z_mi 159) 13 = some (13, .aload_n 0, 0, 0, 0, 0, 0) := rfl
theorem q159_14 : z_fi (z_mi 159) 14 = some (14, .getfield 23, 0, 10, 5, 0, 0) := rfl
theorem q159_17 : z_fi (z_mi 159) 17 = some (17, .bipush 80, 0, 0, 0, 80, 0) := rfl
theorem q159_19 : z_fi (z_mi 159) 19 = some (19, .dup2, 0, 0, 0, 0, 0) := rfl
theorem q159_20 : z_fi (z_mi 159) 20 = some (20, .iaload, 0, 0, 0, 0, 0) := rfl
theorem q159_21 : z_fi (z_mi 159) 21 = some (21, .iconst 1, 0, 0, 0, 1, 0) := rfl
theorem q159_22 : z_fi (z_mi 159) 22 = some (22, .iload_n 2, 0, 0, 0, 0, 0) := rfl
theorem q159_23 : z_fi (z_mi 159) 23 = some (23, .ishl, 0, 0, 0, 0, 0) := rfl
theorem q159_24 : z_fi (z_mi 159) 24 = some (24, .ior, 0, 0, 0, 0, 0) := rfl
theorem q159_25 : z_fi (z_mi 159) 25 = some (25, .iastore, 0, 0, 0, 0, 0) := rfl
theorem q159_26 : z_fi (z_mi 159) 26 = some (26, .goto 180, 0, 206, 0, 0, 0) := rfl
theorem q159_29 : z_fi (z_mi 159) 29 = some (29, .iload_n 1, 0, 0, 0, 0, 0) := rfl
theorem q159_30 : z_fi (z_mi 159) 30 = some (30, .iconst 5, 0, 0, 0, 5, 0) := rfl
theorem q159_31 : z_fi (z_mi 159) 31 = some (31, .if_icmp .ne 76, 0, 107, 0, 0, 0) := rfl
theorem q159_34 : z_fi (z_mi 159) 34 = some (34, .bipush 81, 0, 0, 0, 81, 0) := rfl
theorem q159_36 : z_fi (z_mi 159) 36 = some (36, .iconst 3, 0, 0, 0, 3, 0) := rfl
theorem q159_37 : z_fi (z_mi 159) 37 = some (37, .aload_n 0, 0, 0, 0, 0, 0) := rfl
theorem q159_38 : z_fi (z_mi 159) 38 = some (38, .getfield 121, 0, 10, 8, 0, 0) := rfl
theorem q159_41 : z_fi (z_mi 159) 41 = some (41, .imul, 0, 0, 0, 0, 0) := rfl
theorem q159_42 : z_fi (z_mi 159) 42 = some (42, .iadd, 0, 0, 0, 0, 0) := rfl
theorem q159_43 : z_fi (z_mi 159) 43 = some (43, .istore_n 2, 0, 0, 0, 0, 0) := rfl
theorem q159_44 : z_fi (z_mi 159) 44 = some (44, .aload_n 0, 0, 0, 0, 0, 0) := rfl
theorem q159_45 : z_fi (z_mi 159) 45 = some (45, .getfield 23, 0, 10, 5, 0, 0) := rfl
theorem q159_48 : z_fi (z_mi 159) 48 = some (48, .iload_n 2, 0, 0, 0, 0, 0) := rfl
theorem q159_49 : z_fi (z_mi 159) 49 = some (49, .aload_n 0, 0, 0, 0, 0, 0) := rfl
theorem q159_50 : z_fi (z_mi 159) 50 = some (50, .iconst 0, 0, 0, 0, 0, 0) := rfl
theorem q159_51 : z_fi (z_mi 159) 51 = some (51, .iconst 3, 0, 0, 0, 3, 0) := rfl
theorem q159_52 : z_fi (z_mi 159) 52 = some (52, .iconst 0, 0, 0, 0, 0, 0) := rfl
theorem q159_53 : z_fi (z_mi 159) 53 = some (53, .invokevirtual 106, 0, 156, 3, 0, 0) := rfl
theorem q159_56 : z_fi (z_mi 159) 56 = some (56, .iastore, 0, 0, 0, 0, 0) := rfl
theorem q159_57 : z_fi (z_mi 159) 57 = some (57, .aload_n 0, 0, 0, 0, 0, 0) := rfl
theorem q159_58 : z_fi (z_mi 159) 58 = some (58, .getfield 23, 0, 10, 5, 0, 0) := rfl
theorem q159_61 : z_fi (z_mi 159) 61 = some (61, .iload_n 2, 0, 0, 0, 0, 0) := rfl
theorem q159_62 : z_fi (z_mi 159) 62 = some (62, .iconst 1, 0, 0, 0, 1, 0) := rfl
theorem q159_63 : z_fi (z_mi 159) 63 = some (63, .iadd, 0, 0, 0, 0, 0) := rfl
theorem q159_64 : z_fi (z_mi 159) 64 = some (64, .aload_n 0, 0, 0, 0, 0, 0) := rfl
theorem q159_65 : z_fi (z_mi 159) 65 = some (65, .iconst 0, 0, 0, 0, 0, 0) := rfl
theorem q159_66 : z_fi (z_mi 159) 66 = some (66, .iconst 4, 0, 0, 0, 4, 0) := rfl
theorem q159_67 : z_fi (z_mi 159) 67 = some (67, .iconst 1, 0, 0, 0, 1, 0) := rfl
theorem q159_68 : z_fi (z_mi 159) 68 = some (68, .aload_n 0, 0, 0, 0, 0, 0) := rfl
theorem q159_69 : z_fi (z_mi 159) 69 = some (69, .getfield 23, 0, 10, 5, 0, 0) := rfl
theorem q159_72 : z_fi (z_mi 159) 72 = some (72, .iload_n 2, 0, 0, 0, 0, 0) := rfl
theorem q159_73 : z_fi (z_mi 159) 73 = some (73, .iaload, 0, 0, 0, 0, 0) := rfl
theorem q159_74 : z_fi (z_mi 159) 74 = some (74, .ishl, 0, 0, 0, 0, 0) := rfl
theorem q159_75 : z_fi (z_mi 159) 75 = some (75, .invokevirtual 106, 0, 156, 3, 0, 0) := rfl
theorem q159_78 : z_fi (z_mi 159) 78 = some (78, .iastore, 0, 0, 0, 0, 0) := rfl
theorem q159_79 : z_fi (z_mi 159) 79 = some (79, .aload_n 0, 0, 0, 0, 0, 0) := rfl
theorem q159_80 : z_fi (z_mi 159) 80 = some (80, .getfield 23, 0, 10, 5, 0, 0) := rfl
theorem q159_83 : z_fi (z_mi 159) 83 = some (83, .iload_n 2, 0, 0, 0, 0, 0) := rfl
theorem q159_84 : z_fi (z_mi 159) 84 = some (84, .iconst 2, 0, 0, 0, 2, 0) := rfl
theorem q159_85 : z_fi (z_mi 159) 85 = some (85, .iadd, 0, 0, 0, 0, 0) := rfl
theorem q159_86 : z_fi (z_mi 159) 86 = some (86, .aload_n 0, 0, 0, 0, 0, 0) := rfl
theorem q159_87 : z_fi (z_mi 159) 87 = some (87, .iconst 1, 0, 0, 0, 1, 0) := rfl
set_option maxRecDepth 8000 in
theorem q159_88 : z_fi (z_mi 159) 88 = some (88, .iconst 4, 0, 0, 0, 4, 0) := rfl
set_option maxRecDepth 8000 in
theorem q159_89 : z_fi (z_mi 159) 89 = some (89, .iconst 0, 0, 0, 0, 0, 0) := rfl
set_option maxRecDepth 8000 in
theorem q159_90 : z_fi (z_mi 159) 90 = some (90, .invokevirtual 106, 0, 156, 3, 0, 0) := rfl
set_option maxRecDepth 8000 in
theorem q159_93 : z_fi (z_mi 159) 93 = some (93, .iastore, 0, 0, 0, 0, 0) := rfl
set_option maxRecDepth 8000 in
theorem q159_94 : z_fi (z_mi 159) 94 = some (94, .aload_n 0, 0, 0, 0, 0, 0) := rfl
set_option maxRecDepth 8000 in
theorem q159_95 : z_fi (z_mi 159) 95 = some (95, .dup, 0, 0, 0, 0, 0) := rfl
set_option maxRecDepth 8000 in
theorem q159_96 : z_fi (z_mi 159) 96 = some (96, .getfield 121, 0, 10, 8, 0, 0) := rfl
set_option maxRecDepth 8000 in
theorem q159_99 : z_fi (z_mi 159) 99 = some (99, .iconst 1, 0, 0, 0, 1, 0) := rfl
set_option maxRecDepth 8000 in
theorem q159_100 : z_fi (z_mi 159) 100 = some (100, .iadd, 0, 0, 0, 0, 0) := rfl
set_option maxRecDepth 8000 in
theorem q159_101 : z_fi (z_mi 159) 101 = some (101, .putfield 121, 0, 10, 8, 0, 0) := rfl
set_option maxRecDepth 8000 in
theorem q159_104 : z_fi (z_mi 159) 104 = some (104, .goto 102, 0, 206, 0, 0, 0) := rfl
set_option maxRecDepth 8000 in
theorem q159_107 : z_fi (z_mi 159) 107 = some (107, .iload_n 1, 0, 0, 0, 0, 0) := rfl
set_option maxRecDepth 8000 in
theorem q159_108 : z_fi (z_mi 159) 108 = some (108, .bipush 6, 0, 0, 0, 6, 0) := rfl
set_option maxRecDepth 8000 in
theorem q159_110 : z_fi (z_mi 159) 110 = some (110, .if_icmp .ne 50, 0, 160, 0, 0, 0) := rfl
set_option maxRecDepth 8000 in
theorem q159_113 : z_fi (z_mi 159) 113 = some (113, .bipush 96, 0, 0, 0, 96, 0) := rfl
set_option maxRecDepth 8000 in
theorem q159_115 : z_fi (z_mi 159) 115 = some (115, .iconst 2, 0, 0, 0, 2, 0) := rfl
set_option maxRecDepth 8000 in
theorem q159_116 : z_fi (z_mi 159) 116 = some (116, .aload_n 0, 0, 0, 0, 0, 0) := rfl
set_option maxRecDepth 8000 in
theorem q159_117 : z_fi (z_mi 159) 117 = some (117, .iload_n 1, 0, 0, 0, 0, 0) := rfl
set_option maxRecDepth 8000 in
theorem q159_118 : z_fi (z_mi 159) 118 = some (118, .iconst 3, 0, 0, 0, 3, 0) := rfl
set_option maxRecDepth 8000 in
theorem q159_119 : z_fi (z_mi 159) 119 = some (119, .invokevirtual 113, 0, 157, 2, 0, 0) := rfl
set_option maxRecDepth 8000 in
theorem q159_122 : z_fi (z_mi 159) 122 = some (122, .imul, 0, 0, 0, 0, 0) := rfl
set_option maxRecDepth 8000 in
theorem q159_123 : z_fi (z_mi 159) 123 = some (123, .iadd, 0, 0, 0, 0, 0) := rfl
set_option maxRecDepth 8000 in
theorem q159_124 : z_fi (z_mi 159) 124 = some (124, .istore_n 2, 0, 0, 0, 0, 0) := rfl
set_option maxRecDepth 8000 in
theorem q159_125 : z_fi (z_mi 159) 125 = some (125, .aload_n 0, 0, 0, 0, 0, 0) := rfl
set_option maxRecDepth 8000 in
theorem q159_126 : z_fi (z_mi 159) 126 = some (126, .getfield 23, 0, 10, 5, 0, 0) := rfl
set_option maxRecDepth 8000 in
theorem q159_129 : z_fi (z_mi 159) 129 = some (129, .iload_n 2, 0, 0, 0, 0, 0) := rfl
set_option maxRecDepth 8000 in
theorem q159_130 : z_fi (z_mi 159) 130 = some (130, .aload_n 0, 0, 0, 0, 0, 0) := rfl
set_option maxRecDepth 8000 in
theorem q159_131 : z_fi (z_mi 159) 131 = some (131, .iconst 0, 0, 0, 0, 0, 0) := rfl
set_option maxRecDepth 8000 in
theorem q159_132 : z_fi (z_mi 159) 132 = some (132, .bipush 99, 0, 0, 0, 99, 0) := rfl
set_option maxRecDepth 8000 in
theorem q159_134 : z_fi (z_mi 159) 134 = some (134, .iconst 0, 0, 0, 0, 0, 0) := rfl
set_option maxRecDepth 8000 in
theorem q159_135 : z_fi (z_mi 159) 135 = some (135, .invokevirtual 106, 0, 156, 3, 0, 0) := rfl
set_option maxRecDepth 8000 in
theorem q159_138 : z_fi (z_mi 159) 138 = some (138, .iastore, 0, 0, 0, 0, 0) := rfl
set_option maxRecDepth 8000 in
theorem q159_139 : z_fi (z_mi 159) 139 = some (139, .aload_n 0, 0, 0, 0, 0, 0) := rfl
set_option maxRecDepth 8000 in
theorem q159_140 : z_fi (z_mi 159) 140 = some (140, .getfield 23, 0, 10, 5, 0, 0) := rfl
set_option maxRecDepth 8000 in
theorem q159_143 : z_fi (z_mi 159) 143 = some (143, .iload_n 2, 0, 0, 0, 0, 0) := rfl
set_option maxRecDepth 8000 in
theorem q159_144 : z_fi (z_mi 159) 144 = some (144, .iconst 1, 0, 0, 0, 1, 0) := rfl
set_option maxRecDepth 8000 in
theorem q159_145 : z_fi (z_mi 159) 145 = some (145, .iadd, 0, 0, 0, 0, 0) := rfl
set_option maxRecDepth 8000 in
theorem q159_146 : z_fi (z_mi 159) 146 = some (146, .aload_n 0, 0, 0, 0, 0, 0) := rfl
set_option maxRecDepth 8000 in
theorem q159_147 : z_fi (z_mi 159) 147 = some (147, .iconst 1, 0, 0, 0, 1, 0) := rfl
set_option maxRecDepth 8000 in
theorem q159_148 : z_fi (z_mi 159) 148 = some (148, .bipush 9, 0, 0, 0, 9, 0) := rfl
set_option maxRecDepth 8000 in
theorem q159_150 : z_fi (z_mi 159) 150 = some (150, .iconst 0, 0, 0, 0, 0, 0) := rfl
set_option maxRecDepth 8000 in
theorem q159_151 : z_fi (z_mi 159) 151 = some (151, .invokevirtual 106, 0, 156, 3, 0, 0) := rfl
set_option maxRecDepth 8000 in
theorem q159_154 : z_fi (z_mi 159) 154 = some (154, .iconst 1, 0, 0, 0, 1, 0) := rfl
set_option maxRecDepth 8000 in
theorem q159_155 : z_fi (z_mi 159) 155 = some (155, .isub, 0, 0, 0, 0, 0) := rfl
set_option maxRecDepth 8000 in
theorem q159_156 : z_fi (z_mi 159) 156 = some (156, .iastore, 0, 0, 0, 0, 0) := rfl
set_option maxRecDepth 8000 in
theorem q159_157 : z_fi (z_mi 159) 157 = some (157, .goto 49, 0, 206, 0, 0, 0) := rfl
set_option maxRecDepth 8000 in
theorem q159_160 : z_fi (z_mi 159) 160 = some (160, .iload_n 1, 0, 0, 0, 0, 0) := rfl
set_option maxRecDepth 8000 in
theorem q159_161 : z_fi (z_mi 159) 161 = some (161, .bipush 7, 0, 0, 0, 7, 0) := rfl
set_option maxRecDepth 8000 in
theorem q159_163 : z_fi (z_mi 159) 163 = some (163, .if_icmp .ne 21, 0, 184, 0, 0, 0) := rfl
set_option maxRecDepth 8000 in
theorem q159_166 : z_fi (z_mi 159) 166 = some (166, .aload_n 0, 0, 0, 0, 0, 0) := rfl
set_option maxRecDepth 8000 in
theorem q159_167 : z_fi (z_mi 159) 167 = some (167, .getfield 23, 0, 10, 5, 0, 0) := rfl
set_option maxRecDepth 8000 in
theorem q159_170 : z_fi (z_mi 159) 170 = some (170, .bipush 104, 0, 0, 0, 104, 0) := rfl
set_option maxRecDepth 8000 in
theorem q159_172 : z_fi (z_mi 159) 172 = some (172, .aload_n 0, 0, 0, 0, 0, 0) := rfl
set_option maxRecDepth 8000 in
theorem q159_173 : z_fi (z_mi 159) 173 = some (173, .iconst 0, 0, 0, 0, 0, 0) := rfl
set_option maxRecDepth 8000 in
theorem q159_174 : z_fi (z_mi 159) 174 = some (174, .bipush 99, 0, 0, 0, 99, 0) := rfl
set_option maxRecDepth 8000 in
theorem q159_176 : z_fi (z_mi 159) 176 = some (176, .iconst 0, 0, 0, 0, 0, 0) := rfl
set_option maxRecDepth 8000 in
theorem q159_177 : z_fi (z_mi 159) 177 = some (177, .invokevirtual 106, 0, 156, 3, 0, 0) := rfl
set_option maxRecDepth 8000 in
theorem q159_180 : z_fi (z_mi 159) 180 = some (180, .iastore, 0, 0, 0, 0, 0) := rfl
set_option maxRecDepth 8000 in
theorem q159_181 : z_fi (z_mi 159) 181 = some (181, .goto 25, 0, 206, 0, 0, 0) := rfl
set_option maxRecDepth 8000 in
theorem q159_184 : z_fi (z_mi 159) 184 = some (184, .aload_n 0, 0, 0, 0, 0, 0) := rfl
set_option maxRecDepth 8000 in
theorem q159_185 : z_fi (z_mi 159) 185 = some (185, .aload_n 0, 0, 0, 0, 0, 0) := rfl
set_option maxRecDepth 8000 in
theorem q159_186 : z_fi (z_mi 159) 186 = some (186, .iconst 2, 0, 0, 0, 2, 0) := rfl
set_option maxRecDepth 8000 in
theorem q159_187 : z_fi (z_mi 159) 187 = some (187, .iconst 4, 0, 0, 0, 4, 0) := rfl
set_option maxRecDepth 8000 in
theorem q159_188 : z_fi (z_mi 159) 188 = some (188, .iconst 0, 0, 0, 0, 0, 0) := rfl
set_option maxRecDepth 8000 in
theorem q159_189 : z_fi (z_mi 159) 189 = some (189, .invokevirtual 106, 0, 156, 3, 0, 0) := rfl
set_option maxRecDepth 8000 in
theorem q159_192 : z_fi (z_mi 159) 192 = some (192, .putfield 124, 0, 10, 6, 0, 0) := rfl
set_option maxRecDepth 8000 in
theorem q159_195 : z_fi (z_mi 159) 195 = some (195, .aload_n 0, 0, 0, 0, 0, 0) := rfl
set_option maxRecDepth 8000 in
theorem q159_196 : z_fi (z_mi 159) 196 = some (196, .aload_n 0, 0, 0, 0, 0, 0) := rfl
set_option maxRecDepth 8000 in
theorem q159_197 : z_fi (z_mi 159) 197 = some (197, .iconst 2, 0, 0, 0, 2, 0) := rfl
set_option maxRecDepth 8000 in
theorem q159_198 : z_fi (z_mi 159) 198 = some (198, .iconst 4, 0, 0, 0, 4, 0) := rfl
set_option maxRecDepth 8000 in
theorem q159_199 : z_fi (z_mi 159) 199 = some (199, .iconst 0, 0, 0, 0, 0, 0) := rfl
set_option maxRecDepth 8000 in
theorem q159_200 : z_fi (z_mi 159) 200 = some (200, .invokevirtual 106, 0, 156, 3, 0, 0) := rfl
set_option maxRecDepth 8000 in
theorem q159_203 : z_fi (z_mi 159) 203 = some (203, .putfield 127, 0, 10, 7, 0, 0) := rfl
set_option maxRecDepth 8000 in
theorem q159_206 : z_fi (z_mi 159) 206 = some (206, .return_, 0, 0, 0, 0, 0) := rfl
set_option maxRecDepth 20000 in
set_option maxHeartbeats 4000000 in
theorem t_M_readMore {xL : Nat} {xs : Nat → Int32} {ρ : Nat → Nat → Option Nat} (hρ : z_hR ρ) (d : Nat) (a1 : Int32) (σ : zS) : ∀ q, f_M_readMore a1 σ = some q → z_ec xL xs ρ (d + 4) 159 [.ref 90, .int a1] σ (em_v q) := by
  refine j_of (W := [.ref 90, .int a1, .null]) (fun L hL => ?_) ?_
  · subst hL; exact z_vl_0 _ 1 rfl
  · unfold f_M_readMore
    refine j_iload_n (pc' := 1) q159_0 rfl rfl ?_
    refine j_iconst (pc' := 2) q159_1 rfl ?_
    refine j_icmp_ne (pc' := 5) q159_2 rfl (fun c1 => ?_) (fun c1 => ?_)
    · refine j_aload_n (pc' := 6) q159_5 rfl (by decide) rfl ?_
      refine j_iload_n (pc' := 7) q159_6 rfl rfl ?_
      refine j_bipush (pc' := 9) q159_7 rfl ?_
      refine j_callV2_i (d := d + 3) (pc' := 12) q159_9 rfl (Nat.le_of_ble_eq_true rfl) (Nat.le_of_ble_eq_true rfl) rfl (t_M_fresh hρ (d + 0) _ _ _) (fun r2 => ?_)
      refine j_istore2 (pc' := 13) q159_12 rfl (Nat.le_of_ble_eq_true rfl) rfl ?_
      refine j_aload_n (pc' := 14) q159_13 rfl (by decide) rfl ?_
      refine j_getr (k := 90) (q := 93) (pc' := 17) q159_14 rfl (hρ 90 5 93 rfl) rfl ?_
      refine j_bipush (pc' := 19) q159_17 rfl ?_
      refine j_dup2 (pc' := 20) q159_19 ⟨rfl, rfl⟩ rfl ?_
      refine j_iald (k := 93) (N := 110) (pc' := 21) q159_20 rfl (by decide) rfl ?_
      refine j_iconst (pc' := 22) q159_21 rfl ?_
      refine j_iload_n (pc' := 23) q159_22 rfl rfl ?_
      refine j_ishl (pc' := 24) q159_23 rfl ?_
      refine j_ior (pc' := 25) q159_24 rfl ?_
      refine j_iast (k := 93) (N := 110) (pc' := 26) q159_25 rfl (by decide) rfl ?_
      refine j_nameS (fun τ3 => ?_)
      refine j_goto q159_26 rfl ?_
      exact j_vret q159_206 rfl
    · refine j_iload_n (pc' := 30) q159_29 rfl rfl ?_
      refine j_iconst (pc' := 31) q159_30 rfl ?_
      refine j_icmp_ne (pc' := 34) q159_31 rfl (fun c4 => ?_) (fun c4 => ?_)
      · refine j_bipush (pc' := 36) q159_34 rfl ?_
        refine j_iconst (pc' := 37) q159_36 rfl ?_
        refine j_aload_n (pc' := 38) q159_37 rfl (by decide) rfl ?_
        refine j_getf (k := 90) (pc' := 41) q159_38 rfl rfl ?_
        refine j_imul (pc' := 42) q159_41 rfl ?_
        refine j_iadd (pc' := 43) q159_42 rfl ?_
        refine j_nameI (fun v5 => ?_)
        refine j_istore2 (pc' := 44) q159_43 rfl (Nat.le_of_ble_eq_true rfl) rfl ?_
        refine j_aload_n (pc' := 45) q159_44 rfl (by decide) rfl ?_
        refine j_getr (k := 90) (q := 93) (pc' := 48) q159_45 rfl (hρ 90 5 93 rfl) rfl ?_
        refine j_iload_n (pc' := 49) q159_48 rfl rfl ?_
        refine j_aload_n (pc' := 50) q159_49 rfl (by decide) rfl ?_
        refine j_iconst (pc' := 51) q159_50 rfl ?_
        refine j_iconst (pc' := 52) q159_51 rfl ?_
        refine j_iconst (pc' := 53) q159_52 rfl ?_
        refine j_callV3_i (d := d + 3) (pc' := 56) q159_53 rfl (Nat.le_of_ble_eq_true rfl) (Nat.le_of_ble_eq_true rfl) rfl (t_M_other hρ (d + 1) _ _ _ _) (fun r6 => ?_)
        refine j_if (fun hi7 => ?_) (fun _ => j_none)
        refine j_iast (k := 93) (N := 110) (pc' := 57) q159_56 rfl hi7 rfl ?_
        refine j_nameS (fun τ8 => ?_)
        refine j_aload_n (pc' := 58) q159_57 rfl (by decide) rfl ?_
        refine j_getr (k := 90) (q := 93) (pc' := 61) q159_58 rfl (hρ 90 5 93 rfl) rfl ?_
        refine j_iload_n (pc' := 62) q159_61 rfl rfl ?_
        refine j_iconst (pc' := 63) q159_62 rfl ?_
        refine j_iadd (pc' := 64) q159_63 rfl ?_
        refine j_aload_n (pc' := 65) q159_64 rfl (by decide) rfl ?_
        refine j_iconst (pc' := 66) q159_65 rfl ?_
        refine j_iconst (pc' := 67) q159_66 rfl ?_
        refine j_iconst (pc' := 68) q159_67 rfl ?_
        refine j_aload_n (pc' := 69) q159_68 rfl (by decide) rfl ?_
        refine j_getr (k := 90) (q := 93) (pc' := 72) q159_69 rfl (hρ 90 5 93 rfl) rfl ?_
        refine j_iload_n (pc' := 73) q159_72 rfl rfl ?_
        refine j_if (fun hi9 => ?_) (fun _ => j_none)
        refine j_iald (k := 93) (N := 110) (pc' := 74) q159_73 rfl hi9 rfl ?_
        refine j_ishl (pc' := 75) q159_74 rfl ?_
        refine j_callV3_i (d := d + 3) (pc' := 78) q159_75 rfl (Nat.le_of_ble_eq_true rfl) (Nat.le_of_ble_eq_true rfl) rfl (t_M_other hρ (d + 1) _ _ _ _) (fun r10 => ?_)
        refine j_if (fun hi11 => ?_) (fun _ => j_none)
        refine j_iast (k := 93) (N := 110) (pc' := 79) q159_78 rfl hi11 rfl ?_
        refine j_nameS (fun τ12 => ?_)
        refine j_aload_n (pc' := 80) q159_79 rfl (by decide) rfl ?_
        refine j_getr (k := 90) (q := 93) (pc' := 83) q159_80 rfl (hρ 90 5 93 rfl) rfl ?_
        refine j_iload_n (pc' := 84) q159_83 rfl rfl ?_
        refine j_iconst (pc' := 85) q159_84 rfl ?_
        refine j_iadd (pc' := 86) q159_85 rfl ?_
        refine j_aload_n (pc' := 87) q159_86 rfl (by decide) rfl ?_
        refine j_iconst (pc' := 88) q159_87 rfl ?_
        refine j_iconst (pc' := 89) q159_88 rfl ?_
        refine j_iconst (pc' := 90) q159_89 rfl ?_
        refine j_callV3_i (d := d + 3) (pc' := 93) q159_90 rfl (Nat.le_of_ble_eq_true rfl) (Nat.le_of_ble_eq_true rfl) rfl (t_M_other hρ (d + 1) _ _ _ _) (fun r13 => ?_)
        refine j_if (fun hi14 => ?_) (fun _ => j_none)
        refine j_iast (k := 93) (N := 110) (pc' := 94) q159_93 rfl hi14 rfl ?_
        refine j_nameS (fun τ15 => ?_)
        refine j_aload_n (pc' := 95) q159_94 rfl (by decide) rfl ?_
        refine j_dup (pc' := 96) q159_95 rfl rfl ?_
        refine j_getf (k := 90) (pc' := 99) q159_96 rfl rfl ?_
        refine j_iconst (pc' := 100) q159_99 rfl ?_
        refine j_iadd (pc' := 101) q159_100 rfl ?_
        refine j_putf (k := 90) (pc' := 104) q159_101 rfl rfl ?_
        refine j_nameS (fun τ16 => ?_)
        refine j_goto q159_104 rfl ?_
        exact j_vret q159_206 rfl
      · refine j_iload_n (pc' := 108) q159_107 rfl rfl ?_
        refine j_bipush (pc' := 110) q159_108 rfl ?_
        refine j_icmp_ne (pc' := 113) q159_110 rfl (fun c17 => ?_) (fun c17 => ?_)
        · refine j_bipush (pc' := 115) q159_113 rfl ?_
          refine j_iconst (pc' := 116) q159_115 rfl ?_
          refine j_aload_n (pc' := 117) q159_116 rfl (by decide) rfl ?_
          refine j_iload_n (pc' := 118) q159_117 rfl rfl ?_
          refine j_iconst (pc' := 119) q159_118 rfl ?_
          refine j_callV2_i (d := d + 3) (pc' := 122) q159_119 rfl (Nat.le_of_ble_eq_true rfl) (Nat.le_of_ble_eq_true rfl) rfl (t_M_fresh hρ (d + 0) _ _ _) (fun r18 => ?_)
          refine j_imul (pc' := 123) q159_122 rfl ?_
          refine j_iadd (pc' := 124) q159_123 rfl ?_
          refine j_nameI (fun v19 => ?_)
          refine j_istore2 (pc' := 125) q159_124 rfl (Nat.le_of_ble_eq_true rfl) rfl ?_
          refine j_aload_n (pc' := 126) q159_125 rfl (by decide) rfl ?_
          refine j_getr (k := 90) (q := 93) (pc' := 129) q159_126 rfl (hρ 90 5 93 rfl) rfl ?_
          refine j_iload_n (pc' := 130) q159_129 rfl rfl ?_
          refine j_aload_n (pc' := 131) q159_130 rfl (by decide) rfl ?_
          refine j_iconst (pc' := 132) q159_131 rfl ?_
          refine j_bipush (pc' := 134) q159_132 rfl ?_
          refine j_iconst (pc' := 135) q159_134 rfl ?_
          refine j_callV3_i (d := d + 3) (pc' := 138) q159_135 rfl (Nat.le_of_ble_eq_true rfl) (Nat.le_of_ble_eq_true rfl) rfl (t_M_other hρ (d + 1) _ _ _ _) (fun r20 => ?_)
          refine j_if (fun hi21 => ?_) (fun _ => j_none)
          refine j_iast (k := 93) (N := 110) (pc' := 139) q159_138 rfl hi21 rfl ?_
          refine j_nameS (fun τ22 => ?_)
          refine j_aload_n (pc' := 140) q159_139 rfl (by decide) rfl ?_
          refine j_getr (k := 90) (q := 93) (pc' := 143) q159_140 rfl (hρ 90 5 93 rfl) rfl ?_
          refine j_iload_n (pc' := 144) q159_143 rfl rfl ?_
          refine j_iconst (pc' := 145) q159_144 rfl ?_
          refine j_iadd (pc' := 146) q159_145 rfl ?_
          refine j_aload_n (pc' := 147) q159_146 rfl (by decide) rfl ?_
          refine j_iconst (pc' := 148) q159_147 rfl ?_
          refine j_bipush (pc' := 150) q159_148 rfl ?_
          refine j_iconst (pc' := 151) q159_150 rfl ?_
          refine j_callV3_i (d := d + 3) (pc' := 154) q159_151 rfl (Nat.le_of_ble_eq_true rfl) (Nat.le_of_ble_eq_true rfl) rfl (t_M_other hρ (d + 1) _ _ _ _) (fun r23 => ?_)
          refine j_iconst (pc' := 155) q159_154 rfl ?_
          refine j_isub (pc' := 156) q159_155 rfl ?_
          refine j_if (fun hi24 => ?_) (fun _ => j_none)
          refine j_iast (k := 93) (N := 110) (pc' := 157) q159_156 rfl hi24 rfl ?_
          refine j_nameS (fun τ25 => ?_)
          refine j_goto q159_157 rfl ?_
          exact j_vret q159_206 rfl
        · refine j_iload_n (pc' := 161) q159_160 rfl rfl ?_
          refine j_bipush (pc' := 163) q159_161 rfl ?_
          refine j_icmp_ne (pc' := 166) q159_163 rfl (fun c26 => ?_) (fun c26 => ?_)
          · refine j_aload_n (pc' := 167) q159_166 rfl (by decide) rfl ?_
            refine j_getr (k := 90) (q := 93) (pc' := 170) q159_167 rfl (hρ 90 5 93 rfl) rfl ?_
            refine j_bipush (pc' := 172) q159_170 rfl ?_
            refine j_aload_n (pc' := 173) q159_172 rfl (by decide) rfl ?_
            refine j_iconst (pc' := 174) q159_173 rfl ?_
            refine j_bipush (pc' := 176) q159_174 rfl ?_
            refine j_iconst (pc' := 177) q159_176 rfl ?_
            refine j_callV3_i (d := d + 3) (pc' := 180) q159_177 rfl (Nat.le_of_ble_eq_true rfl) (Nat.le_of_ble_eq_true rfl) rfl (t_M_other hρ (d + 1) _ _ _ _) (fun r27 => ?_)
            refine j_iast (k := 93) (N := 110) (pc' := 181) q159_180 rfl (by decide) rfl ?_
            refine j_nameS (fun τ28 => ?_)
            refine j_goto q159_181 rfl ?_
            exact j_vret q159_206 rfl
          · refine j_aload_n (pc' := 185) q159_184 rfl (by decide) rfl ?_
            refine j_aload_n (pc' := 186) q159_185 rfl (by decide) rfl ?_
            refine j_iconst (pc' := 187) q159_186 rfl ?_
            refine j_iconst (pc' := 188) q159_187 rfl ?_
            refine j_iconst (pc' := 189) q159_188 rfl ?_
            refine j_callV3_i (d := d + 3) (pc' := 192) q159_189 rfl (Nat.le_of_ble_eq_true rfl) (Nat.le_of_ble_eq_true rfl) rfl (t_M_other hρ (d + 1) _ _ _ _) (fun r29 => ?_)
            refine j_putf (k := 90) (pc' := 195) q159_192 rfl rfl ?_
            refine j_nameS (fun τ30 => ?_)
            refine j_aload_n (pc' := 196) q159_195 rfl (by decide) rfl ?_
            refine j_aload_n (pc' := 197) q159_196 rfl (by decide) rfl ?_
            refine j_iconst (pc' := 198) q159_197 rfl ?_
            refine j_iconst (pc' := 199) q159_198 rfl ?_
            refine j_iconst (pc' := 200) q159_199 rfl ?_
            refine j_callV3_i (d := d + 3) (pc' := 203) q159_200 rfl (Nat.le_of_ble_eq_true rfl) (Nat.le_of_ble_eq_true rfl) rfl (t_M_other hρ (d + 1) _ _ _ _) (fun r31 => ?_)
            refine j_putf (k := 90) (pc' := 206) q159_203 rfl rfl ?_
            refine j_nameS (fun τ32 => ?_)
            exact j_vret q159_206 rfl
