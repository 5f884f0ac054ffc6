/-! the abstract machine runs as the functions say, by wip/whole/gen_fun.py -/
theorem q136_0 : z_fi (z_mi 136) 0 = some (0, .iload_n 1, 0, 0, 0, 0, 0) := rfl
theorem q136_1 : z_fi (z_mi 136) 1 = some (1, .invokestatic 173, 1, 1, 1, 0, 0) := rfl
theorem q136_4 : z_fi (z_mi 136) 4 = some (4, .ifCond .eq 23, 0, 27, 0, 0, 0) := rfl
theorem q136_7 : z_fi (z_mi 136) 7 = some (7, .iload_n 2, 0, 0, 0, 0, 0) := rfl
theorem q136_8 : z_fi (z_mi 136) 8 = some (8, .iconst 1, 0, 0, 0, 1, 0) := rfl
theorem q136_9 : z_fi (z_mi 136) 9 = some (9, .iconst 5, 0, 0, 0, 5, 0) := rfl
theorem q136_10 : z_fi (z_mi 136) 10 = some (10, .invokestatic 60, 1, 99, 3, 0, 0) := rfl
theorem q136_13 : z_fi (z_mi 136) 13 = some (13, .ifCond .eq 14, 0, 27, 0, 0, 0) := rfl
theorem q136_16 : z_fi (z_mi 136) 16 = some (16, .iload_n 3, 0, 0, 0, 0, 0) := rfl
theorem q136_17 : z_fi (z_mi 136) 17 = some (17, .iconst 0, 0, 0, 0, 0, 0) := rfl
theorem q136_18 : z_fi (z_mi 136) 18 = some (18, .iload_n 2, 0, 0, 0, 0, 0) := rfl
theorem q136_19 : z_fi (z_mi 136) 19 = some (19, .iconst 1, 0, 0, 0, 1, 0) := rfl
theorem q136_20 : z_fi (z_mi 136) 20 = some (20, .isub, 0, 0, 0, 0, 0) := rfl
theorem q136_21 : z_fi (z_mi 136) 21 = some (21, .invokestatic 60, 1, 99, 3, 0, 0) := rfl
theorem q136_24 : z_fi (z_mi 136) 24 = some (24, .ifCond .ne 5, 0, 29, 0, 0, 0) := rfl
theorem q136_27 : z_fi (z_mi 136) 27 = some (27, .iconst (-1), 0, 0, 0, (-1), 0) := rfl
theorem q136_28 : z_fi (z_mi 136) 28 = some (28, .ireturn, 0, 0, 0, 0, 0) := rfl
theorem q136_29 : z_fi (z_mi 136) 29 = some (29, .aload_n 0, 0, 0, 0, 0, 0) := rfl
theorem q136_30 : z_fi (z_mi 136) 30 = some (30, .getfield 55, 0, 9, 7, 0, 0) := rfl
theorem q136_33 : z_fi (z_mi 136) 33 = some (33, .iload_n 1, 0, 0, 0, 0, 0) := rfl
theorem q136_34 : z_fi (z_mi 136) 34 = some (34, .iload_n 2, 0, 0, 0, 0, 0) := rfl
theorem q136_35 : z_fi (z_mi 136) 35 = some (35, .iload_n 3, 0, 0, 0, 0, 0) := rfl
theorem q136_36 : z_fi (z_mi 136) 36 = some (36, .invokevirtual 267, 0, 73, 3, 0, 0) := rfl
theorem q136_39 : z_fi (z_mi 136) 39 = some (39, .ireturn, 0, 0, 0, 0, 0) := rfl
set_option maxRecDepth 20000 in
set_option maxHeartbeats 4000000 in
theorem t_Y_sure {xL : Nat} {xs : Nat → Int32} {ρ : Nat → Nat → Option Nat} (hρ : z_hR ρ) (d : Nat) (a1 : Int32) (a2 : Int32) (a3 : Int32) (σ : zS) : ∀ q, f_Y_sure a1 a2 a3 σ = some q → z_ec xL xs ρ (d + 7) 136 [.ref 0, .int a1, .int a2, .int a3] σ (em_i q) := by
  refine j_of (W := [.ref 0, .int a1, .int a2, .int a3]) (fun L hL => ?_) ?_
  · subst hL; exact z_vl_0 _ 0 rfl
  · unfold f_Y_sure
    refine j_iload_n (pc' := 1) q136_0 rfl rfl ?_
    refine j_callS1_pi (d := d + 6) (pc' := 4) q136_1 (Or.inl rfl) (Nat.le_of_ble_eq_true rfl) (Nat.le_of_ble_eq_true rfl) rfl (t_Cr_isKind hρ (d + 5) _ _) (fun r1 => ?_)
    refine j_if_eq (pc' := 7) q136_4 rfl (fun c2 => ?_) (fun c2 => ?_)
    · refine j_iconst (pc' := 28) q136_27 rfl ?_
      exact j_iret q136_28 rfl
    · refine j_iload_n (pc' := 8) q136_7 rfl rfl ?_
      refine j_iconst (pc' := 9) q136_8 rfl ?_
      refine j_iconst (pc' := 10) q136_9 rfl ?_
      refine j_callS3_pi (d := d + 6) (pc' := 13) q136_10 (Or.inl rfl) (Nat.le_of_ble_eq_true rfl) (Nat.le_of_ble_eq_true rfl) rfl (t_Y_isIn hρ (d + 6) _ _ _ _) (fun r3 => ?_)
      refine j_if_eq (pc' := 16) q136_13 rfl (fun c4 => ?_) (fun c4 => ?_)
      · refine j_iconst (pc' := 28) q136_27 rfl ?_
        exact j_iret q136_28 rfl
      · refine j_iload_n (pc' := 17) q136_16 rfl rfl ?_
        refine j_iconst (pc' := 18) q136_17 rfl ?_
        refine j_iload_n (pc' := 19) q136_18 rfl rfl ?_
        refine j_iconst (pc' := 20) q136_19 rfl ?_
        refine j_isub (pc' := 21) q136_20 rfl ?_
        refine j_callS3_pi (d := d + 6) (pc' := 24) q136_21 (Or.inl rfl) (Nat.le_of_ble_eq_true rfl) (Nat.le_of_ble_eq_true rfl) rfl (t_Y_isIn hρ (d + 6) _ _ _ _) (fun r5 => ?_)
        refine j_if_ne (pc' := 27) q136_24 rfl (fun c6 => ?_) (fun c6 => ?_)
        · refine j_iconst (pc' := 28) q136_27 rfl ?_
          exact j_iret q136_28 rfl
        · refine j_aload_n (pc' := 30) q136_29 rfl (by decide) rfl ?_
          refine j_getr (k := 0) (q := 44) (pc' := 33) q136_30 rfl (hρ 0 7 44 rfl) rfl ?_
          refine j_iload_n (pc' := 34) q136_33 rfl rfl ?_
          refine j_iload_n (pc' := 35) q136_34 rfl rfl ?_
          refine j_iload_n (pc' := 36) q136_35 rfl rfl ?_
          refine j_callV3_i (d := d + 6) (pc' := 39) q136_36 rfl (Nat.le_of_ble_eq_true rfl) (Nat.le_of_ble_eq_true rfl) rfl (t_St_onlyOne_44 hρ (d + 0) _ _ _ _) (fun r7 => ?_)
          exact j_iret q136_39 rfl
set_option maxRecDepth 8000 in
theorem q221_0 : z_fi (z_mi 221) 0 = some (0, .iload_n 1, 0, 0, 0, 0, 0) := rfl
set_option maxRecDepth 8000 in
theorem q221_1 : z_fi (z_mi 221) 1 = some (1, .i2l, 0, 0, 0, 0, 0) := rfl
set_option maxRecDepth 8000 in
theorem q221_2 : z_fi (z_mi 221) 2 = some (2, .lconst 0, 0, 0, 0, 0, 0) := rfl
set_option maxRecDepth 8000 in
theorem q221_3 : z_fi (z_mi 221) 3 = some (3, .ldc2_w 169, 0, 0, 0, 0, 4) := rfl
set_option maxRecDepth 8000 in
theorem q221_6 : z_fi (z_mi 221) 6 = some (6, .invokestatic 62, 1, 149, 3, 0, 0) := rfl
set_option maxRecDepth 8000 in
theorem q221_9 : z_fi (z_mi 221) 9 = some (9, .ifCond .eq 28, 0, 37, 0, 0, 0) := rfl
set_option maxRecDepth 8000 in
theorem q221_12 : z_fi (z_mi 221) 12 = some (12, .iload_n 2, 0, 0, 0, 0, 0) := rfl
set_option maxRecDepth 8000 in
theorem q221_13 : z_fi (z_mi 221) 13 = some (13, .i2l, 0, 0, 0, 0, 0) := rfl
set_option maxRecDepth 8000 in
theorem q221_14 : z_fi (z_mi 221) 14 = some (14, .lconst 1, 0, 0, 0, 0, 1) := rfl
set_option maxRecDepth 8000 in
theorem q221_15 : z_fi (z_mi 221) 15 = some (15, .ldc2_w 277, 0, 0, 0, 0, 5) := rfl
set_option maxRecDepth 8000 in
theorem q221_18 : z_fi (z_mi 221) 18 = some (18, .invokestatic 62, 1, 149, 3, 0, 0) := rfl
set_option maxRecDepth 8000 in
theorem q221_21 : z_fi (z_mi 221) 21 = some (21, .ifCond .eq 16, 0, 37, 0, 0, 0) := rfl
set_option maxRecDepth 8000 in
theorem q221_24 : z_fi (z_mi 221) 24 = some (24, .iload_n 3, 0, 0, 0, 0, 0) := rfl
set_option maxRecDepth 8000 in
theorem q221_25 : z_fi (z_mi 221) 25 = some (25, .i2l, 0, 0, 0, 0, 0) := rfl
set_option maxRecDepth 8000 in
theorem q221_26 : z_fi (z_mi 221) 26 = some (26, .lconst 0, 0, 0, 0, 0, 0) := rfl
set_option maxRecDepth 8000 in
theorem q221_27 : z_fi (z_mi 221) 27 = some (27, .iload_n 2, 0, 0, 0, 0, 0) := rfl
set_option maxRecDepth 8000 in
theorem q221_28 : z_fi (z_mi 221) 28 = some (28, .iconst 1, 0, 0, 0, 1, 0) := rfl
set_option maxRecDepth 8000 in
theorem q221_29 : z_fi (z_mi 221) 29 = some (29, .isub, 0, 0, 0, 0, 0) := rfl
set_option maxRecDepth 8000 in
theorem q221_30 : z_fi (z_mi 221) 30 = some (30, .i2l, 0, 0, 0, 0, 0) := rfl
set_option maxRecDepth 8000 in
theorem q221_31 : z_fi (z_mi 221) 31 = some (31, .invokestatic 62, 1, 149, 3, 0, 0) := rfl
set_option maxRecDepth 8000 in
theorem q221_34 : z_fi (z_mi 221) 34 = some (34, .ifCond .ne 5, 0, 39, 0, 0, 0) := rfl
set_option maxRecDepth 8000 in
theorem q221_37 : z_fi (z_mi 221) 37 = some (37, .iconst (-1), 0, 0, 0, (-1), 0) := rfl
set_option maxRecDepth 8000 in
theorem q221_38 : z_fi (z_mi 221) 38 = some (38, .ireturn, 0, 0, 0, 0, 0) := rfl
set_option maxRecDepth 8000 in
theorem q221_39 : z_fi (z_mi 221) 39 = some (39, .iconst 0, 0, 0, 0, 0, 0) := rfl
set_option maxRecDepth 8000 in
theorem q221_40 : z_fi (z_mi 221) 40 = some (40, .istore 4, 0, 0, 0, 0, 0) := rfl
set_option maxRecDepth 8000 in
theorem q221_42 : z_fi (z_mi 221) 42 = some (42, .iconst 0, 0, 0, 0, 0, 0) := rfl
set_option maxRecDepth 8000 in
theorem q221_43 : z_fi (z_mi 221) 43 = some (43, .istore 5, 0, 0, 0, 0, 0) := rfl
set_option maxRecDepth 8000 in
theorem q221_45 : z_fi (z_mi 221) 45 = some (45, .iload 5, 0, 0, 0, 0, 0) := rfl
set_option maxRecDepth 8000 in
theorem q221_47 : z_fi (z_mi 221) 47 = some (47, .iload_n 2, 0, 0, 0, 0, 0) := rfl
set_option maxRecDepth 8000 in
theorem q221_48 : z_fi (z_mi 221) 48 = some (48, .invokestatic 274, 1, 218, 1, 0, 0) := rfl
set_option maxRecDepth 8000 in
theorem q221_51 : z_fi (z_mi 221) 51 = some (51, .if_icmp .ge 44, 0, 95, 0, 0, 0) := rfl
set_option maxRecDepth 8000 in
theorem q221_54 : z_fi (z_mi 221) 54 = some (54, .iload 4, 0, 0, 0, 0, 0) := rfl
set_option maxRecDepth 8000 in
theorem q221_56 : z_fi (z_mi 221) 56 = some (56, .aload_n 0, 0, 0, 0, 0, 0) := rfl
set_option maxRecDepth 8000 in
theorem q221_57 : z_fi (z_mi 221) 57 = some (57, .iload_n 1, 0, 0, 0, 0, 0) := rfl
set_option maxRecDepth 8000 in
theorem q221_58 : z_fi (z_mi 221) 58 = some (58, .iload_n 2, 0, 0, 0, 0, 0) := rfl
set_option maxRecDepth 8000 in
theorem q221_59 : z_fi (z_mi 221) 59 = some (59, .iload 5, 0, 0, 0, 0, 0) := rfl
set_option maxRecDepth 8000 in
theorem q221_61 : z_fi (z_mi 221) 61 = some (61, .invokevirtual 279, 0, 219, 3, 0, 0) := rfl
set_option maxRecDepth 8000 in
theorem q221_64 : z_fi (z_mi 221) 64 = some (64, .ifCond .eq 21, 0, 85, 0, 0, 0) := rfl
set_option maxRecDepth 8000 in
theorem q221_67 : z_fi (z_mi 221) 67 = some (67, .iconst 1, 0, 0, 0, 1, 0) := rfl
set_option maxRecDepth 8000 in
theorem q221_68 : z_fi (z_mi 221) 68 = some (68, .iload 5, 0, 0, 0, 0, 0) := rfl
set_option maxRecDepth 8000 in
theorem q221_70 : z_fi (z_mi 221) 70 = some (70, .iload_n 2, 0, 0, 0, 0, 0) := rfl
set_option maxRecDepth 8000 in
theorem q221_71 : z_fi (z_mi 221) 71 = some (71, .iconst 1, 0, 0, 0, 1, 0) := rfl
set_option maxRecDepth 8000 in
theorem q221_72 : z_fi (z_mi 221) 72 = some (72, .isub, 0, 0, 0, 0, 0) := rfl
set_option maxRecDepth 8000 in
theorem q221_73 : z_fi (z_mi 221) 73 = some (73, .iload_n 3, 0, 0, 0, 0, 0) := rfl
set_option maxRecDepth 8000 in
theorem q221_74 : z_fi (z_mi 221) 74 = some (74, .isub, 0, 0, 0, 0, 0) := rfl
set_option maxRecDepth 8000 in
theorem q221_75 : z_fi (z_mi 221) 75 = some (75, .invokestatic 274, 1, 218, 1, 0, 0) := rfl
set_option maxRecDepth 8000 in
theorem q221_78 : z_fi (z_mi 221) 78 = some (78, .idiv, 0, 0, 0, 0, 0) := rfl
set_option maxRecDepth 8000 in
theorem q221_79 : z_fi (z_mi 221) 79 = some (79, .iconst 5, 0, 0, 0, 5, 0) := rfl
set_option maxRecDepth 8000 in
theorem q221_80 : z_fi (z_mi 221) 80 = some (80, .irem, 0, 0, 0, 0, 0) := rfl
set_option maxRecDepth 8000 in
theorem q221_81 : z_fi (z_mi 221) 81 = some (81, .ishl, 0, 0, 0, 0, 0) := rfl
set_option maxRecDepth 8000 in
theorem q221_82 : z_fi (z_mi 221) 82 = some (82, .goto 4, 0, 86, 0, 0, 0) := rfl
set_option maxRecDepth 8000 in
theorem q221_85 : z_fi (z_mi 221) 85 = some (85, .iconst 0, 0, 0, 0, 0, 0) := rfl
set_option maxRecDepth 8000 in
theorem q221_86 : z_fi (z_mi 221) 86 = some (86, .ior, 0, 0, 0, 0, 0) := rfl
set_option maxRecDepth 8000 in
theorem q221_87 : z_fi (z_mi 221) 87 = some (87, .istore 4, 0, 0, 0, 0, 0) := rfl
set_option maxRecDepth 8000 in
theorem q221_89 : z_fi (z_mi 221) 89 = some (89, .iinc 5 1, 0, 0, 0, 1, 0) := rfl
set_option maxRecDepth 8000 in
theorem q221_92 : z_fi (z_mi 221) 92 = some (92, .goto (-47), 0, 45, 0, 0, 0) := rfl
set_option maxRecDepth 8000 in
theorem q221_95 : z_fi (z_mi 221) 95 = some (95, .iconst 0, 0, 0, 0, 0, 0) := rfl
set_option maxRecDepth 8000 in
theorem q221_96 : z_fi (z_mi 221) 96 = some (96, .istore 5, 0, 0, 0, 0, 0) := rfl
set_option maxRecDepth 8000 in
theorem q221_98 : z_fi (z_mi 221) 98 = some (98, .iload 5, 0, 0, 0, 0, 0) := rfl
set_option maxRecDepth 8000 in
theorem q221_100 : z_fi (z_mi 221) 100 = some (100, .iconst 5, 0, 0, 0, 5, 0) := rfl
set_option maxRecDepth 8000 in
theorem q221_101 : z_fi (z_mi 221) 101 = some (101, .if_icmp .ge 21, 0, 122, 0, 0, 0) := rfl
set_option maxRecDepth 8000 in
theorem q221_104 : z_fi (z_mi 221) 104 = some (104, .iload 4, 0, 0, 0, 0, 0) := rfl
set_option maxRecDepth 8000 in
theorem q221_106 : z_fi (z_mi 221) 106 = some (106, .iconst 1, 0, 0, 0, 1, 0) := rfl
set_option maxRecDepth 8000 in
theorem q221_107 : z_fi (z_mi 221) 107 = some (107, .iload 5, 0, 0, 0, 0, 0) := rfl
set_option maxRecDepth 8000 in
theorem q221_109 : z_fi (z_mi 221) 109 = some (109, .ishl, 0, 0, 0, 0, 0) := rfl
set_option maxRecDepth 8000 in
theorem q221_110 : z_fi (z_mi 221) 110 = some (110, .if_icmp .ne 6, 0, 116, 0, 0, 0) := rfl
set_option maxRecDepth 8000 in
theorem q221_113 : z_fi (z_mi 221) 113 = some (113, .iload 5, 0, 0, 0, 0, 0) := rfl
set_option maxRecDepth 8000 in
theorem q221_115 : z_fi (z_mi 221) 115 = some (115, .ireturn, 0, 0, 0, 0, 0) := rfl
set_option maxRecDepth 8000 in
theorem q221_116 : z_fi (z_mi 221) 116 = some (116, .iinc 5 1, 0, 0, 0, 1, 0) := rfl
set_option maxRecDepth 8000 in
theorem q221_119 : z_fi (z_mi 221) 119 = some (119, .goto (-21), 0, 98, 0, 0, 0) := rfl
set_option maxRecDepth 8000 in
theorem q221_122 : z_fi (z_mi 221) 122 = some (122, .bipush (-4), 0, 0, 0, (-4), 0) := rfl
set_option maxRecDepth 8000 in
theorem q221_124 : z_fi (z_mi 221) 124 = some (124, .ireturn, 0, 0, 0, 0, 0) := rfl
set_option maxRecDepth 20000 in
set_option maxHeartbeats 4000000 in
theorem t_M_sure {xL : Nat} {xs : Nat → Int32} {ρ : Nat → Nat → Option Nat} (hρ : z_hR ρ) (d : Nat) (a1 : Int32) (a2 : Int32) (a3 : Int32) (σ : zS) : ∀ q, f_M_sure a1 a2 a3 σ = some q → z_ec xL xs ρ (d + 2) 221 [.ref 90, .int a1, .int a2, .int a3] σ (em_pi σ q) := by
  refine j_of (W := [.ref 90, .int a1, .int a2, .int a3, .null, .null]) (fun L hL => ?_) ?_
  · subst hL; exact z_vl_0 _ 2 rfl
  · unfold f_M_sure
    refine j_iload_n (pc' := 1) q221_0 rfl rfl ?_
    refine j_i2l (pc' := 2) q221_1 rfl ?_
    refine j_lconst (pc' := 3) q221_2 rfl ?_
    refine j_ldc2 (pc' := 6) q221_3 rfl ?_
    refine j_callS3_pi (d := d + 1) (pc' := 9) q221_6 (Or.inl rfl) (Nat.le_of_ble_eq_true rfl) (Nat.le_of_ble_eq_true rfl) rfl (t_M_in hρ (d + 1) _ _ _ _) (fun r1 => ?_)
    refine j_if_eq (pc' := 12) q221_9 rfl (fun c2 => ?_) (fun c2 => ?_)
    · refine j_iconst (pc' := 38) q221_37 rfl ?_
      exact j_piret q221_38 rfl
    · refine j_iload_n (pc' := 13) q221_12 rfl rfl ?_
      refine j_i2l (pc' := 14) q221_13 rfl ?_
      refine j_lconst (pc' := 15) q221_14 rfl ?_
      refine j_ldc2 (pc' := 18) q221_15 rfl ?_
      refine j_callS3_pi (d := d + 1) (pc' := 21) q221_18 (Or.inl rfl) (Nat.le_of_ble_eq_true rfl) (Nat.le_of_ble_eq_true rfl) rfl (t_M_in hρ (d + 1) _ _ _ _) (fun r3 => ?_)
      refine j_if_eq (pc' := 24) q221_21 rfl (fun c4 => ?_) (fun c4 => ?_)
      · refine j_iconst (pc' := 38) q221_37 rfl ?_
        exact j_piret q221_38 rfl
      · refine j_iload_n (pc' := 25) q221_24 rfl rfl ?_
        refine j_i2l (pc' := 26) q221_25 rfl ?_
        refine j_lconst (pc' := 27) q221_26 rfl ?_
        refine j_iload_n (pc' := 28) q221_27 rfl rfl ?_
        refine j_iconst (pc' := 29) q221_28 rfl ?_
        refine j_isub (pc' := 30) q221_29 rfl ?_
        refine j_i2l (pc' := 31) q221_30 rfl ?_
        refine j_callS3_pi (d := d + 1) (pc' := 34) q221_31 (Or.inl rfl) (Nat.le_of_ble_eq_true rfl) (Nat.le_of_ble_eq_true rfl) rfl (t_M_in hρ (d + 1) _ _ _ _) (fun r5 => ?_)
        refine j_if_ne (pc' := 37) q221_34 rfl (fun c6 => ?_) (fun c6 => ?_)
        · refine j_iconst (pc' := 38) q221_37 rfl ?_
          exact j_piret q221_38 rfl
        · refine j_iconst (pc' := 40) q221_39 rfl ?_
          refine j_istore4 (pc' := 42) q221_40 rfl (Nat.le_of_ble_eq_true rfl) rfl ?_
          refine j_iconst (pc' := 43) q221_42 rfl ?_
          refine j_istore5 (pc' := 45) q221_43 rfl (Nat.le_of_ble_eq_true rfl) rfl ?_
          refine j_forget (V' := [.ref 90, .int a1, .int a2, .int a3, .int (0 : Int32), .int (0 : Int32)]) (z_le_s (z_le_s (z_le_s (z_le_s (z_le_s (z_le_s (z_le_nil))))))) ?_
          refine j_loopX (S := Int32 × Int32) (E := Int32) (fun e => e) 95 (fun s7 => [.ref 90, .int a1, .int a2, .int a3, .int s7.1, .int s7.2]) (fun s7 => σ) (fun b7 => [.null, .null, .null, .null, .int b7, .null]) (fun b7 => σ) (fun b7 => ?_) (fun R7 hR7 hX7 s7 => ?_) ((0 : Int32), (0 : Int32))
          · show z_J _ _ _ _ _ _ _ _ _ _ _ _
            refine j_iconst (pc' := 96) q221_95 rfl ?_
            refine j_istore5 (pc' := 98) q221_96 rfl (Nat.le_of_ble_eq_true rfl) rfl ?_
            refine j_forget (V' := [.null, .null, .null, .null, .int b7, .int (0 : Int32)]) (z_le_n (z_le_n (z_le_n (z_le_n (z_le_s (z_le_s (z_le_nil))))))) ?_
            refine j_loopX (S := Int32) (E := Unit) Sum.inl 122 (fun s15 => [.null, .null, .null, .null, .int b7, .int s15]) (fun s15 => σ) (fun b15 => [.null, .null, .null, .null, .null, .null]) (fun b15 => σ) (fun b15 => ?_) (fun R15 hR15 hX15 s15 => ?_) (0 : Int32)
            · show z_J _ _ _ _ _ _ _ _ _ _ _ _
              refine j_bipush (pc' := 124) q221_122 rfl ?_
              exact j_piret q221_124 rfl
            · show z_J _ _ _ _ _ _ _ _ _ _ _ _
              refine j_iload (pc' := 100) q221_98 rfl rfl ?_
              refine j_iconst (pc' := 101) q221_100 rfl ?_
              refine j_icmp_ge (pc' := 104) q221_101 rfl (fun c16 => ?_) (fun c16 => ?_)
              · exact j_exit (j_forget (z_le_n (z_le_n (z_le_n (z_le_n (z_le_n (z_le_n (z_le_nil))))))) (hX15 ()))
              · refine j_iload (pc' := 106) q221_104 rfl rfl ?_
                refine j_iconst (pc' := 107) q221_106 rfl ?_
                refine j_iload (pc' := 109) q221_107 rfl rfl ?_
                refine j_ishl (pc' := 110) q221_109 rfl ?_
                refine j_icmp_ne (pc' := 113) q221_110 rfl (fun c17 => ?_) (fun c17 => ?_)
                · refine j_iload (pc' := 115) q221_113 rfl rfl ?_
                  refine j_exit ?_
                  exact j_piret q221_115 rfl
                · refine j_iinc5 (pc' := 119) q221_116 rfl (Nat.le_of_ble_eq_true rfl) rfl ?_
                  refine j_goto q221_119 rfl ?_
                  exact j_again (j_forget (z_le_n (z_le_n (z_le_n (z_le_n (z_le_s (z_le_s (z_le_nil))))))) (hR15 (s15 + (1 : Int32))))
          · show z_J _ _ _ _ _ _ _ _ _ _ _ _
            refine j_iload (pc' := 47) q221_45 rfl rfl ?_
            refine j_iload_n (pc' := 48) q221_47 rfl rfl ?_
            refine j_callS1_pi (d := d + 1) (pc' := 51) q221_48 (Or.inl rfl) (Nat.le_of_ble_eq_true rfl) (Nat.le_of_ble_eq_true rfl) rfl (t_M_power hρ (d + 1) _ _) (fun r8 => ?_)
            refine j_icmp_ge (pc' := 54) q221_51 rfl (fun c9 => ?_) (fun c9 => ?_)
            · exact j_exit (j_forget (z_le_n (z_le_n (z_le_n (z_le_n (z_le_s (z_le_n (z_le_nil))))))) (hX7 s7.1))
            · refine j_iload (pc' := 56) q221_54 rfl rfl ?_
              refine j_aload_n (pc' := 57) q221_56 rfl (by decide) rfl ?_
              refine j_iload_n (pc' := 58) q221_57 rfl rfl ?_
              refine j_iload_n (pc' := 59) q221_58 rfl rfl ?_
              refine j_iload (pc' := 61) q221_59 rfl rfl ?_
              refine j_callV3_pi (d := d + 1) (pc' := 64) q221_61 rfl (Nat.le_of_ble_eq_true rfl) (Nat.le_of_ble_eq_true rfl) rfl (t_M_rowFits hρ (d + 0) _ _ _ _) (fun r10 => ?_)
              refine j_join (T := Int32 × Int32) 86 (fun t11 => [.ref 90, .int a1, .int a2, .int a3, .null, .int s7.2]) (fun t11 => [.int t11.1, .int t11.2]) (fun t11 => σ) (fun t11 => ?_) (fun j11 hj11 => ?_)
              · show z_J _ _ _ _ _ _ _ _ _ _ _ _
                refine j_ior (pc' := 87) q221_86 rfl ?_
                refine j_istore4 (pc' := 89) q221_87 rfl (Nat.le_of_ble_eq_true rfl) rfl ?_
                refine j_iinc5 (pc' := 92) q221_89 rfl (Nat.le_of_ble_eq_true rfl) rfl ?_
                refine j_goto q221_92 rfl ?_
                exact j_again (j_forget (z_le_s (z_le_s (z_le_s (z_le_s (z_le_s (z_le_s (z_le_nil))))))) (hR7 ((t11.2 ||| t11.1), (s7.2 + (1 : Int32)))))
              · show z_J _ _ _ _ _ _ _ _ _ _ _ _
                refine j_if_eq (pc' := 67) q221_64 rfl (fun c12 => ?_) (fun c12 => ?_)
                · refine j_iconst (pc' := 86) q221_85 rfl ?_
                  refine j_forget (z_le_s (z_le_s (z_le_s (z_le_s (z_le_n (z_le_s (z_le_nil))))))) (hj11 ((0 : Int32), s7.1))
                · refine j_iconst (pc' := 68) q221_67 rfl ?_
                  refine j_iload (pc' := 70) q221_68 rfl rfl ?_
                  refine j_iload_n (pc' := 71) q221_70 rfl rfl ?_
                  refine j_iconst (pc' := 72) q221_71 rfl ?_
                  refine j_isub (pc' := 73) q221_72 rfl ?_
                  refine j_iload_n (pc' := 74) q221_73 rfl rfl ?_
                  refine j_isub (pc' := 75) q221_74 rfl ?_
                  refine j_callS1_pi (d := d + 1) (pc' := 78) q221_75 (Or.inl rfl) (Nat.le_of_ble_eq_true rfl) (Nat.le_of_ble_eq_true rfl) rfl (t_M_power hρ (d + 1) _ _) (fun r13 => ?_)
                  refine j_if (fun _ => j_none) (fun hz14 => ?_)
                  refine j_idiv (pc' := 79) q221_78 hz14 rfl ?_
                  refine j_iconst (pc' := 80) q221_79 rfl ?_
                  refine j_irem (pc' := 81) q221_80 (by decide) rfl ?_
                  refine j_ishl (pc' := 82) q221_81 rfl ?_
                  refine j_goto q221_82 rfl ?_
                  refine j_forget (z_le_s (z_le_s (z_le_s (z_le_s (z_le_n (z_le_s (z_le_nil))))))) (hj11 (((1 : Int32) <<< (((s7.2 / r13) - (s7.2 / r13) / (5 : Int32) * (5 : Int32)) &&& 31)), s7.1))
theorem q137_0 : z_fi (z_mi 137) 0 = some (0, .iload_n 1, 0, 0, 0, 0, 0) := rfl
theorem q137_1 : z_fi (z_mi 137) 1 = some (1, .iconst 1, 0, 0, 0, 1, 0) := rfl
theorem q137_2 : z_fi (z_mi 137) 2 = some (2, .iconst 5, 0, 0, 0, 5, 0) := rfl
theorem q137_3 : z_fi (z_mi 137) 3 = some (3, .invokestatic 60, 1, 99, 3, 0, 0) := rfl
theorem q137_6 : z_fi (z_mi 137) 6 = some (6, .ifCond .ne 5, 0, 11, 0, 0, 0) := rfl
theorem q137_9 : z_fi (z_mi 137) 9 = some (9, .iconst (-1), 0, 0, 0, (-1), 0) := rfl
theorem q137_10 : z_fi (z_mi 137) 10 = some (10, .ireturn, 0, 0, 0, 0, 0) := rfl
theorem q137_11 : z_fi (z_mi 137) 11 = some (11, .iconst 0, 0, 0, 0, 0, 0) := rfl
theorem q137_12 : z_fi (z_mi 137) 12 = some (12, .istore_n 2, 0, 0, 0, 0, 0) := rfl
theorem q137_13 : z_fi (z_mi 137) 13 = some (13, .iconst 0, 0, 0, 0, 0, 0) := rfl
theorem q137_14 : z_fi (z_mi 137) 14 = some (14, .istore_n 3, 0, 0, 0, 0, 0) := rfl
theorem q137_15 : z_fi (z_mi 137) 15 = some (15, .iload_n 3, 0, 0, 0, 0, 0) := rfl
theorem q137_16 : z_fi (z_mi 137) 16 = some (16, .iconst 5, 0, 0, 0, 5, 0) := rfl
theorem q137_17 : z_fi (z_mi 137) 17 = some (17, .if_icmp .ge 27, 0, 44, 0, 0, 0) := rfl
theorem q137_20 : z_fi (z_mi 137) 20 = some (20, .aload_n 0, 0, 0, 0, 0, 0) := rfl
theorem q137_21 : z_fi (z_mi 137) 21 = some (21, .getfield 55, 0, 9, 7, 0, 0) := rfl
theorem q137_24 : z_fi (z_mi 137) 24 = some (24, .iload_n 3, 0, 0, 0, 0, 0) := rfl
theorem q137_25 : z_fi (z_mi 137) 25 = some (25, .iload_n 1, 0, 0, 0, 0, 0) := rfl
theorem q137_26 : z_fi (z_mi 137) 26 = some (26, .invokevirtual 261, 0, 69, 2, 0, 0) := rfl
theorem q137_29 : z_fi (z_mi 137) 29 = some (29, .ifCond .le 9, 0, 38, 0, 0, 0) := rfl
theorem q137_32 : z_fi (z_mi 137) 32 = some (32, .iload_n 2, 0, 0, 0, 0, 0) := rfl
theorem q137_33 : z_fi (z_mi 137) 33 = some (33, .iconst 1, 0, 0, 0, 1, 0) := rfl
theorem q137_34 : z_fi (z_mi 137) 34 = some (34, .iload_n 3, 0, 0, 0, 0, 0) := rfl
theorem q137_35 : z_fi (z_mi 137) 35 = some (35, .ishl, 0, 0, 0, 0, 0) := rfl
theorem q137_36 : z_fi (z_mi 137) 36 = some (36, .ior, 0, 0, 0, 0, 0) := rfl
theorem q137_37 : z_fi (z_mi 137) 37 = some (37, .istore_n 2, 0, 0, 0, 0, 0) := rfl
theorem q137_38 : z_fi (z_mi 137) 38 = some (38, .iinc 3 1, 0, 0, 0, 1, 0) := rfl
theorem q137_41 : z_fi (z_mi 137) 41 = some (41, .goto (-26), 0, 15, 0, 0, 0) := rfl
theorem q137_44 : z_fi (z_mi 137) 44 = some (44, .iload_n 2, 0, 0, 0, 0, 0) := rfl
theorem q137_45 : z_fi (z_mi 137) 45 = some (45, .ireturn, 0, 0, 0, 0, 0) := rfl
set_option maxRecDepth 20000 in
set_option maxHeartbeats 4000000 in
theorem t_Y_sown {xL : Nat} {xs : Nat → Int32} {ρ : Nat → Nat → Option Nat} (hρ : z_hR ρ) (d : Nat) (a1 : Int32) (σ : zS) : ∀ q, f_Y_sown a1 σ = some q → z_ec xL xs ρ (d + 6) 137 [.ref 0, .int a1] σ (em_i q) := by
  refine j_of (W := [.ref 0, .int a1, .null, .null]) (fun L hL => ?_) ?_
  · subst hL; exact z_vl_0 _ 2 rfl
  · unfold f_Y_sown
    refine j_iload_n (pc' := 1) q137_0 rfl rfl ?_
    refine j_iconst (pc' := 2) q137_1 rfl ?_
    refine j_iconst (pc' := 3) q137_2 rfl ?_
    refine j_callS3_pi (d := d + 5) (pc' := 6) q137_3 (Or.inl rfl) (Nat.le_of_ble_eq_true rfl) (Nat.le_of_ble_eq_true rfl) rfl (t_Y_isIn hρ (d + 5) _ _ _ _) (fun r1 => ?_)
    refine j_if_ne (pc' := 9) q137_6 rfl (fun c2 => ?_) (fun c2 => ?_)
    · refine j_iconst (pc' := 10) q137_9 rfl ?_
      exact j_iret q137_10 rfl
    · refine j_iconst (pc' := 12) q137_11 rfl ?_
      refine j_istore2 (pc' := 13) q137_12 rfl (Nat.le_of_ble_eq_true rfl) rfl ?_
      refine j_iconst (pc' := 14) q137_13 rfl ?_
      refine j_istore3 (pc' := 15) q137_14 rfl (Nat.le_of_ble_eq_true rfl) rfl ?_
      refine j_forget (V' := [.ref 0, .int a1, .int (0 : Int32), .int (0 : Int32)]) (z_le_s (z_le_s (z_le_s (z_le_s (z_le_nil))))) ?_
      refine j_loopX (S := Int32 × Int32 × zS) (E := Int32 × zS) (fun e => e) 44 (fun s3 => [.ref 0, .int a1, .int s3.1, .int s3.2.1]) (fun s3 => s3.2.2) (fun b3 => [.null, .null, .int b3.1, .null]) (fun b3 => b3.2) (fun b3 => ?_) (fun R3 hR3 hX3 s3 => ?_) ((0 : Int32), (0 : Int32), σ)
      · show z_J _ _ _ _ _ _ _ _ _ _ _ _
        refine j_iload_n (pc' := 45) q137_44 rfl rfl ?_
        exact j_iret q137_45 rfl
      · show z_J _ _ _ _ _ _ _ _ _ _ _ _
        refine j_iload_n (pc' := 16) q137_15 rfl rfl ?_
        refine j_iconst (pc' := 17) q137_16 rfl ?_
        refine j_icmp_ge (pc' := 20) q137_17 rfl (fun c4 => ?_) (fun c4 => ?_)
        · exact j_exit (j_forget (z_le_n (z_le_n (z_le_s (z_le_n (z_le_nil))))) (hX3 (s3.1, s3.2.2)))
        · refine j_aload_n (pc' := 21) q137_20 rfl (by decide) rfl ?_
          refine j_getr (k := 0) (q := 44) (pc' := 24) q137_21 rfl (hρ 0 7 44 rfl) rfl ?_
          refine j_iload_n (pc' := 25) q137_24 rfl rfl ?_
          refine j_iload_n (pc' := 26) q137_25 rfl rfl ?_
          refine j_callV2_i (d := d + 5) (pc' := 29) q137_26 rfl (Nat.le_of_ble_eq_true rfl) (Nat.le_of_ble_eq_true rfl) rfl (t_St_fitting_44 hρ (d + 0) _ _ _) (fun r5 => ?_)
          refine j_join (T := Int32) 38 (fun t6 => [.ref 0, .int a1, .int t6, .int s3.2.1]) (fun t6 => []) (fun t6 => r5.2) (fun t6 => ?_) (fun j6 hj6 => ?_)
          · show z_J _ _ _ _ _ _ _ _ _ _ _ _
            refine j_iinc3 (pc' := 41) q137_38 rfl (Nat.le_of_ble_eq_true rfl) rfl ?_
            refine j_goto q137_41 rfl ?_
            exact j_again (j_forget (z_le_s (z_le_s (z_le_s (z_le_s (z_le_nil))))) (hR3 (t6, (s3.2.1 + (1 : Int32)), r5.2)))
          · show z_J _ _ _ _ _ _ _ _ _ _ _ _
            refine j_if_le (pc' := 32) q137_29 rfl (fun c7 => ?_) (fun c7 => ?_)
            · refine j_forget (z_le_s (z_le_s (z_le_s (z_le_s (z_le_nil))))) (hj6 s3.1)
            · refine j_iload_n (pc' := 33) q137_32 rfl rfl ?_
              refine j_iconst (pc' := 34) q137_33 rfl ?_
              refine j_iload_n (pc' := 35) q137_34 rfl rfl ?_
              refine j_ishl (pc' := 36) q137_35 rfl ?_
              refine j_ior (pc' := 37) q137_36 rfl ?_
              refine j_nameI (fun v8 => ?_)
              refine j_istore2 (pc' := 38) q137_37 rfl (Nat.le_of_ble_eq_true rfl) rfl ?_
              refine j_forget (z_le_s (z_le_s (z_le_s (z_le_s (z_le_nil))))) (hj6 v8)
set_option maxRecDepth 8000 in
theorem q222_0 : z_fi (z_mi 222) 0 = some (0, .iload_n 1, 0, 0, 0, 0, 0) := rfl
set_option maxRecDepth 8000 in
theorem q222_1 : z_fi (z_mi 222) 1 = some (1, .i2l, 0, 0, 0, 0, 0) := rfl
set_option maxRecDepth 8000 in
theorem q222_2 : z_fi (z_mi 222) 2 = some (2, .lconst 1, 0, 0, 0, 0, 1) := rfl
set_option maxRecDepth 8000 in
theorem q222_3 : z_fi (z_mi 222) 3 = some (3, .ldc2_w 277, 0, 0, 0, 0, 5) := rfl
set_option maxRecDepth 8000 in
theorem q222_6 : z_fi (z_mi 222) 6 = some (6, .invokestatic 62, 1, 149, 3, 0, 0) := rfl
set_option maxRecDepth 8000 in
theorem q222_9 : z_fi (z_mi 222) 9 = some (9, .ifCond .ne 5, 0, 14, 0, 0, 0) := rfl
set_option maxRecDepth 8000 in
theorem q222_12 : z_fi (z_mi 222) 12 = some (12, .iconst (-1), 0, 0, 0, (-1), 0) := rfl
set_option maxRecDepth 8000 in
theorem q222_13 : z_fi (z_mi 222) 13 = some (13, .ireturn, 0, 0, 0, 0, 0) := rfl
set_option maxRecDepth 8000 in
theorem q222_14 : z_fi (z_mi 222) 14 = some (14, .iconst 0, 0, 0, 0, 0, 0) := rfl
set_option maxRecDepth 8000 in
theorem q222_15 : z_fi (z_mi 222) 15 = some (15, .istore_n 2, 0, 0, 0, 0, 0) := rfl
set_option maxRecDepth 8000 in
theorem q222_16 : z_fi (z_mi 222) 16 = some (16, .iconst 0, 0, 0, 0, 0, 0) := rfl
set_option maxRecDepth 8000 in
theorem q222_17 : z_fi (z_mi 222) 17 = some (17, .istore_n 3, 0, 0, 0, 0, 0) := rfl
set_option maxRecDepth 8000 in
theorem q222_18 : z_fi (z_mi 222) 18 = some (18, .iload_n 3, 0, 0, 0, 0, 0) := rfl
set_option maxRecDepth 8000 in
theorem q222_19 : z_fi (z_mi 222) 19 = some (19, .iconst 5, 0, 0, 0, 5, 0) := rfl
set_option maxRecDepth 8000 in
theorem q222_20 : z_fi (z_mi 222) 20 = some (20, .if_icmp .ge 48, 0, 68, 0, 0, 0) := rfl
set_option maxRecDepth 8000 in
theorem q222_23 : z_fi (z_mi 222) 23 = some (23, .iconst 0, 0, 0, 0, 0, 0) := rfl
set_option maxRecDepth 8000 in
theorem q222_24 : z_fi (z_mi 222) 24 = some (24, .istore 4, 0, 0, 0, 0, 0) := rfl
set_option maxRecDepth 8000 in
theorem q222_26 : z_fi (z_mi 222) 26 = some (26, .iload 4, 0, 0, 0, 0, 0) := rfl
set_option maxRecDepth 8000 in
theorem q222_28 : z_fi (z_mi 222) 28 = some (28, .iload_n 1, 0, 0, 0, 0, 0) := rfl
set_option maxRecDepth 8000 in
theorem q222_29 : z_fi (z_mi 222) 29 = some (29, .invokestatic 274, 1, 218, 1, 0, 0) := rfl
set_option maxRecDepth 8000 in
theorem q222_32 : z_fi (z_mi 222) 32 = some (32, .if_icmp .ge 30, 0, 62, 0, 0, 0) := rfl
set_option maxRecDepth 8000 in
theorem q222_35 : z_fi (z_mi 222) 35 = some (35, .iload_n 2, 0, 0, 0, 0, 0) := rfl
set_option maxRecDepth 8000 in
theorem q222_36 : z_fi (z_mi 222) 36 = some (36, .aload_n 0, 0, 0, 0, 0, 0) := rfl
set_option maxRecDepth 8000 in
theorem q222_37 : z_fi (z_mi 222) 37 = some (37, .iload_n 3, 0, 0, 0, 0, 0) := rfl
set_option maxRecDepth 8000 in
theorem q222_38 : z_fi (z_mi 222) 38 = some (38, .iload_n 1, 0, 0, 0, 0, 0) := rfl
set_option maxRecDepth 8000 in
theorem q222_39 : z_fi (z_mi 222) 39 = some (39, .iload 4, 0, 0, 0, 0, 0) := rfl
set_option maxRecDepth 8000 in
theorem q222_41 : z_fi (z_mi 222) 41 = some (41, .invokevirtual 279, 0, 219, 3, 0, 0) := rfl
set_option maxRecDepth 8000 in
theorem q222_44 : z_fi (z_mi 222) 44 = some (44, .ifCond .eq 9, 0, 53, 0, 0, 0) := rfl
set_option maxRecDepth 8000 in
theorem q222_47 : z_fi (z_mi 222) 47 = some (47, .iconst 1, 0, 0, 0, 1, 0) := rfl
set_option maxRecDepth 8000 in
theorem q222_48 : z_fi (z_mi 222) 48 = some (48, .iload_n 3, 0, 0, 0, 0, 0) := rfl
set_option maxRecDepth 8000 in
theorem q222_49 : z_fi (z_mi 222) 49 = some (49, .ishl, 0, 0, 0, 0, 0) := rfl
set_option maxRecDepth 8000 in
theorem q222_50 : z_fi (z_mi 222) 50 = some (50, .goto 4, 0, 54, 0, 0, 0) := rfl
set_option maxRecDepth 8000 in
theorem q222_53 : z_fi (z_mi 222) 53 = some (53, .iconst 0, 0, 0, 0, 0, 0) := rfl
set_option maxRecDepth 8000 in
theorem q222_54 : z_fi (z_mi 222) 54 = some (54, .ior, 0, 0, 0, 0, 0) := rfl
set_option maxRecDepth 8000 in
theorem q222_55 : z_fi (z_mi 222) 55 = some (55, .istore_n 2, 0, 0, 0, 0, 0) := rfl
set_option maxRecDepth 8000 in
theorem q222_56 : z_fi (z_mi 222) 56 = some (56, .iinc 4 1, 0, 0, 0, 1, 0) := rfl
set_option maxRecDepth 8000 in
theorem q222_59 : z_fi (z_mi 222) 59 = some (59, .goto (-33), 0, 26, 0, 0, 0) := rfl
set_option maxRecDepth 8000 in
theorem q222_62 : z_fi (z_mi 222) 62 = some (62, .iinc 3 1, 0, 0, 0, 1, 0) := rfl
set_option maxRecDepth 8000 in
theorem q222_65 : z_fi (z_mi 222) 65 = some (65, .goto (-47), 0, 18, 0, 0, 0) := rfl
set_option maxRecDepth 8000 in
theorem q222_68 : z_fi (z_mi 222) 68 = some (68, .iload_n 2, 0, 0, 0, 0, 0) := rfl
set_option maxRecDepth 8000 in
theorem q222_69 : z_fi (z_mi 222) 69 = some (69, .ireturn, 0, 0, 0, 0, 0) := rfl
set_option maxRecDepth 20000 in
set_option maxHeartbeats 4000000 in
theorem t_M_sown {xL : Nat} {xs : Nat → Int32} {ρ : Nat → Nat → Option Nat} (hρ : z_hR ρ) (d : Nat) (a1 : Int32) (σ : zS) : ∀ q, f_M_sown a1 σ = some q → z_ec xL xs ρ (d + 2) 222 [.ref 90, .int a1] σ (em_pi σ q) := by
  refine j_of (W := [.ref 90, .int a1, .null, .null, .null]) (fun L hL => ?_) ?_
  · subst hL; exact z_vl_0 _ 3 rfl
  · unfold f_M_sown
    refine j_iload_n (pc' := 1) q222_0 rfl rfl ?_
    refine j_i2l (pc' := 2) q222_1 rfl ?_
    refine j_lconst (pc' := 3) q222_2 rfl ?_
    refine j_ldc2 (pc' := 6) q222_3 rfl ?_
    refine j_callS3_pi (d := d + 1) (pc' := 9) q222_6 (Or.inl rfl) (Nat.le_of_ble_eq_true rfl) (Nat.le_of_ble_eq_true rfl) rfl (t_M_in hρ (d + 1) _ _ _ _) (fun r1 => ?_)
    refine j_if_ne (pc' := 12) q222_9 rfl (fun c2 => ?_) (fun c2 => ?_)
    · refine j_iconst (pc' := 13) q222_12 rfl ?_
      exact j_piret q222_13 rfl
    · refine j_iconst (pc' := 15) q222_14 rfl ?_
      refine j_istore2 (pc' := 16) q222_15 rfl (Nat.le_of_ble_eq_true rfl) rfl ?_
      refine j_iconst (pc' := 17) q222_16 rfl ?_
      refine j_istore3 (pc' := 18) q222_17 rfl (Nat.le_of_ble_eq_true rfl) rfl ?_
      refine j_forget (V' := [.ref 90, .int a1, .int (0 : Int32), .int (0 : Int32), .null]) (z_le_s (z_le_s (z_le_s (z_le_s (z_le_n (z_le_nil)))))) ?_
      refine j_loopX (S := Int32 × Int32) (E := Int32) (fun e => e) 68 (fun s3 => [.ref 90, .int a1, .int s3.1, .int s3.2, .null]) (fun s3 => σ) (fun b3 => [.null, .null, .int b3, .null, .null]) (fun b3 => σ) (fun b3 => ?_) (fun R3 hR3 hX3 s3 => ?_) ((0 : Int32), (0 : Int32))
      · show z_J _ _ _ _ _ _ _ _ _ _ _ _
        refine j_iload_n (pc' := 69) q222_68 rfl rfl ?_
        exact j_piret q222_69 rfl
      · show z_J _ _ _ _ _ _ _ _ _ _ _ _
        refine j_iload_n (pc' := 19) q222_18 rfl rfl ?_
        refine j_iconst (pc' := 20) q222_19 rfl ?_
        refine j_icmp_ge (pc' := 23) q222_20 rfl (fun c4 => ?_) (fun c4 => ?_)
        · exact j_exit (j_forget (z_le_n (z_le_n (z_le_s (z_le_n (z_le_n (z_le_nil)))))) (hX3 s3.1))
        · refine j_iconst (pc' := 24) q222_23 rfl ?_
          refine j_istore4 (pc' := 26) q222_24 rfl (Nat.le_of_ble_eq_true rfl) rfl ?_
          refine j_forget (V' := [.ref 90, .int a1, .int s3.1, .int s3.2, .int (0 : Int32)]) (z_le_s (z_le_s (z_le_s (z_le_s (z_le_s (z_le_nil)))))) ?_
          refine j_loopX (S := Int32 × Int32) (E := Int32) (fun e => e) 62 (fun s5 => [.ref 90, .int a1, .int s5.1, .int s3.2, .int s5.2]) (fun s5 => σ) (fun b5 => [.ref 90, .int a1, .int b5, .int s3.2, .null]) (fun b5 => σ) (fun b5 => ?_) (fun R5 hR5 hX5 s5 => ?_) (s3.1, (0 : Int32))
          · show z_J _ _ _ _ _ _ _ _ _ _ _ _
            refine j_iinc3 (pc' := 65) q222_62 rfl (Nat.le_of_ble_eq_true rfl) rfl ?_
            refine j_goto q222_65 rfl ?_
            exact j_again (j_forget (z_le_s (z_le_s (z_le_s (z_le_s (z_le_n (z_le_nil)))))) (hR3 (b5, (s3.2 + (1 : Int32)))))
          · show z_J _ _ _ _ _ _ _ _ _ _ _ _
            refine j_iload (pc' := 28) q222_26 rfl rfl ?_
            refine j_iload_n (pc' := 29) q222_28 rfl rfl ?_
            refine j_callS1_pi (d := d + 1) (pc' := 32) q222_29 (Or.inl rfl) (Nat.le_of_ble_eq_true rfl) (Nat.le_of_ble_eq_true rfl) rfl (t_M_power hρ (d + 1) _ _) (fun r6 => ?_)
            refine j_icmp_ge (pc' := 35) q222_32 rfl (fun c7 => ?_) (fun c7 => ?_)
            · exact j_exit (j_forget (z_le_s (z_le_s (z_le_s (z_le_s (z_le_n (z_le_nil)))))) (hX5 s5.1))
            · refine j_iload_n (pc' := 36) q222_35 rfl rfl ?_
              refine j_aload_n (pc' := 37) q222_36 rfl (by decide) rfl ?_
              refine j_iload_n (pc' := 38) q222_37 rfl rfl ?_
              refine j_iload_n (pc' := 39) q222_38 rfl rfl ?_
              refine j_iload (pc' := 41) q222_39 rfl rfl ?_
              refine j_callV3_pi (d := d + 1) (pc' := 44) q222_41 rfl (Nat.le_of_ble_eq_true rfl) (Nat.le_of_ble_eq_true rfl) rfl (t_M_rowFits hρ (d + 0) _ _ _ _) (fun r8 => ?_)
              refine j_join (T := Int32 × Int32) 54 (fun t9 => [.ref 90, .int a1, .null, .int s3.2, .int s5.2]) (fun t9 => [.int t9.1, .int t9.2]) (fun t9 => σ) (fun t9 => ?_) (fun j9 hj9 => ?_)
              · show z_J _ _ _ _ _ _ _ _ _ _ _ _
                refine j_ior (pc' := 55) q222_54 rfl ?_
                refine j_istore2 (pc' := 56) q222_55 rfl (Nat.le_of_ble_eq_true rfl) rfl ?_
                refine j_iinc4 (pc' := 59) q222_56 rfl (Nat.le_of_ble_eq_true rfl) rfl ?_
                refine j_goto q222_59 rfl ?_
                exact j_again (j_forget (z_le_s (z_le_s (z_le_s (z_le_s (z_le_s (z_le_nil)))))) (hR5 ((t9.2 ||| t9.1), (s5.2 + (1 : Int32)))))
              · show z_J _ _ _ _ _ _ _ _ _ _ _ _
                refine j_if_eq (pc' := 47) q222_44 rfl (fun c10 => ?_) (fun c10 => ?_)
                · refine j_iconst (pc' := 54) q222_53 rfl ?_
                  refine j_forget (z_le_s (z_le_s (z_le_n (z_le_s (z_le_s (z_le_nil)))))) (hj9 ((0 : Int32), s5.1))
                · refine j_iconst (pc' := 48) q222_47 rfl ?_
                  refine j_iload_n (pc' := 49) q222_48 rfl rfl ?_
                  refine j_ishl (pc' := 50) q222_49 rfl ?_
                  refine j_goto q222_50 rfl ?_
                  refine j_forget (z_le_s (z_le_s (z_le_n (z_le_s (z_le_s (z_le_nil)))))) (hj9 (((1 : Int32) <<< (s3.2 &&& 31)), s5.1))
theorem q139_0 : z_fi (z_mi 139) 0 = some (0, .iload_n 0, 0, 0, 0, 0, 0) := rfl
theorem q139_1 : z_fi (z_mi 139) 1 = some (1, .ldc_w 276, 0, 0, 0, 1103515245, 0) := rfl
theorem q139_4 : z_fi (z_mi 139) 4 = some (4, .imul, 0, 0, 0, 0, 0) := rfl
theorem q139_5 : z_fi (z_mi 139) 5 = some (5, .sipush 12345, 0, 0, 0, 12345, 0) := rfl
theorem q139_8 : z_fi (z_mi 139) 8 = some (8, .iadd, 0, 0, 0, 0, 0) := rfl
theorem q139_9 : z_fi (z_mi 139) 9 = some (9, .ireturn, 0, 0, 0, 0, 0) := rfl
set_option maxRecDepth 20000 in
set_option maxHeartbeats 4000000 in
theorem t_Y_nextSeed {xL : Nat} {xs : Nat → Int32} {ρ : Nat → Nat → Option Nat} (hρ : z_hR ρ) (d : Nat) (a0 : Int32) (σ : zS) : ∀ q, f_Y_nextSeed a0 σ = some q → z_ec xL xs ρ (d + 0) 139 [.int a0] σ (em_pi σ q) := by
  refine j_of (W := [.int a0]) (fun L hL => ?_) ?_
  · subst hL; exact z_vl_0 _ 0 rfl
  · unfold f_Y_nextSeed
    refine j_iload_n (pc' := 1) q139_0 rfl rfl ?_
    refine j_ldcw (pc' := 4) q139_1 rfl ?_
    refine j_imul (pc' := 5) q139_4 rfl ?_
    refine j_sipush (pc' := 8) q139_5 rfl ?_
    refine j_iadd (pc' := 9) q139_8 rfl ?_
    exact j_piret q139_9 rfl
theorem q140_0 : z_fi (z_mi 140) 0 = some (0, .iload_n 0, 0, 0, 0, 0, 0) := rfl
theorem q140_1 : z_fi (z_mi 140) 1 = some (1, .bipush 16, 0, 0, 0, 16, 0) := rfl
theorem q140_3 : z_fi (z_mi 140) 3 = some (3, .iushr, 0, 0, 0, 0, 0) := rfl
theorem q140_4 : z_fi (z_mi 140) 4 = some (4, .sipush 32767, 0, 0, 0, 32767, 0) := rfl
theorem q140_7 : z_fi (z_mi 140) 7 = some (7, .iand, 0, 0, 0, 0, 0) := rfl
theorem q140_8 : z_fi (z_mi 140) 8 = some (8, .ireturn, 0, 0, 0, 0, 0) := rfl
set_option maxRecDepth 20000 in
set_option maxHeartbeats 4000000 in
theorem t_Y_bitsOf {xL : Nat} {xs : Nat → Int32} {ρ : Nat → Nat → Option Nat} (hρ : z_hR ρ) (d : Nat) (a0 : Int32) (σ : zS) : ∀ q, f_Y_bitsOf a0 σ = some q → z_ec xL xs ρ (d + 0) 140 [.int a0] σ (em_pi σ q) := by
  refine j_of (W := [.int a0]) (fun L hL => ?_) ?_
  · subst hL; exact z_vl_0 _ 0 rfl
  · unfold f_Y_bitsOf
    refine j_iload_n (pc' := 1) q140_0 rfl rfl ?_
    refine j_bipush (pc' := 3) q140_1 rfl ?_
    refine j_iushr (pc' := 4) q140_3 rfl ?_
    refine j_sipush (pc' := 7) q140_4 rfl ?_
    refine j_iand (pc' := 8) q140_7 rfl ?_
    exact j_piret q140_8 rfl
theorem q138_0 : z_fi (z_mi 138) 0 = some (0, .iload_n 2, 0, 0, 0, 0, 0) := rfl
theorem q138_1 : z_fi (z_mi 138) 1 = some (1, .iconst 1, 0, 0, 0, 1, 0) := rfl
theorem q138_2 : z_fi (z_mi 138) 2 = some (2, .bipush 60, 0, 0, 0, 60, 0) := rfl
theorem q138_4 : z_fi (z_mi 138) 4 = some (4, .invokestatic 60, 1, 99, 3, 0, 0) := rfl
theorem q138_7 : z_fi (z_mi 138) 7 = some (7, .ifCond .eq 12, 0, 19, 0, 0, 0) := rfl
theorem q138_10 : z_fi (z_mi 138) 10 = some (10, .iload_n 3, 0, 0, 0, 0, 0) := rfl
theorem q138_11 : z_fi (z_mi 138) 11 = some (11, .iconst 0, 0, 0, 0, 0, 0) := rfl
theorem q138_12 : z_fi (z_mi 138) 12 = some (12, .iconst 1, 0, 0, 0, 1, 0) := rfl
theorem q138_13 : z_fi (z_mi 138) 13 = some (13, .invokestatic 60, 1, 99, 3, 0, 0) := rfl
theorem q138_16 : z_fi (z_mi 138) 16 = some (16, .ifCond .ne 5, 0, 21, 0, 0, 0) := rfl
theorem q138_19 : z_fi (z_mi 138) 19 = some (19, .iconst (-1), 0, 0, 0, (-1), 0) := rfl
theorem q138_20 : z_fi (z_mi 138) 20 = some (20, .ireturn, 0, 0, 0, 0, 0) := rfl
theorem q138_21 : z_fi (z_mi 138) 21 = some (21, .aload_n 0, 0, 0, 0, 0, 0) := rfl
theorem q138_22 : z_fi (z_mi 138) 22 = some (22, .getfield 16, 0, 9, 1, 0, 0) := rfl
theorem q138_25 : z_fi (z_mi 138) 25 = some (25, .aload_n 0, 0, 0, 0, 0, 0) := rfl
theorem q138_26 : z_fi (z_mi 138) 26 = some (26, .getfield 10, 0, 9, 0, 0, 0) := rfl
theorem q138_29 : z_fi (z_mi 138) 29 = some (29, .invokevirtual 85, 0, 6, 1, 0, 0) := rfl
theorem q138_32 : z_fi (z_mi 138) 32 = some (32, .aload_n 0, 0, 0, 0, 0, 0) := rfl
theorem q138_33 : z_fi (z_mi 138) 33 = some (33, .getfield 16, 0, 9, 1, 0, 0) := rfl
theorem q138_36 : z_fi (z_mi 138) 36 = some (36, .invokevirtual 227, 0, 7, 0, 0, 0) := rfl
theorem q138_39 : z_fi (z_mi 138) 39 = some (39, .istore 4, 0, 0, 0, 0, 0) := rfl
theorem q138_41 : z_fi (z_mi 138) 41 = some (41, .iload_n 1, 0, 0, 0, 0, 0) := rfl
theorem q138_42 : z_fi (z_mi 138) 42 = some (42, .istore 5, 0, 0, 0, 0, 0) := rfl
theorem q138_44 : z_fi (z_mi 138) 44 = some (44, .iconst 0, 0, 0, 0, 0, 0) := rfl
theorem q138_45 : z_fi (z_mi 138) 45 = some (45, .istore 6, 0, 0, 0, 0, 0) := rfl
theorem q138_47 : z_fi (z_mi 138) 47 = some (47, .iload 6, 0, 0, 0, 0, 0) := rfl
theorem q138_49 : z_fi (z_mi 138) 49 = some (49, .iload_n 2, 0, 0, 0, 0, 0) := rfl
theorem q138_50 : z_fi (z_mi 138) 50 = some (50, .if_icmp .ge 63, 0, 113, 0, 0, 0) := rfl
theorem q138_53 : z_fi (z_mi 138) 53 = some (53, .iload 4, 0, 0, 0, 0, 0) := rfl
theorem q138_55 : z_fi (z_mi 138) 55 = some (55, .ifCond .le 58, 0, 113, 0, 0, 0) := rfl
theorem q138_58 : z_fi (z_mi 138) 58 = some (58, .iload 5, 0, 0, 0, 0, 0) := rfl
theorem q138_60 : z_fi (z_mi 138) 60 = some (60, .invokestatic 270, 1, 139, 1, 0, 0) := rfl
theorem q138_63 : z_fi (z_mi 138) 63 = some (63, .istore 5, 0, 0, 0, 0, 0) := rfl
theorem q138_65 : z_fi (z_mi 138) 65 = some (65, .iload 5, 0, 0, 0, 0, 0) := rfl
theorem q138_67 : z_fi (z_mi 138) 67 = some (67, .invokestatic 273, 1, 140, 1, 0, 0) := rfl
theorem q138_70 : z_fi (z_mi 138) 70 = some (70, .iload 4, 0, 0, 0, 0, 0) := rfl
theorem q138_72 : z_fi (z_mi 138) 72 = some (72, .irem, 0, 0, 0, 0, 0) := rfl
theorem q138_73 : z_fi (z_mi 138) 73 = some (73, .istore 7, 0, 0, 0, 0, 0) := rfl
theorem q138_75 : z_fi (z_mi 138) 75 = some (75, .iload 5, 0, 0, 0, 0, 0) := rfl
theorem q138_77 : z_fi (z_mi 138) 77 = some (77, .invokestatic 270, 1, 139, 1, 0, 0) := rfl
theorem q138_80 : z_fi (z_mi 138) 80 = some (80, .istore 5, 0, 0, 0, 0, 0) := rfl
theorem q138_82 : z_fi (z_mi 138) 82 = some (82, .aload_n 0, 0, 0, 0, 0, 0) := rfl
theorem q138_83 : z_fi (z_mi 138) 83 = some (83, .getfield 16, 0, 9, 1, 0, 0) := rfl
theorem q138_86 : z_fi (z_mi 138) 86 = some (86, .iload 7, 0, 0, 0, 0, 0) := rfl
theorem q138_88 : z_fi (z_mi 138) 88 = some (88, .iload 5, 0, 0, 0, 0, 0) := rfl
theorem q138_90 : z_fi (z_mi 138) 90 = some (90, .invokestatic 273, 1, 140, 1, 0, 0) := rfl
theorem q138_93 : z_fi (z_mi 138) 93 = some (93, .iconst 4, 0, 0, 0, 4, 0) := rfl
theorem q138_94 : z_fi (z_mi 138) 94 = some (94, .irem, 0, 0, 0, 0, 0) := rfl
theorem q138_95 : z_fi (z_mi 138) 95 = some (95, .iconst 2, 0, 0, 0, 2, 0) := rfl
theorem q138_96 : z_fi (z_mi 138) 96 = some (96, .invokevirtual 230, 0, 14, 3, 0, 0) := rfl
theorem q138_99 : z_fi (z_mi 138) 99 = some (99, .aload_n 0, 0, 0, 0, 0, 0) := rfl
theorem q138_100 : z_fi (z_mi 138) 100 = some (100, .getfield 16, 0, 9, 1, 0, 0) := rfl
theorem q138_103 : z_fi (z_mi 138) 103 = some (103, .iconst 1, 0, 0, 0, 1, 0) := rfl
theorem q138_104 : z_fi (z_mi 138) 104 = some (104, .invokevirtual 196, 0, 19, 1, 0, 0) := rfl
theorem q138_107 : z_fi (z_mi 138) 107 = some (107, .iinc 6 1, 0, 0, 0, 1, 0) := rfl
theorem q138_110 : z_fi (z_mi 138) 110 = some (110, .goto (-63), 0, 47, 0, 0, 0) := rfl
theorem q138_113 : z_fi (z_mi 138) 113 = some (113, .iload_n 3, 0, 0, 0, 0, 0) := rfl
theorem q138_114 : z_fi (z_mi 138) 114 = some (114, .ifCond .ne 10, 0, 124, 0, 0, 0) := rfl
theorem q138_117 : z_fi (z_mi 138) 117 = some (117, .aload_n 0, 0, 0, 0, 0, 0) := rfl
theorem q138_118 : z_fi (z_mi 138) 118 = some (118, .invokevirtual 202, 0, 126, 0, 0, 0) := rfl
theorem q138_121 : z_fi (z_mi 138) 121 = some (121, .goto 7, 0, 128, 0, 0, 0) := rfl
set_option maxRecDepth 8000 in
theorem q138_124 : z_fi (z_mi 138) 124 = some (124, .aload_n 0, 0, 0, 0, 0, 0) := rfl
set_option maxRecDepth 8000 in
theorem q138_125 : z_fi (z_mi 138) 125 = some (125, .invokevirtual 205, 0, 127, 0, 0, 0) := rfl
set_option maxRecDepth 8000 in
theorem q138_128 : z_fi (z_mi 138) 128 = some (128, .ireturn, 0, 0, 0, 0, 0) := rfl
set_option maxRecDepth 20000 in
set_option maxHeartbeats 4000000 in
theorem t_Y_drift {xL : Nat} {xs : Nat → Int32} {ρ : Nat → Nat → Option Nat} (hρ : z_hR ρ) (d : Nat) (a1 : Int32) (a2 : Int32) (a3 : Int32) (σ : zS) : ∀ q, f_Y_drift a1 a2 a3 σ = some q → z_ec xL xs ρ (d + 7) 138 [.ref 0, .int a1, .int a2, .int a3] σ (em_i q) := by
  refine j_of (W := [.ref 0, .int a1, .int a2, .int a3, .null, .null, .null, .null]) (fun L hL => ?_) ?_
  · subst hL; exact z_vl_0 _ 4 rfl
  · unfold f_Y_drift
    refine j_iload_n (pc' := 1) q138_0 rfl rfl ?_
    refine j_iconst (pc' := 2) q138_1 rfl ?_
    refine j_bipush (pc' := 4) q138_2 rfl ?_
    refine j_callS3_pi (d := d + 6) (pc' := 7) q138_4 (Or.inl rfl) (Nat.le_of_ble_eq_true rfl) (Nat.le_of_ble_eq_true rfl) rfl (t_Y_isIn hρ (d + 6) _ _ _ _) (fun r1 => ?_)
    refine j_if_eq (pc' := 10) q138_7 rfl (fun c2 => ?_) (fun c2 => ?_)
    · refine j_iconst (pc' := 20) q138_19 rfl ?_
      exact j_iret q138_20 rfl
    · refine j_iload_n (pc' := 11) q138_10 rfl rfl ?_
      refine j_iconst (pc' := 12) q138_11 rfl ?_
      refine j_iconst (pc' := 13) q138_12 rfl ?_
      refine j_callS3_pi (d := d + 6) (pc' := 16) q138_13 (Or.inl rfl) (Nat.le_of_ble_eq_true rfl) (Nat.le_of_ble_eq_true rfl) rfl (t_Y_isIn hρ (d + 6) _ _ _ _) (fun r3 => ?_)
      refine j_if_ne (pc' := 19) q138_16 rfl (fun c4 => ?_) (fun c4 => ?_)
      · refine j_iconst (pc' := 20) q138_19 rfl ?_
        exact j_iret q138_20 rfl
      · refine j_aload_n (pc' := 22) q138_21 rfl (by decide) rfl ?_
        refine j_getr (k := 0) (q := 17) (pc' := 25) q138_22 rfl (hρ 0 1 17 rfl) rfl ?_
        refine j_aload_n (pc' := 26) q138_25 rfl (by decide) rfl ?_
        refine j_getr (k := 0) (q := 1) (pc' := 29) q138_26 rfl (hρ 0 0 1 rfl) rfl ?_
        refine j_callV1_v (d := d + 6) (pc' := 32) q138_29 rfl (Nat.le_of_ble_eq_true rfl) (Nat.le_of_ble_eq_true rfl) rfl (t_G_copyFrom_17_1 hρ (d + 5) _) (fun r5 => ?_)
        refine j_aload_n (pc' := 33) q138_32 rfl (by decide) rfl ?_
        refine j_getr (k := 0) (q := 17) (pc' := 36) q138_33 rfl (hρ 0 1 17 rfl) rfl ?_
        refine j_callV0_pi (d := d + 6) (pc' := 39) q138_36 rfl (Nat.le_of_ble_eq_true rfl) (Nat.le_of_ble_eq_true rfl) rfl (t_G_cells_17 hρ (d + 6) _) (fun r6 => ?_)
        refine j_istore4 (pc' := 41) q138_39 rfl (Nat.le_of_ble_eq_true rfl) rfl ?_
        refine j_iload_n (pc' := 42) q138_41 rfl rfl ?_
        refine j_istore5 (pc' := 44) q138_42 rfl (Nat.le_of_ble_eq_true rfl) rfl ?_
        refine j_iconst (pc' := 45) q138_44 rfl ?_
        refine j_istore6 (pc' := 47) q138_45 rfl (Nat.le_of_ble_eq_true rfl) rfl ?_
        refine j_forget (V' := [.ref 0, .null, .int a2, .int a3, .int r6, .int a1, .int (0 : Int32), .null]) (z_le_s (z_le_n (z_le_s (z_le_s (z_le_s (z_le_s (z_le_s (z_le_n (z_le_nil))))))))) ?_
        refine j_loopX (S := Int32 × Int32 × zS) (E := zS) (fun e => e) 113 (fun s7 => [.ref 0, .null, .int a2, .int a3, .int r6, .int s7.1, .int s7.2.1, .null]) (fun s7 => s7.2.2) (fun b7 => [.ref 0, .null, .null, .int a3, .null, .null, .null, .null]) (fun b7 => b7) (fun b7 => ?_) (fun R7 hR7 hX7 s7 => ?_) (a1, (0 : Int32), r5)
        · show z_J _ _ _ _ _ _ _ _ _ _ _ _
          refine j_iload_n (pc' := 114) q138_113 rfl rfl ?_
          refine j_if_ne (pc' := 117) q138_114 rfl (fun c17 => ?_) (fun c17 => ?_)
          · refine j_aload_n (pc' := 118) q138_117 rfl (by decide) rfl ?_
            refine j_callV0_pi (d := d + 6) (pc' := 121) q138_118 rfl (Nat.le_of_ble_eq_true rfl) (Nat.le_of_ble_eq_true rfl) rfl (t_Y_ripeInTrial hρ (d + 5) _) (fun r18 => ?_)
            refine j_goto q138_121 rfl ?_
            exact j_iret q138_128 rfl
          · refine j_aload_n (pc' := 125) q138_124 rfl (by decide) rfl ?_
            refine j_callV0_pi (d := d + 6) (pc' := 128) q138_125 rfl (Nat.le_of_ble_eq_true rfl) (Nat.le_of_ble_eq_true rfl) rfl (t_Y_spoiledInTrial hρ (d + 6) _) (fun r19 => ?_)
            exact j_iret q138_128 rfl
        · show z_J _ _ _ _ _ _ _ _ _ _ _ _
          refine j_iload (pc' := 49) q138_47 rfl rfl ?_
          refine j_iload_n (pc' := 50) q138_49 rfl rfl ?_
          refine j_icmp_ge (pc' := 53) q138_50 rfl (fun c8 => ?_) (fun c8 => ?_)
          · exact j_exit (j_forget (z_le_s (z_le_n (z_le_n (z_le_s (z_le_n (z_le_n (z_le_n (z_le_n (z_le_nil))))))))) (hX7 s7.2.2))
          · refine j_iload (pc' := 55) q138_53 rfl rfl ?_
            refine j_if_le (pc' := 58) q138_55 rfl (fun c9 => ?_) (fun c9 => ?_)
            · exact j_exit (j_forget (z_le_s (z_le_n (z_le_n (z_le_s (z_le_n (z_le_n (z_le_n (z_le_n (z_le_nil))))))))) (hX7 s7.2.2))
            · refine j_iload (pc' := 60) q138_58 rfl rfl ?_
              refine j_callS1_pi (d := d + 6) (pc' := 63) q138_60 (Or.inl rfl) (Nat.le_of_ble_eq_true rfl) (Nat.le_of_ble_eq_true rfl) rfl (t_Y_nextSeed hρ (d + 6) _ _) (fun r10 => ?_)
              refine j_istore5 (pc' := 65) q138_63 rfl (Nat.le_of_ble_eq_true rfl) rfl ?_
              refine j_iload (pc' := 67) q138_65 rfl rfl ?_
              refine j_callS1_pi (d := d + 6) (pc' := 70) q138_67 (Or.inl rfl) (Nat.le_of_ble_eq_true rfl) (Nat.le_of_ble_eq_true rfl) rfl (t_Y_bitsOf hρ (d + 6) _ _) (fun r11 => ?_)
              refine j_iload (pc' := 72) q138_70 rfl rfl ?_
              refine j_if (fun _ => j_none) (fun hz12 => ?_)
              refine j_irem (pc' := 73) q138_72 hz12 rfl ?_
              refine j_istore7 (pc' := 75) q138_73 rfl (Nat.le_of_ble_eq_true rfl) rfl ?_
              refine j_iload (pc' := 77) q138_75 rfl rfl ?_
              refine j_callS1_pi (d := d + 6) (pc' := 80) q138_77 (Or.inl rfl) (Nat.le_of_ble_eq_true rfl) (Nat.le_of_ble_eq_true rfl) rfl (t_Y_nextSeed hρ (d + 6) _ _) (fun r13 => ?_)
              refine j_istore5 (pc' := 82) q138_80 rfl (Nat.le_of_ble_eq_true rfl) rfl ?_
              refine j_aload_n (pc' := 83) q138_82 rfl (by decide) rfl ?_
              refine j_getr (k := 0) (q := 17) (pc' := 86) q138_83 rfl (hρ 0 1 17 rfl) rfl ?_
              refine j_iload (pc' := 88) q138_86 rfl rfl ?_
              refine j_iload (pc' := 90) q138_88 rfl rfl ?_
              refine j_callS1_pi (d := d + 6) (pc' := 93) q138_90 (Or.inl rfl) (Nat.le_of_ble_eq_true rfl) (Nat.le_of_ble_eq_true rfl) rfl (t_Y_bitsOf hρ (d + 6) _ _) (fun r14 => ?_)
              refine j_iconst (pc' := 94) q138_93 rfl ?_
              refine j_irem (pc' := 95) q138_94 (by decide) rfl ?_
              refine j_iconst (pc' := 96) q138_95 rfl ?_
              refine j_callV3_v (d := d + 6) (pc' := 99) q138_96 rfl (Nat.le_of_ble_eq_true rfl) (Nat.le_of_ble_eq_true rfl) rfl (t_G_set_17 hρ (d + 5) _ _ _ _) (fun r15 => ?_)
              refine j_aload_n (pc' := 100) q138_99 rfl (by decide) rfl ?_
              refine j_getr (k := 0) (q := 17) (pc' := 103) q138_100 rfl (hρ 0 1 17 rfl) rfl ?_
              refine j_iconst (pc' := 104) q138_103 rfl ?_
              refine j_callV1_v (d := d + 6) (pc' := 107) q138_104 rfl (Nat.le_of_ble_eq_true rfl) (Nat.le_of_ble_eq_true rfl) rfl (t_G_goOn_17 hρ (d + 0) _ _) (fun r16 => ?_)
              refine j_iinc6 (pc' := 110) q138_107 rfl (Nat.le_of_ble_eq_true rfl) rfl ?_
              refine j_goto q138_110 rfl ?_
              exact j_again (j_forget (z_le_s (z_le_n (z_le_s (z_le_s (z_le_s (z_le_s (z_le_s (z_le_n (z_le_nil))))))))) (hR7 (r13, (s7.2.1 + (1 : Int32)), r16)))
set_option maxRecDepth 8000 in
theorem q223_0 : z_fi (z_mi 223) 0 = some (0, .iload_n 2, 0, 0, 0, 0, 0) := rfl
set_option maxRecDepth 8000 in
theorem q223_1 : z_fi (z_mi 223) 1 = some (1, .i2l, 0, 0, 0, 0, 0) := rfl
set_option maxRecDepth 8000 in
theorem q223_2 : z_fi (z_mi 223) 2 = some (2, .lconst 1, 0, 0, 0, 0, 1) := rfl
set_option maxRecDepth 8000 in
theorem q223_3 : z_fi (z_mi 223) 3 = some (3, .ldc2_w 219, 0, 0, 0, 0, 60) := rfl
set_option maxRecDepth 8000 in
theorem q223_6 : z_fi (z_mi 223) 6 = some (6, .invokestatic 62, 1, 149, 3, 0, 0) := rfl
set_option maxRecDepth 8000 in
theorem q223_9 : z_fi (z_mi 223) 9 = some (9, .ifCond .eq 13, 0, 22, 0, 0, 0) := rfl
set_option maxRecDepth 8000 in
theorem q223_12 : z_fi (z_mi 223) 12 = some (12, .iload_n 3, 0, 0, 0, 0, 0) := rfl
set_option maxRecDepth 8000 in
theorem q223_13 : z_fi (z_mi 223) 13 = some (13, .i2l, 0, 0, 0, 0, 0) := rfl
set_option maxRecDepth 8000 in
theorem q223_14 : z_fi (z_mi 223) 14 = some (14, .lconst 0, 0, 0, 0, 0, 0) := rfl
set_option maxRecDepth 8000 in
theorem q223_15 : z_fi (z_mi 223) 15 = some (15, .lconst 1, 0, 0, 0, 0, 1) := rfl
set_option maxRecDepth 8000 in
theorem q223_16 : z_fi (z_mi 223) 16 = some (16, .invokestatic 62, 1, 149, 3, 0, 0) := rfl
set_option maxRecDepth 8000 in
theorem q223_19 : z_fi (z_mi 223) 19 = some (19, .ifCond .ne 5, 0, 24, 0, 0, 0) := rfl
set_option maxRecDepth 8000 in
theorem q223_22 : z_fi (z_mi 223) 22 = some (22, .iconst (-1), 0, 0, 0, (-1), 0) := rfl
set_option maxRecDepth 8000 in
theorem q223_23 : z_fi (z_mi 223) 23 = some (23, .ireturn, 0, 0, 0, 0, 0) := rfl
set_option maxRecDepth 8000 in
theorem q223_24 : z_fi (z_mi 223) 24 = some (24, .aload_n 0, 0, 0, 0, 0, 0) := rfl
set_option maxRecDepth 8000 in
theorem q223_25 : z_fi (z_mi 223) 25 = some (25, .iconst 0, 0, 0, 0, 0, 0) := rfl
set_option maxRecDepth 8000 in
theorem q223_26 : z_fi (z_mi 223) 26 = some (26, .sipush 440, 0, 0, 0, 440, 0) := rfl
set_option maxRecDepth 8000 in
theorem q223_29 : z_fi (z_mi 223) 29 = some (29, .invokevirtual 227, 0, 195, 2, 0, 0) := rfl
set_option maxRecDepth 8000 in
theorem q223_32 : z_fi (z_mi 223) 32 = some (32, .iload_n 1, 0, 0, 0, 0, 0) := rfl
set_option maxRecDepth 8000 in
theorem q223_33 : z_fi (z_mi 223) 33 = some (33, .istore 4, 0, 0, 0, 0, 0) := rfl
set_option maxRecDepth 8000 in
theorem q223_35 : z_fi (z_mi 223) 35 = some (35, .iconst 0, 0, 0, 0, 0, 0) := rfl
set_option maxRecDepth 8000 in
theorem q223_36 : z_fi (z_mi 223) 36 = some (36, .istore 5, 0, 0, 0, 0, 0) := rfl
set_option maxRecDepth 8000 in
theorem q223_38 : z_fi (z_mi 223) 38 = some (38, .iload 5, 0, 0, 0, 0, 0) := rfl
set_option maxRecDepth 8000 in
theorem q223_40 : z_fi (z_mi 223) 40 = some (40, .iload_n 2, 0, 0, 0, 0, 0) := rfl
set_option maxRecDepth 8000 in
theorem q223_41 : z_fi (z_mi 223) 41 = some (41, .if_icmp .ge 83, 0, 124, 0, 0, 0) := rfl
set_option maxRecDepth 8000 in
theorem q223_44 : z_fi (z_mi 223) 44 = some (44, .iload 4, 0, 0, 0, 0, 0) := rfl
set_option maxRecDepth 8000 in
theorem q223_46 : z_fi (z_mi 223) 46 = some (46, .ldc_w 282, 0, 0, 0, 1103515245, 0) := rfl
set_option maxRecDepth 8000 in
theorem q223_49 : z_fi (z_mi 223) 49 = some (49, .imul, 0, 0, 0, 0, 0) := rfl
set_option maxRecDepth 8000 in
theorem q223_50 : z_fi (z_mi 223) 50 = some (50, .sipush 12345, 0, 0, 0, 12345, 0) := rfl
set_option maxRecDepth 8000 in
theorem q223_53 : z_fi (z_mi 223) 53 = some (53, .iadd, 0, 0, 0, 0, 0) := rfl
set_option maxRecDepth 8000 in
theorem q223_54 : z_fi (z_mi 223) 54 = some (54, .istore 4, 0, 0, 0, 0, 0) := rfl
set_option maxRecDepth 8000 in
theorem q223_56 : z_fi (z_mi 223) 56 = some (56, .iload 4, 0, 0, 0, 0, 0) := rfl
set_option maxRecDepth 8000 in
theorem q223_58 : z_fi (z_mi 223) 58 = some (58, .bipush 16, 0, 0, 0, 16, 0) := rfl
set_option maxRecDepth 8000 in
theorem q223_60 : z_fi (z_mi 223) 60 = some (60, .ishr, 0, 0, 0, 0, 0) := rfl
set_option maxRecDepth 8000 in
theorem q223_61 : z_fi (z_mi 223) 61 = some (61, .sipush 32767, 0, 0, 0, 32767, 0) := rfl
set_option maxRecDepth 8000 in
theorem q223_64 : z_fi (z_mi 223) 64 = some (64, .iand, 0, 0, 0, 0, 0) := rfl
set_option maxRecDepth 8000 in
theorem q223_65 : z_fi (z_mi 223) 65 = some (65, .aload_n 0, 0, 0, 0, 0, 0) := rfl
set_option maxRecDepth 8000 in
theorem q223_66 : z_fi (z_mi 223) 66 = some (66, .getfield 13, 0, 10, 1, 0, 0) := rfl
set_option maxRecDepth 8000 in
theorem q223_69 : z_fi (z_mi 223) 69 = some (69, .aload_n 0, 0, 0, 0, 0, 0) := rfl
set_option maxRecDepth 8000 in
theorem q223_70 : z_fi (z_mi 223) 70 = some (70, .getfield 17, 0, 10, 2, 0, 0) := rfl
set_option maxRecDepth 8000 in
theorem q223_73 : z_fi (z_mi 223) 73 = some (73, .imul, 0, 0, 0, 0, 0) := rfl
set_option maxRecDepth 8000 in
theorem q223_74 : z_fi (z_mi 223) 74 = some (74, .irem, 0, 0, 0, 0, 0) := rfl
set_option maxRecDepth 8000 in
theorem q223_75 : z_fi (z_mi 223) 75 = some (75, .istore 6, 0, 0, 0, 0, 0) := rfl
set_option maxRecDepth 8000 in
theorem q223_77 : z_fi (z_mi 223) 77 = some (77, .iload 4, 0, 0, 0, 0, 0) := rfl
set_option maxRecDepth 8000 in
theorem q223_79 : z_fi (z_mi 223) 79 = some (79, .ldc_w 282, 0, 0, 0, 1103515245, 0) := rfl
set_option maxRecDepth 8000 in
theorem q223_82 : z_fi (z_mi 223) 82 = some (82, .imul, 0, 0, 0, 0, 0) := rfl
set_option maxRecDepth 8000 in
theorem q223_83 : z_fi (z_mi 223) 83 = some (83, .sipush 12345, 0, 0, 0, 12345, 0) := rfl
set_option maxRecDepth 8000 in
theorem q223_86 : z_fi (z_mi 223) 86 = some (86, .iadd, 0, 0, 0, 0, 0) := rfl
set_option maxRecDepth 8000 in
theorem q223_87 : z_fi (z_mi 223) 87 = some (87, .istore 4, 0, 0, 0, 0, 0) := rfl
set_option maxRecDepth 8000 in
theorem q223_89 : z_fi (z_mi 223) 89 = some (89, .aload_n 0, 0, 0, 0, 0, 0) := rfl
set_option maxRecDepth 8000 in
theorem q223_90 : z_fi (z_mi 223) 90 = some (90, .sipush 440, 0, 0, 0, 440, 0) := rfl
set_option maxRecDepth 8000 in
theorem q223_93 : z_fi (z_mi 223) 93 = some (93, .iload 6, 0, 0, 0, 0, 0) := rfl
set_option maxRecDepth 8000 in
theorem q223_95 : z_fi (z_mi 223) 95 = some (95, .iload 4, 0, 0, 0, 0, 0) := rfl
set_option maxRecDepth 8000 in
theorem q223_97 : z_fi (z_mi 223) 97 = some (97, .bipush 16, 0, 0, 0, 16, 0) := rfl
set_option maxRecDepth 8000 in
theorem q223_99 : z_fi (z_mi 223) 99 = some (99, .ishr, 0, 0, 0, 0, 0) := rfl
set_option maxRecDepth 8000 in
theorem q223_100 : z_fi (z_mi 223) 100 = some (100, .sipush 32767, 0, 0, 0, 32767, 0) := rfl
set_option maxRecDepth 8000 in
theorem q223_103 : z_fi (z_mi 223) 103 = some (103, .iand, 0, 0, 0, 0, 0) := rfl
set_option maxRecDepth 8000 in
theorem q223_104 : z_fi (z_mi 223) 104 = some (104, .iconst 4, 0, 0, 0, 4, 0) := rfl
set_option maxRecDepth 8000 in
theorem q223_105 : z_fi (z_mi 223) 105 = some (105, .irem, 0, 0, 0, 0, 0) := rfl
set_option maxRecDepth 8000 in
theorem q223_106 : z_fi (z_mi 223) 106 = some (106, .iconst 2, 0, 0, 0, 2, 0) := rfl
set_option maxRecDepth 8000 in
theorem q223_107 : z_fi (z_mi 223) 107 = some (107, .invokevirtual 187, 0, 178, 4, 0, 0) := rfl
set_option maxRecDepth 8000 in
theorem q223_110 : z_fi (z_mi 223) 110 = some (110, .aload_n 0, 0, 0, 0, 0, 0) := rfl
set_option maxRecDepth 8000 in
theorem q223_111 : z_fi (z_mi 223) 111 = some (111, .sipush 440, 0, 0, 0, 440, 0) := rfl
set_option maxRecDepth 8000 in
theorem q223_114 : z_fi (z_mi 223) 114 = some (114, .iconst 1, 0, 0, 0, 1, 0) := rfl
set_option maxRecDepth 8000 in
theorem q223_115 : z_fi (z_mi 223) 115 = some (115, .invokevirtual 224, 0, 194, 2, 0, 0) := rfl
set_option maxRecDepth 8000 in
theorem q223_118 : z_fi (z_mi 223) 118 = some (118, .iinc 5 1, 0, 0, 0, 1, 0) := rfl
set_option maxRecDepth 8000 in
theorem q223_121 : z_fi (z_mi 223) 121 = some (121, .goto (-83), 0, 38, 0, 0, 0) := rfl
set_option maxRecDepth 8000 in
theorem q223_124 : z_fi (z_mi 223) 124 = some (124, .aload_n 0, 0, 0, 0, 0, 0) := rfl
set_option maxRecDepth 8000 in
theorem q223_125 : z_fi (z_mi 223) 125 = some (125, .iconst 0, 0, 0, 0, 0, 0) := rfl
set_option maxRecDepth 8000 in
theorem q223_126 : z_fi (z_mi 223) 126 = some (126, .iload_n 3, 0, 0, 0, 0, 0) := rfl
set_option maxRecDepth 8000 in
theorem q223_127 : z_fi (z_mi 223) 127 = some (127, .invokevirtual 230, 0, 200, 2, 0, 0) := rfl
set_option maxRecDepth 8000 in
theorem q223_130 : z_fi (z_mi 223) 130 = some (130, .ireturn, 0, 0, 0, 0, 0) := rfl
set_option maxRecDepth 20000 in
set_option maxHeartbeats 4000000 in
theorem t_M_drift {xL : Nat} {xs : Nat → Int32} {ρ : Nat → Nat → Option Nat} (hρ : z_hR ρ) (d : Nat) (a1 : Int32) (a2 : Int32) (a3 : Int32) (σ : zS) : ∀ q, f_M_drift a1 a2 a3 σ = some q → z_ec xL xs ρ (d + 5) 223 [.ref 90, .int a1, .int a2, .int a3] σ (em_i q) := by
  refine j_of (W := [.ref 90, .int a1, .int a2, .int a3, .null, .null, .null]) (fun L hL => ?_) ?_
  · subst hL; exact z_vl_0 _ 3 rfl
  · unfold f_M_drift
    refine j_iload_n (pc' := 1) q223_0 rfl rfl ?_
    refine j_i2l (pc' := 2) q223_1 rfl ?_
    refine j_lconst (pc' := 3) q223_2 rfl ?_
    refine j_ldc2 (pc' := 6) q223_3 rfl ?_
    refine j_callS3_pi (d := d + 4) (pc' := 9) q223_6 (Or.inl rfl) (Nat.le_of_ble_eq_true rfl) (Nat.le_of_ble_eq_true rfl) rfl (t_M_in hρ (d + 4) _ _ _ _) (fun r1 => ?_)
    refine j_if_eq (pc' := 12) q223_9 rfl (fun c2 => ?_) (fun c2 => ?_)
    · refine j_iconst (pc' := 23) q223_22 rfl ?_
      exact j_iret q223_23 rfl
    · refine j_iload_n (pc' := 13) q223_12 rfl rfl ?_
      refine j_i2l (pc' := 14) q223_13 rfl ?_
      refine j_lconst (pc' := 15) q223_14 rfl ?_
      refine j_lconst (pc' := 16) q223_15 rfl ?_
      refine j_callS3_pi (d := d + 4) (pc' := 19) q223_16 (Or.inl rfl) (Nat.le_of_ble_eq_true rfl) (Nat.le_of_ble_eq_true rfl) rfl (t_M_in hρ (d + 4) _ _ _ _) (fun r3 => ?_)
      refine j_if_ne (pc' := 22) q223_19 rfl (fun c4 => ?_) (fun c4 => ?_)
      · refine j_iconst (pc' := 23) q223_22 rfl ?_
        exact j_iret q223_23 rfl
      · refine j_aload_n (pc' := 25) q223_24 rfl (by decide) rfl ?_
        refine j_iconst (pc' := 26) q223_25 rfl ?_
        refine j_sipush (pc' := 29) q223_26 rfl ?_
        refine j_callV2_v (d := d + 4) (pc' := 32) q223_29 rfl (Nat.le_of_ble_eq_true rfl) (Nat.le_of_ble_eq_true rfl) rfl (t_M_copies hρ (d + 4) _ _ _) (fun r5 => ?_)
        refine j_iload_n (pc' := 33) q223_32 rfl rfl ?_
        refine j_istore4 (pc' := 35) q223_33 rfl (Nat.le_of_ble_eq_true rfl) rfl ?_
        refine j_iconst (pc' := 36) q223_35 rfl ?_
        refine j_istore5 (pc' := 38) q223_36 rfl (Nat.le_of_ble_eq_true rfl) rfl ?_
        refine j_forget (V' := [.ref 90, .null, .int a2, .int a3, .int a1, .int (0 : Int32), .null]) (z_le_s (z_le_n (z_le_s (z_le_s (z_le_s (z_le_s (z_le_n (z_le_nil)))))))) ?_
        refine j_loopX (S := Int32 × Int32 × zS) (E := zS) (fun e => e) 124 (fun s6 => [.ref 90, .null, .int a2, .int a3, .int s6.1, .int s6.2.1, .null]) (fun s6 => s6.2.2) (fun b6 => [.ref 90, .null, .null, .int a3, .null, .null, .null]) (fun b6 => b6) (fun b6 => ?_) (fun R6 hR6 hX6 s6 => ?_) (a1, (0 : Int32), r5)
        · show z_J _ _ _ _ _ _ _ _ _ _ _ _
          refine j_aload_n (pc' := 125) q223_124 rfl (by decide) rfl ?_
          refine j_iconst (pc' := 126) q223_125 rfl ?_
          refine j_iload_n (pc' := 127) q223_126 rfl rfl ?_
          refine j_callV2_i (d := d + 4) (pc' := 130) q223_127 rfl (Nat.le_of_ble_eq_true rfl) (Nat.le_of_ble_eq_true rfl) rfl (t_M_triedBy hρ (d + 0) _ _ _) (fun r14 => ?_)
          exact j_iret q223_130 rfl
        · show z_J _ _ _ _ _ _ _ _ _ _ _ _
          refine j_iload (pc' := 40) q223_38 rfl rfl ?_
          refine j_iload_n (pc' := 41) q223_40 rfl rfl ?_
          refine j_icmp_ge (pc' := 44) q223_41 rfl (fun c7 => ?_) (fun c7 => ?_)
          · exact j_exit (j_forget (z_le_s (z_le_n (z_le_n (z_le_s (z_le_n (z_le_n (z_le_n (z_le_nil)))))))) (hX6 s6.2.2))
          · refine j_iload (pc' := 46) q223_44 rfl rfl ?_
            refine j_ldcw (pc' := 49) q223_46 rfl ?_
            refine j_imul (pc' := 50) q223_49 rfl ?_
            refine j_sipush (pc' := 53) q223_50 rfl ?_
            refine j_iadd (pc' := 54) q223_53 rfl ?_
            refine j_nameI (fun v8 => ?_)
            refine j_istore4 (pc' := 56) q223_54 rfl (Nat.le_of_ble_eq_true rfl) rfl ?_
            refine j_iload (pc' := 58) q223_56 rfl rfl ?_
            refine j_bipush (pc' := 60) q223_58 rfl ?_
            refine j_ishr (pc' := 61) q223_60 rfl ?_
            refine j_sipush (pc' := 64) q223_61 rfl ?_
            refine j_iand (pc' := 65) q223_64 rfl ?_
            refine j_aload_n (pc' := 66) q223_65 rfl (by decide) rfl ?_
            refine j_getf (k := 90) (pc' := 69) q223_66 rfl rfl ?_
            refine j_aload_n (pc' := 70) q223_69 rfl (by decide) rfl ?_
            refine j_getf (k := 90) (pc' := 73) q223_70 rfl rfl ?_
            refine j_imul (pc' := 74) q223_73 rfl ?_
            refine j_if (fun _ => j_none) (fun hz9 => ?_)
            refine j_irem (pc' := 75) q223_74 hz9 rfl ?_
            refine j_nameI (fun v10 => ?_)
            refine j_istore6 (pc' := 77) q223_75 rfl (Nat.le_of_ble_eq_true rfl) rfl ?_
            refine j_iload (pc' := 79) q223_77 rfl rfl ?_
            refine j_ldcw (pc' := 82) q223_79 rfl ?_
            refine j_imul (pc' := 83) q223_82 rfl ?_
            refine j_sipush (pc' := 86) q223_83 rfl ?_
            refine j_iadd (pc' := 87) q223_86 rfl ?_
            refine j_nameI (fun v11 => ?_)
            refine j_istore4 (pc' := 89) q223_87 rfl (Nat.le_of_ble_eq_true rfl) rfl ?_
            refine j_aload_n (pc' := 90) q223_89 rfl (by decide) rfl ?_
            refine j_sipush (pc' := 93) q223_90 rfl ?_
            refine j_iload (pc' := 95) q223_93 rfl rfl ?_
            refine j_iload (pc' := 97) q223_95 rfl rfl ?_
            refine j_bipush (pc' := 99) q223_97 rfl ?_
            refine j_ishr (pc' := 100) q223_99 rfl ?_
            refine j_sipush (pc' := 103) q223_100 rfl ?_
            refine j_iand (pc' := 104) q223_103 rfl ?_
            refine j_iconst (pc' := 105) q223_104 rfl ?_
            refine j_irem (pc' := 106) q223_105 (by decide) rfl ?_
            refine j_iconst (pc' := 107) q223_106 rfl ?_
            refine j_callV4_v (d := d + 4) (pc' := 110) q223_107 rfl (Nat.le_of_ble_eq_true rfl) (Nat.le_of_ble_eq_true rfl) rfl (t_M_lays hρ (d + 4) _ _ _ _ _) (fun r12 => ?_)
            refine j_aload_n (pc' := 111) q223_110 rfl (by decide) rfl ?_
            refine j_sipush (pc' := 114) q223_111 rfl ?_
            refine j_iconst (pc' := 115) q223_114 rfl ?_
            refine j_callV2_v (d := d + 4) (pc' := 118) q223_115 rfl (Nat.le_of_ble_eq_true rfl) (Nat.le_of_ble_eq_true rfl) rfl (t_M_weeks hρ (d + 1) _ _ _) (fun r13 => ?_)
            refine j_iinc5 (pc' := 121) q223_118 rfl (Nat.le_of_ble_eq_true rfl) rfl ?_
            refine j_goto q223_121 rfl ?_
            exact j_again (j_forget (z_le_s (z_le_n (z_le_s (z_le_s (z_le_s (z_le_s (z_le_n (z_le_nil)))))))) (hR6 (v11, (s6.2.1 + (1 : Int32)), r13)))
set_option maxRecDepth 20000 in
set_option maxHeartbeats 4000000 in
theorem t_Lw_copyFrom_56_7 {xL : Nat} {xs : Nat → Int32} {ρ : Nat → Nat → Option Nat} (hρ : z_hR ρ) (d : Nat)  (σ : zS) : ∀ q, f_Lw_copyFrom_56_7  σ = some q → z_ec xL xs ρ (d + 0) 37 [.ref 56, .ref 7] σ (em_v q) := by
  refine j_of (W := [.ref 56, .ref 7]) (fun L hL => ?_) ?_
  · subst hL; exact z_vl_0 _ 0 rfl
  · unfold f_Lw_copyFrom_56_7
    refine j_aload_n (pc' := 1) q37_0 rfl (by decide) rfl ?_
    refine j_getr (k := 7) (q := 8) (pc' := 4) q37_1 rfl (hρ 7 0 8 rfl) rfl ?_
    refine j_iconst (pc' := 5) q37_4 rfl ?_
    refine j_aload_n (pc' := 6) q37_5 rfl (by decide) rfl ?_
    refine j_getr (k := 56) (q := 57) (pc' := 9) q37_6 rfl (hρ 56 0 57 rfl) rfl ?_
    refine j_iconst (pc' := 10) q37_9 rfl ?_
    refine j_iconst (pc' := 11) q37_10 rfl ?_
    refine j_acopy (ks := 8) (kd := 57) (pc' := 14) q37_11 rfl (by decide) (Nat.le_of_ble_eq_true rfl) rfl ?_
    refine j_nameS (fun τ1 => ?_)
    refine j_aload_n (pc' := 15) q37_14 rfl (by decide) rfl ?_
    refine j_getr (k := 7) (q := 9) (pc' := 18) q37_15 rfl (hρ 7 1 9 rfl) rfl ?_
    refine j_iconst (pc' := 19) q37_18 rfl ?_
    refine j_aload_n (pc' := 20) q37_19 rfl (by decide) rfl ?_
    refine j_getr (k := 56) (q := 58) (pc' := 23) q37_20 rfl (hρ 56 1 58 rfl) rfl ?_
    refine j_iconst (pc' := 24) q37_23 rfl ?_
    refine j_iconst (pc' := 25) q37_24 rfl ?_
    refine j_acopy (ks := 9) (kd := 58) (pc' := 28) q37_25 rfl (by decide) (Nat.le_of_ble_eq_true rfl) rfl ?_
    refine j_nameS (fun τ2 => ?_)
    refine j_aload_n (pc' := 29) q37_28 rfl (by decide) rfl ?_
    refine j_getr (k := 7) (q := 10) (pc' := 32) q37_29 rfl (hρ 7 2 10 rfl) rfl ?_
    refine j_iconst (pc' := 33) q37_32 rfl ?_
    refine j_aload_n (pc' := 34) q37_33 rfl (by decide) rfl ?_
    refine j_getr (k := 56) (q := 59) (pc' := 37) q37_34 rfl (hρ 56 2 59 rfl) rfl ?_
    refine j_iconst (pc' := 38) q37_37 rfl ?_
    refine j_iconst (pc' := 39) q37_38 rfl ?_
    refine j_acopy (ks := 10) (kd := 59) (pc' := 42) q37_39 rfl (by decide) (Nat.le_of_ble_eq_true rfl) rfl ?_
    refine j_nameS (fun τ3 => ?_)
    refine j_aload_n (pc' := 43) q37_42 rfl (by decide) rfl ?_
    refine j_aload_n (pc' := 44) q37_43 rfl (by decide) rfl ?_
    refine j_getf (k := 7) (pc' := 47) q37_44 rfl rfl ?_
    refine j_putf (k := 56) (pc' := 50) q37_47 rfl rfl ?_
    refine j_nameS (fun τ4 => ?_)
    exact j_vret q37_50 rfl
set_option maxRecDepth 20000 in
set_option maxHeartbeats 4000000 in
theorem t_Sp_copyFrom_60_11 {xL : Nat} {xs : Nat → Int32} {ρ : Nat → Nat → Option Nat} (hρ : z_hR ρ) (d : Nat)  (σ : zS) : ∀ q, f_Sp_copyFrom_60_11  σ = some q → z_ec xL xs ρ (d + 0) 65 [.ref 60, .ref 11] σ (em_v q) := by
  refine j_of (W := [.ref 60, .ref 11]) (fun L hL => ?_) ?_
  · subst hL; exact z_vl_0 _ 0 rfl
  · unfold f_Sp_copyFrom_60_11
    refine j_aload_n (pc' := 1) q65_0 rfl (by decide) rfl ?_
    refine j_getr (k := 11) (q := 12) (pc' := 4) q65_1 rfl (hρ 11 0 12 rfl) rfl ?_
    refine j_iconst (pc' := 5) q65_4 rfl ?_
    refine j_aload_n (pc' := 6) q65_5 rfl (by decide) rfl ?_
    refine j_getr (k := 60) (q := 61) (pc' := 9) q65_6 rfl (hρ 60 0 61 rfl) rfl ?_
    refine j_iconst (pc' := 10) q65_9 rfl ?_
    refine j_iconst (pc' := 11) q65_10 rfl ?_
    refine j_acopy (ks := 12) (kd := 61) (pc' := 14) q65_11 rfl (by decide) (Nat.le_of_ble_eq_true rfl) rfl ?_
    refine j_nameS (fun τ1 => ?_)
    refine j_aload_n (pc' := 15) q65_14 rfl (by decide) rfl ?_
    refine j_getr (k := 11) (q := 13) (pc' := 18) q65_15 rfl (hρ 11 1 13 rfl) rfl ?_
    refine j_iconst (pc' := 19) q65_18 rfl ?_
    refine j_aload_n (pc' := 20) q65_19 rfl (by decide) rfl ?_
    refine j_getr (k := 60) (q := 62) (pc' := 23) q65_20 rfl (hρ 60 1 62 rfl) rfl ?_
    refine j_iconst (pc' := 24) q65_23 rfl ?_
    refine j_iconst (pc' := 25) q65_24 rfl ?_
    refine j_acopy (ks := 13) (kd := 62) (pc' := 28) q65_25 rfl (by decide) (Nat.le_of_ble_eq_true rfl) rfl ?_
    refine j_nameS (fun τ2 => ?_)
    refine j_aload_n (pc' := 29) q65_28 rfl (by decide) rfl ?_
    refine j_aload_n (pc' := 30) q65_29 rfl (by decide) rfl ?_
    refine j_getf (k := 11) (pc' := 33) q65_30 rfl rfl ?_
    refine j_putf (k := 60) (pc' := 36) q65_33 rfl rfl ?_
    refine j_nameS (fun τ3 => ?_)
    exact j_vret q65_36 rfl
set_option maxRecDepth 20000 in
set_option maxHeartbeats 4000000 in
theorem t_G_copyFrom_50_1 {xL : Nat} {xs : Nat → Int32} {ρ : Nat → Nat → Option Nat} (hρ : z_hR ρ) (d : Nat)  (σ : zS) : ∀ q, f_G_copyFrom_50_1  σ = some q → z_ec xL xs ρ (d + 1) 6 [.ref 50, .ref 1] σ (em_v q) := by
  refine j_of (W := [.ref 50, .ref 1]) (fun L hL => ?_) ?_
  · subst hL; exact z_vl_0 _ 0 rfl
  · unfold f_G_copyFrom_50_1
    refine j_aload_n (pc' := 1) q6_0 rfl (by decide) rfl ?_
    refine j_aload_n (pc' := 2) q6_1 rfl (by decide) rfl ?_
    refine j_getf (k := 1) (pc' := 5) q6_2 rfl rfl ?_
    refine j_putf (k := 50) (pc' := 8) q6_5 rfl rfl ?_
    refine j_nameS (fun τ1 => ?_)
    refine j_aload_n (pc' := 9) q6_8 rfl (by decide) rfl ?_
    refine j_aload_n (pc' := 10) q6_9 rfl (by decide) rfl ?_
    refine j_getf (k := 1) (pc' := 13) q6_10 rfl rfl ?_
    refine j_putf (k := 50) (pc' := 16) q6_13 rfl rfl ?_
    refine j_nameS (fun τ2 => ?_)
    refine j_aload_n (pc' := 17) q6_16 rfl (by decide) rfl ?_
    refine j_getr (k := 1) (q := 2) (pc' := 20) q6_17 rfl (hρ 1 2 2 rfl) rfl ?_
    refine j_iconst (pc' := 21) q6_20 rfl ?_
    refine j_aload_n (pc' := 22) q6_21 rfl (by decide) rfl ?_
    refine j_getr (k := 50) (q := 51) (pc' := 25) q6_22 rfl (hρ 50 2 51 rfl) rfl ?_
    refine j_iconst (pc' := 26) q6_25 rfl ?_
    refine j_bipush (pc' := 28) q6_26 rfl ?_
    refine j_acopy (ks := 2) (kd := 51) (pc' := 31) q6_28 rfl (by decide) (Nat.le_of_ble_eq_true rfl) rfl ?_
    refine j_nameS (fun τ3 => ?_)
    refine j_aload_n (pc' := 32) q6_31 rfl (by decide) rfl ?_
    refine j_getr (k := 1) (q := 3) (pc' := 35) q6_32 rfl (hρ 1 3 3 rfl) rfl ?_
    refine j_iconst (pc' := 36) q6_35 rfl ?_
    refine j_aload_n (pc' := 37) q6_36 rfl (by decide) rfl ?_
    refine j_getr (k := 50) (q := 52) (pc' := 40) q6_37 rfl (hρ 50 3 52 rfl) rfl ?_
    refine j_iconst (pc' := 41) q6_40 rfl ?_
    refine j_bipush (pc' := 43) q6_41 rfl ?_
    refine j_acopy (ks := 3) (kd := 52) (pc' := 46) q6_43 rfl (by decide) (Nat.le_of_ble_eq_true rfl) rfl ?_
    refine j_nameS (fun τ4 => ?_)
    refine j_aload_n (pc' := 47) q6_46 rfl (by decide) rfl ?_
    refine j_getr (k := 1) (q := 4) (pc' := 50) q6_47 rfl (hρ 1 4 4 rfl) rfl ?_
    refine j_iconst (pc' := 51) q6_50 rfl ?_
    refine j_aload_n (pc' := 52) q6_51 rfl (by decide) rfl ?_
    refine j_getr (k := 50) (q := 53) (pc' := 55) q6_52 rfl (hρ 50 4 53 rfl) rfl ?_
    refine j_iconst (pc' := 56) q6_55 rfl ?_
    refine j_bipush (pc' := 58) q6_56 rfl ?_
    refine j_acopy (ks := 4) (kd := 53) (pc' := 61) q6_58 rfl (by decide) (Nat.le_of_ble_eq_true rfl) rfl ?_
    refine j_nameS (fun τ5 => ?_)
    refine j_aload_n (pc' := 62) q6_61 rfl (by decide) rfl ?_
    refine j_getr (k := 1) (q := 5) (pc' := 65) q6_62 rfl (hρ 1 5 5 rfl) rfl ?_
    refine j_iconst (pc' := 66) q6_65 rfl ?_
    refine j_aload_n (pc' := 67) q6_66 rfl (by decide) rfl ?_
    refine j_getr (k := 50) (q := 54) (pc' := 70) q6_67 rfl (hρ 50 5 54 rfl) rfl ?_
    refine j_iconst (pc' := 71) q6_70 rfl ?_
    refine j_bipush (pc' := 73) q6_71 rfl ?_
    refine j_acopy (ks := 5) (kd := 54) (pc' := 76) q6_73 rfl (by decide) (Nat.le_of_ble_eq_true rfl) rfl ?_
    refine j_nameS (fun τ6 => ?_)
    refine j_aload_n (pc' := 77) q6_76 rfl (by decide) rfl ?_
    refine j_getr (k := 1) (q := 6) (pc' := 80) q6_77 rfl (hρ 1 6 6 rfl) rfl ?_
    refine j_iconst (pc' := 81) q6_80 rfl ?_
    refine j_aload_n (pc' := 82) q6_81 rfl (by decide) rfl ?_
    refine j_getr (k := 50) (q := 55) (pc' := 85) q6_82 rfl (hρ 50 6 55 rfl) rfl ?_
    refine j_iconst (pc' := 86) q6_85 rfl ?_
    refine j_bipush (pc' := 88) q6_86 rfl ?_
    refine j_acopy (ks := 6) (kd := 55) (pc' := 91) q6_88 rfl (by decide) (Nat.le_of_ble_eq_true rfl) rfl ?_
    refine j_nameS (fun τ7 => ?_)
    refine j_aload_n (pc' := 92) q6_91 rfl (by decide) rfl ?_
    refine j_aload_n (pc' := 93) q6_92 rfl (by decide) rfl ?_
    refine j_getf (k := 1) (pc' := 96) q6_93 rfl rfl ?_
    refine j_putf (k := 50) (pc' := 99) q6_96 rfl rfl ?_
    refine j_nameS (fun τ8 => ?_)
    refine j_aload_n (pc' := 100) q6_99 rfl (by decide) rfl ?_
    refine j_getr (k := 50) (q := 56) (pc' := 103) q6_100 rfl (hρ 50 8 56 rfl) rfl ?_
    refine j_aload_n (pc' := 104) q6_103 rfl (by decide) rfl ?_
    refine j_getr (k := 1) (q := 7) (pc' := 107) q6_104 rfl (hρ 1 8 7 rfl) rfl ?_
    refine j_callV1_v (d := d + 0) (pc' := 110) q6_107 rfl (Nat.le_of_ble_eq_true rfl) (Nat.le_of_ble_eq_true rfl) rfl (t_Lw_copyFrom_56_7 hρ (d + 0) _) (fun r9 => ?_)
    refine j_aload_n (pc' := 111) q6_110 rfl (by decide) rfl ?_
    refine j_getr (k := 50) (q := 60) (pc' := 114) q6_111 rfl (hρ 50 9 60 rfl) rfl ?_
    refine j_aload_n (pc' := 115) q6_114 rfl (by decide) rfl ?_
    refine j_getr (k := 1) (q := 11) (pc' := 118) q6_115 rfl (hρ 1 9 11 rfl) rfl ?_
    refine j_callV1_v (d := d + 0) (pc' := 121) q6_118 rfl (Nat.le_of_ble_eq_true rfl) (Nat.le_of_ble_eq_true rfl) rfl (t_Sp_copyFrom_60_11 hρ (d + 0) _) (fun r10 => ?_)
    refine j_aload_n (pc' := 122) q6_121 rfl (by decide) rfl ?_
    refine j_aload_n (pc' := 123) q6_122 rfl (by decide) rfl ?_
    refine j_getf (k := 1) (pc' := 126) q6_123 rfl rfl ?_
    refine j_putf (k := 50) (pc' := 129) q6_126 rfl rfl ?_
    refine j_nameS (fun τ11 => ?_)
    refine j_aload_n (pc' := 130) q6_129 rfl (by decide) rfl ?_
    refine j_getr (k := 1) (q := 14) (pc' := 133) q6_130 rfl (hρ 1 11 14 rfl) rfl ?_
    refine j_iconst (pc' := 134) q6_133 rfl ?_
    refine j_aload_n (pc' := 135) q6_134 rfl (by decide) rfl ?_
    refine j_getr (k := 50) (q := 63) (pc' := 138) q6_135 rfl (hρ 50 11 63 rfl) rfl ?_
    refine j_iconst (pc' := 139) q6_138 rfl ?_
    refine j_iconst (pc' := 140) q6_139 rfl ?_
    refine j_acopy (ks := 14) (kd := 63) (pc' := 143) q6_140 rfl (by decide) (Nat.le_of_ble_eq_true rfl) rfl ?_
    refine j_nameS (fun τ12 => ?_)
    refine j_aload_n (pc' := 144) q6_143 rfl (by decide) rfl ?_
    refine j_aload_n (pc' := 145) q6_144 rfl (by decide) rfl ?_
    refine j_getf (k := 1) (pc' := 148) q6_145 rfl rfl ?_
    refine j_putf (k := 50) (pc' := 151) q6_148 rfl rfl ?_
    refine j_nameS (fun τ13 => ?_)
    refine j_aload_n (pc' := 152) q6_151 rfl (by decide) rfl ?_
    refine j_aload_n (pc' := 153) q6_152 rfl (by decide) rfl ?_
    refine j_getf (k := 1) (pc' := 156) q6_153 rfl rfl ?_
    refine j_putf (k := 50) (pc' := 159) q6_156 rfl rfl ?_
    refine j_nameS (fun τ14 => ?_)
    exact j_vret q6_159 rfl
set_option maxRecDepth 20000 in
set_option maxHeartbeats 4000000 in
theorem t_Lw_copyFrom_72_7 {xL : Nat} {xs : Nat → Int32} {ρ : Nat → Nat → Option Nat} (hρ : z_hR ρ) (d : Nat)  (σ : zS) : ∀ q, f_Lw_copyFrom_72_7  σ = some q → z_ec xL xs ρ (d + 0) 37 [.ref 72, .ref 7] σ (em_v q) := by
  refine j_of (W := [.ref 72, .ref 7]) (fun L hL => ?_) ?_
  · subst hL; exact z_vl_0 _ 0 rfl
  · unfold f_Lw_copyFrom_72_7
    refine j_aload_n (pc' := 1) q37_0 rfl (by decide) rfl ?_
    refine j_getr (k := 7) (q := 8) (pc' := 4) q37_1 rfl (hρ 7 0 8 rfl) rfl ?_
    refine j_iconst (pc' := 5) q37_4 rfl ?_
    refine j_aload_n (pc' := 6) q37_5 rfl (by decide) rfl ?_
    refine j_getr (k := 72) (q := 73) (pc' := 9) q37_6 rfl (hρ 72 0 73 rfl) rfl ?_
    refine j_iconst (pc' := 10) q37_9 rfl ?_
    refine j_iconst (pc' := 11) q37_10 rfl ?_
    refine j_acopy (ks := 8) (kd := 73) (pc' := 14) q37_11 rfl (by decide) (Nat.le_of_ble_eq_true rfl) rfl ?_
    refine j_nameS (fun τ1 => ?_)
    refine j_aload_n (pc' := 15) q37_14 rfl (by decide) rfl ?_
    refine j_getr (k := 7) (q := 9) (pc' := 18) q37_15 rfl (hρ 7 1 9 rfl) rfl ?_
    refine j_iconst (pc' := 19) q37_18 rfl ?_
    refine j_aload_n (pc' := 20) q37_19 rfl (by decide) rfl ?_
    refine j_getr (k := 72) (q := 74) (pc' := 23) q37_20 rfl (hρ 72 1 74 rfl) rfl ?_
    refine j_iconst (pc' := 24) q37_23 rfl ?_
    refine j_iconst (pc' := 25) q37_24 rfl ?_
    refine j_acopy (ks := 9) (kd := 74) (pc' := 28) q37_25 rfl (by decide) (Nat.le_of_ble_eq_true rfl) rfl ?_
    refine j_nameS (fun τ2 => ?_)
    refine j_aload_n (pc' := 29) q37_28 rfl (by decide) rfl ?_
    refine j_getr (k := 7) (q := 10) (pc' := 32) q37_29 rfl (hρ 7 2 10 rfl) rfl ?_
    refine j_iconst (pc' := 33) q37_32 rfl ?_
    refine j_aload_n (pc' := 34) q37_33 rfl (by decide) rfl ?_
    refine j_getr (k := 72) (q := 75) (pc' := 37) q37_34 rfl (hρ 72 2 75 rfl) rfl ?_
    refine j_iconst (pc' := 38) q37_37 rfl ?_
    refine j_iconst (pc' := 39) q37_38 rfl ?_
    refine j_acopy (ks := 10) (kd := 75) (pc' := 42) q37_39 rfl (by decide) (Nat.le_of_ble_eq_true rfl) rfl ?_
    refine j_nameS (fun τ3 => ?_)
    refine j_aload_n (pc' := 43) q37_42 rfl (by decide) rfl ?_
    refine j_aload_n (pc' := 44) q37_43 rfl (by decide) rfl ?_
    refine j_getf (k := 7) (pc' := 47) q37_44 rfl rfl ?_
    refine j_putf (k := 72) (pc' := 50) q37_47 rfl rfl ?_
    refine j_nameS (fun τ4 => ?_)
    exact j_vret q37_50 rfl
set_option maxRecDepth 20000 in
set_option maxHeartbeats 4000000 in
theorem t_Sp_copyFrom_76_11 {xL : Nat} {xs : Nat → Int32} {ρ : Nat → Nat → Option Nat} (hρ : z_hR ρ) (d : Nat)  (σ : zS) : ∀ q, f_Sp_copyFrom_76_11  σ = some q → z_ec xL xs ρ (d + 0) 65 [.ref 76, .ref 11] σ (em_v q) := by
  refine j_of (W := [.ref 76, .ref 11]) (fun L hL => ?_) ?_
  · subst hL; exact z_vl_0 _ 0 rfl
  · unfold f_Sp_copyFrom_76_11
    refine j_aload_n (pc' := 1) q65_0 rfl (by decide) rfl ?_
    refine j_getr (k := 11) (q := 12) (pc' := 4) q65_1 rfl (hρ 11 0 12 rfl) rfl ?_
    refine j_iconst (pc' := 5) q65_4 rfl ?_
    refine j_aload_n (pc' := 6) q65_5 rfl (by decide) rfl ?_
    refine j_getr (k := 76) (q := 77) (pc' := 9) q65_6 rfl (hρ 76 0 77 rfl) rfl ?_
    refine j_iconst (pc' := 10) q65_9 rfl ?_
    refine j_iconst (pc' := 11) q65_10 rfl ?_
    refine j_acopy (ks := 12) (kd := 77) (pc' := 14) q65_11 rfl (by decide) (Nat.le_of_ble_eq_true rfl) rfl ?_
    refine j_nameS (fun τ1 => ?_)
    refine j_aload_n (pc' := 15) q65_14 rfl (by decide) rfl ?_
    refine j_getr (k := 11) (q := 13) (pc' := 18) q65_15 rfl (hρ 11 1 13 rfl) rfl ?_
    refine j_iconst (pc' := 19) q65_18 rfl ?_
    refine j_aload_n (pc' := 20) q65_19 rfl (by decide) rfl ?_
    refine j_getr (k := 76) (q := 78) (pc' := 23) q65_20 rfl (hρ 76 1 78 rfl) rfl ?_
    refine j_iconst (pc' := 24) q65_23 rfl ?_
    refine j_iconst (pc' := 25) q65_24 rfl ?_
    refine j_acopy (ks := 13) (kd := 78) (pc' := 28) q65_25 rfl (by decide) (Nat.le_of_ble_eq_true rfl) rfl ?_
    refine j_nameS (fun τ2 => ?_)
    refine j_aload_n (pc' := 29) q65_28 rfl (by decide) rfl ?_
    refine j_aload_n (pc' := 30) q65_29 rfl (by decide) rfl ?_
    refine j_getf (k := 11) (pc' := 33) q65_30 rfl rfl ?_
    refine j_putf (k := 76) (pc' := 36) q65_33 rfl rfl ?_
    refine j_nameS (fun τ3 => ?_)
    exact j_vret q65_36 rfl
set_option maxRecDepth 20000 in
set_option maxHeartbeats 4000000 in
theorem t_G_copyFrom_66_1 {xL : Nat} {xs : Nat → Int32} {ρ : Nat → Nat → Option Nat} (hρ : z_hR ρ) (d : Nat)  (σ : zS) : ∀ q, f_G_copyFrom_66_1  σ = some q → z_ec xL xs ρ (d + 1) 6 [.ref 66, .ref 1] σ (em_v q) := by
  refine j_of (W := [.ref 66, .ref 1]) (fun L hL => ?_) ?_
  · subst hL; exact z_vl_0 _ 0 rfl
  · unfold f_G_copyFrom_66_1
    refine j_aload_n (pc' := 1) q6_0 rfl (by decide) rfl ?_
    refine j_aload_n (pc' := 2) q6_1 rfl (by decide) rfl ?_
    refine j_getf (k := 1) (pc' := 5) q6_2 rfl rfl ?_
    refine j_putf (k := 66) (pc' := 8) q6_5 rfl rfl ?_
    refine j_nameS (fun τ1 => ?_)
    refine j_aload_n (pc' := 9) q6_8 rfl (by decide) rfl ?_
    refine j_aload_n (pc' := 10) q6_9 rfl (by decide) rfl ?_
    refine j_getf (k := 1) (pc' := 13) q6_10 rfl rfl ?_
    refine j_putf (k := 66) (pc' := 16) q6_13 rfl rfl ?_
    refine j_nameS (fun τ2 => ?_)
    refine j_aload_n (pc' := 17) q6_16 rfl (by decide) rfl ?_
    refine j_getr (k := 1) (q := 2) (pc' := 20) q6_17 rfl (hρ 1 2 2 rfl) rfl ?_
    refine j_iconst (pc' := 21) q6_20 rfl ?_
    refine j_aload_n (pc' := 22) q6_21 rfl (by decide) rfl ?_
    refine j_getr (k := 66) (q := 67) (pc' := 25) q6_22 rfl (hρ 66 2 67 rfl) rfl ?_
    refine j_iconst (pc' := 26) q6_25 rfl ?_
    refine j_bipush (pc' := 28) q6_26 rfl ?_
    refine j_acopy (ks := 2) (kd := 67) (pc' := 31) q6_28 rfl (by decide) (Nat.le_of_ble_eq_true rfl) rfl ?_
    refine j_nameS (fun τ3 => ?_)
    refine j_aload_n (pc' := 32) q6_31 rfl (by decide) rfl ?_
    refine j_getr (k := 1) (q := 3) (pc' := 35) q6_32 rfl (hρ 1 3 3 rfl) rfl ?_
    refine j_iconst (pc' := 36) q6_35 rfl ?_
    refine j_aload_n (pc' := 37) q6_36 rfl (by decide) rfl ?_
    refine j_getr (k := 66) (q := 68) (pc' := 40) q6_37 rfl (hρ 66 3 68 rfl) rfl ?_
    refine j_iconst (pc' := 41) q6_40 rfl ?_
    refine j_bipush (pc' := 43) q6_41 rfl ?_
    refine j_acopy (ks := 3) (kd := 68) (pc' := 46) q6_43 rfl (by decide) (Nat.le_of_ble_eq_true rfl) rfl ?_
    refine j_nameS (fun τ4 => ?_)
    refine j_aload_n (pc' := 47) q6_46 rfl (by decide) rfl ?_
    refine j_getr (k := 1) (q := 4) (pc' := 50) q6_47 rfl (hρ 1 4 4 rfl) rfl ?_
    refine j_iconst (pc' := 51) q6_50 rfl ?_
    refine j_aload_n (pc' := 52) q6_51 rfl (by decide) rfl ?_
    refine j_getr (k := 66) (q := 69) (pc' := 55) q6_52 rfl (hρ 66 4 69 rfl) rfl ?_
    refine j_iconst (pc' := 56) q6_55 rfl ?_
    refine j_bipush (pc' := 58) q6_56 rfl ?_
    refine j_acopy (ks := 4) (kd := 69) (pc' := 61) q6_58 rfl (by decide) (Nat.le_of_ble_eq_true rfl) rfl ?_
    refine j_nameS (fun τ5 => ?_)
    refine j_aload_n (pc' := 62) q6_61 rfl (by decide) rfl ?_
    refine j_getr (k := 1) (q := 5) (pc' := 65) q6_62 rfl (hρ 1 5 5 rfl) rfl ?_
    refine j_iconst (pc' := 66) q6_65 rfl ?_
    refine j_aload_n (pc' := 67) q6_66 rfl (by decide) rfl ?_
    refine j_getr (k := 66) (q := 70) (pc' := 70) q6_67 rfl (hρ 66 5 70 rfl) rfl ?_
    refine j_iconst (pc' := 71) q6_70 rfl ?_
    refine j_bipush (pc' := 73) q6_71 rfl ?_
    refine j_acopy (ks := 5) (kd := 70) (pc' := 76) q6_73 rfl (by decide) (Nat.le_of_ble_eq_true rfl) rfl ?_
    refine j_nameS (fun τ6 => ?_)
    refine j_aload_n (pc' := 77) q6_76 rfl (by decide) rfl ?_
    refine j_getr (k := 1) (q := 6) (pc' := 80) q6_77 rfl (hρ 1 6 6 rfl) rfl ?_
    refine j_iconst (pc' := 81) q6_80 rfl ?_
    refine j_aload_n (pc' := 82) q6_81 rfl (by decide) rfl ?_
    refine j_getr (k := 66) (q := 71) (pc' := 85) q6_82 rfl (hρ 66 6 71 rfl) rfl ?_
    refine j_iconst (pc' := 86) q6_85 rfl ?_
    refine j_bipush (pc' := 88) q6_86 rfl ?_
    refine j_acopy (ks := 6) (kd := 71) (pc' := 91) q6_88 rfl (by decide) (Nat.le_of_ble_eq_true rfl) rfl ?_
    refine j_nameS (fun τ7 => ?_)
    refine j_aload_n (pc' := 92) q6_91 rfl (by decide) rfl ?_
    refine j_aload_n (pc' := 93) q6_92 rfl (by decide) rfl ?_
    refine j_getf (k := 1) (pc' := 96) q6_93 rfl rfl ?_
    refine j_putf (k := 66) (pc' := 99) q6_96 rfl rfl ?_
    refine j_nameS (fun τ8 => ?_)
    refine j_aload_n (pc' := 100) q6_99 rfl (by decide) rfl ?_
    refine j_getr (k := 66) (q := 72) (pc' := 103) q6_100 rfl (hρ 66 8 72 rfl) rfl ?_
    refine j_aload_n (pc' := 104) q6_103 rfl (by decide) rfl ?_
    refine j_getr (k := 1) (q := 7) (pc' := 107) q6_104 rfl (hρ 1 8 7 rfl) rfl ?_
    refine j_callV1_v (d := d + 0) (pc' := 110) q6_107 rfl (Nat.le_of_ble_eq_true rfl) (Nat.le_of_ble_eq_true rfl) rfl (t_Lw_copyFrom_72_7 hρ (d + 0) _) (fun r9 => ?_)
    refine j_aload_n (pc' := 111) q6_110 rfl (by decide) rfl ?_
    refine j_getr (k := 66) (q := 76) (pc' := 114) q6_111 rfl (hρ 66 9 76 rfl) rfl ?_
    refine j_aload_n (pc' := 115) q6_114 rfl (by decide) rfl ?_
    refine j_getr (k := 1) (q := 11) (pc' := 118) q6_115 rfl (hρ 1 9 11 rfl) rfl ?_
    refine j_callV1_v (d := d + 0) (pc' := 121) q6_118 rfl (Nat.le_of_ble_eq_true rfl) (Nat.le_of_ble_eq_true rfl) rfl (t_Sp_copyFrom_76_11 hρ (d + 0) _) (fun r10 => ?_)
    refine j_aload_n (pc' := 122) q6_121 rfl (by decide) rfl ?_
    refine j_aload_n (pc' := 123) q6_122 rfl (by decide) rfl ?_
    refine j_getf (k := 1) (pc' := 126) q6_123 rfl rfl ?_
    refine j_putf (k := 66) (pc' := 129) q6_126 rfl rfl ?_
    refine j_nameS (fun τ11 => ?_)
    refine j_aload_n (pc' := 130) q6_129 rfl (by decide) rfl ?_
    refine j_getr (k := 1) (q := 14) (pc' := 133) q6_130 rfl (hρ 1 11 14 rfl) rfl ?_
    refine j_iconst (pc' := 134) q6_133 rfl ?_
    refine j_aload_n (pc' := 135) q6_134 rfl (by decide) rfl ?_
    refine j_getr (k := 66) (q := 79) (pc' := 138) q6_135 rfl (hρ 66 11 79 rfl) rfl ?_
    refine j_iconst (pc' := 139) q6_138 rfl ?_
    refine j_iconst (pc' := 140) q6_139 rfl ?_
    refine j_acopy (ks := 14) (kd := 79) (pc' := 143) q6_140 rfl (by decide) (Nat.le_of_ble_eq_true rfl) rfl ?_
    refine j_nameS (fun τ12 => ?_)
    refine j_aload_n (pc' := 144) q6_143 rfl (by decide) rfl ?_
    refine j_aload_n (pc' := 145) q6_144 rfl (by decide) rfl ?_
    refine j_getf (k := 1) (pc' := 148) q6_145 rfl rfl ?_
    refine j_putf (k := 66) (pc' := 151) q6_148 rfl rfl ?_
    refine j_nameS (fun τ13 => ?_)
    refine j_aload_n (pc' := 152) q6_151 rfl (by decide) rfl ?_
    refine j_aload_n (pc' := 153) q6_152 rfl (by decide) rfl ?_
    refine j_getf (k := 1) (pc' := 156) q6_153 rfl rfl ?_
    refine j_putf (k := 66) (pc' := 159) q6_156 rfl rfl ?_
    refine j_nameS (fun τ14 => ?_)
    exact j_vret q6_159 rfl
theorem q141_0 : z_fi (z_mi 141) 0 = some (0, .iload_n 1, 0, 0, 0, 0, 0) := rfl
theorem q141_1 : z_fi (z_mi 141) 1 = some (1, .iconst 0, 0, 0, 0, 0, 0) := rfl
theorem q141_2 : z_fi (z_mi 141) 2 = some (2, .iconst 1, 0, 0, 0, 1, 0) := rfl
theorem q141_3 : z_fi (z_mi 141) 3 = some (3, .invokestatic 60, 1, 99, 3, 0, 0) := rfl
theorem q141_6 : z_fi (z_mi 141) 6 = some (6, .ifCond .ne 5, 0, 11, 0, 0, 0) := rfl
theorem q141_9 : z_fi (z_mi 141) 9 = some (9, .iconst (-1), 0, 0, 0, (-1), 0) := rfl
theorem q141_10 : z_fi (z_mi 141) 10 = some (10, .ireturn, 0, 0, 0, 0, 0) := rfl
theorem q141_11 : z_fi (z_mi 141) 11 = some (11, .aload_n 0, 0, 0, 0, 0, 0) := rfl
theorem q141_12 : z_fi (z_mi 141) 12 = some (12, .getfield 92, 0, 9, 8, 0, 0) := rfl
theorem q141_15 : z_fi (z_mi 141) 15 = some (15, .iload_n 1, 0, 0, 0, 0, 0) := rfl
theorem q141_16 : z_fi (z_mi 141) 16 = some (16, .iushr, 0, 0, 0, 0, 0) := rfl
theorem q141_17 : z_fi (z_mi 141) 17 = some (17, .iconst 1, 0, 0, 0, 1, 0) := rfl
theorem q141_18 : z_fi (z_mi 141) 18 = some (18, .iand, 0, 0, 0, 0, 0) := rfl
theorem q141_19 : z_fi (z_mi 141) 19 = some (19, .istore_n 2, 0, 0, 0, 0, 0) := rfl
theorem q141_20 : z_fi (z_mi 141) 20 = some (20, .aload_n 0, 0, 0, 0, 0, 0) := rfl
theorem q141_21 : z_fi (z_mi 141) 21 = some (21, .getfield 19, 0, 9, 2, 0, 0) := rfl
theorem q141_24 : z_fi (z_mi 141) 24 = some (24, .iload_n 1, 0, 0, 0, 0, 0) := rfl
theorem q141_25 : z_fi (z_mi 141) 25 = some (25, .aaload, 0, 0, 0, 0, 0) := rfl
theorem q141_26 : z_fi (z_mi 141) 26 = some (26, .aload_n 0, 0, 0, 0, 0, 0) := rfl
theorem q141_27 : z_fi (z_mi 141) 27 = some (27, .getfield 10, 0, 9, 0, 0, 0) := rfl
theorem q141_30 : z_fi (z_mi 141) 30 = some (30, .invokevirtual 85, 0, 6, 1, 0, 0) := rfl
theorem q141_33 : z_fi (z_mi 141) 33 = some (33, .aload_n 0, 0, 0, 0, 0, 0) := rfl
theorem q141_34 : z_fi (z_mi 141) 34 = some (34, .dup, 0, 0, 0, 0, 0) := rfl
theorem q141_35 : z_fi (z_mi 141) 35 = some (35, .getfield 92, 0, 9, 8, 0, 0) := rfl
theorem q141_38 : z_fi (z_mi 141) 38 = some (38, .iconst 1, 0, 0, 0, 1, 0) := rfl
theorem q141_39 : z_fi (z_mi 141) 39 = some (39, .iload_n 1, 0, 0, 0, 0, 0) := rfl
theorem q141_40 : z_fi (z_mi 141) 40 = some (40, .ishl, 0, 0, 0, 0, 0) := rfl
theorem q141_41 : z_fi (z_mi 141) 41 = some (41, .ior, 0, 0, 0, 0, 0) := rfl
theorem q141_42 : z_fi (z_mi 141) 42 = some (42, .putfield 92, 0, 9, 8, 0, 0) := rfl
theorem q141_45 : z_fi (z_mi 141) 45 = some (45, .iload_n 2, 0, 0, 0, 0, 0) := rfl
theorem q141_46 : z_fi (z_mi 141) 46 = some (46, .ireturn, 0, 0, 0, 0, 0) := rfl
set_option maxRecDepth 20000 in
set_option maxHeartbeats 4000000 in
theorem t_Y_keep {xL : Nat} {xs : Nat → Int32} {ρ : Nat → Nat → Option Nat} (hρ : z_hR ρ) (d : Nat) (a1 : Int32) (σ : zS) : ∀ q, f_Y_keep a1 σ = some q → z_ec xL xs ρ (d + 2) 141 [.ref 0, .int a1] σ (em_i q) := by
  refine j_of (W := [.ref 0, .int a1, .null]) (fun L hL => ?_) ?_
  · subst hL; exact z_vl_0 _ 1 rfl
  · unfold f_Y_keep
    refine j_iload_n (pc' := 1) q141_0 rfl rfl ?_
    refine j_iconst (pc' := 2) q141_1 rfl ?_
    refine j_iconst (pc' := 3) q141_2 rfl ?_
    refine j_callS3_pi (d := d + 1) (pc' := 6) q141_3 (Or.inl rfl) (Nat.le_of_ble_eq_true rfl) (Nat.le_of_ble_eq_true rfl) rfl (t_Y_isIn hρ (d + 1) _ _ _ _) (fun r1 => ?_)
    refine j_if_ne (pc' := 9) q141_6 rfl (fun c2 => ?_) (fun c2 => ?_)
    · refine j_iconst (pc' := 10) q141_9 rfl ?_
      exact j_iret q141_10 rfl
    · refine j_aload_n (pc' := 12) q141_11 rfl (by decide) rfl ?_
      refine j_getf (k := 0) (pc' := 15) q141_12 rfl rfl ?_
      refine j_iload_n (pc' := 16) q141_15 rfl rfl ?_
      refine j_iushr (pc' := 17) q141_16 rfl ?_
      refine j_iconst (pc' := 18) q141_17 rfl ?_
      refine j_iand (pc' := 19) q141_18 rfl ?_
      refine j_nameI (fun v3 => ?_)
      refine j_istore2 (pc' := 20) q141_19 rfl (Nat.le_of_ble_eq_true rfl) rfl ?_
      refine j_aload_n (pc' := 21) q141_20 rfl (by decide) rfl ?_
      refine j_getr (k := 0) (q := 33) (pc' := 24) q141_21 rfl (hρ 0 2 33 rfl) rfl ?_
      refine j_iload_n (pc' := 25) q141_24 rfl rfl ?_
      refine j_aimg (pc' := 26) hρ q141_25 rfl (fun _ => ?_) (fun _ => ?_)
      · refine j_aload_n (pc' := 27) q141_26 rfl (by decide) rfl ?_
        refine j_getr (k := 0) (q := 1) (pc' := 30) q141_27 rfl (hρ 0 0 1 rfl) rfl ?_
        refine j_callV1_v (d := d + 1) (pc' := 33) q141_30 rfl (Nat.le_of_ble_eq_true rfl) (Nat.le_of_ble_eq_true rfl) rfl (t_G_copyFrom_50_1 hρ (d + 0) _) (fun r4 => ?_)
        refine j_aload_n (pc' := 34) q141_33 rfl (by decide) rfl ?_
        refine j_dup (pc' := 35) q141_34 rfl rfl ?_
        refine j_getf (k := 0) (pc' := 38) q141_35 rfl rfl ?_
        refine j_iconst (pc' := 39) q141_38 rfl ?_
        refine j_iload_n (pc' := 40) q141_39 rfl rfl ?_
        refine j_ishl (pc' := 41) q141_40 rfl ?_
        refine j_ior (pc' := 42) q141_41 rfl ?_
        refine j_putf (k := 0) (pc' := 45) q141_42 rfl rfl ?_
        refine j_nameS (fun τ5 => ?_)
        refine j_iload_n (pc' := 46) q141_45 rfl rfl ?_
        exact j_iret q141_46 rfl
      · refine j_aload_n (pc' := 27) q141_26 rfl (by decide) rfl ?_
        refine j_getr (k := 0) (q := 1) (pc' := 30) q141_27 rfl (hρ 0 0 1 rfl) rfl ?_
        refine j_callV1_v (d := d + 1) (pc' := 33) q141_30 rfl (Nat.le_of_ble_eq_true rfl) (Nat.le_of_ble_eq_true rfl) rfl (t_G_copyFrom_66_1 hρ (d + 0) _) (fun r6 => ?_)
        refine j_aload_n (pc' := 34) q141_33 rfl (by decide) rfl ?_
        refine j_dup (pc' := 35) q141_34 rfl rfl ?_
        refine j_getf (k := 0) (pc' := 38) q141_35 rfl rfl ?_
        refine j_iconst (pc' := 39) q141_38 rfl ?_
        refine j_iload_n (pc' := 40) q141_39 rfl rfl ?_
        refine j_ishl (pc' := 41) q141_40 rfl ?_
        refine j_ior (pc' := 42) q141_41 rfl ?_
        refine j_putf (k := 0) (pc' := 45) q141_42 rfl rfl ?_
        refine j_nameS (fun τ7 => ?_)
        refine j_iload_n (pc' := 46) q141_45 rfl rfl ?_
        exact j_iret q141_46 rfl
set_option maxRecDepth 8000 in
theorem q224_0 : z_fi (z_mi 224) 0 = some (0, .iload_n 1, 0, 0, 0, 0, 0) := rfl
set_option maxRecDepth 8000 in
theorem q224_1 : z_fi (z_mi 224) 1 = some (1, .i2l, 0, 0, 0, 0, 0) := rfl
set_option maxRecDepth 8000 in
theorem q224_2 : z_fi (z_mi 224) 2 = some (2, .lconst 0, 0, 0, 0, 0, 0) := rfl
set_option maxRecDepth 8000 in
theorem q224_3 : z_fi (z_mi 224) 3 = some (3, .lconst 1, 0, 0, 0, 0, 1) := rfl
set_option maxRecDepth 8000 in
theorem q224_4 : z_fi (z_mi 224) 4 = some (4, .invokestatic 62, 1, 149, 3, 0, 0) := rfl
set_option maxRecDepth 8000 in
theorem q224_7 : z_fi (z_mi 224) 7 = some (7, .ifCond .ne 5, 0, 12, 0, 0, 0) := rfl
set_option maxRecDepth 8000 in
theorem q224_10 : z_fi (z_mi 224) 10 = some (10, .iconst (-1), 0, 0, 0, (-1), 0) := rfl
set_option maxRecDepth 8000 in
theorem q224_11 : z_fi (z_mi 224) 11 = some (11, .ireturn, 0, 0, 0, 0, 0) := rfl
set_option maxRecDepth 8000 in
theorem q224_12 : z_fi (z_mi 224) 12 = some (12, .aload_n 0, 0, 0, 0, 0, 0) := rfl
set_option maxRecDepth 8000 in
theorem q224_13 : z_fi (z_mi 224) 13 = some (13, .iconst 0, 0, 0, 0, 0, 0) := rfl
set_option maxRecDepth 8000 in
theorem q224_14 : z_fi (z_mi 224) 14 = some (14, .bipush 110, 0, 0, 0, 110, 0) := rfl
set_option maxRecDepth 8000 in
theorem q224_16 : z_fi (z_mi 224) 16 = some (16, .iload_n 1, 0, 0, 0, 0, 0) := rfl
set_option maxRecDepth 8000 in
theorem q224_17 : z_fi (z_mi 224) 17 = some (17, .iconst 1, 0, 0, 0, 1, 0) := rfl
set_option maxRecDepth 8000 in
theorem q224_18 : z_fi (z_mi 224) 18 = some (18, .iadd, 0, 0, 0, 0, 0) := rfl
set_option maxRecDepth 8000 in
theorem q224_19 : z_fi (z_mi 224) 19 = some (19, .imul, 0, 0, 0, 0, 0) := rfl
set_option maxRecDepth 8000 in
theorem q224_20 : z_fi (z_mi 224) 20 = some (20, .invokevirtual 227, 0, 195, 2, 0, 0) := rfl
set_option maxRecDepth 8000 in
theorem q224_23 : z_fi (z_mi 224) 23 = some (23, .aload_n 0, 0, 0, 0, 0, 0) := rfl
set_option maxRecDepth 8000 in
theorem q224_24 : z_fi (z_mi 224) 24 = some (24, .getfield 47, 0, 10, 27, 0, 0) := rfl
set_option maxRecDepth 8000 in
theorem q224_27 : z_fi (z_mi 224) 27 = some (27, .iload_n 1, 0, 0, 0, 0, 0) := rfl
set_option maxRecDepth 8000 in
theorem q224_28 : z_fi (z_mi 224) 28 = some (28, .baload, 0, 0, 0, 0, 0) := rfl
set_option maxRecDepth 8000 in
theorem q224_29 : z_fi (z_mi 224) 29 = some (29, .ifCond .eq 7, 0, 36, 0, 0, 0) := rfl
set_option maxRecDepth 8000 in
theorem q224_32 : z_fi (z_mi 224) 32 = some (32, .iconst 1, 0, 0, 0, 1, 0) := rfl
set_option maxRecDepth 8000 in
theorem q224_33 : z_fi (z_mi 224) 33 = some (33, .goto 4, 0, 37, 0, 0, 0) := rfl
set_option maxRecDepth 8000 in
theorem q224_36 : z_fi (z_mi 224) 36 = some (36, .iconst 0, 0, 0, 0, 0, 0) := rfl
set_option maxRecDepth 8000 in
theorem q224_37 : z_fi (z_mi 224) 37 = some (37, .istore_n 2, 0, 0, 0, 0, 0) := rfl
set_option maxRecDepth 8000 in
theorem q224_38 : z_fi (z_mi 224) 38 = some (38, .aload_n 0, 0, 0, 0, 0, 0) := rfl
set_option maxRecDepth 8000 in
theorem q224_39 : z_fi (z_mi 224) 39 = some (39, .getfield 47, 0, 10, 27, 0, 0) := rfl
set_option maxRecDepth 8000 in
theorem q224_42 : z_fi (z_mi 224) 42 = some (42, .iload_n 1, 0, 0, 0, 0, 0) := rfl
set_option maxRecDepth 8000 in
theorem q224_43 : z_fi (z_mi 224) 43 = some (43, .iconst 1, 0, 0, 0, 1, 0) := rfl
set_option maxRecDepth 8000 in
theorem q224_44 : z_fi (z_mi 224) 44 = some (44, .bastore, 0, 0, 0, 0, 0) := rfl
set_option maxRecDepth 8000 in
theorem q224_45 : z_fi (z_mi 224) 45 = some (45, .iload_n 2, 0, 0, 0, 0, 0) := rfl
set_option maxRecDepth 8000 in
theorem q224_46 : z_fi (z_mi 224) 46 = some (46, .ireturn, 0, 0, 0, 0, 0) := rfl
set_option maxRecDepth 20000 in
set_option maxHeartbeats 4000000 in
theorem t_M_keep {xL : Nat} {xs : Nat → Int32} {ρ : Nat → Nat → Option Nat} (hρ : z_hR ρ) (d : Nat) (a1 : Int32) (σ : zS) : ∀ q, f_M_keep a1 σ = some q → z_ec xL xs ρ (d + 1) 224 [.ref 90, .int a1] σ (em_i q) := by
  refine j_of (W := [.ref 90, .int a1, .null]) (fun L hL => ?_) ?_
  · subst hL; exact z_vl_0 _ 1 rfl
  · unfold f_M_keep
    refine j_iload_n (pc' := 1) q224_0 rfl rfl ?_
    refine j_i2l (pc' := 2) q224_1 rfl ?_
    refine j_lconst (pc' := 3) q224_2 rfl ?_
    refine j_lconst (pc' := 4) q224_3 rfl ?_
    refine j_callS3_pi (d := d + 0) (pc' := 7) q224_4 (Or.inl rfl) (Nat.le_of_ble_eq_true rfl) (Nat.le_of_ble_eq_true rfl) rfl (t_M_in hρ (d + 0) _ _ _ _) (fun r1 => ?_)
    refine j_if_ne (pc' := 10) q224_7 rfl (fun c2 => ?_) (fun c2 => ?_)
    · refine j_iconst (pc' := 11) q224_10 rfl ?_
      exact j_iret q224_11 rfl
    · refine j_aload_n (pc' := 13) q224_12 rfl (by decide) rfl ?_
      refine j_iconst (pc' := 14) q224_13 rfl ?_
      refine j_bipush (pc' := 16) q224_14 rfl ?_
      refine j_iload_n (pc' := 17) q224_16 rfl rfl ?_
      refine j_iconst (pc' := 18) q224_17 rfl ?_
      refine j_iadd (pc' := 19) q224_18 rfl ?_
      refine j_imul (pc' := 20) q224_19 rfl ?_
      refine j_callV2_v (d := d + 0) (pc' := 23) q224_20 rfl (Nat.le_of_ble_eq_true rfl) (Nat.le_of_ble_eq_true rfl) rfl (t_M_copies hρ (d + 0) _ _ _) (fun r3 => ?_)
      refine j_aload_n (pc' := 24) q224_23 rfl (by decide) rfl ?_
      refine j_getr (k := 90) (q := 101) (pc' := 27) q224_24 rfl (hρ 90 27 101 rfl) rfl ?_
      refine j_iload_n (pc' := 28) q224_27 rfl rfl ?_
      refine j_if (fun hi4 => ?_) (fun _ => j_none)
      refine j_bald (k := 101) (N := 2) (pc' := 29) q224_28 (Or.inr rfl) hi4 rfl ?_
      refine j_join (T := Int32) 37 (fun t5 => [.ref 90, .int a1, .null]) (fun t5 => [.int t5]) (fun t5 => r3) (fun t5 => ?_) (fun j5 hj5 => ?_)
      · show z_J _ _ _ _ _ _ _ _ _ _ _ _
        refine j_istore2 (pc' := 38) q224_37 rfl (Nat.le_of_ble_eq_true rfl) rfl ?_
        refine j_aload_n (pc' := 39) q224_38 rfl (by decide) rfl ?_
        refine j_getr (k := 90) (q := 101) (pc' := 42) q224_39 rfl (hρ 90 27 101 rfl) rfl ?_
        refine j_iload_n (pc' := 43) q224_42 rfl rfl ?_
        refine j_iconst (pc' := 44) q224_43 rfl ?_
        refine j_if (fun hi6 => ?_) (fun _ => j_none)
        refine j_zast (k := 101) (N := 2) (pc' := 45) q224_44 rfl hi6 rfl ?_
        refine j_nameS (fun τ7 => ?_)
        refine j_iload_n (pc' := 46) q224_45 rfl rfl ?_
        exact j_iret q224_46 rfl
      · show z_J _ _ _ _ _ _ _ _ _ _ _ _
        refine j_if_eq (pc' := 32) q224_29 rfl (fun c8 => ?_) (fun c8 => ?_)
        · refine j_iconst (pc' := 37) q224_36 rfl ?_
          refine j_forget (z_le_s (z_le_s (z_le_n (z_le_nil)))) (hj5 (0 : Int32))
        · refine j_iconst (pc' := 33) q224_32 rfl ?_
          refine j_goto q224_33 rfl ?_
          refine j_forget (z_le_s (z_le_s (z_le_n (z_le_nil)))) (hj5 (1 : Int32))
set_option maxRecDepth 20000 in
set_option maxHeartbeats 4000000 in
theorem t_Lw_copyFrom_7_56 {xL : Nat} {xs : Nat → Int32} {ρ : Nat → Nat → Option Nat} (hρ : z_hR ρ) (d : Nat)  (σ : zS) : ∀ q, f_Lw_copyFrom_7_56  σ = some q → z_ec xL xs ρ (d + 0) 37 [.ref 7, .ref 56] σ (em_v q) := by
  refine j_of (W := [.ref 7, .ref 56]) (fun L hL => ?_) ?_
  · subst hL; exact z_vl_0 _ 0 rfl
  · unfold f_Lw_copyFrom_7_56
    refine j_aload_n (pc' := 1) q37_0 rfl (by decide) rfl ?_
    refine j_getr (k := 56) (q := 57) (pc' := 4) q37_1 rfl (hρ 56 0 57 rfl) rfl ?_
    refine j_iconst (pc' := 5) q37_4 rfl ?_
    refine j_aload_n (pc' := 6) q37_5 rfl (by decide) rfl ?_
    refine j_getr (k := 7) (q := 8) (pc' := 9) q37_6 rfl (hρ 7 0 8 rfl) rfl ?_
    refine j_iconst (pc' := 10) q37_9 rfl ?_
    refine j_iconst (pc' := 11) q37_10 rfl ?_
    refine j_acopy (ks := 57) (kd := 8) (pc' := 14) q37_11 rfl (by decide) (Nat.le_of_ble_eq_true rfl) rfl ?_
    refine j_nameS (fun τ1 => ?_)
    refine j_aload_n (pc' := 15) q37_14 rfl (by decide) rfl ?_
    refine j_getr (k := 56) (q := 58) (pc' := 18) q37_15 rfl (hρ 56 1 58 rfl) rfl ?_
    refine j_iconst (pc' := 19) q37_18 rfl ?_
    refine j_aload_n (pc' := 20) q37_19 rfl (by decide) rfl ?_
    refine j_getr (k := 7) (q := 9) (pc' := 23) q37_20 rfl (hρ 7 1 9 rfl) rfl ?_
    refine j_iconst (pc' := 24) q37_23 rfl ?_
    refine j_iconst (pc' := 25) q37_24 rfl ?_
    refine j_acopy (ks := 58) (kd := 9) (pc' := 28) q37_25 rfl (by decide) (Nat.le_of_ble_eq_true rfl) rfl ?_
    refine j_nameS (fun τ2 => ?_)
    refine j_aload_n (pc' := 29) q37_28 rfl (by decide) rfl ?_
    refine j_getr (k := 56) (q := 59) (pc' := 32) q37_29 rfl (hρ 56 2 59 rfl) rfl ?_
    refine j_iconst (pc' := 33) q37_32 rfl ?_
    refine j_aload_n (pc' := 34) q37_33 rfl (by decide) rfl ?_
    refine j_getr (k := 7) (q := 10) (pc' := 37) q37_34 rfl (hρ 7 2 10 rfl) rfl ?_
    refine j_iconst (pc' := 38) q37_37 rfl ?_
    refine j_iconst (pc' := 39) q37_38 rfl ?_
    refine j_acopy (ks := 59) (kd := 10) (pc' := 42) q37_39 rfl (by decide) (Nat.le_of_ble_eq_true rfl) rfl ?_
    refine j_nameS (fun τ3 => ?_)
    refine j_aload_n (pc' := 43) q37_42 rfl (by decide) rfl ?_
    refine j_aload_n (pc' := 44) q37_43 rfl (by decide) rfl ?_
    refine j_getf (k := 56) (pc' := 47) q37_44 rfl rfl ?_
    refine j_putf (k := 7) (pc' := 50) q37_47 rfl rfl ?_
    refine j_nameS (fun τ4 => ?_)
    exact j_vret q37_50 rfl
set_option maxRecDepth 20000 in
set_option maxHeartbeats 4000000 in
theorem t_Sp_copyFrom_11_60 {xL : Nat} {xs : Nat → Int32} {ρ : Nat → Nat → Option Nat} (hρ : z_hR ρ) (d : Nat)  (σ : zS) : ∀ q, f_Sp_copyFrom_11_60  σ = some q → z_ec xL xs ρ (d + 0) 65 [.ref 11, .ref 60] σ (em_v q) := by
  refine j_of (W := [.ref 11, .ref 60]) (fun L hL => ?_) ?_
  · subst hL; exact z_vl_0 _ 0 rfl
  · unfold f_Sp_copyFrom_11_60
    refine j_aload_n (pc' := 1) q65_0 rfl (by decide) rfl ?_
    refine j_getr (k := 60) (q := 61) (pc' := 4) q65_1 rfl (hρ 60 0 61 rfl) rfl ?_
    refine j_iconst (pc' := 5) q65_4 rfl ?_
    refine j_aload_n (pc' := 6) q65_5 rfl (by decide) rfl ?_
    refine j_getr (k := 11) (q := 12) (pc' := 9) q65_6 rfl (hρ 11 0 12 rfl) rfl ?_
    refine j_iconst (pc' := 10) q65_9 rfl ?_
    refine j_iconst (pc' := 11) q65_10 rfl ?_
    refine j_acopy (ks := 61) (kd := 12) (pc' := 14) q65_11 rfl (by decide) (Nat.le_of_ble_eq_true rfl) rfl ?_
    refine j_nameS (fun τ1 => ?_)
    refine j_aload_n (pc' := 15) q65_14 rfl (by decide) rfl ?_
    refine j_getr (k := 60) (q := 62) (pc' := 18) q65_15 rfl (hρ 60 1 62 rfl) rfl ?_
    refine j_iconst (pc' := 19) q65_18 rfl ?_
    refine j_aload_n (pc' := 20) q65_19 rfl (by decide) rfl ?_
    refine j_getr (k := 11) (q := 13) (pc' := 23) q65_20 rfl (hρ 11 1 13 rfl) rfl ?_
    refine j_iconst (pc' := 24) q65_23 rfl ?_
    refine j_iconst (pc' := 25) q65_24 rfl ?_
    refine j_acopy (ks := 62) (kd := 13) (pc' := 28) q65_25 rfl (by decide) (Nat.le_of_ble_eq_true rfl) rfl ?_
    refine j_nameS (fun τ2 => ?_)
    refine j_aload_n (pc' := 29) q65_28 rfl (by decide) rfl ?_
    refine j_aload_n (pc' := 30) q65_29 rfl (by decide) rfl ?_
    refine j_getf (k := 60) (pc' := 33) q65_30 rfl rfl ?_
    refine j_putf (k := 11) (pc' := 36) q65_33 rfl rfl ?_
    refine j_nameS (fun τ3 => ?_)
    exact j_vret q65_36 rfl
set_option maxRecDepth 20000 in
set_option maxHeartbeats 4000000 in
theorem t_G_copyFrom_1_50 {xL : Nat} {xs : Nat → Int32} {ρ : Nat → Nat → Option Nat} (hρ : z_hR ρ) (d : Nat)  (σ : zS) : ∀ q, f_G_copyFrom_1_50  σ = some q → z_ec xL xs ρ (d + 1) 6 [.ref 1, .ref 50] σ (em_v q) := by
  refine j_of (W := [.ref 1, .ref 50]) (fun L hL => ?_) ?_
  · subst hL; exact z_vl_0 _ 0 rfl
  · unfold f_G_copyFrom_1_50
    refine j_aload_n (pc' := 1) q6_0 rfl (by decide) rfl ?_
    refine j_aload_n (pc' := 2) q6_1 rfl (by decide) rfl ?_
    refine j_getf (k := 50) (pc' := 5) q6_2 rfl rfl ?_
    refine j_putf (k := 1) (pc' := 8) q6_5 rfl rfl ?_
    refine j_nameS (fun τ1 => ?_)
    refine j_aload_n (pc' := 9) q6_8 rfl (by decide) rfl ?_
    refine j_aload_n (pc' := 10) q6_9 rfl (by decide) rfl ?_
    refine j_getf (k := 50) (pc' := 13) q6_10 rfl rfl ?_
    refine j_putf (k := 1) (pc' := 16) q6_13 rfl rfl ?_
    refine j_nameS (fun τ2 => ?_)
    refine j_aload_n (pc' := 17) q6_16 rfl (by decide) rfl ?_
    refine j_getr (k := 50) (q := 51) (pc' := 20) q6_17 rfl (hρ 50 2 51 rfl) rfl ?_
    refine j_iconst (pc' := 21) q6_20 rfl ?_
    refine j_aload_n (pc' := 22) q6_21 rfl (by decide) rfl ?_
    refine j_getr (k := 1) (q := 2) (pc' := 25) q6_22 rfl (hρ 1 2 2 rfl) rfl ?_
    refine j_iconst (pc' := 26) q6_25 rfl ?_
    refine j_bipush (pc' := 28) q6_26 rfl ?_
    refine j_acopy (ks := 51) (kd := 2) (pc' := 31) q6_28 rfl (by decide) (Nat.le_of_ble_eq_true rfl) rfl ?_
    refine j_nameS (fun τ3 => ?_)
    refine j_aload_n (pc' := 32) q6_31 rfl (by decide) rfl ?_
    refine j_getr (k := 50) (q := 52) (pc' := 35) q6_32 rfl (hρ 50 3 52 rfl) rfl ?_
    refine j_iconst (pc' := 36) q6_35 rfl ?_
    refine j_aload_n (pc' := 37) q6_36 rfl (by decide) rfl ?_
    refine j_getr (k := 1) (q := 3) (pc' := 40) q6_37 rfl (hρ 1 3 3 rfl) rfl ?_
    refine j_iconst (pc' := 41) q6_40 rfl ?_
    refine j_bipush (pc' := 43) q6_41 rfl ?_
    refine j_acopy (ks := 52) (kd := 3) (pc' := 46) q6_43 rfl (by decide) (Nat.le_of_ble_eq_true rfl) rfl ?_
    refine j_nameS (fun τ4 => ?_)
    refine j_aload_n (pc' := 47) q6_46 rfl (by decide) rfl ?_
    refine j_getr (k := 50) (q := 53) (pc' := 50) q6_47 rfl (hρ 50 4 53 rfl) rfl ?_
    refine j_iconst (pc' := 51) q6_50 rfl ?_
    refine j_aload_n (pc' := 52) q6_51 rfl (by decide) rfl ?_
    refine j_getr (k := 1) (q := 4) (pc' := 55) q6_52 rfl (hρ 1 4 4 rfl) rfl ?_
    refine j_iconst (pc' := 56) q6_55 rfl ?_
    refine j_bipush (pc' := 58) q6_56 rfl ?_
    refine j_acopy (ks := 53) (kd := 4) (pc' := 61) q6_58 rfl (by decide) (Nat.le_of_ble_eq_true rfl) rfl ?_
    refine j_nameS (fun τ5 => ?_)
    refine j_aload_n (pc' := 62) q6_61 rfl (by decide) rfl ?_
    refine j_getr (k := 50) (q := 54) (pc' := 65) q6_62 rfl (hρ 50 5 54 rfl) rfl ?_
    refine j_iconst (pc' := 66) q6_65 rfl ?_
    refine j_aload_n (pc' := 67) q6_66 rfl (by decide) rfl ?_
    refine j_getr (k := 1) (q := 5) (pc' := 70) q6_67 rfl (hρ 1 5 5 rfl) rfl ?_
    refine j_iconst (pc' := 71) q6_70 rfl ?_
    refine j_bipush (pc' := 73) q6_71 rfl ?_
    refine j_acopy (ks := 54) (kd := 5) (pc' := 76) q6_73 rfl (by decide) (Nat.le_of_ble_eq_true rfl) rfl ?_
    refine j_nameS (fun τ6 => ?_)
    refine j_aload_n (pc' := 77) q6_76 rfl (by decide) rfl ?_
    refine j_getr (k := 50) (q := 55) (pc' := 80) q6_77 rfl (hρ 50 6 55 rfl) rfl ?_
    refine j_iconst (pc' := 81) q6_80 rfl ?_
    refine j_aload_n (pc' := 82) q6_81 rfl (by decide) rfl ?_
    refine j_getr (k := 1) (q := 6) (pc' := 85) q6_82 rfl (hρ 1 6 6 rfl) rfl ?_
    refine j_iconst (pc' := 86) q6_85 rfl ?_
    refine j_bipush (pc' := 88) q6_86 rfl ?_
    refine j_acopy (ks := 55) (kd := 6) (pc' := 91) q6_88 rfl (by decide) (Nat.le_of_ble_eq_true rfl) rfl ?_
    refine j_nameS (fun τ7 => ?_)
    refine j_aload_n (pc' := 92) q6_91 rfl (by decide) rfl ?_
    refine j_aload_n (pc' := 93) q6_92 rfl (by decide) rfl ?_
    refine j_getf (k := 50) (pc' := 96) q6_93 rfl rfl ?_
    refine j_putf (k := 1) (pc' := 99) q6_96 rfl rfl ?_
    refine j_nameS (fun τ8 => ?_)
    refine j_aload_n (pc' := 100) q6_99 rfl (by decide) rfl ?_
    refine j_getr (k := 1) (q := 7) (pc' := 103) q6_100 rfl (hρ 1 8 7 rfl) rfl ?_
    refine j_aload_n (pc' := 104) q6_103 rfl (by decide) rfl ?_
    refine j_getr (k := 50) (q := 56) (pc' := 107) q6_104 rfl (hρ 50 8 56 rfl) rfl ?_
    refine j_callV1_v (d := d + 0) (pc' := 110) q6_107 rfl (Nat.le_of_ble_eq_true rfl) (Nat.le_of_ble_eq_true rfl) rfl (t_Lw_copyFrom_7_56 hρ (d + 0) _) (fun r9 => ?_)
    refine j_aload_n (pc' := 111) q6_110 rfl (by decide) rfl ?_
    refine j_getr (k := 1) (q := 11) (pc' := 114) q6_111 rfl (hρ 1 9 11 rfl) rfl ?_
    refine j_aload_n (pc' := 115) q6_114 rfl (by decide) rfl ?_
    refine j_getr (k := 50) (q := 60) (pc' := 118) q6_115 rfl (hρ 50 9 60 rfl) rfl ?_
    refine j_callV1_v (d := d + 0) (pc' := 121) q6_118 rfl (Nat.le_of_ble_eq_true rfl) (Nat.le_of_ble_eq_true rfl) rfl (t_Sp_copyFrom_11_60 hρ (d + 0) _) (fun r10 => ?_)
    refine j_aload_n (pc' := 122) q6_121 rfl (by decide) rfl ?_
    refine j_aload_n (pc' := 123) q6_122 rfl (by decide) rfl ?_
    refine j_getf (k := 50) (pc' := 126) q6_123 rfl rfl ?_
    refine j_putf (k := 1) (pc' := 129) q6_126 rfl rfl ?_
    refine j_nameS (fun τ11 => ?_)
    refine j_aload_n (pc' := 130) q6_129 rfl (by decide) rfl ?_
    refine j_getr (k := 50) (q := 63) (pc' := 133) q6_130 rfl (hρ 50 11 63 rfl) rfl ?_
    refine j_iconst (pc' := 134) q6_133 rfl ?_
    refine j_aload_n (pc' := 135) q6_134 rfl (by decide) rfl ?_
    refine j_getr (k := 1) (q := 14) (pc' := 138) q6_135 rfl (hρ 1 11 14 rfl) rfl ?_
    refine j_iconst (pc' := 139) q6_138 rfl ?_
    refine j_iconst (pc' := 140) q6_139 rfl ?_
    refine j_acopy (ks := 63) (kd := 14) (pc' := 143) q6_140 rfl (by decide) (Nat.le_of_ble_eq_true rfl) rfl ?_
    refine j_nameS (fun τ12 => ?_)
    refine j_aload_n (pc' := 144) q6_143 rfl (by decide) rfl ?_
    refine j_aload_n (pc' := 145) q6_144 rfl (by decide) rfl ?_
    refine j_getf (k := 50) (pc' := 148) q6_145 rfl rfl ?_
    refine j_putf (k := 1) (pc' := 151) q6_148 rfl rfl ?_
    refine j_nameS (fun τ13 => ?_)
    refine j_aload_n (pc' := 152) q6_151 rfl (by decide) rfl ?_
    refine j_aload_n (pc' := 153) q6_152 rfl (by decide) rfl ?_
    refine j_getf (k := 50) (pc' := 156) q6_153 rfl rfl ?_
    refine j_putf (k := 1) (pc' := 159) q6_156 rfl rfl ?_
    refine j_nameS (fun τ14 => ?_)
    exact j_vret q6_159 rfl
set_option maxRecDepth 20000 in
set_option maxHeartbeats 4000000 in
theorem t_Lw_copyFrom_7_72 {xL : Nat} {xs : Nat → Int32} {ρ : Nat → Nat → Option Nat} (hρ : z_hR ρ) (d : Nat)  (σ : zS) : ∀ q, f_Lw_copyFrom_7_72  σ = some q → z_ec xL xs ρ (d + 0) 37 [.ref 7, .ref 72] σ (em_v q) := by
  refine j_of (W := [.ref 7, .ref 72]) (fun L hL => ?_) ?_
  · subst hL; exact z_vl_0 _ 0 rfl
  · unfold f_Lw_copyFrom_7_72
    refine j_aload_n (pc' := 1) q37_0 rfl (by decide) rfl ?_
    refine j_getr (k := 72) (q := 73) (pc' := 4) q37_1 rfl (hρ 72 0 73 rfl) rfl ?_
    refine j_iconst (pc' := 5) q37_4 rfl ?_
    refine j_aload_n (pc' := 6) q37_5 rfl (by decide) rfl ?_
    refine j_getr (k := 7) (q := 8) (pc' := 9) q37_6 rfl (hρ 7 0 8 rfl) rfl ?_
    refine j_iconst (pc' := 10) q37_9 rfl ?_
    refine j_iconst (pc' := 11) q37_10 rfl ?_
    refine j_acopy (ks := 73) (kd := 8) (pc' := 14) q37_11 rfl (by decide) (Nat.le_of_ble_eq_true rfl) rfl ?_
    refine j_nameS (fun τ1 => ?_)
    refine j_aload_n (pc' := 15) q37_14 rfl (by decide) rfl ?_
    refine j_getr (k := 72) (q := 74) (pc' := 18) q37_15 rfl (hρ 72 1 74 rfl) rfl ?_
    refine j_iconst (pc' := 19) q37_18 rfl ?_
    refine j_aload_n (pc' := 20) q37_19 rfl (by decide) rfl ?_
    refine j_getr (k := 7) (q := 9) (pc' := 23) q37_20 rfl (hρ 7 1 9 rfl) rfl ?_
    refine j_iconst (pc' := 24) q37_23 rfl ?_
    refine j_iconst (pc' := 25) q37_24 rfl ?_
    refine j_acopy (ks := 74) (kd := 9) (pc' := 28) q37_25 rfl (by decide) (Nat.le_of_ble_eq_true rfl) rfl ?_
    refine j_nameS (fun τ2 => ?_)
    refine j_aload_n (pc' := 29) q37_28 rfl (by decide) rfl ?_
    refine j_getr (k := 72) (q := 75) (pc' := 32) q37_29 rfl (hρ 72 2 75 rfl) rfl ?_
    refine j_iconst (pc' := 33) q37_32 rfl ?_
    refine j_aload_n (pc' := 34) q37_33 rfl (by decide) rfl ?_
    refine j_getr (k := 7) (q := 10) (pc' := 37) q37_34 rfl (hρ 7 2 10 rfl) rfl ?_
    refine j_iconst (pc' := 38) q37_37 rfl ?_
    refine j_iconst (pc' := 39) q37_38 rfl ?_
    refine j_acopy (ks := 75) (kd := 10) (pc' := 42) q37_39 rfl (by decide) (Nat.le_of_ble_eq_true rfl) rfl ?_
    refine j_nameS (fun τ3 => ?_)
    refine j_aload_n (pc' := 43) q37_42 rfl (by decide) rfl ?_
    refine j_aload_n (pc' := 44) q37_43 rfl (by decide) rfl ?_
    refine j_getf (k := 72) (pc' := 47) q37_44 rfl rfl ?_
    refine j_putf (k := 7) (pc' := 50) q37_47 rfl rfl ?_
    refine j_nameS (fun τ4 => ?_)
    exact j_vret q37_50 rfl
set_option maxRecDepth 20000 in
set_option maxHeartbeats 4000000 in
theorem t_Sp_copyFrom_11_76 {xL : Nat} {xs : Nat → Int32} {ρ : Nat → Nat → Option Nat} (hρ : z_hR ρ) (d : Nat)  (σ : zS) : ∀ q, f_Sp_copyFrom_11_76  σ = some q → z_ec xL xs ρ (d + 0) 65 [.ref 11, .ref 76] σ (em_v q) := by
  refine j_of (W := [.ref 11, .ref 76]) (fun L hL => ?_) ?_
  · subst hL; exact z_vl_0 _ 0 rfl
  · unfold f_Sp_copyFrom_11_76
    refine j_aload_n (pc' := 1) q65_0 rfl (by decide) rfl ?_
    refine j_getr (k := 76) (q := 77) (pc' := 4) q65_1 rfl (hρ 76 0 77 rfl) rfl ?_
    refine j_iconst (pc' := 5) q65_4 rfl ?_
    refine j_aload_n (pc' := 6) q65_5 rfl (by decide) rfl ?_
    refine j_getr (k := 11) (q := 12) (pc' := 9) q65_6 rfl (hρ 11 0 12 rfl) rfl ?_
    refine j_iconst (pc' := 10) q65_9 rfl ?_
    refine j_iconst (pc' := 11) q65_10 rfl ?_
    refine j_acopy (ks := 77) (kd := 12) (pc' := 14) q65_11 rfl (by decide) (Nat.le_of_ble_eq_true rfl) rfl ?_
    refine j_nameS (fun τ1 => ?_)
    refine j_aload_n (pc' := 15) q65_14 rfl (by decide) rfl ?_
    refine j_getr (k := 76) (q := 78) (pc' := 18) q65_15 rfl (hρ 76 1 78 rfl) rfl ?_
    refine j_iconst (pc' := 19) q65_18 rfl ?_
    refine j_aload_n (pc' := 20) q65_19 rfl (by decide) rfl ?_
    refine j_getr (k := 11) (q := 13) (pc' := 23) q65_20 rfl (hρ 11 1 13 rfl) rfl ?_
    refine j_iconst (pc' := 24) q65_23 rfl ?_
    refine j_iconst (pc' := 25) q65_24 rfl ?_
    refine j_acopy (ks := 78) (kd := 13) (pc' := 28) q65_25 rfl (by decide) (Nat.le_of_ble_eq_true rfl) rfl ?_
    refine j_nameS (fun τ2 => ?_)
    refine j_aload_n (pc' := 29) q65_28 rfl (by decide) rfl ?_
    refine j_aload_n (pc' := 30) q65_29 rfl (by decide) rfl ?_
    refine j_getf (k := 76) (pc' := 33) q65_30 rfl rfl ?_
    refine j_putf (k := 11) (pc' := 36) q65_33 rfl rfl ?_
    refine j_nameS (fun τ3 => ?_)
    exact j_vret q65_36 rfl
set_option maxRecDepth 20000 in
set_option maxHeartbeats 4000000 in
theorem t_G_copyFrom_1_66 {xL : Nat} {xs : Nat → Int32} {ρ : Nat → Nat → Option Nat} (hρ : z_hR ρ) (d : Nat)  (σ : zS) : ∀ q, f_G_copyFrom_1_66  σ = some q → z_ec xL xs ρ (d + 1) 6 [.ref 1, .ref 66] σ (em_v q) := by
  refine j_of (W := [.ref 1, .ref 66]) (fun L hL => ?_) ?_
  · subst hL; exact z_vl_0 _ 0 rfl
  · unfold f_G_copyFrom_1_66
    refine j_aload_n (pc' := 1) q6_0 rfl (by decide) rfl ?_
    refine j_aload_n (pc' := 2) q6_1 rfl (by decide) rfl ?_
    refine j_getf (k := 66) (pc' := 5) q6_2 rfl rfl ?_
    refine j_putf (k := 1) (pc' := 8) q6_5 rfl rfl ?_
    refine j_nameS (fun τ1 => ?_)
    refine j_aload_n (pc' := 9) q6_8 rfl (by decide) rfl ?_
    refine j_aload_n (pc' := 10) q6_9 rfl (by decide) rfl ?_
    refine j_getf (k := 66) (pc' := 13) q6_10 rfl rfl ?_
    refine j_putf (k := 1) (pc' := 16) q6_13 rfl rfl ?_
    refine j_nameS (fun τ2 => ?_)
    refine j_aload_n (pc' := 17) q6_16 rfl (by decide) rfl ?_
    refine j_getr (k := 66) (q := 67) (pc' := 20) q6_17 rfl (hρ 66 2 67 rfl) rfl ?_
    refine j_iconst (pc' := 21) q6_20 rfl ?_
    refine j_aload_n (pc' := 22) q6_21 rfl (by decide) rfl ?_
    refine j_getr (k := 1) (q := 2) (pc' := 25) q6_22 rfl (hρ 1 2 2 rfl) rfl ?_
    refine j_iconst (pc' := 26) q6_25 rfl ?_
    refine j_bipush (pc' := 28) q6_26 rfl ?_
    refine j_acopy (ks := 67) (kd := 2) (pc' := 31) q6_28 rfl (by decide) (Nat.le_of_ble_eq_true rfl) rfl ?_
    refine j_nameS (fun τ3 => ?_)
    refine j_aload_n (pc' := 32) q6_31 rfl (by decide) rfl ?_
    refine j_getr (k := 66) (q := 68) (pc' := 35) q6_32 rfl (hρ 66 3 68 rfl) rfl ?_
    refine j_iconst (pc' := 36) q6_35 rfl ?_
    refine j_aload_n (pc' := 37) q6_36 rfl (by decide) rfl ?_
    refine j_getr (k := 1) (q := 3) (pc' := 40) q6_37 rfl (hρ 1 3 3 rfl) rfl ?_
    refine j_iconst (pc' := 41) q6_40 rfl ?_
    refine j_bipush (pc' := 43) q6_41 rfl ?_
    refine j_acopy (ks := 68) (kd := 3) (pc' := 46) q6_43 rfl (by decide) (Nat.le_of_ble_eq_true rfl) rfl ?_
    refine j_nameS (fun τ4 => ?_)
    refine j_aload_n (pc' := 47) q6_46 rfl (by decide) rfl ?_
    refine j_getr (k := 66) (q := 69) (pc' := 50) q6_47 rfl (hρ 66 4 69 rfl) rfl ?_
    refine j_iconst (pc' := 51) q6_50 rfl ?_
    refine j_aload_n (pc' := 52) q6_51 rfl (by decide) rfl ?_
    refine j_getr (k := 1) (q := 4) (pc' := 55) q6_52 rfl (hρ 1 4 4 rfl) rfl ?_
    refine j_iconst (pc' := 56) q6_55 rfl ?_
    refine j_bipush (pc' := 58) q6_56 rfl ?_
    refine j_acopy (ks := 69) (kd := 4) (pc' := 61) q6_58 rfl (by decide) (Nat.le_of_ble_eq_true rfl) rfl ?_
    refine j_nameS (fun τ5 => ?_)
    refine j_aload_n (pc' := 62) q6_61 rfl (by decide) rfl ?_
    refine j_getr (k := 66) (q := 70) (pc' := 65) q6_62 rfl (hρ 66 5 70 rfl) rfl ?_
    refine j_iconst (pc' := 66) q6_65 rfl ?_
    refine j_aload_n (pc' := 67) q6_66 rfl (by decide) rfl ?_
    refine j_getr (k := 1) (q := 5) (pc' := 70) q6_67 rfl (hρ 1 5 5 rfl) rfl ?_
    refine j_iconst (pc' := 71) q6_70 rfl ?_
    refine j_bipush (pc' := 73) q6_71 rfl ?_
    refine j_acopy (ks := 70) (kd := 5) (pc' := 76) q6_73 rfl (by decide) (Nat.le_of_ble_eq_true rfl) rfl ?_
    refine j_nameS (fun τ6 => ?_)
    refine j_aload_n (pc' := 77) q6_76 rfl (by decide) rfl ?_
    refine j_getr (k := 66) (q := 71) (pc' := 80) q6_77 rfl (hρ 66 6 71 rfl) rfl ?_
    refine j_iconst (pc' := 81) q6_80 rfl ?_
    refine j_aload_n (pc' := 82) q6_81 rfl (by decide) rfl ?_
    refine j_getr (k := 1) (q := 6) (pc' := 85) q6_82 rfl (hρ 1 6 6 rfl) rfl ?_
    refine j_iconst (pc' := 86) q6_85 rfl ?_
    refine j_bipush (pc' := 88) q6_86 rfl ?_
    refine j_acopy (ks := 71) (kd := 6) (pc' := 91) q6_88 rfl (by decide) (Nat.le_of_ble_eq_true rfl) rfl ?_
    refine j_nameS (fun τ7 => ?_)
    refine j_aload_n (pc' := 92) q6_91 rfl (by decide) rfl ?_
    refine j_aload_n (pc' := 93) q6_92 rfl (by decide) rfl ?_
    refine j_getf (k := 66) (pc' := 96) q6_93 rfl rfl ?_
    refine j_putf (k := 1) (pc' := 99) q6_96 rfl rfl ?_
    refine j_nameS (fun τ8 => ?_)
    refine j_aload_n (pc' := 100) q6_99 rfl (by decide) rfl ?_
    refine j_getr (k := 1) (q := 7) (pc' := 103) q6_100 rfl (hρ 1 8 7 rfl) rfl ?_
    refine j_aload_n (pc' := 104) q6_103 rfl (by decide) rfl ?_
    refine j_getr (k := 66) (q := 72) (pc' := 107) q6_104 rfl (hρ 66 8 72 rfl) rfl ?_
    refine j_callV1_v (d := d + 0) (pc' := 110) q6_107 rfl (Nat.le_of_ble_eq_true rfl) (Nat.le_of_ble_eq_true rfl) rfl (t_Lw_copyFrom_7_72 hρ (d + 0) _) (fun r9 => ?_)
    refine j_aload_n (pc' := 111) q6_110 rfl (by decide) rfl ?_
    refine j_getr (k := 1) (q := 11) (pc' := 114) q6_111 rfl (hρ 1 9 11 rfl) rfl ?_
    refine j_aload_n (pc' := 115) q6_114 rfl (by decide) rfl ?_
    refine j_getr (k := 66) (q := 76) (pc' := 118) q6_115 rfl (hρ 66 9 76 rfl) rfl ?_
    refine j_callV1_v (d := d + 0) (pc' := 121) q6_118 rfl (Nat.le_of_ble_eq_true rfl) (Nat.le_of_ble_eq_true rfl) rfl (t_Sp_copyFrom_11_76 hρ (d + 0) _) (fun r10 => ?_)
    refine j_aload_n (pc' := 122) q6_121 rfl (by decide) rfl ?_
    refine j_aload_n (pc' := 123) q6_122 rfl (by decide) rfl ?_
    refine j_getf (k := 66) (pc' := 126) q6_123 rfl rfl ?_
    refine j_putf (k := 1) (pc' := 129) q6_126 rfl rfl ?_
    refine j_nameS (fun τ11 => ?_)
    refine j_aload_n (pc' := 130) q6_129 rfl (by decide) rfl ?_
    refine j_getr (k := 66) (q := 79) (pc' := 133) q6_130 rfl (hρ 66 11 79 rfl) rfl ?_
    refine j_iconst (pc' := 134) q6_133 rfl ?_
    refine j_aload_n (pc' := 135) q6_134 rfl (by decide) rfl ?_
    refine j_getr (k := 1) (q := 14) (pc' := 138) q6_135 rfl (hρ 1 11 14 rfl) rfl ?_
    refine j_iconst (pc' := 139) q6_138 rfl ?_
    refine j_iconst (pc' := 140) q6_139 rfl ?_
    refine j_acopy (ks := 79) (kd := 14) (pc' := 143) q6_140 rfl (by decide) (Nat.le_of_ble_eq_true rfl) rfl ?_
    refine j_nameS (fun τ12 => ?_)
    refine j_aload_n (pc' := 144) q6_143 rfl (by decide) rfl ?_
    refine j_aload_n (pc' := 145) q6_144 rfl (by decide) rfl ?_
    refine j_getf (k := 66) (pc' := 148) q6_145 rfl rfl ?_
    refine j_putf (k := 1) (pc' := 151) q6_148 rfl rfl ?_
    refine j_nameS (fun τ13 => ?_)
    refine j_aload_n (pc' := 152) q6_151 rfl (by decide) rfl ?_
    refine j_aload_n (pc' := 153) q6_152 rfl (by decide) rfl ?_
    refine j_getf (k := 66) (pc' := 156) q6_153 rfl rfl ?_
    refine j_putf (k := 1) (pc' := 159) q6_156 rfl rfl ?_
    refine j_nameS (fun τ14 => ?_)
    exact j_vret q6_159 rfl
theorem q142_0 : z_fi (z_mi 142) 0 = some (0, .iload_n 1, 0, 0, 0, 0, 0) := rfl
theorem q142_1 : z_fi (z_mi 142) 1 = some (1, .iconst 0, 0, 0, 0, 0, 0) := rfl
theorem q142_2 : z_fi (z_mi 142) 2 = some (2, .iconst 1, 0, 0, 0, 1, 0) := rfl
theorem q142_3 : z_fi (z_mi 142) 3 = some (3, .invokestatic 60, 1, 99, 3, 0, 0) := rfl
theorem q142_6 : z_fi (z_mi 142) 6 = some (6, .ifCond .ne 5, 0, 11, 0, 0, 0) := rfl
theorem q142_9 : z_fi (z_mi 142) 9 = some (9, .iconst (-1), 0, 0, 0, (-1), 0) := rfl
theorem q142_10 : z_fi (z_mi 142) 10 = some (10, .ireturn, 0, 0, 0, 0, 0) := rfl
theorem q142_11 : z_fi (z_mi 142) 11 = some (11, .aload_n 0, 0, 0, 0, 0, 0) := rfl
theorem q142_12 : z_fi (z_mi 142) 12 = some (12, .getfield 92, 0, 9, 8, 0, 0) := rfl
theorem q142_15 : z_fi (z_mi 142) 15 = some (15, .iload_n 1, 0, 0, 0, 0, 0) := rfl
theorem q142_16 : z_fi (z_mi 142) 16 = some (16, .iushr, 0, 0, 0, 0, 0) := rfl
theorem q142_17 : z_fi (z_mi 142) 17 = some (17, .iconst 1, 0, 0, 0, 1, 0) := rfl
theorem q142_18 : z_fi (z_mi 142) 18 = some (18, .iand, 0, 0, 0, 0, 0) := rfl
theorem q142_19 : z_fi (z_mi 142) 19 = some (19, .ifCond .ne 6, 0, 25, 0, 0, 0) := rfl
theorem q142_22 : z_fi (z_mi 142) 22 = some (22, .bipush (-2), 0, 0, 0, (-2), 0) := rfl
theorem q142_24 : z_fi (z_mi 142) 24 = some (24, .ireturn, 0, 0, 0, 0, 0) := rfl
theorem q142_25 : z_fi (z_mi 142) 25 = some (25, .aload_n 0, 0, 0, 0, 0, 0) := rfl
theorem q142_26 : z_fi (z_mi 142) 26 = some (26, .getfield 10, 0, 9, 0, 0, 0) := rfl
theorem q142_29 : z_fi (z_mi 142) 29 = some (29, .aload_n 0, 0, 0, 0, 0, 0) := rfl
theorem q142_30 : z_fi (z_mi 142) 30 = some (30, .getfield 19, 0, 9, 2, 0, 0) := rfl
theorem q142_33 : z_fi (z_mi 142) 33 = some (33, .iload_n 1, 0, 0, 0, 0, 0) := rfl
theorem q142_34 : z_fi (z_mi 142) 34 = some (34, .aaload, 0, 0, 0, 0, 0) := rfl
theorem q142_35 : z_fi (z_mi 142) 35 = some (35, .invokevirtual 85, 0, 6, 1, 0, 0) := rfl
theorem q142_38 : z_fi (z_mi 142) 38 = some (38, .aload_n 0, 0, 0, 0, 0, 0) := rfl
theorem q142_39 : z_fi (z_mi 142) 39 = some (39, .getfield 10, 0, 9, 0, 0, 0) := rfl
theorem q142_42 : z_fi (z_mi 142) 42 = some (42, .getfield 120, 0, 0, 10, 0, 0) := rfl
theorem q142_45 : z_fi (z_mi 142) 45 = some (45, .ireturn, 0, 0, 0, 0, 0) := rfl
set_option maxRecDepth 20000 in
set_option maxHeartbeats 4000000 in
theorem t_Y_back {xL : Nat} {xs : Nat → Int32} {ρ : Nat → Nat → Option Nat} (hρ : z_hR ρ) (d : Nat) (a1 : Int32) (σ : zS) : ∀ q, f_Y_back a1 σ = some q → z_ec xL xs ρ (d + 2) 142 [.ref 0, .int a1] σ (em_i q) := by
  refine j_of (W := [.ref 0, .int a1]) (fun L hL => ?_) ?_
  · subst hL; exact z_vl_0 _ 0 rfl
  · unfold f_Y_back
    refine j_iload_n (pc' := 1) q142_0 rfl rfl ?_
    refine j_iconst (pc' := 2) q142_1 rfl ?_
    refine j_iconst (pc' := 3) q142_2 rfl ?_
    refine j_callS3_pi (d := d + 1) (pc' := 6) q142_3 (Or.inl rfl) (Nat.le_of_ble_eq_true rfl) (Nat.le_of_ble_eq_true rfl) rfl (t_Y_isIn hρ (d + 1) _ _ _ _) (fun r1 => ?_)
    refine j_if_ne (pc' := 9) q142_6 rfl (fun c2 => ?_) (fun c2 => ?_)
    · refine j_iconst (pc' := 10) q142_9 rfl ?_
      exact j_iret q142_10 rfl
    · refine j_aload_n (pc' := 12) q142_11 rfl (by decide) rfl ?_
      refine j_getf (k := 0) (pc' := 15) q142_12 rfl rfl ?_
      refine j_iload_n (pc' := 16) q142_15 rfl rfl ?_
      refine j_iushr (pc' := 17) q142_16 rfl ?_
      refine j_iconst (pc' := 18) q142_17 rfl ?_
      refine j_iand (pc' := 19) q142_18 rfl ?_
      refine j_if_ne (pc' := 22) q142_19 rfl (fun c3 => ?_) (fun c3 => ?_)
      · refine j_bipush (pc' := 24) q142_22 rfl ?_
        exact j_iret q142_24 rfl
      · refine j_aload_n (pc' := 26) q142_25 rfl (by decide) rfl ?_
        refine j_getr (k := 0) (q := 1) (pc' := 29) q142_26 rfl (hρ 0 0 1 rfl) rfl ?_
        refine j_aload_n (pc' := 30) q142_29 rfl (by decide) rfl ?_
        refine j_getr (k := 0) (q := 33) (pc' := 33) q142_30 rfl (hρ 0 2 33 rfl) rfl ?_
        refine j_iload_n (pc' := 34) q142_33 rfl rfl ?_
        refine j_aimg (pc' := 35) hρ q142_34 rfl (fun _ => ?_) (fun _ => ?_)
        · refine j_callV1_v (d := d + 1) (pc' := 38) q142_35 rfl (Nat.le_of_ble_eq_true rfl) (Nat.le_of_ble_eq_true rfl) rfl (t_G_copyFrom_1_50 hρ (d + 0) _) (fun r4 => ?_)
          refine j_aload_n (pc' := 39) q142_38 rfl (by decide) rfl ?_
          refine j_getr (k := 0) (q := 1) (pc' := 42) q142_39 rfl (hρ 0 0 1 rfl) rfl ?_
          refine j_getf (k := 1) (pc' := 45) q142_42 rfl rfl ?_
          exact j_iret q142_45 rfl
        · refine j_callV1_v (d := d + 1) (pc' := 38) q142_35 rfl (Nat.le_of_ble_eq_true rfl) (Nat.le_of_ble_eq_true rfl) rfl (t_G_copyFrom_1_66 hρ (d + 0) _) (fun r5 => ?_)
          refine j_aload_n (pc' := 39) q142_38 rfl (by decide) rfl ?_
          refine j_getr (k := 0) (q := 1) (pc' := 42) q142_39 rfl (hρ 0 0 1 rfl) rfl ?_
          refine j_getf (k := 1) (pc' := 45) q142_42 rfl rfl ?_
          exact j_iret q142_45 rfl
set_option maxRecDepth 8000 in
theorem q225_0 : z_fi (z_mi 225) 0 = some (0, .iload_n 1, 0, 0, 0, 0, 0) := rfl
set_option maxRecDepth 8000 in
theorem q225_1 : z_fi (z_mi 225) 1 = some (1, .i2l, 0, 0, 0, 0, 0) := rfl
set_option maxRecDepth 8000 in
theorem q225_2 : z_fi (z_mi 225) 2 = some (2, .lconst 0, 0, 0, 0, 0, 0) := rfl
set_option maxRecDepth 8000 in
theorem q225_3 : z_fi (z_mi 225) 3 = some (3, .lconst 1, 0, 0, 0, 0, 1) := rfl
set_option maxRecDepth 8000 in
theorem q225_4 : z_fi (z_mi 225) 4 = some (4, .invokestatic 62, 1, 149, 3, 0, 0) := rfl
set_option maxRecDepth 8000 in
theorem q225_7 : z_fi (z_mi 225) 7 = some (7, .ifCond .ne 5, 0, 12, 0, 0, 0) := rfl
set_option maxRecDepth 8000 in
theorem q225_10 : z_fi (z_mi 225) 10 = some (10, .iconst (-1), 0, 0, 0, (-1), 0) := rfl
set_option maxRecDepth 8000 in
theorem q225_11 : z_fi (z_mi 225) 11 = some (11, .ireturn, 0, 0, 0, 0, 0) := rfl
set_option maxRecDepth 8000 in
theorem q225_12 : z_fi (z_mi 225) 12 = some (12, .aload_n 0, 0, 0, 0, 0, 0) := rfl
set_option maxRecDepth 8000 in
theorem q225_13 : z_fi (z_mi 225) 13 = some (13, .getfield 47, 0, 10, 27, 0, 0) := rfl
set_option maxRecDepth 8000 in
theorem q225_16 : z_fi (z_mi 225) 16 = some (16, .iload_n 1, 0, 0, 0, 0, 0) := rfl
set_option maxRecDepth 8000 in
theorem q225_17 : z_fi (z_mi 225) 17 = some (17, .baload, 0, 0, 0, 0, 0) := rfl
set_option maxRecDepth 8000 in
theorem q225_18 : z_fi (z_mi 225) 18 = some (18, .ifCond .ne 6, 0, 24, 0, 0, 0) := rfl
set_option maxRecDepth 8000 in
theorem q225_21 : z_fi (z_mi 225) 21 = some (21, .bipush (-2), 0, 0, 0, (-2), 0) := rfl
set_option maxRecDepth 8000 in
theorem q225_23 : z_fi (z_mi 225) 23 = some (23, .ireturn, 0, 0, 0, 0, 0) := rfl
set_option maxRecDepth 8000 in
theorem q225_24 : z_fi (z_mi 225) 24 = some (24, .aload_n 0, 0, 0, 0, 0, 0) := rfl
set_option maxRecDepth 8000 in
theorem q225_25 : z_fi (z_mi 225) 25 = some (25, .bipush 110, 0, 0, 0, 110, 0) := rfl
set_option maxRecDepth 8000 in
theorem q225_27 : z_fi (z_mi 225) 27 = some (27, .iload_n 1, 0, 0, 0, 0, 0) := rfl
set_option maxRecDepth 8000 in
theorem q225_28 : z_fi (z_mi 225) 28 = some (28, .iconst 1, 0, 0, 0, 1, 0) := rfl
set_option maxRecDepth 8000 in
theorem q225_29 : z_fi (z_mi 225) 29 = some (29, .iadd, 0, 0, 0, 0, 0) := rfl
set_option maxRecDepth 8000 in
theorem q225_30 : z_fi (z_mi 225) 30 = some (30, .imul, 0, 0, 0, 0, 0) := rfl
set_option maxRecDepth 8000 in
theorem q225_31 : z_fi (z_mi 225) 31 = some (31, .iconst 0, 0, 0, 0, 0, 0) := rfl
set_option maxRecDepth 8000 in
theorem q225_32 : z_fi (z_mi 225) 32 = some (32, .invokevirtual 227, 0, 195, 2, 0, 0) := rfl
set_option maxRecDepth 8000 in
theorem q225_35 : z_fi (z_mi 225) 35 = some (35, .aload_n 0, 0, 0, 0, 0, 0) := rfl
set_option maxRecDepth 8000 in
theorem q225_36 : z_fi (z_mi 225) 36 = some (36, .getfield 7, 0, 10, 0, 0, 0) := rfl
set_option maxRecDepth 8000 in
theorem q225_39 : z_fi (z_mi 225) 39 = some (39, .bipush 105, 0, 0, 0, 105, 0) := rfl
set_option maxRecDepth 8000 in
theorem q225_41 : z_fi (z_mi 225) 41 = some (41, .iaload, 0, 0, 0, 0, 0) := rfl
set_option maxRecDepth 8000 in
theorem q225_42 : z_fi (z_mi 225) 42 = some (42, .ireturn, 0, 0, 0, 0, 0) := rfl
set_option maxRecDepth 20000 in
set_option maxHeartbeats 4000000 in
theorem t_M_back {xL : Nat} {xs : Nat → Int32} {ρ : Nat → Nat → Option Nat} (hρ : z_hR ρ) (d : Nat) (a1 : Int32) (σ : zS) : ∀ q, f_M_back a1 σ = some q → z_ec xL xs ρ (d + 1) 225 [.ref 90, .int a1] σ (em_i q) := by
  refine j_of (W := [.ref 90, .int a1]) (fun L hL => ?_) ?_
  · subst hL; exact z_vl_0 _ 0 rfl
  · unfold f_M_back
    refine j_iload_n (pc' := 1) q225_0 rfl rfl ?_
    refine j_i2l (pc' := 2) q225_1 rfl ?_
    refine j_lconst (pc' := 3) q225_2 rfl ?_
    refine j_lconst (pc' := 4) q225_3 rfl ?_
    refine j_callS3_pi (d := d + 0) (pc' := 7) q225_4 (Or.inl rfl) (Nat.le_of_ble_eq_true rfl) (Nat.le_of_ble_eq_true rfl) rfl (t_M_in hρ (d + 0) _ _ _ _) (fun r1 => ?_)
    refine j_if_ne (pc' := 10) q225_7 rfl (fun c2 => ?_) (fun c2 => ?_)
    · refine j_iconst (pc' := 11) q225_10 rfl ?_
      exact j_iret q225_11 rfl
    · refine j_aload_n (pc' := 13) q225_12 rfl (by decide) rfl ?_
      refine j_getr (k := 90) (q := 101) (pc' := 16) q225_13 rfl (hρ 90 27 101 rfl) rfl ?_
      refine j_iload_n (pc' := 17) q225_16 rfl rfl ?_
      refine j_if (fun hi3 => ?_) (fun _ => j_none)
      refine j_bald (k := 101) (N := 2) (pc' := 18) q225_17 (Or.inr rfl) hi3 rfl ?_
      refine j_if_ne (pc' := 21) q225_18 rfl (fun c4 => ?_) (fun c4 => ?_)
      · refine j_bipush (pc' := 23) q225_21 rfl ?_
        exact j_iret q225_23 rfl
      · refine j_aload_n (pc' := 25) q225_24 rfl (by decide) rfl ?_
        refine j_bipush (pc' := 27) q225_25 rfl ?_
        refine j_iload_n (pc' := 28) q225_27 rfl rfl ?_
        refine j_iconst (pc' := 29) q225_28 rfl ?_
        refine j_iadd (pc' := 30) q225_29 rfl ?_
        refine j_imul (pc' := 31) q225_30 rfl ?_
        refine j_iconst (pc' := 32) q225_31 rfl ?_
        refine j_callV2_v (d := d + 0) (pc' := 35) q225_32 rfl (Nat.le_of_ble_eq_true rfl) (Nat.le_of_ble_eq_true rfl) rfl (t_M_copies hρ (d + 0) _ _ _) (fun r5 => ?_)
        refine j_aload_n (pc' := 36) q225_35 rfl (by decide) rfl ?_
        refine j_getr (k := 90) (q := 91) (pc' := 39) q225_36 rfl (hρ 90 0 91 rfl) rfl ?_
        refine j_bipush (pc' := 41) q225_39 rfl ?_
        refine j_iald (k := 91) (N := 550) (pc' := 42) q225_41 rfl (by decide) rfl ?_
        exact j_iret q225_42 rfl
set_option maxRecDepth 20000 in
set_option maxHeartbeats 4000000 in
theorem t_JA_fill_83 {xL : Nat} {xs : Nat → Int32} {ρ : Nat → Nat → Option Nat} (hρ : z_hR ρ) (d : Nat) (a1 : Int32) (σ : zS) : ∀ q, f_JA_fill_83 a1 σ = some q → z_ec xL xs ρ (d + 0) 240 [.ref 83, .int a1] σ (em_v q) := by
  refine j_of (W := [.ref 83, .int a1, .null, .null]) (fun L hL => ?_) ?_
  · subst hL; exact z_vl_0 _ 2 rfl
  · unfold f_JA_fill_83
    refine j_iconst (pc' := 1) q240_0 rfl ?_
    refine j_istore2 (pc' := 2) q240_1 rfl (Nat.le_of_ble_eq_true rfl) rfl ?_
    refine j_aload_n (pc' := 3) q240_2 rfl (by decide) rfl ?_
    refine j_alen (k := 83) (N := 40) (pc' := 4) q240_3 ⟨Nat.le_of_ble_eq_true rfl, by decide, rfl⟩ rfl ?_
    refine j_istore3 (pc' := 5) q240_4 rfl (Nat.le_of_ble_eq_true rfl) rfl ?_
    refine j_forget (V' := [.ref 83, .int a1, .int (0 : Int32), .int (40 : Int32)]) (z_le_s (z_le_s (z_le_s (z_le_s (z_le_nil))))) ?_
    refine j_loopX (S := Int32 × zS) (E := zS) (fun e => e) 20 (fun s1 => [.ref 83, .int a1, .int s1.1, .int (40 : Int32)]) (fun s1 => s1.2) (fun b1 => [.null, .null, .null, .null]) (fun b1 => b1) (fun b1 => ?_) (fun R1 hR1 hX1 s1 => ?_) ((0 : Int32), σ)
    · show z_J _ _ _ _ _ _ _ _ _ _ _ _
      exact j_vret q240_20 rfl
    · show z_J _ _ _ _ _ _ _ _ _ _ _ _
      refine j_iload_n (pc' := 6) q240_5 rfl rfl ?_
      refine j_iload_n (pc' := 7) q240_6 rfl rfl ?_
      refine j_icmp_ge (pc' := 10) q240_7 rfl (fun c2 => ?_) (fun c2 => ?_)
      · exact j_exit (j_forget (z_le_n (z_le_n (z_le_n (z_le_n (z_le_nil))))) (hX1 s1.2))
      · refine j_aload_n (pc' := 11) q240_10 rfl (by decide) rfl ?_
        refine j_iload_n (pc' := 12) q240_11 rfl rfl ?_
        refine j_iload_n (pc' := 13) q240_12 rfl rfl ?_
        refine j_if (fun hi3 => ?_) (fun _ => j_none)
        refine j_iast (k := 83) (N := 40) (pc' := 14) q240_13 rfl hi3 rfl ?_
        refine j_nameS (fun τ4 => ?_)
        refine j_iinc2 (pc' := 17) q240_14 rfl (Nat.le_of_ble_eq_true rfl) rfl ?_
        refine j_goto q240_17 rfl ?_
        exact j_again (j_forget (z_le_s (z_le_s (z_le_s (z_le_s (z_le_nil))))) (hR1 ((s1.1 + (1 : Int32)), τ4)))
theorem q56_0 : z_fi (z_mi 56) 0 = some (0, .aload_n 0, 0, 0, 0, 0, 0) := rfl
theorem q56_1 : z_fi (z_mi 56) 1 = some (1, .iload_n 1, 0, 0, 0, 0, 0) := rfl
theorem q56_2 : z_fi (z_mi 56) 2 = some (2, .putfield 19, 0, 3, 1, 0, 0) := rfl
theorem q56_5 : z_fi (z_mi 56) 5 = some (5, .aload_n 0, 0, 0, 0, 0, 0) := rfl
theorem q56_6 : z_fi (z_mi 56) 6 = some (6, .iload_n 2, 0, 0, 0, 0, 0) := rfl
theorem q56_7 : z_fi (z_mi 56) 7 = some (7, .putfield 15, 0, 3, 2, 0, 0) := rfl
theorem q56_10 : z_fi (z_mi 56) 10 = some (10, .aload_n 0, 0, 0, 0, 0, 0) := rfl
theorem q56_11 : z_fi (z_mi 56) 11 = some (11, .getfield 11, 0, 3, 0, 0, 0) := rfl
theorem q56_14 : z_fi (z_mi 56) 14 = some (14, .iconst 0, 0, 0, 0, 0, 0) := rfl
theorem q56_15 : z_fi (z_mi 56) 15 = some (15, .invokestatic 22, 1, 240, 2, 0, 0) := rfl
theorem q56_18 : z_fi (z_mi 56) 18 = some (18, .return_, 0, 0, 0, 0, 0) := rfl
set_option maxRecDepth 20000 in
set_option maxHeartbeats 4000000 in
theorem t_Sh_begin_82 {xL : Nat} {xs : Nat → Int32} {ρ : Nat → Nat → Option Nat} (hρ : z_hR ρ) (d : Nat) (a1 : Int32) (a2 : Int32) (σ : zS) : ∀ q, f_Sh_begin_82 a1 a2 σ = some q → z_ec xL xs ρ (d + 1) 56 [.ref 82, .int a1, .int a2] σ (em_v q) := by
  refine j_of (W := [.ref 82, .int a1, .int a2]) (fun L hL => ?_) ?_
  · subst hL; exact z_vl_0 _ 0 rfl
  · unfold f_Sh_begin_82
    refine j_aload_n (pc' := 1) q56_0 rfl (by decide) rfl ?_
    refine j_iload_n (pc' := 2) q56_1 rfl rfl ?_
    refine j_putf (k := 82) (pc' := 5) q56_2 rfl rfl ?_
    refine j_nameS (fun τ1 => ?_)
    refine j_aload_n (pc' := 6) q56_5 rfl (by decide) rfl ?_
    refine j_iload_n (pc' := 7) q56_6 rfl rfl ?_
    refine j_putf (k := 82) (pc' := 10) q56_7 rfl rfl ?_
    refine j_nameS (fun τ2 => ?_)
    refine j_aload_n (pc' := 11) q56_10 rfl (by decide) rfl ?_
    refine j_getr (k := 82) (q := 83) (pc' := 14) q56_11 rfl (hρ 82 0 83 rfl) rfl ?_
    refine j_iconst (pc' := 15) q56_14 rfl ?_
    refine j_callS2_v (d := d + 0) (pc' := 18) q56_15 (Or.inl rfl) (Nat.le_of_ble_eq_true rfl) (Nat.le_of_ble_eq_true rfl) rfl (t_JA_fill_83 hρ (d + 0) _ _) (fun r3 => ?_)
    exact j_vret q56_18 rfl
set_option maxRecDepth 20000 in
set_option maxHeartbeats 4000000 in
theorem t_JA_fill_85 {xL : Nat} {xs : Nat → Int32} {ρ : Nat → Nat → Option Nat} (hρ : z_hR ρ) (d : Nat) (a1 : Int32) (σ : zS) : ∀ q, f_JA_fill_85 a1 σ = some q → z_ec xL xs ρ (d + 0) 240 [.ref 85, .int a1] σ (em_v q) := by
  refine j_of (W := [.ref 85, .int a1, .null, .null]) (fun L hL => ?_) ?_
  · subst hL; exact z_vl_0 _ 2 rfl
  · unfold f_JA_fill_85
    refine j_iconst (pc' := 1) q240_0 rfl ?_
    refine j_istore2 (pc' := 2) q240_1 rfl (Nat.le_of_ble_eq_true rfl) rfl ?_
    refine j_aload_n (pc' := 3) q240_2 rfl (by decide) rfl ?_
    refine j_alen (k := 85) (N := 40) (pc' := 4) q240_3 ⟨Nat.le_of_ble_eq_true rfl, by decide, rfl⟩ rfl ?_
    refine j_istore3 (pc' := 5) q240_4 rfl (Nat.le_of_ble_eq_true rfl) rfl ?_
    refine j_forget (V' := [.ref 85, .int a1, .int (0 : Int32), .int (40 : Int32)]) (z_le_s (z_le_s (z_le_s (z_le_s (z_le_nil))))) ?_
    refine j_loopX (S := Int32 × zS) (E := zS) (fun e => e) 20 (fun s1 => [.ref 85, .int a1, .int s1.1, .int (40 : Int32)]) (fun s1 => s1.2) (fun b1 => [.null, .null, .null, .null]) (fun b1 => b1) (fun b1 => ?_) (fun R1 hR1 hX1 s1 => ?_) ((0 : Int32), σ)
    · show z_J _ _ _ _ _ _ _ _ _ _ _ _
      exact j_vret q240_20 rfl
    · show z_J _ _ _ _ _ _ _ _ _ _ _ _
      refine j_iload_n (pc' := 6) q240_5 rfl rfl ?_
      refine j_iload_n (pc' := 7) q240_6 rfl rfl ?_
      refine j_icmp_ge (pc' := 10) q240_7 rfl (fun c2 => ?_) (fun c2 => ?_)
      · exact j_exit (j_forget (z_le_n (z_le_n (z_le_n (z_le_n (z_le_nil))))) (hX1 s1.2))
      · refine j_aload_n (pc' := 11) q240_10 rfl (by decide) rfl ?_
        refine j_iload_n (pc' := 12) q240_11 rfl rfl ?_
        refine j_iload_n (pc' := 13) q240_12 rfl rfl ?_
        refine j_if (fun hi3 => ?_) (fun _ => j_none)
        refine j_iast (k := 85) (N := 40) (pc' := 14) q240_13 rfl hi3 rfl ?_
        refine j_nameS (fun τ4 => ?_)
        refine j_iinc2 (pc' := 17) q240_14 rfl (Nat.le_of_ble_eq_true rfl) rfl ?_
        refine j_goto q240_17 rfl ?_
        exact j_again (j_forget (z_le_s (z_le_s (z_le_s (z_le_s (z_le_nil))))) (hR1 ((s1.1 + (1 : Int32)), τ4)))
set_option maxRecDepth 20000 in
set_option maxHeartbeats 4000000 in
theorem t_Sh_begin_84 {xL : Nat} {xs : Nat → Int32} {ρ : Nat → Nat → Option Nat} (hρ : z_hR ρ) (d : Nat) (a1 : Int32) (a2 : Int32) (σ : zS) : ∀ q, f_Sh_begin_84 a1 a2 σ = some q → z_ec xL xs ρ (d + 1) 56 [.ref 84, .int a1, .int a2] σ (em_v q) := by
  refine j_of (W := [.ref 84, .int a1, .int a2]) (fun L hL => ?_) ?_
  · subst hL; exact z_vl_0 _ 0 rfl
  · unfold f_Sh_begin_84
    refine j_aload_n (pc' := 1) q56_0 rfl (by decide) rfl ?_
    refine j_iload_n (pc' := 2) q56_1 rfl rfl ?_
    refine j_putf (k := 84) (pc' := 5) q56_2 rfl rfl ?_
    refine j_nameS (fun τ1 => ?_)
    refine j_aload_n (pc' := 6) q56_5 rfl (by decide) rfl ?_
    refine j_iload_n (pc' := 7) q56_6 rfl rfl ?_
    refine j_putf (k := 84) (pc' := 10) q56_7 rfl rfl ?_
    refine j_nameS (fun τ2 => ?_)
    refine j_aload_n (pc' := 11) q56_10 rfl (by decide) rfl ?_
    refine j_getr (k := 84) (q := 85) (pc' := 14) q56_11 rfl (hρ 84 0 85 rfl) rfl ?_
    refine j_iconst (pc' := 15) q56_14 rfl ?_
    refine j_callS2_v (d := d + 0) (pc' := 18) q56_15 (Or.inl rfl) (Nat.le_of_ble_eq_true rfl) (Nat.le_of_ble_eq_true rfl) rfl (t_JA_fill_85 hρ (d + 0) _ _) (fun r3 => ?_)
    exact j_vret q56_18 rfl
set_option maxRecDepth 20000 in
set_option maxHeartbeats 4000000 in
theorem t_JA_fill_87 {xL : Nat} {xs : Nat → Int32} {ρ : Nat → Nat → Option Nat} (hρ : z_hR ρ) (d : Nat) (a1 : Int32) (σ : zS) : ∀ q, f_JA_fill_87 a1 σ = some q → z_ec xL xs ρ (d + 0) 240 [.ref 87, .int a1] σ (em_v q) := by
  refine j_of (W := [.ref 87, .int a1, .null, .null]) (fun L hL => ?_) ?_
  · subst hL; exact z_vl_0 _ 2 rfl
  · unfold f_JA_fill_87
    refine j_iconst (pc' := 1) q240_0 rfl ?_
    refine j_istore2 (pc' := 2) q240_1 rfl (Nat.le_of_ble_eq_true rfl) rfl ?_
    refine j_aload_n (pc' := 3) q240_2 rfl (by decide) rfl ?_
    refine j_alen (k := 87) (N := 40) (pc' := 4) q240_3 ⟨Nat.le_of_ble_eq_true rfl, by decide, rfl⟩ rfl ?_
    refine j_istore3 (pc' := 5) q240_4 rfl (Nat.le_of_ble_eq_true rfl) rfl ?_
    refine j_forget (V' := [.ref 87, .int a1, .int (0 : Int32), .int (40 : Int32)]) (z_le_s (z_le_s (z_le_s (z_le_s (z_le_nil))))) ?_
    refine j_loopX (S := Int32 × zS) (E := zS) (fun e => e) 20 (fun s1 => [.ref 87, .int a1, .int s1.1, .int (40 : Int32)]) (fun s1 => s1.2) (fun b1 => [.null, .null, .null, .null]) (fun b1 => b1) (fun b1 => ?_) (fun R1 hR1 hX1 s1 => ?_) ((0 : Int32), σ)
    · show z_J _ _ _ _ _ _ _ _ _ _ _ _
      exact j_vret q240_20 rfl
    · show z_J _ _ _ _ _ _ _ _ _ _ _ _
      refine j_iload_n (pc' := 6) q240_5 rfl rfl ?_
      refine j_iload_n (pc' := 7) q240_6 rfl rfl ?_
      refine j_icmp_ge (pc' := 10) q240_7 rfl (fun c2 => ?_) (fun c2 => ?_)
      · exact j_exit (j_forget (z_le_n (z_le_n (z_le_n (z_le_n (z_le_nil))))) (hX1 s1.2))
      · refine j_aload_n (pc' := 11) q240_10 rfl (by decide) rfl ?_
        refine j_iload_n (pc' := 12) q240_11 rfl rfl ?_
        refine j_iload_n (pc' := 13) q240_12 rfl rfl ?_
        refine j_if (fun hi3 => ?_) (fun _ => j_none)
        refine j_iast (k := 87) (N := 40) (pc' := 14) q240_13 rfl hi3 rfl ?_
        refine j_nameS (fun τ4 => ?_)
        refine j_iinc2 (pc' := 17) q240_14 rfl (Nat.le_of_ble_eq_true rfl) rfl ?_
        refine j_goto q240_17 rfl ?_
        exact j_again (j_forget (z_le_s (z_le_s (z_le_s (z_le_s (z_le_nil))))) (hR1 ((s1.1 + (1 : Int32)), τ4)))
set_option maxRecDepth 20000 in
set_option maxHeartbeats 4000000 in
theorem t_Sh_begin_86 {xL : Nat} {xs : Nat → Int32} {ρ : Nat → Nat → Option Nat} (hρ : z_hR ρ) (d : Nat) (a1 : Int32) (a2 : Int32) (σ : zS) : ∀ q, f_Sh_begin_86 a1 a2 σ = some q → z_ec xL xs ρ (d + 1) 56 [.ref 86, .int a1, .int a2] σ (em_v q) := by
  refine j_of (W := [.ref 86, .int a1, .int a2]) (fun L hL => ?_) ?_
  · subst hL; exact z_vl_0 _ 0 rfl
  · unfold f_Sh_begin_86
    refine j_aload_n (pc' := 1) q56_0 rfl (by decide) rfl ?_
    refine j_iload_n (pc' := 2) q56_1 rfl rfl ?_
    refine j_putf (k := 86) (pc' := 5) q56_2 rfl rfl ?_
    refine j_nameS (fun τ1 => ?_)
    refine j_aload_n (pc' := 6) q56_5 rfl (by decide) rfl ?_
    refine j_iload_n (pc' := 7) q56_6 rfl rfl ?_
    refine j_putf (k := 86) (pc' := 10) q56_7 rfl rfl ?_
    refine j_nameS (fun τ2 => ?_)
    refine j_aload_n (pc' := 11) q56_10 rfl (by decide) rfl ?_
    refine j_getr (k := 86) (q := 87) (pc' := 14) q56_11 rfl (hρ 86 0 87 rfl) rfl ?_
    refine j_iconst (pc' := 15) q56_14 rfl ?_
    refine j_callS2_v (d := d + 0) (pc' := 18) q56_15 (Or.inl rfl) (Nat.le_of_ble_eq_true rfl) (Nat.le_of_ble_eq_true rfl) rfl (t_JA_fill_87 hρ (d + 0) _ _) (fun r3 => ?_)
    exact j_vret q56_18 rfl
set_option maxRecDepth 20000 in
set_option maxHeartbeats 4000000 in
theorem t_JA_fill_89 {xL : Nat} {xs : Nat → Int32} {ρ : Nat → Nat → Option Nat} (hρ : z_hR ρ) (d : Nat) (a1 : Int32) (σ : zS) : ∀ q, f_JA_fill_89 a1 σ = some q → z_ec xL xs ρ (d + 0) 240 [.ref 89, .int a1] σ (em_v q) := by
  refine j_of (W := [.ref 89, .int a1, .null, .null]) (fun L hL => ?_) ?_
  · subst hL; exact z_vl_0 _ 2 rfl
  · unfold f_JA_fill_89
    refine j_iconst (pc' := 1) q240_0 rfl ?_
    refine j_istore2 (pc' := 2) q240_1 rfl (Nat.le_of_ble_eq_true rfl) rfl ?_
    refine j_aload_n (pc' := 3) q240_2 rfl (by decide) rfl ?_
    refine j_alen (k := 89) (N := 40) (pc' := 4) q240_3 ⟨Nat.le_of_ble_eq_true rfl, by decide, rfl⟩ rfl ?_
    refine j_istore3 (pc' := 5) q240_4 rfl (Nat.le_of_ble_eq_true rfl) rfl ?_
    refine j_forget (V' := [.ref 89, .int a1, .int (0 : Int32), .int (40 : Int32)]) (z_le_s (z_le_s (z_le_s (z_le_s (z_le_nil))))) ?_
    refine j_loopX (S := Int32 × zS) (E := zS) (fun e => e) 20 (fun s1 => [.ref 89, .int a1, .int s1.1, .int (40 : Int32)]) (fun s1 => s1.2) (fun b1 => [.null, .null, .null, .null]) (fun b1 => b1) (fun b1 => ?_) (fun R1 hR1 hX1 s1 => ?_) ((0 : Int32), σ)
    · show z_J _ _ _ _ _ _ _ _ _ _ _ _
      exact j_vret q240_20 rfl
    · show z_J _ _ _ _ _ _ _ _ _ _ _ _
      refine j_iload_n (pc' := 6) q240_5 rfl rfl ?_
      refine j_iload_n (pc' := 7) q240_6 rfl rfl ?_
      refine j_icmp_ge (pc' := 10) q240_7 rfl (fun c2 => ?_) (fun c2 => ?_)
      · exact j_exit (j_forget (z_le_n (z_le_n (z_le_n (z_le_n (z_le_nil))))) (hX1 s1.2))
      · refine j_aload_n (pc' := 11) q240_10 rfl (by decide) rfl ?_
        refine j_iload_n (pc' := 12) q240_11 rfl rfl ?_
        refine j_iload_n (pc' := 13) q240_12 rfl rfl ?_
        refine j_if (fun hi3 => ?_) (fun _ => j_none)
        refine j_iast (k := 89) (N := 40) (pc' := 14) q240_13 rfl hi3 rfl ?_
        refine j_nameS (fun τ4 => ?_)
        refine j_iinc2 (pc' := 17) q240_14 rfl (Nat.le_of_ble_eq_true rfl) rfl ?_
        refine j_goto q240_17 rfl ?_
        exact j_again (j_forget (z_le_s (z_le_s (z_le_s (z_le_s (z_le_nil))))) (hR1 ((s1.1 + (1 : Int32)), τ4)))
set_option maxRecDepth 20000 in
set_option maxHeartbeats 4000000 in
theorem t_Sh_begin_88 {xL : Nat} {xs : Nat → Int32} {ρ : Nat → Nat → Option Nat} (hρ : z_hR ρ) (d : Nat) (a1 : Int32) (a2 : Int32) (σ : zS) : ∀ q, f_Sh_begin_88 a1 a2 σ = some q → z_ec xL xs ρ (d + 1) 56 [.ref 88, .int a1, .int a2] σ (em_v q) := by
  refine j_of (W := [.ref 88, .int a1, .int a2]) (fun L hL => ?_) ?_
  · subst hL; exact z_vl_0 _ 0 rfl
  · unfold f_Sh_begin_88
    refine j_aload_n (pc' := 1) q56_0 rfl (by decide) rfl ?_
    refine j_iload_n (pc' := 2) q56_1 rfl rfl ?_
    refine j_putf (k := 88) (pc' := 5) q56_2 rfl rfl ?_
    refine j_nameS (fun τ1 => ?_)
    refine j_aload_n (pc' := 6) q56_5 rfl (by decide) rfl ?_
    refine j_iload_n (pc' := 7) q56_6 rfl rfl ?_
    refine j_putf (k := 88) (pc' := 10) q56_7 rfl rfl ?_
    refine j_nameS (fun τ2 => ?_)
    refine j_aload_n (pc' := 11) q56_10 rfl (by decide) rfl ?_
    refine j_getr (k := 88) (q := 89) (pc' := 14) q56_11 rfl (hρ 88 0 89 rfl) rfl ?_
    refine j_iconst (pc' := 15) q56_14 rfl ?_
    refine j_callS2_v (d := d + 0) (pc' := 18) q56_15 (Or.inl rfl) (Nat.le_of_ble_eq_true rfl) (Nat.le_of_ble_eq_true rfl) rfl (t_JA_fill_89 hρ (d + 0) _ _) (fun r3 => ?_)
    exact j_vret q56_18 rfl
theorem q143_0 : z_fi (z_mi 143) 0 = some (0, .iload_n 1, 0, 0, 0, 0, 0) := rfl
theorem q143_1 : z_fi (z_mi 143) 1 = some (1, .iconst 0, 0, 0, 0, 0, 0) := rfl
theorem q143_2 : z_fi (z_mi 143) 2 = some (2, .iconst 3, 0, 0, 0, 3, 0) := rfl
theorem q143_3 : z_fi (z_mi 143) 3 = some (3, .invokestatic 60, 1, 99, 3, 0, 0) := rfl
theorem q143_6 : z_fi (z_mi 143) 6 = some (6, .ifCond .eq 18, 0, 24, 0, 0, 0) := rfl
theorem q143_9 : z_fi (z_mi 143) 9 = some (9, .iload_n 2, 0, 0, 0, 0, 0) := rfl
theorem q143_10 : z_fi (z_mi 143) 10 = some (10, .iconst 0, 0, 0, 0, 0, 0) := rfl
theorem q143_11 : z_fi (z_mi 143) 11 = some (11, .iconst 2, 0, 0, 0, 2, 0) := rfl
theorem q143_12 : z_fi (z_mi 143) 12 = some (12, .invokestatic 60, 1, 99, 3, 0, 0) := rfl
theorem q143_15 : z_fi (z_mi 143) 15 = some (15, .ifCond .eq 9, 0, 24, 0, 0, 0) := rfl
theorem q143_18 : z_fi (z_mi 143) 18 = some (18, .iload_n 3, 0, 0, 0, 0, 0) := rfl
theorem q143_19 : z_fi (z_mi 143) 19 = some (19, .bipush 40, 0, 0, 0, 40, 0) := rfl
theorem q143_21 : z_fi (z_mi 143) 21 = some (21, .if_icmp .le 5, 0, 26, 0, 0, 0) := rfl
theorem q143_24 : z_fi (z_mi 143) 24 = some (24, .iconst (-1), 0, 0, 0, (-1), 0) := rfl
theorem q143_25 : z_fi (z_mi 143) 25 = some (25, .ireturn, 0, 0, 0, 0, 0) := rfl
theorem q143_26 : z_fi (z_mi 143) 26 = some (26, .iload_n 3, 0, 0, 0, 0, 0) := rfl
theorem q143_27 : z_fi (z_mi 143) 27 = some (27, .ifCond .ge 6, 0, 33, 0, 0, 0) := rfl
theorem q143_30 : z_fi (z_mi 143) 30 = some (30, .bipush (-14), 0, 0, 0, (-14), 0) := rfl
theorem q143_32 : z_fi (z_mi 143) 32 = some (32, .ireturn, 0, 0, 0, 0, 0) := rfl
theorem q143_33 : z_fi (z_mi 143) 33 = some (33, .aload_n 0, 0, 0, 0, 0, 0) := rfl
theorem q143_34 : z_fi (z_mi 143) 34 = some (34, .getfield 25, 0, 9, 3, 0, 0) := rfl
theorem q143_37 : z_fi (z_mi 143) 37 = some (37, .iload_n 1, 0, 0, 0, 0, 0) := rfl
theorem q143_38 : z_fi (z_mi 143) 38 = some (38, .aaload, 0, 0, 0, 0, 0) := rfl
theorem q143_39 : z_fi (z_mi 143) 39 = some (39, .iload_n 2, 0, 0, 0, 0, 0) := rfl
theorem q143_40 : z_fi (z_mi 143) 40 = some (40, .iload_n 3, 0, 0, 0, 0, 0) := rfl
theorem q143_41 : z_fi (z_mi 143) 41 = some (41, .invokevirtual 277, 0, 56, 2, 0, 0) := rfl
theorem q143_44 : z_fi (z_mi 143) 44 = some (44, .iconst 1, 0, 0, 0, 1, 0) := rfl
theorem q143_45 : z_fi (z_mi 143) 45 = some (45, .ireturn, 0, 0, 0, 0, 0) := rfl
set_option maxRecDepth 20000 in
set_option maxHeartbeats 4000000 in
theorem t_Y_sheet {xL : Nat} {xs : Nat → Int32} {ρ : Nat → Nat → Option Nat} (hρ : z_hR ρ) (d : Nat) (a1 : Int32) (a2 : Int32) (a3 : Int32) (σ : zS) : ∀ q, f_Y_sheet a1 a2 a3 σ = some q → z_ec xL xs ρ (d + 2) 143 [.ref 0, .int a1, .int a2, .int a3] σ (em_i q) := by
  refine j_of (W := [.ref 0, .int a1, .int a2, .int a3]) (fun L hL => ?_) ?_
  · subst hL; exact z_vl_0 _ 0 rfl
  · unfold f_Y_sheet
    refine j_iload_n (pc' := 1) q143_0 rfl rfl ?_
    refine j_iconst (pc' := 2) q143_1 rfl ?_
    refine j_iconst (pc' := 3) q143_2 rfl ?_
    refine j_callS3_pi (d := d + 1) (pc' := 6) q143_3 (Or.inl rfl) (Nat.le_of_ble_eq_true rfl) (Nat.le_of_ble_eq_true rfl) rfl (t_Y_isIn hρ (d + 1) _ _ _ _) (fun r1 => ?_)
    refine j_if_eq (pc' := 9) q143_6 rfl (fun c2 => ?_) (fun c2 => ?_)
    · refine j_iconst (pc' := 25) q143_24 rfl ?_
      exact j_iret q143_25 rfl
    · refine j_iload_n (pc' := 10) q143_9 rfl rfl ?_
      refine j_iconst (pc' := 11) q143_10 rfl ?_
      refine j_iconst (pc' := 12) q143_11 rfl ?_
      refine j_callS3_pi (d := d + 1) (pc' := 15) q143_12 (Or.inl rfl) (Nat.le_of_ble_eq_true rfl) (Nat.le_of_ble_eq_true rfl) rfl (t_Y_isIn hρ (d + 1) _ _ _ _) (fun r3 => ?_)
      refine j_if_eq (pc' := 18) q143_15 rfl (fun c4 => ?_) (fun c4 => ?_)
      · refine j_iconst (pc' := 25) q143_24 rfl ?_
        exact j_iret q143_25 rfl
      · refine j_iload_n (pc' := 19) q143_18 rfl rfl ?_
        refine j_bipush (pc' := 21) q143_19 rfl ?_
        refine j_icmp_le (pc' := 24) q143_21 rfl (fun c5 => ?_) (fun c5 => ?_)
        · refine j_iload_n (pc' := 27) q143_26 rfl rfl ?_
          refine j_if_ge (pc' := 30) q143_27 rfl (fun c6 => ?_) (fun c6 => ?_)
          · refine j_aload_n (pc' := 34) q143_33 rfl (by decide) rfl ?_
            refine j_getr (k := 0) (q := 34) (pc' := 37) q143_34 rfl (hρ 0 3 34 rfl) rfl ?_
            refine j_iload_n (pc' := 38) q143_37 rfl rfl ?_
            refine j_asht (pc' := 39) hρ q143_38 rfl (fun _ => ?_) (fun _ => ?_) (fun _ => ?_) (fun _ => ?_)
            · refine j_iload_n (pc' := 40) q143_39 rfl rfl ?_
              refine j_iload_n (pc' := 41) q143_40 rfl rfl ?_
              refine j_callV2_v (d := d + 1) (pc' := 44) q143_41 rfl (Nat.le_of_ble_eq_true rfl) (Nat.le_of_ble_eq_true rfl) rfl (t_Sh_begin_82 hρ (d + 0) _ _ _) (fun r7 => ?_)
              refine j_iconst (pc' := 45) q143_44 rfl ?_
              exact j_iret q143_45 rfl
            · refine j_iload_n (pc' := 40) q143_39 rfl rfl ?_
              refine j_iload_n (pc' := 41) q143_40 rfl rfl ?_
              refine j_callV2_v (d := d + 1) (pc' := 44) q143_41 rfl (Nat.le_of_ble_eq_true rfl) (Nat.le_of_ble_eq_true rfl) rfl (t_Sh_begin_84 hρ (d + 0) _ _ _) (fun r8 => ?_)
              refine j_iconst (pc' := 45) q143_44 rfl ?_
              exact j_iret q143_45 rfl
            · refine j_iload_n (pc' := 40) q143_39 rfl rfl ?_
              refine j_iload_n (pc' := 41) q143_40 rfl rfl ?_
              refine j_callV2_v (d := d + 1) (pc' := 44) q143_41 rfl (Nat.le_of_ble_eq_true rfl) (Nat.le_of_ble_eq_true rfl) rfl (t_Sh_begin_86 hρ (d + 0) _ _ _) (fun r9 => ?_)
              refine j_iconst (pc' := 45) q143_44 rfl ?_
              exact j_iret q143_45 rfl
            · refine j_iload_n (pc' := 40) q143_39 rfl rfl ?_
              refine j_iload_n (pc' := 41) q143_40 rfl rfl ?_
              refine j_callV2_v (d := d + 1) (pc' := 44) q143_41 rfl (Nat.le_of_ble_eq_true rfl) (Nat.le_of_ble_eq_true rfl) rfl (t_Sh_begin_88 hρ (d + 0) _ _ _) (fun r10 => ?_)
              refine j_iconst (pc' := 45) q143_44 rfl ?_
              exact j_iret q143_45 rfl
          · refine j_bipush (pc' := 32) q143_30 rfl ?_
            exact j_iret q143_32 rfl
        · refine j_iconst (pc' := 25) q143_24 rfl ?_
          exact j_iret q143_25 rfl
set_option maxRecDepth 8000 in
theorem q226_0 : z_fi (z_mi 226) 0 = some (0, .iload_n 1, 0, 0, 0, 0, 0) := rfl
set_option maxRecDepth 8000 in
theorem q226_1 : z_fi (z_mi 226) 1 = some (1, .i2l, 0, 0, 0, 0, 0) := rfl
set_option maxRecDepth 8000 in
theorem q226_2 : z_fi (z_mi 226) 2 = some (2, .lconst 0, 0, 0, 0, 0, 0) := rfl
set_option maxRecDepth 8000 in
theorem q226_3 : z_fi (z_mi 226) 3 = some (3, .ldc2_w 135, 0, 0, 0, 0, 3) := rfl
set_option maxRecDepth 8000 in
theorem q226_6 : z_fi (z_mi 226) 6 = some (6, .invokestatic 62, 1, 149, 3, 0, 0) := rfl
set_option maxRecDepth 8000 in
theorem q226_9 : z_fi (z_mi 226) 9 = some (9, .ifCond .eq 21, 0, 30, 0, 0, 0) := rfl
set_option maxRecDepth 8000 in
theorem q226_12 : z_fi (z_mi 226) 12 = some (12, .iload_n 2, 0, 0, 0, 0, 0) := rfl
set_option maxRecDepth 8000 in
theorem q226_13 : z_fi (z_mi 226) 13 = some (13, .i2l, 0, 0, 0, 0, 0) := rfl
set_option maxRecDepth 8000 in
theorem q226_14 : z_fi (z_mi 226) 14 = some (14, .lconst 0, 0, 0, 0, 0, 0) := rfl
set_option maxRecDepth 8000 in
theorem q226_15 : z_fi (z_mi 226) 15 = some (15, .ldc2_w 183, 0, 0, 0, 0, 2) := rfl
set_option maxRecDepth 8000 in
theorem q226_18 : z_fi (z_mi 226) 18 = some (18, .invokestatic 62, 1, 149, 3, 0, 0) := rfl
set_option maxRecDepth 8000 in
theorem q226_21 : z_fi (z_mi 226) 21 = some (21, .ifCond .eq 9, 0, 30, 0, 0, 0) := rfl
set_option maxRecDepth 8000 in
theorem q226_24 : z_fi (z_mi 226) 24 = some (24, .iload_n 3, 0, 0, 0, 0, 0) := rfl
set_option maxRecDepth 8000 in
theorem q226_25 : z_fi (z_mi 226) 25 = some (25, .bipush 40, 0, 0, 0, 40, 0) := rfl
set_option maxRecDepth 8000 in
theorem q226_27 : z_fi (z_mi 226) 27 = some (27, .if_icmp .le 5, 0, 32, 0, 0, 0) := rfl
set_option maxRecDepth 8000 in
theorem q226_30 : z_fi (z_mi 226) 30 = some (30, .iconst (-1), 0, 0, 0, (-1), 0) := rfl
set_option maxRecDepth 8000 in
theorem q226_31 : z_fi (z_mi 226) 31 = some (31, .ireturn, 0, 0, 0, 0, 0) := rfl
set_option maxRecDepth 8000 in
theorem q226_32 : z_fi (z_mi 226) 32 = some (32, .iload_n 3, 0, 0, 0, 0, 0) := rfl
set_option maxRecDepth 8000 in
theorem q226_33 : z_fi (z_mi 226) 33 = some (33, .ifCond .ge 6, 0, 39, 0, 0, 0) := rfl
set_option maxRecDepth 8000 in
theorem q226_36 : z_fi (z_mi 226) 36 = some (36, .bipush (-14), 0, 0, 0, (-14), 0) := rfl
set_option maxRecDepth 8000 in
theorem q226_38 : z_fi (z_mi 226) 38 = some (38, .ireturn, 0, 0, 0, 0, 0) := rfl
set_option maxRecDepth 8000 in
theorem q226_39 : z_fi (z_mi 226) 39 = some (39, .aload_n 0, 0, 0, 0, 0, 0) := rfl
set_option maxRecDepth 8000 in
theorem q226_40 : z_fi (z_mi 226) 40 = some (40, .getfield 51, 0, 10, 28, 0, 0) := rfl
set_option maxRecDepth 8000 in
theorem q226_43 : z_fi (z_mi 226) 43 = some (43, .iload_n 1, 0, 0, 0, 0, 0) := rfl
set_option maxRecDepth 8000 in
theorem q226_44 : z_fi (z_mi 226) 44 = some (44, .iload_n 2, 0, 0, 0, 0, 0) := rfl
set_option maxRecDepth 8000 in
theorem q226_45 : z_fi (z_mi 226) 45 = some (45, .iastore, 0, 0, 0, 0, 0) := rfl
set_option maxRecDepth 8000 in
theorem q226_46 : z_fi (z_mi 226) 46 = some (46, .aload_n 0, 0, 0, 0, 0, 0) := rfl
set_option maxRecDepth 8000 in
theorem q226_47 : z_fi (z_mi 226) 47 = some (47, .getfield 54, 0, 10, 29, 0, 0) := rfl
set_option maxRecDepth 8000 in
theorem q226_50 : z_fi (z_mi 226) 50 = some (50, .iload_n 1, 0, 0, 0, 0, 0) := rfl
set_option maxRecDepth 8000 in
theorem q226_51 : z_fi (z_mi 226) 51 = some (51, .iload_n 3, 0, 0, 0, 0, 0) := rfl
set_option maxRecDepth 8000 in
theorem q226_52 : z_fi (z_mi 226) 52 = some (52, .iastore, 0, 0, 0, 0, 0) := rfl
set_option maxRecDepth 8000 in
theorem q226_53 : z_fi (z_mi 226) 53 = some (53, .iconst 0, 0, 0, 0, 0, 0) := rfl
set_option maxRecDepth 8000 in
theorem q226_54 : z_fi (z_mi 226) 54 = some (54, .istore 4, 0, 0, 0, 0, 0) := rfl
set_option maxRecDepth 8000 in
theorem q226_56 : z_fi (z_mi 226) 56 = some (56, .iload 4, 0, 0, 0, 0, 0) := rfl
set_option maxRecDepth 8000 in
theorem q226_58 : z_fi (z_mi 226) 58 = some (58, .bipush 40, 0, 0, 0, 40, 0) := rfl
set_option maxRecDepth 8000 in
theorem q226_60 : z_fi (z_mi 226) 60 = some (60, .if_icmp .ge 22, 0, 82, 0, 0, 0) := rfl
set_option maxRecDepth 8000 in
theorem q226_63 : z_fi (z_mi 226) 63 = some (63, .aload_n 0, 0, 0, 0, 0, 0) := rfl
set_option maxRecDepth 8000 in
theorem q226_64 : z_fi (z_mi 226) 64 = some (64, .getfield 57, 0, 10, 30, 0, 0) := rfl
set_option maxRecDepth 8000 in
theorem q226_67 : z_fi (z_mi 226) 67 = some (67, .bipush 40, 0, 0, 0, 40, 0) := rfl
set_option maxRecDepth 8000 in
theorem q226_69 : z_fi (z_mi 226) 69 = some (69, .iload_n 1, 0, 0, 0, 0, 0) := rfl
set_option maxRecDepth 8000 in
theorem q226_70 : z_fi (z_mi 226) 70 = some (70, .imul, 0, 0, 0, 0, 0) := rfl
set_option maxRecDepth 8000 in
theorem q226_71 : z_fi (z_mi 226) 71 = some (71, .iload 4, 0, 0, 0, 0, 0) := rfl
set_option maxRecDepth 8000 in
theorem q226_73 : z_fi (z_mi 226) 73 = some (73, .iadd, 0, 0, 0, 0, 0) := rfl
set_option maxRecDepth 8000 in
theorem q226_74 : z_fi (z_mi 226) 74 = some (74, .iconst 0, 0, 0, 0, 0, 0) := rfl
set_option maxRecDepth 8000 in
theorem q226_75 : z_fi (z_mi 226) 75 = some (75, .iastore, 0, 0, 0, 0, 0) := rfl
set_option maxRecDepth 8000 in
theorem q226_76 : z_fi (z_mi 226) 76 = some (76, .iinc 4 1, 0, 0, 0, 1, 0) := rfl
set_option maxRecDepth 8000 in
theorem q226_79 : z_fi (z_mi 226) 79 = some (79, .goto (-23), 0, 56, 0, 0, 0) := rfl
set_option maxRecDepth 8000 in
theorem q226_82 : z_fi (z_mi 226) 82 = some (82, .iconst 1, 0, 0, 0, 1, 0) := rfl
set_option maxRecDepth 8000 in
theorem q226_83 : z_fi (z_mi 226) 83 = some (83, .ireturn, 0, 0, 0, 0, 0) := rfl
set_option maxRecDepth 20000 in
set_option maxHeartbeats 4000000 in
theorem t_M_sheet {xL : Nat} {xs : Nat → Int32} {ρ : Nat → Nat → Option Nat} (hρ : z_hR ρ) (d : Nat) (a1 : Int32) (a2 : Int32) (a3 : Int32) (σ : zS) : ∀ q, f_M_sheet a1 a2 a3 σ = some q → z_ec xL xs ρ (d + 1) 226 [.ref 90, .int a1, .int a2, .int a3] σ (em_i q) := by
  refine j_of (W := [.ref 90, .int a1, .int a2, .int a3, .null]) (fun L hL => ?_) ?_
  · subst hL; exact z_vl_0 _ 1 rfl
  · unfold f_M_sheet
    refine j_iload_n (pc' := 1) q226_0 rfl rfl ?_
    refine j_i2l (pc' := 2) q226_1 rfl ?_
    refine j_lconst (pc' := 3) q226_2 rfl ?_
    refine j_ldc2 (pc' := 6) q226_3 rfl ?_
    refine j_callS3_pi (d := d + 0) (pc' := 9) q226_6 (Or.inl rfl) (Nat.le_of_ble_eq_true rfl) (Nat.le_of_ble_eq_true rfl) rfl (t_M_in hρ (d + 0) _ _ _ _) (fun r1 => ?_)
    refine j_if_eq (pc' := 12) q226_9 rfl (fun c2 => ?_) (fun c2 => ?_)
    · refine j_iconst (pc' := 31) q226_30 rfl ?_
      exact j_iret q226_31 rfl
    · refine j_iload_n (pc' := 13) q226_12 rfl rfl ?_
      refine j_i2l (pc' := 14) q226_13 rfl ?_
      refine j_lconst (pc' := 15) q226_14 rfl ?_
      refine j_ldc2 (pc' := 18) q226_15 rfl ?_
      refine j_callS3_pi (d := d + 0) (pc' := 21) q226_18 (Or.inl rfl) (Nat.le_of_ble_eq_true rfl) (Nat.le_of_ble_eq_true rfl) rfl (t_M_in hρ (d + 0) _ _ _ _) (fun r3 => ?_)
      refine j_if_eq (pc' := 24) q226_21 rfl (fun c4 => ?_) (fun c4 => ?_)
      · refine j_iconst (pc' := 31) q226_30 rfl ?_
        exact j_iret q226_31 rfl
      · refine j_iload_n (pc' := 25) q226_24 rfl rfl ?_
        refine j_bipush (pc' := 27) q226_25 rfl ?_
        refine j_icmp_le (pc' := 30) q226_27 rfl (fun c5 => ?_) (fun c5 => ?_)
        · refine j_iload_n (pc' := 33) q226_32 rfl rfl ?_
          refine j_if_ge (pc' := 36) q226_33 rfl (fun c6 => ?_) (fun c6 => ?_)
          · refine j_aload_n (pc' := 40) q226_39 rfl (by decide) rfl ?_
            refine j_getr (k := 90) (q := 102) (pc' := 43) q226_40 rfl (hρ 90 28 102 rfl) rfl ?_
            refine j_iload_n (pc' := 44) q226_43 rfl rfl ?_
            refine j_iload_n (pc' := 45) q226_44 rfl rfl ?_
            refine j_if (fun hi7 => ?_) (fun _ => j_none)
            refine j_iast (k := 102) (N := 4) (pc' := 46) q226_45 rfl hi7 rfl ?_
            refine j_nameS (fun τ8 => ?_)
            refine j_aload_n (pc' := 47) q226_46 rfl (by decide) rfl ?_
            refine j_getr (k := 90) (q := 103) (pc' := 50) q226_47 rfl (hρ 90 29 103 rfl) rfl ?_
            refine j_iload_n (pc' := 51) q226_50 rfl rfl ?_
            refine j_iload_n (pc' := 52) q226_51 rfl rfl ?_
            refine j_if (fun hi9 => ?_) (fun _ => j_none)
            refine j_iast (k := 103) (N := 4) (pc' := 53) q226_52 rfl hi9 rfl ?_
            refine j_nameS (fun τ10 => ?_)
            refine j_iconst (pc' := 54) q226_53 rfl ?_
            refine j_istore4 (pc' := 56) q226_54 rfl (Nat.le_of_ble_eq_true rfl) rfl ?_
            refine j_forget (V' := [.ref 90, .int a1, .null, .null, .int (0 : Int32)]) (z_le_s (z_le_s (z_le_n (z_le_n (z_le_s (z_le_nil)))))) ?_
            refine j_loopX (S := Int32 × zS) (E := zS) (fun e => e) 82 (fun s11 => [.ref 90, .int a1, .null, .null, .int s11.1]) (fun s11 => s11.2) (fun b11 => [.null, .null, .null, .null, .null]) (fun b11 => b11) (fun b11 => ?_) (fun R11 hR11 hX11 s11 => ?_) ((0 : Int32), τ10)
            · show z_J _ _ _ _ _ _ _ _ _ _ _ _
              refine j_iconst (pc' := 83) q226_82 rfl ?_
              exact j_iret q226_83 rfl
            · show z_J _ _ _ _ _ _ _ _ _ _ _ _
              refine j_iload (pc' := 58) q226_56 rfl rfl ?_
              refine j_bipush (pc' := 60) q226_58 rfl ?_
              refine j_icmp_ge (pc' := 63) q226_60 rfl (fun c12 => ?_) (fun c12 => ?_)
              · exact j_exit (j_forget (z_le_n (z_le_n (z_le_n (z_le_n (z_le_n (z_le_nil)))))) (hX11 s11.2))
              · refine j_aload_n (pc' := 64) q226_63 rfl (by decide) rfl ?_
                refine j_getr (k := 90) (q := 104) (pc' := 67) q226_64 rfl (hρ 90 30 104 rfl) rfl ?_
                refine j_bipush (pc' := 69) q226_67 rfl ?_
                refine j_iload_n (pc' := 70) q226_69 rfl rfl ?_
                refine j_imul (pc' := 71) q226_70 rfl ?_
                refine j_iload (pc' := 73) q226_71 rfl rfl ?_
                refine j_iadd (pc' := 74) q226_73 rfl ?_
                refine j_iconst (pc' := 75) q226_74 rfl ?_
                refine j_if (fun hi13 => ?_) (fun _ => j_none)
                refine j_iast (k := 104) (N := 160) (pc' := 76) q226_75 rfl hi13 rfl ?_
                refine j_nameS (fun τ14 => ?_)
                refine j_iinc4 (pc' := 79) q226_76 rfl (Nat.le_of_ble_eq_true rfl) rfl ?_
                refine j_goto q226_79 rfl ?_
                exact j_again (j_forget (z_le_s (z_le_s (z_le_n (z_le_n (z_le_s (z_le_nil)))))) (hR11 ((s11.1 + (1 : Int32)), τ14)))
          · refine j_bipush (pc' := 38) q226_36 rfl ?_
            exact j_iret q226_38 rfl
        · refine j_iconst (pc' := 31) q226_30 rfl ?_
          exact j_iret q226_31 rfl
theorem q55_0 : z_fi (z_mi 55) 0 = some (0, .aload_n 0, 0, 0, 0, 0, 0) := rfl
theorem q55_1 : z_fi (z_mi 55) 1 = some (1, .getfield 15, 0, 3, 2, 0, 0) := rfl
theorem q55_4 : z_fi (z_mi 55) 4 = some (4, .bipush (-4), 0, 0, 0, (-4), 0) := rfl
theorem q55_6 : z_fi (z_mi 55) 6 = some (6, .if_icmp .eq 7, 0, 13, 0, 0, 0) := rfl
theorem q55_9 : z_fi (z_mi 55) 9 = some (9, .iconst 1, 0, 0, 0, 1, 0) := rfl
theorem q55_10 : z_fi (z_mi 55) 10 = some (10, .goto 4, 0, 14, 0, 0, 0) := rfl
theorem q55_13 : z_fi (z_mi 55) 13 = some (13, .iconst 0, 0, 0, 0, 0, 0) := rfl
theorem q55_14 : z_fi (z_mi 55) 14 = some (14, .ireturn, 0, 0, 0, 0, 0) := rfl
set_option maxRecDepth 20000 in
set_option maxHeartbeats 4000000 in
theorem t_Sh_isThere_82 {xL : Nat} {xs : Nat → Int32} {ρ : Nat → Nat → Option Nat} (hρ : z_hR ρ) (d : Nat)  (σ : zS) : ∀ q, f_Sh_isThere_82  σ = some q → z_ec xL xs ρ (d + 0) 55 [.ref 82] σ (em_pi σ q) := by
  refine j_of (W := [.ref 82]) (fun L hL => ?_) ?_
  · subst hL; exact z_vl_0 _ 0 rfl
  · unfold f_Sh_isThere_82
    refine j_aload_n (pc' := 1) q55_0 rfl (by decide) rfl ?_
    refine j_getf (k := 82) (pc' := 4) q55_1 rfl rfl ?_
    refine j_bipush (pc' := 6) q55_4 rfl ?_
    refine j_icmp_eq (pc' := 9) q55_6 rfl (fun c1 => ?_) (fun c1 => ?_)
    · refine j_iconst (pc' := 14) q55_13 rfl ?_
      exact j_pzret q55_14 rfl (Or.inl rfl)
    · refine j_iconst (pc' := 10) q55_9 rfl ?_
      refine j_goto q55_10 rfl ?_
      exact j_pzret q55_14 rfl (Or.inr rfl)
theorem q57_0 : z_fi (z_mi 57) 0 = some (0, .aload_n 0, 0, 0, 0, 0, 0) := rfl
theorem q57_1 : z_fi (z_mi 57) 1 = some (1, .getfield 19, 0, 3, 1, 0, 0) := rfl
theorem q57_4 : z_fi (z_mi 57) 4 = some (4, .ifCond .ne 6, 0, 10, 0, 0, 0) := rfl
theorem q57_7 : z_fi (z_mi 57) 7 = some (7, .iload_n 1, 0, 0, 0, 0, 0) := rfl
theorem q57_8 : z_fi (z_mi 57) 8 = some (8, .i2b, 0, 0, 0, 0, 0) := rfl
theorem q57_9 : z_fi (z_mi 57) 9 = some (9, .ireturn, 0, 0, 0, 0, 0) := rfl
theorem q57_10 : z_fi (z_mi 57) 10 = some (10, .aload_n 0, 0, 0, 0, 0, 0) := rfl
theorem q57_11 : z_fi (z_mi 57) 11 = some (11, .getfield 19, 0, 3, 1, 0, 0) := rfl
theorem q57_14 : z_fi (z_mi 57) 14 = some (14, .iconst 1, 0, 0, 0, 1, 0) := rfl
theorem q57_15 : z_fi (z_mi 57) 15 = some (15, .if_icmp .ne 8, 0, 23, 0, 0, 0) := rfl
theorem q57_18 : z_fi (z_mi 57) 18 = some (18, .iload_n 1, 0, 0, 0, 0, 0) := rfl
theorem q57_19 : z_fi (z_mi 57) 19 = some (19, .i2s, 0, 0, 0, 0, 0) := rfl
theorem q57_20 : z_fi (z_mi 57) 20 = some (20, .goto 4, 0, 24, 0, 0, 0) := rfl
theorem q57_23 : z_fi (z_mi 57) 23 = some (23, .iload_n 1, 0, 0, 0, 0, 0) := rfl
theorem q57_24 : z_fi (z_mi 57) 24 = some (24, .ireturn, 0, 0, 0, 0, 0) := rfl
set_option maxRecDepth 20000 in
set_option maxHeartbeats 4000000 in
theorem t_Sh_lowestBits_82 {xL : Nat} {xs : Nat → Int32} {ρ : Nat → Nat → Option Nat} (hρ : z_hR ρ) (d : Nat) (a1 : Int32) (σ : zS) : ∀ q, f_Sh_lowestBits_82 a1 σ = some q → z_ec xL xs ρ (d + 0) 57 [.ref 82, .int a1] σ (em_pi σ q) := by
  refine j_of (W := [.ref 82, .int a1]) (fun L hL => ?_) ?_
  · subst hL; exact z_vl_0 _ 0 rfl
  · unfold f_Sh_lowestBits_82
    refine j_aload_n (pc' := 1) q57_0 rfl (by decide) rfl ?_
    refine j_getf (k := 82) (pc' := 4) q57_1 rfl rfl ?_
    refine j_if_ne (pc' := 7) q57_4 rfl (fun c1 => ?_) (fun c1 => ?_)
    · refine j_iload_n (pc' := 8) q57_7 rfl rfl ?_
      refine j_i2b (pc' := 9) q57_8 rfl ?_
      exact j_piret q57_9 rfl
    · refine j_aload_n (pc' := 11) q57_10 rfl (by decide) rfl ?_
      refine j_getf (k := 82) (pc' := 14) q57_11 rfl rfl ?_
      refine j_iconst (pc' := 15) q57_14 rfl ?_
      refine j_icmp_ne (pc' := 18) q57_15 rfl (fun c2 => ?_) (fun c2 => ?_)
      · refine j_iload_n (pc' := 19) q57_18 rfl rfl ?_
        refine j_i2s (pc' := 20) q57_19 rfl ?_
        refine j_goto q57_20 rfl ?_
        exact j_piret q57_24 rfl
      · refine j_iload_n (pc' := 24) q57_23 rfl rfl ?_
        exact j_piret q57_24 rfl
set_option maxRecDepth 20000 in
set_option maxHeartbeats 4000000 in
theorem t_Sh_isThere_84 {xL : Nat} {xs : Nat → Int32} {ρ : Nat → Nat → Option Nat} (hρ : z_hR ρ) (d : Nat)  (σ : zS) : ∀ q, f_Sh_isThere_84  σ = some q → z_ec xL xs ρ (d + 0) 55 [.ref 84] σ (em_pi σ q) := by
  refine j_of (W := [.ref 84]) (fun L hL => ?_) ?_
  · subst hL; exact z_vl_0 _ 0 rfl
  · unfold f_Sh_isThere_84
    refine j_aload_n (pc' := 1) q55_0 rfl (by decide) rfl ?_
    refine j_getf (k := 84) (pc' := 4) q55_1 rfl rfl ?_
    refine j_bipush (pc' := 6) q55_4 rfl ?_
    refine j_icmp_eq (pc' := 9) q55_6 rfl (fun c1 => ?_) (fun c1 => ?_)
    · refine j_iconst (pc' := 14) q55_13 rfl ?_
      exact j_pzret q55_14 rfl (Or.inl rfl)
    · refine j_iconst (pc' := 10) q55_9 rfl ?_
      refine j_goto q55_10 rfl ?_
      exact j_pzret q55_14 rfl (Or.inr rfl)
