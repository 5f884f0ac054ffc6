/-! the abstract machine runs as the functions say, by wip/whole/gen_fun.py -/
theorem q40_0 : z_fi (z_mi 40) 0 = some (0, .lload_n 0, 0, 0, 0, 0, 0) := rfl
theorem q40_1 : z_fi (z_mi 40) 1 = some (1, .lstore 4, 0, 0, 0, 0, 0) := rfl
theorem q40_3 : z_fi (z_mi 40) 3 = some (3, .lload_n 2, 0, 0, 0, 0, 0) := rfl
theorem q40_4 : z_fi (z_mi 40) 4 = some (4, .lstore 6, 0, 0, 0, 0, 0) := rfl
theorem q40_6 : z_fi (z_mi 40) 6 = some (6, .iconst 0, 0, 0, 0, 0, 0) := rfl
theorem q40_7 : z_fi (z_mi 40) 7 = some (7, .istore 8, 0, 0, 0, 0, 0) := rfl
theorem q40_9 : z_fi (z_mi 40) 9 = some (9, .iload 8, 0, 0, 0, 0, 0) := rfl
theorem q40_11 : z_fi (z_mi 40) 11 = some (11, .sipush 200, 0, 0, 0, 200, 0) := rfl
theorem q40_14 : z_fi (z_mi 40) 14 = some (14, .if_icmp .ge 31, 0, 45, 0, 0, 0) := rfl
theorem q40_17 : z_fi (z_mi 40) 17 = some (17, .lload 6, 0, 0, 0, 0, 0) := rfl
theorem q40_19 : z_fi (z_mi 40) 19 = some (19, .lconst 0, 0, 0, 0, 0, 0) := rfl
theorem q40_20 : z_fi (z_mi 40) 20 = some (20, .lcmp, 0, 0, 0, 0, 0) := rfl
theorem q40_21 : z_fi (z_mi 40) 21 = some (21, .ifCond .eq 24, 0, 45, 0, 0, 0) := rfl
theorem q40_24 : z_fi (z_mi 40) 24 = some (24, .lload 4, 0, 0, 0, 0, 0) := rfl
theorem q40_26 : z_fi (z_mi 40) 26 = some (26, .lload 6, 0, 0, 0, 0, 0) := rfl
theorem q40_28 : z_fi (z_mi 40) 28 = some (28, .lrem, 0, 0, 0, 0, 0) := rfl
theorem q40_29 : z_fi (z_mi 40) 29 = some (29, .lstore 9, 0, 0, 0, 0, 0) := rfl
theorem q40_31 : z_fi (z_mi 40) 31 = some (31, .lload 6, 0, 0, 0, 0, 0) := rfl
theorem q40_33 : z_fi (z_mi 40) 33 = some (33, .lstore 4, 0, 0, 0, 0, 0) := rfl
theorem q40_35 : z_fi (z_mi 40) 35 = some (35, .lload 9, 0, 0, 0, 0, 0) := rfl
theorem q40_37 : z_fi (z_mi 40) 37 = some (37, .lstore 6, 0, 0, 0, 0, 0) := rfl
theorem q40_39 : z_fi (z_mi 40) 39 = some (39, .iinc 8 1, 0, 0, 0, 1, 0) := rfl
theorem q40_42 : z_fi (z_mi 40) 42 = some (42, .goto (-33), 0, 9, 0, 0, 0) := rfl
theorem q40_45 : z_fi (z_mi 40) 45 = some (45, .lload 4, 0, 0, 0, 0, 0) := rfl
theorem q40_47 : z_fi (z_mi 40) 47 = some (47, .lreturn, 0, 0, 0, 0, 0) := rfl
set_option maxRecDepth 20000 in
set_option maxHeartbeats 4000000 in
theorem t_Lk_commonDivisor {xL : Nat} {xs : Nat → Int32} {ρ : Nat → Nat → Option Nat} (hρ : z_hR ρ) (d : Nat) (a0 : Int64) (a1 : Int64) (σ : zS) : ∀ q, f_Lk_commonDivisor a0 a1 σ = some q → z_ec xL xs ρ (d + 0) 40 [.long a0, .long a1] σ (em_pl σ q) := by
  refine j_of (W := [.long a0, .null, .long a1, .null, .null, .null, .null, .null, .null, .null, .null]) (fun L hL => ?_) ?_
  · subst hL; exact z_vl_0 _ 7 rfl
  · unfold f_Lk_commonDivisor
    refine j_lload_n (pc' := 1) q40_0 rfl rfl ?_
    refine j_lstore4 (pc' := 3) q40_1 rfl (Nat.le_of_ble_eq_true rfl) rfl ?_
    refine j_lload_n (pc' := 4) q40_3 rfl rfl ?_
    refine j_lstore6 (pc' := 6) q40_4 rfl (Nat.le_of_ble_eq_true rfl) rfl ?_
    refine j_iconst (pc' := 7) q40_6 rfl ?_
    refine j_istore8 (pc' := 9) q40_7 rfl (Nat.le_of_ble_eq_true rfl) rfl ?_
    refine j_forget (V' := [.null, .null, .null, .null, .long a0, .null, .long a1, .null, .int (0 : Int32), .null, .null]) (z_le_n (z_le_n (z_le_n (z_le_n (z_le_s (z_le_n (z_le_s (z_le_n (z_le_s (z_le_n (z_le_n (z_le_nil)))))))))))) ?_
    refine j_loopX (S := Int64 × Int64 × Int32) (E := Int64) (fun e => e) 45 (fun s1 => [.null, .null, .null, .null, .long s1.1, .null, .long s1.2.1, .null, .int s1.2.2, .null, .null]) (fun s1 => σ) (fun b1 => [.null, .null, .null, .null, .long b1, .null, .null, .null, .null, .null, .null]) (fun b1 => σ) (fun b1 => ?_) (fun R1 hR1 hX1 s1 => ?_) (a0, a1, (0 : Int32))
    · show z_J _ _ _ _ _ _ _ _ _ _ _ _
      refine j_lload (pc' := 47) q40_45 rfl rfl ?_
      exact j_plret q40_47 rfl
    · show z_J _ _ _ _ _ _ _ _ _ _ _ _
      refine j_iload (pc' := 11) q40_9 rfl rfl ?_
      refine j_sipush (pc' := 14) q40_11 rfl ?_
      refine j_icmp_ge (pc' := 17) q40_14 rfl (fun c2 => ?_) (fun c2 => ?_)
      · exact j_exit (j_forget (z_le_n (z_le_n (z_le_n (z_le_n (z_le_s (z_le_n (z_le_n (z_le_n (z_le_n (z_le_n (z_le_n (z_le_nil)))))))))))) (hX1 s1.1))
      · refine j_lload (pc' := 19) q40_17 rfl rfl ?_
        refine j_lconst (pc' := 20) q40_19 rfl ?_
        refine j_lcmp (pc' := 21) q40_20 rfl ?_
        refine j_if_eq (pc' := 24) q40_21 rfl (fun c3 => ?_) (fun c3 => ?_)
        · exact j_exit (j_forget (z_le_n (z_le_n (z_le_n (z_le_n (z_le_s (z_le_n (z_le_n (z_le_n (z_le_n (z_le_n (z_le_n (z_le_nil)))))))))))) (hX1 s1.1))
        · refine j_lload (pc' := 26) q40_24 rfl rfl ?_
          refine j_lload (pc' := 28) q40_26 rfl rfl ?_
          refine j_if (fun _ => j_none) (fun hz4 => ?_)
          refine j_lrem (pc' := 29) q40_28 hz4 rfl ?_
          refine j_nameL (fun v5 => ?_)
          refine j_lstore9 (pc' := 31) q40_29 rfl (Nat.le_of_ble_eq_true rfl) rfl ?_
          refine j_lload (pc' := 33) q40_31 rfl rfl ?_
          refine j_lstore4 (pc' := 35) q40_33 rfl (Nat.le_of_ble_eq_true rfl) rfl ?_
          refine j_lload (pc' := 37) q40_35 rfl rfl ?_
          refine j_lstore6 (pc' := 39) q40_37 rfl (Nat.le_of_ble_eq_true rfl) rfl ?_
          refine j_iinc8 (pc' := 42) q40_39 rfl (Nat.le_of_ble_eq_true rfl) rfl ?_
          refine j_goto q40_42 rfl ?_
          exact j_again (j_forget (z_le_n (z_le_n (z_le_n (z_le_n (z_le_s (z_le_n (z_le_s (z_le_n (z_le_s (z_le_n (z_le_n (z_le_nil)))))))))))) (hR1 (s1.2.1, v5, (s1.2.2 + (1 : Int32)))))
theorem q132_0 : z_fi (z_mi 132) 0 = some (0, .aload_n 0, 0, 0, 0, 0, 0) := rfl
theorem q132_1 : z_fi (z_mi 132) 1 = some (1, .getfield 10, 0, 9, 0, 0, 0) := rfl
theorem q132_4 : z_fi (z_mi 132) 4 = some (4, .iload_n 1, 0, 0, 0, 0, 0) := rfl
theorem q132_5 : z_fi (z_mi 132) 5 = some (5, .invokevirtual 165, 0, 8, 1, 0, 0) := rfl
theorem q132_8 : z_fi (z_mi 132) 8 = some (8, .ifCond .eq 33, 0, 41, 0, 0, 0) := rfl
theorem q132_11 : z_fi (z_mi 132) 11 = some (11, .iload_n 2, 0, 0, 0, 0, 0) := rfl
theorem q132_12 : z_fi (z_mi 132) 12 = some (12, .iconst 0, 0, 0, 0, 0, 0) := rfl
theorem q132_13 : z_fi (z_mi 132) 13 = some (13, .bipush 10, 0, 0, 0, 10, 0) := rfl
theorem q132_15 : z_fi (z_mi 132) 15 = some (15, .invokestatic 60, 1, 99, 3, 0, 0) := rfl
theorem q132_18 : z_fi (z_mi 132) 18 = some (18, .ifCond .eq 23, 0, 41, 0, 0, 0) := rfl
theorem q132_21 : z_fi (z_mi 132) 21 = some (21, .iload_n 3, 0, 0, 0, 0, 0) := rfl
theorem q132_22 : z_fi (z_mi 132) 22 = some (22, .iconst 1, 0, 0, 0, 1, 0) := rfl
theorem q132_23 : z_fi (z_mi 132) 23 = some (23, .bipush 8, 0, 0, 0, 8, 0) := rfl
theorem q132_25 : z_fi (z_mi 132) 25 = some (25, .invokestatic 60, 1, 99, 3, 0, 0) := rfl
theorem q132_28 : z_fi (z_mi 132) 28 = some (28, .ifCond .eq 13, 0, 41, 0, 0, 0) := rfl
theorem q132_31 : z_fi (z_mi 132) 31 = some (31, .iload 4, 0, 0, 0, 0, 0) := rfl
theorem q132_33 : z_fi (z_mi 132) 33 = some (33, .iconst 0, 0, 0, 0, 0, 0) := rfl
theorem q132_34 : z_fi (z_mi 132) 34 = some (34, .iconst 1, 0, 0, 0, 1, 0) := rfl
theorem q132_35 : z_fi (z_mi 132) 35 = some (35, .invokestatic 60, 1, 99, 3, 0, 0) := rfl
theorem q132_38 : z_fi (z_mi 132) 38 = some (38, .ifCond .ne 7, 0, 45, 0, 0, 0) := rfl
theorem q132_41 : z_fi (z_mi 132) 41 = some (41, .ldc2_w 240, 0, 0, 0, 0, (-1)) := rfl
theorem q132_44 : z_fi (z_mi 132) 44 = some (44, .lreturn, 0, 0, 0, 0, 0) := rfl
theorem q132_45 : z_fi (z_mi 132) 45 = some (45, .aload_n 0, 0, 0, 0, 0, 0) := rfl
theorem q132_46 : z_fi (z_mi 132) 46 = some (46, .getfield 10, 0, 9, 0, 0, 0) := rfl
theorem q132_49 : z_fi (z_mi 132) 49 = some (49, .getfield 178, 0, 0, 4, 0, 0) := rfl
theorem q132_52 : z_fi (z_mi 132) 52 = some (52, .iload_n 1, 0, 0, 0, 0, 0) := rfl
theorem q132_53 : z_fi (z_mi 132) 53 = some (53, .iaload, 0, 0, 0, 0, 0) := rfl
theorem q132_54 : z_fi (z_mi 132) 54 = some (54, .istore 5, 0, 0, 0, 0, 0) := rfl
theorem q132_56 : z_fi (z_mi 132) 56 = some (56, .iload 5, 0, 0, 0, 0, 0) := rfl
theorem q132_58 : z_fi (z_mi 132) 58 = some (58, .bipush (-4), 0, 0, 0, (-4), 0) := rfl
theorem q132_60 : z_fi (z_mi 132) 60 = some (60, .if_icmp .ne 7, 0, 67, 0, 0, 0) := rfl
theorem q132_63 : z_fi (z_mi 132) 63 = some (63, .ldc2_w 242, 0, 0, 0, 0, (-2)) := rfl
theorem q132_66 : z_fi (z_mi 132) 66 = some (66, .lreturn, 0, 0, 0, 0, 0) := rfl
theorem q132_67 : z_fi (z_mi 132) 67 = some (67, .iload_n 3, 0, 0, 0, 0, 0) := rfl
theorem q132_68 : z_fi (z_mi 132) 68 = some (68, .invokestatic 244, 1, 38, 1, 0, 0) := rfl
theorem q132_71 : z_fi (z_mi 132) 71 = some (71, .lstore 6, 0, 0, 0, 0, 0) := rfl
theorem q132_73 : z_fi (z_mi 132) 73 = some (73, .iload 5, 0, 0, 0, 0, 0) := rfl
theorem q132_75 : z_fi (z_mi 132) 75 = some (75, .aload_n 0, 0, 0, 0, 0, 0) := rfl
theorem q132_76 : z_fi (z_mi 132) 76 = some (76, .getfield 10, 0, 9, 0, 0, 0) := rfl
theorem q132_79 : z_fi (z_mi 132) 79 = some (79, .getfield 234, 0, 0, 5, 0, 0) := rfl
theorem q132_82 : z_fi (z_mi 132) 82 = some (82, .iload_n 1, 0, 0, 0, 0, 0) := rfl
theorem q132_83 : z_fi (z_mi 132) 83 = some (83, .iaload, 0, 0, 0, 0, 0) := rfl
theorem q132_84 : z_fi (z_mi 132) 84 = some (84, .aload_n 0, 0, 0, 0, 0, 0) := rfl
theorem q132_85 : z_fi (z_mi 132) 85 = some (85, .getfield 10, 0, 9, 0, 0, 0) := rfl
theorem q132_88 : z_fi (z_mi 132) 88 = some (88, .getfield 237, 0, 0, 2, 0, 0) := rfl
theorem q132_91 : z_fi (z_mi 132) 91 = some (91, .iload_n 1, 0, 0, 0, 0, 0) := rfl
theorem q132_92 : z_fi (z_mi 132) 92 = some (92, .iaload, 0, 0, 0, 0, 0) := rfl
theorem q132_93 : z_fi (z_mi 132) 93 = some (93, .aload_n 0, 0, 0, 0, 0, 0) := rfl
theorem q132_94 : z_fi (z_mi 132) 94 = some (94, .getfield 10, 0, 9, 0, 0, 0) := rfl
theorem q132_97 : z_fi (z_mi 132) 97 = some (97, .getfield 168, 0, 0, 3, 0, 0) := rfl
theorem q132_100 : z_fi (z_mi 132) 100 = some (100, .iload_n 1, 0, 0, 0, 0, 0) := rfl
theorem q132_101 : z_fi (z_mi 132) 101 = some (101, .iaload, 0, 0, 0, 0, 0) := rfl
theorem q132_102 : z_fi (z_mi 132) 102 = some (102, .iload_n 2, 0, 0, 0, 0, 0) := rfl
theorem q132_103 : z_fi (z_mi 132) 103 = some (103, .iload_n 3, 0, 0, 0, 0, 0) := rfl
theorem q132_104 : z_fi (z_mi 132) 104 = some (104, .invokestatic 250, 4, 39, 6, 0, 0) := rfl
theorem q132_107 : z_fi (z_mi 132) 107 = some (107, .lstore 8, 0, 0, 0, 0, 0) := rfl
theorem q132_109 : z_fi (z_mi 132) 109 = some (109, .lload 8, 0, 0, 0, 0, 0) := rfl
theorem q132_111 : z_fi (z_mi 132) 111 = some (111, .lload 6, 0, 0, 0, 0, 0) := rfl
theorem q132_113 : z_fi (z_mi 132) 113 = some (113, .invokestatic 254, 1, 40, 2, 0, 0) := rfl
theorem q132_116 : z_fi (z_mi 132) 116 = some (116, .lstore 10, 0, 0, 0, 0, 0) := rfl
theorem q132_118 : z_fi (z_mi 132) 118 = some (118, .lload 10, 0, 0, 0, 0, 0) := rfl
set_option maxRecDepth 8000 in
theorem q132_120 : z_fi (z_mi 132) 120 = some (120, .lconst 1, 0, 0, 0, 0, 1) := rfl
set_option maxRecDepth 8000 in
theorem q132_121 : z_fi (z_mi 132) 121 = some (121, .lcmp, 0, 0, 0, 0, 0) := rfl
set_option maxRecDepth 8000 in
theorem q132_122 : z_fi (z_mi 132) 122 = some (122, .ifCond .ge 7, 0, 129, 0, 0, 0) := rfl
set_option maxRecDepth 8000 in
theorem q132_125 : z_fi (z_mi 132) 125 = some (125, .iload 4, 0, 0, 0, 0, 0) := rfl
set_option maxRecDepth 8000 in
theorem q132_127 : z_fi (z_mi 132) 127 = some (127, .i2l, 0, 0, 0, 0, 0) := rfl
set_option maxRecDepth 8000 in
theorem q132_128 : z_fi (z_mi 132) 128 = some (128, .lreturn, 0, 0, 0, 0, 0) := rfl
set_option maxRecDepth 8000 in
theorem q132_129 : z_fi (z_mi 132) 129 = some (129, .iload 4, 0, 0, 0, 0, 0) := rfl
set_option maxRecDepth 8000 in
theorem q132_131 : z_fi (z_mi 132) 131 = some (131, .ifCond .ne 11, 0, 142, 0, 0, 0) := rfl
set_option maxRecDepth 8000 in
theorem q132_134 : z_fi (z_mi 132) 134 = some (134, .lload 8, 0, 0, 0, 0, 0) := rfl
set_option maxRecDepth 8000 in
theorem q132_136 : z_fi (z_mi 132) 136 = some (136, .lload 10, 0, 0, 0, 0, 0) := rfl
set_option maxRecDepth 8000 in
theorem q132_138 : z_fi (z_mi 132) 138 = some (138, .ldiv, 0, 0, 0, 0, 0) := rfl
set_option maxRecDepth 8000 in
theorem q132_139 : z_fi (z_mi 132) 139 = some (139, .goto 8, 0, 147, 0, 0, 0) := rfl
set_option maxRecDepth 8000 in
theorem q132_142 : z_fi (z_mi 132) 142 = some (142, .lload 6, 0, 0, 0, 0, 0) := rfl
set_option maxRecDepth 8000 in
theorem q132_144 : z_fi (z_mi 132) 144 = some (144, .lload 10, 0, 0, 0, 0, 0) := rfl
set_option maxRecDepth 8000 in
theorem q132_146 : z_fi (z_mi 132) 146 = some (146, .ldiv, 0, 0, 0, 0, 0) := rfl
set_option maxRecDepth 8000 in
theorem q132_147 : z_fi (z_mi 132) 147 = some (147, .lreturn, 0, 0, 0, 0, 0) := rfl
set_option maxRecDepth 20000 in
set_option maxHeartbeats 4000000 in
theorem t_Y_luck {xL : Nat} {xs : Nat → Int32} {ρ : Nat → Nat → Option Nat} (hρ : z_hR ρ) (d : Nat) (a1 : Int32) (a2 : Int32) (a3 : Int32) (a4 : Int32) (σ : zS) : ∀ q, f_Y_luck a1 a2 a3 a4 σ = some q → z_ec xL xs ρ (d + 13) 132 [.ref 0, .int a1, .int a2, .int a3, .int a4] σ (em_pl σ q) := by
  refine j_of (W := [.ref 0, .int a1, .int a2, .int a3, .int a4, .null, .null, .null, .null, .null, .null, .null]) (fun L hL => ?_) ?_
  · subst hL; exact z_vl_0 _ 7 rfl
  · unfold f_Y_luck
    refine j_aload_n (pc' := 1) q132_0 rfl (by decide) rfl ?_
    refine j_getr (k := 0) (q := 1) (pc' := 4) q132_1 rfl (hρ 0 0 1 rfl) rfl ?_
    refine j_iload_n (pc' := 5) q132_4 rfl rfl ?_
    refine j_callV1_pi (d := d + 12) (pc' := 8) q132_5 rfl (Nat.le_of_ble_eq_true rfl) (Nat.le_of_ble_eq_true rfl) rfl (t_G_hasCell_1 hρ (d + 11) _ _) (fun r1 => ?_)
    refine j_if_eq (pc' := 11) q132_8 rfl (fun c2 => ?_) (fun c2 => ?_)
    · refine j_ldc2 (pc' := 44) q132_41 rfl ?_
      exact j_plret q132_44 rfl
    · refine j_iload_n (pc' := 12) q132_11 rfl rfl ?_
      refine j_iconst (pc' := 13) q132_12 rfl ?_
      refine j_bipush (pc' := 15) q132_13 rfl ?_
      refine j_callS3_pi (d := d + 12) (pc' := 18) q132_15 (Or.inl rfl) (Nat.le_of_ble_eq_true rfl) (Nat.le_of_ble_eq_true rfl) rfl (t_Y_isIn hρ (d + 12) _ _ _ _) (fun r3 => ?_)
      refine j_if_eq (pc' := 21) q132_18 rfl (fun c4 => ?_) (fun c4 => ?_)
      · refine j_ldc2 (pc' := 44) q132_41 rfl ?_
        exact j_plret q132_44 rfl
      · refine j_iload_n (pc' := 22) q132_21 rfl rfl ?_
        refine j_iconst (pc' := 23) q132_22 rfl ?_
        refine j_bipush (pc' := 25) q132_23 rfl ?_
        refine j_callS3_pi (d := d + 12) (pc' := 28) q132_25 (Or.inl rfl) (Nat.le_of_ble_eq_true rfl) (Nat.le_of_ble_eq_true rfl) rfl (t_Y_isIn hρ (d + 12) _ _ _ _) (fun r5 => ?_)
        refine j_if_eq (pc' := 31) q132_28 rfl (fun c6 => ?_) (fun c6 => ?_)
        · refine j_ldc2 (pc' := 44) q132_41 rfl ?_
          exact j_plret q132_44 rfl
        · refine j_iload (pc' := 33) q132_31 rfl rfl ?_
          refine j_iconst (pc' := 34) q132_33 rfl ?_
          refine j_iconst (pc' := 35) q132_34 rfl ?_
          refine j_callS3_pi (d := d + 12) (pc' := 38) q132_35 (Or.inl rfl) (Nat.le_of_ble_eq_true rfl) (Nat.le_of_ble_eq_true rfl) rfl (t_Y_isIn hρ (d + 12) _ _ _ _) (fun r7 => ?_)
          refine j_if_ne (pc' := 41) q132_38 rfl (fun c8 => ?_) (fun c8 => ?_)
          · refine j_ldc2 (pc' := 44) q132_41 rfl ?_
            exact j_plret q132_44 rfl
          · refine j_aload_n (pc' := 46) q132_45 rfl (by decide) rfl ?_
            refine j_getr (k := 0) (q := 1) (pc' := 49) q132_46 rfl (hρ 0 0 1 rfl) rfl ?_
            refine j_getr (k := 1) (q := 4) (pc' := 52) q132_49 rfl (hρ 1 4 4 rfl) rfl ?_
            refine j_iload_n (pc' := 53) q132_52 rfl rfl ?_
            refine j_if (fun hi9 => ?_) (fun _ => j_none)
            refine j_iald (k := 4) (N := 16) (pc' := 54) q132_53 rfl hi9 rfl ?_
            refine j_istore5 (pc' := 56) q132_54 rfl (Nat.le_of_ble_eq_true rfl) rfl ?_
            refine j_iload (pc' := 58) q132_56 rfl rfl ?_
            refine j_bipush (pc' := 60) q132_58 rfl ?_
            refine j_icmp_ne (pc' := 63) q132_60 rfl (fun c10 => ?_) (fun c10 => ?_)
            · refine j_ldc2 (pc' := 66) q132_63 rfl ?_
              exact j_plret q132_66 rfl
            · refine j_iload_n (pc' := 68) q132_67 rfl rfl ?_
              refine j_callS1_pl (d := d + 12) (pc' := 71) q132_68 (Or.inl rfl) (Nat.le_of_ble_eq_true rfl) (Nat.le_of_ble_eq_true rfl) rfl (t_Lk_allWays hρ (d + 12) _ _) (fun r11 => ?_)
              refine j_lstore6 (pc' := 73) q132_71 rfl (Nat.le_of_ble_eq_true rfl) rfl ?_
              refine j_iload (pc' := 75) q132_73 rfl rfl ?_
              refine j_aload_n (pc' := 76) q132_75 rfl (by decide) rfl ?_
              refine j_getr (k := 0) (q := 1) (pc' := 79) q132_76 rfl (hρ 0 0 1 rfl) rfl ?_
              refine j_getr (k := 1) (q := 5) (pc' := 82) q132_79 rfl (hρ 1 5 5 rfl) rfl ?_
              refine j_iload_n (pc' := 83) q132_82 rfl rfl ?_
              refine j_if (fun hi12 => ?_) (fun _ => j_none)
              refine j_iald (k := 5) (N := 16) (pc' := 84) q132_83 rfl hi12 rfl ?_
              refine j_aload_n (pc' := 85) q132_84 rfl (by decide) rfl ?_
              refine j_getr (k := 0) (q := 1) (pc' := 88) q132_85 rfl (hρ 0 0 1 rfl) rfl ?_
              refine j_getr (k := 1) (q := 2) (pc' := 91) q132_88 rfl (hρ 1 2 2 rfl) rfl ?_
              refine j_iload_n (pc' := 92) q132_91 rfl rfl ?_
              refine j_if (fun hi13 => ?_) (fun _ => j_none)
              refine j_iald (k := 2) (N := 16) (pc' := 93) q132_92 rfl hi13 rfl ?_
              refine j_aload_n (pc' := 94) q132_93 rfl (by decide) rfl ?_
              refine j_getr (k := 0) (q := 1) (pc' := 97) q132_94 rfl (hρ 0 0 1 rfl) rfl ?_
              refine j_getr (k := 1) (q := 3) (pc' := 100) q132_97 rfl (hρ 1 3 3 rfl) rfl ?_
              refine j_iload_n (pc' := 101) q132_100 rfl rfl ?_
              refine j_if (fun hi14 => ?_) (fun _ => j_none)
              refine j_iald (k := 3) (N := 16) (pc' := 102) q132_101 rfl hi14 rfl ?_
              refine j_iload_n (pc' := 103) q132_102 rfl rfl ?_
              refine j_iload_n (pc' := 104) q132_103 rfl rfl ?_
              refine j_callS6_pl (d := d + 12) (pc' := 107) q132_104 (Or.inr rfl) (Nat.le_of_ble_eq_true rfl) (Nat.le_of_ble_eq_true rfl) rfl (t_Lk_goodWays hρ 10 (d + 0) _ _ _ _ _ _ _) (fun r15 => ?_)
              refine j_lstore8 (pc' := 109) q132_107 rfl (Nat.le_of_ble_eq_true rfl) rfl ?_
              refine j_lload (pc' := 111) q132_109 rfl rfl ?_
              refine j_lload (pc' := 113) q132_111 rfl rfl ?_
              refine j_callS2_pl (d := d + 12) (pc' := 116) q132_113 (Or.inl rfl) (Nat.le_of_ble_eq_true rfl) (Nat.le_of_ble_eq_true rfl) rfl (t_Lk_commonDivisor hρ (d + 12) _ _ _) (fun r16 => ?_)
              refine j_lstore10 (pc' := 118) q132_116 rfl (Nat.le_of_ble_eq_true rfl) rfl ?_
              refine j_lload (pc' := 120) q132_118 rfl rfl ?_
              refine j_lconst (pc' := 121) q132_120 rfl ?_
              refine j_lcmp (pc' := 122) q132_121 rfl ?_
              refine j_if_ge (pc' := 125) q132_122 rfl (fun c17 => ?_) (fun c17 => ?_)
              · refine j_iload (pc' := 131) q132_129 rfl rfl ?_
                refine j_if_ne (pc' := 134) q132_131 rfl (fun c18 => ?_) (fun c18 => ?_)
                · refine j_lload (pc' := 136) q132_134 rfl rfl ?_
                  refine j_lload (pc' := 138) q132_136 rfl rfl ?_
                  refine j_if (fun _ => j_none) (fun hz19 => ?_)
                  refine j_ldiv (pc' := 139) q132_138 hz19 rfl ?_
                  refine j_goto q132_139 rfl ?_
                  exact j_plret q132_147 rfl
                · refine j_lload (pc' := 144) q132_142 rfl rfl ?_
                  refine j_lload (pc' := 146) q132_144 rfl rfl ?_
                  refine j_if (fun _ => j_none) (fun hz20 => ?_)
                  refine j_ldiv (pc' := 147) q132_146 hz20 rfl ?_
                  exact j_plret q132_147 rfl
              · refine j_iload (pc' := 127) q132_125 rfl rfl ?_
                refine j_i2l (pc' := 128) q132_127 rfl ?_
                exact j_plret q132_128 rfl
set_option maxRecDepth 8000 in
theorem q214_0 : z_fi (z_mi 214) 0 = some (0, .aload_n 0, 0, 0, 0, 0, 0) := rfl
set_option maxRecDepth 8000 in
theorem q214_1 : z_fi (z_mi 214) 1 = some (1, .iconst 0, 0, 0, 0, 0, 0) := rfl
set_option maxRecDepth 8000 in
theorem q214_2 : z_fi (z_mi 214) 2 = some (2, .iload_n 1, 0, 0, 0, 0, 0) := rfl
set_option maxRecDepth 8000 in
theorem q214_3 : z_fi (z_mi 214) 3 = some (3, .invokevirtual 162, 0, 170, 2, 0, 0) := rfl
set_option maxRecDepth 8000 in
theorem q214_6 : z_fi (z_mi 214) 6 = some (6, .istore 4, 0, 0, 0, 0, 0) := rfl
set_option maxRecDepth 8000 in
theorem q214_8 : z_fi (z_mi 214) 8 = some (8, .aload_n 0, 0, 0, 0, 0, 0) := rfl
set_option maxRecDepth 8000 in
theorem q214_9 : z_fi (z_mi 214) 9 = some (9, .getfield 7, 0, 10, 0, 0, 0) := rfl
set_option maxRecDepth 8000 in
theorem q214_12 : z_fi (z_mi 214) 12 = some (12, .iconst 5, 0, 0, 0, 5, 0) := rfl
set_option maxRecDepth 8000 in
theorem q214_13 : z_fi (z_mi 214) 13 = some (13, .iload_n 1, 0, 0, 0, 0, 0) := rfl
set_option maxRecDepth 8000 in
theorem q214_14 : z_fi (z_mi 214) 14 = some (14, .imul, 0, 0, 0, 0, 0) := rfl
set_option maxRecDepth 8000 in
theorem q214_15 : z_fi (z_mi 214) 15 = some (15, .iconst 1, 0, 0, 0, 1, 0) := rfl
set_option maxRecDepth 8000 in
theorem q214_16 : z_fi (z_mi 214) 16 = some (16, .iadd, 0, 0, 0, 0, 0) := rfl
set_option maxRecDepth 8000 in
theorem q214_17 : z_fi (z_mi 214) 17 = some (17, .iaload, 0, 0, 0, 0, 0) := rfl
set_option maxRecDepth 8000 in
theorem q214_18 : z_fi (z_mi 214) 18 = some (18, .istore 5, 0, 0, 0, 0, 0) := rfl
set_option maxRecDepth 8000 in
theorem q214_20 : z_fi (z_mi 214) 20 = some (20, .aload_n 0, 0, 0, 0, 0, 0) := rfl
set_option maxRecDepth 8000 in
theorem q214_21 : z_fi (z_mi 214) 21 = some (21, .getfield 7, 0, 10, 0, 0, 0) := rfl
set_option maxRecDepth 8000 in
theorem q214_24 : z_fi (z_mi 214) 24 = some (24, .iconst 5, 0, 0, 0, 5, 0) := rfl
set_option maxRecDepth 8000 in
theorem q214_25 : z_fi (z_mi 214) 25 = some (25, .iload_n 1, 0, 0, 0, 0, 0) := rfl
set_option maxRecDepth 8000 in
theorem q214_26 : z_fi (z_mi 214) 26 = some (26, .imul, 0, 0, 0, 0, 0) := rfl
set_option maxRecDepth 8000 in
theorem q214_27 : z_fi (z_mi 214) 27 = some (27, .iconst 3, 0, 0, 0, 3, 0) := rfl
set_option maxRecDepth 8000 in
theorem q214_28 : z_fi (z_mi 214) 28 = some (28, .iadd, 0, 0, 0, 0, 0) := rfl
set_option maxRecDepth 8000 in
theorem q214_29 : z_fi (z_mi 214) 29 = some (29, .iaload, 0, 0, 0, 0, 0) := rfl
set_option maxRecDepth 8000 in
theorem q214_30 : z_fi (z_mi 214) 30 = some (30, .istore 6, 0, 0, 0, 0, 0) := rfl
set_option maxRecDepth 8000 in
theorem q214_32 : z_fi (z_mi 214) 32 = some (32, .iconst 0, 0, 0, 0, 0, 0) := rfl
set_option maxRecDepth 8000 in
theorem q214_33 : z_fi (z_mi 214) 33 = some (33, .istore 7, 0, 0, 0, 0, 0) := rfl
set_option maxRecDepth 8000 in
theorem q214_35 : z_fi (z_mi 214) 35 = some (35, .iload 7, 0, 0, 0, 0, 0) := rfl
set_option maxRecDepth 8000 in
theorem q214_37 : z_fi (z_mi 214) 37 = some (37, .iload_n 2, 0, 0, 0, 0, 0) := rfl
set_option maxRecDepth 8000 in
theorem q214_38 : z_fi (z_mi 214) 38 = some (38, .if_icmp .ge 68, 0, 106, 0, 0, 0) := rfl
set_option maxRecDepth 8000 in
theorem q214_41 : z_fi (z_mi 214) 41 = some (41, .iload 6, 0, 0, 0, 0, 0) := rfl
set_option maxRecDepth 8000 in
theorem q214_43 : z_fi (z_mi 214) 43 = some (43, .iconst 3, 0, 0, 0, 3, 0) := rfl
set_option maxRecDepth 8000 in
theorem q214_44 : z_fi (z_mi 214) 44 = some (44, .if_icmp .ge 62, 0, 106, 0, 0, 0) := rfl
set_option maxRecDepth 8000 in
theorem q214_47 : z_fi (z_mi 214) 47 = some (47, .aload_n 0, 0, 0, 0, 0, 0) := rfl
set_option maxRecDepth 8000 in
theorem q214_48 : z_fi (z_mi 214) 48 = some (48, .iload 4, 0, 0, 0, 0, 0) := rfl
set_option maxRecDepth 8000 in
theorem q214_50 : z_fi (z_mi 214) 50 = some (50, .iload 6, 0, 0, 0, 0, 0) := rfl
set_option maxRecDepth 8000 in
theorem q214_52 : z_fi (z_mi 214) 52 = some (52, .iload 5, 0, 0, 0, 0, 0) := rfl
set_option maxRecDepth 8000 in
theorem q214_54 : z_fi (z_mi 214) 54 = some (54, .ifCond .ne 7, 0, 61, 0, 0, 0) := rfl
set_option maxRecDepth 8000 in
theorem q214_57 : z_fi (z_mi 214) 57 = some (57, .iconst 4, 0, 0, 0, 4, 0) := rfl
set_option maxRecDepth 8000 in
theorem q214_58 : z_fi (z_mi 214) 58 = some (58, .goto 11, 0, 69, 0, 0, 0) := rfl
set_option maxRecDepth 8000 in
theorem q214_61 : z_fi (z_mi 214) 61 = some (61, .aload_n 0, 0, 0, 0, 0, 0) := rfl
set_option maxRecDepth 8000 in
theorem q214_62 : z_fi (z_mi 214) 62 = some (62, .getfield 7, 0, 10, 0, 0, 0) := rfl
set_option maxRecDepth 8000 in
theorem q214_65 : z_fi (z_mi 214) 65 = some (65, .iconst 5, 0, 0, 0, 5, 0) := rfl
set_option maxRecDepth 8000 in
theorem q214_66 : z_fi (z_mi 214) 66 = some (66, .iload_n 1, 0, 0, 0, 0, 0) := rfl
set_option maxRecDepth 8000 in
theorem q214_67 : z_fi (z_mi 214) 67 = some (67, .imul, 0, 0, 0, 0, 0) := rfl
set_option maxRecDepth 8000 in
theorem q214_68 : z_fi (z_mi 214) 68 = some (68, .iaload, 0, 0, 0, 0, 0) := rfl
set_option maxRecDepth 8000 in
theorem q214_69 : z_fi (z_mi 214) 69 = some (69, .invokevirtual 209, 0, 192, 3, 0, 0) := rfl
set_option maxRecDepth 8000 in
theorem q214_72 : z_fi (z_mi 214) 72 = some (72, .istore 6, 0, 0, 0, 0, 0) := rfl
set_option maxRecDepth 8000 in
theorem q214_74 : z_fi (z_mi 214) 74 = some (74, .iload 5, 0, 0, 0, 0, 0) := rfl
set_option maxRecDepth 8000 in
theorem q214_76 : z_fi (z_mi 214) 76 = some (76, .iconst 1, 0, 0, 0, 1, 0) := rfl
set_option maxRecDepth 8000 in
theorem q214_77 : z_fi (z_mi 214) 77 = some (77, .iload_n 3, 0, 0, 0, 0, 0) := rfl
set_option maxRecDepth 8000 in
theorem q214_78 : z_fi (z_mi 214) 78 = some (78, .iload 7, 0, 0, 0, 0, 0) := rfl
set_option maxRecDepth 8000 in
theorem q214_80 : z_fi (z_mi 214) 80 = some (80, .ishr, 0, 0, 0, 0, 0) := rfl
set_option maxRecDepth 8000 in
theorem q214_81 : z_fi (z_mi 214) 81 = some (81, .iconst 1, 0, 0, 0, 1, 0) := rfl
set_option maxRecDepth 8000 in
theorem q214_82 : z_fi (z_mi 214) 82 = some (82, .iand, 0, 0, 0, 0, 0) := rfl
set_option maxRecDepth 8000 in
theorem q214_83 : z_fi (z_mi 214) 83 = some (83, .iadd, 0, 0, 0, 0, 0) := rfl
set_option maxRecDepth 8000 in
theorem q214_84 : z_fi (z_mi 214) 84 = some (84, .isub, 0, 0, 0, 0, 0) := rfl
set_option maxRecDepth 8000 in
theorem q214_85 : z_fi (z_mi 214) 85 = some (85, .istore 5, 0, 0, 0, 0, 0) := rfl
set_option maxRecDepth 8000 in
theorem q214_87 : z_fi (z_mi 214) 87 = some (87, .iload 5, 0, 0, 0, 0, 0) := rfl
set_option maxRecDepth 8000 in
theorem q214_89 : z_fi (z_mi 214) 89 = some (89, .ifCond .ge 7, 0, 96, 0, 0, 0) := rfl
set_option maxRecDepth 8000 in
theorem q214_92 : z_fi (z_mi 214) 92 = some (92, .iconst 0, 0, 0, 0, 0, 0) := rfl
set_option maxRecDepth 8000 in
theorem q214_93 : z_fi (z_mi 214) 93 = some (93, .goto 5, 0, 98, 0, 0, 0) := rfl
set_option maxRecDepth 8000 in
theorem q214_96 : z_fi (z_mi 214) 96 = some (96, .iload 5, 0, 0, 0, 0, 0) := rfl
set_option maxRecDepth 8000 in
theorem q214_98 : z_fi (z_mi 214) 98 = some (98, .istore 5, 0, 0, 0, 0, 0) := rfl
set_option maxRecDepth 8000 in
theorem q214_100 : z_fi (z_mi 214) 100 = some (100, .iinc 7 1, 0, 0, 0, 1, 0) := rfl
set_option maxRecDepth 8000 in
theorem q214_103 : z_fi (z_mi 214) 103 = some (103, .goto (-68), 0, 35, 0, 0, 0) := rfl
set_option maxRecDepth 8000 in
theorem q214_106 : z_fi (z_mi 214) 106 = some (106, .iload 6, 0, 0, 0, 0, 0) := rfl
set_option maxRecDepth 8000 in
theorem q214_108 : z_fi (z_mi 214) 108 = some (108, .iconst 3, 0, 0, 0, 3, 0) := rfl
set_option maxRecDepth 8000 in
theorem q214_109 : z_fi (z_mi 214) 109 = some (109, .if_icmp .ne 7, 0, 116, 0, 0, 0) := rfl
set_option maxRecDepth 8000 in
theorem q214_112 : z_fi (z_mi 214) 112 = some (112, .iconst 1, 0, 0, 0, 1, 0) := rfl
set_option maxRecDepth 8000 in
theorem q214_113 : z_fi (z_mi 214) 113 = some (113, .goto 4, 0, 117, 0, 0, 0) := rfl
set_option maxRecDepth 8000 in
theorem q214_116 : z_fi (z_mi 214) 116 = some (116, .iconst 0, 0, 0, 0, 0, 0) := rfl
set_option maxRecDepth 8000 in
theorem q214_117 : z_fi (z_mi 214) 117 = some (117, .ireturn, 0, 0, 0, 0, 0) := rfl
set_option maxRecDepth 20000 in
set_option maxHeartbeats 4000000 in
theorem t_M_isRipeBy {xL : Nat} {xs : Nat → Int32} {ρ : Nat → Nat → Option Nat} (hρ : z_hR ρ) (d : Nat) (a1 : Int32) (a2 : Int32) (a3 : Int32) (σ : zS) : ∀ q, f_M_isRipeBy a1 a2 a3 σ = some q → z_ec xL xs ρ (d + 1) 214 [.ref 90, .int a1, .int a2, .int a3] σ (em_pi σ q) := by
  refine j_of (W := [.ref 90, .int a1, .int a2, .int a3, .null, .null, .null, .null]) (fun L hL => ?_) ?_
  · subst hL; exact z_vl_0 _ 4 rfl
  · unfold f_M_isRipeBy
    refine j_aload_n (pc' := 1) q214_0 rfl (by decide) rfl ?_
    refine j_iconst (pc' := 2) q214_1 rfl ?_
    refine j_iload_n (pc' := 3) q214_2 rfl rfl ?_
    refine j_callV2_pi (d := d + 0) (pc' := 6) q214_3 rfl (Nat.le_of_ble_eq_true rfl) (Nat.le_of_ble_eq_true rfl) rfl (t_M_cropIn hρ (d + 0) _ _ _) (fun r1 => ?_)
    refine j_istore4 (pc' := 8) q214_6 rfl (Nat.le_of_ble_eq_true rfl) rfl ?_
    refine j_aload_n (pc' := 9) q214_8 rfl (by decide) rfl ?_
    refine j_getr (k := 90) (q := 91) (pc' := 12) q214_9 rfl (hρ 90 0 91 rfl) rfl ?_
    refine j_iconst (pc' := 13) q214_12 rfl ?_
    refine j_iload_n (pc' := 14) q214_13 rfl rfl ?_
    refine j_imul (pc' := 15) q214_14 rfl ?_
    refine j_iconst (pc' := 16) q214_15 rfl ?_
    refine j_iadd (pc' := 17) q214_16 rfl ?_
    refine j_if (fun hi2 => ?_) (fun _ => j_none)
    refine j_iald (k := 91) (N := 550) (pc' := 18) q214_17 rfl hi2 rfl ?_
    refine j_nameI (fun v3 => ?_)
    refine j_istore5 (pc' := 20) q214_18 rfl (Nat.le_of_ble_eq_true rfl) rfl ?_
    refine j_aload_n (pc' := 21) q214_20 rfl (by decide) rfl ?_
    refine j_getr (k := 90) (q := 91) (pc' := 24) q214_21 rfl (hρ 90 0 91 rfl) rfl ?_
    refine j_iconst (pc' := 25) q214_24 rfl ?_
    refine j_iload_n (pc' := 26) q214_25 rfl rfl ?_
    refine j_imul (pc' := 27) q214_26 rfl ?_
    refine j_iconst (pc' := 28) q214_27 rfl ?_
    refine j_iadd (pc' := 29) q214_28 rfl ?_
    refine j_if (fun hi4 => ?_) (fun _ => j_none)
    refine j_iald (k := 91) (N := 550) (pc' := 30) q214_29 rfl hi4 rfl ?_
    refine j_nameI (fun v5 => ?_)
    refine j_istore6 (pc' := 32) q214_30 rfl (Nat.le_of_ble_eq_true rfl) rfl ?_
    refine j_iconst (pc' := 33) q214_32 rfl ?_
    refine j_istore7 (pc' := 35) q214_33 rfl (Nat.le_of_ble_eq_true rfl) rfl ?_
    refine j_forget (V' := [.ref 90, .int a1, .int a2, .int a3, .int r1, .int v3, .int v5, .int (0 : Int32)]) (z_le_s (z_le_s (z_le_s (z_le_s (z_le_s (z_le_s (z_le_s (z_le_s (z_le_nil))))))))) ?_
    refine j_loopX (S := Int32 × Int32 × Int32) (E := Int32) (fun e => e) 106 (fun s6 => [.ref 90, .int a1, .int a2, .int a3, .int r1, .int s6.1, .int s6.2.1, .int s6.2.2]) (fun s6 => σ) (fun b6 => [.null, .null, .null, .null, .null, .null, .int b6, .null]) (fun b6 => σ) (fun b6 => ?_) (fun R6 hR6 hX6 s6 => ?_) (v3, v5, (0 : Int32))
    · show z_J _ _ _ _ _ _ _ _ _ _ _ _
      refine j_iload (pc' := 108) q214_106 rfl rfl ?_
      refine j_iconst (pc' := 109) q214_108 rfl ?_
      refine j_icmp_ne (pc' := 112) q214_109 rfl (fun c16 => ?_) (fun c16 => ?_)
      · refine j_iconst (pc' := 113) q214_112 rfl ?_
        refine j_goto q214_113 rfl ?_
        exact j_pzret q214_117 rfl (Or.inr rfl)
      · refine j_iconst (pc' := 117) q214_116 rfl ?_
        exact j_pzret q214_117 rfl (Or.inl rfl)
    · show z_J _ _ _ _ _ _ _ _ _ _ _ _
      refine j_iload (pc' := 37) q214_35 rfl rfl ?_
      refine j_iload_n (pc' := 38) q214_37 rfl rfl ?_
      refine j_icmp_ge (pc' := 41) q214_38 rfl (fun c7 => ?_) (fun c7 => ?_)
      · exact j_exit (j_forget (z_le_n (z_le_n (z_le_n (z_le_n (z_le_n (z_le_n (z_le_s (z_le_n (z_le_nil))))))))) (hX6 s6.2.1))
      · refine j_iload (pc' := 43) q214_41 rfl rfl ?_
        refine j_iconst (pc' := 44) q214_43 rfl ?_
        refine j_icmp_ge (pc' := 47) q214_44 rfl (fun c8 => ?_) (fun c8 => ?_)
        · exact j_exit (j_forget (z_le_n (z_le_n (z_le_n (z_le_n (z_le_n (z_le_n (z_le_s (z_le_n (z_le_nil))))))))) (hX6 s6.2.1))
        · refine j_aload_n (pc' := 48) q214_47 rfl (by decide) rfl ?_
          refine j_iload (pc' := 50) q214_48 rfl rfl ?_
          refine j_iload (pc' := 52) q214_50 rfl rfl ?_
          refine j_iload (pc' := 54) q214_52 rfl rfl ?_
          refine j_join (T := Int32 × Int32 × Int32) 69 (fun t9 => [.ref 90, .int a1, .int a2, .int a3, .int r1, .int s6.1, .null, .int s6.2.2]) (fun t9 => [.int t9.1, .int t9.2.1, .int t9.2.2, .ref 90]) (fun t9 => σ) (fun t9 => ?_) (fun j9 hj9 => ?_)
          · show z_J _ _ _ _ _ _ _ _ _ _ _ _
            refine j_callV3_pi (d := d + 0) (pc' := 72) q214_69 rfl (Nat.le_of_ble_eq_true rfl) (Nat.le_of_ble_eq_true rfl) rfl (t_M_stageBy hρ (d + 0) _ _ _ _) (fun r10 => ?_)
            refine j_istore6 (pc' := 74) q214_72 rfl (Nat.le_of_ble_eq_true rfl) rfl ?_
            refine j_iload (pc' := 76) q214_74 rfl rfl ?_
            refine j_iconst (pc' := 77) q214_76 rfl ?_
            refine j_iload_n (pc' := 78) q214_77 rfl rfl ?_
            refine j_iload (pc' := 80) q214_78 rfl rfl ?_
            refine j_ishr (pc' := 81) q214_80 rfl ?_
            refine j_iconst (pc' := 82) q214_81 rfl ?_
            refine j_iand (pc' := 83) q214_82 rfl ?_
            refine j_iadd (pc' := 84) q214_83 rfl ?_
            refine j_isub (pc' := 85) q214_84 rfl ?_
            refine j_nameI (fun v11 => ?_)
            refine j_istore5 (pc' := 87) q214_85 rfl (Nat.le_of_ble_eq_true rfl) rfl ?_
            refine j_iload (pc' := 89) q214_87 rfl rfl ?_
            refine j_join (T := Int32) 98 (fun t12 => [.ref 90, .int a1, .int a2, .int a3, .int r1, .null, .int r10, .int s6.2.2]) (fun t12 => [.int t12]) (fun t12 => σ) (fun t12 => ?_) (fun j12 hj12 => ?_)
            · show z_J _ _ _ _ _ _ _ _ _ _ _ _
              refine j_istore5 (pc' := 100) q214_98 rfl (Nat.le_of_ble_eq_true rfl) rfl ?_
              refine j_iinc7 (pc' := 103) q214_100 rfl (Nat.le_of_ble_eq_true rfl) rfl ?_
              refine j_goto q214_103 rfl ?_
              exact j_again (j_forget (z_le_s (z_le_s (z_le_s (z_le_s (z_le_s (z_le_s (z_le_s (z_le_s (z_le_nil))))))))) (hR6 (t12, r10, (s6.2.2 + (1 : Int32)))))
            · show z_J _ _ _ _ _ _ _ _ _ _ _ _
              refine j_if_ge (pc' := 92) q214_89 rfl (fun c13 => ?_) (fun c13 => ?_)
              · refine j_iload (pc' := 98) q214_96 rfl rfl ?_
                refine j_forget (z_le_s (z_le_s (z_le_s (z_le_s (z_le_s (z_le_n (z_le_s (z_le_s (z_le_nil))))))))) (hj12 v11)
              · refine j_iconst (pc' := 93) q214_92 rfl ?_
                refine j_goto q214_93 rfl ?_
                refine j_forget (z_le_s (z_le_s (z_le_s (z_le_s (z_le_s (z_le_n (z_le_s (z_le_s (z_le_nil))))))))) (hj12 (0 : Int32))
          · show z_J _ _ _ _ _ _ _ _ _ _ _ _
            refine j_if_ne (pc' := 57) q214_54 rfl (fun c14 => ?_) (fun c14 => ?_)
            · refine j_iconst (pc' := 58) q214_57 rfl ?_
              refine j_goto q214_58 rfl ?_
              refine j_forget (z_le_s (z_le_s (z_le_s (z_le_s (z_le_s (z_le_s (z_le_n (z_le_s (z_le_nil))))))))) (hj9 ((4 : Int32), s6.2.1, r1))
            · refine j_aload_n (pc' := 62) q214_61 rfl (by decide) rfl ?_
              refine j_getr (k := 90) (q := 91) (pc' := 65) q214_62 rfl (hρ 90 0 91 rfl) rfl ?_
              refine j_iconst (pc' := 66) q214_65 rfl ?_
              refine j_iload_n (pc' := 67) q214_66 rfl rfl ?_
              refine j_imul (pc' := 68) q214_67 rfl ?_
              refine j_if (fun hi15 => ?_) (fun _ => j_none)
              refine j_iald (k := 91) (N := 550) (pc' := 69) q214_68 rfl hi15 rfl ?_
              refine j_forget (z_le_s (z_le_s (z_le_s (z_le_s (z_le_s (z_le_s (z_le_n (z_le_s (z_le_nil))))))))) (hj9 ((σ 91 ((5 : Int32) * a1).toNatClampNeg), s6.2.1, r1))
set_option maxRecDepth 8000 in
theorem q213_0 : z_fi (z_mi 213) 0 = some (0, .lload_n 0, 0, 0, 0, 0, 0) := rfl
set_option maxRecDepth 8000 in
theorem q213_1 : z_fi (z_mi 213) 1 = some (1, .lstore 5, 0, 0, 0, 0, 0) := rfl
set_option maxRecDepth 8000 in
theorem q213_3 : z_fi (z_mi 213) 3 = some (3, .lload_n 2, 0, 0, 0, 0, 0) := rfl
set_option maxRecDepth 8000 in
theorem q213_4 : z_fi (z_mi 213) 4 = some (4, .lstore 7, 0, 0, 0, 0, 0) := rfl
set_option maxRecDepth 8000 in
theorem q213_6 : z_fi (z_mi 213) 6 = some (6, .lload 7, 0, 0, 0, 0, 0) := rfl
set_option maxRecDepth 8000 in
theorem q213_8 : z_fi (z_mi 213) 8 = some (8, .lconst 0, 0, 0, 0, 0, 0) := rfl
set_option maxRecDepth 8000 in
theorem q213_9 : z_fi (z_mi 213) 9 = some (9, .lcmp, 0, 0, 0, 0, 0) := rfl
set_option maxRecDepth 8000 in
theorem q213_10 : z_fi (z_mi 213) 10 = some (10, .ifCond .eq 21, 0, 31, 0, 0, 0) := rfl
set_option maxRecDepth 8000 in
theorem q213_13 : z_fi (z_mi 213) 13 = some (13, .lload 5, 0, 0, 0, 0, 0) := rfl
set_option maxRecDepth 8000 in
theorem q213_15 : z_fi (z_mi 213) 15 = some (15, .lload 7, 0, 0, 0, 0, 0) := rfl
set_option maxRecDepth 8000 in
theorem q213_17 : z_fi (z_mi 213) 17 = some (17, .lrem, 0, 0, 0, 0, 0) := rfl
set_option maxRecDepth 8000 in
theorem q213_18 : z_fi (z_mi 213) 18 = some (18, .lstore 9, 0, 0, 0, 0, 0) := rfl
set_option maxRecDepth 8000 in
theorem q213_20 : z_fi (z_mi 213) 20 = some (20, .lload 7, 0, 0, 0, 0, 0) := rfl
set_option maxRecDepth 8000 in
theorem q213_22 : z_fi (z_mi 213) 22 = some (22, .lstore 5, 0, 0, 0, 0, 0) := rfl
set_option maxRecDepth 8000 in
theorem q213_24 : z_fi (z_mi 213) 24 = some (24, .lload 9, 0, 0, 0, 0, 0) := rfl
set_option maxRecDepth 8000 in
theorem q213_26 : z_fi (z_mi 213) 26 = some (26, .lstore 7, 0, 0, 0, 0, 0) := rfl
set_option maxRecDepth 8000 in
theorem q213_28 : z_fi (z_mi 213) 28 = some (28, .goto (-22), 0, 6, 0, 0, 0) := rfl
set_option maxRecDepth 8000 in
theorem q213_31 : z_fi (z_mi 213) 31 = some (31, .iload 4, 0, 0, 0, 0, 0) := rfl
set_option maxRecDepth 8000 in
theorem q213_33 : z_fi (z_mi 213) 33 = some (33, .ifCond .ne 7, 0, 40, 0, 0, 0) := rfl
set_option maxRecDepth 8000 in
theorem q213_36 : z_fi (z_mi 213) 36 = some (36, .lload_n 0, 0, 0, 0, 0, 0) := rfl
set_option maxRecDepth 8000 in
theorem q213_37 : z_fi (z_mi 213) 37 = some (37, .goto 4, 0, 41, 0, 0, 0) := rfl
set_option maxRecDepth 8000 in
theorem q213_40 : z_fi (z_mi 213) 40 = some (40, .lload_n 2, 0, 0, 0, 0, 0) := rfl
set_option maxRecDepth 8000 in
theorem q213_41 : z_fi (z_mi 213) 41 = some (41, .lload 5, 0, 0, 0, 0, 0) := rfl
set_option maxRecDepth 8000 in
theorem q213_43 : z_fi (z_mi 213) 43 = some (43, .ldiv, 0, 0, 0, 0, 0) := rfl
set_option maxRecDepth 8000 in
theorem q213_44 : z_fi (z_mi 213) 44 = some (44, .lreturn, 0, 0, 0, 0, 0) := rfl
set_option maxRecDepth 20000 in
set_option maxHeartbeats 4000000 in
theorem t_M_lowest {xL : Nat} {xs : Nat → Int32} {ρ : Nat → Nat → Option Nat} (hρ : z_hR ρ) (d : Nat) (a0 : Int64) (a1 : Int64) (a2 : Int32) (σ : zS) : ∀ q, f_M_lowest a0 a1 a2 σ = some q → z_ec xL xs ρ (d + 0) 213 [.long a0, .long a1, .int a2] σ (em_pl σ q) := by
  refine j_of (W := [.long a0, .null, .long a1, .null, .int a2, .null, .null, .null, .null, .null, .null]) (fun L hL => ?_) ?_
  · subst hL; exact z_vl_0 _ 6 rfl
  · unfold f_M_lowest
    refine j_lload_n (pc' := 1) q213_0 rfl rfl ?_
    refine j_lstore5 (pc' := 3) q213_1 rfl (Nat.le_of_ble_eq_true rfl) rfl ?_
    refine j_lload_n (pc' := 4) q213_3 rfl rfl ?_
    refine j_lstore7 (pc' := 6) q213_4 rfl (Nat.le_of_ble_eq_true rfl) rfl ?_
    refine j_forget (V' := [.long a0, .null, .long a1, .null, .int a2, .long a0, .null, .long a1, .null, .null, .null]) (z_le_s (z_le_n (z_le_s (z_le_n (z_le_s (z_le_s (z_le_n (z_le_s (z_le_n (z_le_n (z_le_n (z_le_nil)))))))))))) ?_
    refine j_loopX (S := Int64 × Int64) (E := Int64) (fun e => e) 31 (fun s1 => [.long a0, .null, .long a1, .null, .int a2, .long s1.1, .null, .long s1.2, .null, .null, .null]) (fun s1 => σ) (fun b1 => [.long a0, .null, .long a1, .null, .int a2, .long b1, .null, .null, .null, .null, .null]) (fun b1 => σ) (fun b1 => ?_) (fun R1 hR1 hX1 s1 => ?_) (a0, a1)
    · show z_J _ _ _ _ _ _ _ _ _ _ _ _
      refine j_iload (pc' := 33) q213_31 rfl rfl ?_
      refine j_join (T := Int64) 41 (fun t4 => [.null, .null, .null, .null, .null, .long b1, .null, .null, .null, .null, .null]) (fun t4 => [.long t4]) (fun t4 => σ) (fun t4 => ?_) (fun j4 hj4 => ?_)
      · show z_J _ _ _ _ _ _ _ _ _ _ _ _
        refine j_lload (pc' := 43) q213_41 rfl rfl ?_
        refine j_if (fun _ => j_none) (fun hz5 => ?_)
        refine j_ldiv (pc' := 44) q213_43 hz5 rfl ?_
        exact j_plret q213_44 rfl
      · show z_J _ _ _ _ _ _ _ _ _ _ _ _
        refine j_if_ne (pc' := 36) q213_33 rfl (fun c6 => ?_) (fun c6 => ?_)
        · refine j_lload_n (pc' := 37) q213_36 rfl rfl ?_
          refine j_goto q213_37 rfl ?_
          refine j_forget (z_le_n (z_le_n (z_le_n (z_le_n (z_le_n (z_le_s (z_le_n (z_le_n (z_le_n (z_le_n (z_le_n (z_le_nil)))))))))))) (hj4 a0)
        · refine j_lload_n (pc' := 41) q213_40 rfl rfl ?_
          refine j_forget (z_le_n (z_le_n (z_le_n (z_le_n (z_le_n (z_le_s (z_le_n (z_le_n (z_le_n (z_le_n (z_le_n (z_le_nil)))))))))))) (hj4 a1)
    · show z_J _ _ _ _ _ _ _ _ _ _ _ _
      refine j_lload (pc' := 8) q213_6 rfl rfl ?_
      refine j_lconst (pc' := 9) q213_8 rfl ?_
      refine j_lcmp (pc' := 10) q213_9 rfl ?_
      refine j_if_eq (pc' := 13) q213_10 rfl (fun c2 => ?_) (fun c2 => ?_)
      · exact j_exit (j_forget (z_le_s (z_le_n (z_le_s (z_le_n (z_le_s (z_le_s (z_le_n (z_le_n (z_le_n (z_le_n (z_le_n (z_le_nil)))))))))))) (hX1 s1.1))
      · refine j_lload (pc' := 15) q213_13 rfl rfl ?_
        refine j_lload (pc' := 17) q213_15 rfl rfl ?_
        refine j_if (fun _ => j_none) (fun hz3 => ?_)
        refine j_lrem (pc' := 18) q213_17 hz3 rfl ?_
        refine j_lstore9 (pc' := 20) q213_18 rfl (Nat.le_of_ble_eq_true rfl) rfl ?_
        refine j_lload (pc' := 22) q213_20 rfl rfl ?_
        refine j_lstore5 (pc' := 24) q213_22 rfl (Nat.le_of_ble_eq_true rfl) rfl ?_
        refine j_lload (pc' := 26) q213_24 rfl rfl ?_
        refine j_lstore7 (pc' := 28) q213_26 rfl (Nat.le_of_ble_eq_true rfl) rfl ?_
        refine j_goto q213_28 rfl ?_
        exact j_again (j_forget (z_le_s (z_le_n (z_le_s (z_le_n (z_le_s (z_le_s (z_le_n (z_le_s (z_le_n (z_le_n (z_le_n (z_le_nil)))))))))))) (hR1 (s1.2, (s1.1 - s1.1 / s1.2 * s1.2))))
set_option maxRecDepth 8000 in
theorem q215_0 : z_fi (z_mi 215) 0 = some (0, .aload_n 0, 0, 0, 0, 0, 0) := rfl
set_option maxRecDepth 8000 in
theorem q215_1 : z_fi (z_mi 215) 1 = some (1, .iload_n 1, 0, 0, 0, 0, 0) := rfl
set_option maxRecDepth 8000 in
theorem q215_2 : z_fi (z_mi 215) 2 = some (2, .invokevirtual 165, 0, 164, 1, 0, 0) := rfl
set_option maxRecDepth 8000 in
theorem q215_5 : z_fi (z_mi 215) 5 = some (5, .ifCond .eq 38, 0, 43, 0, 0, 0) := rfl
set_option maxRecDepth 8000 in
theorem q215_8 : z_fi (z_mi 215) 8 = some (8, .iload_n 2, 0, 0, 0, 0, 0) := rfl
set_option maxRecDepth 8000 in
theorem q215_9 : z_fi (z_mi 215) 9 = some (9, .i2l, 0, 0, 0, 0, 0) := rfl
set_option maxRecDepth 8000 in
theorem q215_10 : z_fi (z_mi 215) 10 = some (10, .lconst 0, 0, 0, 0, 0, 0) := rfl
set_option maxRecDepth 8000 in
theorem q215_11 : z_fi (z_mi 215) 11 = some (11, .ldc2_w 254, 0, 0, 0, 0, 10) := rfl
set_option maxRecDepth 8000 in
theorem q215_14 : z_fi (z_mi 215) 14 = some (14, .invokestatic 62, 1, 149, 3, 0, 0) := rfl
set_option maxRecDepth 8000 in
theorem q215_17 : z_fi (z_mi 215) 17 = some (17, .ifCond .eq 26, 0, 43, 0, 0, 0) := rfl
set_option maxRecDepth 8000 in
theorem q215_20 : z_fi (z_mi 215) 20 = some (20, .iload_n 3, 0, 0, 0, 0, 0) := rfl
set_option maxRecDepth 8000 in
theorem q215_21 : z_fi (z_mi 215) 21 = some (21, .i2l, 0, 0, 0, 0, 0) := rfl
set_option maxRecDepth 8000 in
theorem q215_22 : z_fi (z_mi 215) 22 = some (22, .lconst 1, 0, 0, 0, 0, 1) := rfl
set_option maxRecDepth 8000 in
theorem q215_23 : z_fi (z_mi 215) 23 = some (23, .ldc2_w 261, 0, 0, 0, 0, 8) := rfl
set_option maxRecDepth 8000 in
theorem q215_26 : z_fi (z_mi 215) 26 = some (26, .invokestatic 62, 1, 149, 3, 0, 0) := rfl
set_option maxRecDepth 8000 in
theorem q215_29 : z_fi (z_mi 215) 29 = some (29, .ifCond .eq 14, 0, 43, 0, 0, 0) := rfl
set_option maxRecDepth 8000 in
theorem q215_32 : z_fi (z_mi 215) 32 = some (32, .iload 4, 0, 0, 0, 0, 0) := rfl
set_option maxRecDepth 8000 in
theorem q215_34 : z_fi (z_mi 215) 34 = some (34, .i2l, 0, 0, 0, 0, 0) := rfl
set_option maxRecDepth 8000 in
theorem q215_35 : z_fi (z_mi 215) 35 = some (35, .lconst 0, 0, 0, 0, 0, 0) := rfl
set_option maxRecDepth 8000 in
theorem q215_36 : z_fi (z_mi 215) 36 = some (36, .lconst 1, 0, 0, 0, 0, 1) := rfl
set_option maxRecDepth 8000 in
theorem q215_37 : z_fi (z_mi 215) 37 = some (37, .invokestatic 62, 1, 149, 3, 0, 0) := rfl
set_option maxRecDepth 8000 in
theorem q215_40 : z_fi (z_mi 215) 40 = some (40, .ifCond .ne 7, 0, 47, 0, 0, 0) := rfl
set_option maxRecDepth 8000 in
theorem q215_43 : z_fi (z_mi 215) 43 = some (43, .ldc2_w 263, 0, 0, 0, 0, (-1)) := rfl
set_option maxRecDepth 8000 in
theorem q215_46 : z_fi (z_mi 215) 46 = some (46, .lreturn, 0, 0, 0, 0, 0) := rfl
set_option maxRecDepth 8000 in
theorem q215_47 : z_fi (z_mi 215) 47 = some (47, .aload_n 0, 0, 0, 0, 0, 0) := rfl
set_option maxRecDepth 8000 in
theorem q215_48 : z_fi (z_mi 215) 48 = some (48, .iconst 0, 0, 0, 0, 0, 0) := rfl
set_option maxRecDepth 8000 in
theorem q215_49 : z_fi (z_mi 215) 49 = some (49, .iload_n 1, 0, 0, 0, 0, 0) := rfl
set_option maxRecDepth 8000 in
theorem q215_50 : z_fi (z_mi 215) 50 = some (50, .invokevirtual 162, 0, 170, 2, 0, 0) := rfl
set_option maxRecDepth 8000 in
theorem q215_53 : z_fi (z_mi 215) 53 = some (53, .bipush (-4), 0, 0, 0, (-4), 0) := rfl
set_option maxRecDepth 8000 in
theorem q215_55 : z_fi (z_mi 215) 55 = some (55, .if_icmp .ne 7, 0, 62, 0, 0, 0) := rfl
set_option maxRecDepth 8000 in
theorem q215_58 : z_fi (z_mi 215) 58 = some (58, .ldc2_w 265, 0, 0, 0, 0, (-2)) := rfl
set_option maxRecDepth 8000 in
theorem q215_61 : z_fi (z_mi 215) 61 = some (61, .lreturn, 0, 0, 0, 0, 0) := rfl
set_option maxRecDepth 8000 in
theorem q215_62 : z_fi (z_mi 215) 62 = some (62, .lconst 0, 0, 0, 0, 0, 0) := rfl
set_option maxRecDepth 8000 in
theorem q215_63 : z_fi (z_mi 215) 63 = some (63, .lstore 5, 0, 0, 0, 0, 0) := rfl
set_option maxRecDepth 8000 in
theorem q215_65 : z_fi (z_mi 215) 65 = some (65, .lconst 1, 0, 0, 0, 0, 1) := rfl
set_option maxRecDepth 8000 in
theorem q215_66 : z_fi (z_mi 215) 66 = some (66, .lstore 7, 0, 0, 0, 0, 0) := rfl
set_option maxRecDepth 8000 in
theorem q215_68 : z_fi (z_mi 215) 68 = some (68, .iconst 0, 0, 0, 0, 0, 0) := rfl
set_option maxRecDepth 8000 in
theorem q215_69 : z_fi (z_mi 215) 69 = some (69, .istore 9, 0, 0, 0, 0, 0) := rfl
set_option maxRecDepth 8000 in
theorem q215_71 : z_fi (z_mi 215) 71 = some (71, .iload 9, 0, 0, 0, 0, 0) := rfl
set_option maxRecDepth 8000 in
theorem q215_73 : z_fi (z_mi 215) 73 = some (73, .iload_n 3, 0, 0, 0, 0, 0) := rfl
set_option maxRecDepth 8000 in
theorem q215_74 : z_fi (z_mi 215) 74 = some (74, .if_icmp .ge 17, 0, 91, 0, 0, 0) := rfl
set_option maxRecDepth 8000 in
theorem q215_77 : z_fi (z_mi 215) 77 = some (77, .lload 7, 0, 0, 0, 0, 0) := rfl
set_option maxRecDepth 8000 in
theorem q215_79 : z_fi (z_mi 215) 79 = some (79, .ldc2_w 254, 0, 0, 0, 0, 10) := rfl
set_option maxRecDepth 8000 in
theorem q215_82 : z_fi (z_mi 215) 82 = some (82, .lmul, 0, 0, 0, 0, 0) := rfl
set_option maxRecDepth 8000 in
theorem q215_83 : z_fi (z_mi 215) 83 = some (83, .lstore 7, 0, 0, 0, 0, 0) := rfl
set_option maxRecDepth 8000 in
theorem q215_85 : z_fi (z_mi 215) 85 = some (85, .iinc 9 1, 0, 0, 0, 1, 0) := rfl
set_option maxRecDepth 8000 in
theorem q215_88 : z_fi (z_mi 215) 88 = some (88, .goto (-17), 0, 71, 0, 0, 0) := rfl
set_option maxRecDepth 8000 in
theorem q215_91 : z_fi (z_mi 215) 91 = some (91, .iconst 0, 0, 0, 0, 0, 0) := rfl
set_option maxRecDepth 8000 in
theorem q215_92 : z_fi (z_mi 215) 92 = some (92, .istore 9, 0, 0, 0, 0, 0) := rfl
set_option maxRecDepth 8000 in
theorem q215_94 : z_fi (z_mi 215) 94 = some (94, .iload 9, 0, 0, 0, 0, 0) := rfl
set_option maxRecDepth 8000 in
theorem q215_96 : z_fi (z_mi 215) 96 = some (96, .iconst 1, 0, 0, 0, 1, 0) := rfl
set_option maxRecDepth 8000 in
theorem q215_97 : z_fi (z_mi 215) 97 = some (97, .iload_n 3, 0, 0, 0, 0, 0) := rfl
set_option maxRecDepth 8000 in
theorem q215_98 : z_fi (z_mi 215) 98 = some (98, .ishl, 0, 0, 0, 0, 0) := rfl
set_option maxRecDepth 8000 in
theorem q215_99 : z_fi (z_mi 215) 99 = some (99, .if_icmp .ge 75, 0, 174, 0, 0, 0) := rfl
set_option maxRecDepth 8000 in
theorem q215_102 : z_fi (z_mi 215) 102 = some (102, .lconst 1, 0, 0, 0, 0, 1) := rfl
set_option maxRecDepth 8000 in
theorem q215_103 : z_fi (z_mi 215) 103 = some (103, .lstore 10, 0, 0, 0, 0, 0) := rfl
set_option maxRecDepth 8000 in
theorem q215_105 : z_fi (z_mi 215) 105 = some (105, .iconst 0, 0, 0, 0, 0, 0) := rfl
set_option maxRecDepth 8000 in
theorem q215_106 : z_fi (z_mi 215) 106 = some (106, .istore 12, 0, 0, 0, 0, 0) := rfl
set_option maxRecDepth 8000 in
theorem q215_108 : z_fi (z_mi 215) 108 = some (108, .iload 12, 0, 0, 0, 0, 0) := rfl
set_option maxRecDepth 8000 in
theorem q215_110 : z_fi (z_mi 215) 110 = some (110, .iload_n 3, 0, 0, 0, 0, 0) := rfl
set_option maxRecDepth 8000 in
theorem q215_111 : z_fi (z_mi 215) 111 = some (111, .if_icmp .ge 35, 0, 146, 0, 0, 0) := rfl
set_option maxRecDepth 8000 in
theorem q215_114 : z_fi (z_mi 215) 114 = some (114, .lload 10, 0, 0, 0, 0, 0) := rfl
set_option maxRecDepth 8000 in
theorem q215_116 : z_fi (z_mi 215) 116 = some (116, .iload 9, 0, 0, 0, 0, 0) := rfl
set_option maxRecDepth 8000 in
theorem q215_118 : z_fi (z_mi 215) 118 = some (118, .iload 12, 0, 0, 0, 0, 0) := rfl
set_option maxRecDepth 8000 in
theorem q215_120 : z_fi (z_mi 215) 120 = some (120, .ishr, 0, 0, 0, 0, 0) := rfl
set_option maxRecDepth 8000 in
theorem q215_121 : z_fi (z_mi 215) 121 = some (121, .iconst 1, 0, 0, 0, 1, 0) := rfl
set_option maxRecDepth 8000 in
theorem q215_122 : z_fi (z_mi 215) 122 = some (122, .iand, 0, 0, 0, 0, 0) := rfl
set_option maxRecDepth 8000 in
theorem q215_123 : z_fi (z_mi 215) 123 = some (123, .iconst 1, 0, 0, 0, 1, 0) := rfl
set_option maxRecDepth 8000 in
theorem q215_124 : z_fi (z_mi 215) 124 = some (124, .if_icmp .ne 8, 0, 132, 0, 0, 0) := rfl
set_option maxRecDepth 8000 in
theorem q215_127 : z_fi (z_mi 215) 127 = some (127, .iload_n 2, 0, 0, 0, 0, 0) := rfl
set_option maxRecDepth 8000 in
theorem q215_128 : z_fi (z_mi 215) 128 = some (128, .i2l, 0, 0, 0, 0, 0) := rfl
set_option maxRecDepth 8000 in
theorem q215_129 : z_fi (z_mi 215) 129 = some (129, .goto 8, 0, 137, 0, 0, 0) := rfl
set_option maxRecDepth 8000 in
theorem q215_132 : z_fi (z_mi 215) 132 = some (132, .bipush 10, 0, 0, 0, 10, 0) := rfl
set_option maxRecDepth 8000 in
theorem q215_134 : z_fi (z_mi 215) 134 = some (134, .iload_n 2, 0, 0, 0, 0, 0) := rfl
set_option maxRecDepth 8000 in
theorem q215_135 : z_fi (z_mi 215) 135 = some (135, .isub, 0, 0, 0, 0, 0) := rfl
set_option maxRecDepth 8000 in
theorem q215_136 : z_fi (z_mi 215) 136 = some (136, .i2l, 0, 0, 0, 0, 0) := rfl
set_option maxRecDepth 8000 in
theorem q215_137 : z_fi (z_mi 215) 137 = some (137, .lmul, 0, 0, 0, 0, 0) := rfl
set_option maxRecDepth 8000 in
theorem q215_138 : z_fi (z_mi 215) 138 = some (138, .lstore 10, 0, 0, 0, 0, 0) := rfl
set_option maxRecDepth 8000 in
theorem q215_140 : z_fi (z_mi 215) 140 = some (140, .iinc 12 1, 0, 0, 0, 1, 0) := rfl
set_option maxRecDepth 8000 in
theorem q215_143 : z_fi (z_mi 215) 143 = some (143, .goto (-35), 0, 108, 0, 0, 0) := rfl
set_option maxRecDepth 8000 in
theorem q215_146 : z_fi (z_mi 215) 146 = some (146, .lload 5, 0, 0, 0, 0, 0) := rfl
set_option maxRecDepth 8000 in
theorem q215_148 : z_fi (z_mi 215) 148 = some (148, .aload_n 0, 0, 0, 0, 0, 0) := rfl
set_option maxRecDepth 8000 in
theorem q215_149 : z_fi (z_mi 215) 149 = some (149, .iload_n 1, 0, 0, 0, 0, 0) := rfl
set_option maxRecDepth 8000 in
theorem q215_150 : z_fi (z_mi 215) 150 = some (150, .iload_n 3, 0, 0, 0, 0, 0) := rfl
set_option maxRecDepth 8000 in
theorem q215_151 : z_fi (z_mi 215) 151 = some (151, .iload 9, 0, 0, 0, 0, 0) := rfl
set_option maxRecDepth 8000 in
theorem q215_153 : z_fi (z_mi 215) 153 = some (153, .invokevirtual 267, 0, 214, 3, 0, 0) := rfl
set_option maxRecDepth 8000 in
theorem q215_156 : z_fi (z_mi 215) 156 = some (156, .ifCond .eq 8, 0, 164, 0, 0, 0) := rfl
set_option maxRecDepth 8000 in
theorem q215_159 : z_fi (z_mi 215) 159 = some (159, .lload 10, 0, 0, 0, 0, 0) := rfl
set_option maxRecDepth 8000 in
theorem q215_161 : z_fi (z_mi 215) 161 = some (161, .goto 4, 0, 165, 0, 0, 0) := rfl
set_option maxRecDepth 8000 in
theorem q215_164 : z_fi (z_mi 215) 164 = some (164, .lconst 0, 0, 0, 0, 0, 0) := rfl
set_option maxRecDepth 8000 in
theorem q215_165 : z_fi (z_mi 215) 165 = some (165, .ladd, 0, 0, 0, 0, 0) := rfl
set_option maxRecDepth 8000 in
theorem q215_166 : z_fi (z_mi 215) 166 = some (166, .lstore 5, 0, 0, 0, 0, 0) := rfl
set_option maxRecDepth 8000 in
theorem q215_168 : z_fi (z_mi 215) 168 = some (168, .iinc 9 1, 0, 0, 0, 1, 0) := rfl
set_option maxRecDepth 8000 in
theorem q215_171 : z_fi (z_mi 215) 171 = some (171, .goto (-77), 0, 94, 0, 0, 0) := rfl
set_option maxRecDepth 8000 in
theorem q215_174 : z_fi (z_mi 215) 174 = some (174, .lload 5, 0, 0, 0, 0, 0) := rfl
set_option maxRecDepth 8000 in
theorem q215_176 : z_fi (z_mi 215) 176 = some (176, .lload 7, 0, 0, 0, 0, 0) := rfl
set_option maxRecDepth 8000 in
theorem q215_178 : z_fi (z_mi 215) 178 = some (178, .iload 4, 0, 0, 0, 0, 0) := rfl
set_option maxRecDepth 8000 in
theorem q215_180 : z_fi (z_mi 215) 180 = some (180, .invokestatic 270, 1, 213, 3, 0, 0) := rfl
set_option maxRecDepth 8000 in
theorem q215_183 : z_fi (z_mi 215) 183 = some (183, .lreturn, 0, 0, 0, 0, 0) := rfl
set_option maxRecDepth 20000 in
set_option maxHeartbeats 4000000 in
theorem t_M_luck {xL : Nat} {xs : Nat → Int32} {ρ : Nat → Nat → Option Nat} (hρ : z_hR ρ) (d : Nat) (a1 : Int32) (a2 : Int32) (a3 : Int32) (a4 : Int32) (σ : zS) : ∀ q, f_M_luck a1 a2 a3 a4 σ = some q → z_ec xL xs ρ (d + 2) 215 [.ref 90, .int a1, .int a2, .int a3, .int a4] σ (em_pl σ q) := by
  refine j_of (W := [.ref 90, .int a1, .int a2, .int a3, .int a4, .null, .null, .null, .null, .null, .null, .null, .null]) (fun L hL => ?_) ?_
  · subst hL; exact z_vl_0 _ 8 rfl
  · unfold f_M_luck
    refine j_aload_n (pc' := 1) q215_0 rfl (by decide) rfl ?_
    refine j_iload_n (pc' := 2) q215_1 rfl rfl ?_
    refine j_callV1_pi (d := d + 1) (pc' := 5) q215_2 rfl (Nat.le_of_ble_eq_true rfl) (Nat.le_of_ble_eq_true rfl) rfl (t_M_isCell hρ (d + 0) _ _) (fun r1 => ?_)
    refine j_if_eq (pc' := 8) q215_5 rfl (fun c2 => ?_) (fun c2 => ?_)
    · refine j_ldc2 (pc' := 46) q215_43 rfl ?_
      exact j_plret q215_46 rfl
    · refine j_iload_n (pc' := 9) q215_8 rfl rfl ?_
      refine j_i2l (pc' := 10) q215_9 rfl ?_
      refine j_lconst (pc' := 11) q215_10 rfl ?_
      refine j_ldc2 (pc' := 14) q215_11 rfl ?_
      refine j_callS3_pi (d := d + 1) (pc' := 17) q215_14 (Or.inl rfl) (Nat.le_of_ble_eq_true rfl) (Nat.le_of_ble_eq_true rfl) rfl (t_M_in hρ (d + 1) _ _ _ _) (fun r3 => ?_)
      refine j_if_eq (pc' := 20) q215_17 rfl (fun c4 => ?_) (fun c4 => ?_)
      · refine j_ldc2 (pc' := 46) q215_43 rfl ?_
        exact j_plret q215_46 rfl
      · refine j_iload_n (pc' := 21) q215_20 rfl rfl ?_
        refine j_i2l (pc' := 22) q215_21 rfl ?_
        refine j_lconst (pc' := 23) q215_22 rfl ?_
        refine j_ldc2 (pc' := 26) q215_23 rfl ?_
        refine j_callS3_pi (d := d + 1) (pc' := 29) q215_26 (Or.inl rfl) (Nat.le_of_ble_eq_true rfl) (Nat.le_of_ble_eq_true rfl) rfl (t_M_in hρ (d + 1) _ _ _ _) (fun r5 => ?_)
        refine j_if_eq (pc' := 32) q215_29 rfl (fun c6 => ?_) (fun c6 => ?_)
        · refine j_ldc2 (pc' := 46) q215_43 rfl ?_
          exact j_plret q215_46 rfl
        · refine j_iload (pc' := 34) q215_32 rfl rfl ?_
          refine j_i2l (pc' := 35) q215_34 rfl ?_
          refine j_lconst (pc' := 36) q215_35 rfl ?_
          refine j_lconst (pc' := 37) q215_36 rfl ?_
          refine j_callS3_pi (d := d + 1) (pc' := 40) q215_37 (Or.inl rfl) (Nat.le_of_ble_eq_true rfl) (Nat.le_of_ble_eq_true rfl) rfl (t_M_in hρ (d + 1) _ _ _ _) (fun r7 => ?_)
          refine j_if_ne (pc' := 43) q215_40 rfl (fun c8 => ?_) (fun c8 => ?_)
          · refine j_ldc2 (pc' := 46) q215_43 rfl ?_
            exact j_plret q215_46 rfl
          · refine j_aload_n (pc' := 48) q215_47 rfl (by decide) rfl ?_
            refine j_iconst (pc' := 49) q215_48 rfl ?_
            refine j_iload_n (pc' := 50) q215_49 rfl rfl ?_
            refine j_callV2_pi (d := d + 1) (pc' := 53) q215_50 rfl (Nat.le_of_ble_eq_true rfl) (Nat.le_of_ble_eq_true rfl) rfl (t_M_cropIn hρ (d + 1) _ _ _) (fun r9 => ?_)
            refine j_bipush (pc' := 55) q215_53 rfl ?_
            refine j_icmp_ne (pc' := 58) q215_55 rfl (fun c10 => ?_) (fun c10 => ?_)
            · refine j_ldc2 (pc' := 61) q215_58 rfl ?_
              exact j_plret q215_61 rfl
            · refine j_lconst (pc' := 63) q215_62 rfl ?_
              refine j_lstore5 (pc' := 65) q215_63 rfl (Nat.le_of_ble_eq_true rfl) rfl ?_
              refine j_lconst (pc' := 66) q215_65 rfl ?_
              refine j_lstore7 (pc' := 68) q215_66 rfl (Nat.le_of_ble_eq_true rfl) rfl ?_
              refine j_iconst (pc' := 69) q215_68 rfl ?_
              refine j_istore9 (pc' := 71) q215_69 rfl (Nat.le_of_ble_eq_true rfl) rfl ?_
              refine j_forget (V' := [.ref 90, .int a1, .int a2, .int a3, .int a4, .long (0 : Int64), .null, .long (1 : Int64), .null, .int (0 : Int32), .null, .null, .null]) (z_le_s (z_le_s (z_le_s (z_le_s (z_le_s (z_le_s (z_le_n (z_le_s (z_le_n (z_le_s (z_le_n (z_le_n (z_le_n (z_le_nil)))))))))))))) ?_
              refine j_loopX (S := Int64 × Int32) (E := Int64) (fun e => e) 91 (fun s11 => [.ref 90, .int a1, .int a2, .int a3, .int a4, .long (0 : Int64), .null, .long s11.1, .null, .int s11.2, .null, .null, .null]) (fun s11 => σ) (fun b11 => [.ref 90, .int a1, .int a2, .int a3, .int a4, .long (0 : Int64), .null, .long b11, .null, .null, .null, .null, .null]) (fun b11 => σ) (fun b11 => ?_) (fun R11 hR11 hX11 s11 => ?_) ((1 : Int64), (0 : Int32))
              · show z_J _ _ _ _ _ _ _ _ _ _ _ _
                refine j_iconst (pc' := 92) q215_91 rfl ?_
                refine j_istore9 (pc' := 94) q215_92 rfl (Nat.le_of_ble_eq_true rfl) rfl ?_
                refine j_forget (V' := [.ref 90, .int a1, .int a2, .int a3, .int a4, .long (0 : Int64), .null, .long b11, .null, .int (0 : Int32), .null, .null, .null]) (z_le_s (z_le_s (z_le_s (z_le_s (z_le_s (z_le_s (z_le_n (z_le_s (z_le_n (z_le_s (z_le_n (z_le_n (z_le_n (z_le_nil)))))))))))))) ?_
                refine j_loopX (S := Int64 × Int32) (E := Int64) (fun e => e) 174 (fun s13 => [.ref 90, .int a1, .int a2, .int a3, .int a4, .long s13.1, .null, .long b11, .null, .int s13.2, .null, .null, .null]) (fun s13 => σ) (fun b13 => [.null, .null, .null, .null, .int a4, .long b13, .null, .long b11, .null, .null, .null, .null, .null]) (fun b13 => σ) (fun b13 => ?_) (fun R13 hR13 hX13 s13 => ?_) ((0 : Int64), (0 : Int32))
                · show z_J _ _ _ _ _ _ _ _ _ _ _ _
                  refine j_lload (pc' := 176) q215_174 rfl rfl ?_
                  refine j_lload (pc' := 178) q215_176 rfl rfl ?_
                  refine j_iload (pc' := 180) q215_178 rfl rfl ?_
                  refine j_callS3_pl (d := d + 1) (pc' := 183) q215_180 (Or.inl rfl) (Nat.le_of_ble_eq_true rfl) (Nat.le_of_ble_eq_true rfl) rfl (t_M_lowest hρ (d + 1) _ _ _ _) (fun r22 => ?_)
                  exact j_plret q215_183 rfl
                · show z_J _ _ _ _ _ _ _ _ _ _ _ _
                  refine j_iload (pc' := 96) q215_94 rfl rfl ?_
                  refine j_iconst (pc' := 97) q215_96 rfl ?_
                  refine j_iload_n (pc' := 98) q215_97 rfl rfl ?_
                  refine j_ishl (pc' := 99) q215_98 rfl ?_
                  refine j_icmp_ge (pc' := 102) q215_99 rfl (fun c14 => ?_) (fun c14 => ?_)
                  · exact j_exit (j_forget (z_le_n (z_le_n (z_le_n (z_le_n (z_le_s (z_le_s (z_le_n (z_le_s (z_le_n (z_le_n (z_le_n (z_le_n (z_le_n (z_le_nil)))))))))))))) (hX13 s13.1))
                  · refine j_lconst (pc' := 103) q215_102 rfl ?_
                    refine j_lstore10 (pc' := 105) q215_103 rfl (Nat.le_of_ble_eq_true rfl) rfl ?_
                    refine j_iconst (pc' := 106) q215_105 rfl ?_
                    refine j_istore12 (pc' := 108) q215_106 rfl (Nat.le_of_ble_eq_true rfl) rfl ?_
                    refine j_forget (V' := [.ref 90, .int a1, .int a2, .int a3, .int a4, .long s13.1, .null, .long b11, .null, .int s13.2, .long (1 : Int64), .null, .int (0 : Int32)]) (z_le_s (z_le_s (z_le_s (z_le_s (z_le_s (z_le_s (z_le_n (z_le_s (z_le_n (z_le_s (z_le_s (z_le_n (z_le_s (z_le_nil)))))))))))))) ?_
                    refine j_loopX (S := Int64 × Int32) (E := Int64) (fun e => e) 146 (fun s15 => [.ref 90, .int a1, .int a2, .int a3, .int a4, .long s13.1, .null, .long b11, .null, .int s13.2, .long s15.1, .null, .int s15.2]) (fun s15 => σ) (fun b15 => [.ref 90, .int a1, .int a2, .int a3, .int a4, .long s13.1, .null, .long b11, .null, .int s13.2, .long b15, .null, .null]) (fun b15 => σ) (fun b15 => ?_) (fun R15 hR15 hX15 s15 => ?_) ((1 : Int64), (0 : Int32))
                    · show z_J _ _ _ _ _ _ _ _ _ _ _ _
                      refine j_lload (pc' := 148) q215_146 rfl rfl ?_
                      refine j_aload_n (pc' := 149) q215_148 rfl (by decide) rfl ?_
                      refine j_iload_n (pc' := 150) q215_149 rfl rfl ?_
                      refine j_iload_n (pc' := 151) q215_150 rfl rfl ?_
                      refine j_iload (pc' := 153) q215_151 rfl rfl ?_
                      refine j_callV3_pi (d := d + 1) (pc' := 156) q215_153 rfl (Nat.le_of_ble_eq_true rfl) (Nat.le_of_ble_eq_true rfl) rfl (t_M_isRipeBy hρ (d + 0) _ _ _ _) (fun r19 => ?_)
                      refine j_join (T := Int64 × Int64) 165 (fun t20 => [.ref 90, .int a1, .int a2, .int a3, .int a4, .null, .null, .long b11, .null, .int s13.2, .null, .null, .null]) (fun t20 => [.long t20.1, .long t20.2]) (fun t20 => σ) (fun t20 => ?_) (fun j20 hj20 => ?_)
                      · show z_J _ _ _ _ _ _ _ _ _ _ _ _
                        refine j_ladd (pc' := 166) q215_165 rfl ?_
                        refine j_lstore5 (pc' := 168) q215_166 rfl (Nat.le_of_ble_eq_true rfl) rfl ?_
                        refine j_iinc9 (pc' := 171) q215_168 rfl (Nat.le_of_ble_eq_true rfl) rfl ?_
                        refine j_goto q215_171 rfl ?_
                        exact j_again (j_forget (z_le_s (z_le_s (z_le_s (z_le_s (z_le_s (z_le_s (z_le_n (z_le_s (z_le_n (z_le_s (z_le_n (z_le_n (z_le_n (z_le_nil)))))))))))))) (hR13 ((t20.2 + t20.1), (s13.2 + (1 : Int32)))))
                      · show z_J _ _ _ _ _ _ _ _ _ _ _ _
                        refine j_if_eq (pc' := 159) q215_156 rfl (fun c21 => ?_) (fun c21 => ?_)
                        · refine j_lconst (pc' := 165) q215_164 rfl ?_
                          refine j_forget (z_le_s (z_le_s (z_le_s (z_le_s (z_le_s (z_le_n (z_le_n (z_le_s (z_le_n (z_le_s (z_le_n (z_le_n (z_le_n (z_le_nil)))))))))))))) (hj20 ((0 : Int64), s13.1))
                        · refine j_lload (pc' := 161) q215_159 rfl rfl ?_
                          refine j_goto q215_161 rfl ?_
                          refine j_forget (z_le_s (z_le_s (z_le_s (z_le_s (z_le_s (z_le_n (z_le_n (z_le_s (z_le_n (z_le_s (z_le_n (z_le_n (z_le_n (z_le_nil)))))))))))))) (hj20 (b15, s13.1))
                    · show z_J _ _ _ _ _ _ _ _ _ _ _ _
                      refine j_iload (pc' := 110) q215_108 rfl rfl ?_
                      refine j_iload_n (pc' := 111) q215_110 rfl rfl ?_
                      refine j_icmp_ge (pc' := 114) q215_111 rfl (fun c16 => ?_) (fun c16 => ?_)
                      · exact j_exit (j_forget (z_le_s (z_le_s (z_le_s (z_le_s (z_le_s (z_le_s (z_le_n (z_le_s (z_le_n (z_le_s (z_le_s (z_le_n (z_le_n (z_le_nil)))))))))))))) (hX15 s15.1))
                      · refine j_lload (pc' := 116) q215_114 rfl rfl ?_
                        refine j_iload (pc' := 118) q215_116 rfl rfl ?_
                        refine j_iload (pc' := 120) q215_118 rfl rfl ?_
                        refine j_ishr (pc' := 121) q215_120 rfl ?_
                        refine j_iconst (pc' := 122) q215_121 rfl ?_
                        refine j_iand (pc' := 123) q215_122 rfl ?_
                        refine j_iconst (pc' := 124) q215_123 rfl ?_
                        refine j_join (T := Int64 × Int64) 137 (fun t17 => [.ref 90, .int a1, .int a2, .int a3, .int a4, .long s13.1, .null, .long b11, .null, .int s13.2, .null, .null, .int s15.2]) (fun t17 => [.long t17.1, .long t17.2]) (fun t17 => σ) (fun t17 => ?_) (fun j17 hj17 => ?_)
                        · show z_J _ _ _ _ _ _ _ _ _ _ _ _
                          refine j_lmul (pc' := 138) q215_137 rfl ?_
                          refine j_lstore10 (pc' := 140) q215_138 rfl (Nat.le_of_ble_eq_true rfl) rfl ?_
                          refine j_iinc12 (pc' := 143) q215_140 rfl (Nat.le_of_ble_eq_true rfl) rfl ?_
                          refine j_goto q215_143 rfl ?_
                          exact j_again (j_forget (z_le_s (z_le_s (z_le_s (z_le_s (z_le_s (z_le_s (z_le_n (z_le_s (z_le_n (z_le_s (z_le_s (z_le_n (z_le_s (z_le_nil)))))))))))))) (hR15 ((t17.2 * t17.1), (s15.2 + (1 : Int32)))))
                        · show z_J _ _ _ _ _ _ _ _ _ _ _ _
                          refine j_icmp_ne (pc' := 127) q215_124 rfl (fun c18 => ?_) (fun c18 => ?_)
                          · refine j_iload_n (pc' := 128) q215_127 rfl rfl ?_
                            refine j_i2l (pc' := 129) q215_128 rfl ?_
                            refine j_goto q215_129 rfl ?_
                            refine j_forget (z_le_s (z_le_s (z_le_s (z_le_s (z_le_s (z_le_s (z_le_n (z_le_s (z_le_n (z_le_s (z_le_n (z_le_n (z_le_s (z_le_nil)))))))))))))) (hj17 ((a2.toInt64), s15.1))
                          · refine j_bipush (pc' := 134) q215_132 rfl ?_
                            refine j_iload_n (pc' := 135) q215_134 rfl rfl ?_
                            refine j_isub (pc' := 136) q215_135 rfl ?_
                            refine j_i2l (pc' := 137) q215_136 rfl ?_
                            refine j_forget (z_le_s (z_le_s (z_le_s (z_le_s (z_le_s (z_le_s (z_le_n (z_le_s (z_le_n (z_le_s (z_le_n (z_le_n (z_le_s (z_le_nil)))))))))))))) (hj17 ((((10 : Int32) - a2).toInt64), s15.1))
              · show z_J _ _ _ _ _ _ _ _ _ _ _ _
                refine j_iload (pc' := 73) q215_71 rfl rfl ?_
                refine j_iload_n (pc' := 74) q215_73 rfl rfl ?_
                refine j_icmp_ge (pc' := 77) q215_74 rfl (fun c12 => ?_) (fun c12 => ?_)
                · exact j_exit (j_forget (z_le_s (z_le_s (z_le_s (z_le_s (z_le_s (z_le_s (z_le_n (z_le_s (z_le_n (z_le_n (z_le_n (z_le_n (z_le_n (z_le_nil)))))))))))))) (hX11 s11.1))
                · refine j_lload (pc' := 79) q215_77 rfl rfl ?_
                  refine j_ldc2 (pc' := 82) q215_79 rfl ?_
                  refine j_lmul (pc' := 83) q215_82 rfl ?_
                  refine j_lstore7 (pc' := 85) q215_83 rfl (Nat.le_of_ble_eq_true rfl) rfl ?_
                  refine j_iinc9 (pc' := 88) q215_85 rfl (Nat.le_of_ble_eq_true rfl) rfl ?_
                  refine j_goto q215_88 rfl ?_
                  exact j_again (j_forget (z_le_s (z_le_s (z_le_s (z_le_s (z_le_s (z_le_s (z_le_n (z_le_s (z_le_n (z_le_s (z_le_n (z_le_n (z_le_n (z_le_nil)))))))))))))) (hR11 ((s11.1 * (10 : Int64)), (s11.2 + (1 : Int32)))))
theorem q67_0 : z_fi (z_mi 67) 0 = some (0, .aload_n 0, 0, 0, 0, 0, 0) := rfl
theorem q67_1 : z_fi (z_mi 67) 1 = some (1, .getfield 29, 0, 5, 2, 0, 0) := rfl
theorem q67_4 : z_fi (z_mi 67) 4 = some (4, .bipush 6, 0, 0, 0, 6, 0) := rfl
theorem q67_6 : z_fi (z_mi 67) 6 = some (6, .if_icmp .lt 5, 0, 11, 0, 0, 0) := rfl
theorem q67_9 : z_fi (z_mi 67) 9 = some (9, .iconst 0, 0, 0, 0, 0, 0) := rfl
theorem q67_10 : z_fi (z_mi 67) 10 = some (10, .ireturn, 0, 0, 0, 0, 0) := rfl
theorem q67_11 : z_fi (z_mi 67) 11 = some (11, .aload_n 0, 0, 0, 0, 0, 0) := rfl
theorem q67_12 : z_fi (z_mi 67) 12 = some (12, .getfield 13, 0, 5, 0, 0, 0) := rfl
theorem q67_15 : z_fi (z_mi 67) 15 = some (15, .aload_n 0, 0, 0, 0, 0, 0) := rfl
theorem q67_16 : z_fi (z_mi 67) 16 = some (16, .getfield 29, 0, 5, 2, 0, 0) := rfl
theorem q67_19 : z_fi (z_mi 67) 19 = some (19, .iload_n 1, 0, 0, 0, 0, 0) := rfl
theorem q67_20 : z_fi (z_mi 67) 20 = some (20, .iastore, 0, 0, 0, 0, 0) := rfl
theorem q67_21 : z_fi (z_mi 67) 21 = some (21, .aload_n 0, 0, 0, 0, 0, 0) := rfl
theorem q67_22 : z_fi (z_mi 67) 22 = some (22, .getfield 17, 0, 5, 1, 0, 0) := rfl
theorem q67_25 : z_fi (z_mi 67) 25 = some (25, .aload_n 0, 0, 0, 0, 0, 0) := rfl
theorem q67_26 : z_fi (z_mi 67) 26 = some (26, .getfield 29, 0, 5, 2, 0, 0) := rfl
theorem q67_29 : z_fi (z_mi 67) 29 = some (29, .iload_n 2, 0, 0, 0, 0, 0) := rfl
theorem q67_30 : z_fi (z_mi 67) 30 = some (30, .iastore, 0, 0, 0, 0, 0) := rfl
theorem q67_31 : z_fi (z_mi 67) 31 = some (31, .aload_n 0, 0, 0, 0, 0, 0) := rfl
theorem q67_32 : z_fi (z_mi 67) 32 = some (32, .dup, 0, 0, 0, 0, 0) := rfl
theorem q67_33 : z_fi (z_mi 67) 33 = some (33, .getfield 29, 0, 5, 2, 0, 0) := rfl
theorem q67_36 : z_fi (z_mi 67) 36 = some (36, .iconst 1, 0, 0, 0, 1, 0) := rfl
theorem q67_37 : z_fi (z_mi 67) 37 = some (37, .iadd, 0, 0, 0, 0, 0) := rfl
theorem q67_38 : z_fi (z_mi 67) 38 = some (38, .putfield 29, 0, 5, 2, 0, 0) := rfl
theorem q67_41 : z_fi (z_mi 67) 41 = some (41, .iconst 1, 0, 0, 0, 1, 0) := rfl
theorem q67_42 : z_fi (z_mi 67) 42 = some (42, .ireturn, 0, 0, 0, 0, 0) := rfl
set_option maxRecDepth 20000 in
set_option maxHeartbeats 4000000 in
theorem t_St_add_44 {xL : Nat} {xs : Nat → Int32} {ρ : Nat → Nat → Option Nat} (hρ : z_hR ρ) (d : Nat) (a1 : Int32) (a2 : Int32) (σ : zS) : ∀ q, f_St_add_44 a1 a2 σ = some q → z_ec xL xs ρ (d + 0) 67 [.ref 44, .int a1, .int a2] σ (em_i q) := by
  refine j_of (W := [.ref 44, .int a1, .int a2]) (fun L hL => ?_) ?_
  · subst hL; exact z_vl_0 _ 0 rfl
  · unfold f_St_add_44
    refine j_aload_n (pc' := 1) q67_0 rfl (by decide) rfl ?_
    refine j_getf (k := 44) (pc' := 4) q67_1 rfl rfl ?_
    refine j_bipush (pc' := 6) q67_4 rfl ?_
    refine j_icmp_lt (pc' := 9) q67_6 rfl (fun c1 => ?_) (fun c1 => ?_)
    · refine j_aload_n (pc' := 12) q67_11 rfl (by decide) rfl ?_
      refine j_getr (k := 44) (q := 45) (pc' := 15) q67_12 rfl (hρ 44 0 45 rfl) rfl ?_
      refine j_aload_n (pc' := 16) q67_15 rfl (by decide) rfl ?_
      refine j_getf (k := 44) (pc' := 19) q67_16 rfl rfl ?_
      refine j_iload_n (pc' := 20) q67_19 rfl rfl ?_
      refine j_if (fun hi2 => ?_) (fun _ => j_none)
      refine j_iast (k := 45) (N := 6) (pc' := 21) q67_20 rfl hi2 rfl ?_
      refine j_nameS (fun τ3 => ?_)
      refine j_aload_n (pc' := 22) q67_21 rfl (by decide) rfl ?_
      refine j_getr (k := 44) (q := 46) (pc' := 25) q67_22 rfl (hρ 44 1 46 rfl) rfl ?_
      refine j_aload_n (pc' := 26) q67_25 rfl (by decide) rfl ?_
      refine j_getf (k := 44) (pc' := 29) q67_26 rfl rfl ?_
      refine j_iload_n (pc' := 30) q67_29 rfl rfl ?_
      refine j_if (fun hi4 => ?_) (fun _ => j_none)
      refine j_iast (k := 46) (N := 6) (pc' := 31) q67_30 rfl hi4 rfl ?_
      refine j_nameS (fun τ5 => ?_)
      refine j_aload_n (pc' := 32) q67_31 rfl (by decide) rfl ?_
      refine j_dup (pc' := 33) q67_32 rfl rfl ?_
      refine j_getf (k := 44) (pc' := 36) q67_33 rfl rfl ?_
      refine j_iconst (pc' := 37) q67_36 rfl ?_
      refine j_iadd (pc' := 38) q67_37 rfl ?_
      refine j_putf (k := 44) (pc' := 41) q67_38 rfl rfl ?_
      refine j_nameS (fun τ6 => ?_)
      refine j_iconst (pc' := 42) q67_41 rfl ?_
      exact j_zret q67_42 rfl (Or.inr rfl)
    · refine j_iconst (pc' := 10) q67_9 rfl ?_
      exact j_zret q67_10 rfl (Or.inl rfl)
theorem q133_0 : z_fi (z_mi 133) 0 = some (0, .iload_n 1, 0, 0, 0, 0, 0) := rfl
theorem q133_1 : z_fi (z_mi 133) 1 = some (1, .iconst 0, 0, 0, 0, 0, 0) := rfl
theorem q133_2 : z_fi (z_mi 133) 2 = some (2, .iconst 4, 0, 0, 0, 4, 0) := rfl
theorem q133_3 : z_fi (z_mi 133) 3 = some (3, .invokestatic 60, 1, 99, 3, 0, 0) := rfl
theorem q133_6 : z_fi (z_mi 133) 6 = some (6, .ifCond .eq 12, 0, 18, 0, 0, 0) := rfl
theorem q133_9 : z_fi (z_mi 133) 9 = some (9, .iload_n 2, 0, 0, 0, 0, 0) := rfl
theorem q133_10 : z_fi (z_mi 133) 10 = some (10, .iconst 0, 0, 0, 0, 0, 0) := rfl
theorem q133_11 : z_fi (z_mi 133) 11 = some (11, .iconst 4, 0, 0, 0, 4, 0) := rfl
theorem q133_12 : z_fi (z_mi 133) 12 = some (12, .invokestatic 60, 1, 99, 3, 0, 0) := rfl
theorem q133_15 : z_fi (z_mi 133) 15 = some (15, .ifCond .ne 5, 0, 20, 0, 0, 0) := rfl
theorem q133_18 : z_fi (z_mi 133) 18 = some (18, .iconst (-1), 0, 0, 0, (-1), 0) := rfl
theorem q133_19 : z_fi (z_mi 133) 19 = some (19, .ireturn, 0, 0, 0, 0, 0) := rfl
theorem q133_20 : z_fi (z_mi 133) 20 = some (20, .aload_n 0, 0, 0, 0, 0, 0) := rfl
theorem q133_21 : z_fi (z_mi 133) 21 = some (21, .getfield 55, 0, 9, 7, 0, 0) := rfl
theorem q133_24 : z_fi (z_mi 133) 24 = some (24, .iload_n 1, 0, 0, 0, 0, 0) := rfl
theorem q133_25 : z_fi (z_mi 133) 25 = some (25, .iload_n 2, 0, 0, 0, 0, 0) := rfl
theorem q133_26 : z_fi (z_mi 133) 26 = some (26, .invokevirtual 258, 0, 67, 2, 0, 0) := rfl
theorem q133_29 : z_fi (z_mi 133) 29 = some (29, .ifCond .eq 13, 0, 42, 0, 0, 0) := rfl
theorem q133_32 : z_fi (z_mi 133) 32 = some (32, .aload_n 0, 0, 0, 0, 0, 0) := rfl
theorem q133_33 : z_fi (z_mi 133) 33 = some (33, .getfield 55, 0, 9, 7, 0, 0) := rfl
theorem q133_36 : z_fi (z_mi 133) 36 = some (36, .getfield 89, 0, 5, 2, 0, 0) := rfl
theorem q133_39 : z_fi (z_mi 133) 39 = some (39, .goto 5, 0, 44, 0, 0, 0) := rfl
theorem q133_42 : z_fi (z_mi 133) 42 = some (42, .bipush (-3), 0, 0, 0, (-3), 0) := rfl
theorem q133_44 : z_fi (z_mi 133) 44 = some (44, .ireturn, 0, 0, 0, 0, 0) := rfl
set_option maxRecDepth 20000 in
set_option maxHeartbeats 4000000 in
theorem t_Y_see {xL : Nat} {xs : Nat → Int32} {ρ : Nat → Nat → Option Nat} (hρ : z_hR ρ) (d : Nat) (a1 : Int32) (a2 : Int32) (σ : zS) : ∀ q, f_Y_see a1 a2 σ = some q → z_ec xL xs ρ (d + 1) 133 [.ref 0, .int a1, .int a2] σ (em_i q) := by
  refine j_of (W := [.ref 0, .int a1, .int a2]) (fun L hL => ?_) ?_
  · subst hL; exact z_vl_0 _ 0 rfl
  · unfold f_Y_see
    refine j_iload_n (pc' := 1) q133_0 rfl rfl ?_
    refine j_iconst (pc' := 2) q133_1 rfl ?_
    refine j_iconst (pc' := 3) q133_2 rfl ?_
    refine j_callS3_pi (d := d + 0) (pc' := 6) q133_3 (Or.inl rfl) (Nat.le_of_ble_eq_true rfl) (Nat.le_of_ble_eq_true rfl) rfl (t_Y_isIn hρ (d + 0) _ _ _ _) (fun r1 => ?_)
    refine j_if_eq (pc' := 9) q133_6 rfl (fun c2 => ?_) (fun c2 => ?_)
    · refine j_iconst (pc' := 19) q133_18 rfl ?_
      exact j_iret q133_19 rfl
    · refine j_iload_n (pc' := 10) q133_9 rfl rfl ?_
      refine j_iconst (pc' := 11) q133_10 rfl ?_
      refine j_iconst (pc' := 12) q133_11 rfl ?_
      refine j_callS3_pi (d := d + 0) (pc' := 15) q133_12 (Or.inl rfl) (Nat.le_of_ble_eq_true rfl) (Nat.le_of_ble_eq_true rfl) rfl (t_Y_isIn hρ (d + 0) _ _ _ _) (fun r3 => ?_)
      refine j_if_ne (pc' := 18) q133_15 rfl (fun c4 => ?_) (fun c4 => ?_)
      · refine j_iconst (pc' := 19) q133_18 rfl ?_
        exact j_iret q133_19 rfl
      · refine j_aload_n (pc' := 21) q133_20 rfl (by decide) rfl ?_
        refine j_getr (k := 0) (q := 44) (pc' := 24) q133_21 rfl (hρ 0 7 44 rfl) rfl ?_
        refine j_iload_n (pc' := 25) q133_24 rfl rfl ?_
        refine j_iload_n (pc' := 26) q133_25 rfl rfl ?_
        refine j_callV2_i (d := d + 0) (pc' := 29) q133_26 rfl (Nat.le_of_ble_eq_true rfl) (Nat.le_of_ble_eq_true rfl) rfl (t_St_add_44 hρ (d + 0) _ _ _) (fun r5 => ?_)
        refine j_if_eq (pc' := 32) q133_29 rfl (fun c6 => ?_) (fun c6 => ?_)
        · refine j_bipush (pc' := 44) q133_42 rfl ?_
          exact j_iret q133_44 rfl
        · refine j_aload_n (pc' := 33) q133_32 rfl (by decide) rfl ?_
          refine j_getr (k := 0) (q := 44) (pc' := 36) q133_33 rfl (hρ 0 7 44 rfl) rfl ?_
          refine j_getf (k := 44) (pc' := 39) q133_36 rfl rfl ?_
          refine j_goto q133_39 rfl ?_
          exact j_iret q133_44 rfl
set_option maxRecDepth 8000 in
theorem q216_0 : z_fi (z_mi 216) 0 = some (0, .iload_n 1, 0, 0, 0, 0, 0) := rfl
set_option maxRecDepth 8000 in
theorem q216_1 : z_fi (z_mi 216) 1 = some (1, .i2l, 0, 0, 0, 0, 0) := rfl
set_option maxRecDepth 8000 in
theorem q216_2 : z_fi (z_mi 216) 2 = some (2, .lconst 0, 0, 0, 0, 0, 0) := rfl
set_option maxRecDepth 8000 in
theorem q216_3 : z_fi (z_mi 216) 3 = some (3, .ldc2_w 169, 0, 0, 0, 0, 4) := rfl
set_option maxRecDepth 8000 in
theorem q216_6 : z_fi (z_mi 216) 6 = some (6, .invokestatic 62, 1, 149, 3, 0, 0) := rfl
set_option maxRecDepth 8000 in
theorem q216_9 : z_fi (z_mi 216) 9 = some (9, .ifCond .eq 15, 0, 24, 0, 0, 0) := rfl
set_option maxRecDepth 8000 in
theorem q216_12 : z_fi (z_mi 216) 12 = some (12, .iload_n 2, 0, 0, 0, 0, 0) := rfl
set_option maxRecDepth 8000 in
theorem q216_13 : z_fi (z_mi 216) 13 = some (13, .i2l, 0, 0, 0, 0, 0) := rfl
set_option maxRecDepth 8000 in
theorem q216_14 : z_fi (z_mi 216) 14 = some (14, .lconst 0, 0, 0, 0, 0, 0) := rfl
set_option maxRecDepth 8000 in
theorem q216_15 : z_fi (z_mi 216) 15 = some (15, .ldc2_w 169, 0, 0, 0, 0, 4) := rfl
set_option maxRecDepth 8000 in
theorem q216_18 : z_fi (z_mi 216) 18 = some (18, .invokestatic 62, 1, 149, 3, 0, 0) := rfl
set_option maxRecDepth 8000 in
theorem q216_21 : z_fi (z_mi 216) 21 = some (21, .ifCond .ne 5, 0, 26, 0, 0, 0) := rfl
set_option maxRecDepth 8000 in
theorem q216_24 : z_fi (z_mi 216) 24 = some (24, .iconst (-1), 0, 0, 0, (-1), 0) := rfl
set_option maxRecDepth 8000 in
theorem q216_25 : z_fi (z_mi 216) 25 = some (25, .ireturn, 0, 0, 0, 0, 0) := rfl
set_option maxRecDepth 8000 in
theorem q216_26 : z_fi (z_mi 216) 26 = some (26, .aload_n 0, 0, 0, 0, 0, 0) := rfl
set_option maxRecDepth 8000 in
theorem q216_27 : z_fi (z_mi 216) 27 = some (27, .getfield 156, 0, 10, 26, 0, 0) := rfl
set_option maxRecDepth 8000 in
theorem q216_30 : z_fi (z_mi 216) 30 = some (30, .bipush 6, 0, 0, 0, 6, 0) := rfl
set_option maxRecDepth 8000 in
theorem q216_32 : z_fi (z_mi 216) 32 = some (32, .if_icmp .ne 6, 0, 38, 0, 0, 0) := rfl
set_option maxRecDepth 8000 in
theorem q216_35 : z_fi (z_mi 216) 35 = some (35, .bipush (-3), 0, 0, 0, (-3), 0) := rfl
set_option maxRecDepth 8000 in
theorem q216_37 : z_fi (z_mi 216) 37 = some (37, .ireturn, 0, 0, 0, 0, 0) := rfl
set_option maxRecDepth 8000 in
theorem q216_38 : z_fi (z_mi 216) 38 = some (38, .aload_n 0, 0, 0, 0, 0, 0) := rfl
set_option maxRecDepth 8000 in
theorem q216_39 : z_fi (z_mi 216) 39 = some (39, .getfield 44, 0, 10, 25, 0, 0) := rfl
set_option maxRecDepth 8000 in
theorem q216_42 : z_fi (z_mi 216) 42 = some (42, .iconst 2, 0, 0, 0, 2, 0) := rfl
set_option maxRecDepth 8000 in
theorem q216_43 : z_fi (z_mi 216) 43 = some (43, .aload_n 0, 0, 0, 0, 0, 0) := rfl
set_option maxRecDepth 8000 in
theorem q216_44 : z_fi (z_mi 216) 44 = some (44, .getfield 156, 0, 10, 26, 0, 0) := rfl
set_option maxRecDepth 8000 in
theorem q216_47 : z_fi (z_mi 216) 47 = some (47, .imul, 0, 0, 0, 0, 0) := rfl
set_option maxRecDepth 8000 in
theorem q216_48 : z_fi (z_mi 216) 48 = some (48, .iload_n 1, 0, 0, 0, 0, 0) := rfl
set_option maxRecDepth 8000 in
theorem q216_49 : z_fi (z_mi 216) 49 = some (49, .iastore, 0, 0, 0, 0, 0) := rfl
set_option maxRecDepth 8000 in
theorem q216_50 : z_fi (z_mi 216) 50 = some (50, .aload_n 0, 0, 0, 0, 0, 0) := rfl
set_option maxRecDepth 8000 in
theorem q216_51 : z_fi (z_mi 216) 51 = some (51, .getfield 44, 0, 10, 25, 0, 0) := rfl
set_option maxRecDepth 8000 in
theorem q216_54 : z_fi (z_mi 216) 54 = some (54, .iconst 2, 0, 0, 0, 2, 0) := rfl
set_option maxRecDepth 8000 in
theorem q216_55 : z_fi (z_mi 216) 55 = some (55, .aload_n 0, 0, 0, 0, 0, 0) := rfl
set_option maxRecDepth 8000 in
theorem q216_56 : z_fi (z_mi 216) 56 = some (56, .getfield 156, 0, 10, 26, 0, 0) := rfl
set_option maxRecDepth 8000 in
theorem q216_59 : z_fi (z_mi 216) 59 = some (59, .imul, 0, 0, 0, 0, 0) := rfl
set_option maxRecDepth 8000 in
theorem q216_60 : z_fi (z_mi 216) 60 = some (60, .iconst 1, 0, 0, 0, 1, 0) := rfl
set_option maxRecDepth 8000 in
theorem q216_61 : z_fi (z_mi 216) 61 = some (61, .iadd, 0, 0, 0, 0, 0) := rfl
set_option maxRecDepth 8000 in
theorem q216_62 : z_fi (z_mi 216) 62 = some (62, .iload_n 2, 0, 0, 0, 0, 0) := rfl
set_option maxRecDepth 8000 in
theorem q216_63 : z_fi (z_mi 216) 63 = some (63, .iastore, 0, 0, 0, 0, 0) := rfl
set_option maxRecDepth 8000 in
theorem q216_64 : z_fi (z_mi 216) 64 = some (64, .aload_n 0, 0, 0, 0, 0, 0) := rfl
set_option maxRecDepth 8000 in
theorem q216_65 : z_fi (z_mi 216) 65 = some (65, .dup, 0, 0, 0, 0, 0) := rfl
set_option maxRecDepth 8000 in
theorem q216_66 : z_fi (z_mi 216) 66 = some (66, .getfield 156, 0, 10, 26, 0, 0) := rfl
set_option maxRecDepth 8000 in
theorem q216_69 : z_fi (z_mi 216) 69 = some (69, .iconst 1, 0, 0, 0, 1, 0) := rfl
set_option maxRecDepth 8000 in
theorem q216_70 : z_fi (z_mi 216) 70 = some (70, .iadd, 0, 0, 0, 0, 0) := rfl
set_option maxRecDepth 8000 in
theorem q216_71 : z_fi (z_mi 216) 71 = some (71, .putfield 156, 0, 10, 26, 0, 0) := rfl
set_option maxRecDepth 8000 in
theorem q216_74 : z_fi (z_mi 216) 74 = some (74, .aload_n 0, 0, 0, 0, 0, 0) := rfl
set_option maxRecDepth 8000 in
theorem q216_75 : z_fi (z_mi 216) 75 = some (75, .getfield 156, 0, 10, 26, 0, 0) := rfl
set_option maxRecDepth 8000 in
theorem q216_78 : z_fi (z_mi 216) 78 = some (78, .ireturn, 0, 0, 0, 0, 0) := rfl
set_option maxRecDepth 20000 in
set_option maxHeartbeats 4000000 in
theorem t_M_see {xL : Nat} {xs : Nat → Int32} {ρ : Nat → Nat → Option Nat} (hρ : z_hR ρ) (d : Nat) (a1 : Int32) (a2 : Int32) (σ : zS) : ∀ q, f_M_see a1 a2 σ = some q → z_ec xL xs ρ (d + 1) 216 [.ref 90, .int a1, .int a2] σ (em_i q) := by
  refine j_of (W := [.ref 90, .int a1, .int a2]) (fun L hL => ?_) ?_
  · subst hL; exact z_vl_0 _ 0 rfl
  · unfold f_M_see
    refine j_iload_n (pc' := 1) q216_0 rfl rfl ?_
    refine j_i2l (pc' := 2) q216_1 rfl ?_
    refine j_lconst (pc' := 3) q216_2 rfl ?_
    refine j_ldc2 (pc' := 6) q216_3 rfl ?_
    refine j_callS3_pi (d := d + 0) (pc' := 9) q216_6 (Or.inl rfl) (Nat.le_of_ble_eq_true rfl) (Nat.le_of_ble_eq_true rfl) rfl (t_M_in hρ (d + 0) _ _ _ _) (fun r1 => ?_)
    refine j_if_eq (pc' := 12) q216_9 rfl (fun c2 => ?_) (fun c2 => ?_)
    · refine j_iconst (pc' := 25) q216_24 rfl ?_
      exact j_iret q216_25 rfl
    · refine j_iload_n (pc' := 13) q216_12 rfl rfl ?_
      refine j_i2l (pc' := 14) q216_13 rfl ?_
      refine j_lconst (pc' := 15) q216_14 rfl ?_
      refine j_ldc2 (pc' := 18) q216_15 rfl ?_
      refine j_callS3_pi (d := d + 0) (pc' := 21) q216_18 (Or.inl rfl) (Nat.le_of_ble_eq_true rfl) (Nat.le_of_ble_eq_true rfl) rfl (t_M_in hρ (d + 0) _ _ _ _) (fun r3 => ?_)
      refine j_if_ne (pc' := 24) q216_21 rfl (fun c4 => ?_) (fun c4 => ?_)
      · refine j_iconst (pc' := 25) q216_24 rfl ?_
        exact j_iret q216_25 rfl
      · refine j_aload_n (pc' := 27) q216_26 rfl (by decide) rfl ?_
        refine j_getf (k := 90) (pc' := 30) q216_27 rfl rfl ?_
        refine j_bipush (pc' := 32) q216_30 rfl ?_
        refine j_icmp_ne (pc' := 35) q216_32 rfl (fun c5 => ?_) (fun c5 => ?_)
        · refine j_bipush (pc' := 37) q216_35 rfl ?_
          exact j_iret q216_37 rfl
        · refine j_aload_n (pc' := 39) q216_38 rfl (by decide) rfl ?_
          refine j_getr (k := 90) (q := 100) (pc' := 42) q216_39 rfl (hρ 90 25 100 rfl) rfl ?_
          refine j_iconst (pc' := 43) q216_42 rfl ?_
          refine j_aload_n (pc' := 44) q216_43 rfl (by decide) rfl ?_
          refine j_getf (k := 90) (pc' := 47) q216_44 rfl rfl ?_
          refine j_imul (pc' := 48) q216_47 rfl ?_
          refine j_iload_n (pc' := 49) q216_48 rfl rfl ?_
          refine j_if (fun hi6 => ?_) (fun _ => j_none)
          refine j_iast (k := 100) (N := 12) (pc' := 50) q216_49 rfl hi6 rfl ?_
          refine j_nameS (fun τ7 => ?_)
          refine j_aload_n (pc' := 51) q216_50 rfl (by decide) rfl ?_
          refine j_getr (k := 90) (q := 100) (pc' := 54) q216_51 rfl (hρ 90 25 100 rfl) rfl ?_
          refine j_iconst (pc' := 55) q216_54 rfl ?_
          refine j_aload_n (pc' := 56) q216_55 rfl (by decide) rfl ?_
          refine j_getf (k := 90) (pc' := 59) q216_56 rfl rfl ?_
          refine j_imul (pc' := 60) q216_59 rfl ?_
          refine j_iconst (pc' := 61) q216_60 rfl ?_
          refine j_iadd (pc' := 62) q216_61 rfl ?_
          refine j_iload_n (pc' := 63) q216_62 rfl rfl ?_
          refine j_if (fun hi8 => ?_) (fun _ => j_none)
          refine j_iast (k := 100) (N := 12) (pc' := 64) q216_63 rfl hi8 rfl ?_
          refine j_nameS (fun τ9 => ?_)
          refine j_aload_n (pc' := 65) q216_64 rfl (by decide) rfl ?_
          refine j_dup (pc' := 66) q216_65 rfl rfl ?_
          refine j_getf (k := 90) (pc' := 69) q216_66 rfl rfl ?_
          refine j_iconst (pc' := 70) q216_69 rfl ?_
          refine j_iadd (pc' := 71) q216_70 rfl ?_
          refine j_putf (k := 90) (pc' := 74) q216_71 rfl rfl ?_
          refine j_nameS (fun τ10 => ?_)
          refine j_aload_n (pc' := 75) q216_74 rfl (by decide) rfl ?_
          refine j_getf (k := 90) (pc' := 78) q216_75 rfl rfl ?_
          exact j_iret q216_78 rfl
theorem q134_0 : z_fi (z_mi 134) 0 = some (0, .aload_n 0, 0, 0, 0, 0, 0) := rfl
theorem q134_1 : z_fi (z_mi 134) 1 = some (1, .getfield 55, 0, 9, 7, 0, 0) := rfl
theorem q134_4 : z_fi (z_mi 134) 4 = some (4, .getfield 89, 0, 5, 2, 0, 0) := rfl
theorem q134_7 : z_fi (z_mi 134) 7 = some (7, .istore_n 2, 0, 0, 0, 0, 0) := rfl
theorem q134_8 : z_fi (z_mi 134) 8 = some (8, .iload_n 1, 0, 0, 0, 0, 0) := rfl
theorem q134_9 : z_fi (z_mi 134) 9 = some (9, .iconst 0, 0, 0, 0, 0, 0) := rfl
theorem q134_10 : z_fi (z_mi 134) 10 = some (10, .iload_n 2, 0, 0, 0, 0, 0) := rfl
theorem q134_11 : z_fi (z_mi 134) 11 = some (11, .invokestatic 60, 1, 99, 3, 0, 0) := rfl
theorem q134_14 : z_fi (z_mi 134) 14 = some (14, .ifCond .ne 5, 0, 19, 0, 0, 0) := rfl
theorem q134_17 : z_fi (z_mi 134) 17 = some (17, .iconst (-1), 0, 0, 0, (-1), 0) := rfl
theorem q134_18 : z_fi (z_mi 134) 18 = some (18, .ireturn, 0, 0, 0, 0, 0) := rfl
theorem q134_19 : z_fi (z_mi 134) 19 = some (19, .aload_n 0, 0, 0, 0, 0, 0) := rfl
theorem q134_20 : z_fi (z_mi 134) 20 = some (20, .getfield 55, 0, 9, 7, 0, 0) := rfl
theorem q134_23 : z_fi (z_mi 134) 23 = some (23, .iload_n 1, 0, 0, 0, 0, 0) := rfl
theorem q134_24 : z_fi (z_mi 134) 24 = some (24, .putfield 89, 0, 5, 2, 0, 0) := rfl
theorem q134_27 : z_fi (z_mi 134) 27 = some (27, .iload_n 2, 0, 0, 0, 0, 0) := rfl
theorem q134_28 : z_fi (z_mi 134) 28 = some (28, .ireturn, 0, 0, 0, 0, 0) := rfl
set_option maxRecDepth 20000 in
set_option maxHeartbeats 4000000 in
theorem t_Y_forget {xL : Nat} {xs : Nat → Int32} {ρ : Nat → Nat → Option Nat} (hρ : z_hR ρ) (d : Nat) (a1 : Int32) (σ : zS) : ∀ q, f_Y_forget a1 σ = some q → z_ec xL xs ρ (d + 1) 134 [.ref 0, .int a1] σ (em_i q) := by
  refine j_of (W := [.ref 0, .int a1, .null]) (fun L hL => ?_) ?_
  · subst hL; exact z_vl_0 _ 1 rfl
  · unfold f_Y_forget
    refine j_aload_n (pc' := 1) q134_0 rfl (by decide) rfl ?_
    refine j_getr (k := 0) (q := 44) (pc' := 4) q134_1 rfl (hρ 0 7 44 rfl) rfl ?_
    refine j_getf (k := 44) (pc' := 7) q134_4 rfl rfl ?_
    refine j_istore2 (pc' := 8) q134_7 rfl (Nat.le_of_ble_eq_true rfl) rfl ?_
    refine j_iload_n (pc' := 9) q134_8 rfl rfl ?_
    refine j_iconst (pc' := 10) q134_9 rfl ?_
    refine j_iload_n (pc' := 11) q134_10 rfl rfl ?_
    refine j_callS3_pi (d := d + 0) (pc' := 14) q134_11 (Or.inl rfl) (Nat.le_of_ble_eq_true rfl) (Nat.le_of_ble_eq_true rfl) rfl (t_Y_isIn hρ (d + 0) _ _ _ _) (fun r1 => ?_)
    refine j_if_ne (pc' := 17) q134_14 rfl (fun c2 => ?_) (fun c2 => ?_)
    · refine j_iconst (pc' := 18) q134_17 rfl ?_
      exact j_iret q134_18 rfl
    · refine j_aload_n (pc' := 20) q134_19 rfl (by decide) rfl ?_
      refine j_getr (k := 0) (q := 44) (pc' := 23) q134_20 rfl (hρ 0 7 44 rfl) rfl ?_
      refine j_iload_n (pc' := 24) q134_23 rfl rfl ?_
      refine j_putf (k := 44) (pc' := 27) q134_24 rfl rfl ?_
      refine j_nameS (fun τ3 => ?_)
      refine j_iload_n (pc' := 28) q134_27 rfl rfl ?_
      exact j_iret q134_28 rfl
set_option maxRecDepth 8000 in
theorem q217_0 : z_fi (z_mi 217) 0 = some (0, .iload_n 1, 0, 0, 0, 0, 0) := rfl
set_option maxRecDepth 8000 in
theorem q217_1 : z_fi (z_mi 217) 1 = some (1, .i2l, 0, 0, 0, 0, 0) := rfl
set_option maxRecDepth 8000 in
theorem q217_2 : z_fi (z_mi 217) 2 = some (2, .lconst 0, 0, 0, 0, 0, 0) := rfl
set_option maxRecDepth 8000 in
theorem q217_3 : z_fi (z_mi 217) 3 = some (3, .aload_n 0, 0, 0, 0, 0, 0) := rfl
set_option maxRecDepth 8000 in
theorem q217_4 : z_fi (z_mi 217) 4 = some (4, .getfield 156, 0, 10, 26, 0, 0) := rfl
set_option maxRecDepth 8000 in
theorem q217_7 : z_fi (z_mi 217) 7 = some (7, .i2l, 0, 0, 0, 0, 0) := rfl
set_option maxRecDepth 8000 in
theorem q217_8 : z_fi (z_mi 217) 8 = some (8, .invokestatic 62, 1, 149, 3, 0, 0) := rfl
set_option maxRecDepth 8000 in
theorem q217_11 : z_fi (z_mi 217) 11 = some (11, .ifCond .ne 5, 0, 16, 0, 0, 0) := rfl
set_option maxRecDepth 8000 in
theorem q217_14 : z_fi (z_mi 217) 14 = some (14, .iconst (-1), 0, 0, 0, (-1), 0) := rfl
set_option maxRecDepth 8000 in
theorem q217_15 : z_fi (z_mi 217) 15 = some (15, .ireturn, 0, 0, 0, 0, 0) := rfl
set_option maxRecDepth 8000 in
theorem q217_16 : z_fi (z_mi 217) 16 = some (16, .aload_n 0, 0, 0, 0, 0, 0) := rfl
set_option maxRecDepth 8000 in
theorem q217_17 : z_fi (z_mi 217) 17 = some (17, .getfield 156, 0, 10, 26, 0, 0) := rfl
set_option maxRecDepth 8000 in
theorem q217_20 : z_fi (z_mi 217) 20 = some (20, .istore_n 2, 0, 0, 0, 0, 0) := rfl
set_option maxRecDepth 8000 in
theorem q217_21 : z_fi (z_mi 217) 21 = some (21, .aload_n 0, 0, 0, 0, 0, 0) := rfl
set_option maxRecDepth 8000 in
theorem q217_22 : z_fi (z_mi 217) 22 = some (22, .iload_n 1, 0, 0, 0, 0, 0) := rfl
set_option maxRecDepth 8000 in
theorem q217_23 : z_fi (z_mi 217) 23 = some (23, .putfield 156, 0, 10, 26, 0, 0) := rfl
set_option maxRecDepth 8000 in
theorem q217_26 : z_fi (z_mi 217) 26 = some (26, .iload_n 2, 0, 0, 0, 0, 0) := rfl
set_option maxRecDepth 8000 in
theorem q217_27 : z_fi (z_mi 217) 27 = some (27, .ireturn, 0, 0, 0, 0, 0) := rfl
set_option maxRecDepth 20000 in
set_option maxHeartbeats 4000000 in
theorem t_M_forget {xL : Nat} {xs : Nat → Int32} {ρ : Nat → Nat → Option Nat} (hρ : z_hR ρ) (d : Nat) (a1 : Int32) (σ : zS) : ∀ q, f_M_forget a1 σ = some q → z_ec xL xs ρ (d + 1) 217 [.ref 90, .int a1] σ (em_i q) := by
  refine j_of (W := [.ref 90, .int a1, .null]) (fun L hL => ?_) ?_
  · subst hL; exact z_vl_0 _ 1 rfl
  · unfold f_M_forget
    refine j_iload_n (pc' := 1) q217_0 rfl rfl ?_
    refine j_i2l (pc' := 2) q217_1 rfl ?_
    refine j_lconst (pc' := 3) q217_2 rfl ?_
    refine j_aload_n (pc' := 4) q217_3 rfl (by decide) rfl ?_
    refine j_getf (k := 90) (pc' := 7) q217_4 rfl rfl ?_
    refine j_i2l (pc' := 8) q217_7 rfl ?_
    refine j_callS3_pi (d := d + 0) (pc' := 11) q217_8 (Or.inl rfl) (Nat.le_of_ble_eq_true rfl) (Nat.le_of_ble_eq_true rfl) rfl (t_M_in hρ (d + 0) _ _ _ _) (fun r1 => ?_)
    refine j_if_ne (pc' := 14) q217_11 rfl (fun c2 => ?_) (fun c2 => ?_)
    · refine j_iconst (pc' := 15) q217_14 rfl ?_
      exact j_iret q217_15 rfl
    · refine j_aload_n (pc' := 17) q217_16 rfl (by decide) rfl ?_
      refine j_getf (k := 90) (pc' := 20) q217_17 rfl rfl ?_
      refine j_istore2 (pc' := 21) q217_20 rfl (Nat.le_of_ble_eq_true rfl) rfl ?_
      refine j_aload_n (pc' := 22) q217_21 rfl (by decide) rfl ?_
      refine j_iload_n (pc' := 23) q217_22 rfl rfl ?_
      refine j_putf (k := 90) (pc' := 26) q217_23 rfl rfl ?_
      refine j_nameS (fun τ3 => ?_)
      refine j_iload_n (pc' := 27) q217_26 rfl rfl ?_
      exact j_iret q217_27 rfl
set_option maxRecDepth 20000 in
set_option maxHeartbeats 4000000 in
theorem t_JA_fill_47 {xL : Nat} {xs : Nat → Int32} {ρ : Nat → Nat → Option Nat} (hρ : z_hR ρ) (d : Nat) (a1 : Int32) (σ : zS) : ∀ q, f_JA_fill_47 a1 σ = some q → z_ec xL xs ρ (d + 0) 240 [.ref 47, .int a1] σ (em_v q) := by
  refine j_of (W := [.ref 47, .int a1, .null, .null]) (fun L hL => ?_) ?_
  · subst hL; exact z_vl_0 _ 2 rfl
  · unfold f_JA_fill_47
    refine j_iconst (pc' := 1) q240_0 rfl ?_
    refine j_istore2 (pc' := 2) q240_1 rfl (Nat.le_of_ble_eq_true rfl) rfl ?_
    refine j_aload_n (pc' := 3) q240_2 rfl (by decide) rfl ?_
    refine j_alen (k := 47) (N := 5) (pc' := 4) q240_3 ⟨Nat.le_of_ble_eq_true rfl, by decide, rfl⟩ rfl ?_
    refine j_istore3 (pc' := 5) q240_4 rfl (Nat.le_of_ble_eq_true rfl) rfl ?_
    refine j_forget (V' := [.ref 47, .int a1, .int (0 : Int32), .int (5 : Int32)]) (z_le_s (z_le_s (z_le_s (z_le_s (z_le_nil))))) ?_
    refine j_loopX (S := Int32 × zS) (E := zS) (fun e => e) 20 (fun s1 => [.ref 47, .int a1, .int s1.1, .int (5 : Int32)]) (fun s1 => s1.2) (fun b1 => [.null, .null, .null, .null]) (fun b1 => b1) (fun b1 => ?_) (fun R1 hR1 hX1 s1 => ?_) ((0 : Int32), σ)
    · show z_J _ _ _ _ _ _ _ _ _ _ _ _
      exact j_vret q240_20 rfl
    · show z_J _ _ _ _ _ _ _ _ _ _ _ _
      refine j_iload_n (pc' := 6) q240_5 rfl rfl ?_
      refine j_iload_n (pc' := 7) q240_6 rfl rfl ?_
      refine j_icmp_ge (pc' := 10) q240_7 rfl (fun c2 => ?_) (fun c2 => ?_)
      · exact j_exit (j_forget (z_le_n (z_le_n (z_le_n (z_le_n (z_le_nil))))) (hX1 s1.2))
      · refine j_aload_n (pc' := 11) q240_10 rfl (by decide) rfl ?_
        refine j_iload_n (pc' := 12) q240_11 rfl rfl ?_
        refine j_iload_n (pc' := 13) q240_12 rfl rfl ?_
        refine j_if (fun hi3 => ?_) (fun _ => j_none)
        refine j_iast (k := 47) (N := 5) (pc' := 14) q240_13 rfl hi3 rfl ?_
        refine j_nameS (fun τ4 => ?_)
        refine j_iinc2 (pc' := 17) q240_14 rfl (Nat.le_of_ble_eq_true rfl) rfl ?_
        refine j_goto q240_17 rfl ?_
        exact j_again (j_forget (z_le_s (z_le_s (z_le_s (z_le_s (z_le_nil))))) (hR1 ((s1.1 + (1 : Int32)), τ4)))
set_option maxRecDepth 20000 in
set_option maxHeartbeats 4000000 in
theorem t_JA_fill_48 {xL : Nat} {xs : Nat → Int32} {ρ : Nat → Nat → Option Nat} (hρ : z_hR ρ) (d : Nat) (a1 : Int32) (σ : zS) : ∀ q, f_JA_fill_48 a1 σ = some q → z_ec xL xs ρ (d + 0) 240 [.ref 48, .int a1] σ (em_v q) := by
  refine j_of (W := [.ref 48, .int a1, .null, .null]) (fun L hL => ?_) ?_
  · subst hL; exact z_vl_0 _ 2 rfl
  · unfold f_JA_fill_48
    refine j_iconst (pc' := 1) q240_0 rfl ?_
    refine j_istore2 (pc' := 2) q240_1 rfl (Nat.le_of_ble_eq_true rfl) rfl ?_
    refine j_aload_n (pc' := 3) q240_2 rfl (by decide) rfl ?_
    refine j_alen (k := 48) (N := 5) (pc' := 4) q240_3 ⟨Nat.le_of_ble_eq_true rfl, by decide, rfl⟩ rfl ?_
    refine j_istore3 (pc' := 5) q240_4 rfl (Nat.le_of_ble_eq_true rfl) rfl ?_
    refine j_forget (V' := [.ref 48, .int a1, .int (0 : Int32), .int (5 : Int32)]) (z_le_s (z_le_s (z_le_s (z_le_s (z_le_nil))))) ?_
    refine j_loopX (S := Int32 × zS) (E := zS) (fun e => e) 20 (fun s1 => [.ref 48, .int a1, .int s1.1, .int (5 : Int32)]) (fun s1 => s1.2) (fun b1 => [.null, .null, .null, .null]) (fun b1 => b1) (fun b1 => ?_) (fun R1 hR1 hX1 s1 => ?_) ((0 : Int32), σ)
    · show z_J _ _ _ _ _ _ _ _ _ _ _ _
      exact j_vret q240_20 rfl
    · show z_J _ _ _ _ _ _ _ _ _ _ _ _
      refine j_iload_n (pc' := 6) q240_5 rfl rfl ?_
      refine j_iload_n (pc' := 7) q240_6 rfl rfl ?_
      refine j_icmp_ge (pc' := 10) q240_7 rfl (fun c2 => ?_) (fun c2 => ?_)
      · exact j_exit (j_forget (z_le_n (z_le_n (z_le_n (z_le_n (z_le_nil))))) (hX1 s1.2))
      · refine j_aload_n (pc' := 11) q240_10 rfl (by decide) rfl ?_
        refine j_iload_n (pc' := 12) q240_11 rfl rfl ?_
        refine j_iload_n (pc' := 13) q240_12 rfl rfl ?_
        refine j_if (fun hi3 => ?_) (fun _ => j_none)
        refine j_iast (k := 48) (N := 5) (pc' := 14) q240_13 rfl hi3 rfl ?_
        refine j_nameS (fun τ4 => ?_)
        refine j_iinc2 (pc' := 17) q240_14 rfl (Nat.le_of_ble_eq_true rfl) rfl ?_
        refine j_goto q240_17 rfl ?_
        exact j_again (j_forget (z_le_s (z_le_s (z_le_s (z_le_s (z_le_nil))))) (hR1 ((s1.1 + (1 : Int32)), τ4)))
set_option maxRecDepth 20000 in
set_option maxHeartbeats 4000000 in
theorem t_JA_fill_49 {xL : Nat} {xs : Nat → Int32} {ρ : Nat → Nat → Option Nat} (hρ : z_hR ρ) (d : Nat) (a1 : Int32) (σ : zS) : ∀ q, f_JA_fill_49 a1 σ = some q → z_ec xL xs ρ (d + 0) 240 [.ref 49, .int a1] σ (em_v q) := by
  refine j_of (W := [.ref 49, .int a1, .null, .null]) (fun L hL => ?_) ?_
  · subst hL; exact z_vl_0 _ 2 rfl
  · unfold f_JA_fill_49
    refine j_iconst (pc' := 1) q240_0 rfl ?_
    refine j_istore2 (pc' := 2) q240_1 rfl (Nat.le_of_ble_eq_true rfl) rfl ?_
    refine j_aload_n (pc' := 3) q240_2 rfl (by decide) rfl ?_
    refine j_alen (k := 49) (N := 5) (pc' := 4) q240_3 ⟨Nat.le_of_ble_eq_true rfl, by decide, rfl⟩ rfl ?_
    refine j_istore3 (pc' := 5) q240_4 rfl (Nat.le_of_ble_eq_true rfl) rfl ?_
    refine j_forget (V' := [.ref 49, .int a1, .int (0 : Int32), .int (5 : Int32)]) (z_le_s (z_le_s (z_le_s (z_le_s (z_le_nil))))) ?_
    refine j_loopX (S := Int32 × zS) (E := zS) (fun e => e) 20 (fun s1 => [.ref 49, .int a1, .int s1.1, .int (5 : Int32)]) (fun s1 => s1.2) (fun b1 => [.null, .null, .null, .null]) (fun b1 => b1) (fun b1 => ?_) (fun R1 hR1 hX1 s1 => ?_) ((0 : Int32), σ)
    · show z_J _ _ _ _ _ _ _ _ _ _ _ _
      exact j_vret q240_20 rfl
    · show z_J _ _ _ _ _ _ _ _ _ _ _ _
      refine j_iload_n (pc' := 6) q240_5 rfl rfl ?_
      refine j_iload_n (pc' := 7) q240_6 rfl rfl ?_
      refine j_icmp_ge (pc' := 10) q240_7 rfl (fun c2 => ?_) (fun c2 => ?_)
      · exact j_exit (j_forget (z_le_n (z_le_n (z_le_n (z_le_n (z_le_nil))))) (hX1 s1.2))
      · refine j_aload_n (pc' := 11) q240_10 rfl (by decide) rfl ?_
        refine j_iload_n (pc' := 12) q240_11 rfl rfl ?_
        refine j_iload_n (pc' := 13) q240_12 rfl rfl ?_
        refine j_if (fun hi3 => ?_) (fun _ => j_none)
        refine j_iast (k := 49) (N := 5) (pc' := 14) q240_13 rfl hi3 rfl ?_
        refine j_nameS (fun τ4 => ?_)
        refine j_iinc2 (pc' := 17) q240_14 rfl (Nat.le_of_ble_eq_true rfl) rfl ?_
        refine j_goto q240_17 rfl ?_
        exact j_again (j_forget (z_le_s (z_le_s (z_le_s (z_le_s (z_le_nil))))) (hR1 ((s1.1 + (1 : Int32)), τ4)))
theorem q68_0 : z_fi (z_mi 68) 0 = some (0, .iconst 0, 0, 0, 0, 0, 0) := rfl
theorem q68_1 : z_fi (z_mi 68) 1 = some (1, .istore_n 3, 0, 0, 0, 0, 0) := rfl
theorem q68_2 : z_fi (z_mi 68) 2 = some (2, .iload_n 3, 0, 0, 0, 0, 0) := rfl
theorem q68_3 : z_fi (z_mi 68) 3 = some (3, .aload_n 0, 0, 0, 0, 0, 0) := rfl
theorem q68_4 : z_fi (z_mi 68) 4 = some (4, .getfield 29, 0, 5, 2, 0, 0) := rfl
theorem q68_7 : z_fi (z_mi 68) 7 = some (7, .if_icmp .ge 37, 0, 44, 0, 0, 0) := rfl
theorem q68_10 : z_fi (z_mi 68) 10 = some (10, .iload_n 3, 0, 0, 0, 0, 0) := rfl
theorem q68_11 : z_fi (z_mi 68) 11 = some (11, .bipush 6, 0, 0, 0, 6, 0) := rfl
theorem q68_13 : z_fi (z_mi 68) 13 = some (13, .if_icmp .ge 31, 0, 44, 0, 0, 0) := rfl
theorem q68_16 : z_fi (z_mi 68) 16 = some (16, .aload_n 0, 0, 0, 0, 0, 0) := rfl
theorem q68_17 : z_fi (z_mi 68) 17 = some (17, .getfield 13, 0, 5, 0, 0, 0) := rfl
theorem q68_20 : z_fi (z_mi 68) 20 = some (20, .iload_n 3, 0, 0, 0, 0, 0) := rfl
theorem q68_21 : z_fi (z_mi 68) 21 = some (21, .iaload, 0, 0, 0, 0, 0) := rfl
theorem q68_22 : z_fi (z_mi 68) 22 = some (22, .iload_n 1, 0, 0, 0, 0, 0) := rfl
theorem q68_23 : z_fi (z_mi 68) 23 = some (23, .if_icmp .ne 15, 0, 38, 0, 0, 0) := rfl
theorem q68_26 : z_fi (z_mi 68) 26 = some (26, .aload_n 0, 0, 0, 0, 0, 0) := rfl
theorem q68_27 : z_fi (z_mi 68) 27 = some (27, .getfield 17, 0, 5, 1, 0, 0) := rfl
theorem q68_30 : z_fi (z_mi 68) 30 = some (30, .iload_n 3, 0, 0, 0, 0, 0) := rfl
theorem q68_31 : z_fi (z_mi 68) 31 = some (31, .iaload, 0, 0, 0, 0, 0) := rfl
theorem q68_32 : z_fi (z_mi 68) 32 = some (32, .iload_n 2, 0, 0, 0, 0, 0) := rfl
theorem q68_33 : z_fi (z_mi 68) 33 = some (33, .if_icmp .eq 5, 0, 38, 0, 0, 0) := rfl
theorem q68_36 : z_fi (z_mi 68) 36 = some (36, .iconst 0, 0, 0, 0, 0, 0) := rfl
theorem q68_37 : z_fi (z_mi 68) 37 = some (37, .ireturn, 0, 0, 0, 0, 0) := rfl
theorem q68_38 : z_fi (z_mi 68) 38 = some (38, .iinc 3 1, 0, 0, 0, 1, 0) := rfl
theorem q68_41 : z_fi (z_mi 68) 41 = some (41, .goto (-39), 0, 2, 0, 0, 0) := rfl
theorem q68_44 : z_fi (z_mi 68) 44 = some (44, .iconst 1, 0, 0, 0, 1, 0) := rfl
theorem q68_45 : z_fi (z_mi 68) 45 = some (45, .ireturn, 0, 0, 0, 0, 0) := rfl
set_option maxRecDepth 20000 in
set_option maxHeartbeats 4000000 in
theorem t_St_isAsSeen_44 {xL : Nat} {xs : Nat → Int32} {ρ : Nat → Nat → Option Nat} (hρ : z_hR ρ) (d : Nat) (a1 : Int32) (a2 : Int32) (σ : zS) : ∀ q, f_St_isAsSeen_44 a1 a2 σ = some q → z_ec xL xs ρ (d + 0) 68 [.ref 44, .int a1, .int a2] σ (em_pi σ q) := by
  refine j_of (W := [.ref 44, .int a1, .int a2, .null]) (fun L hL => ?_) ?_
  · subst hL; exact z_vl_0 _ 1 rfl
  · unfold f_St_isAsSeen_44
    refine j_iconst (pc' := 1) q68_0 rfl ?_
    refine j_istore3 (pc' := 2) q68_1 rfl (Nat.le_of_ble_eq_true rfl) rfl ?_
    refine j_forget (V' := [.ref 44, .int a1, .int a2, .int (0 : Int32)]) (z_le_s (z_le_s (z_le_s (z_le_s (z_le_nil))))) ?_
    refine j_loopX (S := Int32) (E := Unit) Sum.inl 44 (fun s1 => [.ref 44, .int a1, .int a2, .int s1]) (fun s1 => σ) (fun b1 => [.null, .null, .null, .null]) (fun b1 => σ) (fun b1 => ?_) (fun R1 hR1 hX1 s1 => ?_) (0 : Int32)
    · show z_J _ _ _ _ _ _ _ _ _ _ _ _
      refine j_iconst (pc' := 45) q68_44 rfl ?_
      exact j_pzret q68_45 rfl (Or.inr rfl)
    · show z_J _ _ _ _ _ _ _ _ _ _ _ _
      refine j_iload_n (pc' := 3) q68_2 rfl rfl ?_
      refine j_aload_n (pc' := 4) q68_3 rfl (by decide) rfl ?_
      refine j_getf (k := 44) (pc' := 7) q68_4 rfl rfl ?_
      refine j_icmp_ge (pc' := 10) q68_7 rfl (fun c2 => ?_) (fun c2 => ?_)
      · exact j_exit (j_forget (z_le_n (z_le_n (z_le_n (z_le_n (z_le_nil))))) (hX1 ()))
      · refine j_iload_n (pc' := 11) q68_10 rfl rfl ?_
        refine j_bipush (pc' := 13) q68_11 rfl ?_
        refine j_icmp_ge (pc' := 16) q68_13 rfl (fun c3 => ?_) (fun c3 => ?_)
        · exact j_exit (j_forget (z_le_n (z_le_n (z_le_n (z_le_n (z_le_nil))))) (hX1 ()))
        · refine j_aload_n (pc' := 17) q68_16 rfl (by decide) rfl ?_
          refine j_getr (k := 44) (q := 45) (pc' := 20) q68_17 rfl (hρ 44 0 45 rfl) rfl ?_
          refine j_iload_n (pc' := 21) q68_20 rfl rfl ?_
          refine j_if (fun hi4 => ?_) (fun _ => j_none)
          refine j_iald (k := 45) (N := 6) (pc' := 22) q68_21 rfl hi4 rfl ?_
          refine j_iload_n (pc' := 23) q68_22 rfl rfl ?_
          refine j_join (T := Unit) 38 (fun t5 => [.ref 44, .int a1, .int a2, .int s1]) (fun t5 => []) (fun t5 => σ) (fun t5 => ?_) (fun j5 hj5 => ?_)
          · show z_J _ _ _ _ _ _ _ _ _ _ _ _
            refine j_iinc3 (pc' := 41) q68_38 rfl (Nat.le_of_ble_eq_true rfl) rfl ?_
            refine j_goto q68_41 rfl ?_
            exact j_again (j_forget (z_le_s (z_le_s (z_le_s (z_le_s (z_le_nil))))) (hR1 (s1 + (1 : Int32))))
          · show z_J _ _ _ _ _ _ _ _ _ _ _ _
            refine j_icmp_ne (pc' := 26) q68_23 rfl (fun c6 => ?_) (fun c6 => ?_)
            · refine j_aload_n (pc' := 27) q68_26 rfl (by decide) rfl ?_
              refine j_getr (k := 44) (q := 46) (pc' := 30) q68_27 rfl (hρ 44 1 46 rfl) rfl ?_
              refine j_iload_n (pc' := 31) q68_30 rfl rfl ?_
              refine j_if (fun hi7 => ?_) (fun _ => j_none)
              refine j_iald (k := 46) (N := 6) (pc' := 32) q68_31 rfl hi7 rfl ?_
              refine j_iload_n (pc' := 33) q68_32 rfl rfl ?_
              refine j_icmp_eq (pc' := 36) q68_33 rfl (fun c8 => ?_) (fun c8 => ?_)
              · refine j_forget (z_le_s (z_le_s (z_le_s (z_le_s (z_le_nil))))) (hj5 ())
              · refine j_iconst (pc' := 37) q68_36 rfl ?_
                refine j_exit ?_
                exact j_pzret q68_37 rfl (Or.inl rfl)
            · refine j_forget (z_le_s (z_le_s (z_le_s (z_le_s (z_le_nil))))) (hj5 ())
theorem q71_0 : z_fi (z_mi 71) 0 = some (0, .iconst 0, 0, 0, 0, 0, 0) := rfl
theorem q71_1 : z_fi (z_mi 71) 1 = some (1, .istore 4, 0, 0, 0, 0, 0) := rfl
theorem q71_3 : z_fi (z_mi 71) 3 = some (3, .iload 4, 0, 0, 0, 0, 0) := rfl
theorem q71_5 : z_fi (z_mi 71) 5 = some (5, .iconst 4, 0, 0, 0, 4, 0) := rfl
theorem q71_6 : z_fi (z_mi 71) 6 = some (6, .if_icmp .gt 96, 0, 102, 0, 0, 0) := rfl
theorem q71_9 : z_fi (z_mi 71) 9 = some (9, .iload_n 3, 0, 0, 0, 0, 0) := rfl
theorem q71_10 : z_fi (z_mi 71) 10 = some (10, .iconst 3, 0, 0, 0, 3, 0) := rfl
theorem q71_11 : z_fi (z_mi 71) 11 = some (11, .if_icmp .ge 13, 0, 24, 0, 0, 0) := rfl
theorem q71_14 : z_fi (z_mi 71) 14 = some (14, .iload_n 1, 0, 0, 0, 0, 0) := rfl
theorem q71_15 : z_fi (z_mi 71) 15 = some (15, .iload_n 3, 0, 0, 0, 0, 0) := rfl
theorem q71_16 : z_fi (z_mi 71) 16 = some (16, .iload 4, 0, 0, 0, 0, 0) := rfl
theorem q71_18 : z_fi (z_mi 71) 18 = some (18, .invokestatic 53, 1, 3, 3, 0, 0) := rfl
theorem q71_21 : z_fi (z_mi 71) 21 = some (21, .goto 4, 0, 25, 0, 0, 0) := rfl
theorem q71_24 : z_fi (z_mi 71) 24 = some (24, .iload_n 3, 0, 0, 0, 0, 0) := rfl
theorem q71_25 : z_fi (z_mi 71) 25 = some (25, .istore 5, 0, 0, 0, 0, 0) := rfl
theorem q71_27 : z_fi (z_mi 71) 27 = some (27, .aload_n 0, 0, 0, 0, 0, 0) := rfl
theorem q71_28 : z_fi (z_mi 71) 28 = some (28, .getfield 20, 0, 5, 3, 0, 0) := rfl
theorem q71_31 : z_fi (z_mi 71) 31 = some (31, .iload_n 2, 0, 0, 0, 0, 0) := rfl
theorem q71_32 : z_fi (z_mi 71) 32 = some (32, .iaload, 0, 0, 0, 0, 0) := rfl
theorem q71_33 : z_fi (z_mi 71) 33 = some (33, .iconst (-1), 0, 0, 0, (-1), 0) := rfl
theorem q71_34 : z_fi (z_mi 71) 34 = some (34, .if_icmp .eq 14, 0, 48, 0, 0, 0) := rfl
theorem q71_37 : z_fi (z_mi 71) 37 = some (37, .aload_n 0, 0, 0, 0, 0, 0) := rfl
theorem q71_38 : z_fi (z_mi 71) 38 = some (38, .getfield 20, 0, 5, 3, 0, 0) := rfl
theorem q71_41 : z_fi (z_mi 71) 41 = some (41, .iload_n 2, 0, 0, 0, 0, 0) := rfl
theorem q71_42 : z_fi (z_mi 71) 42 = some (42, .iaload, 0, 0, 0, 0, 0) := rfl
theorem q71_43 : z_fi (z_mi 71) 43 = some (43, .iload 4, 0, 0, 0, 0, 0) := rfl
theorem q71_45 : z_fi (z_mi 71) 45 = some (45, .if_icmp .ne 7, 0, 52, 0, 0, 0) := rfl
theorem q71_48 : z_fi (z_mi 71) 48 = some (48, .iconst 1, 0, 0, 0, 1, 0) := rfl
theorem q71_49 : z_fi (z_mi 71) 49 = some (49, .goto 4, 0, 53, 0, 0, 0) := rfl
theorem q71_52 : z_fi (z_mi 71) 52 = some (52, .iconst 0, 0, 0, 0, 0, 0) := rfl
theorem q71_53 : z_fi (z_mi 71) 53 = some (53, .istore 6, 0, 0, 0, 0, 0) := rfl
theorem q71_55 : z_fi (z_mi 71) 55 = some (55, .iload 6, 0, 0, 0, 0, 0) := rfl
theorem q71_57 : z_fi (z_mi 71) 57 = some (57, .ifCond .eq 39, 0, 96, 0, 0, 0) := rfl
theorem q71_60 : z_fi (z_mi 71) 60 = some (60, .iload 5, 0, 0, 0, 0, 0) := rfl
theorem q71_62 : z_fi (z_mi 71) 62 = some (62, .iconst 0, 0, 0, 0, 0, 0) := rfl
theorem q71_63 : z_fi (z_mi 71) 63 = some (63, .iconst 4, 0, 0, 0, 4, 0) := rfl
theorem q71_64 : z_fi (z_mi 71) 64 = some (64, .invokestatic 57, 4, 99, 3, 0, 0) := rfl
theorem q71_67 : z_fi (z_mi 71) 67 = some (67, .ifCond .eq 29, 0, 96, 0, 0, 0) := rfl
theorem q71_70 : z_fi (z_mi 71) 70 = some (70, .aload_n 0, 0, 0, 0, 0, 0) := rfl
theorem q71_71 : z_fi (z_mi 71) 71 = some (71, .iload_n 2, 0, 0, 0, 0, 0) := rfl
theorem q71_72 : z_fi (z_mi 71) 72 = some (72, .iload 5, 0, 0, 0, 0, 0) := rfl
theorem q71_74 : z_fi (z_mi 71) 74 = some (74, .invokevirtual 61, 0, 68, 2, 0, 0) := rfl
theorem q71_77 : z_fi (z_mi 71) 77 = some (77, .ifCond .eq 19, 0, 96, 0, 0, 0) := rfl
theorem q71_80 : z_fi (z_mi 71) 80 = some (80, .aload_n 0, 0, 0, 0, 0, 0) := rfl
theorem q71_81 : z_fi (z_mi 71) 81 = some (81, .getfield 26, 0, 5, 5, 0, 0) := rfl
theorem q71_84 : z_fi (z_mi 71) 84 = some (84, .iload 5, 0, 0, 0, 0, 0) := rfl
theorem q71_86 : z_fi (z_mi 71) 86 = some (86, .dup2, 0, 0, 0, 0, 0) := rfl
theorem q71_87 : z_fi (z_mi 71) 87 = some (87, .iaload, 0, 0, 0, 0, 0) := rfl
theorem q71_88 : z_fi (z_mi 71) 88 = some (88, .aload_n 0, 0, 0, 0, 0, 0) := rfl
theorem q71_89 : z_fi (z_mi 71) 89 = some (89, .getfield 23, 0, 5, 4, 0, 0) := rfl
theorem q71_92 : z_fi (z_mi 71) 92 = some (92, .iload_n 3, 0, 0, 0, 0, 0) := rfl
theorem q71_93 : z_fi (z_mi 71) 93 = some (93, .iaload, 0, 0, 0, 0, 0) := rfl
theorem q71_94 : z_fi (z_mi 71) 94 = some (94, .iadd, 0, 0, 0, 0, 0) := rfl
theorem q71_95 : z_fi (z_mi 71) 95 = some (95, .iastore, 0, 0, 0, 0, 0) := rfl
theorem q71_96 : z_fi (z_mi 71) 96 = some (96, .iinc 4 1, 0, 0, 0, 1, 0) := rfl
theorem q71_99 : z_fi (z_mi 71) 99 = some (99, .goto (-96), 0, 3, 0, 0, 0) := rfl
theorem q71_102 : z_fi (z_mi 71) 102 = some (102, .return_, 0, 0, 0, 0, 0) := rfl
set_option maxRecDepth 20000 in
set_option maxHeartbeats 4000000 in
theorem t_St_goFrom_44 {xL : Nat} {xs : Nat → Int32} {ρ : Nat → Nat → Option Nat} (hρ : z_hR ρ) (d : Nat) (a1 : Int32) (a2 : Int32) (a3 : Int32) (σ : zS) : ∀ q, f_St_goFrom_44 a1 a2 a3 σ = some q → z_ec xL xs ρ (d + 3) 71 [.ref 44, .int a1, .int a2, .int a3] σ (em_v q) := by
  refine j_of (W := [.ref 44, .int a1, .int a2, .int a3, .null, .null, .null]) (fun L hL => ?_) ?_
  · subst hL; exact z_vl_0 _ 3 rfl
  · unfold f_St_goFrom_44
    refine j_iconst (pc' := 1) q71_0 rfl ?_
    refine j_istore4 (pc' := 3) q71_1 rfl (Nat.le_of_ble_eq_true rfl) rfl ?_
    refine j_forget (V' := [.ref 44, .int a1, .int a2, .int a3, .int (0 : Int32), .null, .null]) (z_le_s (z_le_s (z_le_s (z_le_s (z_le_s (z_le_n (z_le_n (z_le_nil)))))))) ?_
    refine j_loopX (S := Int32 × zS) (E := zS) (fun e => e) 102 (fun s1 => [.ref 44, .int a1, .int a2, .int a3, .int s1.1, .null, .null]) (fun s1 => s1.2) (fun b1 => [.null, .null, .null, .null, .null, .null, .null]) (fun b1 => b1) (fun b1 => ?_) (fun R1 hR1 hX1 s1 => ?_) ((0 : Int32), σ)
    · show z_J _ _ _ _ _ _ _ _ _ _ _ _
      exact j_vret q71_102 rfl
    · show z_J _ _ _ _ _ _ _ _ _ _ _ _
      refine j_iload (pc' := 5) q71_3 rfl rfl ?_
      refine j_iconst (pc' := 6) q71_5 rfl ?_
      refine j_icmp_gt (pc' := 9) q71_6 rfl (fun c2 => ?_) (fun c2 => ?_)
      · exact j_exit (j_forget (z_le_n (z_le_n (z_le_n (z_le_n (z_le_n (z_le_n (z_le_n (z_le_nil)))))))) (hX1 s1.2))
      · refine j_iload_n (pc' := 10) q71_9 rfl rfl ?_
        refine j_iconst (pc' := 11) q71_10 rfl ?_
        refine j_join (T := Int32) 25 (fun t3 => [.ref 44, .int a1, .int a2, .int a3, .int s1.1, .null, .null]) (fun t3 => [.int t3]) (fun t3 => s1.2) (fun t3 => ?_) (fun j3 hj3 => ?_)
        · show z_J _ _ _ _ _ _ _ _ _ _ _ _
          refine j_istore5 (pc' := 27) q71_25 rfl (Nat.le_of_ble_eq_true rfl) rfl ?_
          refine j_aload_n (pc' := 28) q71_27 rfl (by decide) rfl ?_
          refine j_getr (k := 44) (q := 47) (pc' := 31) q71_28 rfl (hρ 44 3 47 rfl) rfl ?_
          refine j_iload_n (pc' := 32) q71_31 rfl rfl ?_
          refine j_if (fun hi4 => ?_) (fun _ => j_none)
          refine j_iald (k := 47) (N := 5) (pc' := 33) q71_32 rfl hi4 rfl ?_
          refine j_iconst (pc' := 34) q71_33 rfl ?_
          refine j_join (T := Int32) 53 (fun t5 => [.ref 44, .int a1, .int a2, .int a3, .int s1.1, .int t3, .null]) (fun t5 => [.int t5]) (fun t5 => s1.2) (fun t5 => ?_) (fun j5 hj5 => ?_)
          · show z_J _ _ _ _ _ _ _ _ _ _ _ _
            refine j_istore6 (pc' := 55) q71_53 rfl (Nat.le_of_ble_eq_true rfl) rfl ?_
            refine j_iload (pc' := 57) q71_55 rfl rfl ?_
            refine j_join (T := zS) 96 (fun t6 => [.ref 44, .int a1, .int a2, .int a3, .int s1.1, .null, .null]) (fun t6 => []) (fun t6 => t6) (fun t6 => ?_) (fun j6 hj6 => ?_)
            · show z_J _ _ _ _ _ _ _ _ _ _ _ _
              refine j_iinc4 (pc' := 99) q71_96 rfl (Nat.le_of_ble_eq_true rfl) rfl ?_
              refine j_goto q71_99 rfl ?_
              exact j_again (j_forget (z_le_s (z_le_s (z_le_s (z_le_s (z_le_s (z_le_n (z_le_n (z_le_nil)))))))) (hR1 ((s1.1 + (1 : Int32)), t6)))
            · show z_J _ _ _ _ _ _ _ _ _ _ _ _
              refine j_if_eq (pc' := 60) q71_57 rfl (fun c7 => ?_) (fun c7 => ?_)
              · refine j_forget (z_le_s (z_le_s (z_le_s (z_le_s (z_le_s (z_le_n (z_le_n (z_le_nil)))))))) (hj6 s1.2)
              · refine j_iload (pc' := 62) q71_60 rfl rfl ?_
                refine j_iconst (pc' := 63) q71_62 rfl ?_
                refine j_iconst (pc' := 64) q71_63 rfl ?_
                refine j_callS3_pi (d := d + 2) (pc' := 67) q71_64 (Or.inr rfl) (Nat.le_of_ble_eq_true rfl) (Nat.le_of_ble_eq_true rfl) rfl (t_Y_isIn hρ (d + 2) _ _ _ _) (fun r8 => ?_)
                refine j_if_eq (pc' := 70) q71_67 rfl (fun c9 => ?_) (fun c9 => ?_)
                · refine j_forget (z_le_s (z_le_s (z_le_s (z_le_s (z_le_s (z_le_n (z_le_n (z_le_nil)))))))) (hj6 s1.2)
                · refine j_aload_n (pc' := 71) q71_70 rfl (by decide) rfl ?_
                  refine j_iload_n (pc' := 72) q71_71 rfl rfl ?_
                  refine j_iload (pc' := 74) q71_72 rfl rfl ?_
                  refine j_callV2_pi (d := d + 2) (pc' := 77) q71_74 rfl (Nat.le_of_ble_eq_true rfl) (Nat.le_of_ble_eq_true rfl) rfl (t_St_isAsSeen_44 hρ (d + 2) _ _ _) (fun r10 => ?_)
                  refine j_if_eq (pc' := 80) q71_77 rfl (fun c11 => ?_) (fun c11 => ?_)
                  · refine j_forget (z_le_s (z_le_s (z_le_s (z_le_s (z_le_s (z_le_n (z_le_n (z_le_nil)))))))) (hj6 s1.2)
                  · refine j_aload_n (pc' := 81) q71_80 rfl (by decide) rfl ?_
                    refine j_getr (k := 44) (q := 49) (pc' := 84) q71_81 rfl (hρ 44 5 49 rfl) rfl ?_
                    refine j_iload (pc' := 86) q71_84 rfl rfl ?_
                    refine j_dup2 (pc' := 87) q71_86 ⟨rfl, rfl⟩ rfl ?_
                    refine j_if (fun hi12 => ?_) (fun _ => j_none)
                    refine j_iald (k := 49) (N := 5) (pc' := 88) q71_87 rfl hi12 rfl ?_
                    refine j_aload_n (pc' := 89) q71_88 rfl (by decide) rfl ?_
                    refine j_getr (k := 44) (q := 48) (pc' := 92) q71_89 rfl (hρ 44 4 48 rfl) rfl ?_
                    refine j_iload_n (pc' := 93) q71_92 rfl rfl ?_
                    refine j_if (fun hi13 => ?_) (fun _ => j_none)
                    refine j_iald (k := 48) (N := 5) (pc' := 94) q71_93 rfl hi13 rfl ?_
                    refine j_iadd (pc' := 95) q71_94 rfl ?_
                    refine j_if (fun hi14 => ?_) (fun _ => j_none)
                    refine j_iast (k := 49) (N := 5) (pc' := 96) q71_95 rfl hi14 rfl ?_
                    refine j_nameS (fun τ15 => ?_)
                    refine j_forget (z_le_s (z_le_s (z_le_s (z_le_s (z_le_s (z_le_n (z_le_n (z_le_nil)))))))) (hj6 τ15)
          · show z_J _ _ _ _ _ _ _ _ _ _ _ _
            refine j_join (T := Unit) 48 (fun t16 => [.ref 44, .int a1, .int a2, .int a3, .int s1.1, .int t3, .null]) (fun t16 => []) (fun t16 => s1.2) (fun t16 => ?_) (fun j16 hj16 => ?_)
            · show z_J _ _ _ _ _ _ _ _ _ _ _ _
              refine j_iconst (pc' := 49) q71_48 rfl ?_
              refine j_goto q71_49 rfl ?_
              refine j_forget (z_le_s (z_le_s (z_le_s (z_le_s (z_le_s (z_le_s (z_le_n (z_le_nil)))))))) (hj5 (1 : Int32))
            · show z_J _ _ _ _ _ _ _ _ _ _ _ _
              refine j_icmp_eq (pc' := 37) q71_34 rfl (fun c17 => ?_) (fun c17 => ?_)
              · refine j_forget (z_le_s (z_le_s (z_le_s (z_le_s (z_le_s (z_le_s (z_le_n (z_le_nil)))))))) (hj16 ())
              · refine j_aload_n (pc' := 38) q71_37 rfl (by decide) rfl ?_
                refine j_getr (k := 44) (q := 47) (pc' := 41) q71_38 rfl (hρ 44 3 47 rfl) rfl ?_
                refine j_iload_n (pc' := 42) q71_41 rfl rfl ?_
                refine j_if (fun hi18 => ?_) (fun _ => j_none)
                refine j_iald (k := 47) (N := 5) (pc' := 43) q71_42 rfl hi18 rfl ?_
                refine j_iload (pc' := 45) q71_43 rfl rfl ?_
                refine j_icmp_ne (pc' := 48) q71_45 rfl (fun c19 => ?_) (fun c19 => ?_)
                · refine j_forget (z_le_s (z_le_s (z_le_s (z_le_s (z_le_s (z_le_s (z_le_n (z_le_nil)))))))) (hj16 ())
                · refine j_iconst (pc' := 53) q71_52 rfl ?_
                  refine j_forget (z_le_s (z_le_s (z_le_s (z_le_s (z_le_s (z_le_s (z_le_n (z_le_nil)))))))) (hj5 (0 : Int32))
        · show z_J _ _ _ _ _ _ _ _ _ _ _ _
          refine j_icmp_ge (pc' := 14) q71_11 rfl (fun c20 => ?_) (fun c20 => ?_)
          · refine j_iload_n (pc' := 25) q71_24 rfl rfl ?_
            refine j_forget (z_le_s (z_le_s (z_le_s (z_le_s (z_le_s (z_le_n (z_le_n (z_le_nil)))))))) (hj3 a3)
          · refine j_iload_n (pc' := 15) q71_14 rfl rfl ?_
            refine j_iload_n (pc' := 16) q71_15 rfl rfl ?_
            refine j_iload (pc' := 18) q71_16 rfl rfl ?_
            refine j_callS3_pi (d := d + 2) (pc' := 21) q71_18 (Or.inl rfl) (Nat.le_of_ble_eq_true rfl) (Nat.le_of_ble_eq_true rfl) rfl (t_Cr_behind hρ (d + 0) _ _ _ _) (fun r21 => ?_)
            refine j_goto q71_21 rfl ?_
            refine j_forget (z_le_s (z_le_s (z_le_s (z_le_s (z_le_s (z_le_n (z_le_n (z_le_nil)))))))) (hj3 r21)
theorem q70_0 : z_fi (z_mi 70) 0 = some (0, .aload_n 0, 0, 0, 0, 0, 0) := rfl
theorem q70_1 : z_fi (z_mi 70) 1 = some (1, .getfield 23, 0, 5, 4, 0, 0) := rfl
theorem q70_4 : z_fi (z_mi 70) 4 = some (4, .iconst 0, 0, 0, 0, 0, 0) := rfl
theorem q70_5 : z_fi (z_mi 70) 5 = some (5, .invokestatic 33, 1, 240, 2, 0, 0) := rfl
theorem q70_8 : z_fi (z_mi 70) 8 = some (8, .aload_n 0, 0, 0, 0, 0, 0) := rfl
theorem q70_9 : z_fi (z_mi 70) 9 = some (9, .getfield 23, 0, 5, 4, 0, 0) := rfl
theorem q70_12 : z_fi (z_mi 70) 12 = some (12, .iconst 0, 0, 0, 0, 0, 0) := rfl
theorem q70_13 : z_fi (z_mi 70) 13 = some (13, .iconst 1, 0, 0, 0, 1, 0) := rfl
theorem q70_14 : z_fi (z_mi 70) 14 = some (14, .iastore, 0, 0, 0, 0, 0) := rfl
theorem q70_15 : z_fi (z_mi 70) 15 = some (15, .iconst 0, 0, 0, 0, 0, 0) := rfl
theorem q70_16 : z_fi (z_mi 70) 16 = some (16, .istore_n 3, 0, 0, 0, 0, 0) := rfl
theorem q70_17 : z_fi (z_mi 70) 17 = some (17, .iload_n 3, 0, 0, 0, 0, 0) := rfl
theorem q70_18 : z_fi (z_mi 70) 18 = some (18, .iload_n 2, 0, 0, 0, 0, 0) := rfl
theorem q70_19 : z_fi (z_mi 70) 19 = some (19, .if_icmp .ge 54, 0, 73, 0, 0, 0) := rfl
theorem q70_22 : z_fi (z_mi 70) 22 = some (22, .aload_n 0, 0, 0, 0, 0, 0) := rfl
theorem q70_23 : z_fi (z_mi 70) 23 = some (23, .getfield 26, 0, 5, 5, 0, 0) := rfl
theorem q70_26 : z_fi (z_mi 70) 26 = some (26, .iconst 0, 0, 0, 0, 0, 0) := rfl
theorem q70_27 : z_fi (z_mi 70) 27 = some (27, .invokestatic 33, 1, 240, 2, 0, 0) := rfl
theorem q70_30 : z_fi (z_mi 70) 30 = some (30, .iconst 0, 0, 0, 0, 0, 0) := rfl
theorem q70_31 : z_fi (z_mi 70) 31 = some (31, .istore 4, 0, 0, 0, 0, 0) := rfl
theorem q70_33 : z_fi (z_mi 70) 33 = some (33, .iload 4, 0, 0, 0, 0, 0) := rfl
theorem q70_35 : z_fi (z_mi 70) 35 = some (35, .iconst 5, 0, 0, 0, 5, 0) := rfl
theorem q70_36 : z_fi (z_mi 70) 36 = some (36, .if_icmp .ge 17, 0, 53, 0, 0, 0) := rfl
theorem q70_39 : z_fi (z_mi 70) 39 = some (39, .aload_n 0, 0, 0, 0, 0, 0) := rfl
theorem q70_40 : z_fi (z_mi 70) 40 = some (40, .iload_n 1, 0, 0, 0, 0, 0) := rfl
theorem q70_41 : z_fi (z_mi 70) 41 = some (41, .iload_n 3, 0, 0, 0, 0, 0) := rfl
theorem q70_42 : z_fi (z_mi 70) 42 = some (42, .iload 4, 0, 0, 0, 0, 0) := rfl
theorem q70_44 : z_fi (z_mi 70) 44 = some (44, .invokevirtual 43, 0, 71, 3, 0, 0) := rfl
theorem q70_47 : z_fi (z_mi 70) 47 = some (47, .iinc 4 1, 0, 0, 0, 1, 0) := rfl
theorem q70_50 : z_fi (z_mi 70) 50 = some (50, .goto (-17), 0, 33, 0, 0, 0) := rfl
theorem q70_53 : z_fi (z_mi 70) 53 = some (53, .aload_n 0, 0, 0, 0, 0, 0) := rfl
theorem q70_54 : z_fi (z_mi 70) 54 = some (54, .getfield 26, 0, 5, 5, 0, 0) := rfl
theorem q70_57 : z_fi (z_mi 70) 57 = some (57, .iconst 0, 0, 0, 0, 0, 0) := rfl
theorem q70_58 : z_fi (z_mi 70) 58 = some (58, .aload_n 0, 0, 0, 0, 0, 0) := rfl
theorem q70_59 : z_fi (z_mi 70) 59 = some (59, .getfield 23, 0, 5, 4, 0, 0) := rfl
theorem q70_62 : z_fi (z_mi 70) 62 = some (62, .iconst 0, 0, 0, 0, 0, 0) := rfl
theorem q70_63 : z_fi (z_mi 70) 63 = some (63, .iconst 5, 0, 0, 0, 5, 0) := rfl
theorem q70_64 : z_fi (z_mi 70) 64 = some (64, .invokestatic 47, 6, 0, 5, 0, 0) := rfl
theorem q70_67 : z_fi (z_mi 70) 67 = some (67, .iinc 3 1, 0, 0, 0, 1, 0) := rfl
theorem q70_70 : z_fi (z_mi 70) 70 = some (70, .goto (-53), 0, 17, 0, 0, 0) := rfl
theorem q70_73 : z_fi (z_mi 70) 73 = some (73, .iconst 0, 0, 0, 0, 0, 0) := rfl
theorem q70_74 : z_fi (z_mi 70) 74 = some (74, .istore_n 3, 0, 0, 0, 0, 0) := rfl
theorem q70_75 : z_fi (z_mi 70) 75 = some (75, .iconst 0, 0, 0, 0, 0, 0) := rfl
theorem q70_76 : z_fi (z_mi 70) 76 = some (76, .istore 4, 0, 0, 0, 0, 0) := rfl
theorem q70_78 : z_fi (z_mi 70) 78 = some (78, .iload 4, 0, 0, 0, 0, 0) := rfl
theorem q70_80 : z_fi (z_mi 70) 80 = some (80, .iconst 5, 0, 0, 0, 5, 0) := rfl
theorem q70_81 : z_fi (z_mi 70) 81 = some (81, .if_icmp .ge 19, 0, 100, 0, 0, 0) := rfl
theorem q70_84 : z_fi (z_mi 70) 84 = some (84, .iload_n 3, 0, 0, 0, 0, 0) := rfl
theorem q70_85 : z_fi (z_mi 70) 85 = some (85, .aload_n 0, 0, 0, 0, 0, 0) := rfl
theorem q70_86 : z_fi (z_mi 70) 86 = some (86, .getfield 23, 0, 5, 4, 0, 0) := rfl
theorem q70_89 : z_fi (z_mi 70) 89 = some (89, .iload 4, 0, 0, 0, 0, 0) := rfl
theorem q70_91 : z_fi (z_mi 70) 91 = some (91, .iaload, 0, 0, 0, 0, 0) := rfl
theorem q70_92 : z_fi (z_mi 70) 92 = some (92, .iadd, 0, 0, 0, 0, 0) := rfl
theorem q70_93 : z_fi (z_mi 70) 93 = some (93, .istore_n 3, 0, 0, 0, 0, 0) := rfl
theorem q70_94 : z_fi (z_mi 70) 94 = some (94, .iinc 4 1, 0, 0, 0, 1, 0) := rfl
theorem q70_97 : z_fi (z_mi 70) 97 = some (97, .goto (-19), 0, 78, 0, 0, 0) := rfl
theorem q70_100 : z_fi (z_mi 70) 100 = some (100, .iload_n 3, 0, 0, 0, 0, 0) := rfl
theorem q70_101 : z_fi (z_mi 70) 101 = some (101, .ireturn, 0, 0, 0, 0, 0) := rfl
set_option maxRecDepth 20000 in
set_option maxHeartbeats 4000000 in
theorem t_St_fittingRow_44 {xL : Nat} {xs : Nat → Int32} {ρ : Nat → Nat → Option Nat} (hρ : z_hR ρ) (d : Nat) (a1 : Int32) (a2 : Int32) (σ : zS) : ∀ q, f_St_fittingRow_44 a1 a2 σ = some q → z_ec xL xs ρ (d + 4) 70 [.ref 44, .int a1, .int a2] σ (em_i q) := by
  refine j_of (W := [.ref 44, .int a1, .int a2, .null, .null]) (fun L hL => ?_) ?_
  · subst hL; exact z_vl_0 _ 2 rfl
  · unfold f_St_fittingRow_44
    refine j_aload_n (pc' := 1) q70_0 rfl (by decide) rfl ?_
    refine j_getr (k := 44) (q := 48) (pc' := 4) q70_1 rfl (hρ 44 4 48 rfl) rfl ?_
    refine j_iconst (pc' := 5) q70_4 rfl ?_
    refine j_callS2_v (d := d + 3) (pc' := 8) q70_5 (Or.inl rfl) (Nat.le_of_ble_eq_true rfl) (Nat.le_of_ble_eq_true rfl) rfl (t_JA_fill_48 hρ (d + 3) _ _) (fun r1 => ?_)
    refine j_aload_n (pc' := 9) q70_8 rfl (by decide) rfl ?_
    refine j_getr (k := 44) (q := 48) (pc' := 12) q70_9 rfl (hρ 44 4 48 rfl) rfl ?_
    refine j_iconst (pc' := 13) q70_12 rfl ?_
    refine j_iconst (pc' := 14) q70_13 rfl ?_
    refine j_iast (k := 48) (N := 5) (pc' := 15) q70_14 rfl (by decide) rfl ?_
    refine j_nameS (fun τ2 => ?_)
    refine j_iconst (pc' := 16) q70_15 rfl ?_
    refine j_istore3 (pc' := 17) q70_16 rfl (Nat.le_of_ble_eq_true rfl) rfl ?_
    refine j_forget (V' := [.ref 44, .int a1, .int a2, .int (0 : Int32), .null]) (z_le_s (z_le_s (z_le_s (z_le_s (z_le_n (z_le_nil)))))) ?_
    refine j_loopX (S := Int32 × zS) (E := zS) (fun e => e) 73 (fun s3 => [.ref 44, .int a1, .int a2, .int s3.1, .null]) (fun s3 => s3.2) (fun b3 => [.ref 44, .null, .null, .null, .null]) (fun b3 => b3) (fun b3 => ?_) (fun R3 hR3 hX3 s3 => ?_) ((0 : Int32), τ2)
    · show z_J _ _ _ _ _ _ _ _ _ _ _ _
      refine j_iconst (pc' := 74) q70_73 rfl ?_
      refine j_istore3 (pc' := 75) q70_74 rfl (Nat.le_of_ble_eq_true rfl) rfl ?_
      refine j_iconst (pc' := 76) q70_75 rfl ?_
      refine j_istore4 (pc' := 78) q70_76 rfl (Nat.le_of_ble_eq_true rfl) rfl ?_
      refine j_forget (V' := [.ref 44, .null, .null, .int (0 : Int32), .int (0 : Int32)]) (z_le_s (z_le_n (z_le_n (z_le_s (z_le_s (z_le_nil)))))) ?_
      refine j_loopX (S := Int32 × Int32) (E := Int32) (fun e => e) 100 (fun s10 => [.ref 44, .null, .null, .int s10.1, .int s10.2]) (fun s10 => b3) (fun b10 => [.null, .null, .null, .int b10, .null]) (fun b10 => b3) (fun b10 => ?_) (fun R10 hR10 hX10 s10 => ?_) ((0 : Int32), (0 : Int32))
      · show z_J _ _ _ _ _ _ _ _ _ _ _ _
        refine j_iload_n (pc' := 101) q70_100 rfl rfl ?_
        exact j_iret q70_101 rfl
      · show z_J _ _ _ _ _ _ _ _ _ _ _ _
        refine j_iload (pc' := 80) q70_78 rfl rfl ?_
        refine j_iconst (pc' := 81) q70_80 rfl ?_
        refine j_icmp_ge (pc' := 84) q70_81 rfl (fun c11 => ?_) (fun c11 => ?_)
        · exact j_exit (j_forget (z_le_n (z_le_n (z_le_n (z_le_s (z_le_n (z_le_nil)))))) (hX10 s10.1))
        · refine j_iload_n (pc' := 85) q70_84 rfl rfl ?_
          refine j_aload_n (pc' := 86) q70_85 rfl (by decide) rfl ?_
          refine j_getr (k := 44) (q := 48) (pc' := 89) q70_86 rfl (hρ 44 4 48 rfl) rfl ?_
          refine j_iload (pc' := 91) q70_89 rfl rfl ?_
          refine j_if (fun hi12 => ?_) (fun _ => j_none)
          refine j_iald (k := 48) (N := 5) (pc' := 92) q70_91 rfl hi12 rfl ?_
          refine j_iadd (pc' := 93) q70_92 rfl ?_
          refine j_nameI (fun v13 => ?_)
          refine j_istore3 (pc' := 94) q70_93 rfl (Nat.le_of_ble_eq_true rfl) rfl ?_
          refine j_iinc4 (pc' := 97) q70_94 rfl (Nat.le_of_ble_eq_true rfl) rfl ?_
          refine j_goto q70_97 rfl ?_
          exact j_again (j_forget (z_le_s (z_le_n (z_le_n (z_le_s (z_le_s (z_le_nil)))))) (hR10 (v13, (s10.2 + (1 : Int32)))))
    · show z_J _ _ _ _ _ _ _ _ _ _ _ _
      refine j_iload_n (pc' := 18) q70_17 rfl rfl ?_
      refine j_iload_n (pc' := 19) q70_18 rfl rfl ?_
      refine j_icmp_ge (pc' := 22) q70_19 rfl (fun c4 => ?_) (fun c4 => ?_)
      · exact j_exit (j_forget (z_le_s (z_le_n (z_le_n (z_le_n (z_le_n (z_le_nil)))))) (hX3 s3.2))
      · refine j_aload_n (pc' := 23) q70_22 rfl (by decide) rfl ?_
        refine j_getr (k := 44) (q := 49) (pc' := 26) q70_23 rfl (hρ 44 5 49 rfl) rfl ?_
        refine j_iconst (pc' := 27) q70_26 rfl ?_
        refine j_callS2_v (d := d + 3) (pc' := 30) q70_27 (Or.inl rfl) (Nat.le_of_ble_eq_true rfl) (Nat.le_of_ble_eq_true rfl) rfl (t_JA_fill_49 hρ (d + 3) _ _) (fun r5 => ?_)
        refine j_iconst (pc' := 31) q70_30 rfl ?_
        refine j_istore4 (pc' := 33) q70_31 rfl (Nat.le_of_ble_eq_true rfl) rfl ?_
        refine j_forget (V' := [.ref 44, .int a1, .int a2, .int s3.1, .int (0 : Int32)]) (z_le_s (z_le_s (z_le_s (z_le_s (z_le_s (z_le_nil)))))) ?_
        refine j_loopX (S := Int32 × zS) (E := zS) (fun e => e) 53 (fun s6 => [.ref 44, .int a1, .int a2, .int s3.1, .int s6.1]) (fun s6 => s6.2) (fun b6 => [.ref 44, .int a1, .int a2, .int s3.1, .null]) (fun b6 => b6) (fun b6 => ?_) (fun R6 hR6 hX6 s6 => ?_) ((0 : Int32), r5)
        · show z_J _ _ _ _ _ _ _ _ _ _ _ _
          refine j_aload_n (pc' := 54) q70_53 rfl (by decide) rfl ?_
          refine j_getr (k := 44) (q := 49) (pc' := 57) q70_54 rfl (hρ 44 5 49 rfl) rfl ?_
          refine j_iconst (pc' := 58) q70_57 rfl ?_
          refine j_aload_n (pc' := 59) q70_58 rfl (by decide) rfl ?_
          refine j_getr (k := 44) (q := 48) (pc' := 62) q70_59 rfl (hρ 44 4 48 rfl) rfl ?_
          refine j_iconst (pc' := 63) q70_62 rfl ?_
          refine j_iconst (pc' := 64) q70_63 rfl ?_
          refine j_acopy (ks := 49) (kd := 48) (pc' := 67) q70_64 rfl (by decide) (Nat.le_of_ble_eq_true rfl) rfl ?_
          refine j_nameS (fun τ9 => ?_)
          refine j_iinc3 (pc' := 70) q70_67 rfl (Nat.le_of_ble_eq_true rfl) rfl ?_
          refine j_goto q70_70 rfl ?_
          exact j_again (j_forget (z_le_s (z_le_s (z_le_s (z_le_s (z_le_n (z_le_nil)))))) (hR3 ((s3.1 + (1 : Int32)), τ9)))
        · show z_J _ _ _ _ _ _ _ _ _ _ _ _
          refine j_iload (pc' := 35) q70_33 rfl rfl ?_
          refine j_iconst (pc' := 36) q70_35 rfl ?_
          refine j_icmp_ge (pc' := 39) q70_36 rfl (fun c7 => ?_) (fun c7 => ?_)
          · exact j_exit (j_forget (z_le_s (z_le_s (z_le_s (z_le_s (z_le_n (z_le_nil)))))) (hX6 s6.2))
          · refine j_aload_n (pc' := 40) q70_39 rfl (by decide) rfl ?_
            refine j_iload_n (pc' := 41) q70_40 rfl rfl ?_
            refine j_iload_n (pc' := 42) q70_41 rfl rfl ?_
            refine j_iload (pc' := 44) q70_42 rfl rfl ?_
            refine j_callV3_v (d := d + 3) (pc' := 47) q70_44 rfl (Nat.le_of_ble_eq_true rfl) (Nat.le_of_ble_eq_true rfl) rfl (t_St_goFrom_44 hρ (d + 0) _ _ _ _) (fun r8 => ?_)
            refine j_iinc4 (pc' := 50) q70_47 rfl (Nat.le_of_ble_eq_true rfl) rfl ?_
            refine j_goto q70_50 rfl ?_
            exact j_again (j_forget (z_le_s (z_le_s (z_le_s (z_le_s (z_le_s (z_le_nil)))))) (hR6 ((s6.1 + (1 : Int32)), r8)))
theorem q69_0 : z_fi (z_mi 69) 0 = some (0, .aload_n 0, 0, 0, 0, 0, 0) := rfl
theorem q69_1 : z_fi (z_mi 69) 1 = some (1, .getfield 20, 0, 5, 3, 0, 0) := rfl
theorem q69_4 : z_fi (z_mi 69) 4 = some (4, .iconst (-1), 0, 0, 0, (-1), 0) := rfl
theorem q69_5 : z_fi (z_mi 69) 5 = some (5, .invokestatic 33, 1, 240, 2, 0, 0) := rfl
theorem q69_8 : z_fi (z_mi 69) 8 = some (8, .aload_n 0, 0, 0, 0, 0, 0) := rfl
theorem q69_9 : z_fi (z_mi 69) 9 = some (9, .iload_n 1, 0, 0, 0, 0, 0) := rfl
theorem q69_10 : z_fi (z_mi 69) 10 = some (10, .iload_n 2, 0, 0, 0, 0, 0) := rfl
theorem q69_11 : z_fi (z_mi 69) 11 = some (11, .invokevirtual 39, 0, 70, 2, 0, 0) := rfl
theorem q69_14 : z_fi (z_mi 69) 14 = some (14, .ireturn, 0, 0, 0, 0, 0) := rfl
set_option maxRecDepth 20000 in
set_option maxHeartbeats 4000000 in
theorem t_St_fitting_44 {xL : Nat} {xs : Nat → Int32} {ρ : Nat → Nat → Option Nat} (hρ : z_hR ρ) (d : Nat) (a1 : Int32) (a2 : Int32) (σ : zS) : ∀ q, f_St_fitting_44 a1 a2 σ = some q → z_ec xL xs ρ (d + 5) 69 [.ref 44, .int a1, .int a2] σ (em_i q) := by
  refine j_of (W := [.ref 44, .int a1, .int a2]) (fun L hL => ?_) ?_
  · subst hL; exact z_vl_0 _ 0 rfl
  · unfold f_St_fitting_44
    refine j_aload_n (pc' := 1) q69_0 rfl (by decide) rfl ?_
    refine j_getr (k := 44) (q := 47) (pc' := 4) q69_1 rfl (hρ 44 3 47 rfl) rfl ?_
    refine j_iconst (pc' := 5) q69_4 rfl ?_
    refine j_callS2_v (d := d + 4) (pc' := 8) q69_5 (Or.inl rfl) (Nat.le_of_ble_eq_true rfl) (Nat.le_of_ble_eq_true rfl) rfl (t_JA_fill_47 hρ (d + 4) _ _) (fun r1 => ?_)
    refine j_aload_n (pc' := 9) q69_8 rfl (by decide) rfl ?_
    refine j_iload_n (pc' := 10) q69_9 rfl rfl ?_
    refine j_iload_n (pc' := 11) q69_10 rfl rfl ?_
    refine j_callV2_i (d := d + 4) (pc' := 14) q69_11 rfl (Nat.le_of_ble_eq_true rfl) (Nat.le_of_ble_eq_true rfl) rfl (t_St_fittingRow_44 hρ (d + 0) _ _ _) (fun r2 => ?_)
    exact j_iret q69_14 rfl
theorem q72_0 : z_fi (z_mi 72) 0 = some (0, .aload_n 0, 0, 0, 0, 0, 0) := rfl
theorem q72_1 : z_fi (z_mi 72) 1 = some (1, .iload_n 1, 0, 0, 0, 0, 0) := rfl
theorem q72_2 : z_fi (z_mi 72) 2 = some (2, .iload_n 2, 0, 0, 0, 0, 0) := rfl
theorem q72_3 : z_fi (z_mi 72) 3 = some (3, .invokevirtual 65, 0, 69, 2, 0, 0) := rfl
theorem q72_6 : z_fi (z_mi 72) 6 = some (6, .ifCond .ne 6, 0, 12, 0, 0, 0) := rfl
theorem q72_9 : z_fi (z_mi 72) 9 = some (9, .bipush (-4), 0, 0, 0, (-4), 0) := rfl
theorem q72_11 : z_fi (z_mi 72) 11 = some (11, .ireturn, 0, 0, 0, 0, 0) := rfl
theorem q72_12 : z_fi (z_mi 72) 12 = some (12, .iconst 0, 0, 0, 0, 0, 0) := rfl
theorem q72_13 : z_fi (z_mi 72) 13 = some (13, .istore_n 3, 0, 0, 0, 0, 0) := rfl
theorem q72_14 : z_fi (z_mi 72) 14 = some (14, .iconst 0, 0, 0, 0, 0, 0) := rfl
theorem q72_15 : z_fi (z_mi 72) 15 = some (15, .istore 4, 0, 0, 0, 0, 0) := rfl
theorem q72_17 : z_fi (z_mi 72) 17 = some (17, .iload 4, 0, 0, 0, 0, 0) := rfl
theorem q72_19 : z_fi (z_mi 72) 19 = some (19, .iload_n 2, 0, 0, 0, 0, 0) := rfl
theorem q72_20 : z_fi (z_mi 72) 20 = some (20, .if_icmp .ge 63, 0, 83, 0, 0, 0) := rfl
theorem q72_23 : z_fi (z_mi 72) 23 = some (23, .aload_n 0, 0, 0, 0, 0, 0) := rfl
theorem q72_24 : z_fi (z_mi 72) 24 = some (24, .getfield 20, 0, 5, 3, 0, 0) := rfl
theorem q72_27 : z_fi (z_mi 72) 27 = some (27, .iload 4, 0, 0, 0, 0, 0) := rfl
theorem q72_29 : z_fi (z_mi 72) 29 = some (29, .iconst 0, 0, 0, 0, 0, 0) := rfl
theorem q72_30 : z_fi (z_mi 72) 30 = some (30, .iastore, 0, 0, 0, 0, 0) := rfl
theorem q72_31 : z_fi (z_mi 72) 31 = some (31, .aload_n 0, 0, 0, 0, 0, 0) := rfl
theorem q72_32 : z_fi (z_mi 72) 32 = some (32, .getfield 20, 0, 5, 3, 0, 0) := rfl
theorem q72_35 : z_fi (z_mi 72) 35 = some (35, .iload 4, 0, 0, 0, 0, 0) := rfl
theorem q72_37 : z_fi (z_mi 72) 37 = some (37, .iaload, 0, 0, 0, 0, 0) := rfl
theorem q72_38 : z_fi (z_mi 72) 38 = some (38, .iconst 4, 0, 0, 0, 4, 0) := rfl
theorem q72_39 : z_fi (z_mi 72) 39 = some (39, .if_icmp .ge 26, 0, 65, 0, 0, 0) := rfl
theorem q72_42 : z_fi (z_mi 72) 42 = some (42, .aload_n 0, 0, 0, 0, 0, 0) := rfl
theorem q72_43 : z_fi (z_mi 72) 43 = some (43, .iload_n 1, 0, 0, 0, 0, 0) := rfl
theorem q72_44 : z_fi (z_mi 72) 44 = some (44, .iload_n 2, 0, 0, 0, 0, 0) := rfl
theorem q72_45 : z_fi (z_mi 72) 45 = some (45, .invokevirtual 39, 0, 70, 2, 0, 0) := rfl
theorem q72_48 : z_fi (z_mi 72) 48 = some (48, .ifCond .ne 17, 0, 65, 0, 0, 0) := rfl
theorem q72_51 : z_fi (z_mi 72) 51 = some (51, .aload_n 0, 0, 0, 0, 0, 0) := rfl
theorem q72_52 : z_fi (z_mi 72) 52 = some (52, .getfield 20, 0, 5, 3, 0, 0) := rfl
theorem q72_55 : z_fi (z_mi 72) 55 = some (55, .iload 4, 0, 0, 0, 0, 0) := rfl
theorem q72_57 : z_fi (z_mi 72) 57 = some (57, .dup2, 0, 0, 0, 0, 0) := rfl
theorem q72_58 : z_fi (z_mi 72) 58 = some (58, .iaload, 0, 0, 0, 0, 0) := rfl
theorem q72_59 : z_fi (z_mi 72) 59 = some (59, .iconst 1, 0, 0, 0, 1, 0) := rfl
theorem q72_60 : z_fi (z_mi 72) 60 = some (60, .iadd, 0, 0, 0, 0, 0) := rfl
theorem q72_61 : z_fi (z_mi 72) 61 = some (61, .iastore, 0, 0, 0, 0, 0) := rfl
theorem q72_62 : z_fi (z_mi 72) 62 = some (62, .goto (-31), 0, 31, 0, 0, 0) := rfl
theorem q72_65 : z_fi (z_mi 72) 65 = some (65, .iconst 5, 0, 0, 0, 5, 0) := rfl
theorem q72_66 : z_fi (z_mi 72) 66 = some (66, .iload_n 3, 0, 0, 0, 0, 0) := rfl
theorem q72_67 : z_fi (z_mi 72) 67 = some (67, .imul, 0, 0, 0, 0, 0) := rfl
theorem q72_68 : z_fi (z_mi 72) 68 = some (68, .aload_n 0, 0, 0, 0, 0, 0) := rfl
theorem q72_69 : z_fi (z_mi 72) 69 = some (69, .getfield 20, 0, 5, 3, 0, 0) := rfl
theorem q72_72 : z_fi (z_mi 72) 72 = some (72, .iload 4, 0, 0, 0, 0, 0) := rfl
theorem q72_74 : z_fi (z_mi 72) 74 = some (74, .iaload, 0, 0, 0, 0, 0) := rfl
theorem q72_75 : z_fi (z_mi 72) 75 = some (75, .iadd, 0, 0, 0, 0, 0) := rfl
theorem q72_76 : z_fi (z_mi 72) 76 = some (76, .istore_n 3, 0, 0, 0, 0, 0) := rfl
theorem q72_77 : z_fi (z_mi 72) 77 = some (77, .iinc 4 1, 0, 0, 0, 1, 0) := rfl
theorem q72_80 : z_fi (z_mi 72) 80 = some (80, .goto (-63), 0, 17, 0, 0, 0) := rfl
theorem q72_83 : z_fi (z_mi 72) 83 = some (83, .iload_n 3, 0, 0, 0, 0, 0) := rfl
theorem q72_84 : z_fi (z_mi 72) 84 = some (84, .ireturn, 0, 0, 0, 0, 0) := rfl
set_option maxRecDepth 20000 in
set_option maxHeartbeats 4000000 in
theorem t_St_firstFitting_44 {xL : Nat} {xs : Nat → Int32} {ρ : Nat → Nat → Option Nat} (hρ : z_hR ρ) (d : Nat) (a1 : Int32) (a2 : Int32) (σ : zS) : ∀ q, f_St_firstFitting_44 a1 a2 σ = some q → z_ec xL xs ρ (d + 6) 72 [.ref 44, .int a1, .int a2] σ (em_i q) := by
  refine j_of (W := [.ref 44, .int a1, .int a2, .null, .null]) (fun L hL => ?_) ?_
  · subst hL; exact z_vl_0 _ 2 rfl
  · unfold f_St_firstFitting_44
    refine j_aload_n (pc' := 1) q72_0 rfl (by decide) rfl ?_
    refine j_iload_n (pc' := 2) q72_1 rfl rfl ?_
    refine j_iload_n (pc' := 3) q72_2 rfl rfl ?_
    refine j_callV2_i (d := d + 5) (pc' := 6) q72_3 rfl (Nat.le_of_ble_eq_true rfl) (Nat.le_of_ble_eq_true rfl) rfl (t_St_fitting_44 hρ (d + 0) _ _ _) (fun r1 => ?_)
    refine j_if_ne (pc' := 9) q72_6 rfl (fun c2 => ?_) (fun c2 => ?_)
    · refine j_bipush (pc' := 11) q72_9 rfl ?_
      exact j_iret q72_11 rfl
    · refine j_iconst (pc' := 13) q72_12 rfl ?_
      refine j_istore3 (pc' := 14) q72_13 rfl (Nat.le_of_ble_eq_true rfl) rfl ?_
      refine j_iconst (pc' := 15) q72_14 rfl ?_
      refine j_istore4 (pc' := 17) q72_15 rfl (Nat.le_of_ble_eq_true rfl) rfl ?_
      refine j_forget (V' := [.ref 44, .int a1, .int a2, .int (0 : Int32), .int (0 : Int32)]) (z_le_s (z_le_s (z_le_s (z_le_s (z_le_s (z_le_nil)))))) ?_
      refine j_loopX (S := Int32 × Int32 × zS) (E := Int32 × zS) (fun e => e) 83 (fun s3 => [.ref 44, .int a1, .int a2, .int s3.1, .int s3.2.1]) (fun s3 => s3.2.2) (fun b3 => [.null, .null, .null, .int b3.1, .null]) (fun b3 => b3.2) (fun b3 => ?_) (fun R3 hR3 hX3 s3 => ?_) ((0 : Int32), (0 : Int32), r1.2)
      · show z_J _ _ _ _ _ _ _ _ _ _ _ _
        refine j_iload_n (pc' := 84) q72_83 rfl rfl ?_
        exact j_iret q72_84 rfl
      · show z_J _ _ _ _ _ _ _ _ _ _ _ _
        refine j_iload (pc' := 19) q72_17 rfl rfl ?_
        refine j_iload_n (pc' := 20) q72_19 rfl rfl ?_
        refine j_icmp_ge (pc' := 23) q72_20 rfl (fun c4 => ?_) (fun c4 => ?_)
        · exact j_exit (j_forget (z_le_n (z_le_n (z_le_n (z_le_s (z_le_n (z_le_nil)))))) (hX3 (s3.1, s3.2.2)))
        · refine j_aload_n (pc' := 24) q72_23 rfl (by decide) rfl ?_
          refine j_getr (k := 44) (q := 47) (pc' := 27) q72_24 rfl (hρ 44 3 47 rfl) rfl ?_
          refine j_iload (pc' := 29) q72_27 rfl rfl ?_
          refine j_iconst (pc' := 30) q72_29 rfl ?_
          refine j_if (fun hi5 => ?_) (fun _ => j_none)
          refine j_iast (k := 47) (N := 5) (pc' := 31) q72_30 rfl hi5 rfl ?_
          refine j_nameS (fun τ6 => ?_)
          refine j_forget (V' := [.ref 44, .int a1, .int a2, .int s3.1, .int s3.2.1]) (z_le_s (z_le_s (z_le_s (z_le_s (z_le_s (z_le_nil)))))) ?_
          refine j_loopX (S := zS) (E := zS) (fun e => e) 65 (fun s7 => [.ref 44, .int a1, .int a2, .int s3.1, .int s3.2.1]) (fun s7 => s7) (fun b7 => [.ref 44, .int a1, .int a2, .int s3.1, .int s3.2.1]) (fun b7 => b7) (fun b7 => ?_) (fun R7 hR7 hX7 s7 => ?_) τ6
          · show z_J _ _ _ _ _ _ _ _ _ _ _ _
            refine j_iconst (pc' := 66) q72_65 rfl ?_
            refine j_iload_n (pc' := 67) q72_66 rfl rfl ?_
            refine j_imul (pc' := 68) q72_67 rfl ?_
            refine j_aload_n (pc' := 69) q72_68 rfl (by decide) rfl ?_
            refine j_getr (k := 44) (q := 47) (pc' := 72) q72_69 rfl (hρ 44 3 47 rfl) rfl ?_
            refine j_iload (pc' := 74) q72_72 rfl rfl ?_
            refine j_if (fun hi15 => ?_) (fun _ => j_none)
            refine j_iald (k := 47) (N := 5) (pc' := 75) q72_74 rfl hi15 rfl ?_
            refine j_iadd (pc' := 76) q72_75 rfl ?_
            refine j_nameI (fun v16 => ?_)
            refine j_istore3 (pc' := 77) q72_76 rfl (Nat.le_of_ble_eq_true rfl) rfl ?_
            refine j_iinc4 (pc' := 80) q72_77 rfl (Nat.le_of_ble_eq_true rfl) rfl ?_
            refine j_goto q72_80 rfl ?_
            exact j_again (j_forget (z_le_s (z_le_s (z_le_s (z_le_s (z_le_s (z_le_nil)))))) (hR3 (v16, (s3.2.1 + (1 : Int32)), b7)))
          · show z_J _ _ _ _ _ _ _ _ _ _ _ _
            refine j_aload_n (pc' := 32) q72_31 rfl (by decide) rfl ?_
            refine j_getr (k := 44) (q := 47) (pc' := 35) q72_32 rfl (hρ 44 3 47 rfl) rfl ?_
            refine j_iload (pc' := 37) q72_35 rfl rfl ?_
            refine j_if (fun hi8 => ?_) (fun _ => j_none)
            refine j_iald (k := 47) (N := 5) (pc' := 38) q72_37 rfl hi8 rfl ?_
            refine j_iconst (pc' := 39) q72_38 rfl ?_
            refine j_icmp_ge (pc' := 42) q72_39 rfl (fun c9 => ?_) (fun c9 => ?_)
            · exact j_exit (j_forget (z_le_s (z_le_s (z_le_s (z_le_s (z_le_s (z_le_nil)))))) (hX7 s7))
            · refine j_aload_n (pc' := 43) q72_42 rfl (by decide) rfl ?_
              refine j_iload_n (pc' := 44) q72_43 rfl rfl ?_
              refine j_iload_n (pc' := 45) q72_44 rfl rfl ?_
              refine j_callV2_i (d := d + 5) (pc' := 48) q72_45 rfl (Nat.le_of_ble_eq_true rfl) (Nat.le_of_ble_eq_true rfl) rfl (t_St_fittingRow_44 hρ (d + 1) _ _ _) (fun r10 => ?_)
              refine j_if_ne (pc' := 51) q72_48 rfl (fun c11 => ?_) (fun c11 => ?_)
              · refine j_aload_n (pc' := 52) q72_51 rfl (by decide) rfl ?_
                refine j_getr (k := 44) (q := 47) (pc' := 55) q72_52 rfl (hρ 44 3 47 rfl) rfl ?_
                refine j_iload (pc' := 57) q72_55 rfl rfl ?_
                refine j_dup2 (pc' := 58) q72_57 ⟨rfl, rfl⟩ rfl ?_
                refine j_if (fun hi12 => ?_) (fun _ => j_none)
                refine j_iald (k := 47) (N := 5) (pc' := 59) q72_58 rfl hi12 rfl ?_
                refine j_iconst (pc' := 60) q72_59 rfl ?_
                refine j_iadd (pc' := 61) q72_60 rfl ?_
                refine j_if (fun hi13 => ?_) (fun _ => j_none)
                refine j_iast (k := 47) (N := 5) (pc' := 62) q72_61 rfl hi13 rfl ?_
                refine j_nameS (fun τ14 => ?_)
                refine j_goto q72_62 rfl ?_
                exact j_again (j_forget (z_le_s (z_le_s (z_le_s (z_le_s (z_le_s (z_le_nil)))))) (hR7 τ14))
              · exact j_exit (j_forget (z_le_s (z_le_s (z_le_s (z_le_s (z_le_s (z_le_nil)))))) (hX7 r10.2))
theorem q135_0 : z_fi (z_mi 135) 0 = some (0, .iload_n 1, 0, 0, 0, 0, 0) := rfl
theorem q135_1 : z_fi (z_mi 135) 1 = some (1, .invokestatic 173, 1, 1, 1, 0, 0) := rfl
theorem q135_4 : z_fi (z_mi 135) 4 = some (4, .ifCond .eq 21, 0, 25, 0, 0, 0) := rfl
theorem q135_7 : z_fi (z_mi 135) 7 = some (7, .iload_n 2, 0, 0, 0, 0, 0) := rfl
theorem q135_8 : z_fi (z_mi 135) 8 = some (8, .iconst 1, 0, 0, 0, 1, 0) := rfl
theorem q135_9 : z_fi (z_mi 135) 9 = some (9, .iconst 5, 0, 0, 0, 5, 0) := rfl
theorem q135_10 : z_fi (z_mi 135) 10 = some (10, .invokestatic 60, 1, 99, 3, 0, 0) := rfl
theorem q135_13 : z_fi (z_mi 135) 13 = some (13, .ifCond .eq 12, 0, 25, 0, 0, 0) := rfl
theorem q135_16 : z_fi (z_mi 135) 16 = some (16, .iload_n 3, 0, 0, 0, 0, 0) := rfl
theorem q135_17 : z_fi (z_mi 135) 17 = some (17, .iconst 0, 0, 0, 0, 0, 0) := rfl
theorem q135_18 : z_fi (z_mi 135) 18 = some (18, .iconst 1, 0, 0, 0, 1, 0) := rfl
theorem q135_19 : z_fi (z_mi 135) 19 = some (19, .invokestatic 60, 1, 99, 3, 0, 0) := rfl
theorem q135_22 : z_fi (z_mi 135) 22 = some (22, .ifCond .ne 5, 0, 27, 0, 0, 0) := rfl
theorem q135_25 : z_fi (z_mi 135) 25 = some (25, .iconst (-1), 0, 0, 0, (-1), 0) := rfl
theorem q135_26 : z_fi (z_mi 135) 26 = some (26, .ireturn, 0, 0, 0, 0, 0) := rfl
theorem q135_27 : z_fi (z_mi 135) 27 = some (27, .iload_n 3, 0, 0, 0, 0, 0) := rfl
theorem q135_28 : z_fi (z_mi 135) 28 = some (28, .ifCond .ne 15, 0, 43, 0, 0, 0) := rfl
theorem q135_31 : z_fi (z_mi 135) 31 = some (31, .aload_n 0, 0, 0, 0, 0, 0) := rfl
theorem q135_32 : z_fi (z_mi 135) 32 = some (32, .getfield 55, 0, 9, 7, 0, 0) := rfl
theorem q135_35 : z_fi (z_mi 135) 35 = some (35, .iload_n 1, 0, 0, 0, 0, 0) := rfl
theorem q135_36 : z_fi (z_mi 135) 36 = some (36, .iload_n 2, 0, 0, 0, 0, 0) := rfl
theorem q135_37 : z_fi (z_mi 135) 37 = some (37, .invokevirtual 261, 0, 69, 2, 0, 0) := rfl
theorem q135_40 : z_fi (z_mi 135) 40 = some (40, .goto 12, 0, 52, 0, 0, 0) := rfl
theorem q135_43 : z_fi (z_mi 135) 43 = some (43, .aload_n 0, 0, 0, 0, 0, 0) := rfl
theorem q135_44 : z_fi (z_mi 135) 44 = some (44, .getfield 55, 0, 9, 7, 0, 0) := rfl
theorem q135_47 : z_fi (z_mi 135) 47 = some (47, .iload_n 1, 0, 0, 0, 0, 0) := rfl
theorem q135_48 : z_fi (z_mi 135) 48 = some (48, .iload_n 2, 0, 0, 0, 0, 0) := rfl
theorem q135_49 : z_fi (z_mi 135) 49 = some (49, .invokevirtual 264, 0, 72, 2, 0, 0) := rfl
theorem q135_52 : z_fi (z_mi 135) 52 = some (52, .ireturn, 0, 0, 0, 0, 0) := rfl
set_option maxRecDepth 20000 in
set_option maxHeartbeats 4000000 in
theorem t_Y_rows {xL : Nat} {xs : Nat → Int32} {ρ : Nat → Nat → Option Nat} (hρ : z_hR ρ) (d : Nat) (a1 : Int32) (a2 : Int32) (a3 : Int32) (σ : zS) : ∀ q, f_Y_rows a1 a2 a3 σ = some q → z_ec xL xs ρ (d + 7) 135 [.ref 0, .int a1, .int a2, .int a3] σ (em_i q) := by
  refine j_of (W := [.ref 0, .int a1, .int a2, .int a3]) (fun L hL => ?_) ?_
  · subst hL; exact z_vl_0 _ 0 rfl
  · unfold f_Y_rows
    refine j_iload_n (pc' := 1) q135_0 rfl rfl ?_
    refine j_callS1_pi (d := d + 6) (pc' := 4) q135_1 (Or.inl rfl) (Nat.le_of_ble_eq_true rfl) (Nat.le_of_ble_eq_true rfl) rfl (t_Cr_isKind hρ (d + 5) _ _) (fun r1 => ?_)
    refine j_if_eq (pc' := 7) q135_4 rfl (fun c2 => ?_) (fun c2 => ?_)
    · refine j_iconst (pc' := 26) q135_25 rfl ?_
      exact j_iret q135_26 rfl
    · refine j_iload_n (pc' := 8) q135_7 rfl rfl ?_
      refine j_iconst (pc' := 9) q135_8 rfl ?_
      refine j_iconst (pc' := 10) q135_9 rfl ?_
      refine j_callS3_pi (d := d + 6) (pc' := 13) q135_10 (Or.inl rfl) (Nat.le_of_ble_eq_true rfl) (Nat.le_of_ble_eq_true rfl) rfl (t_Y_isIn hρ (d + 6) _ _ _ _) (fun r3 => ?_)
      refine j_if_eq (pc' := 16) q135_13 rfl (fun c4 => ?_) (fun c4 => ?_)
      · refine j_iconst (pc' := 26) q135_25 rfl ?_
        exact j_iret q135_26 rfl
      · refine j_iload_n (pc' := 17) q135_16 rfl rfl ?_
        refine j_iconst (pc' := 18) q135_17 rfl ?_
        refine j_iconst (pc' := 19) q135_18 rfl ?_
        refine j_callS3_pi (d := d + 6) (pc' := 22) q135_19 (Or.inl rfl) (Nat.le_of_ble_eq_true rfl) (Nat.le_of_ble_eq_true rfl) rfl (t_Y_isIn hρ (d + 6) _ _ _ _) (fun r5 => ?_)
        refine j_if_ne (pc' := 25) q135_22 rfl (fun c6 => ?_) (fun c6 => ?_)
        · refine j_iconst (pc' := 26) q135_25 rfl ?_
          exact j_iret q135_26 rfl
        · refine j_iload_n (pc' := 28) q135_27 rfl rfl ?_
          refine j_if_ne (pc' := 31) q135_28 rfl (fun c7 => ?_) (fun c7 => ?_)
          · refine j_aload_n (pc' := 32) q135_31 rfl (by decide) rfl ?_
            refine j_getr (k := 0) (q := 44) (pc' := 35) q135_32 rfl (hρ 0 7 44 rfl) rfl ?_
            refine j_iload_n (pc' := 36) q135_35 rfl rfl ?_
            refine j_iload_n (pc' := 37) q135_36 rfl rfl ?_
            refine j_callV2_i (d := d + 6) (pc' := 40) q135_37 rfl (Nat.le_of_ble_eq_true rfl) (Nat.le_of_ble_eq_true rfl) rfl (t_St_fitting_44 hρ (d + 1) _ _ _) (fun r8 => ?_)
            refine j_goto q135_40 rfl ?_
            exact j_iret q135_52 rfl
          · refine j_aload_n (pc' := 44) q135_43 rfl (by decide) rfl ?_
            refine j_getr (k := 0) (q := 44) (pc' := 47) q135_44 rfl (hρ 0 7 44 rfl) rfl ?_
            refine j_iload_n (pc' := 48) q135_47 rfl rfl ?_
            refine j_iload_n (pc' := 49) q135_48 rfl rfl ?_
            refine j_callV2_i (d := d + 6) (pc' := 52) q135_49 rfl (Nat.le_of_ble_eq_true rfl) (Nat.le_of_ble_eq_true rfl) rfl (t_St_firstFitting_44 hρ (d + 0) _ _ _) (fun r9 => ?_)
            exact j_iret q135_52 rfl
set_option maxRecDepth 8000 in
theorem q218_0 : z_fi (z_mi 218) 0 = some (0, .iconst 1, 0, 0, 0, 1, 0) := rfl
set_option maxRecDepth 8000 in
theorem q218_1 : z_fi (z_mi 218) 1 = some (1, .istore_n 1, 0, 0, 0, 0, 0) := rfl
set_option maxRecDepth 8000 in
theorem q218_2 : z_fi (z_mi 218) 2 = some (2, .iconst 0, 0, 0, 0, 0, 0) := rfl
set_option maxRecDepth 8000 in
theorem q218_3 : z_fi (z_mi 218) 3 = some (3, .istore_n 2, 0, 0, 0, 0, 0) := rfl
set_option maxRecDepth 8000 in
theorem q218_4 : z_fi (z_mi 218) 4 = some (4, .iload_n 2, 0, 0, 0, 0, 0) := rfl
set_option maxRecDepth 8000 in
theorem q218_5 : z_fi (z_mi 218) 5 = some (5, .iload_n 0, 0, 0, 0, 0, 0) := rfl
set_option maxRecDepth 8000 in
theorem q218_6 : z_fi (z_mi 218) 6 = some (6, .if_icmp .ge 13, 0, 19, 0, 0, 0) := rfl
set_option maxRecDepth 8000 in
theorem q218_9 : z_fi (z_mi 218) 9 = some (9, .iload_n 1, 0, 0, 0, 0, 0) := rfl
set_option maxRecDepth 8000 in
theorem q218_10 : z_fi (z_mi 218) 10 = some (10, .iconst 5, 0, 0, 0, 5, 0) := rfl
set_option maxRecDepth 8000 in
theorem q218_11 : z_fi (z_mi 218) 11 = some (11, .imul, 0, 0, 0, 0, 0) := rfl
set_option maxRecDepth 8000 in
theorem q218_12 : z_fi (z_mi 218) 12 = some (12, .istore_n 1, 0, 0, 0, 0, 0) := rfl
set_option maxRecDepth 8000 in
theorem q218_13 : z_fi (z_mi 218) 13 = some (13, .iinc 2 1, 0, 0, 0, 1, 0) := rfl
set_option maxRecDepth 8000 in
theorem q218_16 : z_fi (z_mi 218) 16 = some (16, .goto (-12), 0, 4, 0, 0, 0) := rfl
set_option maxRecDepth 8000 in
theorem q218_19 : z_fi (z_mi 218) 19 = some (19, .iload_n 1, 0, 0, 0, 0, 0) := rfl
set_option maxRecDepth 8000 in
theorem q218_20 : z_fi (z_mi 218) 20 = some (20, .ireturn, 0, 0, 0, 0, 0) := rfl
set_option maxRecDepth 20000 in
set_option maxHeartbeats 4000000 in
theorem t_M_power {xL : Nat} {xs : Nat → Int32} {ρ : Nat → Nat → Option Nat} (hρ : z_hR ρ) (d : Nat) (a0 : Int32) (σ : zS) : ∀ q, f_M_power a0 σ = some q → z_ec xL xs ρ (d + 0) 218 [.int a0] σ (em_pi σ q) := by
  refine j_of (W := [.int a0, .null, .null]) (fun L hL => ?_) ?_
  · subst hL; exact z_vl_0 _ 2 rfl
  · unfold f_M_power
    refine j_iconst (pc' := 1) q218_0 rfl ?_
    refine j_istore1 (pc' := 2) q218_1 rfl (Nat.le_of_ble_eq_true rfl) rfl ?_
    refine j_iconst (pc' := 3) q218_2 rfl ?_
    refine j_istore2 (pc' := 4) q218_3 rfl (Nat.le_of_ble_eq_true rfl) rfl ?_
    refine j_forget (V' := [.int a0, .int (1 : Int32), .int (0 : Int32)]) (z_le_s (z_le_s (z_le_s (z_le_nil)))) ?_
    refine j_loopX (S := Int32 × Int32) (E := Int32) (fun e => e) 19 (fun s1 => [.int a0, .int s1.1, .int s1.2]) (fun s1 => σ) (fun b1 => [.null, .int b1, .null]) (fun b1 => σ) (fun b1 => ?_) (fun R1 hR1 hX1 s1 => ?_) ((1 : Int32), (0 : Int32))
    · show z_J _ _ _ _ _ _ _ _ _ _ _ _
      refine j_iload_n (pc' := 20) q218_19 rfl rfl ?_
      exact j_piret q218_20 rfl
    · show z_J _ _ _ _ _ _ _ _ _ _ _ _
      refine j_iload_n (pc' := 5) q218_4 rfl rfl ?_
      refine j_iload_n (pc' := 6) q218_5 rfl rfl ?_
      refine j_icmp_ge (pc' := 9) q218_6 rfl (fun c2 => ?_) (fun c2 => ?_)
      · exact j_exit (j_forget (z_le_n (z_le_s (z_le_n (z_le_nil)))) (hX1 s1.1))
      · refine j_iload_n (pc' := 10) q218_9 rfl rfl ?_
        refine j_iconst (pc' := 11) q218_10 rfl ?_
        refine j_imul (pc' := 12) q218_11 rfl ?_
        refine j_istore1 (pc' := 13) q218_12 rfl (Nat.le_of_ble_eq_true rfl) rfl ?_
        refine j_iinc2 (pc' := 16) q218_13 rfl (Nat.le_of_ble_eq_true rfl) rfl ?_
        refine j_goto q218_16 rfl ?_
        exact j_again (j_forget (z_le_s (z_le_s (z_le_s (z_le_nil)))) (hR1 ((s1.1 * (5 : Int32)), (s1.2 + (1 : Int32)))))
set_option maxRecDepth 8000 in
theorem q219_0 : z_fi (z_mi 219) 0 = some (0, .iconst 0, 0, 0, 0, 0, 0) := rfl
set_option maxRecDepth 8000 in
theorem q219_1 : z_fi (z_mi 219) 1 = some (1, .istore 4, 0, 0, 0, 0, 0) := rfl
set_option maxRecDepth 8000 in
theorem q219_3 : z_fi (z_mi 219) 3 = some (3, .iload_n 2, 0, 0, 0, 0, 0) := rfl
set_option maxRecDepth 8000 in
theorem q219_4 : z_fi (z_mi 219) 4 = some (4, .invokestatic 274, 1, 218, 1, 0, 0) := rfl
set_option maxRecDepth 8000 in
theorem q219_7 : z_fi (z_mi 219) 7 = some (7, .istore 5, 0, 0, 0, 0, 0) := rfl
set_option maxRecDepth 8000 in
theorem q219_9 : z_fi (z_mi 219) 9 = some (9, .iconst 1, 0, 0, 0, 1, 0) := rfl
set_option maxRecDepth 8000 in
theorem q219_10 : z_fi (z_mi 219) 10 = some (10, .istore 6, 0, 0, 0, 0, 0) := rfl
set_option maxRecDepth 8000 in
theorem q219_12 : z_fi (z_mi 219) 12 = some (12, .iconst 0, 0, 0, 0, 0, 0) := rfl
set_option maxRecDepth 8000 in
theorem q219_13 : z_fi (z_mi 219) 13 = some (13, .istore 7, 0, 0, 0, 0, 0) := rfl
set_option maxRecDepth 8000 in
theorem q219_15 : z_fi (z_mi 219) 15 = some (15, .iload 7, 0, 0, 0, 0, 0) := rfl
set_option maxRecDepth 8000 in
theorem q219_17 : z_fi (z_mi 219) 17 = some (17, .iload_n 2, 0, 0, 0, 0, 0) := rfl
set_option maxRecDepth 8000 in
theorem q219_18 : z_fi (z_mi 219) 18 = some (18, .if_icmp .ge 101, 0, 119, 0, 0, 0) := rfl
set_option maxRecDepth 8000 in
theorem q219_21 : z_fi (z_mi 219) 21 = some (21, .iload 5, 0, 0, 0, 0, 0) := rfl
set_option maxRecDepth 8000 in
theorem q219_23 : z_fi (z_mi 219) 23 = some (23, .iconst 5, 0, 0, 0, 5, 0) := rfl
set_option maxRecDepth 8000 in
theorem q219_24 : z_fi (z_mi 219) 24 = some (24, .idiv, 0, 0, 0, 0, 0) := rfl
set_option maxRecDepth 8000 in
theorem q219_25 : z_fi (z_mi 219) 25 = some (25, .istore 5, 0, 0, 0, 0, 0) := rfl
set_option maxRecDepth 8000 in
theorem q219_27 : z_fi (z_mi 219) 27 = some (27, .iload 4, 0, 0, 0, 0, 0) := rfl
set_option maxRecDepth 8000 in
theorem q219_29 : z_fi (z_mi 219) 29 = some (29, .iconst 3, 0, 0, 0, 3, 0) := rfl
set_option maxRecDepth 8000 in
theorem q219_30 : z_fi (z_mi 219) 30 = some (30, .if_icmp .ge 19, 0, 49, 0, 0, 0) := rfl
set_option maxRecDepth 8000 in
theorem q219_33 : z_fi (z_mi 219) 33 = some (33, .aload_n 0, 0, 0, 0, 0, 0) := rfl
set_option maxRecDepth 8000 in
theorem q219_34 : z_fi (z_mi 219) 34 = some (34, .iload_n 1, 0, 0, 0, 0, 0) := rfl
set_option maxRecDepth 8000 in
theorem q219_35 : z_fi (z_mi 219) 35 = some (35, .iload 4, 0, 0, 0, 0, 0) := rfl
set_option maxRecDepth 8000 in
theorem q219_37 : z_fi (z_mi 219) 37 = some (37, .iload_n 3, 0, 0, 0, 0, 0) := rfl
set_option maxRecDepth 8000 in
theorem q219_38 : z_fi (z_mi 219) 38 = some (38, .iload 5, 0, 0, 0, 0, 0) := rfl
set_option maxRecDepth 8000 in
theorem q219_40 : z_fi (z_mi 219) 40 = some (40, .idiv, 0, 0, 0, 0, 0) := rfl
set_option maxRecDepth 8000 in
theorem q219_41 : z_fi (z_mi 219) 41 = some (41, .iconst 5, 0, 0, 0, 5, 0) := rfl
set_option maxRecDepth 8000 in
theorem q219_42 : z_fi (z_mi 219) 42 = some (42, .irem, 0, 0, 0, 0, 0) := rfl
set_option maxRecDepth 8000 in
theorem q219_43 : z_fi (z_mi 219) 43 = some (43, .invokevirtual 209, 0, 192, 3, 0, 0) := rfl
set_option maxRecDepth 8000 in
theorem q219_46 : z_fi (z_mi 219) 46 = some (46, .goto 5, 0, 51, 0, 0, 0) := rfl
set_option maxRecDepth 8000 in
theorem q219_49 : z_fi (z_mi 219) 49 = some (49, .iload 4, 0, 0, 0, 0, 0) := rfl
set_option maxRecDepth 8000 in
theorem q219_51 : z_fi (z_mi 219) 51 = some (51, .istore 4, 0, 0, 0, 0, 0) := rfl
set_option maxRecDepth 8000 in
theorem q219_53 : z_fi (z_mi 219) 53 = some (53, .iconst 0, 0, 0, 0, 0, 0) := rfl
set_option maxRecDepth 8000 in
theorem q219_54 : z_fi (z_mi 219) 54 = some (54, .istore 8, 0, 0, 0, 0, 0) := rfl
set_option maxRecDepth 8000 in
theorem q219_56 : z_fi (z_mi 219) 56 = some (56, .iload 8, 0, 0, 0, 0, 0) := rfl
set_option maxRecDepth 8000 in
theorem q219_58 : z_fi (z_mi 219) 58 = some (58, .aload_n 0, 0, 0, 0, 0, 0) := rfl
set_option maxRecDepth 8000 in
theorem q219_59 : z_fi (z_mi 219) 59 = some (59, .getfield 156, 0, 10, 26, 0, 0) := rfl
set_option maxRecDepth 8000 in
theorem q219_62 : z_fi (z_mi 219) 62 = some (62, .if_icmp .ge 51, 0, 113, 0, 0, 0) := rfl
set_option maxRecDepth 8000 in
theorem q219_65 : z_fi (z_mi 219) 65 = some (65, .iload 6, 0, 0, 0, 0, 0) := rfl
set_option maxRecDepth 8000 in
theorem q219_67 : z_fi (z_mi 219) 67 = some (67, .ifCond .eq 37, 0, 104, 0, 0, 0) := rfl
set_option maxRecDepth 8000 in
theorem q219_70 : z_fi (z_mi 219) 70 = some (70, .aload_n 0, 0, 0, 0, 0, 0) := rfl
set_option maxRecDepth 8000 in
theorem q219_71 : z_fi (z_mi 219) 71 = some (71, .getfield 44, 0, 10, 25, 0, 0) := rfl
set_option maxRecDepth 8000 in
theorem q219_74 : z_fi (z_mi 219) 74 = some (74, .iconst 2, 0, 0, 0, 2, 0) := rfl
set_option maxRecDepth 8000 in
theorem q219_75 : z_fi (z_mi 219) 75 = some (75, .iload 8, 0, 0, 0, 0, 0) := rfl
set_option maxRecDepth 8000 in
theorem q219_77 : z_fi (z_mi 219) 77 = some (77, .imul, 0, 0, 0, 0, 0) := rfl
set_option maxRecDepth 8000 in
theorem q219_78 : z_fi (z_mi 219) 78 = some (78, .iaload, 0, 0, 0, 0, 0) := rfl
set_option maxRecDepth 8000 in
theorem q219_79 : z_fi (z_mi 219) 79 = some (79, .iload 7, 0, 0, 0, 0, 0) := rfl
set_option maxRecDepth 8000 in
theorem q219_81 : z_fi (z_mi 219) 81 = some (81, .if_icmp .ne 19, 0, 100, 0, 0, 0) := rfl
set_option maxRecDepth 8000 in
theorem q219_84 : z_fi (z_mi 219) 84 = some (84, .aload_n 0, 0, 0, 0, 0, 0) := rfl
set_option maxRecDepth 8000 in
theorem q219_85 : z_fi (z_mi 219) 85 = some (85, .getfield 44, 0, 10, 25, 0, 0) := rfl
set_option maxRecDepth 8000 in
theorem q219_88 : z_fi (z_mi 219) 88 = some (88, .iconst 2, 0, 0, 0, 2, 0) := rfl
set_option maxRecDepth 8000 in
theorem q219_89 : z_fi (z_mi 219) 89 = some (89, .iload 8, 0, 0, 0, 0, 0) := rfl
set_option maxRecDepth 8000 in
theorem q219_91 : z_fi (z_mi 219) 91 = some (91, .imul, 0, 0, 0, 0, 0) := rfl
set_option maxRecDepth 8000 in
theorem q219_92 : z_fi (z_mi 219) 92 = some (92, .iconst 1, 0, 0, 0, 1, 0) := rfl
set_option maxRecDepth 8000 in
theorem q219_93 : z_fi (z_mi 219) 93 = some (93, .iadd, 0, 0, 0, 0, 0) := rfl
set_option maxRecDepth 8000 in
theorem q219_94 : z_fi (z_mi 219) 94 = some (94, .iaload, 0, 0, 0, 0, 0) := rfl
set_option maxRecDepth 8000 in
theorem q219_95 : z_fi (z_mi 219) 95 = some (95, .iload 4, 0, 0, 0, 0, 0) := rfl
set_option maxRecDepth 8000 in
theorem q219_97 : z_fi (z_mi 219) 97 = some (97, .if_icmp .ne 7, 0, 104, 0, 0, 0) := rfl
set_option maxRecDepth 8000 in
theorem q219_100 : z_fi (z_mi 219) 100 = some (100, .iconst 1, 0, 0, 0, 1, 0) := rfl
set_option maxRecDepth 8000 in
theorem q219_101 : z_fi (z_mi 219) 101 = some (101, .goto 4, 0, 105, 0, 0, 0) := rfl
set_option maxRecDepth 8000 in
theorem q219_104 : z_fi (z_mi 219) 104 = some (104, .iconst 0, 0, 0, 0, 0, 0) := rfl
set_option maxRecDepth 8000 in
theorem q219_105 : z_fi (z_mi 219) 105 = some (105, .istore 6, 0, 0, 0, 0, 0) := rfl
set_option maxRecDepth 8000 in
theorem q219_107 : z_fi (z_mi 219) 107 = some (107, .iinc 8 1, 0, 0, 0, 1, 0) := rfl
set_option maxRecDepth 8000 in
theorem q219_110 : z_fi (z_mi 219) 110 = some (110, .goto (-54), 0, 56, 0, 0, 0) := rfl
set_option maxRecDepth 8000 in
theorem q219_113 : z_fi (z_mi 219) 113 = some (113, .iinc 7 1, 0, 0, 0, 1, 0) := rfl
set_option maxRecDepth 8000 in
theorem q219_116 : z_fi (z_mi 219) 116 = some (116, .goto (-101), 0, 15, 0, 0, 0) := rfl
set_option maxRecDepth 8000 in
theorem q219_119 : z_fi (z_mi 219) 119 = some (119, .iload 6, 0, 0, 0, 0, 0) := rfl
set_option maxRecDepth 8000 in
theorem q219_121 : z_fi (z_mi 219) 121 = some (121, .ireturn, 0, 0, 0, 0, 0) := rfl
set_option maxRecDepth 20000 in
set_option maxHeartbeats 4000000 in
theorem t_M_rowFits {xL : Nat} {xs : Nat → Int32} {ρ : Nat → Nat → Option Nat} (hρ : z_hR ρ) (d : Nat) (a1 : Int32) (a2 : Int32) (a3 : Int32) (σ : zS) : ∀ q, f_M_rowFits a1 a2 a3 σ = some q → z_ec xL xs ρ (d + 1) 219 [.ref 90, .int a1, .int a2, .int a3] σ (em_pi σ q) := by
  refine j_of (W := [.ref 90, .int a1, .int a2, .int a3, .null, .null, .null, .null, .null]) (fun L hL => ?_) ?_
  · subst hL; exact z_vl_0 _ 5 rfl
  · unfold f_M_rowFits
    refine j_iconst (pc' := 1) q219_0 rfl ?_
    refine j_istore4 (pc' := 3) q219_1 rfl (Nat.le_of_ble_eq_true rfl) rfl ?_
    refine j_iload_n (pc' := 4) q219_3 rfl rfl ?_
    refine j_callS1_pi (d := d + 0) (pc' := 7) q219_4 (Or.inl rfl) (Nat.le_of_ble_eq_true rfl) (Nat.le_of_ble_eq_true rfl) rfl (t_M_power hρ (d + 0) _ _) (fun r1 => ?_)
    refine j_istore5 (pc' := 9) q219_7 rfl (Nat.le_of_ble_eq_true rfl) rfl ?_
    refine j_iconst (pc' := 10) q219_9 rfl ?_
    refine j_istore6 (pc' := 12) q219_10 rfl (Nat.le_of_ble_eq_true rfl) rfl ?_
    refine j_iconst (pc' := 13) q219_12 rfl ?_
    refine j_istore7 (pc' := 15) q219_13 rfl (Nat.le_of_ble_eq_true rfl) rfl ?_
    refine j_forget (V' := [.ref 90, .int a1, .int a2, .int a3, .int (0 : Int32), .int r1, .int (1 : Int32), .int (0 : Int32), .null]) (z_le_s (z_le_s (z_le_s (z_le_s (z_le_s (z_le_s (z_le_s (z_le_s (z_le_n (z_le_nil)))))))))) ?_
    refine j_loopX (S := Int32 × Int32 × Int32 × Int32) (E := Int32) (fun e => e) 119 (fun s2 => [.ref 90, .int a1, .int a2, .int a3, .int s2.1, .int s2.2.1, .int s2.2.2.1, .int s2.2.2.2, .null]) (fun s2 => σ) (fun b2 => [.null, .null, .null, .null, .null, .null, .int b2, .null, .null]) (fun b2 => σ) (fun b2 => ?_) (fun R2 hR2 hX2 s2 => ?_) ((0 : Int32), r1, (1 : Int32), (0 : Int32))
    · show z_J _ _ _ _ _ _ _ _ _ _ _ _
      refine j_iload (pc' := 121) q219_119 rfl rfl ?_
      refine j_if (fun hb18 => ?_) (fun _ => j_none)
      exact j_pzret q219_121 rfl hb18
    · show z_J _ _ _ _ _ _ _ _ _ _ _ _
      refine j_iload (pc' := 17) q219_15 rfl rfl ?_
      refine j_iload_n (pc' := 18) q219_17 rfl rfl ?_
      refine j_icmp_ge (pc' := 21) q219_18 rfl (fun c3 => ?_) (fun c3 => ?_)
      · exact j_exit (j_forget (z_le_n (z_le_n (z_le_n (z_le_n (z_le_n (z_le_n (z_le_s (z_le_n (z_le_n (z_le_nil)))))))))) (hX2 s2.2.2.1))
      · refine j_iload (pc' := 23) q219_21 rfl rfl ?_
        refine j_iconst (pc' := 24) q219_23 rfl ?_
        refine j_idiv (pc' := 25) q219_24 (by decide) rfl ?_
        refine j_istore5 (pc' := 27) q219_25 rfl (Nat.le_of_ble_eq_true rfl) rfl ?_
        refine j_iload (pc' := 29) q219_27 rfl rfl ?_
        refine j_iconst (pc' := 30) q219_29 rfl ?_
        refine j_join (T := Int32) 51 (fun t4 => [.ref 90, .int a1, .int a2, .int a3, .null, .int (s2.2.1 / (5 : Int32)), .int s2.2.2.1, .int s2.2.2.2, .null]) (fun t4 => [.int t4]) (fun t4 => σ) (fun t4 => ?_) (fun j4 hj4 => ?_)
        · show z_J _ _ _ _ _ _ _ _ _ _ _ _
          refine j_istore4 (pc' := 53) q219_51 rfl (Nat.le_of_ble_eq_true rfl) rfl ?_
          refine j_iconst (pc' := 54) q219_53 rfl ?_
          refine j_istore8 (pc' := 56) q219_54 rfl (Nat.le_of_ble_eq_true rfl) rfl ?_
          refine j_forget (V' := [.ref 90, .int a1, .int a2, .int a3, .int t4, .int (s2.2.1 / (5 : Int32)), .int s2.2.2.1, .int s2.2.2.2, .int (0 : Int32)]) (z_le_s (z_le_s (z_le_s (z_le_s (z_le_s (z_le_s (z_le_s (z_le_s (z_le_s (z_le_nil)))))))))) ?_
          refine j_loopX (S := Int32 × Int32) (E := Int32) (fun e => e) 113 (fun s5 => [.ref 90, .int a1, .int a2, .int a3, .int t4, .int (s2.2.1 / (5 : Int32)), .int s5.1, .int s2.2.2.2, .int s5.2]) (fun s5 => σ) (fun b5 => [.ref 90, .int a1, .int a2, .int a3, .int t4, .int (s2.2.1 / (5 : Int32)), .int b5, .int s2.2.2.2, .null]) (fun b5 => σ) (fun b5 => ?_) (fun R5 hR5 hX5 s5 => ?_) (s2.2.2.1, (0 : Int32))
          · show z_J _ _ _ _ _ _ _ _ _ _ _ _
            refine j_iinc7 (pc' := 116) q219_113 rfl (Nat.le_of_ble_eq_true rfl) rfl ?_
            refine j_goto q219_116 rfl ?_
            exact j_again (j_forget (z_le_s (z_le_s (z_le_s (z_le_s (z_le_s (z_le_s (z_le_s (z_le_s (z_le_n (z_le_nil)))))))))) (hR2 (t4, (s2.2.1 / (5 : Int32)), b5, (s2.2.2.2 + (1 : Int32)))))
          · show z_J _ _ _ _ _ _ _ _ _ _ _ _
            refine j_iload (pc' := 58) q219_56 rfl rfl ?_
            refine j_aload_n (pc' := 59) q219_58 rfl (by decide) rfl ?_
            refine j_getf (k := 90) (pc' := 62) q219_59 rfl rfl ?_
            refine j_icmp_ge (pc' := 65) q219_62 rfl (fun c6 => ?_) (fun c6 => ?_)
            · exact j_exit (j_forget (z_le_s (z_le_s (z_le_s (z_le_s (z_le_s (z_le_s (z_le_s (z_le_s (z_le_n (z_le_nil)))))))))) (hX5 s5.1))
            · refine j_iload (pc' := 67) q219_65 rfl rfl ?_
              refine j_join (T := Int32) 105 (fun t7 => [.ref 90, .int a1, .int a2, .int a3, .int t4, .int (s2.2.1 / (5 : Int32)), .null, .int s2.2.2.2, .int s5.2]) (fun t7 => [.int t7]) (fun t7 => σ) (fun t7 => ?_) (fun j7 hj7 => ?_)
              · show z_J _ _ _ _ _ _ _ _ _ _ _ _
                refine j_istore6 (pc' := 107) q219_105 rfl (Nat.le_of_ble_eq_true rfl) rfl ?_
                refine j_iinc8 (pc' := 110) q219_107 rfl (Nat.le_of_ble_eq_true rfl) rfl ?_
                refine j_goto q219_110 rfl ?_
                exact j_again (j_forget (z_le_s (z_le_s (z_le_s (z_le_s (z_le_s (z_le_s (z_le_s (z_le_s (z_le_s (z_le_nil)))))))))) (hR5 (t7, (s5.2 + (1 : Int32)))))
              · show z_J _ _ _ _ _ _ _ _ _ _ _ _
                refine j_join (T := Unit) 104 (fun t8 => [.ref 90, .int a1, .int a2, .int a3, .int t4, .int (s2.2.1 / (5 : Int32)), .null, .int s2.2.2.2, .int s5.2]) (fun t8 => []) (fun t8 => σ) (fun t8 => ?_) (fun j8 hj8 => ?_)
                · show z_J _ _ _ _ _ _ _ _ _ _ _ _
                  refine j_iconst (pc' := 105) q219_104 rfl ?_
                  refine j_forget (z_le_s (z_le_s (z_le_s (z_le_s (z_le_s (z_le_s (z_le_n (z_le_s (z_le_s (z_le_nil)))))))))) (hj7 (0 : Int32))
                · show z_J _ _ _ _ _ _ _ _ _ _ _ _
                  refine j_if_eq (pc' := 70) q219_67 rfl (fun c9 => ?_) (fun c9 => ?_)
                  · refine j_forget (z_le_s (z_le_s (z_le_s (z_le_s (z_le_s (z_le_s (z_le_n (z_le_s (z_le_s (z_le_nil)))))))))) (hj8 ())
                  · refine j_aload_n (pc' := 71) q219_70 rfl (by decide) rfl ?_
                    refine j_getr (k := 90) (q := 100) (pc' := 74) q219_71 rfl (hρ 90 25 100 rfl) rfl ?_
                    refine j_iconst (pc' := 75) q219_74 rfl ?_
                    refine j_iload (pc' := 77) q219_75 rfl rfl ?_
                    refine j_imul (pc' := 78) q219_77 rfl ?_
                    refine j_if (fun hi10 => ?_) (fun _ => j_none)
                    refine j_iald (k := 100) (N := 12) (pc' := 79) q219_78 rfl hi10 rfl ?_
                    refine j_iload (pc' := 81) q219_79 rfl rfl ?_
                    refine j_join (T := Unit) 100 (fun t11 => [.ref 90, .int a1, .int a2, .int a3, .int t4, .int (s2.2.1 / (5 : Int32)), .null, .int s2.2.2.2, .int s5.2]) (fun t11 => []) (fun t11 => σ) (fun t11 => ?_) (fun j11 hj11 => ?_)
                    · show z_J _ _ _ _ _ _ _ _ _ _ _ _
                      refine j_iconst (pc' := 101) q219_100 rfl ?_
                      refine j_goto q219_101 rfl ?_
                      refine j_forget (z_le_s (z_le_s (z_le_s (z_le_s (z_le_s (z_le_s (z_le_n (z_le_s (z_le_s (z_le_nil)))))))))) (hj7 (1 : Int32))
                    · show z_J _ _ _ _ _ _ _ _ _ _ _ _
                      refine j_icmp_ne (pc' := 84) q219_81 rfl (fun c12 => ?_) (fun c12 => ?_)
                      · refine j_aload_n (pc' := 85) q219_84 rfl (by decide) rfl ?_
                        refine j_getr (k := 90) (q := 100) (pc' := 88) q219_85 rfl (hρ 90 25 100 rfl) rfl ?_
                        refine j_iconst (pc' := 89) q219_88 rfl ?_
                        refine j_iload (pc' := 91) q219_89 rfl rfl ?_
                        refine j_imul (pc' := 92) q219_91 rfl ?_
                        refine j_iconst (pc' := 93) q219_92 rfl ?_
                        refine j_iadd (pc' := 94) q219_93 rfl ?_
                        refine j_if (fun hi13 => ?_) (fun _ => j_none)
                        refine j_iald (k := 100) (N := 12) (pc' := 95) q219_94 rfl hi13 rfl ?_
                        refine j_iload (pc' := 97) q219_95 rfl rfl ?_
                        refine j_icmp_ne (pc' := 100) q219_97 rfl (fun c14 => ?_) (fun c14 => ?_)
                        · refine j_forget (z_le_s (z_le_s (z_le_s (z_le_s (z_le_s (z_le_s (z_le_n (z_le_s (z_le_s (z_le_nil)))))))))) (hj11 ())
                        · refine j_forget (z_le_s (z_le_s (z_le_s (z_le_s (z_le_s (z_le_s (z_le_n (z_le_s (z_le_s (z_le_nil)))))))))) (hj8 ())
                      · refine j_forget (z_le_s (z_le_s (z_le_s (z_le_s (z_le_s (z_le_s (z_le_n (z_le_s (z_le_s (z_le_nil)))))))))) (hj11 ())
        · show z_J _ _ _ _ _ _ _ _ _ _ _ _
          refine j_icmp_ge (pc' := 33) q219_30 rfl (fun c15 => ?_) (fun c15 => ?_)
          · refine j_iload (pc' := 51) q219_49 rfl rfl ?_
            refine j_forget (z_le_s (z_le_s (z_le_s (z_le_s (z_le_n (z_le_s (z_le_s (z_le_s (z_le_n (z_le_nil)))))))))) (hj4 s2.1)
          · refine j_aload_n (pc' := 34) q219_33 rfl (by decide) rfl ?_
            refine j_iload_n (pc' := 35) q219_34 rfl rfl ?_
            refine j_iload (pc' := 37) q219_35 rfl rfl ?_
            refine j_iload_n (pc' := 38) q219_37 rfl rfl ?_
            refine j_iload (pc' := 40) q219_38 rfl rfl ?_
            refine j_if (fun _ => j_none) (fun hz16 => ?_)
            refine j_idiv (pc' := 41) q219_40 hz16 rfl ?_
            refine j_iconst (pc' := 42) q219_41 rfl ?_
            refine j_irem (pc' := 43) q219_42 (by decide) rfl ?_
            refine j_callV3_pi (d := d + 0) (pc' := 46) q219_43 rfl (Nat.le_of_ble_eq_true rfl) (Nat.le_of_ble_eq_true rfl) rfl (t_M_stageBy hρ (d + 0) _ _ _ _) (fun r17 => ?_)
            refine j_goto q219_46 rfl ?_
            refine j_forget (z_le_s (z_le_s (z_le_s (z_le_s (z_le_n (z_le_s (z_le_s (z_le_s (z_le_n (z_le_nil)))))))))) (hj4 r17)
set_option maxRecDepth 8000 in
theorem q220_0 : z_fi (z_mi 220) 0 = some (0, .iload_n 1, 0, 0, 0, 0, 0) := rfl
set_option maxRecDepth 8000 in
theorem q220_1 : z_fi (z_mi 220) 1 = some (1, .i2l, 0, 0, 0, 0, 0) := rfl
set_option maxRecDepth 8000 in
theorem q220_2 : z_fi (z_mi 220) 2 = some (2, .lconst 0, 0, 0, 0, 0, 0) := rfl
set_option maxRecDepth 8000 in
theorem q220_3 : z_fi (z_mi 220) 3 = some (3, .ldc2_w 169, 0, 0, 0, 0, 4) := rfl
set_option maxRecDepth 8000 in
theorem q220_6 : z_fi (z_mi 220) 6 = some (6, .invokestatic 62, 1, 149, 3, 0, 0) := rfl
set_option maxRecDepth 8000 in
theorem q220_9 : z_fi (z_mi 220) 9 = some (9, .ifCond .eq 25, 0, 34, 0, 0, 0) := rfl
set_option maxRecDepth 8000 in
theorem q220_12 : z_fi (z_mi 220) 12 = some (12, .iload_n 2, 0, 0, 0, 0, 0) := rfl
set_option maxRecDepth 8000 in
theorem q220_13 : z_fi (z_mi 220) 13 = some (13, .i2l, 0, 0, 0, 0, 0) := rfl
set_option maxRecDepth 8000 in
theorem q220_14 : z_fi (z_mi 220) 14 = some (14, .lconst 1, 0, 0, 0, 0, 1) := rfl
set_option maxRecDepth 8000 in
theorem q220_15 : z_fi (z_mi 220) 15 = some (15, .ldc2_w 277, 0, 0, 0, 0, 5) := rfl
set_option maxRecDepth 8000 in
theorem q220_18 : z_fi (z_mi 220) 18 = some (18, .invokestatic 62, 1, 149, 3, 0, 0) := rfl
set_option maxRecDepth 8000 in
theorem q220_21 : z_fi (z_mi 220) 21 = some (21, .ifCond .eq 13, 0, 34, 0, 0, 0) := rfl
set_option maxRecDepth 8000 in
theorem q220_24 : z_fi (z_mi 220) 24 = some (24, .iload_n 3, 0, 0, 0, 0, 0) := rfl
set_option maxRecDepth 8000 in
theorem q220_25 : z_fi (z_mi 220) 25 = some (25, .i2l, 0, 0, 0, 0, 0) := rfl
set_option maxRecDepth 8000 in
theorem q220_26 : z_fi (z_mi 220) 26 = some (26, .lconst 0, 0, 0, 0, 0, 0) := rfl
set_option maxRecDepth 8000 in
theorem q220_27 : z_fi (z_mi 220) 27 = some (27, .lconst 1, 0, 0, 0, 0, 1) := rfl
set_option maxRecDepth 8000 in
theorem q220_28 : z_fi (z_mi 220) 28 = some (28, .invokestatic 62, 1, 149, 3, 0, 0) := rfl
set_option maxRecDepth 8000 in
theorem q220_31 : z_fi (z_mi 220) 31 = some (31, .ifCond .ne 5, 0, 36, 0, 0, 0) := rfl
set_option maxRecDepth 8000 in
theorem q220_34 : z_fi (z_mi 220) 34 = some (34, .iconst (-1), 0, 0, 0, (-1), 0) := rfl
set_option maxRecDepth 8000 in
theorem q220_35 : z_fi (z_mi 220) 35 = some (35, .ireturn, 0, 0, 0, 0, 0) := rfl
set_option maxRecDepth 8000 in
theorem q220_36 : z_fi (z_mi 220) 36 = some (36, .iconst 0, 0, 0, 0, 0, 0) := rfl
set_option maxRecDepth 8000 in
theorem q220_37 : z_fi (z_mi 220) 37 = some (37, .istore 4, 0, 0, 0, 0, 0) := rfl
set_option maxRecDepth 8000 in
theorem q220_39 : z_fi (z_mi 220) 39 = some (39, .bipush (-4), 0, 0, 0, (-4), 0) := rfl
set_option maxRecDepth 8000 in
theorem q220_41 : z_fi (z_mi 220) 41 = some (41, .istore 5, 0, 0, 0, 0, 0) := rfl
set_option maxRecDepth 8000 in
theorem q220_43 : z_fi (z_mi 220) 43 = some (43, .iconst 0, 0, 0, 0, 0, 0) := rfl
set_option maxRecDepth 8000 in
theorem q220_44 : z_fi (z_mi 220) 44 = some (44, .istore 6, 0, 0, 0, 0, 0) := rfl
set_option maxRecDepth 8000 in
theorem q220_46 : z_fi (z_mi 220) 46 = some (46, .iload 6, 0, 0, 0, 0, 0) := rfl
set_option maxRecDepth 8000 in
theorem q220_48 : z_fi (z_mi 220) 48 = some (48, .iload_n 2, 0, 0, 0, 0, 0) := rfl
set_option maxRecDepth 8000 in
theorem q220_49 : z_fi (z_mi 220) 49 = some (49, .invokestatic 274, 1, 218, 1, 0, 0) := rfl
set_option maxRecDepth 8000 in
theorem q220_52 : z_fi (z_mi 220) 52 = some (52, .if_icmp .ge 37, 0, 89, 0, 0, 0) := rfl
set_option maxRecDepth 8000 in
theorem q220_55 : z_fi (z_mi 220) 55 = some (55, .aload_n 0, 0, 0, 0, 0, 0) := rfl
set_option maxRecDepth 8000 in
theorem q220_56 : z_fi (z_mi 220) 56 = some (56, .iload_n 1, 0, 0, 0, 0, 0) := rfl
set_option maxRecDepth 8000 in
theorem q220_57 : z_fi (z_mi 220) 57 = some (57, .iload_n 2, 0, 0, 0, 0, 0) := rfl
set_option maxRecDepth 8000 in
theorem q220_58 : z_fi (z_mi 220) 58 = some (58, .iload 6, 0, 0, 0, 0, 0) := rfl
set_option maxRecDepth 8000 in
theorem q220_60 : z_fi (z_mi 220) 60 = some (60, .invokevirtual 279, 0, 219, 3, 0, 0) := rfl
set_option maxRecDepth 8000 in
theorem q220_63 : z_fi (z_mi 220) 63 = some (63, .ifCond .eq 20, 0, 83, 0, 0, 0) := rfl
set_option maxRecDepth 8000 in
theorem q220_66 : z_fi (z_mi 220) 66 = some (66, .iload 4, 0, 0, 0, 0, 0) := rfl
set_option maxRecDepth 8000 in
theorem q220_68 : z_fi (z_mi 220) 68 = some (68, .ifCond .ne 8, 0, 76, 0, 0, 0) := rfl
set_option maxRecDepth 8000 in
theorem q220_71 : z_fi (z_mi 220) 71 = some (71, .iload 6, 0, 0, 0, 0, 0) := rfl
set_option maxRecDepth 8000 in
theorem q220_73 : z_fi (z_mi 220) 73 = some (73, .goto 5, 0, 78, 0, 0, 0) := rfl
set_option maxRecDepth 8000 in
theorem q220_76 : z_fi (z_mi 220) 76 = some (76, .iload 5, 0, 0, 0, 0, 0) := rfl
set_option maxRecDepth 8000 in
theorem q220_78 : z_fi (z_mi 220) 78 = some (78, .istore 5, 0, 0, 0, 0, 0) := rfl
set_option maxRecDepth 8000 in
theorem q220_80 : z_fi (z_mi 220) 80 = some (80, .iinc 4 1, 0, 0, 0, 1, 0) := rfl
set_option maxRecDepth 8000 in
theorem q220_83 : z_fi (z_mi 220) 83 = some (83, .iinc 6 1, 0, 0, 0, 1, 0) := rfl
set_option maxRecDepth 8000 in
theorem q220_86 : z_fi (z_mi 220) 86 = some (86, .goto (-40), 0, 46, 0, 0, 0) := rfl
set_option maxRecDepth 8000 in
theorem q220_89 : z_fi (z_mi 220) 89 = some (89, .iload_n 3, 0, 0, 0, 0, 0) := rfl
set_option maxRecDepth 8000 in
theorem q220_90 : z_fi (z_mi 220) 90 = some (90, .ifCond .ne 8, 0, 98, 0, 0, 0) := rfl
set_option maxRecDepth 8000 in
theorem q220_93 : z_fi (z_mi 220) 93 = some (93, .iload 4, 0, 0, 0, 0, 0) := rfl
set_option maxRecDepth 8000 in
theorem q220_95 : z_fi (z_mi 220) 95 = some (95, .goto 5, 0, 100, 0, 0, 0) := rfl
set_option maxRecDepth 8000 in
theorem q220_98 : z_fi (z_mi 220) 98 = some (98, .iload 5, 0, 0, 0, 0, 0) := rfl
set_option maxRecDepth 8000 in
theorem q220_100 : z_fi (z_mi 220) 100 = some (100, .ireturn, 0, 0, 0, 0, 0) := rfl
set_option maxRecDepth 20000 in
set_option maxHeartbeats 4000000 in
theorem t_M_rows {xL : Nat} {xs : Nat → Int32} {ρ : Nat → Nat → Option Nat} (hρ : z_hR ρ) (d : Nat) (a1 : Int32) (a2 : Int32) (a3 : Int32) (σ : zS) : ∀ q, f_M_rows a1 a2 a3 σ = some q → z_ec xL xs ρ (d + 2) 220 [.ref 90, .int a1, .int a2, .int a3] σ (em_pi σ q) := by
  refine j_of (W := [.ref 90, .int a1, .int a2, .int a3, .null, .null, .null]) (fun L hL => ?_) ?_
  · subst hL; exact z_vl_0 _ 3 rfl
  · unfold f_M_rows
    refine j_iload_n (pc' := 1) q220_0 rfl rfl ?_
    refine j_i2l (pc' := 2) q220_1 rfl ?_
    refine j_lconst (pc' := 3) q220_2 rfl ?_
    refine j_ldc2 (pc' := 6) q220_3 rfl ?_
    refine j_callS3_pi (d := d + 1) (pc' := 9) q220_6 (Or.inl rfl) (Nat.le_of_ble_eq_true rfl) (Nat.le_of_ble_eq_true rfl) rfl (t_M_in hρ (d + 1) _ _ _ _) (fun r1 => ?_)
    refine j_if_eq (pc' := 12) q220_9 rfl (fun c2 => ?_) (fun c2 => ?_)
    · refine j_iconst (pc' := 35) q220_34 rfl ?_
      exact j_piret q220_35 rfl
    · refine j_iload_n (pc' := 13) q220_12 rfl rfl ?_
      refine j_i2l (pc' := 14) q220_13 rfl ?_
      refine j_lconst (pc' := 15) q220_14 rfl ?_
      refine j_ldc2 (pc' := 18) q220_15 rfl ?_
      refine j_callS3_pi (d := d + 1) (pc' := 21) q220_18 (Or.inl rfl) (Nat.le_of_ble_eq_true rfl) (Nat.le_of_ble_eq_true rfl) rfl (t_M_in hρ (d + 1) _ _ _ _) (fun r3 => ?_)
      refine j_if_eq (pc' := 24) q220_21 rfl (fun c4 => ?_) (fun c4 => ?_)
      · refine j_iconst (pc' := 35) q220_34 rfl ?_
        exact j_piret q220_35 rfl
      · refine j_iload_n (pc' := 25) q220_24 rfl rfl ?_
        refine j_i2l (pc' := 26) q220_25 rfl ?_
        refine j_lconst (pc' := 27) q220_26 rfl ?_
        refine j_lconst (pc' := 28) q220_27 rfl ?_
        refine j_callS3_pi (d := d + 1) (pc' := 31) q220_28 (Or.inl rfl) (Nat.le_of_ble_eq_true rfl) (Nat.le_of_ble_eq_true rfl) rfl (t_M_in hρ (d + 1) _ _ _ _) (fun r5 => ?_)
        refine j_if_ne (pc' := 34) q220_31 rfl (fun c6 => ?_) (fun c6 => ?_)
        · refine j_iconst (pc' := 35) q220_34 rfl ?_
          exact j_piret q220_35 rfl
        · refine j_iconst (pc' := 37) q220_36 rfl ?_
          refine j_istore4 (pc' := 39) q220_37 rfl (Nat.le_of_ble_eq_true rfl) rfl ?_
          refine j_bipush (pc' := 41) q220_39 rfl ?_
          refine j_istore5 (pc' := 43) q220_41 rfl (Nat.le_of_ble_eq_true rfl) rfl ?_
          refine j_iconst (pc' := 44) q220_43 rfl ?_
          refine j_istore6 (pc' := 46) q220_44 rfl (Nat.le_of_ble_eq_true rfl) rfl ?_
          refine j_forget (V' := [.ref 90, .int a1, .int a2, .int a3, .int (0 : Int32), .int (-4 : Int32), .int (0 : Int32)]) (z_le_s (z_le_s (z_le_s (z_le_s (z_le_s (z_le_s (z_le_s (z_le_nil)))))))) ?_
          refine j_loopX (S := Int32 × Int32 × Int32) (E := Int32 × Int32) (fun e => e) 89 (fun s7 => [.ref 90, .int a1, .int a2, .int a3, .int s7.1, .int s7.2.1, .int s7.2.2]) (fun s7 => σ) (fun b7 => [.null, .null, .null, .int a3, .int b7.1, .int b7.2, .null]) (fun b7 => σ) (fun b7 => ?_) (fun R7 hR7 hX7 s7 => ?_) ((0 : Int32), (-4 : Int32), (0 : Int32))
          · show z_J _ _ _ _ _ _ _ _ _ _ _ _
            refine j_iload_n (pc' := 90) q220_89 rfl rfl ?_
            refine j_if_ne (pc' := 93) q220_90 rfl (fun c15 => ?_) (fun c15 => ?_)
            · refine j_iload (pc' := 95) q220_93 rfl rfl ?_
              refine j_goto q220_95 rfl ?_
              exact j_piret q220_100 rfl
            · refine j_iload (pc' := 100) q220_98 rfl rfl ?_
              exact j_piret q220_100 rfl
          · show z_J _ _ _ _ _ _ _ _ _ _ _ _
            refine j_iload (pc' := 48) q220_46 rfl rfl ?_
            refine j_iload_n (pc' := 49) q220_48 rfl rfl ?_
            refine j_callS1_pi (d := d + 1) (pc' := 52) q220_49 (Or.inl rfl) (Nat.le_of_ble_eq_true rfl) (Nat.le_of_ble_eq_true rfl) rfl (t_M_power hρ (d + 1) _ _) (fun r8 => ?_)
            refine j_icmp_ge (pc' := 55) q220_52 rfl (fun c9 => ?_) (fun c9 => ?_)
            · exact j_exit (j_forget (z_le_n (z_le_n (z_le_n (z_le_s (z_le_s (z_le_s (z_le_n (z_le_nil)))))))) (hX7 (s7.1, s7.2.1)))
            · refine j_aload_n (pc' := 56) q220_55 rfl (by decide) rfl ?_
              refine j_iload_n (pc' := 57) q220_56 rfl rfl ?_
              refine j_iload_n (pc' := 58) q220_57 rfl rfl ?_
              refine j_iload (pc' := 60) q220_58 rfl rfl ?_
              refine j_callV3_pi (d := d + 1) (pc' := 63) q220_60 rfl (Nat.le_of_ble_eq_true rfl) (Nat.le_of_ble_eq_true rfl) rfl (t_M_rowFits hρ (d + 0) _ _ _ _) (fun r10 => ?_)
              refine j_join (T := Int32 × Int32) 83 (fun t11 => [.ref 90, .int a1, .int a2, .int a3, .int t11.1, .int t11.2, .int s7.2.2]) (fun t11 => []) (fun t11 => σ) (fun t11 => ?_) (fun j11 hj11 => ?_)
              · show z_J _ _ _ _ _ _ _ _ _ _ _ _
                refine j_iinc6 (pc' := 86) q220_83 rfl (Nat.le_of_ble_eq_true rfl) rfl ?_
                refine j_goto q220_86 rfl ?_
                exact j_again (j_forget (z_le_s (z_le_s (z_le_s (z_le_s (z_le_s (z_le_s (z_le_s (z_le_nil)))))))) (hR7 (t11.1, t11.2, (s7.2.2 + (1 : Int32)))))
              · show z_J _ _ _ _ _ _ _ _ _ _ _ _
                refine j_if_eq (pc' := 66) q220_63 rfl (fun c12 => ?_) (fun c12 => ?_)
                · refine j_forget (z_le_s (z_le_s (z_le_s (z_le_s (z_le_s (z_le_s (z_le_s (z_le_nil)))))))) (hj11 (s7.1, s7.2.1))
                · refine j_iload (pc' := 68) q220_66 rfl rfl ?_
                  refine j_join (T := Int32) 78 (fun t13 => [.ref 90, .int a1, .int a2, .int a3, .int s7.1, .null, .int s7.2.2]) (fun t13 => [.int t13]) (fun t13 => σ) (fun t13 => ?_) (fun j13 hj13 => ?_)
                  · show z_J _ _ _ _ _ _ _ _ _ _ _ _
                    refine j_istore5 (pc' := 80) q220_78 rfl (Nat.le_of_ble_eq_true rfl) rfl ?_
                    refine j_iinc4 (pc' := 83) q220_80 rfl (Nat.le_of_ble_eq_true rfl) rfl ?_
                    refine j_forget (z_le_s (z_le_s (z_le_s (z_le_s (z_le_s (z_le_s (z_le_s (z_le_nil)))))))) (hj11 ((s7.1 + (1 : Int32)), t13))
                  · show z_J _ _ _ _ _ _ _ _ _ _ _ _
                    refine j_if_ne (pc' := 71) q220_68 rfl (fun c14 => ?_) (fun c14 => ?_)
                    · refine j_iload (pc' := 73) q220_71 rfl rfl ?_
                      refine j_goto q220_73 rfl ?_
                      refine j_forget (z_le_s (z_le_s (z_le_s (z_le_s (z_le_s (z_le_n (z_le_s (z_le_nil)))))))) (hj13 s7.2.2)
                    · refine j_iload (pc' := 78) q220_76 rfl rfl ?_
                      refine j_forget (z_le_s (z_le_s (z_le_s (z_le_s (z_le_s (z_le_n (z_le_s (z_le_nil)))))))) (hj13 s7.2.1)
theorem q73_0 : z_fi (z_mi 73) 0 = some (0, .aload_n 0, 0, 0, 0, 0, 0) := rfl
theorem q73_1 : z_fi (z_mi 73) 1 = some (1, .iload_n 1, 0, 0, 0, 0, 0) := rfl
theorem q73_2 : z_fi (z_mi 73) 2 = some (2, .iload_n 2, 0, 0, 0, 0, 0) := rfl
theorem q73_3 : z_fi (z_mi 73) 3 = some (3, .invokevirtual 65, 0, 69, 2, 0, 0) := rfl
theorem q73_6 : z_fi (z_mi 73) 6 = some (6, .istore 4, 0, 0, 0, 0, 0) := rfl
theorem q73_8 : z_fi (z_mi 73) 8 = some (8, .iconst 0, 0, 0, 0, 0, 0) := rfl
theorem q73_9 : z_fi (z_mi 73) 9 = some (9, .istore 5, 0, 0, 0, 0, 0) := rfl
theorem q73_11 : z_fi (z_mi 73) 11 = some (11, .iload 5, 0, 0, 0, 0, 0) := rfl
theorem q73_13 : z_fi (z_mi 73) 13 = some (13, .iconst 4, 0, 0, 0, 4, 0) := rfl
theorem q73_14 : z_fi (z_mi 73) 14 = some (14, .if_icmp .gt 36, 0, 50, 0, 0, 0) := rfl
theorem q73_17 : z_fi (z_mi 73) 17 = some (17, .iload 4, 0, 0, 0, 0, 0) := rfl
theorem q73_19 : z_fi (z_mi 73) 19 = some (19, .ifCond .le 31, 0, 50, 0, 0, 0) := rfl
theorem q73_22 : z_fi (z_mi 73) 22 = some (22, .aload_n 0, 0, 0, 0, 0, 0) := rfl
theorem q73_23 : z_fi (z_mi 73) 23 = some (23, .getfield 20, 0, 5, 3, 0, 0) := rfl
theorem q73_26 : z_fi (z_mi 73) 26 = some (26, .iload_n 3, 0, 0, 0, 0, 0) := rfl
theorem q73_27 : z_fi (z_mi 73) 27 = some (27, .iload 5, 0, 0, 0, 0, 0) := rfl
theorem q73_29 : z_fi (z_mi 73) 29 = some (29, .iastore, 0, 0, 0, 0, 0) := rfl
theorem q73_30 : z_fi (z_mi 73) 30 = some (30, .aload_n 0, 0, 0, 0, 0, 0) := rfl
theorem q73_31 : z_fi (z_mi 73) 31 = some (31, .iload_n 1, 0, 0, 0, 0, 0) := rfl
theorem q73_32 : z_fi (z_mi 73) 32 = some (32, .iload_n 2, 0, 0, 0, 0, 0) := rfl
theorem q73_33 : z_fi (z_mi 73) 33 = some (33, .invokevirtual 39, 0, 70, 2, 0, 0) := rfl
theorem q73_36 : z_fi (z_mi 73) 36 = some (36, .iload 4, 0, 0, 0, 0, 0) := rfl
theorem q73_38 : z_fi (z_mi 73) 38 = some (38, .if_icmp .ne 6, 0, 44, 0, 0, 0) := rfl
theorem q73_41 : z_fi (z_mi 73) 41 = some (41, .iload 5, 0, 0, 0, 0, 0) := rfl
theorem q73_43 : z_fi (z_mi 73) 43 = some (43, .ireturn, 0, 0, 0, 0, 0) := rfl
theorem q73_44 : z_fi (z_mi 73) 44 = some (44, .iinc 5 1, 0, 0, 0, 1, 0) := rfl
theorem q73_47 : z_fi (z_mi 73) 47 = some (47, .goto (-36), 0, 11, 0, 0, 0) := rfl
theorem q73_50 : z_fi (z_mi 73) 50 = some (50, .bipush (-4), 0, 0, 0, (-4), 0) := rfl
theorem q73_52 : z_fi (z_mi 73) 52 = some (52, .ireturn, 0, 0, 0, 0, 0) := rfl
set_option maxRecDepth 20000 in
set_option maxHeartbeats 4000000 in
theorem t_St_onlyOne_44 {xL : Nat} {xs : Nat → Int32} {ρ : Nat → Nat → Option Nat} (hρ : z_hR ρ) (d : Nat) (a1 : Int32) (a2 : Int32) (a3 : Int32) (σ : zS) : ∀ q, f_St_onlyOne_44 a1 a2 a3 σ = some q → z_ec xL xs ρ (d + 6) 73 [.ref 44, .int a1, .int a2, .int a3] σ (em_i q) := by
  refine j_of (W := [.ref 44, .int a1, .int a2, .int a3, .null, .null]) (fun L hL => ?_) ?_
  · subst hL; exact z_vl_0 _ 2 rfl
  · unfold f_St_onlyOne_44
    refine j_aload_n (pc' := 1) q73_0 rfl (by decide) rfl ?_
    refine j_iload_n (pc' := 2) q73_1 rfl rfl ?_
    refine j_iload_n (pc' := 3) q73_2 rfl rfl ?_
    refine j_callV2_i (d := d + 5) (pc' := 6) q73_3 rfl (Nat.le_of_ble_eq_true rfl) (Nat.le_of_ble_eq_true rfl) rfl (t_St_fitting_44 hρ (d + 0) _ _ _) (fun r1 => ?_)
    refine j_istore4 (pc' := 8) q73_6 rfl (Nat.le_of_ble_eq_true rfl) rfl ?_
    refine j_iconst (pc' := 9) q73_8 rfl ?_
    refine j_istore5 (pc' := 11) q73_9 rfl (Nat.le_of_ble_eq_true rfl) rfl ?_
    refine j_forget (V' := [.ref 44, .int a1, .int a2, .int a3, .int r1.1, .int (0 : Int32)]) (z_le_s (z_le_s (z_le_s (z_le_s (z_le_s (z_le_s (z_le_nil))))))) ?_
    refine j_loopX (S := Int32 × zS) (E := zS) Sum.inl 50 (fun s2 => [.ref 44, .int a1, .int a2, .int a3, .int r1.1, .int s2.1]) (fun s2 => s2.2) (fun b2 => [.null, .null, .null, .null, .null, .null]) (fun b2 => b2) (fun b2 => ?_) (fun R2 hR2 hX2 s2 => ?_) ((0 : Int32), r1.2)
    · show z_J _ _ _ _ _ _ _ _ _ _ _ _
      refine j_bipush (pc' := 52) q73_50 rfl ?_
      exact j_iret q73_52 rfl
    · show z_J _ _ _ _ _ _ _ _ _ _ _ _
      refine j_iload (pc' := 13) q73_11 rfl rfl ?_
      refine j_iconst (pc' := 14) q73_13 rfl ?_
      refine j_icmp_gt (pc' := 17) q73_14 rfl (fun c3 => ?_) (fun c3 => ?_)
      · exact j_exit (j_forget (z_le_n (z_le_n (z_le_n (z_le_n (z_le_n (z_le_n (z_le_nil))))))) (hX2 s2.2))
      · refine j_iload (pc' := 19) q73_17 rfl rfl ?_
        refine j_if_le (pc' := 22) q73_19 rfl (fun c4 => ?_) (fun c4 => ?_)
        · exact j_exit (j_forget (z_le_n (z_le_n (z_le_n (z_le_n (z_le_n (z_le_n (z_le_nil))))))) (hX2 s2.2))
        · refine j_aload_n (pc' := 23) q73_22 rfl (by decide) rfl ?_
          refine j_getr (k := 44) (q := 47) (pc' := 26) q73_23 rfl (hρ 44 3 47 rfl) rfl ?_
          refine j_iload_n (pc' := 27) q73_26 rfl rfl ?_
          refine j_iload (pc' := 29) q73_27 rfl rfl ?_
          refine j_if (fun hi5 => ?_) (fun _ => j_none)
          refine j_iast (k := 47) (N := 5) (pc' := 30) q73_29 rfl hi5 rfl ?_
          refine j_nameS (fun τ6 => ?_)
          refine j_aload_n (pc' := 31) q73_30 rfl (by decide) rfl ?_
          refine j_iload_n (pc' := 32) q73_31 rfl rfl ?_
          refine j_iload_n (pc' := 33) q73_32 rfl rfl ?_
          refine j_callV2_i (d := d + 5) (pc' := 36) q73_33 rfl (Nat.le_of_ble_eq_true rfl) (Nat.le_of_ble_eq_true rfl) rfl (t_St_fittingRow_44 hρ (d + 1) _ _ _) (fun r7 => ?_)
          refine j_iload (pc' := 38) q73_36 rfl rfl ?_
          refine j_icmp_ne (pc' := 41) q73_38 rfl (fun c8 => ?_) (fun c8 => ?_)
          · refine j_iload (pc' := 43) q73_41 rfl rfl ?_
            refine j_exit ?_
            exact j_iret q73_43 rfl
          · refine j_iinc5 (pc' := 47) q73_44 rfl (Nat.le_of_ble_eq_true rfl) rfl ?_
            refine j_goto q73_47 rfl ?_
            exact j_again (j_forget (z_le_s (z_le_s (z_le_s (z_le_s (z_le_s (z_le_s (z_le_nil))))))) (hR2 ((s2.1 + (1 : Int32)), r7.2)))
