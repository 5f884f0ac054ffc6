/-! the abstract machine runs as the functions say, by wip/whole/gen_fun.py -/
set_option maxRecDepth 8000 in
theorem q208_0 : z_fi (z_mi 208) 0 = some (0, .iload_n 2, 0, 0, 0, 0, 0) := rfl
set_option maxRecDepth 8000 in
theorem q208_1 : z_fi (z_mi 208) 1 = some (1, .iconst 1, 0, 0, 0, 1, 0) := rfl
set_option maxRecDepth 8000 in
theorem q208_2 : z_fi (z_mi 208) 2 = some (2, .isub, 0, 0, 0, 0, 0) := rfl
set_option maxRecDepth 8000 in
theorem q208_3 : z_fi (z_mi 208) 3 = some (3, .istore_n 3, 0, 0, 0, 0, 0) := rfl
set_option maxRecDepth 8000 in
theorem q208_4 : z_fi (z_mi 208) 4 = some (4, .iload_n 3, 0, 0, 0, 0, 0) := rfl
set_option maxRecDepth 8000 in
theorem q208_5 : z_fi (z_mi 208) 5 = some (5, .ifCond .lt 149, 0, 154, 0, 0, 0) := rfl
set_option maxRecDepth 8000 in
theorem q208_8 : z_fi (z_mi 208) 8 = some (8, .iconst 0, 0, 0, 0, 0, 0) := rfl
set_option maxRecDepth 8000 in
theorem q208_9 : z_fi (z_mi 208) 9 = some (9, .istore 4, 0, 0, 0, 0, 0) := rfl
set_option maxRecDepth 8000 in
theorem q208_11 : z_fi (z_mi 208) 11 = some (11, .iload 4, 0, 0, 0, 0, 0) := rfl
set_option maxRecDepth 8000 in
theorem q208_13 : z_fi (z_mi 208) 13 = some (13, .sipush 150, 0, 0, 0, 150, 0) := rfl
set_option maxRecDepth 8000 in
theorem q208_16 : z_fi (z_mi 208) 16 = some (16, .if_icmp .ge 132, 0, 148, 0, 0, 0) := rfl
set_option maxRecDepth 8000 in
theorem q208_19 : z_fi (z_mi 208) 19 = some (19, .iload 4, 0, 0, 0, 0, 0) := rfl
set_option maxRecDepth 8000 in
theorem q208_21 : z_fi (z_mi 208) 21 = some (21, .bipush 30, 0, 0, 0, 30, 0) := rfl
set_option maxRecDepth 8000 in
theorem q208_23 : z_fi (z_mi 208) 23 = some (23, .irem, 0, 0, 0, 0, 0) := rfl
set_option maxRecDepth 8000 in
theorem q208_24 : z_fi (z_mi 208) 24 = some (24, .iconst 3, 0, 0, 0, 3, 0) := rfl
set_option maxRecDepth 8000 in
theorem q208_25 : z_fi (z_mi 208) 25 = some (25, .idiv, 0, 0, 0, 0, 0) := rfl
set_option maxRecDepth 8000 in
theorem q208_26 : z_fi (z_mi 208) 26 = some (26, .istore 5, 0, 0, 0, 0, 0) := rfl
set_option maxRecDepth 8000 in
theorem q208_28 : z_fi (z_mi 208) 28 = some (28, .iload 4, 0, 0, 0, 0, 0) := rfl
set_option maxRecDepth 8000 in
theorem q208_30 : z_fi (z_mi 208) 30 = some (30, .bipush 30, 0, 0, 0, 30, 0) := rfl
set_option maxRecDepth 8000 in
theorem q208_32 : z_fi (z_mi 208) 32 = some (32, .idiv, 0, 0, 0, 0, 0) := rfl
set_option maxRecDepth 8000 in
theorem q208_33 : z_fi (z_mi 208) 33 = some (33, .istore 6, 0, 0, 0, 0, 0) := rfl
set_option maxRecDepth 8000 in
theorem q208_35 : z_fi (z_mi 208) 35 = some (35, .ldc 236, 0, 0, 0, 100000, 0) := rfl
set_option maxRecDepth 8000 in
theorem q208_37 : z_fi (z_mi 208) 37 = some (37, .istore 7, 0, 0, 0, 0, 0) := rfl
set_option maxRecDepth 8000 in
theorem q208_39 : z_fi (z_mi 208) 39 = some (39, .iconst 0, 0, 0, 0, 0, 0) := rfl
set_option maxRecDepth 8000 in
theorem q208_40 : z_fi (z_mi 208) 40 = some (40, .istore 8, 0, 0, 0, 0, 0) := rfl
set_option maxRecDepth 8000 in
theorem q208_42 : z_fi (z_mi 208) 42 = some (42, .iload 8, 0, 0, 0, 0, 0) := rfl
set_option maxRecDepth 8000 in
theorem q208_44 : z_fi (z_mi 208) 44 = some (44, .bipush 50, 0, 0, 0, 50, 0) := rfl
set_option maxRecDepth 8000 in
theorem q208_46 : z_fi (z_mi 208) 46 = some (46, .if_icmp .ge 81, 0, 127, 0, 0, 0) := rfl
set_option maxRecDepth 8000 in
theorem q208_49 : z_fi (z_mi 208) 49 = some (49, .iload 6, 0, 0, 0, 0, 0) := rfl
set_option maxRecDepth 8000 in
theorem q208_51 : z_fi (z_mi 208) 51 = some (51, .iconst 4, 0, 0, 0, 4, 0) := rfl
set_option maxRecDepth 8000 in
theorem q208_52 : z_fi (z_mi 208) 52 = some (52, .if_icmp .ge 7, 0, 59, 0, 0, 0) := rfl
set_option maxRecDepth 8000 in
theorem q208_55 : z_fi (z_mi 208) 55 = some (55, .iconst 1, 0, 0, 0, 1, 0) := rfl
set_option maxRecDepth 8000 in
theorem q208_56 : z_fi (z_mi 208) 56 = some (56, .goto 4, 0, 60, 0, 0, 0) := rfl
set_option maxRecDepth 8000 in
theorem q208_59 : z_fi (z_mi 208) 59 = some (59, .iconst 0, 0, 0, 0, 0, 0) := rfl
set_option maxRecDepth 8000 in
theorem q208_60 : z_fi (z_mi 208) 60 = some (60, .iload 5, 0, 0, 0, 0, 0) := rfl
set_option maxRecDepth 8000 in
theorem q208_62 : z_fi (z_mi 208) 62 = some (62, .ifCond .le 7, 0, 69, 0, 0, 0) := rfl
set_option maxRecDepth 8000 in
theorem q208_65 : z_fi (z_mi 208) 65 = some (65, .iconst 1, 0, 0, 0, 1, 0) := rfl
set_option maxRecDepth 8000 in
theorem q208_66 : z_fi (z_mi 208) 66 = some (66, .goto 4, 0, 70, 0, 0, 0) := rfl
set_option maxRecDepth 8000 in
theorem q208_69 : z_fi (z_mi 208) 69 = some (69, .iconst 0, 0, 0, 0, 0, 0) := rfl
set_option maxRecDepth 8000 in
theorem q208_70 : z_fi (z_mi 208) 70 = some (70, .if_icmp .ne 57, 0, 127, 0, 0, 0) := rfl
set_option maxRecDepth 8000 in
theorem q208_73 : z_fi (z_mi 208) 73 = some (73, .iload 8, 0, 0, 0, 0, 0) := rfl
set_option maxRecDepth 8000 in
theorem q208_75 : z_fi (z_mi 208) 75 = some (75, .invokestatic 245, 1, 207, 1, 0, 0) := rfl
set_option maxRecDepth 8000 in
theorem q208_78 : z_fi (z_mi 208) 78 = some (78, .ifCond .eq 23, 0, 101, 0, 0, 0) := rfl
set_option maxRecDepth 8000 in
theorem q208_81 : z_fi (z_mi 208) 81 = some (81, .aload_n 0, 0, 0, 0, 0, 0) := rfl
set_option maxRecDepth 8000 in
theorem q208_82 : z_fi (z_mi 208) 82 = some (82, .iload_n 1, 0, 0, 0, 0, 0) := rfl
set_option maxRecDepth 8000 in
theorem q208_83 : z_fi (z_mi 208) 83 = some (83, .iload_n 3, 0, 0, 0, 0, 0) := rfl
set_option maxRecDepth 8000 in
theorem q208_84 : z_fi (z_mi 208) 84 = some (84, .iload_n 2, 0, 0, 0, 0, 0) := rfl
set_option maxRecDepth 8000 in
theorem q208_85 : z_fi (z_mi 208) 85 = some (85, .iload 6, 0, 0, 0, 0, 0) := rfl
set_option maxRecDepth 8000 in
theorem q208_87 : z_fi (z_mi 208) 87 = some (87, .iload 5, 0, 0, 0, 0, 0) := rfl
set_option maxRecDepth 8000 in
theorem q208_89 : z_fi (z_mi 208) 89 = some (89, .iload 4, 0, 0, 0, 0, 0) := rfl
set_option maxRecDepth 8000 in
theorem q208_91 : z_fi (z_mi 208) 91 = some (91, .iconst 3, 0, 0, 0, 3, 0) := rfl
set_option maxRecDepth 8000 in
theorem q208_92 : z_fi (z_mi 208) 92 = some (92, .irem, 0, 0, 0, 0, 0) := rfl
set_option maxRecDepth 8000 in
theorem q208_93 : z_fi (z_mi 208) 93 = some (93, .iload 8, 0, 0, 0, 0, 0) := rfl
set_option maxRecDepth 8000 in
theorem q208_95 : z_fi (z_mi 208) 95 = some (95, .invokevirtual 248, 0, 206, 7, 0, 0) := rfl
set_option maxRecDepth 8000 in
theorem q208_98 : z_fi (z_mi 208) 98 = some (98, .goto 5, 0, 103, 0, 0, 0) := rfl
set_option maxRecDepth 8000 in
theorem q208_101 : z_fi (z_mi 208) 101 = some (101, .ldc 236, 0, 0, 0, 100000, 0) := rfl
set_option maxRecDepth 8000 in
theorem q208_103 : z_fi (z_mi 208) 103 = some (103, .istore 9, 0, 0, 0, 0, 0) := rfl
set_option maxRecDepth 8000 in
theorem q208_105 : z_fi (z_mi 208) 105 = some (105, .iload 9, 0, 0, 0, 0, 0) := rfl
set_option maxRecDepth 8000 in
theorem q208_107 : z_fi (z_mi 208) 107 = some (107, .iload 7, 0, 0, 0, 0, 0) := rfl
set_option maxRecDepth 8000 in
theorem q208_109 : z_fi (z_mi 208) 109 = some (109, .if_icmp .ge 8, 0, 117, 0, 0, 0) := rfl
set_option maxRecDepth 8000 in
theorem q208_112 : z_fi (z_mi 208) 112 = some (112, .iload 9, 0, 0, 0, 0, 0) := rfl
set_option maxRecDepth 8000 in
theorem q208_114 : z_fi (z_mi 208) 114 = some (114, .goto 5, 0, 119, 0, 0, 0) := rfl
set_option maxRecDepth 8000 in
theorem q208_117 : z_fi (z_mi 208) 117 = some (117, .iload 7, 0, 0, 0, 0, 0) := rfl
set_option maxRecDepth 8000 in
theorem q208_119 : z_fi (z_mi 208) 119 = some (119, .istore 7, 0, 0, 0, 0, 0) := rfl
set_option maxRecDepth 8000 in
theorem q208_121 : z_fi (z_mi 208) 121 = some (121, .iinc 8 1, 0, 0, 0, 1, 0) := rfl
set_option maxRecDepth 8000 in
theorem q208_124 : z_fi (z_mi 208) 124 = some (124, .goto (-82), 0, 42, 0, 0, 0) := rfl
set_option maxRecDepth 8000 in
theorem q208_127 : z_fi (z_mi 208) 127 = some (127, .aload_n 0, 0, 0, 0, 0, 0) := rfl
set_option maxRecDepth 8000 in
theorem q208_128 : z_fi (z_mi 208) 128 = some (128, .getfield 41, 0, 10, 24, 0, 0) := rfl
set_option maxRecDepth 8000 in
theorem q208_131 : z_fi (z_mi 208) 131 = some (131, .sipush 150, 0, 0, 0, 150, 0) := rfl
set_option maxRecDepth 8000 in
theorem q208_134 : z_fi (z_mi 208) 134 = some (134, .iload_n 3, 0, 0, 0, 0, 0) := rfl
set_option maxRecDepth 8000 in
theorem q208_135 : z_fi (z_mi 208) 135 = some (135, .imul, 0, 0, 0, 0, 0) := rfl
set_option maxRecDepth 8000 in
theorem q208_136 : z_fi (z_mi 208) 136 = some (136, .iload 4, 0, 0, 0, 0, 0) := rfl
set_option maxRecDepth 8000 in
theorem q208_138 : z_fi (z_mi 208) 138 = some (138, .iadd, 0, 0, 0, 0, 0) := rfl
set_option maxRecDepth 8000 in
theorem q208_139 : z_fi (z_mi 208) 139 = some (139, .iload 7, 0, 0, 0, 0, 0) := rfl
set_option maxRecDepth 8000 in
theorem q208_141 : z_fi (z_mi 208) 141 = some (141, .iastore, 0, 0, 0, 0, 0) := rfl
set_option maxRecDepth 8000 in
theorem q208_142 : z_fi (z_mi 208) 142 = some (142, .iinc 4 1, 0, 0, 0, 1, 0) := rfl
set_option maxRecDepth 8000 in
theorem q208_145 : z_fi (z_mi 208) 145 = some (145, .goto (-134), 0, 11, 0, 0, 0) := rfl
set_option maxRecDepth 8000 in
theorem q208_148 : z_fi (z_mi 208) 148 = some (148, .iinc 3 (-1), 0, 0, 0, (-1), 0) := rfl
set_option maxRecDepth 8000 in
theorem q208_151 : z_fi (z_mi 208) 151 = some (151, .goto (-147), 0, 4, 0, 0, 0) := rfl
set_option maxRecDepth 8000 in
theorem q208_154 : z_fi (z_mi 208) 154 = some (154, .return_, 0, 0, 0, 0, 0) := rfl
set_option maxRecDepth 20000 in
set_option maxHeartbeats 4000000 in
theorem t_M_layCosts {xL : Nat} {xs : Nat → Int32} {ρ : Nat → Nat → Option Nat} (hρ : z_hR ρ) (d : Nat) (a1 : Int32) (a2 : Int32) (σ : zS) : ∀ q, f_M_layCosts a1 a2 σ = some q → z_ec xL xs ρ (d + 2) 208 [.ref 90, .int a1, .int a2] σ (em_v q) := by
  refine j_of (W := [.ref 90, .int a1, .int a2, .null, .null, .null, .null, .null, .null, .null]) (fun L hL => ?_) ?_
  · subst hL; exact z_vl_0 _ 7 rfl
  · unfold f_M_layCosts
    refine j_iload_n (pc' := 1) q208_0 rfl rfl ?_
    refine j_iconst (pc' := 2) q208_1 rfl ?_
    refine j_isub (pc' := 3) q208_2 rfl ?_
    refine j_istore3 (pc' := 4) q208_3 rfl (Nat.le_of_ble_eq_true rfl) rfl ?_
    refine j_forget (V' := [.ref 90, .int a1, .int a2, .int (a2 - (1 : Int32)), .null, .null, .null, .null, .null, .null]) (z_le_s (z_le_s (z_le_s (z_le_s (z_le_n (z_le_n (z_le_n (z_le_n (z_le_n (z_le_n (z_le_nil))))))))))) ?_
    refine j_loopX (S := Int32 × zS) (E := zS) (fun e => e) 154 (fun s1 => [.ref 90, .int a1, .int a2, .int s1.1, .null, .null, .null, .null, .null, .null]) (fun s1 => s1.2) (fun b1 => [.null, .null, .null, .null, .null, .null, .null, .null, .null, .null]) (fun b1 => b1) (fun b1 => ?_) (fun R1 hR1 hX1 s1 => ?_) ((a2 - (1 : Int32)), σ)
    · show z_J _ _ _ _ _ _ _ _ _ _ _ _
      exact j_vret q208_154 rfl
    · show z_J _ _ _ _ _ _ _ _ _ _ _ _
      refine j_iload_n (pc' := 5) q208_4 rfl rfl ?_
      refine j_if_lt (pc' := 8) q208_5 rfl (fun c2 => ?_) (fun c2 => ?_)
      · exact j_exit (j_forget (z_le_n (z_le_n (z_le_n (z_le_n (z_le_n (z_le_n (z_le_n (z_le_n (z_le_n (z_le_n (z_le_nil))))))))))) (hX1 s1.2))
      · refine j_iconst (pc' := 9) q208_8 rfl ?_
        refine j_istore4 (pc' := 11) q208_9 rfl (Nat.le_of_ble_eq_true rfl) rfl ?_
        refine j_forget (V' := [.ref 90, .int a1, .int a2, .int s1.1, .int (0 : Int32), .null, .null, .null, .null, .null]) (z_le_s (z_le_s (z_le_s (z_le_s (z_le_s (z_le_n (z_le_n (z_le_n (z_le_n (z_le_n (z_le_nil))))))))))) ?_
        refine j_loopX (S := Int32 × zS) (E := zS) (fun e => e) 148 (fun s3 => [.ref 90, .int a1, .int a2, .int s1.1, .int s3.1, .null, .null, .null, .null, .null]) (fun s3 => s3.2) (fun b3 => [.ref 90, .int a1, .int a2, .int s1.1, .null, .null, .null, .null, .null, .null]) (fun b3 => b3) (fun b3 => ?_) (fun R3 hR3 hX3 s3 => ?_) ((0 : Int32), s1.2)
        · show z_J _ _ _ _ _ _ _ _ _ _ _ _
          refine j_iinc3 (pc' := 151) q208_148 rfl (Nat.le_of_ble_eq_true rfl) rfl ?_
          refine j_goto q208_151 rfl ?_
          exact j_again (j_forget (z_le_s (z_le_s (z_le_s (z_le_s (z_le_n (z_le_n (z_le_n (z_le_n (z_le_n (z_le_n (z_le_nil))))))))))) (hR1 ((s1.1 + (-1 : Int32)), b3)))
        · show z_J _ _ _ _ _ _ _ _ _ _ _ _
          refine j_iload (pc' := 13) q208_11 rfl rfl ?_
          refine j_sipush (pc' := 16) q208_13 rfl ?_
          refine j_icmp_ge (pc' := 19) q208_16 rfl (fun c4 => ?_) (fun c4 => ?_)
          · exact j_exit (j_forget (z_le_s (z_le_s (z_le_s (z_le_s (z_le_n (z_le_n (z_le_n (z_le_n (z_le_n (z_le_n (z_le_nil))))))))))) (hX3 s3.2))
          · refine j_iload (pc' := 21) q208_19 rfl rfl ?_
            refine j_bipush (pc' := 23) q208_21 rfl ?_
            refine j_irem (pc' := 24) q208_23 (by decide) rfl ?_
            refine j_iconst (pc' := 25) q208_24 rfl ?_
            refine j_idiv (pc' := 26) q208_25 (by decide) rfl ?_
            refine j_nameI (fun v5 => ?_)
            refine j_istore5 (pc' := 28) q208_26 rfl (Nat.le_of_ble_eq_true rfl) rfl ?_
            refine j_iload (pc' := 30) q208_28 rfl rfl ?_
            refine j_bipush (pc' := 32) q208_30 rfl ?_
            refine j_idiv (pc' := 33) q208_32 (by decide) rfl ?_
            refine j_istore6 (pc' := 35) q208_33 rfl (Nat.le_of_ble_eq_true rfl) rfl ?_
            refine j_ldcI (pc' := 37) q208_35 rfl rfl ?_
            refine j_istore7 (pc' := 39) q208_37 rfl (Nat.le_of_ble_eq_true rfl) rfl ?_
            refine j_iconst (pc' := 40) q208_39 rfl ?_
            refine j_istore8 (pc' := 42) q208_40 rfl (Nat.le_of_ble_eq_true rfl) rfl ?_
            refine j_forget (V' := [.ref 90, .int a1, .int a2, .int s1.1, .int s3.1, .int v5, .int (s3.1 / (30 : Int32)), .int (100000 : Int32), .int (0 : Int32), .null]) (z_le_s (z_le_s (z_le_s (z_le_s (z_le_s (z_le_s (z_le_s (z_le_s (z_le_s (z_le_n (z_le_nil))))))))))) ?_
            refine j_loopX (S := Int32 × Int32) (E := Int32) (fun e => e) 127 (fun s6 => [.ref 90, .int a1, .int a2, .int s1.1, .int s3.1, .int v5, .int (s3.1 / (30 : Int32)), .int s6.1, .int s6.2, .null]) (fun s6 => s3.2) (fun b6 => [.ref 90, .int a1, .int a2, .int s1.1, .int s3.1, .null, .null, .int b6, .null, .null]) (fun b6 => s3.2) (fun b6 => ?_) (fun R6 hR6 hX6 s6 => ?_) ((100000 : Int32), (0 : Int32))
            · show z_J _ _ _ _ _ _ _ _ _ _ _ _
              refine j_aload_n (pc' := 128) q208_127 rfl (by decide) rfl ?_
              refine j_getr (k := 90) (q := 99) (pc' := 131) q208_128 rfl (hρ 90 24 99 rfl) rfl ?_
              refine j_sipush (pc' := 134) q208_131 rfl ?_
              refine j_iload_n (pc' := 135) q208_134 rfl rfl ?_
              refine j_imul (pc' := 136) q208_135 rfl ?_
              refine j_iload (pc' := 138) q208_136 rfl rfl ?_
              refine j_iadd (pc' := 139) q208_138 rfl ?_
              refine j_iload (pc' := 141) q208_139 rfl rfl ?_
              refine j_if (fun hi19 => ?_) (fun _ => j_none)
              refine j_iast (k := 99) (N := 1050) (pc' := 142) q208_141 rfl hi19 rfl ?_
              refine j_nameS (fun τ20 => ?_)
              refine j_iinc4 (pc' := 145) q208_142 rfl (Nat.le_of_ble_eq_true rfl) rfl ?_
              refine j_goto q208_145 rfl ?_
              exact j_again (j_forget (z_le_s (z_le_s (z_le_s (z_le_s (z_le_s (z_le_n (z_le_n (z_le_n (z_le_n (z_le_n (z_le_nil))))))))))) (hR3 ((s3.1 + (1 : Int32)), τ20)))
            · show z_J _ _ _ _ _ _ _ _ _ _ _ _
              refine j_iload (pc' := 44) q208_42 rfl rfl ?_
              refine j_bipush (pc' := 46) q208_44 rfl ?_
              refine j_icmp_ge (pc' := 49) q208_46 rfl (fun c7 => ?_) (fun c7 => ?_)
              · exact j_exit (j_forget (z_le_s (z_le_s (z_le_s (z_le_s (z_le_s (z_le_n (z_le_n (z_le_s (z_le_n (z_le_n (z_le_nil))))))))))) (hX6 s6.1))
              · refine j_iload (pc' := 51) q208_49 rfl rfl ?_
                refine j_iconst (pc' := 52) q208_51 rfl ?_
                refine j_join (T := Int32) 60 (fun t8 => [.ref 90, .int a1, .int a2, .int s1.1, .int s3.1, .int v5, .int (s3.1 / (30 : Int32)), .int s6.1, .int s6.2, .null]) (fun t8 => [.int t8]) (fun t8 => s3.2) (fun t8 => ?_) (fun j8 hj8 => ?_)
                · show z_J _ _ _ _ _ _ _ _ _ _ _ _
                  refine j_iload (pc' := 62) q208_60 rfl rfl ?_
                  refine j_join (T := Int32 × Int32) 70 (fun t9 => [.ref 90, .int a1, .int a2, .int s1.1, .int s3.1, .int v5, .int (s3.1 / (30 : Int32)), .int s6.1, .int s6.2, .null]) (fun t9 => [.int t9.1, .int t9.2]) (fun t9 => s3.2) (fun t9 => ?_) (fun j9 hj9 => ?_)
                  · show z_J _ _ _ _ _ _ _ _ _ _ _ _
                    refine j_icmp_ne (pc' := 73) q208_70 rfl (fun c10 => ?_) (fun c10 => ?_)
                    · refine j_iload (pc' := 75) q208_73 rfl rfl ?_
                      refine j_callS1_pi (d := d + 1) (pc' := 78) q208_75 (Or.inl rfl) (Nat.le_of_ble_eq_true rfl) (Nat.le_of_ble_eq_true rfl) rfl (t_M_isChoice hρ (d + 0) _ _) (fun r11 => ?_)
                      refine j_join (T := Int32) 103 (fun t12 => [.ref 90, .int a1, .int a2, .int s1.1, .int s3.1, .int v5, .int (s3.1 / (30 : Int32)), .int s6.1, .int s6.2, .null]) (fun t12 => [.int t12]) (fun t12 => s3.2) (fun t12 => ?_) (fun j12 hj12 => ?_)
                      · show z_J _ _ _ _ _ _ _ _ _ _ _ _
                        refine j_istore9 (pc' := 105) q208_103 rfl (Nat.le_of_ble_eq_true rfl) rfl ?_
                        refine j_iload (pc' := 107) q208_105 rfl rfl ?_
                        refine j_iload (pc' := 109) q208_107 rfl rfl ?_
                        refine j_join (T := Int32) 119 (fun t13 => [.ref 90, .int a1, .int a2, .int s1.1, .int s3.1, .int v5, .int (s3.1 / (30 : Int32)), .null, .int s6.2, .null]) (fun t13 => [.int t13]) (fun t13 => s3.2) (fun t13 => ?_) (fun j13 hj13 => ?_)
                        · show z_J _ _ _ _ _ _ _ _ _ _ _ _
                          refine j_istore7 (pc' := 121) q208_119 rfl (Nat.le_of_ble_eq_true rfl) rfl ?_
                          refine j_iinc8 (pc' := 124) q208_121 rfl (Nat.le_of_ble_eq_true rfl) rfl ?_
                          refine j_goto q208_124 rfl ?_
                          exact j_again (j_forget (z_le_s (z_le_s (z_le_s (z_le_s (z_le_s (z_le_s (z_le_s (z_le_s (z_le_s (z_le_n (z_le_nil))))))))))) (hR6 (t13, (s6.2 + (1 : Int32)))))
                        · show z_J _ _ _ _ _ _ _ _ _ _ _ _
                          refine j_icmp_ge (pc' := 112) q208_109 rfl (fun c14 => ?_) (fun c14 => ?_)
                          · refine j_iload (pc' := 119) q208_117 rfl rfl ?_
                            refine j_forget (z_le_s (z_le_s (z_le_s (z_le_s (z_le_s (z_le_s (z_le_s (z_le_n (z_le_s (z_le_n (z_le_nil))))))))))) (hj13 s6.1)
                          · refine j_iload (pc' := 114) q208_112 rfl rfl ?_
                            refine j_goto q208_114 rfl ?_
                            refine j_forget (z_le_s (z_le_s (z_le_s (z_le_s (z_le_s (z_le_s (z_le_s (z_le_n (z_le_s (z_le_n (z_le_nil))))))))))) (hj13 t12)
                      · show z_J _ _ _ _ _ _ _ _ _ _ _ _
                        refine j_if_eq (pc' := 81) q208_78 rfl (fun c15 => ?_) (fun c15 => ?_)
                        · refine j_ldcI (pc' := 103) q208_101 rfl rfl ?_
                          refine j_forget (z_le_s (z_le_s (z_le_s (z_le_s (z_le_s (z_le_s (z_le_s (z_le_s (z_le_s (z_le_n (z_le_nil))))))))))) (hj12 (100000 : Int32))
                        · refine j_aload_n (pc' := 82) q208_81 rfl (by decide) rfl ?_
                          refine j_iload_n (pc' := 83) q208_82 rfl rfl ?_
                          refine j_iload_n (pc' := 84) q208_83 rfl rfl ?_
                          refine j_iload_n (pc' := 85) q208_84 rfl rfl ?_
                          refine j_iload (pc' := 87) q208_85 rfl rfl ?_
                          refine j_iload (pc' := 89) q208_87 rfl rfl ?_
                          refine j_iload (pc' := 91) q208_89 rfl rfl ?_
                          refine j_iconst (pc' := 92) q208_91 rfl ?_
                          refine j_irem (pc' := 93) q208_92 (by decide) rfl ?_
                          refine j_iload (pc' := 95) q208_93 rfl rfl ?_
                          refine j_callV7_pi (d := d + 1) (pc' := 98) q208_95 rfl (Nat.le_of_ble_eq_true rfl) (Nat.le_of_ble_eq_true rfl) rfl (t_M_costBy hρ (d + 0) _ _ _ _ _ _ _ _) (fun r16 => ?_)
                          refine j_goto q208_98 rfl ?_
                          refine j_forget (z_le_s (z_le_s (z_le_s (z_le_s (z_le_s (z_le_s (z_le_s (z_le_s (z_le_s (z_le_n (z_le_nil))))))))))) (hj12 r16)
                    · exact j_exit (j_forget (z_le_s (z_le_s (z_le_s (z_le_s (z_le_s (z_le_n (z_le_n (z_le_s (z_le_n (z_le_n (z_le_nil))))))))))) (hX6 s6.1))
                  · show z_J _ _ _ _ _ _ _ _ _ _ _ _
                    refine j_if_le (pc' := 65) q208_62 rfl (fun c17 => ?_) (fun c17 => ?_)
                    · refine j_iconst (pc' := 70) q208_69 rfl ?_
                      refine j_forget (z_le_s (z_le_s (z_le_s (z_le_s (z_le_s (z_le_s (z_le_s (z_le_s (z_le_s (z_le_n (z_le_nil))))))))))) (hj9 ((0 : Int32), t8))
                    · refine j_iconst (pc' := 66) q208_65 rfl ?_
                      refine j_goto q208_66 rfl ?_
                      refine j_forget (z_le_s (z_le_s (z_le_s (z_le_s (z_le_s (z_le_s (z_le_s (z_le_s (z_le_s (z_le_n (z_le_nil))))))))))) (hj9 ((1 : Int32), t8))
                · show z_J _ _ _ _ _ _ _ _ _ _ _ _
                  refine j_icmp_ge (pc' := 55) q208_52 rfl (fun c18 => ?_) (fun c18 => ?_)
                  · refine j_iconst (pc' := 60) q208_59 rfl ?_
                    refine j_forget (z_le_s (z_le_s (z_le_s (z_le_s (z_le_s (z_le_s (z_le_s (z_le_s (z_le_s (z_le_n (z_le_nil))))))))))) (hj8 (0 : Int32))
                  · refine j_iconst (pc' := 56) q208_55 rfl ?_
                    refine j_goto q208_56 rfl ?_
                    refine j_forget (z_le_s (z_le_s (z_le_s (z_le_s (z_le_s (z_le_s (z_le_s (z_le_s (z_le_s (z_le_n (z_le_nil))))))))))) (hj8 (1 : Int32))
set_option maxRecDepth 8000 in
theorem q209_0 : z_fi (z_mi 209) 0 = some (0, .aload_n 0, 0, 0, 0, 0, 0) := rfl
set_option maxRecDepth 8000 in
theorem q209_1 : z_fi (z_mi 209) 1 = some (1, .iload_n 1, 0, 0, 0, 0, 0) := rfl
set_option maxRecDepth 8000 in
theorem q209_2 : z_fi (z_mi 209) 2 = some (2, .invokevirtual 165, 0, 164, 1, 0, 0) := rfl
set_option maxRecDepth 8000 in
theorem q209_5 : z_fi (z_mi 209) 5 = some (5, .ifCond .eq 35, 0, 40, 0, 0, 0) := rfl
set_option maxRecDepth 8000 in
theorem q209_8 : z_fi (z_mi 209) 8 = some (8, .iload_n 2, 0, 0, 0, 0, 0) := rfl
set_option maxRecDepth 8000 in
theorem q209_9 : z_fi (z_mi 209) 9 = some (9, .i2l, 0, 0, 0, 0, 0) := rfl
set_option maxRecDepth 8000 in
theorem q209_10 : z_fi (z_mi 209) 10 = some (10, .lconst 1, 0, 0, 0, 0, 1) := rfl
set_option maxRecDepth 8000 in
theorem q209_11 : z_fi (z_mi 209) 11 = some (11, .ldc2_w 252, 0, 0, 0, 0, 6) := rfl
set_option maxRecDepth 8000 in
theorem q209_14 : z_fi (z_mi 209) 14 = some (14, .invokestatic 62, 1, 149, 3, 0, 0) := rfl
set_option maxRecDepth 8000 in
theorem q209_17 : z_fi (z_mi 209) 17 = some (17, .ifCond .eq 23, 0, 40, 0, 0, 0) := rfl
set_option maxRecDepth 8000 in
theorem q209_20 : z_fi (z_mi 209) 20 = some (20, .iload_n 3, 0, 0, 0, 0, 0) := rfl
set_option maxRecDepth 8000 in
theorem q209_21 : z_fi (z_mi 209) 21 = some (21, .ifCond .eq 21, 0, 42, 0, 0, 0) := rfl
set_option maxRecDepth 8000 in
theorem q209_24 : z_fi (z_mi 209) 24 = some (24, .iload_n 3, 0, 0, 0, 0, 0) := rfl
set_option maxRecDepth 8000 in
theorem q209_25 : z_fi (z_mi 209) 25 = some (25, .i2l, 0, 0, 0, 0, 0) := rfl
set_option maxRecDepth 8000 in
theorem q209_26 : z_fi (z_mi 209) 26 = some (26, .ldc2_w 254, 0, 0, 0, 0, 10) := rfl
set_option maxRecDepth 8000 in
theorem q209_29 : z_fi (z_mi 209) 29 = some (29, .bipush 9, 0, 0, 0, 9, 0) := rfl
set_option maxRecDepth 8000 in
theorem q209_31 : z_fi (z_mi 209) 31 = some (31, .iload_n 2, 0, 0, 0, 0, 0) := rfl
set_option maxRecDepth 8000 in
theorem q209_32 : z_fi (z_mi 209) 32 = some (32, .iadd, 0, 0, 0, 0, 0) := rfl
set_option maxRecDepth 8000 in
theorem q209_33 : z_fi (z_mi 209) 33 = some (33, .i2l, 0, 0, 0, 0, 0) := rfl
set_option maxRecDepth 8000 in
theorem q209_34 : z_fi (z_mi 209) 34 = some (34, .invokestatic 62, 1, 149, 3, 0, 0) := rfl
set_option maxRecDepth 8000 in
theorem q209_37 : z_fi (z_mi 209) 37 = some (37, .ifCond .ne 5, 0, 42, 0, 0, 0) := rfl
set_option maxRecDepth 8000 in
theorem q209_40 : z_fi (z_mi 209) 40 = some (40, .iconst (-1), 0, 0, 0, (-1), 0) := rfl
set_option maxRecDepth 8000 in
theorem q209_41 : z_fi (z_mi 209) 41 = some (41, .ireturn, 0, 0, 0, 0, 0) := rfl
set_option maxRecDepth 8000 in
theorem q209_42 : z_fi (z_mi 209) 42 = some (42, .aload_n 0, 0, 0, 0, 0, 0) := rfl
set_option maxRecDepth 8000 in
theorem q209_43 : z_fi (z_mi 209) 43 = some (43, .iconst 0, 0, 0, 0, 0, 0) := rfl
set_option maxRecDepth 8000 in
theorem q209_44 : z_fi (z_mi 209) 44 = some (44, .iload_n 1, 0, 0, 0, 0, 0) := rfl
set_option maxRecDepth 8000 in
theorem q209_45 : z_fi (z_mi 209) 45 = some (45, .invokevirtual 162, 0, 170, 2, 0, 0) := rfl
set_option maxRecDepth 8000 in
theorem q209_48 : z_fi (z_mi 209) 48 = some (48, .istore 4, 0, 0, 0, 0, 0) := rfl
set_option maxRecDepth 8000 in
theorem q209_50 : z_fi (z_mi 209) 50 = some (50, .iload 4, 0, 0, 0, 0, 0) := rfl
set_option maxRecDepth 8000 in
theorem q209_52 : z_fi (z_mi 209) 52 = some (52, .bipush (-4), 0, 0, 0, (-4), 0) := rfl
set_option maxRecDepth 8000 in
theorem q209_54 : z_fi (z_mi 209) 54 = some (54, .if_icmp .ne 6, 0, 60, 0, 0, 0) := rfl
set_option maxRecDepth 8000 in
theorem q209_57 : z_fi (z_mi 209) 57 = some (57, .bipush (-2), 0, 0, 0, (-2), 0) := rfl
set_option maxRecDepth 8000 in
theorem q209_59 : z_fi (z_mi 209) 59 = some (59, .ireturn, 0, 0, 0, 0, 0) := rfl
set_option maxRecDepth 8000 in
theorem q209_60 : z_fi (z_mi 209) 60 = some (60, .aload_n 0, 0, 0, 0, 0, 0) := rfl
set_option maxRecDepth 8000 in
theorem q209_61 : z_fi (z_mi 209) 61 = some (61, .iload 4, 0, 0, 0, 0, 0) := rfl
set_option maxRecDepth 8000 in
theorem q209_63 : z_fi (z_mi 209) 63 = some (63, .iload_n 2, 0, 0, 0, 0, 0) := rfl
set_option maxRecDepth 8000 in
theorem q209_64 : z_fi (z_mi 209) 64 = some (64, .invokevirtual 256, 0, 208, 2, 0, 0) := rfl
set_option maxRecDepth 8000 in
theorem q209_67 : z_fi (z_mi 209) 67 = some (67, .aload_n 0, 0, 0, 0, 0, 0) := rfl
set_option maxRecDepth 8000 in
theorem q209_68 : z_fi (z_mi 209) 68 = some (68, .getfield 7, 0, 10, 0, 0, 0) := rfl
set_option maxRecDepth 8000 in
theorem q209_71 : z_fi (z_mi 209) 71 = some (71, .iconst 5, 0, 0, 0, 5, 0) := rfl
set_option maxRecDepth 8000 in
theorem q209_72 : z_fi (z_mi 209) 72 = some (72, .iload_n 1, 0, 0, 0, 0, 0) := rfl
set_option maxRecDepth 8000 in
theorem q209_73 : z_fi (z_mi 209) 73 = some (73, .imul, 0, 0, 0, 0, 0) := rfl
set_option maxRecDepth 8000 in
theorem q209_74 : z_fi (z_mi 209) 74 = some (74, .iaload, 0, 0, 0, 0, 0) := rfl
set_option maxRecDepth 8000 in
theorem q209_75 : z_fi (z_mi 209) 75 = some (75, .istore 5, 0, 0, 0, 0, 0) := rfl
set_option maxRecDepth 8000 in
theorem q209_77 : z_fi (z_mi 209) 77 = some (77, .aload_n 0, 0, 0, 0, 0, 0) := rfl
set_option maxRecDepth 8000 in
theorem q209_78 : z_fi (z_mi 209) 78 = some (78, .getfield 7, 0, 10, 0, 0, 0) := rfl
set_option maxRecDepth 8000 in
theorem q209_81 : z_fi (z_mi 209) 81 = some (81, .iconst 5, 0, 0, 0, 5, 0) := rfl
set_option maxRecDepth 8000 in
theorem q209_82 : z_fi (z_mi 209) 82 = some (82, .iload_n 1, 0, 0, 0, 0, 0) := rfl
set_option maxRecDepth 8000 in
theorem q209_83 : z_fi (z_mi 209) 83 = some (83, .imul, 0, 0, 0, 0, 0) := rfl
set_option maxRecDepth 8000 in
theorem q209_84 : z_fi (z_mi 209) 84 = some (84, .iconst 1, 0, 0, 0, 1, 0) := rfl
set_option maxRecDepth 8000 in
theorem q209_85 : z_fi (z_mi 209) 85 = some (85, .iadd, 0, 0, 0, 0, 0) := rfl
set_option maxRecDepth 8000 in
theorem q209_86 : z_fi (z_mi 209) 86 = some (86, .iaload, 0, 0, 0, 0, 0) := rfl
set_option maxRecDepth 8000 in
theorem q209_87 : z_fi (z_mi 209) 87 = some (87, .istore 6, 0, 0, 0, 0, 0) := rfl
set_option maxRecDepth 8000 in
theorem q209_89 : z_fi (z_mi 209) 89 = some (89, .aload_n 0, 0, 0, 0, 0, 0) := rfl
set_option maxRecDepth 8000 in
theorem q209_90 : z_fi (z_mi 209) 90 = some (90, .getfield 7, 0, 10, 0, 0, 0) := rfl
set_option maxRecDepth 8000 in
theorem q209_93 : z_fi (z_mi 209) 93 = some (93, .iconst 5, 0, 0, 0, 5, 0) := rfl
set_option maxRecDepth 8000 in
theorem q209_94 : z_fi (z_mi 209) 94 = some (94, .iload_n 1, 0, 0, 0, 0, 0) := rfl
set_option maxRecDepth 8000 in
theorem q209_95 : z_fi (z_mi 209) 95 = some (95, .imul, 0, 0, 0, 0, 0) := rfl
set_option maxRecDepth 8000 in
theorem q209_96 : z_fi (z_mi 209) 96 = some (96, .iconst 3, 0, 0, 0, 3, 0) := rfl
set_option maxRecDepth 8000 in
theorem q209_97 : z_fi (z_mi 209) 97 = some (97, .iadd, 0, 0, 0, 0, 0) := rfl
set_option maxRecDepth 8000 in
theorem q209_98 : z_fi (z_mi 209) 98 = some (98, .iaload, 0, 0, 0, 0, 0) := rfl
set_option maxRecDepth 8000 in
theorem q209_99 : z_fi (z_mi 209) 99 = some (99, .istore 7, 0, 0, 0, 0, 0) := rfl
set_option maxRecDepth 8000 in
theorem q209_101 : z_fi (z_mi 209) 101 = some (101, .aload_n 0, 0, 0, 0, 0, 0) := rfl
set_option maxRecDepth 8000 in
theorem q209_102 : z_fi (z_mi 209) 102 = some (102, .getfield 41, 0, 10, 24, 0, 0) := rfl
set_option maxRecDepth 8000 in
theorem q209_105 : z_fi (z_mi 209) 105 = some (105, .iconst 0, 0, 0, 0, 0, 0) := rfl
set_option maxRecDepth 8000 in
theorem q209_106 : z_fi (z_mi 209) 106 = some (106, .iload 5, 0, 0, 0, 0, 0) := rfl
set_option maxRecDepth 8000 in
theorem q209_108 : z_fi (z_mi 209) 108 = some (108, .iload 6, 0, 0, 0, 0, 0) := rfl
set_option maxRecDepth 8000 in
theorem q209_110 : z_fi (z_mi 209) 110 = some (110, .iload 7, 0, 0, 0, 0, 0) := rfl
set_option maxRecDepth 8000 in
theorem q209_112 : z_fi (z_mi 209) 112 = some (112, .invokestatic 237, 1, 205, 4, 0, 0) := rfl
set_option maxRecDepth 8000 in
theorem q209_115 : z_fi (z_mi 209) 115 = some (115, .iaload, 0, 0, 0, 0, 0) := rfl
set_option maxRecDepth 8000 in
theorem q209_116 : z_fi (z_mi 209) 116 = some (116, .istore 8, 0, 0, 0, 0, 0) := rfl
set_option maxRecDepth 8000 in
theorem q209_118 : z_fi (z_mi 209) 118 = some (118, .iload 8, 0, 0, 0, 0, 0) := rfl
set_option maxRecDepth 8000 in
theorem q209_120 : z_fi (z_mi 209) 120 = some (120, .ldc 236, 0, 0, 0, 100000, 0) := rfl
set_option maxRecDepth 8000 in
theorem q209_122 : z_fi (z_mi 209) 122 = some (122, .if_icmp .ge 7, 0, 129, 0, 0, 0) := rfl
set_option maxRecDepth 8000 in
theorem q209_125 : z_fi (z_mi 209) 125 = some (125, .iload_n 3, 0, 0, 0, 0, 0) := rfl
set_option maxRecDepth 8000 in
theorem q209_126 : z_fi (z_mi 209) 126 = some (126, .ifCond .ne 18, 0, 144, 0, 0, 0) := rfl
set_option maxRecDepth 8000 in
theorem q209_129 : z_fi (z_mi 209) 129 = some (129, .iload 8, 0, 0, 0, 0, 0) := rfl
set_option maxRecDepth 8000 in
theorem q209_131 : z_fi (z_mi 209) 131 = some (131, .ldc 236, 0, 0, 0, 100000, 0) := rfl
set_option maxRecDepth 8000 in
theorem q209_133 : z_fi (z_mi 209) 133 = some (133, .if_icmp .lt 8, 0, 141, 0, 0, 0) := rfl
set_option maxRecDepth 8000 in
theorem q209_136 : z_fi (z_mi 209) 136 = some (136, .bipush (-4), 0, 0, 0, (-4), 0) := rfl
set_option maxRecDepth 8000 in
theorem q209_138 : z_fi (z_mi 209) 138 = some (138, .goto 5, 0, 143, 0, 0, 0) := rfl
set_option maxRecDepth 8000 in
theorem q209_141 : z_fi (z_mi 209) 141 = some (141, .iload 8, 0, 0, 0, 0, 0) := rfl
set_option maxRecDepth 8000 in
theorem q209_143 : z_fi (z_mi 209) 143 = some (143, .ireturn, 0, 0, 0, 0, 0) := rfl
set_option maxRecDepth 8000 in
theorem q209_144 : z_fi (z_mi 209) 144 = some (144, .iconst 0, 0, 0, 0, 0, 0) := rfl
set_option maxRecDepth 8000 in
theorem q209_145 : z_fi (z_mi 209) 145 = some (145, .istore 9, 0, 0, 0, 0, 0) := rfl
set_option maxRecDepth 8000 in
theorem q209_147 : z_fi (z_mi 209) 147 = some (147, .iconst 0, 0, 0, 0, 0, 0) := rfl
set_option maxRecDepth 8000 in
theorem q209_148 : z_fi (z_mi 209) 148 = some (148, .istore 10, 0, 0, 0, 0, 0) := rfl
set_option maxRecDepth 8000 in
theorem q209_150 : z_fi (z_mi 209) 150 = some (150, .iload 10, 0, 0, 0, 0, 0) := rfl
set_option maxRecDepth 8000 in
theorem q209_152 : z_fi (z_mi 209) 152 = some (152, .iload_n 3, 0, 0, 0, 0, 0) := rfl
set_option maxRecDepth 8000 in
theorem q209_153 : z_fi (z_mi 209) 153 = some (153, .bipush 10, 0, 0, 0, 10, 0) := rfl
set_option maxRecDepth 8000 in
theorem q209_155 : z_fi (z_mi 209) 155 = some (155, .isub, 0, 0, 0, 0, 0) := rfl
set_option maxRecDepth 8000 in
theorem q209_156 : z_fi (z_mi 209) 156 = some (156, .if_icmp .gt 146, 0, 302, 0, 0, 0) := rfl
set_option maxRecDepth 8000 in
theorem q209_159 : z_fi (z_mi 209) 159 = some (159, .iconst 0, 0, 0, 0, 0, 0) := rfl
set_option maxRecDepth 8000 in
theorem q209_160 : z_fi (z_mi 209) 160 = some (160, .istore 9, 0, 0, 0, 0, 0) := rfl
set_option maxRecDepth 8000 in
theorem q209_162 : z_fi (z_mi 209) 162 = some (162, .iload 7, 0, 0, 0, 0, 0) := rfl
set_option maxRecDepth 8000 in
theorem q209_164 : z_fi (z_mi 209) 164 = some (164, .iconst 3, 0, 0, 0, 3, 0) := rfl
set_option maxRecDepth 8000 in
theorem q209_165 : z_fi (z_mi 209) 165 = some (165, .if_icmp .ge 53, 0, 218, 0, 0, 0) := rfl
set_option maxRecDepth 8000 in
theorem q209_168 : z_fi (z_mi 209) 168 = some (168, .iload 9, 0, 0, 0, 0, 0) := rfl
set_option maxRecDepth 8000 in
theorem q209_170 : z_fi (z_mi 209) 170 = some (170, .invokestatic 245, 1, 207, 1, 0, 0) := rfl
set_option maxRecDepth 8000 in
theorem q209_173 : z_fi (z_mi 209) 173 = some (173, .ifCond .eq 39, 0, 212, 0, 0, 0) := rfl
set_option maxRecDepth 8000 in
theorem q209_176 : z_fi (z_mi 209) 176 = some (176, .aload_n 0, 0, 0, 0, 0, 0) := rfl
set_option maxRecDepth 8000 in
theorem q209_177 : z_fi (z_mi 209) 177 = some (177, .iload 4, 0, 0, 0, 0, 0) := rfl
set_option maxRecDepth 8000 in
theorem q209_179 : z_fi (z_mi 209) 179 = some (179, .iload 10, 0, 0, 0, 0, 0) := rfl
set_option maxRecDepth 8000 in
theorem q209_181 : z_fi (z_mi 209) 181 = some (181, .iload_n 2, 0, 0, 0, 0, 0) := rfl
set_option maxRecDepth 8000 in
theorem q209_182 : z_fi (z_mi 209) 182 = some (182, .iload 5, 0, 0, 0, 0, 0) := rfl
set_option maxRecDepth 8000 in
theorem q209_184 : z_fi (z_mi 209) 184 = some (184, .iload 6, 0, 0, 0, 0, 0) := rfl
set_option maxRecDepth 8000 in
theorem q209_186 : z_fi (z_mi 209) 186 = some (186, .iload 7, 0, 0, 0, 0, 0) := rfl
set_option maxRecDepth 8000 in
theorem q209_188 : z_fi (z_mi 209) 188 = some (188, .iload 9, 0, 0, 0, 0, 0) := rfl
set_option maxRecDepth 8000 in
theorem q209_190 : z_fi (z_mi 209) 190 = some (190, .invokevirtual 248, 0, 206, 7, 0, 0) := rfl
set_option maxRecDepth 8000 in
theorem q209_193 : z_fi (z_mi 209) 193 = some (193, .aload_n 0, 0, 0, 0, 0, 0) := rfl
set_option maxRecDepth 8000 in
theorem q209_194 : z_fi (z_mi 209) 194 = some (194, .getfield 41, 0, 10, 24, 0, 0) := rfl
set_option maxRecDepth 8000 in
theorem q209_197 : z_fi (z_mi 209) 197 = some (197, .iload 10, 0, 0, 0, 0, 0) := rfl
set_option maxRecDepth 8000 in
theorem q209_199 : z_fi (z_mi 209) 199 = some (199, .iload 5, 0, 0, 0, 0, 0) := rfl
set_option maxRecDepth 8000 in
theorem q209_201 : z_fi (z_mi 209) 201 = some (201, .iload 6, 0, 0, 0, 0, 0) := rfl
set_option maxRecDepth 8000 in
theorem q209_203 : z_fi (z_mi 209) 203 = some (203, .iload 7, 0, 0, 0, 0, 0) := rfl
set_option maxRecDepth 8000 in
theorem q209_205 : z_fi (z_mi 209) 205 = some (205, .invokestatic 237, 1, 205, 4, 0, 0) := rfl
set_option maxRecDepth 8000 in
theorem q209_208 : z_fi (z_mi 209) 208 = some (208, .iaload, 0, 0, 0, 0, 0) := rfl
set_option maxRecDepth 8000 in
theorem q209_209 : z_fi (z_mi 209) 209 = some (209, .if_icmp .eq 9, 0, 218, 0, 0, 0) := rfl
set_option maxRecDepth 8000 in
theorem q209_212 : z_fi (z_mi 209) 212 = some (212, .iinc 9 1, 0, 0, 0, 1, 0) := rfl
set_option maxRecDepth 8000 in
theorem q209_215 : z_fi (z_mi 209) 215 = some (215, .goto (-53), 0, 162, 0, 0, 0) := rfl
set_option maxRecDepth 8000 in
theorem q209_218 : z_fi (z_mi 209) 218 = some (218, .iload 7, 0, 0, 0, 0, 0) := rfl
set_option maxRecDepth 8000 in
theorem q209_220 : z_fi (z_mi 209) 220 = some (220, .iconst 3, 0, 0, 0, 3, 0) := rfl
set_option maxRecDepth 8000 in
theorem q209_221 : z_fi (z_mi 209) 221 = some (221, .if_icmp .ge 75, 0, 296, 0, 0, 0) := rfl
set_option maxRecDepth 8000 in
theorem q209_224 : z_fi (z_mi 209) 224 = some (224, .iload 9, 0, 0, 0, 0, 0) := rfl
set_option maxRecDepth 8000 in
theorem q209_226 : z_fi (z_mi 209) 226 = some (226, .ifCond .ne 8, 0, 234, 0, 0, 0) := rfl
set_option maxRecDepth 8000 in
theorem q209_229 : z_fi (z_mi 209) 229 = some (229, .iload 5, 0, 0, 0, 0, 0) := rfl
set_option maxRecDepth 8000 in
theorem q209_231 : z_fi (z_mi 209) 231 = some (231, .goto 10, 0, 241, 0, 0, 0) := rfl
set_option maxRecDepth 8000 in
theorem q209_234 : z_fi (z_mi 209) 234 = some (234, .iload 9, 0, 0, 0, 0, 0) := rfl
set_option maxRecDepth 8000 in
theorem q209_236 : z_fi (z_mi 209) 236 = some (236, .bipush 10, 0, 0, 0, 10, 0) := rfl
set_option maxRecDepth 8000 in
theorem q209_238 : z_fi (z_mi 209) 238 = some (238, .idiv, 0, 0, 0, 0, 0) := rfl
set_option maxRecDepth 8000 in
theorem q209_239 : z_fi (z_mi 209) 239 = some (239, .iconst 1, 0, 0, 0, 1, 0) := rfl
set_option maxRecDepth 8000 in
theorem q209_240 : z_fi (z_mi 209) 240 = some (240, .isub, 0, 0, 0, 0, 0) := rfl
set_option maxRecDepth 8000 in
theorem q209_241 : z_fi (z_mi 209) 241 = some (241, .istore 5, 0, 0, 0, 0, 0) := rfl
set_option maxRecDepth 8000 in
theorem q209_243 : z_fi (z_mi 209) 243 = some (243, .iload 9, 0, 0, 0, 0, 0) := rfl
set_option maxRecDepth 8000 in
theorem q209_245 : z_fi (z_mi 209) 245 = some (245, .ifCond .ne 8, 0, 253, 0, 0, 0) := rfl
set_option maxRecDepth 8000 in
theorem q209_248 : z_fi (z_mi 209) 248 = some (248, .iload 6, 0, 0, 0, 0, 0) := rfl
set_option maxRecDepth 8000 in
theorem q209_250 : z_fi (z_mi 209) 250 = some (250, .goto 8, 0, 258, 0, 0, 0) := rfl
set_option maxRecDepth 8000 in
theorem q209_253 : z_fi (z_mi 209) 253 = some (253, .iload 9, 0, 0, 0, 0, 0) := rfl
set_option maxRecDepth 8000 in
theorem q209_255 : z_fi (z_mi 209) 255 = some (255, .bipush 10, 0, 0, 0, 10, 0) := rfl
set_option maxRecDepth 8000 in
theorem q209_257 : z_fi (z_mi 209) 257 = some (257, .irem, 0, 0, 0, 0, 0) := rfl
set_option maxRecDepth 8000 in
theorem q209_258 : z_fi (z_mi 209) 258 = some (258, .istore 6, 0, 0, 0, 0, 0) := rfl
set_option maxRecDepth 8000 in
theorem q209_260 : z_fi (z_mi 209) 260 = some (260, .aload_n 0, 0, 0, 0, 0, 0) := rfl
set_option maxRecDepth 8000 in
theorem q209_261 : z_fi (z_mi 209) 261 = some (261, .iload 4, 0, 0, 0, 0, 0) := rfl
set_option maxRecDepth 8000 in
theorem q209_263 : z_fi (z_mi 209) 263 = some (263, .iload 7, 0, 0, 0, 0, 0) := rfl
set_option maxRecDepth 8000 in
theorem q209_265 : z_fi (z_mi 209) 265 = some (265, .iload 6, 0, 0, 0, 0, 0) := rfl
set_option maxRecDepth 8000 in
theorem q209_267 : z_fi (z_mi 209) 267 = some (267, .ifCond .ne 7, 0, 274, 0, 0, 0) := rfl
set_option maxRecDepth 8000 in
theorem q209_270 : z_fi (z_mi 209) 270 = some (270, .iconst 4, 0, 0, 0, 4, 0) := rfl
set_option maxRecDepth 8000 in
theorem q209_271 : z_fi (z_mi 209) 271 = some (271, .goto 5, 0, 276, 0, 0, 0) := rfl
set_option maxRecDepth 8000 in
theorem q209_274 : z_fi (z_mi 209) 274 = some (274, .iload 5, 0, 0, 0, 0, 0) := rfl
set_option maxRecDepth 8000 in
theorem q209_276 : z_fi (z_mi 209) 276 = some (276, .invokevirtual 209, 0, 192, 3, 0, 0) := rfl
set_option maxRecDepth 8000 in
theorem q209_279 : z_fi (z_mi 209) 279 = some (279, .istore 7, 0, 0, 0, 0, 0) := rfl
set_option maxRecDepth 8000 in
theorem q209_281 : z_fi (z_mi 209) 281 = some (281, .iload 6, 0, 0, 0, 0, 0) := rfl
set_option maxRecDepth 8000 in
theorem q209_283 : z_fi (z_mi 209) 283 = some (283, .iload 6, 0, 0, 0, 0, 0) := rfl
set_option maxRecDepth 8000 in
theorem q209_285 : z_fi (z_mi 209) 285 = some (285, .ifCond .le 7, 0, 292, 0, 0, 0) := rfl
set_option maxRecDepth 8000 in
theorem q209_288 : z_fi (z_mi 209) 288 = some (288, .iconst 1, 0, 0, 0, 1, 0) := rfl
set_option maxRecDepth 8000 in
theorem q209_289 : z_fi (z_mi 209) 289 = some (289, .goto 4, 0, 293, 0, 0, 0) := rfl
set_option maxRecDepth 8000 in
theorem q209_292 : z_fi (z_mi 209) 292 = some (292, .iconst 0, 0, 0, 0, 0, 0) := rfl
set_option maxRecDepth 8000 in
theorem q209_293 : z_fi (z_mi 209) 293 = some (293, .isub, 0, 0, 0, 0, 0) := rfl
set_option maxRecDepth 8000 in
theorem q209_294 : z_fi (z_mi 209) 294 = some (294, .istore 6, 0, 0, 0, 0, 0) := rfl
set_option maxRecDepth 8000 in
theorem q209_296 : z_fi (z_mi 209) 296 = some (296, .iinc 10 1, 0, 0, 0, 1, 0) := rfl
set_option maxRecDepth 8000 in
theorem q209_299 : z_fi (z_mi 209) 299 = some (299, .goto (-149), 0, 150, 0, 0, 0) := rfl
set_option maxRecDepth 8000 in
theorem q209_302 : z_fi (z_mi 209) 302 = some (302, .iload 9, 0, 0, 0, 0, 0) := rfl
set_option maxRecDepth 8000 in
theorem q209_304 : z_fi (z_mi 209) 304 = some (304, .ireturn, 0, 0, 0, 0, 0) := rfl
set_option maxRecDepth 20000 in
set_option maxHeartbeats 4000000 in
theorem t_M_plan {xL : Nat} {xs : Nat → Int32} {ρ : Nat → Nat → Option Nat} (hρ : z_hR ρ) (d : Nat) (a1 : Int32) (a2 : Int32) (a3 : Int32) (σ : zS) : ∀ q, f_M_plan a1 a2 a3 σ = some q → z_ec xL xs ρ (d + 3) 209 [.ref 90, .int a1, .int a2, .int a3] σ (em_i q) := by
  refine j_of (W := [.ref 90, .int a1, .int a2, .int a3, .null, .null, .null, .null, .null, .null, .null]) (fun L hL => ?_) ?_
  · subst hL; exact z_vl_0 _ 7 rfl
  · unfold f_M_plan
    refine j_aload_n (pc' := 1) q209_0 rfl (by decide) rfl ?_
    refine j_iload_n (pc' := 2) q209_1 rfl rfl ?_
    refine j_callV1_pi (d := d + 2) (pc' := 5) q209_2 rfl (Nat.le_of_ble_eq_true rfl) (Nat.le_of_ble_eq_true rfl) rfl (t_M_isCell hρ (d + 1) _ _) (fun r1 => ?_)
    refine j_if_eq (pc' := 8) q209_5 rfl (fun c2 => ?_) (fun c2 => ?_)
    · refine j_iconst (pc' := 41) q209_40 rfl ?_
      exact j_iret q209_41 rfl
    · refine j_iload_n (pc' := 9) q209_8 rfl rfl ?_
      refine j_i2l (pc' := 10) q209_9 rfl ?_
      refine j_lconst (pc' := 11) q209_10 rfl ?_
      refine j_ldc2 (pc' := 14) q209_11 rfl ?_
      refine j_callS3_pi (d := d + 2) (pc' := 17) q209_14 (Or.inl rfl) (Nat.le_of_ble_eq_true rfl) (Nat.le_of_ble_eq_true rfl) rfl (t_M_in hρ (d + 2) _ _ _ _) (fun r3 => ?_)
      refine j_if_eq (pc' := 20) q209_17 rfl (fun c4 => ?_) (fun c4 => ?_)
      · refine j_iconst (pc' := 41) q209_40 rfl ?_
        exact j_iret q209_41 rfl
      · refine j_iload_n (pc' := 21) q209_20 rfl rfl ?_
        refine j_join (T := Unit) 42 (fun t5 => [.ref 90, .int a1, .int a2, .int a3, .null, .null, .null, .null, .null, .null, .null]) (fun t5 => []) (fun t5 => σ) (fun t5 => ?_) (fun j5 hj5 => ?_)
        · show z_J _ _ _ _ _ _ _ _ _ _ _ _
          refine j_aload_n (pc' := 43) q209_42 rfl (by decide) rfl ?_
          refine j_iconst (pc' := 44) q209_43 rfl ?_
          refine j_iload_n (pc' := 45) q209_44 rfl rfl ?_
          refine j_callV2_pi (d := d + 2) (pc' := 48) q209_45 rfl (Nat.le_of_ble_eq_true rfl) (Nat.le_of_ble_eq_true rfl) rfl (t_M_cropIn hρ (d + 2) _ _ _) (fun r6 => ?_)
          refine j_istore4 (pc' := 50) q209_48 rfl (Nat.le_of_ble_eq_true rfl) rfl ?_
          refine j_iload (pc' := 52) q209_50 rfl rfl ?_
          refine j_bipush (pc' := 54) q209_52 rfl ?_
          refine j_icmp_ne (pc' := 57) q209_54 rfl (fun c7 => ?_) (fun c7 => ?_)
          · refine j_bipush (pc' := 59) q209_57 rfl ?_
            exact j_iret q209_59 rfl
          · refine j_aload_n (pc' := 61) q209_60 rfl (by decide) rfl ?_
            refine j_iload (pc' := 63) q209_61 rfl rfl ?_
            refine j_iload_n (pc' := 64) q209_63 rfl rfl ?_
            refine j_callV2_v (d := d + 2) (pc' := 67) q209_64 rfl (Nat.le_of_ble_eq_true rfl) (Nat.le_of_ble_eq_true rfl) rfl (t_M_layCosts hρ (d + 0) _ _ _) (fun r8 => ?_)
            refine j_aload_n (pc' := 68) q209_67 rfl (by decide) rfl ?_
            refine j_getr (k := 90) (q := 91) (pc' := 71) q209_68 rfl (hρ 90 0 91 rfl) rfl ?_
            refine j_iconst (pc' := 72) q209_71 rfl ?_
            refine j_iload_n (pc' := 73) q209_72 rfl rfl ?_
            refine j_imul (pc' := 74) q209_73 rfl ?_
            refine j_if (fun hi9 => ?_) (fun _ => j_none)
            refine j_iald (k := 91) (N := 550) (pc' := 75) q209_74 rfl hi9 rfl ?_
            refine j_nameI (fun v10 => ?_)
            refine j_istore5 (pc' := 77) q209_75 rfl (Nat.le_of_ble_eq_true rfl) rfl ?_
            refine j_aload_n (pc' := 78) q209_77 rfl (by decide) rfl ?_
            refine j_getr (k := 90) (q := 91) (pc' := 81) q209_78 rfl (hρ 90 0 91 rfl) rfl ?_
            refine j_iconst (pc' := 82) q209_81 rfl ?_
            refine j_iload_n (pc' := 83) q209_82 rfl rfl ?_
            refine j_imul (pc' := 84) q209_83 rfl ?_
            refine j_iconst (pc' := 85) q209_84 rfl ?_
            refine j_iadd (pc' := 86) q209_85 rfl ?_
            refine j_if (fun hi11 => ?_) (fun _ => j_none)
            refine j_iald (k := 91) (N := 550) (pc' := 87) q209_86 rfl hi11 rfl ?_
            refine j_nameI (fun v12 => ?_)
            refine j_istore6 (pc' := 89) q209_87 rfl (Nat.le_of_ble_eq_true rfl) rfl ?_
            refine j_aload_n (pc' := 90) q209_89 rfl (by decide) rfl ?_
            refine j_getr (k := 90) (q := 91) (pc' := 93) q209_90 rfl (hρ 90 0 91 rfl) rfl ?_
            refine j_iconst (pc' := 94) q209_93 rfl ?_
            refine j_iload_n (pc' := 95) q209_94 rfl rfl ?_
            refine j_imul (pc' := 96) q209_95 rfl ?_
            refine j_iconst (pc' := 97) q209_96 rfl ?_
            refine j_iadd (pc' := 98) q209_97 rfl ?_
            refine j_if (fun hi13 => ?_) (fun _ => j_none)
            refine j_iald (k := 91) (N := 550) (pc' := 99) q209_98 rfl hi13 rfl ?_
            refine j_nameI (fun v14 => ?_)
            refine j_istore7 (pc' := 101) q209_99 rfl (Nat.le_of_ble_eq_true rfl) rfl ?_
            refine j_aload_n (pc' := 102) q209_101 rfl (by decide) rfl ?_
            refine j_getr (k := 90) (q := 99) (pc' := 105) q209_102 rfl (hρ 90 24 99 rfl) rfl ?_
            refine j_iconst (pc' := 106) q209_105 rfl ?_
            refine j_iload (pc' := 108) q209_106 rfl rfl ?_
            refine j_iload (pc' := 110) q209_108 rfl rfl ?_
            refine j_iload (pc' := 112) q209_110 rfl rfl ?_
            refine j_callS4_pi (d := d + 2) (pc' := 115) q209_112 (Or.inl rfl) (Nat.le_of_ble_eq_true rfl) (Nat.le_of_ble_eq_true rfl) rfl (t_M_at hρ (d + 2) _ _ _ _ _) (fun r15 => ?_)
            refine j_if (fun hi16 => ?_) (fun _ => j_none)
            refine j_iald (k := 99) (N := 1050) (pc' := 116) q209_115 rfl hi16 rfl ?_
            refine j_istore8 (pc' := 118) q209_116 rfl (Nat.le_of_ble_eq_true rfl) rfl ?_
            refine j_iload (pc' := 120) q209_118 rfl rfl ?_
            refine j_ldcI (pc' := 122) q209_120 rfl rfl ?_
            refine j_join (T := Unit) 129 (fun t17 => [.null, .null, .null, .null, .null, .null, .null, .null, .int (r8 99 r15.toNatClampNeg), .null, .null]) (fun t17 => []) (fun t17 => r8) (fun t17 => ?_) (fun j17 hj17 => ?_)
            · show z_J _ _ _ _ _ _ _ _ _ _ _ _
              refine j_iload (pc' := 131) q209_129 rfl rfl ?_
              refine j_ldcI (pc' := 133) q209_131 rfl rfl ?_
              refine j_icmp_lt (pc' := 136) q209_133 rfl (fun c18 => ?_) (fun c18 => ?_)
              · refine j_iload (pc' := 143) q209_141 rfl rfl ?_
                exact j_iret q209_143 rfl
              · refine j_bipush (pc' := 138) q209_136 rfl ?_
                refine j_goto q209_138 rfl ?_
                exact j_iret q209_143 rfl
            · show z_J _ _ _ _ _ _ _ _ _ _ _ _
              refine j_icmp_ge (pc' := 125) q209_122 rfl (fun c19 => ?_) (fun c19 => ?_)
              · refine j_forget (z_le_n (z_le_n (z_le_n (z_le_n (z_le_n (z_le_n (z_le_n (z_le_n (z_le_s (z_le_n (z_le_n (z_le_nil)))))))))))) (hj17 ())
              · refine j_iload_n (pc' := 126) q209_125 rfl rfl ?_
                refine j_if_ne (pc' := 129) q209_126 rfl (fun c20 => ?_) (fun c20 => ?_)
                · refine j_forget (z_le_n (z_le_n (z_le_n (z_le_n (z_le_n (z_le_n (z_le_n (z_le_n (z_le_s (z_le_n (z_le_n (z_le_nil)))))))))))) (hj17 ())
                · refine j_iconst (pc' := 145) q209_144 rfl ?_
                  refine j_istore9 (pc' := 147) q209_145 rfl (Nat.le_of_ble_eq_true rfl) rfl ?_
                  refine j_iconst (pc' := 148) q209_147 rfl ?_
                  refine j_istore10 (pc' := 150) q209_148 rfl (Nat.le_of_ble_eq_true rfl) rfl ?_
                  refine j_forget (V' := [.ref 90, .null, .int a2, .int a3, .int r6, .int v10, .int v12, .int v14, .null, .int (0 : Int32), .int (0 : Int32)]) (z_le_s (z_le_n (z_le_s (z_le_s (z_le_s (z_le_s (z_le_s (z_le_s (z_le_n (z_le_s (z_le_s (z_le_nil)))))))))))) ?_
                  refine j_loopX (S := Int32 × Int32 × Int32 × Int32 × Int32) (E := Int32) (fun e => e) 302 (fun s21 => [.ref 90, .null, .int a2, .int a3, .int r6, .int s21.1, .int s21.2.1, .int s21.2.2.1, .null, .int s21.2.2.2.1, .int s21.2.2.2.2]) (fun s21 => r8) (fun b21 => [.null, .null, .null, .null, .null, .null, .null, .null, .null, .int b21, .null]) (fun b21 => r8) (fun b21 => ?_) (fun R21 hR21 hX21 s21 => ?_) (v10, v12, v14, (0 : Int32), (0 : Int32))
                  · show z_J _ _ _ _ _ _ _ _ _ _ _ _
                    refine j_iload (pc' := 304) q209_302 rfl rfl ?_
                    exact j_iret q209_304 rfl
                  · show z_J _ _ _ _ _ _ _ _ _ _ _ _
                    refine j_iload (pc' := 152) q209_150 rfl rfl ?_
                    refine j_iload_n (pc' := 153) q209_152 rfl rfl ?_
                    refine j_bipush (pc' := 155) q209_153 rfl ?_
                    refine j_isub (pc' := 156) q209_155 rfl ?_
                    refine j_icmp_gt (pc' := 159) q209_156 rfl (fun c22 => ?_) (fun c22 => ?_)
                    · exact j_exit (j_forget (z_le_n (z_le_n (z_le_n (z_le_n (z_le_n (z_le_n (z_le_n (z_le_n (z_le_n (z_le_s (z_le_n (z_le_nil)))))))))))) (hX21 s21.2.2.2.1))
                    · refine j_iconst (pc' := 160) q209_159 rfl ?_
                      refine j_istore9 (pc' := 162) q209_160 rfl (Nat.le_of_ble_eq_true rfl) rfl ?_
                      refine j_forget (V' := [.ref 90, .null, .int a2, .int a3, .int r6, .int s21.1, .int s21.2.1, .int s21.2.2.1, .null, .int (0 : Int32), .int s21.2.2.2.2]) (z_le_s (z_le_n (z_le_s (z_le_s (z_le_s (z_le_s (z_le_s (z_le_s (z_le_n (z_le_s (z_le_s (z_le_nil)))))))))))) ?_
                      refine j_loopX (S := Int32) (E := Int32) (fun e => e) 218 (fun s23 => [.ref 90, .null, .int a2, .int a3, .int r6, .int s21.1, .int s21.2.1, .int s21.2.2.1, .null, .int s23, .int s21.2.2.2.2]) (fun s23 => r8) (fun b23 => [.ref 90, .null, .int a2, .int a3, .int r6, .int s21.1, .int s21.2.1, .int s21.2.2.1, .null, .int b23, .int s21.2.2.2.2]) (fun b23 => r8) (fun b23 => ?_) (fun R23 hR23 hX23 s23 => ?_) (0 : Int32)
                      · show z_J _ _ _ _ _ _ _ _ _ _ _ _
                        refine j_iload (pc' := 220) q209_218 rfl rfl ?_
                        refine j_iconst (pc' := 221) q209_220 rfl ?_
                        refine j_join (T := Int32 × Int32 × Int32) 296 (fun t32 => [.ref 90, .null, .int a2, .int a3, .int r6, .int t32.1, .int t32.2.1, .int t32.2.2, .null, .int b23, .int s21.2.2.2.2]) (fun t32 => []) (fun t32 => r8) (fun t32 => ?_) (fun j32 hj32 => ?_)
                        · show z_J _ _ _ _ _ _ _ _ _ _ _ _
                          refine j_iinc10 (pc' := 299) q209_296 rfl (Nat.le_of_ble_eq_true rfl) rfl ?_
                          refine j_goto q209_299 rfl ?_
                          exact j_again (j_forget (z_le_s (z_le_n (z_le_s (z_le_s (z_le_s (z_le_s (z_le_s (z_le_s (z_le_n (z_le_s (z_le_s (z_le_nil)))))))))))) (hR21 (t32.1, t32.2.1, t32.2.2, b23, (s21.2.2.2.2 + (1 : Int32)))))
                        · show z_J _ _ _ _ _ _ _ _ _ _ _ _
                          refine j_icmp_ge (pc' := 224) q209_221 rfl (fun c33 => ?_) (fun c33 => ?_)
                          · refine j_forget (z_le_s (z_le_n (z_le_s (z_le_s (z_le_s (z_le_s (z_le_s (z_le_s (z_le_n (z_le_s (z_le_s (z_le_nil)))))))))))) (hj32 (s21.1, s21.2.1, s21.2.2.1))
                          · refine j_iload (pc' := 226) q209_224 rfl rfl ?_
                            refine j_join (T := Int32) 241 (fun t34 => [.ref 90, .null, .int a2, .int a3, .int r6, .null, .int s21.2.1, .int s21.2.2.1, .null, .int b23, .int s21.2.2.2.2]) (fun t34 => [.int t34]) (fun t34 => r8) (fun t34 => ?_) (fun j34 hj34 => ?_)
                            · show z_J _ _ _ _ _ _ _ _ _ _ _ _
                              refine j_istore5 (pc' := 243) q209_241 rfl (Nat.le_of_ble_eq_true rfl) rfl ?_
                              refine j_iload (pc' := 245) q209_243 rfl rfl ?_
                              refine j_join (T := Int32) 258 (fun t35 => [.ref 90, .null, .int a2, .int a3, .int r6, .int t34, .null, .int s21.2.2.1, .null, .int b23, .int s21.2.2.2.2]) (fun t35 => [.int t35]) (fun t35 => r8) (fun t35 => ?_) (fun j35 hj35 => ?_)
                              · show z_J _ _ _ _ _ _ _ _ _ _ _ _
                                refine j_istore6 (pc' := 260) q209_258 rfl (Nat.le_of_ble_eq_true rfl) rfl ?_
                                refine j_aload_n (pc' := 261) q209_260 rfl (by decide) rfl ?_
                                refine j_iload (pc' := 263) q209_261 rfl rfl ?_
                                refine j_iload (pc' := 265) q209_263 rfl rfl ?_
                                refine j_iload (pc' := 267) q209_265 rfl rfl ?_
                                refine j_join (T := Int32 × Int32 × Int32) 276 (fun t36 => [.ref 90, .null, .int a2, .int a3, .int r6, .int t34, .int t35, .null, .null, .int b23, .int s21.2.2.2.2]) (fun t36 => [.int t36.1, .int t36.2.1, .int t36.2.2, .ref 90]) (fun t36 => r8) (fun t36 => ?_) (fun j36 hj36 => ?_)
                                · show z_J _ _ _ _ _ _ _ _ _ _ _ _
                                  refine j_callV3_pi (d := d + 2) (pc' := 279) q209_276 rfl (Nat.le_of_ble_eq_true rfl) (Nat.le_of_ble_eq_true rfl) rfl (t_M_stageBy hρ (d + 2) _ _ _ _) (fun r37 => ?_)
                                  refine j_istore7 (pc' := 281) q209_279 rfl (Nat.le_of_ble_eq_true rfl) rfl ?_
                                  refine j_iload (pc' := 283) q209_281 rfl rfl ?_
                                  refine j_iload (pc' := 285) q209_283 rfl rfl ?_
                                  refine j_join (T := Int32 × Int32) 293 (fun t38 => [.ref 90, .null, .int a2, .int a3, .int r6, .int t34, .null, .int r37, .null, .int b23, .int s21.2.2.2.2]) (fun t38 => [.int t38.1, .int t38.2]) (fun t38 => r8) (fun t38 => ?_) (fun j38 hj38 => ?_)
                                  · show z_J _ _ _ _ _ _ _ _ _ _ _ _
                                    refine j_isub (pc' := 294) q209_293 rfl ?_
                                    refine j_istore6 (pc' := 296) q209_294 rfl (Nat.le_of_ble_eq_true rfl) rfl ?_
                                    refine j_forget (z_le_s (z_le_n (z_le_s (z_le_s (z_le_s (z_le_s (z_le_s (z_le_s (z_le_n (z_le_s (z_le_s (z_le_nil)))))))))))) (hj32 (t34, (t38.2 - t38.1), r37))
                                  · show z_J _ _ _ _ _ _ _ _ _ _ _ _
                                    refine j_if_le (pc' := 288) q209_285 rfl (fun c39 => ?_) (fun c39 => ?_)
                                    · refine j_iconst (pc' := 293) q209_292 rfl ?_
                                      refine j_forget (z_le_s (z_le_n (z_le_s (z_le_s (z_le_s (z_le_s (z_le_n (z_le_s (z_le_n (z_le_s (z_le_s (z_le_nil)))))))))))) (hj38 ((0 : Int32), t35))
                                    · refine j_iconst (pc' := 289) q209_288 rfl ?_
                                      refine j_goto q209_289 rfl ?_
                                      refine j_forget (z_le_s (z_le_n (z_le_s (z_le_s (z_le_s (z_le_s (z_le_n (z_le_s (z_le_n (z_le_s (z_le_s (z_le_nil)))))))))))) (hj38 ((1 : Int32), t35))
                                · show z_J _ _ _ _ _ _ _ _ _ _ _ _
                                  refine j_if_ne (pc' := 270) q209_267 rfl (fun c40 => ?_) (fun c40 => ?_)
                                  · refine j_iconst (pc' := 271) q209_270 rfl ?_
                                    refine j_goto q209_271 rfl ?_
                                    refine j_forget (z_le_s (z_le_n (z_le_s (z_le_s (z_le_s (z_le_s (z_le_s (z_le_n (z_le_n (z_le_s (z_le_s (z_le_nil)))))))))))) (hj36 ((4 : Int32), s21.2.2.1, r6))
                                  · refine j_iload (pc' := 276) q209_274 rfl rfl ?_
                                    refine j_forget (z_le_s (z_le_n (z_le_s (z_le_s (z_le_s (z_le_s (z_le_s (z_le_n (z_le_n (z_le_s (z_le_s (z_le_nil)))))))))))) (hj36 (t34, s21.2.2.1, r6))
                              · show z_J _ _ _ _ _ _ _ _ _ _ _ _
                                refine j_if_ne (pc' := 248) q209_245 rfl (fun c41 => ?_) (fun c41 => ?_)
                                · refine j_iload (pc' := 250) q209_248 rfl rfl ?_
                                  refine j_goto q209_250 rfl ?_
                                  refine j_forget (z_le_s (z_le_n (z_le_s (z_le_s (z_le_s (z_le_s (z_le_n (z_le_s (z_le_n (z_le_s (z_le_s (z_le_nil)))))))))))) (hj35 s21.2.1)
                                · refine j_iload (pc' := 255) q209_253 rfl rfl ?_
                                  refine j_bipush (pc' := 257) q209_255 rfl ?_
                                  refine j_irem (pc' := 258) q209_257 (by decide) rfl ?_
                                  refine j_forget (z_le_s (z_le_n (z_le_s (z_le_s (z_le_s (z_le_s (z_le_n (z_le_s (z_le_n (z_le_s (z_le_s (z_le_nil)))))))))))) (hj35 (b23 - b23 / (10 : Int32) * (10 : Int32)))
                            · show z_J _ _ _ _ _ _ _ _ _ _ _ _
                              refine j_if_ne (pc' := 229) q209_226 rfl (fun c42 => ?_) (fun c42 => ?_)
                              · refine j_iload (pc' := 231) q209_229 rfl rfl ?_
                                refine j_goto q209_231 rfl ?_
                                refine j_forget (z_le_s (z_le_n (z_le_s (z_le_s (z_le_s (z_le_n (z_le_s (z_le_s (z_le_n (z_le_s (z_le_s (z_le_nil)))))))))))) (hj34 s21.1)
                              · refine j_iload (pc' := 236) q209_234 rfl rfl ?_
                                refine j_bipush (pc' := 238) q209_236 rfl ?_
                                refine j_idiv (pc' := 239) q209_238 (by decide) rfl ?_
                                refine j_iconst (pc' := 240) q209_239 rfl ?_
                                refine j_isub (pc' := 241) q209_240 rfl ?_
                                refine j_forget (z_le_s (z_le_n (z_le_s (z_le_s (z_le_s (z_le_n (z_le_s (z_le_s (z_le_n (z_le_s (z_le_s (z_le_nil)))))))))))) (hj34 ((b23 / (10 : Int32)) - (1 : Int32)))
                      · show z_J _ _ _ _ _ _ _ _ _ _ _ _
                        refine j_iload (pc' := 164) q209_162 rfl rfl ?_
                        refine j_iconst (pc' := 165) q209_164 rfl ?_
                        refine j_icmp_ge (pc' := 168) q209_165 rfl (fun c24 => ?_) (fun c24 => ?_)
                        · exact j_exit (j_forget (z_le_s (z_le_n (z_le_s (z_le_s (z_le_s (z_le_s (z_le_s (z_le_s (z_le_n (z_le_s (z_le_s (z_le_nil)))))))))))) (hX23 s23))
                        · refine j_iload (pc' := 170) q209_168 rfl rfl ?_
                          refine j_callS1_pi (d := d + 2) (pc' := 173) q209_170 (Or.inl rfl) (Nat.le_of_ble_eq_true rfl) (Nat.le_of_ble_eq_true rfl) rfl (t_M_isChoice hρ (d + 1) _ _) (fun r25 => ?_)
                          refine j_join (T := Unit) 212 (fun t26 => [.ref 90, .null, .int a2, .int a3, .int r6, .int s21.1, .int s21.2.1, .int s21.2.2.1, .null, .int s23, .int s21.2.2.2.2]) (fun t26 => []) (fun t26 => r8) (fun t26 => ?_) (fun j26 hj26 => ?_)
                          · show z_J _ _ _ _ _ _ _ _ _ _ _ _
                            refine j_iinc9 (pc' := 215) q209_212 rfl (Nat.le_of_ble_eq_true rfl) rfl ?_
                            refine j_goto q209_215 rfl ?_
                            exact j_again (j_forget (z_le_s (z_le_n (z_le_s (z_le_s (z_le_s (z_le_s (z_le_s (z_le_s (z_le_n (z_le_s (z_le_s (z_le_nil)))))))))))) (hR23 (s23 + (1 : Int32))))
                          · show z_J _ _ _ _ _ _ _ _ _ _ _ _
                            refine j_if_eq (pc' := 176) q209_173 rfl (fun c27 => ?_) (fun c27 => ?_)
                            · refine j_forget (z_le_s (z_le_n (z_le_s (z_le_s (z_le_s (z_le_s (z_le_s (z_le_s (z_le_n (z_le_s (z_le_s (z_le_nil)))))))))))) (hj26 ())
                            · refine j_aload_n (pc' := 177) q209_176 rfl (by decide) rfl ?_
                              refine j_iload (pc' := 179) q209_177 rfl rfl ?_
                              refine j_iload (pc' := 181) q209_179 rfl rfl ?_
                              refine j_iload_n (pc' := 182) q209_181 rfl rfl ?_
                              refine j_iload (pc' := 184) q209_182 rfl rfl ?_
                              refine j_iload (pc' := 186) q209_184 rfl rfl ?_
                              refine j_iload (pc' := 188) q209_186 rfl rfl ?_
                              refine j_iload (pc' := 190) q209_188 rfl rfl ?_
                              refine j_callV7_pi (d := d + 2) (pc' := 193) q209_190 rfl (Nat.le_of_ble_eq_true rfl) (Nat.le_of_ble_eq_true rfl) rfl (t_M_costBy hρ (d + 1) _ _ _ _ _ _ _ _) (fun r28 => ?_)
                              refine j_aload_n (pc' := 194) q209_193 rfl (by decide) rfl ?_
                              refine j_getr (k := 90) (q := 99) (pc' := 197) q209_194 rfl (hρ 90 24 99 rfl) rfl ?_
                              refine j_iload (pc' := 199) q209_197 rfl rfl ?_
                              refine j_iload (pc' := 201) q209_199 rfl rfl ?_
                              refine j_iload (pc' := 203) q209_201 rfl rfl ?_
                              refine j_iload (pc' := 205) q209_203 rfl rfl ?_
                              refine j_callS4_pi (d := d + 2) (pc' := 208) q209_205 (Or.inl rfl) (Nat.le_of_ble_eq_true rfl) (Nat.le_of_ble_eq_true rfl) rfl (t_M_at hρ (d + 2) _ _ _ _ _) (fun r29 => ?_)
                              refine j_if (fun hi30 => ?_) (fun _ => j_none)
                              refine j_iald (k := 99) (N := 1050) (pc' := 209) q209_208 rfl hi30 rfl ?_
                              refine j_icmp_eq (pc' := 212) q209_209 rfl (fun c31 => ?_) (fun c31 => ?_)
                              · exact j_exit (j_forget (z_le_s (z_le_n (z_le_s (z_le_s (z_le_s (z_le_s (z_le_s (z_le_s (z_le_n (z_le_s (z_le_s (z_le_nil)))))))))))) (hX23 s23))
                              · refine j_forget (z_le_s (z_le_n (z_le_s (z_le_s (z_le_s (z_le_s (z_le_s (z_le_s (z_le_n (z_le_s (z_le_s (z_le_nil)))))))))))) (hj26 ())
        · show z_J _ _ _ _ _ _ _ _ _ _ _ _
          refine j_if_eq (pc' := 24) q209_21 rfl (fun c43 => ?_) (fun c43 => ?_)
          · refine j_forget (z_le_s (z_le_s (z_le_s (z_le_s (z_le_n (z_le_n (z_le_n (z_le_n (z_le_n (z_le_n (z_le_n (z_le_nil)))))))))))) (hj5 ())
          · refine j_iload_n (pc' := 25) q209_24 rfl rfl ?_
            refine j_i2l (pc' := 26) q209_25 rfl ?_
            refine j_ldc2 (pc' := 29) q209_26 rfl ?_
            refine j_bipush (pc' := 31) q209_29 rfl ?_
            refine j_iload_n (pc' := 32) q209_31 rfl rfl ?_
            refine j_iadd (pc' := 33) q209_32 rfl ?_
            refine j_i2l (pc' := 34) q209_33 rfl ?_
            refine j_callS3_pi (d := d + 2) (pc' := 37) q209_34 (Or.inl rfl) (Nat.le_of_ble_eq_true rfl) (Nat.le_of_ble_eq_true rfl) rfl (t_M_in hρ (d + 2) _ _ _ _) (fun r44 => ?_)
            refine j_if_ne (pc' := 40) q209_37 rfl (fun c45 => ?_) (fun c45 => ?_)
            · refine j_iconst (pc' := 41) q209_40 rfl ?_
              exact j_iret q209_41 rfl
            · refine j_forget (z_le_s (z_le_s (z_le_s (z_le_s (z_le_n (z_le_n (z_le_n (z_le_n (z_le_n (z_le_n (z_le_n (z_le_nil)))))))))))) (hj5 ())
theorem q129_0 : z_fi (z_mi 129) 0 = some (0, .iload_n 1, 0, 0, 0, 0, 0) := rfl
theorem q129_1 : z_fi (z_mi 129) 1 = some (1, .iconst 1, 0, 0, 0, 1, 0) := rfl
theorem q129_2 : z_fi (z_mi 129) 2 = some (2, .bipush 12, 0, 0, 0, 12, 0) := rfl
theorem q129_4 : z_fi (z_mi 129) 4 = some (4, .invokestatic 60, 1, 99, 3, 0, 0) := rfl
theorem q129_7 : z_fi (z_mi 129) 7 = some (7, .ifCond .eq 12, 0, 19, 0, 0, 0) := rfl
theorem q129_10 : z_fi (z_mi 129) 10 = some (10, .iload_n 2, 0, 0, 0, 0, 0) := rfl
theorem q129_11 : z_fi (z_mi 129) 11 = some (11, .iconst 0, 0, 0, 0, 0, 0) := rfl
theorem q129_12 : z_fi (z_mi 129) 12 = some (12, .iconst 1, 0, 0, 0, 1, 0) := rfl
theorem q129_13 : z_fi (z_mi 129) 13 = some (13, .invokestatic 60, 1, 99, 3, 0, 0) := rfl
theorem q129_16 : z_fi (z_mi 129) 16 = some (16, .ifCond .ne 5, 0, 21, 0, 0, 0) := rfl
theorem q129_19 : z_fi (z_mi 129) 19 = some (19, .iconst (-1), 0, 0, 0, (-1), 0) := rfl
theorem q129_20 : z_fi (z_mi 129) 20 = some (20, .ireturn, 0, 0, 0, 0, 0) := rfl
theorem q129_21 : z_fi (z_mi 129) 21 = some (21, .iconst (-1), 0, 0, 0, (-1), 0) := rfl
theorem q129_22 : z_fi (z_mi 129) 22 = some (22, .istore_n 3, 0, 0, 0, 0, 0) := rfl
theorem q129_23 : z_fi (z_mi 129) 23 = some (23, .iconst 0, 0, 0, 0, 0, 0) := rfl
theorem q129_24 : z_fi (z_mi 129) 24 = some (24, .istore 4, 0, 0, 0, 0, 0) := rfl
theorem q129_26 : z_fi (z_mi 129) 26 = some (26, .iconst 0, 0, 0, 0, 0, 0) := rfl
theorem q129_27 : z_fi (z_mi 129) 27 = some (27, .istore 5, 0, 0, 0, 0, 0) := rfl
theorem q129_29 : z_fi (z_mi 129) 29 = some (29, .iload 5, 0, 0, 0, 0, 0) := rfl
theorem q129_31 : z_fi (z_mi 129) 31 = some (31, .aload_n 0, 0, 0, 0, 0, 0) := rfl
theorem q129_32 : z_fi (z_mi 129) 32 = some (32, .getfield 10, 0, 9, 0, 0, 0) := rfl
theorem q129_35 : z_fi (z_mi 129) 35 = some (35, .invokevirtual 227, 0, 7, 0, 0, 0) := rfl
theorem q129_38 : z_fi (z_mi 129) 38 = some (38, .if_icmp .ge 78, 0, 116, 0, 0, 0) := rfl
theorem q129_41 : z_fi (z_mi 129) 41 = some (41, .iconst 0, 0, 0, 0, 0, 0) := rfl
theorem q129_42 : z_fi (z_mi 129) 42 = some (42, .istore 6, 0, 0, 0, 0, 0) := rfl
theorem q129_44 : z_fi (z_mi 129) 44 = some (44, .iload 6, 0, 0, 0, 0, 0) := rfl
theorem q129_46 : z_fi (z_mi 129) 46 = some (46, .iconst 4, 0, 0, 0, 4, 0) := rfl
theorem q129_47 : z_fi (z_mi 129) 47 = some (47, .if_icmp .ge 63, 0, 110, 0, 0, 0) := rfl
theorem q129_50 : z_fi (z_mi 129) 50 = some (50, .aload_n 0, 0, 0, 0, 0, 0) := rfl
theorem q129_51 : z_fi (z_mi 129) 51 = some (51, .getfield 16, 0, 9, 1, 0, 0) := rfl
theorem q129_54 : z_fi (z_mi 129) 54 = some (54, .aload_n 0, 0, 0, 0, 0, 0) := rfl
theorem q129_55 : z_fi (z_mi 129) 55 = some (55, .getfield 10, 0, 9, 0, 0, 0) := rfl
theorem q129_58 : z_fi (z_mi 129) 58 = some (58, .invokevirtual 85, 0, 6, 1, 0, 0) := rfl
theorem q129_61 : z_fi (z_mi 129) 61 = some (61, .aload_n 0, 0, 0, 0, 0, 0) := rfl
theorem q129_62 : z_fi (z_mi 129) 62 = some (62, .getfield 16, 0, 9, 1, 0, 0) := rfl
theorem q129_65 : z_fi (z_mi 129) 65 = some (65, .iload 5, 0, 0, 0, 0, 0) := rfl
theorem q129_67 : z_fi (z_mi 129) 67 = some (67, .iload 6, 0, 0, 0, 0, 0) := rfl
theorem q129_69 : z_fi (z_mi 129) 69 = some (69, .iconst 3, 0, 0, 0, 3, 0) := rfl
theorem q129_70 : z_fi (z_mi 129) 70 = some (70, .invokevirtual 230, 0, 14, 3, 0, 0) := rfl
theorem q129_73 : z_fi (z_mi 129) 73 = some (73, .aload_n 0, 0, 0, 0, 0, 0) := rfl
theorem q129_74 : z_fi (z_mi 129) 74 = some (74, .getfield 16, 0, 9, 1, 0, 0) := rfl
theorem q129_77 : z_fi (z_mi 129) 77 = some (77, .iload_n 1, 0, 0, 0, 0, 0) := rfl
theorem q129_78 : z_fi (z_mi 129) 78 = some (78, .invokevirtual 196, 0, 19, 1, 0, 0) := rfl
theorem q129_81 : z_fi (z_mi 129) 81 = some (81, .aload_n 0, 0, 0, 0, 0, 0) := rfl
theorem q129_82 : z_fi (z_mi 129) 82 = some (82, .invokevirtual 202, 0, 126, 0, 0, 0) := rfl
theorem q129_85 : z_fi (z_mi 129) 85 = some (85, .iload_n 3, 0, 0, 0, 0, 0) := rfl
theorem q129_86 : z_fi (z_mi 129) 86 = some (86, .if_icmp .le 18, 0, 104, 0, 0, 0) := rfl
theorem q129_89 : z_fi (z_mi 129) 89 = some (89, .aload_n 0, 0, 0, 0, 0, 0) := rfl
theorem q129_90 : z_fi (z_mi 129) 90 = some (90, .invokevirtual 202, 0, 126, 0, 0, 0) := rfl
theorem q129_93 : z_fi (z_mi 129) 93 = some (93, .istore_n 3, 0, 0, 0, 0, 0) := rfl
theorem q129_94 : z_fi (z_mi 129) 94 = some (94, .bipush 10, 0, 0, 0, 10, 0) := rfl
theorem q129_96 : z_fi (z_mi 129) 96 = some (96, .iload 5, 0, 0, 0, 0, 0) := rfl
theorem q129_98 : z_fi (z_mi 129) 98 = some (98, .imul, 0, 0, 0, 0, 0) := rfl
theorem q129_99 : z_fi (z_mi 129) 99 = some (99, .iload 6, 0, 0, 0, 0, 0) := rfl
theorem q129_101 : z_fi (z_mi 129) 101 = some (101, .iadd, 0, 0, 0, 0, 0) := rfl
theorem q129_102 : z_fi (z_mi 129) 102 = some (102, .istore 4, 0, 0, 0, 0, 0) := rfl
theorem q129_104 : z_fi (z_mi 129) 104 = some (104, .iinc 6 1, 0, 0, 0, 1, 0) := rfl
theorem q129_107 : z_fi (z_mi 129) 107 = some (107, .goto (-63), 0, 44, 0, 0, 0) := rfl
theorem q129_110 : z_fi (z_mi 129) 110 = some (110, .iinc 5 1, 0, 0, 0, 1, 0) := rfl
theorem q129_113 : z_fi (z_mi 129) 113 = some (113, .goto (-84), 0, 29, 0, 0, 0) := rfl
theorem q129_116 : z_fi (z_mi 129) 116 = some (116, .iload_n 2, 0, 0, 0, 0, 0) := rfl
set_option maxRecDepth 8000 in
theorem q129_117 : z_fi (z_mi 129) 117 = some (117, .ifCond .ne 8, 0, 125, 0, 0, 0) := rfl
set_option maxRecDepth 8000 in
theorem q129_120 : z_fi (z_mi 129) 120 = some (120, .iload 4, 0, 0, 0, 0, 0) := rfl
set_option maxRecDepth 8000 in
theorem q129_122 : z_fi (z_mi 129) 122 = some (122, .goto 4, 0, 126, 0, 0, 0) := rfl
set_option maxRecDepth 8000 in
theorem q129_125 : z_fi (z_mi 129) 125 = some (125, .iload_n 3, 0, 0, 0, 0, 0) := rfl
set_option maxRecDepth 8000 in
theorem q129_126 : z_fi (z_mi 129) 126 = some (126, .ireturn, 0, 0, 0, 0, 0) := rfl
set_option maxRecDepth 20000 in
set_option maxHeartbeats 4000000 in
theorem t_Y_most {xL : Nat} {xs : Nat → Int32} {ρ : Nat → Nat → Option Nat} (hρ : z_hR ρ) (d : Nat) (a1 : Int32) (a2 : Int32) (σ : zS) : ∀ q, f_Y_most a1 a2 σ = some q → z_ec xL xs ρ (d + 7) 129 [.ref 0, .int a1, .int a2] σ (em_i q) := by
  refine j_of (W := [.ref 0, .int a1, .int a2, .null, .null, .null, .null]) (fun L hL => ?_) ?_
  · subst hL; exact z_vl_0 _ 4 rfl
  · unfold f_Y_most
    refine j_iload_n (pc' := 1) q129_0 rfl rfl ?_
    refine j_iconst (pc' := 2) q129_1 rfl ?_
    refine j_bipush (pc' := 4) q129_2 rfl ?_
    refine j_callS3_pi (d := d + 6) (pc' := 7) q129_4 (Or.inl rfl) (Nat.le_of_ble_eq_true rfl) (Nat.le_of_ble_eq_true rfl) rfl (t_Y_isIn hρ (d + 6) _ _ _ _) (fun r1 => ?_)
    refine j_if_eq (pc' := 10) q129_7 rfl (fun c2 => ?_) (fun c2 => ?_)
    · refine j_iconst (pc' := 20) q129_19 rfl ?_
      exact j_iret q129_20 rfl
    · refine j_iload_n (pc' := 11) q129_10 rfl rfl ?_
      refine j_iconst (pc' := 12) q129_11 rfl ?_
      refine j_iconst (pc' := 13) q129_12 rfl ?_
      refine j_callS3_pi (d := d + 6) (pc' := 16) q129_13 (Or.inl rfl) (Nat.le_of_ble_eq_true rfl) (Nat.le_of_ble_eq_true rfl) rfl (t_Y_isIn hρ (d + 6) _ _ _ _) (fun r3 => ?_)
      refine j_if_ne (pc' := 19) q129_16 rfl (fun c4 => ?_) (fun c4 => ?_)
      · refine j_iconst (pc' := 20) q129_19 rfl ?_
        exact j_iret q129_20 rfl
      · refine j_iconst (pc' := 22) q129_21 rfl ?_
        refine j_istore3 (pc' := 23) q129_22 rfl (Nat.le_of_ble_eq_true rfl) rfl ?_
        refine j_iconst (pc' := 24) q129_23 rfl ?_
        refine j_istore4 (pc' := 26) q129_24 rfl (Nat.le_of_ble_eq_true rfl) rfl ?_
        refine j_iconst (pc' := 27) q129_26 rfl ?_
        refine j_istore5 (pc' := 29) q129_27 rfl (Nat.le_of_ble_eq_true rfl) rfl ?_
        refine j_forget (V' := [.ref 0, .int a1, .int a2, .int (-1 : Int32), .int (0 : Int32), .int (0 : Int32), .null]) (z_le_s (z_le_s (z_le_s (z_le_s (z_le_s (z_le_s (z_le_n (z_le_nil)))))))) ?_
        refine j_loopX (S := Int32 × Int32 × Int32 × zS) (E := Int32 × Int32 × zS) (fun e => e) 116 (fun s5 => [.ref 0, .int a1, .int a2, .int s5.1, .int s5.2.1, .int s5.2.2.1, .null]) (fun s5 => s5.2.2.2) (fun b5 => [.null, .null, .int a2, .int b5.1, .int b5.2.1, .null, .null]) (fun b5 => b5.2.2) (fun b5 => ?_) (fun R5 hR5 hX5 s5 => ?_) ((-1 : Int32), (0 : Int32), (0 : Int32), σ)
        · show z_J _ _ _ _ _ _ _ _ _ _ _ _
          refine j_iload_n (pc' := 117) q129_116 rfl rfl ?_
          refine j_if_ne (pc' := 120) q129_117 rfl (fun c18 => ?_) (fun c18 => ?_)
          · refine j_iload (pc' := 122) q129_120 rfl rfl ?_
            refine j_goto q129_122 rfl ?_
            exact j_iret q129_126 rfl
          · refine j_iload_n (pc' := 126) q129_125 rfl rfl ?_
            exact j_iret q129_126 rfl
        · show z_J _ _ _ _ _ _ _ _ _ _ _ _
          refine j_iload (pc' := 31) q129_29 rfl rfl ?_
          refine j_aload_n (pc' := 32) q129_31 rfl (by decide) rfl ?_
          refine j_getr (k := 0) (q := 1) (pc' := 35) q129_32 rfl (hρ 0 0 1 rfl) rfl ?_
          refine j_callV0_pi (d := d + 6) (pc' := 38) q129_35 rfl (Nat.le_of_ble_eq_true rfl) (Nat.le_of_ble_eq_true rfl) rfl (t_G_cells_1 hρ (d + 6) _) (fun r6 => ?_)
          refine j_icmp_ge (pc' := 41) q129_38 rfl (fun c7 => ?_) (fun c7 => ?_)
          · exact j_exit (j_forget (z_le_n (z_le_n (z_le_s (z_le_s (z_le_s (z_le_n (z_le_n (z_le_nil)))))))) (hX5 (s5.1, s5.2.1, s5.2.2.2)))
          · refine j_iconst (pc' := 42) q129_41 rfl ?_
            refine j_istore6 (pc' := 44) q129_42 rfl (Nat.le_of_ble_eq_true rfl) rfl ?_
            refine j_forget (V' := [.ref 0, .int a1, .int a2, .int s5.1, .int s5.2.1, .int s5.2.2.1, .int (0 : Int32)]) (z_le_s (z_le_s (z_le_s (z_le_s (z_le_s (z_le_s (z_le_s (z_le_nil)))))))) ?_
            refine j_loopX (S := Int32 × Int32 × Int32 × zS) (E := Int32 × Int32 × zS) (fun e => e) 110 (fun s8 => [.ref 0, .int a1, .int a2, .int s8.1, .int s8.2.1, .int s5.2.2.1, .int s8.2.2.1]) (fun s8 => s8.2.2.2) (fun b8 => [.ref 0, .int a1, .int a2, .int b8.1, .int b8.2.1, .int s5.2.2.1, .null]) (fun b8 => b8.2.2) (fun b8 => ?_) (fun R8 hR8 hX8 s8 => ?_) (s5.1, s5.2.1, (0 : Int32), s5.2.2.2)
            · show z_J _ _ _ _ _ _ _ _ _ _ _ _
              refine j_iinc5 (pc' := 113) q129_110 rfl (Nat.le_of_ble_eq_true rfl) rfl ?_
              refine j_goto q129_113 rfl ?_
              exact j_again (j_forget (z_le_s (z_le_s (z_le_s (z_le_s (z_le_s (z_le_s (z_le_n (z_le_nil)))))))) (hR5 (b8.1, b8.2.1, (s5.2.2.1 + (1 : Int32)), b8.2.2)))
            · show z_J _ _ _ _ _ _ _ _ _ _ _ _
              refine j_iload (pc' := 46) q129_44 rfl rfl ?_
              refine j_iconst (pc' := 47) q129_46 rfl ?_
              refine j_icmp_ge (pc' := 50) q129_47 rfl (fun c9 => ?_) (fun c9 => ?_)
              · exact j_exit (j_forget (z_le_s (z_le_s (z_le_s (z_le_s (z_le_s (z_le_s (z_le_n (z_le_nil)))))))) (hX8 (s8.1, s8.2.1, s8.2.2.2)))
              · refine j_aload_n (pc' := 51) q129_50 rfl (by decide) rfl ?_
                refine j_getr (k := 0) (q := 17) (pc' := 54) q129_51 rfl (hρ 0 1 17 rfl) rfl ?_
                refine j_aload_n (pc' := 55) q129_54 rfl (by decide) rfl ?_
                refine j_getr (k := 0) (q := 1) (pc' := 58) q129_55 rfl (hρ 0 0 1 rfl) rfl ?_
                refine j_callV1_v (d := d + 6) (pc' := 61) q129_58 rfl (Nat.le_of_ble_eq_true rfl) (Nat.le_of_ble_eq_true rfl) rfl (t_G_copyFrom_17_1 hρ (d + 5) _) (fun r10 => ?_)
                refine j_aload_n (pc' := 62) q129_61 rfl (by decide) rfl ?_
                refine j_getr (k := 0) (q := 17) (pc' := 65) q129_62 rfl (hρ 0 1 17 rfl) rfl ?_
                refine j_iload (pc' := 67) q129_65 rfl rfl ?_
                refine j_iload (pc' := 69) q129_67 rfl rfl ?_
                refine j_iconst (pc' := 70) q129_69 rfl ?_
                refine j_callV3_v (d := d + 6) (pc' := 73) q129_70 rfl (Nat.le_of_ble_eq_true rfl) (Nat.le_of_ble_eq_true rfl) rfl (t_G_set_17 hρ (d + 5) _ _ _ _) (fun r11 => ?_)
                refine j_aload_n (pc' := 74) q129_73 rfl (by decide) rfl ?_
                refine j_getr (k := 0) (q := 17) (pc' := 77) q129_74 rfl (hρ 0 1 17 rfl) rfl ?_
                refine j_iload_n (pc' := 78) q129_77 rfl rfl ?_
                refine j_callV1_v (d := d + 6) (pc' := 81) q129_78 rfl (Nat.le_of_ble_eq_true rfl) (Nat.le_of_ble_eq_true rfl) rfl (t_G_goOn_17 hρ (d + 0) _ _) (fun r12 => ?_)
                refine j_aload_n (pc' := 82) q129_81 rfl (by decide) rfl ?_
                refine j_callV0_pi (d := d + 6) (pc' := 85) q129_82 rfl (Nat.le_of_ble_eq_true rfl) (Nat.le_of_ble_eq_true rfl) rfl (t_Y_ripeInTrial hρ (d + 5) _) (fun r13 => ?_)
                refine j_iload_n (pc' := 86) q129_85 rfl rfl ?_
                refine j_join (T := Int32 × Int32) 104 (fun t14 => [.ref 0, .int a1, .int a2, .int t14.1, .int t14.2, .int s5.2.2.1, .int s8.2.2.1]) (fun t14 => []) (fun t14 => r12) (fun t14 => ?_) (fun j14 hj14 => ?_)
                · show z_J _ _ _ _ _ _ _ _ _ _ _ _
                  refine j_iinc6 (pc' := 107) q129_104 rfl (Nat.le_of_ble_eq_true rfl) rfl ?_
                  refine j_goto q129_107 rfl ?_
                  exact j_again (j_forget (z_le_s (z_le_s (z_le_s (z_le_s (z_le_s (z_le_s (z_le_s (z_le_nil)))))))) (hR8 (t14.1, t14.2, (s8.2.2.1 + (1 : Int32)), r12)))
                · show z_J _ _ _ _ _ _ _ _ _ _ _ _
                  refine j_icmp_le (pc' := 89) q129_86 rfl (fun c15 => ?_) (fun c15 => ?_)
                  · refine j_forget (z_le_s (z_le_s (z_le_s (z_le_s (z_le_s (z_le_s (z_le_s (z_le_nil)))))))) (hj14 (s8.1, s8.2.1))
                  · refine j_aload_n (pc' := 90) q129_89 rfl (by decide) rfl ?_
                    refine j_callV0_pi (d := d + 6) (pc' := 93) q129_90 rfl (Nat.le_of_ble_eq_true rfl) (Nat.le_of_ble_eq_true rfl) rfl (t_Y_ripeInTrial hρ (d + 5) _) (fun r16 => ?_)
                    refine j_istore3 (pc' := 94) q129_93 rfl (Nat.le_of_ble_eq_true rfl) rfl ?_
                    refine j_bipush (pc' := 96) q129_94 rfl ?_
                    refine j_iload (pc' := 98) q129_96 rfl rfl ?_
                    refine j_imul (pc' := 99) q129_98 rfl ?_
                    refine j_iload (pc' := 101) q129_99 rfl rfl ?_
                    refine j_iadd (pc' := 102) q129_101 rfl ?_
                    refine j_nameI (fun v17 => ?_)
                    refine j_istore4 (pc' := 104) q129_102 rfl (Nat.le_of_ble_eq_true rfl) rfl ?_
                    refine j_forget (z_le_s (z_le_s (z_le_s (z_le_s (z_le_s (z_le_s (z_le_s (z_le_nil)))))))) (hj14 (r16, v17))
set_option maxRecDepth 8000 in
theorem q210_0 : z_fi (z_mi 210) 0 = some (0, .iload_n 1, 0, 0, 0, 0, 0) := rfl
set_option maxRecDepth 8000 in
theorem q210_1 : z_fi (z_mi 210) 1 = some (1, .i2l, 0, 0, 0, 0, 0) := rfl
set_option maxRecDepth 8000 in
theorem q210_2 : z_fi (z_mi 210) 2 = some (2, .lconst 1, 0, 0, 0, 0, 1) := rfl
set_option maxRecDepth 8000 in
theorem q210_3 : z_fi (z_mi 210) 3 = some (3, .ldc2_w 259, 0, 0, 0, 0, 12) := rfl
set_option maxRecDepth 8000 in
theorem q210_6 : z_fi (z_mi 210) 6 = some (6, .invokestatic 62, 1, 149, 3, 0, 0) := rfl
set_option maxRecDepth 8000 in
theorem q210_9 : z_fi (z_mi 210) 9 = some (9, .ifCond .eq 13, 0, 22, 0, 0, 0) := rfl
set_option maxRecDepth 8000 in
theorem q210_12 : z_fi (z_mi 210) 12 = some (12, .iload_n 2, 0, 0, 0, 0, 0) := rfl
set_option maxRecDepth 8000 in
theorem q210_13 : z_fi (z_mi 210) 13 = some (13, .i2l, 0, 0, 0, 0, 0) := rfl
set_option maxRecDepth 8000 in
theorem q210_14 : z_fi (z_mi 210) 14 = some (14, .lconst 0, 0, 0, 0, 0, 0) := rfl
set_option maxRecDepth 8000 in
theorem q210_15 : z_fi (z_mi 210) 15 = some (15, .lconst 1, 0, 0, 0, 0, 1) := rfl
set_option maxRecDepth 8000 in
theorem q210_16 : z_fi (z_mi 210) 16 = some (16, .invokestatic 62, 1, 149, 3, 0, 0) := rfl
set_option maxRecDepth 8000 in
theorem q210_19 : z_fi (z_mi 210) 19 = some (19, .ifCond .ne 5, 0, 24, 0, 0, 0) := rfl
set_option maxRecDepth 8000 in
theorem q210_22 : z_fi (z_mi 210) 22 = some (22, .iconst (-1), 0, 0, 0, (-1), 0) := rfl
set_option maxRecDepth 8000 in
theorem q210_23 : z_fi (z_mi 210) 23 = some (23, .ireturn, 0, 0, 0, 0, 0) := rfl
set_option maxRecDepth 8000 in
theorem q210_24 : z_fi (z_mi 210) 24 = some (24, .iconst (-1), 0, 0, 0, (-1), 0) := rfl
set_option maxRecDepth 8000 in
theorem q210_25 : z_fi (z_mi 210) 25 = some (25, .istore_n 3, 0, 0, 0, 0, 0) := rfl
set_option maxRecDepth 8000 in
theorem q210_26 : z_fi (z_mi 210) 26 = some (26, .iconst 0, 0, 0, 0, 0, 0) := rfl
set_option maxRecDepth 8000 in
theorem q210_27 : z_fi (z_mi 210) 27 = some (27, .istore 4, 0, 0, 0, 0, 0) := rfl
set_option maxRecDepth 8000 in
theorem q210_29 : z_fi (z_mi 210) 29 = some (29, .iconst 0, 0, 0, 0, 0, 0) := rfl
set_option maxRecDepth 8000 in
theorem q210_30 : z_fi (z_mi 210) 30 = some (30, .istore 5, 0, 0, 0, 0, 0) := rfl
set_option maxRecDepth 8000 in
theorem q210_32 : z_fi (z_mi 210) 32 = some (32, .iload 5, 0, 0, 0, 0, 0) := rfl
set_option maxRecDepth 8000 in
theorem q210_34 : z_fi (z_mi 210) 34 = some (34, .bipush 10, 0, 0, 0, 10, 0) := rfl
set_option maxRecDepth 8000 in
theorem q210_36 : z_fi (z_mi 210) 36 = some (36, .aload_n 0, 0, 0, 0, 0, 0) := rfl
set_option maxRecDepth 8000 in
theorem q210_37 : z_fi (z_mi 210) 37 = some (37, .getfield 13, 0, 10, 1, 0, 0) := rfl
set_option maxRecDepth 8000 in
theorem q210_40 : z_fi (z_mi 210) 40 = some (40, .imul, 0, 0, 0, 0, 0) := rfl
set_option maxRecDepth 8000 in
theorem q210_41 : z_fi (z_mi 210) 41 = some (41, .aload_n 0, 0, 0, 0, 0, 0) := rfl
set_option maxRecDepth 8000 in
theorem q210_42 : z_fi (z_mi 210) 42 = some (42, .getfield 17, 0, 10, 2, 0, 0) := rfl
set_option maxRecDepth 8000 in
theorem q210_45 : z_fi (z_mi 210) 45 = some (45, .imul, 0, 0, 0, 0, 0) := rfl
set_option maxRecDepth 8000 in
theorem q210_46 : z_fi (z_mi 210) 46 = some (46, .if_icmp .ge 80, 0, 126, 0, 0, 0) := rfl
set_option maxRecDepth 8000 in
theorem q210_49 : z_fi (z_mi 210) 49 = some (49, .iload 5, 0, 0, 0, 0, 0) := rfl
set_option maxRecDepth 8000 in
theorem q210_51 : z_fi (z_mi 210) 51 = some (51, .bipush 10, 0, 0, 0, 10, 0) := rfl
set_option maxRecDepth 8000 in
theorem q210_53 : z_fi (z_mi 210) 53 = some (53, .irem, 0, 0, 0, 0, 0) := rfl
set_option maxRecDepth 8000 in
theorem q210_54 : z_fi (z_mi 210) 54 = some (54, .iconst 4, 0, 0, 0, 4, 0) := rfl
set_option maxRecDepth 8000 in
theorem q210_55 : z_fi (z_mi 210) 55 = some (55, .if_icmp .ge 65, 0, 120, 0, 0, 0) := rfl
set_option maxRecDepth 8000 in
theorem q210_58 : z_fi (z_mi 210) 58 = some (58, .aload_n 0, 0, 0, 0, 0, 0) := rfl
set_option maxRecDepth 8000 in
theorem q210_59 : z_fi (z_mi 210) 59 = some (59, .iconst 0, 0, 0, 0, 0, 0) := rfl
set_option maxRecDepth 8000 in
theorem q210_60 : z_fi (z_mi 210) 60 = some (60, .sipush 440, 0, 0, 0, 440, 0) := rfl
set_option maxRecDepth 8000 in
theorem q210_63 : z_fi (z_mi 210) 63 = some (63, .invokevirtual 227, 0, 195, 2, 0, 0) := rfl
set_option maxRecDepth 8000 in
theorem q210_66 : z_fi (z_mi 210) 66 = some (66, .aload_n 0, 0, 0, 0, 0, 0) := rfl
set_option maxRecDepth 8000 in
theorem q210_67 : z_fi (z_mi 210) 67 = some (67, .sipush 440, 0, 0, 0, 440, 0) := rfl
set_option maxRecDepth 8000 in
theorem q210_70 : z_fi (z_mi 210) 70 = some (70, .iload 5, 0, 0, 0, 0, 0) := rfl
set_option maxRecDepth 8000 in
theorem q210_72 : z_fi (z_mi 210) 72 = some (72, .bipush 10, 0, 0, 0, 10, 0) := rfl
set_option maxRecDepth 8000 in
theorem q210_74 : z_fi (z_mi 210) 74 = some (74, .idiv, 0, 0, 0, 0, 0) := rfl
set_option maxRecDepth 8000 in
theorem q210_75 : z_fi (z_mi 210) 75 = some (75, .iload 5, 0, 0, 0, 0, 0) := rfl
set_option maxRecDepth 8000 in
theorem q210_77 : z_fi (z_mi 210) 77 = some (77, .bipush 10, 0, 0, 0, 10, 0) := rfl
set_option maxRecDepth 8000 in
theorem q210_79 : z_fi (z_mi 210) 79 = some (79, .irem, 0, 0, 0, 0, 0) := rfl
set_option maxRecDepth 8000 in
theorem q210_80 : z_fi (z_mi 210) 80 = some (80, .iconst 3, 0, 0, 0, 3, 0) := rfl
set_option maxRecDepth 8000 in
theorem q210_81 : z_fi (z_mi 210) 81 = some (81, .invokevirtual 187, 0, 178, 4, 0, 0) := rfl
set_option maxRecDepth 8000 in
theorem q210_84 : z_fi (z_mi 210) 84 = some (84, .aload_n 0, 0, 0, 0, 0, 0) := rfl
set_option maxRecDepth 8000 in
theorem q210_85 : z_fi (z_mi 210) 85 = some (85, .iload_n 1, 0, 0, 0, 0, 0) := rfl
set_option maxRecDepth 8000 in
theorem q210_86 : z_fi (z_mi 210) 86 = some (86, .iconst 0, 0, 0, 0, 0, 0) := rfl
set_option maxRecDepth 8000 in
theorem q210_87 : z_fi (z_mi 210) 87 = some (87, .invokevirtual 230, 0, 200, 2, 0, 0) := rfl
set_option maxRecDepth 8000 in
theorem q210_90 : z_fi (z_mi 210) 90 = some (90, .istore 6, 0, 0, 0, 0, 0) := rfl
set_option maxRecDepth 8000 in
theorem q210_92 : z_fi (z_mi 210) 92 = some (92, .iload 6, 0, 0, 0, 0, 0) := rfl
set_option maxRecDepth 8000 in
theorem q210_94 : z_fi (z_mi 210) 94 = some (94, .iload_n 3, 0, 0, 0, 0, 0) := rfl
set_option maxRecDepth 8000 in
theorem q210_95 : z_fi (z_mi 210) 95 = some (95, .if_icmp .le 8, 0, 103, 0, 0, 0) := rfl
set_option maxRecDepth 8000 in
theorem q210_98 : z_fi (z_mi 210) 98 = some (98, .iload 5, 0, 0, 0, 0, 0) := rfl
set_option maxRecDepth 8000 in
theorem q210_100 : z_fi (z_mi 210) 100 = some (100, .goto 5, 0, 105, 0, 0, 0) := rfl
set_option maxRecDepth 8000 in
theorem q210_103 : z_fi (z_mi 210) 103 = some (103, .iload 4, 0, 0, 0, 0, 0) := rfl
set_option maxRecDepth 8000 in
theorem q210_105 : z_fi (z_mi 210) 105 = some (105, .istore 4, 0, 0, 0, 0, 0) := rfl
set_option maxRecDepth 8000 in
theorem q210_107 : z_fi (z_mi 210) 107 = some (107, .iload 6, 0, 0, 0, 0, 0) := rfl
set_option maxRecDepth 8000 in
theorem q210_109 : z_fi (z_mi 210) 109 = some (109, .iload_n 3, 0, 0, 0, 0, 0) := rfl
set_option maxRecDepth 8000 in
theorem q210_110 : z_fi (z_mi 210) 110 = some (110, .if_icmp .le 8, 0, 118, 0, 0, 0) := rfl
set_option maxRecDepth 8000 in
theorem q210_113 : z_fi (z_mi 210) 113 = some (113, .iload 6, 0, 0, 0, 0, 0) := rfl
set_option maxRecDepth 8000 in
theorem q210_115 : z_fi (z_mi 210) 115 = some (115, .goto 4, 0, 119, 0, 0, 0) := rfl
set_option maxRecDepth 8000 in
theorem q210_118 : z_fi (z_mi 210) 118 = some (118, .iload_n 3, 0, 0, 0, 0, 0) := rfl
set_option maxRecDepth 8000 in
theorem q210_119 : z_fi (z_mi 210) 119 = some (119, .istore_n 3, 0, 0, 0, 0, 0) := rfl
set_option maxRecDepth 8000 in
theorem q210_120 : z_fi (z_mi 210) 120 = some (120, .iinc 5 1, 0, 0, 0, 1, 0) := rfl
set_option maxRecDepth 8000 in
theorem q210_123 : z_fi (z_mi 210) 123 = some (123, .goto (-91), 0, 32, 0, 0, 0) := rfl
set_option maxRecDepth 8000 in
theorem q210_126 : z_fi (z_mi 210) 126 = some (126, .iload_n 2, 0, 0, 0, 0, 0) := rfl
set_option maxRecDepth 8000 in
theorem q210_127 : z_fi (z_mi 210) 127 = some (127, .ifCond .ne 8, 0, 135, 0, 0, 0) := rfl
set_option maxRecDepth 8000 in
theorem q210_130 : z_fi (z_mi 210) 130 = some (130, .iload 4, 0, 0, 0, 0, 0) := rfl
set_option maxRecDepth 8000 in
theorem q210_132 : z_fi (z_mi 210) 132 = some (132, .goto 4, 0, 136, 0, 0, 0) := rfl
set_option maxRecDepth 8000 in
theorem q210_135 : z_fi (z_mi 210) 135 = some (135, .iload_n 3, 0, 0, 0, 0, 0) := rfl
set_option maxRecDepth 8000 in
theorem q210_136 : z_fi (z_mi 210) 136 = some (136, .ireturn, 0, 0, 0, 0, 0) := rfl
set_option maxRecDepth 20000 in
set_option maxHeartbeats 4000000 in
theorem t_M_most {xL : Nat} {xs : Nat → Int32} {ρ : Nat → Nat → Option Nat} (hρ : z_hR ρ) (d : Nat) (a1 : Int32) (a2 : Int32) (σ : zS) : ∀ q, f_M_most a1 a2 σ = some q → z_ec xL xs ρ (d + 5) 210 [.ref 90, .int a1, .int a2] σ (em_i q) := by
  refine j_of (W := [.ref 90, .int a1, .int a2, .null, .null, .null, .null]) (fun L hL => ?_) ?_
  · subst hL; exact z_vl_0 _ 4 rfl
  · unfold f_M_most
    refine j_iload_n (pc' := 1) q210_0 rfl rfl ?_
    refine j_i2l (pc' := 2) q210_1 rfl ?_
    refine j_lconst (pc' := 3) q210_2 rfl ?_
    refine j_ldc2 (pc' := 6) q210_3 rfl ?_
    refine j_callS3_pi (d := d + 4) (pc' := 9) q210_6 (Or.inl rfl) (Nat.le_of_ble_eq_true rfl) (Nat.le_of_ble_eq_true rfl) rfl (t_M_in hρ (d + 4) _ _ _ _) (fun r1 => ?_)
    refine j_if_eq (pc' := 12) q210_9 rfl (fun c2 => ?_) (fun c2 => ?_)
    · refine j_iconst (pc' := 23) q210_22 rfl ?_
      exact j_iret q210_23 rfl
    · refine j_iload_n (pc' := 13) q210_12 rfl rfl ?_
      refine j_i2l (pc' := 14) q210_13 rfl ?_
      refine j_lconst (pc' := 15) q210_14 rfl ?_
      refine j_lconst (pc' := 16) q210_15 rfl ?_
      refine j_callS3_pi (d := d + 4) (pc' := 19) q210_16 (Or.inl rfl) (Nat.le_of_ble_eq_true rfl) (Nat.le_of_ble_eq_true rfl) rfl (t_M_in hρ (d + 4) _ _ _ _) (fun r3 => ?_)
      refine j_if_ne (pc' := 22) q210_19 rfl (fun c4 => ?_) (fun c4 => ?_)
      · refine j_iconst (pc' := 23) q210_22 rfl ?_
        exact j_iret q210_23 rfl
      · refine j_iconst (pc' := 25) q210_24 rfl ?_
        refine j_istore3 (pc' := 26) q210_25 rfl (Nat.le_of_ble_eq_true rfl) rfl ?_
        refine j_iconst (pc' := 27) q210_26 rfl ?_
        refine j_istore4 (pc' := 29) q210_27 rfl (Nat.le_of_ble_eq_true rfl) rfl ?_
        refine j_iconst (pc' := 30) q210_29 rfl ?_
        refine j_istore5 (pc' := 32) q210_30 rfl (Nat.le_of_ble_eq_true rfl) rfl ?_
        refine j_forget (V' := [.ref 90, .int a1, .int a2, .int (-1 : Int32), .int (0 : Int32), .int (0 : Int32), .null]) (z_le_s (z_le_s (z_le_s (z_le_s (z_le_s (z_le_s (z_le_n (z_le_nil)))))))) ?_
        refine j_loopX (S := Int32 × Int32 × Int32 × zS) (E := Int32 × Int32 × zS) (fun e => e) 126 (fun s5 => [.ref 90, .int a1, .int a2, .int s5.1, .int s5.2.1, .int s5.2.2.1, .null]) (fun s5 => s5.2.2.2) (fun b5 => [.null, .null, .int a2, .int b5.1, .int b5.2.1, .null, .null]) (fun b5 => b5.2.2) (fun b5 => ?_) (fun R5 hR5 hX5 s5 => ?_) ((-1 : Int32), (0 : Int32), (0 : Int32), σ)
        · show z_J _ _ _ _ _ _ _ _ _ _ _ _
          refine j_iload_n (pc' := 127) q210_126 rfl rfl ?_
          refine j_if_ne (pc' := 130) q210_127 rfl (fun c16 => ?_) (fun c16 => ?_)
          · refine j_iload (pc' := 132) q210_130 rfl rfl ?_
            refine j_goto q210_132 rfl ?_
            exact j_iret q210_136 rfl
          · refine j_iload_n (pc' := 136) q210_135 rfl rfl ?_
            exact j_iret q210_136 rfl
        · show z_J _ _ _ _ _ _ _ _ _ _ _ _
          refine j_iload (pc' := 34) q210_32 rfl rfl ?_
          refine j_bipush (pc' := 36) q210_34 rfl ?_
          refine j_aload_n (pc' := 37) q210_36 rfl (by decide) rfl ?_
          refine j_getf (k := 90) (pc' := 40) q210_37 rfl rfl ?_
          refine j_imul (pc' := 41) q210_40 rfl ?_
          refine j_aload_n (pc' := 42) q210_41 rfl (by decide) rfl ?_
          refine j_getf (k := 90) (pc' := 45) q210_42 rfl rfl ?_
          refine j_imul (pc' := 46) q210_45 rfl ?_
          refine j_icmp_ge (pc' := 49) q210_46 rfl (fun c6 => ?_) (fun c6 => ?_)
          · exact j_exit (j_forget (z_le_n (z_le_n (z_le_s (z_le_s (z_le_s (z_le_n (z_le_n (z_le_nil)))))))) (hX5 (s5.1, s5.2.1, s5.2.2.2)))
          · refine j_iload (pc' := 51) q210_49 rfl rfl ?_
            refine j_bipush (pc' := 53) q210_51 rfl ?_
            refine j_irem (pc' := 54) q210_53 (by decide) rfl ?_
            refine j_iconst (pc' := 55) q210_54 rfl ?_
            refine j_join (T := Int32 × Int32 × zS) 120 (fun t7 => [.ref 90, .int a1, .int a2, .int t7.1, .int t7.2.1, .int s5.2.2.1, .null]) (fun t7 => []) (fun t7 => t7.2.2) (fun t7 => ?_) (fun j7 hj7 => ?_)
            · show z_J _ _ _ _ _ _ _ _ _ _ _ _
              refine j_iinc5 (pc' := 123) q210_120 rfl (Nat.le_of_ble_eq_true rfl) rfl ?_
              refine j_goto q210_123 rfl ?_
              exact j_again (j_forget (z_le_s (z_le_s (z_le_s (z_le_s (z_le_s (z_le_s (z_le_n (z_le_nil)))))))) (hR5 (t7.1, t7.2.1, (s5.2.2.1 + (1 : Int32)), t7.2.2)))
            · show z_J _ _ _ _ _ _ _ _ _ _ _ _
              refine j_icmp_ge (pc' := 58) q210_55 rfl (fun c8 => ?_) (fun c8 => ?_)
              · refine j_forget (z_le_s (z_le_s (z_le_s (z_le_s (z_le_s (z_le_s (z_le_n (z_le_nil)))))))) (hj7 (s5.1, s5.2.1, s5.2.2.2))
              · refine j_aload_n (pc' := 59) q210_58 rfl (by decide) rfl ?_
                refine j_iconst (pc' := 60) q210_59 rfl ?_
                refine j_sipush (pc' := 63) q210_60 rfl ?_
                refine j_callV2_v (d := d + 4) (pc' := 66) q210_63 rfl (Nat.le_of_ble_eq_true rfl) (Nat.le_of_ble_eq_true rfl) rfl (t_M_copies hρ (d + 4) _ _ _) (fun r9 => ?_)
                refine j_aload_n (pc' := 67) q210_66 rfl (by decide) rfl ?_
                refine j_sipush (pc' := 70) q210_67 rfl ?_
                refine j_iload (pc' := 72) q210_70 rfl rfl ?_
                refine j_bipush (pc' := 74) q210_72 rfl ?_
                refine j_idiv (pc' := 75) q210_74 (by decide) rfl ?_
                refine j_iload (pc' := 77) q210_75 rfl rfl ?_
                refine j_bipush (pc' := 79) q210_77 rfl ?_
                refine j_irem (pc' := 80) q210_79 (by decide) rfl ?_
                refine j_iconst (pc' := 81) q210_80 rfl ?_
                refine j_callV4_v (d := d + 4) (pc' := 84) q210_81 rfl (Nat.le_of_ble_eq_true rfl) (Nat.le_of_ble_eq_true rfl) rfl (t_M_lays hρ (d + 4) _ _ _ _ _) (fun r10 => ?_)
                refine j_aload_n (pc' := 85) q210_84 rfl (by decide) rfl ?_
                refine j_iload_n (pc' := 86) q210_85 rfl rfl ?_
                refine j_iconst (pc' := 87) q210_86 rfl ?_
                refine j_callV2_i (d := d + 4) (pc' := 90) q210_87 rfl (Nat.le_of_ble_eq_true rfl) (Nat.le_of_ble_eq_true rfl) rfl (t_M_triedBy hρ (d + 0) _ _ _) (fun r11 => ?_)
                refine j_istore6 (pc' := 92) q210_90 rfl (Nat.le_of_ble_eq_true rfl) rfl ?_
                refine j_iload (pc' := 94) q210_92 rfl rfl ?_
                refine j_iload_n (pc' := 95) q210_94 rfl rfl ?_
                refine j_join (T := Int32) 105 (fun t12 => [.ref 90, .int a1, .int a2, .int s5.1, .null, .int s5.2.2.1, .int r11.1]) (fun t12 => [.int t12]) (fun t12 => r11.2) (fun t12 => ?_) (fun j12 hj12 => ?_)
                · show z_J _ _ _ _ _ _ _ _ _ _ _ _
                  refine j_istore4 (pc' := 107) q210_105 rfl (Nat.le_of_ble_eq_true rfl) rfl ?_
                  refine j_iload (pc' := 109) q210_107 rfl rfl ?_
                  refine j_iload_n (pc' := 110) q210_109 rfl rfl ?_
                  refine j_join (T := Int32) 119 (fun t13 => [.ref 90, .int a1, .int a2, .null, .int t12, .int s5.2.2.1, .null]) (fun t13 => [.int t13]) (fun t13 => r11.2) (fun t13 => ?_) (fun j13 hj13 => ?_)
                  · show z_J _ _ _ _ _ _ _ _ _ _ _ _
                    refine j_istore3 (pc' := 120) q210_119 rfl (Nat.le_of_ble_eq_true rfl) rfl ?_
                    refine j_forget (z_le_s (z_le_s (z_le_s (z_le_s (z_le_s (z_le_s (z_le_n (z_le_nil)))))))) (hj7 (t13, t12, r11.2))
                  · show z_J _ _ _ _ _ _ _ _ _ _ _ _
                    refine j_icmp_le (pc' := 113) q210_110 rfl (fun c14 => ?_) (fun c14 => ?_)
                    · refine j_iload_n (pc' := 119) q210_118 rfl rfl ?_
                      refine j_forget (z_le_s (z_le_s (z_le_s (z_le_n (z_le_s (z_le_s (z_le_n (z_le_nil)))))))) (hj13 s5.1)
                    · refine j_iload (pc' := 115) q210_113 rfl rfl ?_
                      refine j_goto q210_115 rfl ?_
                      refine j_forget (z_le_s (z_le_s (z_le_s (z_le_n (z_le_s (z_le_s (z_le_n (z_le_nil)))))))) (hj13 r11.1)
                · show z_J _ _ _ _ _ _ _ _ _ _ _ _
                  refine j_icmp_le (pc' := 98) q210_95 rfl (fun c15 => ?_) (fun c15 => ?_)
                  · refine j_iload (pc' := 105) q210_103 rfl rfl ?_
                    refine j_forget (z_le_s (z_le_s (z_le_s (z_le_s (z_le_n (z_le_s (z_le_s (z_le_nil)))))))) (hj12 s5.2.1)
                  · refine j_iload (pc' := 100) q210_98 rfl rfl ?_
                    refine j_goto q210_100 rfl ?_
                    refine j_forget (z_le_s (z_le_s (z_le_s (z_le_s (z_le_n (z_le_s (z_le_s (z_le_nil)))))))) (hj12 s5.2.2.1)
theorem q130_0 : z_fi (z_mi 130) 0 = some (0, .iload_n 1, 0, 0, 0, 0, 0) := rfl
theorem q130_1 : z_fi (z_mi 130) 1 = some (1, .iconst 1, 0, 0, 0, 1, 0) := rfl
theorem q130_2 : z_fi (z_mi 130) 2 = some (2, .bipush 12, 0, 0, 0, 12, 0) := rfl
theorem q130_4 : z_fi (z_mi 130) 4 = some (4, .invokestatic 60, 1, 99, 3, 0, 0) := rfl
theorem q130_7 : z_fi (z_mi 130) 7 = some (7, .ifCond .eq 12, 0, 19, 0, 0, 0) := rfl
theorem q130_10 : z_fi (z_mi 130) 10 = some (10, .iload_n 2, 0, 0, 0, 0, 0) := rfl
theorem q130_11 : z_fi (z_mi 130) 11 = some (11, .iconst 0, 0, 0, 0, 0, 0) := rfl
theorem q130_12 : z_fi (z_mi 130) 12 = some (12, .iconst 1, 0, 0, 0, 1, 0) := rfl
theorem q130_13 : z_fi (z_mi 130) 13 = some (13, .invokestatic 60, 1, 99, 3, 0, 0) := rfl
theorem q130_16 : z_fi (z_mi 130) 16 = some (16, .ifCond .ne 5, 0, 21, 0, 0, 0) := rfl
theorem q130_19 : z_fi (z_mi 130) 19 = some (19, .iconst (-1), 0, 0, 0, (-1), 0) := rfl
theorem q130_20 : z_fi (z_mi 130) 20 = some (20, .ireturn, 0, 0, 0, 0, 0) := rfl
theorem q130_21 : z_fi (z_mi 130) 21 = some (21, .aload_n 0, 0, 0, 0, 0, 0) := rfl
theorem q130_22 : z_fi (z_mi 130) 22 = some (22, .getfield 16, 0, 9, 1, 0, 0) := rfl
theorem q130_25 : z_fi (z_mi 130) 25 = some (25, .aload_n 0, 0, 0, 0, 0, 0) := rfl
theorem q130_26 : z_fi (z_mi 130) 26 = some (26, .getfield 10, 0, 9, 0, 0, 0) := rfl
theorem q130_29 : z_fi (z_mi 130) 29 = some (29, .invokevirtual 85, 0, 6, 1, 0, 0) := rfl
theorem q130_32 : z_fi (z_mi 130) 32 = some (32, .aload_n 0, 0, 0, 0, 0, 0) := rfl
theorem q130_33 : z_fi (z_mi 130) 33 = some (33, .getfield 16, 0, 9, 1, 0, 0) := rfl
theorem q130_36 : z_fi (z_mi 130) 36 = some (36, .iload_n 1, 0, 0, 0, 0, 0) := rfl
theorem q130_37 : z_fi (z_mi 130) 37 = some (37, .invokevirtual 196, 0, 19, 1, 0, 0) := rfl
theorem q130_40 : z_fi (z_mi 130) 40 = some (40, .aload_n 0, 0, 0, 0, 0, 0) := rfl
theorem q130_41 : z_fi (z_mi 130) 41 = some (41, .invokevirtual 205, 0, 127, 0, 0, 0) := rfl
theorem q130_44 : z_fi (z_mi 130) 44 = some (44, .istore_n 3, 0, 0, 0, 0, 0) := rfl
theorem q130_45 : z_fi (z_mi 130) 45 = some (45, .bipush (-4), 0, 0, 0, (-4), 0) := rfl
theorem q130_47 : z_fi (z_mi 130) 47 = some (47, .istore 4, 0, 0, 0, 0, 0) := rfl
theorem q130_49 : z_fi (z_mi 130) 49 = some (49, .iconst 0, 0, 0, 0, 0, 0) := rfl
theorem q130_50 : z_fi (z_mi 130) 50 = some (50, .istore 5, 0, 0, 0, 0, 0) := rfl
theorem q130_52 : z_fi (z_mi 130) 52 = some (52, .iload 5, 0, 0, 0, 0, 0) := rfl
theorem q130_54 : z_fi (z_mi 130) 54 = some (54, .bipush 32, 0, 0, 0, 32, 0) := rfl
theorem q130_56 : z_fi (z_mi 130) 56 = some (56, .if_icmp .ge 79, 0, 135, 0, 0, 0) := rfl
theorem q130_59 : z_fi (z_mi 130) 59 = some (59, .aload_n 0, 0, 0, 0, 0, 0) := rfl
theorem q130_60 : z_fi (z_mi 130) 60 = some (60, .getfield 10, 0, 9, 0, 0, 0) := rfl
theorem q130_63 : z_fi (z_mi 130) 63 = some (63, .iload 5, 0, 0, 0, 0, 0) := rfl
theorem q130_65 : z_fi (z_mi 130) 65 = some (65, .invokevirtual 130, 0, 10, 1, 0, 0) := rfl
theorem q130_68 : z_fi (z_mi 130) 68 = some (68, .ifCond .eq 61, 0, 129, 0, 0, 0) := rfl
theorem q130_71 : z_fi (z_mi 130) 71 = some (71, .aload_n 0, 0, 0, 0, 0, 0) := rfl
theorem q130_72 : z_fi (z_mi 130) 72 = some (72, .getfield 10, 0, 9, 0, 0, 0) := rfl
theorem q130_75 : z_fi (z_mi 130) 75 = some (75, .iload 5, 0, 0, 0, 0, 0) := rfl
theorem q130_77 : z_fi (z_mi 130) 77 = some (77, .invokevirtual 133, 0, 11, 1, 0, 0) := rfl
theorem q130_80 : z_fi (z_mi 130) 80 = some (80, .ifCond .eq 49, 0, 129, 0, 0, 0) := rfl
theorem q130_83 : z_fi (z_mi 130) 83 = some (83, .aload_n 0, 0, 0, 0, 0, 0) := rfl
theorem q130_84 : z_fi (z_mi 130) 84 = some (84, .getfield 16, 0, 9, 1, 0, 0) := rfl
theorem q130_87 : z_fi (z_mi 130) 87 = some (87, .aload_n 0, 0, 0, 0, 0, 0) := rfl
theorem q130_88 : z_fi (z_mi 130) 88 = some (88, .getfield 10, 0, 9, 0, 0, 0) := rfl
theorem q130_91 : z_fi (z_mi 130) 91 = some (91, .invokevirtual 85, 0, 6, 1, 0, 0) := rfl
theorem q130_94 : z_fi (z_mi 130) 94 = some (94, .aload_n 0, 0, 0, 0, 0, 0) := rfl
theorem q130_95 : z_fi (z_mi 130) 95 = some (95, .getfield 16, 0, 9, 1, 0, 0) := rfl
theorem q130_98 : z_fi (z_mi 130) 98 = some (98, .iload 5, 0, 0, 0, 0, 0) := rfl
theorem q130_100 : z_fi (z_mi 130) 100 = some (100, .iconst 1, 0, 0, 0, 1, 0) := rfl
theorem q130_101 : z_fi (z_mi 130) 101 = some (101, .invokevirtual 188, 0, 12, 2, 0, 0) := rfl
theorem q130_104 : z_fi (z_mi 130) 104 = some (104, .aload_n 0, 0, 0, 0, 0, 0) := rfl
theorem q130_105 : z_fi (z_mi 130) 105 = some (105, .getfield 16, 0, 9, 1, 0, 0) := rfl
theorem q130_108 : z_fi (z_mi 130) 108 = some (108, .iload_n 1, 0, 0, 0, 0, 0) := rfl
theorem q130_109 : z_fi (z_mi 130) 109 = some (109, .invokevirtual 196, 0, 19, 1, 0, 0) := rfl
theorem q130_112 : z_fi (z_mi 130) 112 = some (112, .aload_n 0, 0, 0, 0, 0, 0) := rfl
theorem q130_113 : z_fi (z_mi 130) 113 = some (113, .invokevirtual 205, 0, 127, 0, 0, 0) := rfl
theorem q130_116 : z_fi (z_mi 130) 116 = some (116, .iload_n 3, 0, 0, 0, 0, 0) := rfl
theorem q130_117 : z_fi (z_mi 130) 117 = some (117, .if_icmp .ge 12, 0, 129, 0, 0, 0) := rfl
theorem q130_120 : z_fi (z_mi 130) 120 = some (120, .aload_n 0, 0, 0, 0, 0, 0) := rfl
theorem q130_121 : z_fi (z_mi 130) 121 = some (121, .invokevirtual 205, 0, 127, 0, 0, 0) := rfl
set_option maxRecDepth 8000 in
theorem q130_124 : z_fi (z_mi 130) 124 = some (124, .istore_n 3, 0, 0, 0, 0, 0) := rfl
set_option maxRecDepth 8000 in
theorem q130_125 : z_fi (z_mi 130) 125 = some (125, .iload 5, 0, 0, 0, 0, 0) := rfl
set_option maxRecDepth 8000 in
theorem q130_127 : z_fi (z_mi 130) 127 = some (127, .istore 4, 0, 0, 0, 0, 0) := rfl
set_option maxRecDepth 8000 in
theorem q130_129 : z_fi (z_mi 130) 129 = some (129, .iinc 5 1, 0, 0, 0, 1, 0) := rfl
set_option maxRecDepth 8000 in
theorem q130_132 : z_fi (z_mi 130) 132 = some (132, .goto (-80), 0, 52, 0, 0, 0) := rfl
set_option maxRecDepth 8000 in
theorem q130_135 : z_fi (z_mi 130) 135 = some (135, .iload 4, 0, 0, 0, 0, 0) := rfl
set_option maxRecDepth 8000 in
theorem q130_137 : z_fi (z_mi 130) 137 = some (137, .bipush (-4), 0, 0, 0, (-4), 0) := rfl
set_option maxRecDepth 8000 in
theorem q130_139 : z_fi (z_mi 130) 139 = some (139, .if_icmp .eq 7, 0, 146, 0, 0, 0) := rfl
set_option maxRecDepth 8000 in
theorem q130_142 : z_fi (z_mi 130) 142 = some (142, .iload_n 2, 0, 0, 0, 0, 0) := rfl
set_option maxRecDepth 8000 in
theorem q130_143 : z_fi (z_mi 130) 143 = some (143, .ifCond .ne 8, 0, 151, 0, 0, 0) := rfl
set_option maxRecDepth 8000 in
theorem q130_146 : z_fi (z_mi 130) 146 = some (146, .iload 4, 0, 0, 0, 0, 0) := rfl
set_option maxRecDepth 8000 in
theorem q130_148 : z_fi (z_mi 130) 148 = some (148, .goto 4, 0, 152, 0, 0, 0) := rfl
set_option maxRecDepth 8000 in
theorem q130_151 : z_fi (z_mi 130) 151 = some (151, .iload_n 3, 0, 0, 0, 0, 0) := rfl
set_option maxRecDepth 8000 in
theorem q130_152 : z_fi (z_mi 130) 152 = some (152, .ireturn, 0, 0, 0, 0, 0) := rfl
set_option maxRecDepth 20000 in
set_option maxHeartbeats 4000000 in
theorem t_Y_fence {xL : Nat} {xs : Nat → Int32} {ρ : Nat → Nat → Option Nat} (hρ : z_hR ρ) (d : Nat) (a1 : Int32) (a2 : Int32) (σ : zS) : ∀ q, f_Y_fence a1 a2 σ = some q → z_ec xL xs ρ (d + 7) 130 [.ref 0, .int a1, .int a2] σ (em_i q) := by
  refine j_of (W := [.ref 0, .int a1, .int a2, .null, .null, .null]) (fun L hL => ?_) ?_
  · subst hL; exact z_vl_0 _ 3 rfl
  · unfold f_Y_fence
    refine j_iload_n (pc' := 1) q130_0 rfl rfl ?_
    refine j_iconst (pc' := 2) q130_1 rfl ?_
    refine j_bipush (pc' := 4) q130_2 rfl ?_
    refine j_callS3_pi (d := d + 6) (pc' := 7) q130_4 (Or.inl rfl) (Nat.le_of_ble_eq_true rfl) (Nat.le_of_ble_eq_true rfl) rfl (t_Y_isIn hρ (d + 6) _ _ _ _) (fun r1 => ?_)
    refine j_if_eq (pc' := 10) q130_7 rfl (fun c2 => ?_) (fun c2 => ?_)
    · refine j_iconst (pc' := 20) q130_19 rfl ?_
      exact j_iret q130_20 rfl
    · refine j_iload_n (pc' := 11) q130_10 rfl rfl ?_
      refine j_iconst (pc' := 12) q130_11 rfl ?_
      refine j_iconst (pc' := 13) q130_12 rfl ?_
      refine j_callS3_pi (d := d + 6) (pc' := 16) q130_13 (Or.inl rfl) (Nat.le_of_ble_eq_true rfl) (Nat.le_of_ble_eq_true rfl) rfl (t_Y_isIn hρ (d + 6) _ _ _ _) (fun r3 => ?_)
      refine j_if_ne (pc' := 19) q130_16 rfl (fun c4 => ?_) (fun c4 => ?_)
      · refine j_iconst (pc' := 20) q130_19 rfl ?_
        exact j_iret q130_20 rfl
      · refine j_aload_n (pc' := 22) q130_21 rfl (by decide) rfl ?_
        refine j_getr (k := 0) (q := 17) (pc' := 25) q130_22 rfl (hρ 0 1 17 rfl) rfl ?_
        refine j_aload_n (pc' := 26) q130_25 rfl (by decide) rfl ?_
        refine j_getr (k := 0) (q := 1) (pc' := 29) q130_26 rfl (hρ 0 0 1 rfl) rfl ?_
        refine j_callV1_v (d := d + 6) (pc' := 32) q130_29 rfl (Nat.le_of_ble_eq_true rfl) (Nat.le_of_ble_eq_true rfl) rfl (t_G_copyFrom_17_1 hρ (d + 5) _) (fun r5 => ?_)
        refine j_aload_n (pc' := 33) q130_32 rfl (by decide) rfl ?_
        refine j_getr (k := 0) (q := 17) (pc' := 36) q130_33 rfl (hρ 0 1 17 rfl) rfl ?_
        refine j_iload_n (pc' := 37) q130_36 rfl rfl ?_
        refine j_callV1_v (d := d + 6) (pc' := 40) q130_37 rfl (Nat.le_of_ble_eq_true rfl) (Nat.le_of_ble_eq_true rfl) rfl (t_G_goOn_17 hρ (d + 0) _ _) (fun r6 => ?_)
        refine j_aload_n (pc' := 41) q130_40 rfl (by decide) rfl ?_
        refine j_callV0_pi (d := d + 6) (pc' := 44) q130_41 rfl (Nat.le_of_ble_eq_true rfl) (Nat.le_of_ble_eq_true rfl) rfl (t_Y_spoiledInTrial hρ (d + 6) _) (fun r7 => ?_)
        refine j_istore3 (pc' := 45) q130_44 rfl (Nat.le_of_ble_eq_true rfl) rfl ?_
        refine j_bipush (pc' := 47) q130_45 rfl ?_
        refine j_istore4 (pc' := 49) q130_47 rfl (Nat.le_of_ble_eq_true rfl) rfl ?_
        refine j_iconst (pc' := 50) q130_49 rfl ?_
        refine j_istore5 (pc' := 52) q130_50 rfl (Nat.le_of_ble_eq_true rfl) rfl ?_
        refine j_forget (V' := [.ref 0, .int a1, .int a2, .int r7, .int (-4 : Int32), .int (0 : Int32)]) (z_le_s (z_le_s (z_le_s (z_le_s (z_le_s (z_le_s (z_le_nil))))))) ?_
        refine j_loopX (S := Int32 × Int32 × Int32 × zS) (E := Int32 × Int32 × zS) (fun e => e) 135 (fun s8 => [.ref 0, .int a1, .int a2, .int s8.1, .int s8.2.1, .int s8.2.2.1]) (fun s8 => s8.2.2.2) (fun b8 => [.null, .null, .int a2, .int b8.1, .int b8.2.1, .null]) (fun b8 => b8.2.2) (fun b8 => ?_) (fun R8 hR8 hX8 s8 => ?_) (r7, (-4 : Int32), (0 : Int32), r6)
        · show z_J _ _ _ _ _ _ _ _ _ _ _ _
          refine j_iload (pc' := 137) q130_135 rfl rfl ?_
          refine j_bipush (pc' := 139) q130_137 rfl ?_
          refine j_join (T := Unit) 146 (fun t21 => [.null, .null, .null, .null, .int b8.2.1, .null]) (fun t21 => []) (fun t21 => b8.2.2) (fun t21 => ?_) (fun j21 hj21 => ?_)
          · show z_J _ _ _ _ _ _ _ _ _ _ _ _
            refine j_iload (pc' := 148) q130_146 rfl rfl ?_
            refine j_goto q130_148 rfl ?_
            exact j_iret q130_152 rfl
          · show z_J _ _ _ _ _ _ _ _ _ _ _ _
            refine j_icmp_eq (pc' := 142) q130_139 rfl (fun c22 => ?_) (fun c22 => ?_)
            · refine j_forget (z_le_n (z_le_n (z_le_n (z_le_n (z_le_s (z_le_n (z_le_nil))))))) (hj21 ())
            · refine j_iload_n (pc' := 143) q130_142 rfl rfl ?_
              refine j_if_ne (pc' := 146) q130_143 rfl (fun c23 => ?_) (fun c23 => ?_)
              · refine j_forget (z_le_n (z_le_n (z_le_n (z_le_n (z_le_s (z_le_n (z_le_nil))))))) (hj21 ())
              · refine j_iload_n (pc' := 152) q130_151 rfl rfl ?_
                exact j_iret q130_152 rfl
        · show z_J _ _ _ _ _ _ _ _ _ _ _ _
          refine j_iload (pc' := 54) q130_52 rfl rfl ?_
          refine j_bipush (pc' := 56) q130_54 rfl ?_
          refine j_icmp_ge (pc' := 59) q130_56 rfl (fun c9 => ?_) (fun c9 => ?_)
          · exact j_exit (j_forget (z_le_n (z_le_n (z_le_s (z_le_s (z_le_s (z_le_n (z_le_nil))))))) (hX8 (s8.1, s8.2.1, s8.2.2.2)))
          · refine j_aload_n (pc' := 60) q130_59 rfl (by decide) rfl ?_
            refine j_getr (k := 0) (q := 1) (pc' := 63) q130_60 rfl (hρ 0 0 1 rfl) rfl ?_
            refine j_iload (pc' := 65) q130_63 rfl rfl ?_
            refine j_callV1_pi (d := d + 6) (pc' := 68) q130_65 rfl (Nat.le_of_ble_eq_true rfl) (Nat.le_of_ble_eq_true rfl) rfl (t_G_hasEdge_1 hρ (d + 4) _ _) (fun r10 => ?_)
            refine j_join (T := Int32 × Int32 × zS) 129 (fun t11 => [.ref 0, .int a1, .int a2, .int t11.1, .int t11.2.1, .int s8.2.2.1]) (fun t11 => []) (fun t11 => t11.2.2) (fun t11 => ?_) (fun j11 hj11 => ?_)
            · show z_J _ _ _ _ _ _ _ _ _ _ _ _
              refine j_iinc5 (pc' := 132) q130_129 rfl (Nat.le_of_ble_eq_true rfl) rfl ?_
              refine j_goto q130_132 rfl ?_
              exact j_again (j_forget (z_le_s (z_le_s (z_le_s (z_le_s (z_le_s (z_le_s (z_le_nil))))))) (hR8 (t11.1, t11.2.1, (s8.2.2.1 + (1 : Int32)), t11.2.2)))
            · show z_J _ _ _ _ _ _ _ _ _ _ _ _
              refine j_if_eq (pc' := 71) q130_68 rfl (fun c12 => ?_) (fun c12 => ?_)
              · refine j_forget (z_le_s (z_le_s (z_le_s (z_le_s (z_le_s (z_le_s (z_le_nil))))))) (hj11 (s8.1, s8.2.1, s8.2.2.2))
              · refine j_aload_n (pc' := 72) q130_71 rfl (by decide) rfl ?_
                refine j_getr (k := 0) (q := 1) (pc' := 75) q130_72 rfl (hρ 0 0 1 rfl) rfl ?_
                refine j_iload (pc' := 77) q130_75 rfl rfl ?_
                refine j_callV1_pi (d := d + 6) (pc' := 80) q130_77 rfl (Nat.le_of_ble_eq_true rfl) (Nat.le_of_ble_eq_true rfl) rfl (t_G_isOpen_1 hρ (d + 6) _ _) (fun r13 => ?_)
                refine j_if_eq (pc' := 83) q130_80 rfl (fun c14 => ?_) (fun c14 => ?_)
                · refine j_forget (z_le_s (z_le_s (z_le_s (z_le_s (z_le_s (z_le_s (z_le_nil))))))) (hj11 (s8.1, s8.2.1, s8.2.2.2))
                · refine j_aload_n (pc' := 84) q130_83 rfl (by decide) rfl ?_
                  refine j_getr (k := 0) (q := 17) (pc' := 87) q130_84 rfl (hρ 0 1 17 rfl) rfl ?_
                  refine j_aload_n (pc' := 88) q130_87 rfl (by decide) rfl ?_
                  refine j_getr (k := 0) (q := 1) (pc' := 91) q130_88 rfl (hρ 0 0 1 rfl) rfl ?_
                  refine j_callV1_v (d := d + 6) (pc' := 94) q130_91 rfl (Nat.le_of_ble_eq_true rfl) (Nat.le_of_ble_eq_true rfl) rfl (t_G_copyFrom_17_1 hρ (d + 5) _) (fun r15 => ?_)
                  refine j_aload_n (pc' := 95) q130_94 rfl (by decide) rfl ?_
                  refine j_getr (k := 0) (q := 17) (pc' := 98) q130_95 rfl (hρ 0 1 17 rfl) rfl ?_
                  refine j_iload (pc' := 100) q130_98 rfl rfl ?_
                  refine j_iconst (pc' := 101) q130_100 rfl ?_
                  refine j_callV2_v (d := d + 6) (pc' := 104) q130_101 rfl (Nat.le_of_ble_eq_true rfl) (Nat.le_of_ble_eq_true rfl) rfl (t_G_setWall_17 hρ (d + 6) _ _ _) (fun r16 => ?_)
                  refine j_aload_n (pc' := 105) q130_104 rfl (by decide) rfl ?_
                  refine j_getr (k := 0) (q := 17) (pc' := 108) q130_105 rfl (hρ 0 1 17 rfl) rfl ?_
                  refine j_iload_n (pc' := 109) q130_108 rfl rfl ?_
                  refine j_callV1_v (d := d + 6) (pc' := 112) q130_109 rfl (Nat.le_of_ble_eq_true rfl) (Nat.le_of_ble_eq_true rfl) rfl (t_G_goOn_17 hρ (d + 0) _ _) (fun r17 => ?_)
                  refine j_aload_n (pc' := 113) q130_112 rfl (by decide) rfl ?_
                  refine j_callV0_pi (d := d + 6) (pc' := 116) q130_113 rfl (Nat.le_of_ble_eq_true rfl) (Nat.le_of_ble_eq_true rfl) rfl (t_Y_spoiledInTrial hρ (d + 6) _) (fun r18 => ?_)
                  refine j_iload_n (pc' := 117) q130_116 rfl rfl ?_
                  refine j_icmp_ge (pc' := 120) q130_117 rfl (fun c19 => ?_) (fun c19 => ?_)
                  · refine j_forget (z_le_s (z_le_s (z_le_s (z_le_s (z_le_s (z_le_s (z_le_nil))))))) (hj11 (s8.1, s8.2.1, r17))
                  · refine j_aload_n (pc' := 121) q130_120 rfl (by decide) rfl ?_
                    refine j_callV0_pi (d := d + 6) (pc' := 124) q130_121 rfl (Nat.le_of_ble_eq_true rfl) (Nat.le_of_ble_eq_true rfl) rfl (t_Y_spoiledInTrial hρ (d + 6) _) (fun r20 => ?_)
                    refine j_istore3 (pc' := 125) q130_124 rfl (Nat.le_of_ble_eq_true rfl) rfl ?_
                    refine j_iload (pc' := 127) q130_125 rfl rfl ?_
                    refine j_istore4 (pc' := 129) q130_127 rfl (Nat.le_of_ble_eq_true rfl) rfl ?_
                    refine j_forget (z_le_s (z_le_s (z_le_s (z_le_s (z_le_s (z_le_s (z_le_nil))))))) (hj11 (r20, s8.2.2.1, r17))
set_option maxRecDepth 8000 in
theorem q211_0 : z_fi (z_mi 211) 0 = some (0, .iload_n 1, 0, 0, 0, 0, 0) := rfl
set_option maxRecDepth 8000 in
theorem q211_1 : z_fi (z_mi 211) 1 = some (1, .i2l, 0, 0, 0, 0, 0) := rfl
set_option maxRecDepth 8000 in
theorem q211_2 : z_fi (z_mi 211) 2 = some (2, .lconst 1, 0, 0, 0, 0, 1) := rfl
set_option maxRecDepth 8000 in
theorem q211_3 : z_fi (z_mi 211) 3 = some (3, .ldc2_w 259, 0, 0, 0, 0, 12) := rfl
set_option maxRecDepth 8000 in
theorem q211_6 : z_fi (z_mi 211) 6 = some (6, .invokestatic 62, 1, 149, 3, 0, 0) := rfl
set_option maxRecDepth 8000 in
theorem q211_9 : z_fi (z_mi 211) 9 = some (9, .ifCond .eq 13, 0, 22, 0, 0, 0) := rfl
set_option maxRecDepth 8000 in
theorem q211_12 : z_fi (z_mi 211) 12 = some (12, .iload_n 2, 0, 0, 0, 0, 0) := rfl
set_option maxRecDepth 8000 in
theorem q211_13 : z_fi (z_mi 211) 13 = some (13, .i2l, 0, 0, 0, 0, 0) := rfl
set_option maxRecDepth 8000 in
theorem q211_14 : z_fi (z_mi 211) 14 = some (14, .lconst 0, 0, 0, 0, 0, 0) := rfl
set_option maxRecDepth 8000 in
theorem q211_15 : z_fi (z_mi 211) 15 = some (15, .lconst 1, 0, 0, 0, 0, 1) := rfl
set_option maxRecDepth 8000 in
theorem q211_16 : z_fi (z_mi 211) 16 = some (16, .invokestatic 62, 1, 149, 3, 0, 0) := rfl
set_option maxRecDepth 8000 in
theorem q211_19 : z_fi (z_mi 211) 19 = some (19, .ifCond .ne 5, 0, 24, 0, 0, 0) := rfl
set_option maxRecDepth 8000 in
theorem q211_22 : z_fi (z_mi 211) 22 = some (22, .iconst (-1), 0, 0, 0, (-1), 0) := rfl
set_option maxRecDepth 8000 in
theorem q211_23 : z_fi (z_mi 211) 23 = some (23, .ireturn, 0, 0, 0, 0, 0) := rfl
set_option maxRecDepth 8000 in
theorem q211_24 : z_fi (z_mi 211) 24 = some (24, .aload_n 0, 0, 0, 0, 0, 0) := rfl
set_option maxRecDepth 8000 in
theorem q211_25 : z_fi (z_mi 211) 25 = some (25, .iconst 0, 0, 0, 0, 0, 0) := rfl
set_option maxRecDepth 8000 in
theorem q211_26 : z_fi (z_mi 211) 26 = some (26, .sipush 440, 0, 0, 0, 440, 0) := rfl
set_option maxRecDepth 8000 in
theorem q211_29 : z_fi (z_mi 211) 29 = some (29, .invokevirtual 227, 0, 195, 2, 0, 0) := rfl
set_option maxRecDepth 8000 in
theorem q211_32 : z_fi (z_mi 211) 32 = some (32, .aload_n 0, 0, 0, 0, 0, 0) := rfl
set_option maxRecDepth 8000 in
theorem q211_33 : z_fi (z_mi 211) 33 = some (33, .iload_n 1, 0, 0, 0, 0, 0) := rfl
set_option maxRecDepth 8000 in
theorem q211_34 : z_fi (z_mi 211) 34 = some (34, .iconst 1, 0, 0, 0, 1, 0) := rfl
set_option maxRecDepth 8000 in
theorem q211_35 : z_fi (z_mi 211) 35 = some (35, .invokevirtual 230, 0, 200, 2, 0, 0) := rfl
set_option maxRecDepth 8000 in
theorem q211_38 : z_fi (z_mi 211) 38 = some (38, .istore_n 3, 0, 0, 0, 0, 0) := rfl
set_option maxRecDepth 8000 in
theorem q211_39 : z_fi (z_mi 211) 39 = some (39, .bipush (-4), 0, 0, 0, (-4), 0) := rfl
set_option maxRecDepth 8000 in
theorem q211_41 : z_fi (z_mi 211) 41 = some (41, .istore 4, 0, 0, 0, 0, 0) := rfl
set_option maxRecDepth 8000 in
theorem q211_43 : z_fi (z_mi 211) 43 = some (43, .iconst 0, 0, 0, 0, 0, 0) := rfl
set_option maxRecDepth 8000 in
theorem q211_44 : z_fi (z_mi 211) 44 = some (44, .istore 5, 0, 0, 0, 0, 0) := rfl
set_option maxRecDepth 8000 in
theorem q211_46 : z_fi (z_mi 211) 46 = some (46, .iload 5, 0, 0, 0, 0, 0) := rfl
set_option maxRecDepth 8000 in
theorem q211_48 : z_fi (z_mi 211) 48 = some (48, .iconst 2, 0, 0, 0, 2, 0) := rfl
set_option maxRecDepth 8000 in
theorem q211_49 : z_fi (z_mi 211) 49 = some (49, .aload_n 0, 0, 0, 0, 0, 0) := rfl
set_option maxRecDepth 8000 in
theorem q211_50 : z_fi (z_mi 211) 50 = some (50, .getfield 13, 0, 10, 1, 0, 0) := rfl
set_option maxRecDepth 8000 in
theorem q211_53 : z_fi (z_mi 211) 53 = some (53, .imul, 0, 0, 0, 0, 0) := rfl
set_option maxRecDepth 8000 in
theorem q211_54 : z_fi (z_mi 211) 54 = some (54, .aload_n 0, 0, 0, 0, 0, 0) := rfl
set_option maxRecDepth 8000 in
theorem q211_55 : z_fi (z_mi 211) 55 = some (55, .getfield 17, 0, 10, 2, 0, 0) := rfl
set_option maxRecDepth 8000 in
theorem q211_58 : z_fi (z_mi 211) 58 = some (58, .imul, 0, 0, 0, 0, 0) := rfl
set_option maxRecDepth 8000 in
theorem q211_59 : z_fi (z_mi 211) 59 = some (59, .if_icmp .ge 87, 0, 146, 0, 0, 0) := rfl
set_option maxRecDepth 8000 in
theorem q211_62 : z_fi (z_mi 211) 62 = some (62, .aload_n 0, 0, 0, 0, 0, 0) := rfl
set_option maxRecDepth 8000 in
theorem q211_63 : z_fi (z_mi 211) 63 = some (63, .iload 5, 0, 0, 0, 0, 0) := rfl
set_option maxRecDepth 8000 in
theorem q211_65 : z_fi (z_mi 211) 65 = some (65, .invokevirtual 174, 0, 165, 1, 0, 0) := rfl
set_option maxRecDepth 8000 in
theorem q211_68 : z_fi (z_mi 211) 68 = some (68, .ifCond .eq 72, 0, 140, 0, 0, 0) := rfl
set_option maxRecDepth 8000 in
theorem q211_71 : z_fi (z_mi 211) 71 = some (71, .aload_n 0, 0, 0, 0, 0, 0) := rfl
set_option maxRecDepth 8000 in
theorem q211_72 : z_fi (z_mi 211) 72 = some (72, .iconst 0, 0, 0, 0, 0, 0) := rfl
set_option maxRecDepth 8000 in
theorem q211_73 : z_fi (z_mi 211) 73 = some (73, .iload 5, 0, 0, 0, 0, 0) := rfl
set_option maxRecDepth 8000 in
theorem q211_75 : z_fi (z_mi 211) 75 = some (75, .invokevirtual 202, 0, 189, 2, 0, 0) := rfl
set_option maxRecDepth 8000 in
theorem q211_78 : z_fi (z_mi 211) 78 = some (78, .ifCond .ne 62, 0, 140, 0, 0, 0) := rfl
set_option maxRecDepth 8000 in
theorem q211_81 : z_fi (z_mi 211) 81 = some (81, .aload_n 0, 0, 0, 0, 0, 0) := rfl
set_option maxRecDepth 8000 in
theorem q211_82 : z_fi (z_mi 211) 82 = some (82, .iconst 0, 0, 0, 0, 0, 0) := rfl
set_option maxRecDepth 8000 in
theorem q211_83 : z_fi (z_mi 211) 83 = some (83, .sipush 440, 0, 0, 0, 440, 0) := rfl
set_option maxRecDepth 8000 in
theorem q211_86 : z_fi (z_mi 211) 86 = some (86, .invokevirtual 227, 0, 195, 2, 0, 0) := rfl
set_option maxRecDepth 8000 in
theorem q211_89 : z_fi (z_mi 211) 89 = some (89, .aload_n 0, 0, 0, 0, 0, 0) := rfl
set_option maxRecDepth 8000 in
theorem q211_90 : z_fi (z_mi 211) 90 = some (90, .getfield 7, 0, 10, 0, 0, 0) := rfl
set_option maxRecDepth 8000 in
theorem q211_93 : z_fi (z_mi 211) 93 = some (93, .sipush 520, 0, 0, 0, 520, 0) := rfl
set_option maxRecDepth 8000 in
theorem q211_96 : z_fi (z_mi 211) 96 = some (96, .dup2, 0, 0, 0, 0, 0) := rfl
set_option maxRecDepth 8000 in
theorem q211_97 : z_fi (z_mi 211) 97 = some (97, .iaload, 0, 0, 0, 0, 0) := rfl
set_option maxRecDepth 8000 in
theorem q211_98 : z_fi (z_mi 211) 98 = some (98, .iconst 1, 0, 0, 0, 1, 0) := rfl
set_option maxRecDepth 8000 in
theorem q211_99 : z_fi (z_mi 211) 99 = some (99, .iload 5, 0, 0, 0, 0, 0) := rfl
set_option maxRecDepth 8000 in
theorem q211_101 : z_fi (z_mi 211) 101 = some (101, .ishl, 0, 0, 0, 0, 0) := rfl
set_option maxRecDepth 8000 in
theorem q211_102 : z_fi (z_mi 211) 102 = some (102, .ior, 0, 0, 0, 0, 0) := rfl
set_option maxRecDepth 8000 in
theorem q211_103 : z_fi (z_mi 211) 103 = some (103, .iastore, 0, 0, 0, 0, 0) := rfl
set_option maxRecDepth 8000 in
theorem q211_104 : z_fi (z_mi 211) 104 = some (104, .aload_n 0, 0, 0, 0, 0, 0) := rfl
set_option maxRecDepth 8000 in
theorem q211_105 : z_fi (z_mi 211) 105 = some (105, .iload_n 1, 0, 0, 0, 0, 0) := rfl
set_option maxRecDepth 8000 in
theorem q211_106 : z_fi (z_mi 211) 106 = some (106, .iconst 1, 0, 0, 0, 1, 0) := rfl
set_option maxRecDepth 8000 in
theorem q211_107 : z_fi (z_mi 211) 107 = some (107, .invokevirtual 230, 0, 200, 2, 0, 0) := rfl
set_option maxRecDepth 8000 in
theorem q211_110 : z_fi (z_mi 211) 110 = some (110, .istore 6, 0, 0, 0, 0, 0) := rfl
set_option maxRecDepth 8000 in
theorem q211_112 : z_fi (z_mi 211) 112 = some (112, .iload 6, 0, 0, 0, 0, 0) := rfl
set_option maxRecDepth 8000 in
theorem q211_114 : z_fi (z_mi 211) 114 = some (114, .iload_n 3, 0, 0, 0, 0, 0) := rfl
set_option maxRecDepth 8000 in
theorem q211_115 : z_fi (z_mi 211) 115 = some (115, .if_icmp .ge 8, 0, 123, 0, 0, 0) := rfl
set_option maxRecDepth 8000 in
theorem q211_118 : z_fi (z_mi 211) 118 = some (118, .iload 5, 0, 0, 0, 0, 0) := rfl
set_option maxRecDepth 8000 in
theorem q211_120 : z_fi (z_mi 211) 120 = some (120, .goto 5, 0, 125, 0, 0, 0) := rfl
set_option maxRecDepth 8000 in
theorem q211_123 : z_fi (z_mi 211) 123 = some (123, .iload 4, 0, 0, 0, 0, 0) := rfl
set_option maxRecDepth 8000 in
theorem q211_125 : z_fi (z_mi 211) 125 = some (125, .istore 4, 0, 0, 0, 0, 0) := rfl
set_option maxRecDepth 8000 in
theorem q211_127 : z_fi (z_mi 211) 127 = some (127, .iload 6, 0, 0, 0, 0, 0) := rfl
set_option maxRecDepth 8000 in
theorem q211_129 : z_fi (z_mi 211) 129 = some (129, .iload_n 3, 0, 0, 0, 0, 0) := rfl
set_option maxRecDepth 8000 in
theorem q211_130 : z_fi (z_mi 211) 130 = some (130, .if_icmp .ge 8, 0, 138, 0, 0, 0) := rfl
set_option maxRecDepth 8000 in
theorem q211_133 : z_fi (z_mi 211) 133 = some (133, .iload 6, 0, 0, 0, 0, 0) := rfl
set_option maxRecDepth 8000 in
theorem q211_135 : z_fi (z_mi 211) 135 = some (135, .goto 4, 0, 139, 0, 0, 0) := rfl
set_option maxRecDepth 8000 in
theorem q211_138 : z_fi (z_mi 211) 138 = some (138, .iload_n 3, 0, 0, 0, 0, 0) := rfl
set_option maxRecDepth 8000 in
theorem q211_139 : z_fi (z_mi 211) 139 = some (139, .istore_n 3, 0, 0, 0, 0, 0) := rfl
set_option maxRecDepth 8000 in
theorem q211_140 : z_fi (z_mi 211) 140 = some (140, .iinc 5 1, 0, 0, 0, 1, 0) := rfl
set_option maxRecDepth 8000 in
theorem q211_143 : z_fi (z_mi 211) 143 = some (143, .goto (-97), 0, 46, 0, 0, 0) := rfl
set_option maxRecDepth 8000 in
theorem q211_146 : z_fi (z_mi 211) 146 = some (146, .iload 4, 0, 0, 0, 0, 0) := rfl
set_option maxRecDepth 8000 in
theorem q211_148 : z_fi (z_mi 211) 148 = some (148, .bipush (-4), 0, 0, 0, (-4), 0) := rfl
set_option maxRecDepth 8000 in
theorem q211_150 : z_fi (z_mi 211) 150 = some (150, .if_icmp .eq 7, 0, 157, 0, 0, 0) := rfl
set_option maxRecDepth 8000 in
theorem q211_153 : z_fi (z_mi 211) 153 = some (153, .iload_n 2, 0, 0, 0, 0, 0) := rfl
set_option maxRecDepth 8000 in
theorem q211_154 : z_fi (z_mi 211) 154 = some (154, .ifCond .ne 8, 0, 162, 0, 0, 0) := rfl
set_option maxRecDepth 8000 in
theorem q211_157 : z_fi (z_mi 211) 157 = some (157, .iload 4, 0, 0, 0, 0, 0) := rfl
set_option maxRecDepth 8000 in
theorem q211_159 : z_fi (z_mi 211) 159 = some (159, .goto 4, 0, 163, 0, 0, 0) := rfl
set_option maxRecDepth 8000 in
theorem q211_162 : z_fi (z_mi 211) 162 = some (162, .iload_n 3, 0, 0, 0, 0, 0) := rfl
set_option maxRecDepth 8000 in
theorem q211_163 : z_fi (z_mi 211) 163 = some (163, .ireturn, 0, 0, 0, 0, 0) := rfl
set_option maxRecDepth 20000 in
set_option maxHeartbeats 4000000 in
theorem t_M_fence {xL : Nat} {xs : Nat → Int32} {ρ : Nat → Nat → Option Nat} (hρ : z_hR ρ) (d : Nat) (a1 : Int32) (a2 : Int32) (σ : zS) : ∀ q, f_M_fence a1 a2 σ = some q → z_ec xL xs ρ (d + 5) 211 [.ref 90, .int a1, .int a2] σ (em_i q) := by
  refine j_of (W := [.ref 90, .int a1, .int a2, .null, .null, .null, .null]) (fun L hL => ?_) ?_
  · subst hL; exact z_vl_0 _ 4 rfl
  · unfold f_M_fence
    refine j_iload_n (pc' := 1) q211_0 rfl rfl ?_
    refine j_i2l (pc' := 2) q211_1 rfl ?_
    refine j_lconst (pc' := 3) q211_2 rfl ?_
    refine j_ldc2 (pc' := 6) q211_3 rfl ?_
    refine j_callS3_pi (d := d + 4) (pc' := 9) q211_6 (Or.inl rfl) (Nat.le_of_ble_eq_true rfl) (Nat.le_of_ble_eq_true rfl) rfl (t_M_in hρ (d + 4) _ _ _ _) (fun r1 => ?_)
    refine j_if_eq (pc' := 12) q211_9 rfl (fun c2 => ?_) (fun c2 => ?_)
    · refine j_iconst (pc' := 23) q211_22 rfl ?_
      exact j_iret q211_23 rfl
    · refine j_iload_n (pc' := 13) q211_12 rfl rfl ?_
      refine j_i2l (pc' := 14) q211_13 rfl ?_
      refine j_lconst (pc' := 15) q211_14 rfl ?_
      refine j_lconst (pc' := 16) q211_15 rfl ?_
      refine j_callS3_pi (d := d + 4) (pc' := 19) q211_16 (Or.inl rfl) (Nat.le_of_ble_eq_true rfl) (Nat.le_of_ble_eq_true rfl) rfl (t_M_in hρ (d + 4) _ _ _ _) (fun r3 => ?_)
      refine j_if_ne (pc' := 22) q211_19 rfl (fun c4 => ?_) (fun c4 => ?_)
      · refine j_iconst (pc' := 23) q211_22 rfl ?_
        exact j_iret q211_23 rfl
      · refine j_aload_n (pc' := 25) q211_24 rfl (by decide) rfl ?_
        refine j_iconst (pc' := 26) q211_25 rfl ?_
        refine j_sipush (pc' := 29) q211_26 rfl ?_
        refine j_callV2_v (d := d + 4) (pc' := 32) q211_29 rfl (Nat.le_of_ble_eq_true rfl) (Nat.le_of_ble_eq_true rfl) rfl (t_M_copies hρ (d + 4) _ _ _) (fun r5 => ?_)
        refine j_aload_n (pc' := 33) q211_32 rfl (by decide) rfl ?_
        refine j_iload_n (pc' := 34) q211_33 rfl rfl ?_
        refine j_iconst (pc' := 35) q211_34 rfl ?_
        refine j_callV2_i (d := d + 4) (pc' := 38) q211_35 rfl (Nat.le_of_ble_eq_true rfl) (Nat.le_of_ble_eq_true rfl) rfl (t_M_triedBy hρ (d + 0) _ _ _) (fun r6 => ?_)
        refine j_istore3 (pc' := 39) q211_38 rfl (Nat.le_of_ble_eq_true rfl) rfl ?_
        refine j_bipush (pc' := 41) q211_39 rfl ?_
        refine j_istore4 (pc' := 43) q211_41 rfl (Nat.le_of_ble_eq_true rfl) rfl ?_
        refine j_iconst (pc' := 44) q211_43 rfl ?_
        refine j_istore5 (pc' := 46) q211_44 rfl (Nat.le_of_ble_eq_true rfl) rfl ?_
        refine j_forget (V' := [.ref 90, .int a1, .int a2, .int r6.1, .int (-4 : Int32), .int (0 : Int32), .null]) (z_le_s (z_le_s (z_le_s (z_le_s (z_le_s (z_le_s (z_le_n (z_le_nil)))))))) ?_
        refine j_loopX (S := Int32 × Int32 × Int32 × zS) (E := Int32 × Int32 × zS) (fun e => e) 146 (fun s7 => [.ref 90, .int a1, .int a2, .int s7.1, .int s7.2.1, .int s7.2.2.1, .null]) (fun s7 => s7.2.2.2) (fun b7 => [.null, .null, .int a2, .int b7.1, .int b7.2.1, .null, .null]) (fun b7 => b7.2.2) (fun b7 => ?_) (fun R7 hR7 hX7 s7 => ?_) (r6.1, (-4 : Int32), (0 : Int32), r6.2)
        · show z_J _ _ _ _ _ _ _ _ _ _ _ _
          refine j_iload (pc' := 148) q211_146 rfl rfl ?_
          refine j_bipush (pc' := 150) q211_148 rfl ?_
          refine j_join (T := Unit) 157 (fun t21 => [.null, .null, .null, .null, .int b7.2.1, .null, .null]) (fun t21 => []) (fun t21 => b7.2.2) (fun t21 => ?_) (fun j21 hj21 => ?_)
          · show z_J _ _ _ _ _ _ _ _ _ _ _ _
            refine j_iload (pc' := 159) q211_157 rfl rfl ?_
            refine j_goto q211_159 rfl ?_
            exact j_iret q211_163 rfl
          · show z_J _ _ _ _ _ _ _ _ _ _ _ _
            refine j_icmp_eq (pc' := 153) q211_150 rfl (fun c22 => ?_) (fun c22 => ?_)
            · refine j_forget (z_le_n (z_le_n (z_le_n (z_le_n (z_le_s (z_le_n (z_le_n (z_le_nil)))))))) (hj21 ())
            · refine j_iload_n (pc' := 154) q211_153 rfl rfl ?_
              refine j_if_ne (pc' := 157) q211_154 rfl (fun c23 => ?_) (fun c23 => ?_)
              · refine j_forget (z_le_n (z_le_n (z_le_n (z_le_n (z_le_s (z_le_n (z_le_n (z_le_nil)))))))) (hj21 ())
              · refine j_iload_n (pc' := 163) q211_162 rfl rfl ?_
                exact j_iret q211_163 rfl
        · show z_J _ _ _ _ _ _ _ _ _ _ _ _
          refine j_iload (pc' := 48) q211_46 rfl rfl ?_
          refine j_iconst (pc' := 49) q211_48 rfl ?_
          refine j_aload_n (pc' := 50) q211_49 rfl (by decide) rfl ?_
          refine j_getf (k := 90) (pc' := 53) q211_50 rfl rfl ?_
          refine j_imul (pc' := 54) q211_53 rfl ?_
          refine j_aload_n (pc' := 55) q211_54 rfl (by decide) rfl ?_
          refine j_getf (k := 90) (pc' := 58) q211_55 rfl rfl ?_
          refine j_imul (pc' := 59) q211_58 rfl ?_
          refine j_icmp_ge (pc' := 62) q211_59 rfl (fun c8 => ?_) (fun c8 => ?_)
          · exact j_exit (j_forget (z_le_n (z_le_n (z_le_s (z_le_s (z_le_s (z_le_n (z_le_n (z_le_nil)))))))) (hX7 (s7.1, s7.2.1, s7.2.2.2)))
          · refine j_aload_n (pc' := 63) q211_62 rfl (by decide) rfl ?_
            refine j_iload (pc' := 65) q211_63 rfl rfl ?_
            refine j_callV1_pi (d := d + 4) (pc' := 68) q211_65 rfl (Nat.le_of_ble_eq_true rfl) (Nat.le_of_ble_eq_true rfl) rfl (t_M_isEdge hρ (d + 3) _ _) (fun r9 => ?_)
            refine j_join (T := Int32 × Int32 × zS) 140 (fun t10 => [.ref 90, .int a1, .int a2, .int t10.1, .int t10.2.1, .int s7.2.2.1, .null]) (fun t10 => []) (fun t10 => t10.2.2) (fun t10 => ?_) (fun j10 hj10 => ?_)
            · show z_J _ _ _ _ _ _ _ _ _ _ _ _
              refine j_iinc5 (pc' := 143) q211_140 rfl (Nat.le_of_ble_eq_true rfl) rfl ?_
              refine j_goto q211_143 rfl ?_
              exact j_again (j_forget (z_le_s (z_le_s (z_le_s (z_le_s (z_le_s (z_le_s (z_le_n (z_le_nil)))))))) (hR7 (t10.1, t10.2.1, (s7.2.2.1 + (1 : Int32)), t10.2.2)))
            · show z_J _ _ _ _ _ _ _ _ _ _ _ _
              refine j_if_eq (pc' := 71) q211_68 rfl (fun c11 => ?_) (fun c11 => ?_)
              · refine j_forget (z_le_s (z_le_s (z_le_s (z_le_s (z_le_s (z_le_s (z_le_n (z_le_nil)))))))) (hj10 (s7.1, s7.2.1, s7.2.2.2))
              · refine j_aload_n (pc' := 72) q211_71 rfl (by decide) rfl ?_
                refine j_iconst (pc' := 73) q211_72 rfl ?_
                refine j_iload (pc' := 75) q211_73 rfl rfl ?_
                refine j_callV2_pi (d := d + 4) (pc' := 78) q211_75 rfl (Nat.le_of_ble_eq_true rfl) (Nat.le_of_ble_eq_true rfl) rfl (t_M_isWalled hρ (d + 4) _ _ _) (fun r12 => ?_)
                refine j_if_ne (pc' := 81) q211_78 rfl (fun c13 => ?_) (fun c13 => ?_)
                · refine j_aload_n (pc' := 82) q211_81 rfl (by decide) rfl ?_
                  refine j_iconst (pc' := 83) q211_82 rfl ?_
                  refine j_sipush (pc' := 86) q211_83 rfl ?_
                  refine j_callV2_v (d := d + 4) (pc' := 89) q211_86 rfl (Nat.le_of_ble_eq_true rfl) (Nat.le_of_ble_eq_true rfl) rfl (t_M_copies hρ (d + 4) _ _ _) (fun r14 => ?_)
                  refine j_aload_n (pc' := 90) q211_89 rfl (by decide) rfl ?_
                  refine j_getr (k := 90) (q := 91) (pc' := 93) q211_90 rfl (hρ 90 0 91 rfl) rfl ?_
                  refine j_sipush (pc' := 96) q211_93 rfl ?_
                  refine j_dup2 (pc' := 97) q211_96 ⟨rfl, rfl⟩ rfl ?_
                  refine j_iald (k := 91) (N := 550) (pc' := 98) q211_97 rfl (by decide) rfl ?_
                  refine j_iconst (pc' := 99) q211_98 rfl ?_
                  refine j_iload (pc' := 101) q211_99 rfl rfl ?_
                  refine j_ishl (pc' := 102) q211_101 rfl ?_
                  refine j_ior (pc' := 103) q211_102 rfl ?_
                  refine j_iast (k := 91) (N := 550) (pc' := 104) q211_103 rfl (by decide) rfl ?_
                  refine j_nameS (fun τ15 => ?_)
                  refine j_aload_n (pc' := 105) q211_104 rfl (by decide) rfl ?_
                  refine j_iload_n (pc' := 106) q211_105 rfl rfl ?_
                  refine j_iconst (pc' := 107) q211_106 rfl ?_
                  refine j_callV2_i (d := d + 4) (pc' := 110) q211_107 rfl (Nat.le_of_ble_eq_true rfl) (Nat.le_of_ble_eq_true rfl) rfl (t_M_triedBy hρ (d + 0) _ _ _) (fun r16 => ?_)
                  refine j_istore6 (pc' := 112) q211_110 rfl (Nat.le_of_ble_eq_true rfl) rfl ?_
                  refine j_iload (pc' := 114) q211_112 rfl rfl ?_
                  refine j_iload_n (pc' := 115) q211_114 rfl rfl ?_
                  refine j_join (T := Int32) 125 (fun t17 => [.ref 90, .int a1, .int a2, .int s7.1, .null, .int s7.2.2.1, .int r16.1]) (fun t17 => [.int t17]) (fun t17 => r16.2) (fun t17 => ?_) (fun j17 hj17 => ?_)
                  · show z_J _ _ _ _ _ _ _ _ _ _ _ _
                    refine j_istore4 (pc' := 127) q211_125 rfl (Nat.le_of_ble_eq_true rfl) rfl ?_
                    refine j_iload (pc' := 129) q211_127 rfl rfl ?_
                    refine j_iload_n (pc' := 130) q211_129 rfl rfl ?_
                    refine j_join (T := Int32) 139 (fun t18 => [.ref 90, .int a1, .int a2, .null, .int t17, .int s7.2.2.1, .null]) (fun t18 => [.int t18]) (fun t18 => r16.2) (fun t18 => ?_) (fun j18 hj18 => ?_)
                    · show z_J _ _ _ _ _ _ _ _ _ _ _ _
                      refine j_istore3 (pc' := 140) q211_139 rfl (Nat.le_of_ble_eq_true rfl) rfl ?_
                      refine j_forget (z_le_s (z_le_s (z_le_s (z_le_s (z_le_s (z_le_s (z_le_n (z_le_nil)))))))) (hj10 (t18, t17, r16.2))
                    · show z_J _ _ _ _ _ _ _ _ _ _ _ _
                      refine j_icmp_ge (pc' := 133) q211_130 rfl (fun c19 => ?_) (fun c19 => ?_)
                      · refine j_iload_n (pc' := 139) q211_138 rfl rfl ?_
                        refine j_forget (z_le_s (z_le_s (z_le_s (z_le_n (z_le_s (z_le_s (z_le_n (z_le_nil)))))))) (hj18 s7.1)
                      · refine j_iload (pc' := 135) q211_133 rfl rfl ?_
                        refine j_goto q211_135 rfl ?_
                        refine j_forget (z_le_s (z_le_s (z_le_s (z_le_n (z_le_s (z_le_s (z_le_n (z_le_nil)))))))) (hj18 r16.1)
                  · show z_J _ _ _ _ _ _ _ _ _ _ _ _
                    refine j_icmp_ge (pc' := 118) q211_115 rfl (fun c20 => ?_) (fun c20 => ?_)
                    · refine j_iload (pc' := 125) q211_123 rfl rfl ?_
                      refine j_forget (z_le_s (z_le_s (z_le_s (z_le_s (z_le_n (z_le_s (z_le_s (z_le_nil)))))))) (hj17 s7.2.1)
                    · refine j_iload (pc' := 120) q211_118 rfl rfl ?_
                      refine j_goto q211_120 rfl ?_
                      refine j_forget (z_le_s (z_le_s (z_le_s (z_le_s (z_le_n (z_le_s (z_le_s (z_le_nil)))))))) (hj17 s7.2.2.1)
                · refine j_forget (z_le_s (z_le_s (z_le_s (z_le_s (z_le_s (z_le_s (z_le_n (z_le_nil)))))))) (hj10 (s7.1, s7.2.1, s7.2.2.2))
theorem q131_0 : z_fi (z_mi 131) 0 = some (0, .aload_n 0, 0, 0, 0, 0, 0) := rfl
theorem q131_1 : z_fi (z_mi 131) 1 = some (1, .getfield 10, 0, 9, 0, 0, 0) := rfl
theorem q131_4 : z_fi (z_mi 131) 4 = some (4, .iload_n 1, 0, 0, 0, 0, 0) := rfl
theorem q131_5 : z_fi (z_mi 131) 5 = some (5, .invokevirtual 165, 0, 8, 1, 0, 0) := rfl
theorem q131_8 : z_fi (z_mi 131) 8 = some (8, .ifCond .eq 13, 0, 21, 0, 0, 0) := rfl
theorem q131_11 : z_fi (z_mi 131) 11 = some (11, .iload_n 2, 0, 0, 0, 0, 0) := rfl
theorem q131_12 : z_fi (z_mi 131) 12 = some (12, .iconst 1, 0, 0, 0, 1, 0) := rfl
theorem q131_13 : z_fi (z_mi 131) 13 = some (13, .bipush 12, 0, 0, 0, 12, 0) := rfl
theorem q131_15 : z_fi (z_mi 131) 15 = some (15, .invokestatic 60, 1, 99, 3, 0, 0) := rfl
theorem q131_18 : z_fi (z_mi 131) 18 = some (18, .ifCond .ne 5, 0, 23, 0, 0, 0) := rfl
theorem q131_21 : z_fi (z_mi 131) 21 = some (21, .iconst (-1), 0, 0, 0, (-1), 0) := rfl
theorem q131_22 : z_fi (z_mi 131) 22 = some (22, .ireturn, 0, 0, 0, 0, 0) := rfl
theorem q131_23 : z_fi (z_mi 131) 23 = some (23, .aload_n 0, 0, 0, 0, 0, 0) := rfl
theorem q131_24 : z_fi (z_mi 131) 24 = some (24, .getfield 10, 0, 9, 0, 0, 0) := rfl
theorem q131_27 : z_fi (z_mi 131) 27 = some (27, .getfield 178, 0, 0, 4, 0, 0) := rfl
theorem q131_30 : z_fi (z_mi 131) 30 = some (30, .iload_n 1, 0, 0, 0, 0, 0) := rfl
theorem q131_31 : z_fi (z_mi 131) 31 = some (31, .iaload, 0, 0, 0, 0, 0) := rfl
theorem q131_32 : z_fi (z_mi 131) 32 = some (32, .bipush (-4), 0, 0, 0, (-4), 0) := rfl
theorem q131_34 : z_fi (z_mi 131) 34 = some (34, .if_icmp .ne 6, 0, 40, 0, 0, 0) := rfl
theorem q131_37 : z_fi (z_mi 131) 37 = some (37, .bipush (-2), 0, 0, 0, (-2), 0) := rfl
theorem q131_39 : z_fi (z_mi 131) 39 = some (39, .ireturn, 0, 0, 0, 0, 0) := rfl
theorem q131_40 : z_fi (z_mi 131) 40 = some (40, .aload_n 0, 0, 0, 0, 0, 0) := rfl
theorem q131_41 : z_fi (z_mi 131) 41 = some (41, .getfield 16, 0, 9, 1, 0, 0) := rfl
theorem q131_44 : z_fi (z_mi 131) 44 = some (44, .aload_n 0, 0, 0, 0, 0, 0) := rfl
theorem q131_45 : z_fi (z_mi 131) 45 = some (45, .getfield 10, 0, 9, 0, 0, 0) := rfl
theorem q131_48 : z_fi (z_mi 131) 48 = some (48, .invokevirtual 85, 0, 6, 1, 0, 0) := rfl
theorem q131_51 : z_fi (z_mi 131) 51 = some (51, .aload_n 0, 0, 0, 0, 0, 0) := rfl
theorem q131_52 : z_fi (z_mi 131) 52 = some (52, .getfield 16, 0, 9, 1, 0, 0) := rfl
theorem q131_55 : z_fi (z_mi 131) 55 = some (55, .iload_n 2, 0, 0, 0, 0, 0) := rfl
theorem q131_56 : z_fi (z_mi 131) 56 = some (56, .invokevirtual 196, 0, 19, 1, 0, 0) := rfl
theorem q131_59 : z_fi (z_mi 131) 59 = some (59, .aload_n 0, 0, 0, 0, 0, 0) := rfl
theorem q131_60 : z_fi (z_mi 131) 60 = some (60, .getfield 16, 0, 9, 1, 0, 0) := rfl
theorem q131_63 : z_fi (z_mi 131) 63 = some (63, .getfield 178, 0, 0, 4, 0, 0) := rfl
theorem q131_66 : z_fi (z_mi 131) 66 = some (66, .iload_n 1, 0, 0, 0, 0, 0) := rfl
theorem q131_67 : z_fi (z_mi 131) 67 = some (67, .iaload, 0, 0, 0, 0, 0) := rfl
theorem q131_68 : z_fi (z_mi 131) 68 = some (68, .istore_n 3, 0, 0, 0, 0, 0) := rfl
theorem q131_69 : z_fi (z_mi 131) 69 = some (69, .aload_n 0, 0, 0, 0, 0, 0) := rfl
theorem q131_70 : z_fi (z_mi 131) 70 = some (70, .getfield 16, 0, 9, 1, 0, 0) := rfl
theorem q131_73 : z_fi (z_mi 131) 73 = some (73, .getfield 234, 0, 0, 5, 0, 0) := rfl
theorem q131_76 : z_fi (z_mi 131) 76 = some (76, .iload_n 1, 0, 0, 0, 0, 0) := rfl
theorem q131_77 : z_fi (z_mi 131) 77 = some (77, .iaload, 0, 0, 0, 0, 0) := rfl
theorem q131_78 : z_fi (z_mi 131) 78 = some (78, .istore 4, 0, 0, 0, 0, 0) := rfl
theorem q131_80 : z_fi (z_mi 131) 80 = some (80, .iconst 0, 0, 0, 0, 0, 0) := rfl
theorem q131_81 : z_fi (z_mi 131) 81 = some (81, .istore 5, 0, 0, 0, 0, 0) := rfl
theorem q131_83 : z_fi (z_mi 131) 83 = some (83, .iconst 0, 0, 0, 0, 0, 0) := rfl
theorem q131_84 : z_fi (z_mi 131) 84 = some (84, .istore 6, 0, 0, 0, 0, 0) := rfl
theorem q131_86 : z_fi (z_mi 131) 86 = some (86, .iload 6, 0, 0, 0, 0, 0) := rfl
theorem q131_88 : z_fi (z_mi 131) 88 = some (88, .aload_n 0, 0, 0, 0, 0, 0) := rfl
theorem q131_89 : z_fi (z_mi 131) 89 = some (89, .getfield 10, 0, 9, 0, 0, 0) := rfl
theorem q131_92 : z_fi (z_mi 131) 92 = some (92, .invokevirtual 227, 0, 7, 0, 0, 0) := rfl
theorem q131_95 : z_fi (z_mi 131) 95 = some (95, .if_icmp .ge 93, 0, 188, 0, 0, 0) := rfl
theorem q131_98 : z_fi (z_mi 131) 98 = some (98, .iload 6, 0, 0, 0, 0, 0) := rfl
theorem q131_100 : z_fi (z_mi 131) 100 = some (100, .iload_n 1, 0, 0, 0, 0, 0) := rfl
theorem q131_101 : z_fi (z_mi 131) 101 = some (101, .if_icmp .eq 81, 0, 182, 0, 0, 0) := rfl
theorem q131_104 : z_fi (z_mi 131) 104 = some (104, .aload_n 0, 0, 0, 0, 0, 0) := rfl
theorem q131_105 : z_fi (z_mi 131) 105 = some (105, .getfield 10, 0, 9, 0, 0, 0) := rfl
theorem q131_108 : z_fi (z_mi 131) 108 = some (108, .getfield 237, 0, 0, 2, 0, 0) := rfl
theorem q131_111 : z_fi (z_mi 131) 111 = some (111, .iload 6, 0, 0, 0, 0, 0) := rfl
theorem q131_113 : z_fi (z_mi 131) 113 = some (113, .iaload, 0, 0, 0, 0, 0) := rfl
theorem q131_114 : z_fi (z_mi 131) 114 = some (114, .iconst 4, 0, 0, 0, 4, 0) := rfl
theorem q131_115 : z_fi (z_mi 131) 115 = some (115, .if_icmp .eq 67, 0, 182, 0, 0, 0) := rfl
set_option maxRecDepth 8000 in
theorem q131_118 : z_fi (z_mi 131) 118 = some (118, .aload_n 0, 0, 0, 0, 0, 0) := rfl
set_option maxRecDepth 8000 in
theorem q131_119 : z_fi (z_mi 131) 119 = some (119, .getfield 16, 0, 9, 1, 0, 0) := rfl
set_option maxRecDepth 8000 in
theorem q131_122 : z_fi (z_mi 131) 122 = some (122, .aload_n 0, 0, 0, 0, 0, 0) := rfl
set_option maxRecDepth 8000 in
theorem q131_123 : z_fi (z_mi 131) 123 = some (123, .getfield 10, 0, 9, 0, 0, 0) := rfl
set_option maxRecDepth 8000 in
theorem q131_126 : z_fi (z_mi 131) 126 = some (126, .invokevirtual 85, 0, 6, 1, 0, 0) := rfl
set_option maxRecDepth 8000 in
theorem q131_129 : z_fi (z_mi 131) 129 = some (129, .aload_n 0, 0, 0, 0, 0, 0) := rfl
set_option maxRecDepth 8000 in
theorem q131_130 : z_fi (z_mi 131) 130 = some (130, .getfield 16, 0, 9, 1, 0, 0) := rfl
set_option maxRecDepth 8000 in
theorem q131_133 : z_fi (z_mi 131) 133 = some (133, .iload 6, 0, 0, 0, 0, 0) := rfl
set_option maxRecDepth 8000 in
theorem q131_135 : z_fi (z_mi 131) 135 = some (135, .invokevirtual 169, 0, 15, 1, 0, 0) := rfl
set_option maxRecDepth 8000 in
theorem q131_138 : z_fi (z_mi 131) 138 = some (138, .aload_n 0, 0, 0, 0, 0, 0) := rfl
set_option maxRecDepth 8000 in
theorem q131_139 : z_fi (z_mi 131) 139 = some (139, .getfield 16, 0, 9, 1, 0, 0) := rfl
set_option maxRecDepth 8000 in
theorem q131_142 : z_fi (z_mi 131) 142 = some (142, .iload_n 2, 0, 0, 0, 0, 0) := rfl
set_option maxRecDepth 8000 in
theorem q131_143 : z_fi (z_mi 131) 143 = some (143, .invokevirtual 196, 0, 19, 1, 0, 0) := rfl
set_option maxRecDepth 8000 in
theorem q131_146 : z_fi (z_mi 131) 146 = some (146, .aload_n 0, 0, 0, 0, 0, 0) := rfl
set_option maxRecDepth 8000 in
theorem q131_147 : z_fi (z_mi 131) 147 = some (147, .getfield 16, 0, 9, 1, 0, 0) := rfl
set_option maxRecDepth 8000 in
theorem q131_150 : z_fi (z_mi 131) 150 = some (150, .getfield 178, 0, 0, 4, 0, 0) := rfl
set_option maxRecDepth 8000 in
theorem q131_153 : z_fi (z_mi 131) 153 = some (153, .iload_n 1, 0, 0, 0, 0, 0) := rfl
set_option maxRecDepth 8000 in
theorem q131_154 : z_fi (z_mi 131) 154 = some (154, .iaload, 0, 0, 0, 0, 0) := rfl
set_option maxRecDepth 8000 in
theorem q131_155 : z_fi (z_mi 131) 155 = some (155, .iload_n 3, 0, 0, 0, 0, 0) := rfl
set_option maxRecDepth 8000 in
theorem q131_156 : z_fi (z_mi 131) 156 = some (156, .if_icmp .ne 17, 0, 173, 0, 0, 0) := rfl
set_option maxRecDepth 8000 in
theorem q131_159 : z_fi (z_mi 131) 159 = some (159, .aload_n 0, 0, 0, 0, 0, 0) := rfl
set_option maxRecDepth 8000 in
theorem q131_160 : z_fi (z_mi 131) 160 = some (160, .getfield 16, 0, 9, 1, 0, 0) := rfl
set_option maxRecDepth 8000 in
theorem q131_163 : z_fi (z_mi 131) 163 = some (163, .getfield 234, 0, 0, 5, 0, 0) := rfl
set_option maxRecDepth 8000 in
theorem q131_166 : z_fi (z_mi 131) 166 = some (166, .iload_n 1, 0, 0, 0, 0, 0) := rfl
set_option maxRecDepth 8000 in
theorem q131_167 : z_fi (z_mi 131) 167 = some (167, .iaload, 0, 0, 0, 0, 0) := rfl
set_option maxRecDepth 8000 in
theorem q131_168 : z_fi (z_mi 131) 168 = some (168, .iload 4, 0, 0, 0, 0, 0) := rfl
set_option maxRecDepth 8000 in
theorem q131_170 : z_fi (z_mi 131) 170 = some (170, .if_icmp .eq 12, 0, 182, 0, 0, 0) := rfl
set_option maxRecDepth 8000 in
theorem q131_173 : z_fi (z_mi 131) 173 = some (173, .iload 5, 0, 0, 0, 0, 0) := rfl
set_option maxRecDepth 8000 in
theorem q131_175 : z_fi (z_mi 131) 175 = some (175, .iconst 1, 0, 0, 0, 1, 0) := rfl
set_option maxRecDepth 8000 in
theorem q131_176 : z_fi (z_mi 131) 176 = some (176, .iload 6, 0, 0, 0, 0, 0) := rfl
set_option maxRecDepth 8000 in
theorem q131_178 : z_fi (z_mi 131) 178 = some (178, .ishl, 0, 0, 0, 0, 0) := rfl
set_option maxRecDepth 8000 in
theorem q131_179 : z_fi (z_mi 131) 179 = some (179, .ior, 0, 0, 0, 0, 0) := rfl
set_option maxRecDepth 8000 in
theorem q131_180 : z_fi (z_mi 131) 180 = some (180, .istore 5, 0, 0, 0, 0, 0) := rfl
set_option maxRecDepth 8000 in
theorem q131_182 : z_fi (z_mi 131) 182 = some (182, .iinc 6 1, 0, 0, 0, 1, 0) := rfl
set_option maxRecDepth 8000 in
theorem q131_185 : z_fi (z_mi 131) 185 = some (185, .goto (-99), 0, 86, 0, 0, 0) := rfl
set_option maxRecDepth 8000 in
theorem q131_188 : z_fi (z_mi 131) 188 = some (188, .iload 5, 0, 0, 0, 0, 0) := rfl
set_option maxRecDepth 8000 in
theorem q131_190 : z_fi (z_mi 131) 190 = some (190, .ireturn, 0, 0, 0, 0, 0) := rfl
set_option maxRecDepth 20000 in
set_option maxHeartbeats 4000000 in
theorem t_Y_blame {xL : Nat} {xs : Nat → Int32} {ρ : Nat → Nat → Option Nat} (hρ : z_hR ρ) (d : Nat) (a1 : Int32) (a2 : Int32) (σ : zS) : ∀ q, f_Y_blame a1 a2 σ = some q → z_ec xL xs ρ (d + 7) 131 [.ref 0, .int a1, .int a2] σ (em_i q) := by
  refine j_of (W := [.ref 0, .int a1, .int a2, .null, .null, .null, .null]) (fun L hL => ?_) ?_
  · subst hL; exact z_vl_0 _ 4 rfl
  · unfold f_Y_blame
    refine j_aload_n (pc' := 1) q131_0 rfl (by decide) rfl ?_
    refine j_getr (k := 0) (q := 1) (pc' := 4) q131_1 rfl (hρ 0 0 1 rfl) rfl ?_
    refine j_iload_n (pc' := 5) q131_4 rfl rfl ?_
    refine j_callV1_pi (d := d + 6) (pc' := 8) q131_5 rfl (Nat.le_of_ble_eq_true rfl) (Nat.le_of_ble_eq_true rfl) rfl (t_G_hasCell_1 hρ (d + 5) _ _) (fun r1 => ?_)
    refine j_if_eq (pc' := 11) q131_8 rfl (fun c2 => ?_) (fun c2 => ?_)
    · refine j_iconst (pc' := 22) q131_21 rfl ?_
      exact j_iret q131_22 rfl
    · refine j_iload_n (pc' := 12) q131_11 rfl rfl ?_
      refine j_iconst (pc' := 13) q131_12 rfl ?_
      refine j_bipush (pc' := 15) q131_13 rfl ?_
      refine j_callS3_pi (d := d + 6) (pc' := 18) q131_15 (Or.inl rfl) (Nat.le_of_ble_eq_true rfl) (Nat.le_of_ble_eq_true rfl) rfl (t_Y_isIn hρ (d + 6) _ _ _ _) (fun r3 => ?_)
      refine j_if_ne (pc' := 21) q131_18 rfl (fun c4 => ?_) (fun c4 => ?_)
      · refine j_iconst (pc' := 22) q131_21 rfl ?_
        exact j_iret q131_22 rfl
      · refine j_aload_n (pc' := 24) q131_23 rfl (by decide) rfl ?_
        refine j_getr (k := 0) (q := 1) (pc' := 27) q131_24 rfl (hρ 0 0 1 rfl) rfl ?_
        refine j_getr (k := 1) (q := 4) (pc' := 30) q131_27 rfl (hρ 1 4 4 rfl) rfl ?_
        refine j_iload_n (pc' := 31) q131_30 rfl rfl ?_
        refine j_if (fun hi5 => ?_) (fun _ => j_none)
        refine j_iald (k := 4) (N := 16) (pc' := 32) q131_31 rfl hi5 rfl ?_
        refine j_bipush (pc' := 34) q131_32 rfl ?_
        refine j_icmp_ne (pc' := 37) q131_34 rfl (fun c6 => ?_) (fun c6 => ?_)
        · refine j_bipush (pc' := 39) q131_37 rfl ?_
          exact j_iret q131_39 rfl
        · refine j_aload_n (pc' := 41) q131_40 rfl (by decide) rfl ?_
          refine j_getr (k := 0) (q := 17) (pc' := 44) q131_41 rfl (hρ 0 1 17 rfl) rfl ?_
          refine j_aload_n (pc' := 45) q131_44 rfl (by decide) rfl ?_
          refine j_getr (k := 0) (q := 1) (pc' := 48) q131_45 rfl (hρ 0 0 1 rfl) rfl ?_
          refine j_callV1_v (d := d + 6) (pc' := 51) q131_48 rfl (Nat.le_of_ble_eq_true rfl) (Nat.le_of_ble_eq_true rfl) rfl (t_G_copyFrom_17_1 hρ (d + 5) _) (fun r7 => ?_)
          refine j_aload_n (pc' := 52) q131_51 rfl (by decide) rfl ?_
          refine j_getr (k := 0) (q := 17) (pc' := 55) q131_52 rfl (hρ 0 1 17 rfl) rfl ?_
          refine j_iload_n (pc' := 56) q131_55 rfl rfl ?_
          refine j_callV1_v (d := d + 6) (pc' := 59) q131_56 rfl (Nat.le_of_ble_eq_true rfl) (Nat.le_of_ble_eq_true rfl) rfl (t_G_goOn_17 hρ (d + 0) _ _) (fun r8 => ?_)
          refine j_aload_n (pc' := 60) q131_59 rfl (by decide) rfl ?_
          refine j_getr (k := 0) (q := 17) (pc' := 63) q131_60 rfl (hρ 0 1 17 rfl) rfl ?_
          refine j_getr (k := 17) (q := 20) (pc' := 66) q131_63 rfl (hρ 17 4 20 rfl) rfl ?_
          refine j_iload_n (pc' := 67) q131_66 rfl rfl ?_
          refine j_if (fun hi9 => ?_) (fun _ => j_none)
          refine j_iald (k := 20) (N := 16) (pc' := 68) q131_67 rfl hi9 rfl ?_
          refine j_istore3 (pc' := 69) q131_68 rfl (Nat.le_of_ble_eq_true rfl) rfl ?_
          refine j_aload_n (pc' := 70) q131_69 rfl (by decide) rfl ?_
          refine j_getr (k := 0) (q := 17) (pc' := 73) q131_70 rfl (hρ 0 1 17 rfl) rfl ?_
          refine j_getr (k := 17) (q := 21) (pc' := 76) q131_73 rfl (hρ 17 5 21 rfl) rfl ?_
          refine j_iload_n (pc' := 77) q131_76 rfl rfl ?_
          refine j_if (fun hi10 => ?_) (fun _ => j_none)
          refine j_iald (k := 21) (N := 16) (pc' := 78) q131_77 rfl hi10 rfl ?_
          refine j_istore4 (pc' := 80) q131_78 rfl (Nat.le_of_ble_eq_true rfl) rfl ?_
          refine j_iconst (pc' := 81) q131_80 rfl ?_
          refine j_istore5 (pc' := 83) q131_81 rfl (Nat.le_of_ble_eq_true rfl) rfl ?_
          refine j_iconst (pc' := 84) q131_83 rfl ?_
          refine j_istore6 (pc' := 86) q131_84 rfl (Nat.le_of_ble_eq_true rfl) rfl ?_
          refine j_forget (V' := [.ref 0, .int a1, .int a2, .int (r8 20 a1.toNatClampNeg), .int (r8 21 a1.toNatClampNeg), .int (0 : Int32), .int (0 : Int32)]) (z_le_s (z_le_s (z_le_s (z_le_s (z_le_s (z_le_s (z_le_s (z_le_nil)))))))) ?_
          refine j_loopX (S := Int32 × Int32 × zS) (E := Int32 × zS) (fun e => e) 188 (fun s11 => [.ref 0, .int a1, .int a2, .int (r8 20 a1.toNatClampNeg), .int (r8 21 a1.toNatClampNeg), .int s11.1, .int s11.2.1]) (fun s11 => s11.2.2) (fun b11 => [.null, .null, .null, .null, .null, .int b11.1, .null]) (fun b11 => b11.2) (fun b11 => ?_) (fun R11 hR11 hX11 s11 => ?_) ((0 : Int32), (0 : Int32), r8)
          · show z_J _ _ _ _ _ _ _ _ _ _ _ _
            refine j_iload (pc' := 190) q131_188 rfl rfl ?_
            exact j_iret q131_190 rfl
          · show z_J _ _ _ _ _ _ _ _ _ _ _ _
            refine j_iload (pc' := 88) q131_86 rfl rfl ?_
            refine j_aload_n (pc' := 89) q131_88 rfl (by decide) rfl ?_
            refine j_getr (k := 0) (q := 1) (pc' := 92) q131_89 rfl (hρ 0 0 1 rfl) rfl ?_
            refine j_callV0_pi (d := d + 6) (pc' := 95) q131_92 rfl (Nat.le_of_ble_eq_true rfl) (Nat.le_of_ble_eq_true rfl) rfl (t_G_cells_1 hρ (d + 6) _) (fun r12 => ?_)
            refine j_icmp_ge (pc' := 98) q131_95 rfl (fun c13 => ?_) (fun c13 => ?_)
            · exact j_exit (j_forget (z_le_n (z_le_n (z_le_n (z_le_n (z_le_n (z_le_s (z_le_n (z_le_nil)))))))) (hX11 (s11.1, s11.2.2)))
            · refine j_iload (pc' := 100) q131_98 rfl rfl ?_
              refine j_iload_n (pc' := 101) q131_100 rfl rfl ?_
              refine j_join (T := Int32 × zS) 182 (fun t14 => [.ref 0, .int a1, .int a2, .int (r8 20 a1.toNatClampNeg), .int (r8 21 a1.toNatClampNeg), .int t14.1, .int s11.2.1]) (fun t14 => []) (fun t14 => t14.2) (fun t14 => ?_) (fun j14 hj14 => ?_)
              · show z_J _ _ _ _ _ _ _ _ _ _ _ _
                refine j_iinc6 (pc' := 185) q131_182 rfl (Nat.le_of_ble_eq_true rfl) rfl ?_
                refine j_goto q131_185 rfl ?_
                exact j_again (j_forget (z_le_s (z_le_s (z_le_s (z_le_s (z_le_s (z_le_s (z_le_s (z_le_nil)))))))) (hR11 (t14.1, (s11.2.1 + (1 : Int32)), t14.2)))
              · show z_J _ _ _ _ _ _ _ _ _ _ _ _
                refine j_icmp_eq (pc' := 104) q131_101 rfl (fun c15 => ?_) (fun c15 => ?_)
                · refine j_forget (z_le_s (z_le_s (z_le_s (z_le_s (z_le_s (z_le_s (z_le_s (z_le_nil)))))))) (hj14 (s11.1, s11.2.2))
                · refine j_aload_n (pc' := 105) q131_104 rfl (by decide) rfl ?_
                  refine j_getr (k := 0) (q := 1) (pc' := 108) q131_105 rfl (hρ 0 0 1 rfl) rfl ?_
                  refine j_getr (k := 1) (q := 2) (pc' := 111) q131_108 rfl (hρ 1 2 2 rfl) rfl ?_
                  refine j_iload (pc' := 113) q131_111 rfl rfl ?_
                  refine j_if (fun hi16 => ?_) (fun _ => j_none)
                  refine j_iald (k := 2) (N := 16) (pc' := 114) q131_113 rfl hi16 rfl ?_
                  refine j_iconst (pc' := 115) q131_114 rfl ?_
                  refine j_icmp_eq (pc' := 118) q131_115 rfl (fun c17 => ?_) (fun c17 => ?_)
                  · refine j_forget (z_le_s (z_le_s (z_le_s (z_le_s (z_le_s (z_le_s (z_le_s (z_le_nil)))))))) (hj14 (s11.1, s11.2.2))
                  · refine j_aload_n (pc' := 119) q131_118 rfl (by decide) rfl ?_
                    refine j_getr (k := 0) (q := 17) (pc' := 122) q131_119 rfl (hρ 0 1 17 rfl) rfl ?_
                    refine j_aload_n (pc' := 123) q131_122 rfl (by decide) rfl ?_
                    refine j_getr (k := 0) (q := 1) (pc' := 126) q131_123 rfl (hρ 0 0 1 rfl) rfl ?_
                    refine j_callV1_v (d := d + 6) (pc' := 129) q131_126 rfl (Nat.le_of_ble_eq_true rfl) (Nat.le_of_ble_eq_true rfl) rfl (t_G_copyFrom_17_1 hρ (d + 5) _) (fun r18 => ?_)
                    refine j_aload_n (pc' := 130) q131_129 rfl (by decide) rfl ?_
                    refine j_getr (k := 0) (q := 17) (pc' := 133) q131_130 rfl (hρ 0 1 17 rfl) rfl ?_
                    refine j_iload (pc' := 135) q131_133 rfl rfl ?_
                    refine j_callV1_v (d := d + 6) (pc' := 138) q131_135 rfl (Nat.le_of_ble_eq_true rfl) (Nat.le_of_ble_eq_true rfl) rfl (t_G_setBare_17 hρ (d + 4) _ _) (fun r19 => ?_)
                    refine j_aload_n (pc' := 139) q131_138 rfl (by decide) rfl ?_
                    refine j_getr (k := 0) (q := 17) (pc' := 142) q131_139 rfl (hρ 0 1 17 rfl) rfl ?_
                    refine j_iload_n (pc' := 143) q131_142 rfl rfl ?_
                    refine j_callV1_v (d := d + 6) (pc' := 146) q131_143 rfl (Nat.le_of_ble_eq_true rfl) (Nat.le_of_ble_eq_true rfl) rfl (t_G_goOn_17 hρ (d + 0) _ _) (fun r20 => ?_)
                    refine j_aload_n (pc' := 147) q131_146 rfl (by decide) rfl ?_
                    refine j_getr (k := 0) (q := 17) (pc' := 150) q131_147 rfl (hρ 0 1 17 rfl) rfl ?_
                    refine j_getr (k := 17) (q := 20) (pc' := 153) q131_150 rfl (hρ 17 4 20 rfl) rfl ?_
                    refine j_iload_n (pc' := 154) q131_153 rfl rfl ?_
                    refine j_if (fun hi21 => ?_) (fun _ => j_none)
                    refine j_iald (k := 20) (N := 16) (pc' := 155) q131_154 rfl hi21 rfl ?_
                    refine j_iload_n (pc' := 156) q131_155 rfl rfl ?_
                    refine j_join (T := Unit) 173 (fun t22 => [.ref 0, .int a1, .int a2, .int (r8 20 a1.toNatClampNeg), .int (r8 21 a1.toNatClampNeg), .int s11.1, .int s11.2.1]) (fun t22 => []) (fun t22 => r20) (fun t22 => ?_) (fun j22 hj22 => ?_)
                    · show z_J _ _ _ _ _ _ _ _ _ _ _ _
                      refine j_iload (pc' := 175) q131_173 rfl rfl ?_
                      refine j_iconst (pc' := 176) q131_175 rfl ?_
                      refine j_iload (pc' := 178) q131_176 rfl rfl ?_
                      refine j_ishl (pc' := 179) q131_178 rfl ?_
                      refine j_ior (pc' := 180) q131_179 rfl ?_
                      refine j_nameI (fun v23 => ?_)
                      refine j_istore5 (pc' := 182) q131_180 rfl (Nat.le_of_ble_eq_true rfl) rfl ?_
                      refine j_forget (z_le_s (z_le_s (z_le_s (z_le_s (z_le_s (z_le_s (z_le_s (z_le_nil)))))))) (hj14 (v23, r20))
                    · show z_J _ _ _ _ _ _ _ _ _ _ _ _
                      refine j_icmp_ne (pc' := 159) q131_156 rfl (fun c24 => ?_) (fun c24 => ?_)
                      · refine j_aload_n (pc' := 160) q131_159 rfl (by decide) rfl ?_
                        refine j_getr (k := 0) (q := 17) (pc' := 163) q131_160 rfl (hρ 0 1 17 rfl) rfl ?_
                        refine j_getr (k := 17) (q := 21) (pc' := 166) q131_163 rfl (hρ 17 5 21 rfl) rfl ?_
                        refine j_iload_n (pc' := 167) q131_166 rfl rfl ?_
                        refine j_if (fun hi25 => ?_) (fun _ => j_none)
                        refine j_iald (k := 21) (N := 16) (pc' := 168) q131_167 rfl hi25 rfl ?_
                        refine j_iload (pc' := 170) q131_168 rfl rfl ?_
                        refine j_icmp_eq (pc' := 173) q131_170 rfl (fun c26 => ?_) (fun c26 => ?_)
                        · refine j_forget (z_le_s (z_le_s (z_le_s (z_le_s (z_le_s (z_le_s (z_le_s (z_le_nil)))))))) (hj14 (s11.1, r20))
                        · refine j_forget (z_le_s (z_le_s (z_le_s (z_le_s (z_le_s (z_le_s (z_le_s (z_le_nil)))))))) (hj22 ())
                      · refine j_forget (z_le_s (z_le_s (z_le_s (z_le_s (z_le_s (z_le_s (z_le_s (z_le_nil)))))))) (hj22 ())
set_option maxRecDepth 8000 in
theorem q212_0 : z_fi (z_mi 212) 0 = some (0, .aload_n 0, 0, 0, 0, 0, 0) := rfl
set_option maxRecDepth 8000 in
theorem q212_1 : z_fi (z_mi 212) 1 = some (1, .iload_n 1, 0, 0, 0, 0, 0) := rfl
set_option maxRecDepth 8000 in
theorem q212_2 : z_fi (z_mi 212) 2 = some (2, .invokevirtual 165, 0, 164, 1, 0, 0) := rfl
set_option maxRecDepth 8000 in
theorem q212_5 : z_fi (z_mi 212) 5 = some (5, .ifCond .eq 15, 0, 20, 0, 0, 0) := rfl
set_option maxRecDepth 8000 in
theorem q212_8 : z_fi (z_mi 212) 8 = some (8, .iload_n 2, 0, 0, 0, 0, 0) := rfl
set_option maxRecDepth 8000 in
theorem q212_9 : z_fi (z_mi 212) 9 = some (9, .i2l, 0, 0, 0, 0, 0) := rfl
set_option maxRecDepth 8000 in
theorem q212_10 : z_fi (z_mi 212) 10 = some (10, .lconst 1, 0, 0, 0, 0, 1) := rfl
set_option maxRecDepth 8000 in
theorem q212_11 : z_fi (z_mi 212) 11 = some (11, .ldc2_w 259, 0, 0, 0, 0, 12) := rfl
set_option maxRecDepth 8000 in
theorem q212_14 : z_fi (z_mi 212) 14 = some (14, .invokestatic 62, 1, 149, 3, 0, 0) := rfl
set_option maxRecDepth 8000 in
theorem q212_17 : z_fi (z_mi 212) 17 = some (17, .ifCond .ne 5, 0, 22, 0, 0, 0) := rfl
set_option maxRecDepth 8000 in
theorem q212_20 : z_fi (z_mi 212) 20 = some (20, .iconst (-1), 0, 0, 0, (-1), 0) := rfl
set_option maxRecDepth 8000 in
theorem q212_21 : z_fi (z_mi 212) 21 = some (21, .ireturn, 0, 0, 0, 0, 0) := rfl
set_option maxRecDepth 8000 in
theorem q212_22 : z_fi (z_mi 212) 22 = some (22, .aload_n 0, 0, 0, 0, 0, 0) := rfl
set_option maxRecDepth 8000 in
theorem q212_23 : z_fi (z_mi 212) 23 = some (23, .iconst 0, 0, 0, 0, 0, 0) := rfl
set_option maxRecDepth 8000 in
theorem q212_24 : z_fi (z_mi 212) 24 = some (24, .iload_n 1, 0, 0, 0, 0, 0) := rfl
set_option maxRecDepth 8000 in
theorem q212_25 : z_fi (z_mi 212) 25 = some (25, .invokevirtual 162, 0, 170, 2, 0, 0) := rfl
set_option maxRecDepth 8000 in
theorem q212_28 : z_fi (z_mi 212) 28 = some (28, .bipush (-4), 0, 0, 0, (-4), 0) := rfl
set_option maxRecDepth 8000 in
theorem q212_30 : z_fi (z_mi 212) 30 = some (30, .if_icmp .ne 6, 0, 36, 0, 0, 0) := rfl
set_option maxRecDepth 8000 in
theorem q212_33 : z_fi (z_mi 212) 33 = some (33, .bipush (-2), 0, 0, 0, (-2), 0) := rfl
set_option maxRecDepth 8000 in
theorem q212_35 : z_fi (z_mi 212) 35 = some (35, .ireturn, 0, 0, 0, 0, 0) := rfl
set_option maxRecDepth 8000 in
theorem q212_36 : z_fi (z_mi 212) 36 = some (36, .aload_n 0, 0, 0, 0, 0, 0) := rfl
set_option maxRecDepth 8000 in
theorem q212_37 : z_fi (z_mi 212) 37 = some (37, .iconst 0, 0, 0, 0, 0, 0) := rfl
set_option maxRecDepth 8000 in
theorem q212_38 : z_fi (z_mi 212) 38 = some (38, .sipush 440, 0, 0, 0, 440, 0) := rfl
set_option maxRecDepth 8000 in
theorem q212_41 : z_fi (z_mi 212) 41 = some (41, .invokevirtual 227, 0, 195, 2, 0, 0) := rfl
set_option maxRecDepth 8000 in
theorem q212_44 : z_fi (z_mi 212) 44 = some (44, .aload_n 0, 0, 0, 0, 0, 0) := rfl
set_option maxRecDepth 8000 in
theorem q212_45 : z_fi (z_mi 212) 45 = some (45, .sipush 440, 0, 0, 0, 440, 0) := rfl
set_option maxRecDepth 8000 in
theorem q212_48 : z_fi (z_mi 212) 48 = some (48, .iload_n 2, 0, 0, 0, 0, 0) := rfl
set_option maxRecDepth 8000 in
theorem q212_49 : z_fi (z_mi 212) 49 = some (49, .invokevirtual 224, 0, 194, 2, 0, 0) := rfl
set_option maxRecDepth 8000 in
theorem q212_52 : z_fi (z_mi 212) 52 = some (52, .aload_n 0, 0, 0, 0, 0, 0) := rfl
set_option maxRecDepth 8000 in
theorem q212_53 : z_fi (z_mi 212) 53 = some (53, .sipush 440, 0, 0, 0, 440, 0) := rfl
set_option maxRecDepth 8000 in
theorem q212_56 : z_fi (z_mi 212) 56 = some (56, .iload_n 1, 0, 0, 0, 0, 0) := rfl
set_option maxRecDepth 8000 in
theorem q212_57 : z_fi (z_mi 212) 57 = some (57, .invokevirtual 162, 0, 170, 2, 0, 0) := rfl
set_option maxRecDepth 8000 in
theorem q212_60 : z_fi (z_mi 212) 60 = some (60, .istore_n 3, 0, 0, 0, 0, 0) := rfl
set_option maxRecDepth 8000 in
theorem q212_61 : z_fi (z_mi 212) 61 = some (61, .aload_n 0, 0, 0, 0, 0, 0) := rfl
set_option maxRecDepth 8000 in
theorem q212_62 : z_fi (z_mi 212) 62 = some (62, .getfield 7, 0, 10, 0, 0, 0) := rfl
set_option maxRecDepth 8000 in
theorem q212_65 : z_fi (z_mi 212) 65 = some (65, .sipush 440, 0, 0, 0, 440, 0) := rfl
set_option maxRecDepth 8000 in
theorem q212_68 : z_fi (z_mi 212) 68 = some (68, .iconst 5, 0, 0, 0, 5, 0) := rfl
set_option maxRecDepth 8000 in
theorem q212_69 : z_fi (z_mi 212) 69 = some (69, .iload_n 1, 0, 0, 0, 0, 0) := rfl
set_option maxRecDepth 8000 in
theorem q212_70 : z_fi (z_mi 212) 70 = some (70, .imul, 0, 0, 0, 0, 0) := rfl
set_option maxRecDepth 8000 in
theorem q212_71 : z_fi (z_mi 212) 71 = some (71, .iadd, 0, 0, 0, 0, 0) := rfl
set_option maxRecDepth 8000 in
theorem q212_72 : z_fi (z_mi 212) 72 = some (72, .iconst 3, 0, 0, 0, 3, 0) := rfl
set_option maxRecDepth 8000 in
theorem q212_73 : z_fi (z_mi 212) 73 = some (73, .iadd, 0, 0, 0, 0, 0) := rfl
set_option maxRecDepth 8000 in
theorem q212_74 : z_fi (z_mi 212) 74 = some (74, .iaload, 0, 0, 0, 0, 0) := rfl
set_option maxRecDepth 8000 in
theorem q212_75 : z_fi (z_mi 212) 75 = some (75, .istore 4, 0, 0, 0, 0, 0) := rfl
set_option maxRecDepth 8000 in
theorem q212_77 : z_fi (z_mi 212) 77 = some (77, .iconst 0, 0, 0, 0, 0, 0) := rfl
set_option maxRecDepth 8000 in
theorem q212_78 : z_fi (z_mi 212) 78 = some (78, .istore 5, 0, 0, 0, 0, 0) := rfl
set_option maxRecDepth 8000 in
theorem q212_80 : z_fi (z_mi 212) 80 = some (80, .iconst 0, 0, 0, 0, 0, 0) := rfl
set_option maxRecDepth 8000 in
theorem q212_81 : z_fi (z_mi 212) 81 = some (81, .istore 6, 0, 0, 0, 0, 0) := rfl
set_option maxRecDepth 8000 in
theorem q212_83 : z_fi (z_mi 212) 83 = some (83, .iload 6, 0, 0, 0, 0, 0) := rfl
set_option maxRecDepth 8000 in
theorem q212_85 : z_fi (z_mi 212) 85 = some (85, .aload_n 0, 0, 0, 0, 0, 0) := rfl
set_option maxRecDepth 8000 in
theorem q212_86 : z_fi (z_mi 212) 86 = some (86, .getfield 13, 0, 10, 1, 0, 0) := rfl
set_option maxRecDepth 8000 in
theorem q212_89 : z_fi (z_mi 212) 89 = some (89, .aload_n 0, 0, 0, 0, 0, 0) := rfl
set_option maxRecDepth 8000 in
theorem q212_90 : z_fi (z_mi 212) 90 = some (90, .getfield 17, 0, 10, 2, 0, 0) := rfl
set_option maxRecDepth 8000 in
theorem q212_93 : z_fi (z_mi 212) 93 = some (93, .imul, 0, 0, 0, 0, 0) := rfl
set_option maxRecDepth 8000 in
theorem q212_94 : z_fi (z_mi 212) 94 = some (94, .if_icmp .ge 103, 0, 197, 0, 0, 0) := rfl
set_option maxRecDepth 8000 in
theorem q212_97 : z_fi (z_mi 212) 97 = some (97, .aload_n 0, 0, 0, 0, 0, 0) := rfl
set_option maxRecDepth 8000 in
theorem q212_98 : z_fi (z_mi 212) 98 = some (98, .iconst 0, 0, 0, 0, 0, 0) := rfl
set_option maxRecDepth 8000 in
theorem q212_99 : z_fi (z_mi 212) 99 = some (99, .sipush 440, 0, 0, 0, 440, 0) := rfl
set_option maxRecDepth 8000 in
theorem q212_102 : z_fi (z_mi 212) 102 = some (102, .invokevirtual 227, 0, 195, 2, 0, 0) := rfl
set_option maxRecDepth 8000 in
theorem q212_105 : z_fi (z_mi 212) 105 = some (105, .aload_n 0, 0, 0, 0, 0, 0) := rfl
set_option maxRecDepth 8000 in
theorem q212_106 : z_fi (z_mi 212) 106 = some (106, .getfield 7, 0, 10, 0, 0, 0) := rfl
set_option maxRecDepth 8000 in
theorem q212_109 : z_fi (z_mi 212) 109 = some (109, .sipush 440, 0, 0, 0, 440, 0) := rfl
set_option maxRecDepth 8000 in
theorem q212_112 : z_fi (z_mi 212) 112 = some (112, .iconst 5, 0, 0, 0, 5, 0) := rfl
set_option maxRecDepth 8000 in
theorem q212_113 : z_fi (z_mi 212) 113 = some (113, .iload 6, 0, 0, 0, 0, 0) := rfl
set_option maxRecDepth 8000 in
theorem q212_115 : z_fi (z_mi 212) 115 = some (115, .imul, 0, 0, 0, 0, 0) := rfl
set_option maxRecDepth 8000 in
theorem q212_116 : z_fi (z_mi 212) 116 = some (116, .iadd, 0, 0, 0, 0, 0) := rfl
set_option maxRecDepth 8000 in
theorem q212_117 : z_fi (z_mi 212) 117 = some (117, .iconst 1, 0, 0, 0, 1, 0) := rfl
set_option maxRecDepth 8000 in
theorem q212_118 : z_fi (z_mi 212) 118 = some (118, .iadd, 0, 0, 0, 0, 0) := rfl
set_option maxRecDepth 8000 in
theorem q212_119 : z_fi (z_mi 212) 119 = some (119, .iconst 0, 0, 0, 0, 0, 0) := rfl
set_option maxRecDepth 8000 in
theorem q212_120 : z_fi (z_mi 212) 120 = some (120, .iastore, 0, 0, 0, 0, 0) := rfl
set_option maxRecDepth 8000 in
theorem q212_121 : z_fi (z_mi 212) 121 = some (121, .aload_n 0, 0, 0, 0, 0, 0) := rfl
set_option maxRecDepth 8000 in
theorem q212_122 : z_fi (z_mi 212) 122 = some (122, .sipush 440, 0, 0, 0, 440, 0) := rfl
set_option maxRecDepth 8000 in
theorem q212_125 : z_fi (z_mi 212) 125 = some (125, .iload_n 2, 0, 0, 0, 0, 0) := rfl
set_option maxRecDepth 8000 in
theorem q212_126 : z_fi (z_mi 212) 126 = some (126, .invokevirtual 224, 0, 194, 2, 0, 0) := rfl
set_option maxRecDepth 8000 in
theorem q212_129 : z_fi (z_mi 212) 129 = some (129, .aload_n 0, 0, 0, 0, 0, 0) := rfl
set_option maxRecDepth 8000 in
theorem q212_130 : z_fi (z_mi 212) 130 = some (130, .sipush 440, 0, 0, 0, 440, 0) := rfl
set_option maxRecDepth 8000 in
theorem q212_133 : z_fi (z_mi 212) 133 = some (133, .iload_n 1, 0, 0, 0, 0, 0) := rfl
set_option maxRecDepth 8000 in
theorem q212_134 : z_fi (z_mi 212) 134 = some (134, .invokevirtual 162, 0, 170, 2, 0, 0) := rfl
set_option maxRecDepth 8000 in
theorem q212_137 : z_fi (z_mi 212) 137 = some (137, .iload_n 3, 0, 0, 0, 0, 0) := rfl
set_option maxRecDepth 8000 in
theorem q212_138 : z_fi (z_mi 212) 138 = some (138, .if_icmp .ne 22, 0, 160, 0, 0, 0) := rfl
set_option maxRecDepth 8000 in
theorem q212_141 : z_fi (z_mi 212) 141 = some (141, .aload_n 0, 0, 0, 0, 0, 0) := rfl
set_option maxRecDepth 8000 in
theorem q212_142 : z_fi (z_mi 212) 142 = some (142, .getfield 7, 0, 10, 0, 0, 0) := rfl
set_option maxRecDepth 8000 in
theorem q212_145 : z_fi (z_mi 212) 145 = some (145, .sipush 440, 0, 0, 0, 440, 0) := rfl
set_option maxRecDepth 8000 in
theorem q212_148 : z_fi (z_mi 212) 148 = some (148, .iconst 5, 0, 0, 0, 5, 0) := rfl
set_option maxRecDepth 8000 in
theorem q212_149 : z_fi (z_mi 212) 149 = some (149, .iload_n 1, 0, 0, 0, 0, 0) := rfl
set_option maxRecDepth 8000 in
theorem q212_150 : z_fi (z_mi 212) 150 = some (150, .imul, 0, 0, 0, 0, 0) := rfl
set_option maxRecDepth 8000 in
theorem q212_151 : z_fi (z_mi 212) 151 = some (151, .iadd, 0, 0, 0, 0, 0) := rfl
set_option maxRecDepth 8000 in
theorem q212_152 : z_fi (z_mi 212) 152 = some (152, .iconst 3, 0, 0, 0, 3, 0) := rfl
set_option maxRecDepth 8000 in
theorem q212_153 : z_fi (z_mi 212) 153 = some (153, .iadd, 0, 0, 0, 0, 0) := rfl
set_option maxRecDepth 8000 in
theorem q212_154 : z_fi (z_mi 212) 154 = some (154, .iaload, 0, 0, 0, 0, 0) := rfl
set_option maxRecDepth 8000 in
theorem q212_155 : z_fi (z_mi 212) 155 = some (155, .iload 4, 0, 0, 0, 0, 0) := rfl
set_option maxRecDepth 8000 in
theorem q212_157 : z_fi (z_mi 212) 157 = some (157, .if_icmp .eq 7, 0, 164, 0, 0, 0) := rfl
set_option maxRecDepth 8000 in
theorem q212_160 : z_fi (z_mi 212) 160 = some (160, .iconst 1, 0, 0, 0, 1, 0) := rfl
set_option maxRecDepth 8000 in
theorem q212_161 : z_fi (z_mi 212) 161 = some (161, .goto 4, 0, 165, 0, 0, 0) := rfl
set_option maxRecDepth 8000 in
theorem q212_164 : z_fi (z_mi 212) 164 = some (164, .iconst 0, 0, 0, 0, 0, 0) := rfl
set_option maxRecDepth 8000 in
theorem q212_165 : z_fi (z_mi 212) 165 = some (165, .istore 7, 0, 0, 0, 0, 0) := rfl
set_option maxRecDepth 8000 in
theorem q212_167 : z_fi (z_mi 212) 167 = some (167, .iload 5, 0, 0, 0, 0, 0) := rfl
set_option maxRecDepth 8000 in
theorem q212_169 : z_fi (z_mi 212) 169 = some (169, .iload 6, 0, 0, 0, 0, 0) := rfl
set_option maxRecDepth 8000 in
theorem q212_171 : z_fi (z_mi 212) 171 = some (171, .iload_n 1, 0, 0, 0, 0, 0) := rfl
set_option maxRecDepth 8000 in
theorem q212_172 : z_fi (z_mi 212) 172 = some (172, .if_icmp .eq 15, 0, 187, 0, 0, 0) := rfl
set_option maxRecDepth 8000 in
theorem q212_175 : z_fi (z_mi 212) 175 = some (175, .iload 7, 0, 0, 0, 0, 0) := rfl
set_option maxRecDepth 8000 in
theorem q212_177 : z_fi (z_mi 212) 177 = some (177, .ifCond .eq 10, 0, 187, 0, 0, 0) := rfl
set_option maxRecDepth 8000 in
theorem q212_180 : z_fi (z_mi 212) 180 = some (180, .iconst 1, 0, 0, 0, 1, 0) := rfl
set_option maxRecDepth 8000 in
theorem q212_181 : z_fi (z_mi 212) 181 = some (181, .iload 6, 0, 0, 0, 0, 0) := rfl
set_option maxRecDepth 8000 in
theorem q212_183 : z_fi (z_mi 212) 183 = some (183, .ishl, 0, 0, 0, 0, 0) := rfl
set_option maxRecDepth 8000 in
theorem q212_184 : z_fi (z_mi 212) 184 = some (184, .goto 4, 0, 188, 0, 0, 0) := rfl
set_option maxRecDepth 8000 in
theorem q212_187 : z_fi (z_mi 212) 187 = some (187, .iconst 0, 0, 0, 0, 0, 0) := rfl
set_option maxRecDepth 8000 in
theorem q212_188 : z_fi (z_mi 212) 188 = some (188, .ior, 0, 0, 0, 0, 0) := rfl
set_option maxRecDepth 8000 in
theorem q212_189 : z_fi (z_mi 212) 189 = some (189, .istore 5, 0, 0, 0, 0, 0) := rfl
set_option maxRecDepth 8000 in
theorem q212_191 : z_fi (z_mi 212) 191 = some (191, .iinc 6 1, 0, 0, 0, 1, 0) := rfl
set_option maxRecDepth 8000 in
theorem q212_194 : z_fi (z_mi 212) 194 = some (194, .goto (-111), 0, 83, 0, 0, 0) := rfl
set_option maxRecDepth 8000 in
theorem q212_197 : z_fi (z_mi 212) 197 = some (197, .iload 5, 0, 0, 0, 0, 0) := rfl
set_option maxRecDepth 8000 in
theorem q212_199 : z_fi (z_mi 212) 199 = some (199, .ireturn, 0, 0, 0, 0, 0) := rfl
set_option maxRecDepth 20000 in
set_option maxHeartbeats 4000000 in
theorem t_M_blame {xL : Nat} {xs : Nat → Int32} {ρ : Nat → Nat → Option Nat} (hρ : z_hR ρ) (d : Nat) (a1 : Int32) (a2 : Int32) (σ : zS) : ∀ q, f_M_blame a1 a2 σ = some q → z_ec xL xs ρ (d + 4) 212 [.ref 90, .int a1, .int a2] σ (em_i q) := by
  refine j_of (W := [.ref 90, .int a1, .int a2, .null, .null, .null, .null, .null]) (fun L hL => ?_) ?_
  · subst hL; exact z_vl_0 _ 5 rfl
  · unfold f_M_blame
    refine j_aload_n (pc' := 1) q212_0 rfl (by decide) rfl ?_
    refine j_iload_n (pc' := 2) q212_1 rfl rfl ?_
    refine j_callV1_pi (d := d + 3) (pc' := 5) q212_2 rfl (Nat.le_of_ble_eq_true rfl) (Nat.le_of_ble_eq_true rfl) rfl (t_M_isCell hρ (d + 2) _ _) (fun r1 => ?_)
    refine j_if_eq (pc' := 8) q212_5 rfl (fun c2 => ?_) (fun c2 => ?_)
    · refine j_iconst (pc' := 21) q212_20 rfl ?_
      exact j_iret q212_21 rfl
    · refine j_iload_n (pc' := 9) q212_8 rfl rfl ?_
      refine j_i2l (pc' := 10) q212_9 rfl ?_
      refine j_lconst (pc' := 11) q212_10 rfl ?_
      refine j_ldc2 (pc' := 14) q212_11 rfl ?_
      refine j_callS3_pi (d := d + 3) (pc' := 17) q212_14 (Or.inl rfl) (Nat.le_of_ble_eq_true rfl) (Nat.le_of_ble_eq_true rfl) rfl (t_M_in hρ (d + 3) _ _ _ _) (fun r3 => ?_)
      refine j_if_ne (pc' := 20) q212_17 rfl (fun c4 => ?_) (fun c4 => ?_)
      · refine j_iconst (pc' := 21) q212_20 rfl ?_
        exact j_iret q212_21 rfl
      · refine j_aload_n (pc' := 23) q212_22 rfl (by decide) rfl ?_
        refine j_iconst (pc' := 24) q212_23 rfl ?_
        refine j_iload_n (pc' := 25) q212_24 rfl rfl ?_
        refine j_callV2_pi (d := d + 3) (pc' := 28) q212_25 rfl (Nat.le_of_ble_eq_true rfl) (Nat.le_of_ble_eq_true rfl) rfl (t_M_cropIn hρ (d + 3) _ _ _) (fun r5 => ?_)
        refine j_bipush (pc' := 30) q212_28 rfl ?_
        refine j_icmp_ne (pc' := 33) q212_30 rfl (fun c6 => ?_) (fun c6 => ?_)
        · refine j_bipush (pc' := 35) q212_33 rfl ?_
          exact j_iret q212_35 rfl
        · refine j_aload_n (pc' := 37) q212_36 rfl (by decide) rfl ?_
          refine j_iconst (pc' := 38) q212_37 rfl ?_
          refine j_sipush (pc' := 41) q212_38 rfl ?_
          refine j_callV2_v (d := d + 3) (pc' := 44) q212_41 rfl (Nat.le_of_ble_eq_true rfl) (Nat.le_of_ble_eq_true rfl) rfl (t_M_copies hρ (d + 3) _ _ _) (fun r7 => ?_)
          refine j_aload_n (pc' := 45) q212_44 rfl (by decide) rfl ?_
          refine j_sipush (pc' := 48) q212_45 rfl ?_
          refine j_iload_n (pc' := 49) q212_48 rfl rfl ?_
          refine j_callV2_v (d := d + 3) (pc' := 52) q212_49 rfl (Nat.le_of_ble_eq_true rfl) (Nat.le_of_ble_eq_true rfl) rfl (t_M_weeks hρ (d + 0) _ _ _) (fun r8 => ?_)
          refine j_aload_n (pc' := 53) q212_52 rfl (by decide) rfl ?_
          refine j_sipush (pc' := 56) q212_53 rfl ?_
          refine j_iload_n (pc' := 57) q212_56 rfl rfl ?_
          refine j_callV2_pi (d := d + 3) (pc' := 60) q212_57 rfl (Nat.le_of_ble_eq_true rfl) (Nat.le_of_ble_eq_true rfl) rfl (t_M_cropIn hρ (d + 3) _ _ _) (fun r9 => ?_)
          refine j_istore3 (pc' := 61) q212_60 rfl (Nat.le_of_ble_eq_true rfl) rfl ?_
          refine j_aload_n (pc' := 62) q212_61 rfl (by decide) rfl ?_
          refine j_getr (k := 90) (q := 91) (pc' := 65) q212_62 rfl (hρ 90 0 91 rfl) rfl ?_
          refine j_sipush (pc' := 68) q212_65 rfl ?_
          refine j_iconst (pc' := 69) q212_68 rfl ?_
          refine j_iload_n (pc' := 70) q212_69 rfl rfl ?_
          refine j_imul (pc' := 71) q212_70 rfl ?_
          refine j_iadd (pc' := 72) q212_71 rfl ?_
          refine j_iconst (pc' := 73) q212_72 rfl ?_
          refine j_iadd (pc' := 74) q212_73 rfl ?_
          refine j_if (fun hi10 => ?_) (fun _ => j_none)
          refine j_iald (k := 91) (N := 550) (pc' := 75) q212_74 rfl hi10 rfl ?_
          refine j_nameI (fun v11 => ?_)
          refine j_istore4 (pc' := 77) q212_75 rfl (Nat.le_of_ble_eq_true rfl) rfl ?_
          refine j_iconst (pc' := 78) q212_77 rfl ?_
          refine j_istore5 (pc' := 80) q212_78 rfl (Nat.le_of_ble_eq_true rfl) rfl ?_
          refine j_iconst (pc' := 81) q212_80 rfl ?_
          refine j_istore6 (pc' := 83) q212_81 rfl (Nat.le_of_ble_eq_true rfl) rfl ?_
          refine j_forget (V' := [.ref 90, .int a1, .int a2, .int r9, .int v11, .int (0 : Int32), .int (0 : Int32), .null]) (z_le_s (z_le_s (z_le_s (z_le_s (z_le_s (z_le_s (z_le_s (z_le_n (z_le_nil))))))))) ?_
          refine j_loopX (S := Int32 × Int32 × zS) (E := Int32 × zS) (fun e => e) 197 (fun s12 => [.ref 90, .int a1, .int a2, .int r9, .int v11, .int s12.1, .int s12.2.1, .null]) (fun s12 => s12.2.2) (fun b12 => [.null, .null, .null, .null, .null, .int b12.1, .null, .null]) (fun b12 => b12.2) (fun b12 => ?_) (fun R12 hR12 hX12 s12 => ?_) ((0 : Int32), (0 : Int32), r8)
          · show z_J _ _ _ _ _ _ _ _ _ _ _ _
            refine j_iload (pc' := 199) q212_197 rfl rfl ?_
            exact j_iret q212_199 rfl
          · show z_J _ _ _ _ _ _ _ _ _ _ _ _
            refine j_iload (pc' := 85) q212_83 rfl rfl ?_
            refine j_aload_n (pc' := 86) q212_85 rfl (by decide) rfl ?_
            refine j_getf (k := 90) (pc' := 89) q212_86 rfl rfl ?_
            refine j_aload_n (pc' := 90) q212_89 rfl (by decide) rfl ?_
            refine j_getf (k := 90) (pc' := 93) q212_90 rfl rfl ?_
            refine j_imul (pc' := 94) q212_93 rfl ?_
            refine j_icmp_ge (pc' := 97) q212_94 rfl (fun c13 => ?_) (fun c13 => ?_)
            · exact j_exit (j_forget (z_le_n (z_le_n (z_le_n (z_le_n (z_le_n (z_le_s (z_le_n (z_le_n (z_le_nil))))))))) (hX12 (s12.1, s12.2.2)))
            · refine j_aload_n (pc' := 98) q212_97 rfl (by decide) rfl ?_
              refine j_iconst (pc' := 99) q212_98 rfl ?_
              refine j_sipush (pc' := 102) q212_99 rfl ?_
              refine j_callV2_v (d := d + 3) (pc' := 105) q212_102 rfl (Nat.le_of_ble_eq_true rfl) (Nat.le_of_ble_eq_true rfl) rfl (t_M_copies hρ (d + 3) _ _ _) (fun r14 => ?_)
              refine j_aload_n (pc' := 106) q212_105 rfl (by decide) rfl ?_
              refine j_getr (k := 90) (q := 91) (pc' := 109) q212_106 rfl (hρ 90 0 91 rfl) rfl ?_
              refine j_sipush (pc' := 112) q212_109 rfl ?_
              refine j_iconst (pc' := 113) q212_112 rfl ?_
              refine j_iload (pc' := 115) q212_113 rfl rfl ?_
              refine j_imul (pc' := 116) q212_115 rfl ?_
              refine j_iadd (pc' := 117) q212_116 rfl ?_
              refine j_iconst (pc' := 118) q212_117 rfl ?_
              refine j_iadd (pc' := 119) q212_118 rfl ?_
              refine j_iconst (pc' := 120) q212_119 rfl ?_
              refine j_if (fun hi15 => ?_) (fun _ => j_none)
              refine j_iast (k := 91) (N := 550) (pc' := 121) q212_120 rfl hi15 rfl ?_
              refine j_nameS (fun τ16 => ?_)
              refine j_aload_n (pc' := 122) q212_121 rfl (by decide) rfl ?_
              refine j_sipush (pc' := 125) q212_122 rfl ?_
              refine j_iload_n (pc' := 126) q212_125 rfl rfl ?_
              refine j_callV2_v (d := d + 3) (pc' := 129) q212_126 rfl (Nat.le_of_ble_eq_true rfl) (Nat.le_of_ble_eq_true rfl) rfl (t_M_weeks hρ (d + 0) _ _ _) (fun r17 => ?_)
              refine j_aload_n (pc' := 130) q212_129 rfl (by decide) rfl ?_
              refine j_sipush (pc' := 133) q212_130 rfl ?_
              refine j_iload_n (pc' := 134) q212_133 rfl rfl ?_
              refine j_callV2_pi (d := d + 3) (pc' := 137) q212_134 rfl (Nat.le_of_ble_eq_true rfl) (Nat.le_of_ble_eq_true rfl) rfl (t_M_cropIn hρ (d + 3) _ _ _) (fun r18 => ?_)
              refine j_iload_n (pc' := 138) q212_137 rfl rfl ?_
              refine j_join (T := Int32) 165 (fun t19 => [.ref 90, .int a1, .int a2, .int r9, .int v11, .int s12.1, .int s12.2.1, .null]) (fun t19 => [.int t19]) (fun t19 => r17) (fun t19 => ?_) (fun j19 hj19 => ?_)
              · show z_J _ _ _ _ _ _ _ _ _ _ _ _
                refine j_istore7 (pc' := 167) q212_165 rfl (Nat.le_of_ble_eq_true rfl) rfl ?_
                refine j_iload (pc' := 169) q212_167 rfl rfl ?_
                refine j_iload (pc' := 171) q212_169 rfl rfl ?_
                refine j_iload_n (pc' := 172) q212_171 rfl rfl ?_
                refine j_join (T := Int32 × Int32) 188 (fun t20 => [.ref 90, .int a1, .int a2, .int r9, .int v11, .null, .int s12.2.1, .null]) (fun t20 => [.int t20.1, .int t20.2]) (fun t20 => r17) (fun t20 => ?_) (fun j20 hj20 => ?_)
                · show z_J _ _ _ _ _ _ _ _ _ _ _ _
                  refine j_ior (pc' := 189) q212_188 rfl ?_
                  refine j_istore5 (pc' := 191) q212_189 rfl (Nat.le_of_ble_eq_true rfl) rfl ?_
                  refine j_iinc6 (pc' := 194) q212_191 rfl (Nat.le_of_ble_eq_true rfl) rfl ?_
                  refine j_goto q212_194 rfl ?_
                  exact j_again (j_forget (z_le_s (z_le_s (z_le_s (z_le_s (z_le_s (z_le_s (z_le_s (z_le_n (z_le_nil))))))))) (hR12 ((t20.2 ||| t20.1), (s12.2.1 + (1 : Int32)), r17)))
                · show z_J _ _ _ _ _ _ _ _ _ _ _ _
                  refine j_join (T := Int32) 187 (fun t21 => [.ref 90, .int a1, .int a2, .int r9, .int v11, .null, .int s12.2.1, .null]) (fun t21 => [.int t21]) (fun t21 => r17) (fun t21 => ?_) (fun j21 hj21 => ?_)
                  · show z_J _ _ _ _ _ _ _ _ _ _ _ _
                    refine j_iconst (pc' := 188) q212_187 rfl ?_
                    refine j_forget (z_le_s (z_le_s (z_le_s (z_le_s (z_le_s (z_le_n (z_le_s (z_le_n (z_le_nil))))))))) (hj20 ((0 : Int32), t21))
                  · show z_J _ _ _ _ _ _ _ _ _ _ _ _
                    refine j_icmp_eq (pc' := 175) q212_172 rfl (fun c22 => ?_) (fun c22 => ?_)
                    · refine j_forget (z_le_s (z_le_s (z_le_s (z_le_s (z_le_s (z_le_n (z_le_s (z_le_n (z_le_nil))))))))) (hj21 s12.1)
                    · refine j_iload (pc' := 177) q212_175 rfl rfl ?_
                      refine j_if_eq (pc' := 180) q212_177 rfl (fun c23 => ?_) (fun c23 => ?_)
                      · refine j_forget (z_le_s (z_le_s (z_le_s (z_le_s (z_le_s (z_le_n (z_le_s (z_le_n (z_le_nil))))))))) (hj21 s12.1)
                      · refine j_iconst (pc' := 181) q212_180 rfl ?_
                        refine j_iload (pc' := 183) q212_181 rfl rfl ?_
                        refine j_ishl (pc' := 184) q212_183 rfl ?_
                        refine j_goto q212_184 rfl ?_
                        refine j_forget (z_le_s (z_le_s (z_le_s (z_le_s (z_le_s (z_le_n (z_le_s (z_le_n (z_le_nil))))))))) (hj20 (((1 : Int32) <<< (s12.2.1 &&& 31)), s12.1))
              · show z_J _ _ _ _ _ _ _ _ _ _ _ _
                refine j_join (T := Unit) 160 (fun t24 => [.ref 90, .int a1, .int a2, .int r9, .int v11, .int s12.1, .int s12.2.1, .null]) (fun t24 => []) (fun t24 => r17) (fun t24 => ?_) (fun j24 hj24 => ?_)
                · show z_J _ _ _ _ _ _ _ _ _ _ _ _
                  refine j_iconst (pc' := 161) q212_160 rfl ?_
                  refine j_goto q212_161 rfl ?_
                  refine j_forget (z_le_s (z_le_s (z_le_s (z_le_s (z_le_s (z_le_s (z_le_s (z_le_n (z_le_nil))))))))) (hj19 (1 : Int32))
                · show z_J _ _ _ _ _ _ _ _ _ _ _ _
                  refine j_icmp_ne (pc' := 141) q212_138 rfl (fun c25 => ?_) (fun c25 => ?_)
                  · refine j_aload_n (pc' := 142) q212_141 rfl (by decide) rfl ?_
                    refine j_getr (k := 90) (q := 91) (pc' := 145) q212_142 rfl (hρ 90 0 91 rfl) rfl ?_
                    refine j_sipush (pc' := 148) q212_145 rfl ?_
                    refine j_iconst (pc' := 149) q212_148 rfl ?_
                    refine j_iload_n (pc' := 150) q212_149 rfl rfl ?_
                    refine j_imul (pc' := 151) q212_150 rfl ?_
                    refine j_iadd (pc' := 152) q212_151 rfl ?_
                    refine j_iconst (pc' := 153) q212_152 rfl ?_
                    refine j_iadd (pc' := 154) q212_153 rfl ?_
                    refine j_if (fun hi26 => ?_) (fun _ => j_none)
                    refine j_iald (k := 91) (N := 550) (pc' := 155) q212_154 rfl hi26 rfl ?_
                    refine j_iload (pc' := 157) q212_155 rfl rfl ?_
                    refine j_icmp_eq (pc' := 160) q212_157 rfl (fun c27 => ?_) (fun c27 => ?_)
                    · refine j_iconst (pc' := 165) q212_164 rfl ?_
                      refine j_forget (z_le_s (z_le_s (z_le_s (z_le_s (z_le_s (z_le_s (z_le_s (z_le_n (z_le_nil))))))))) (hj19 (0 : Int32))
                    · refine j_forget (z_le_s (z_le_s (z_le_s (z_le_s (z_le_s (z_le_s (z_le_s (z_le_n (z_le_nil))))))))) (hj24 ())
                  · refine j_forget (z_le_s (z_le_s (z_le_s (z_le_s (z_le_s (z_le_s (z_le_s (z_le_n (z_le_nil))))))))) (hj24 ())
theorem q38_0 : z_fi (z_mi 38) 0 = some (0, .lconst 1, 0, 0, 0, 0, 1) := rfl
theorem q38_1 : z_fi (z_mi 38) 1 = some (1, .lstore_n 1, 0, 0, 0, 0, 0) := rfl
theorem q38_2 : z_fi (z_mi 38) 2 = some (2, .iconst 0, 0, 0, 0, 0, 0) := rfl
theorem q38_3 : z_fi (z_mi 38) 3 = some (3, .istore_n 3, 0, 0, 0, 0, 0) := rfl
theorem q38_4 : z_fi (z_mi 38) 4 = some (4, .iload_n 3, 0, 0, 0, 0, 0) := rfl
theorem q38_5 : z_fi (z_mi 38) 5 = some (5, .iload_n 0, 0, 0, 0, 0, 0) := rfl
theorem q38_6 : z_fi (z_mi 38) 6 = some (6, .if_icmp .ge 15, 0, 21, 0, 0, 0) := rfl
theorem q38_9 : z_fi (z_mi 38) 9 = some (9, .lload_n 1, 0, 0, 0, 0, 0) := rfl
theorem q38_10 : z_fi (z_mi 38) 10 = some (10, .ldc2_w 9, 0, 0, 0, 0, 10) := rfl
theorem q38_13 : z_fi (z_mi 38) 13 = some (13, .lmul, 0, 0, 0, 0, 0) := rfl
theorem q38_14 : z_fi (z_mi 38) 14 = some (14, .lstore_n 1, 0, 0, 0, 0, 0) := rfl
theorem q38_15 : z_fi (z_mi 38) 15 = some (15, .iinc 3 1, 0, 0, 0, 1, 0) := rfl
theorem q38_18 : z_fi (z_mi 38) 18 = some (18, .goto (-14), 0, 4, 0, 0, 0) := rfl
theorem q38_21 : z_fi (z_mi 38) 21 = some (21, .lload_n 1, 0, 0, 0, 0, 0) := rfl
theorem q38_22 : z_fi (z_mi 38) 22 = some (22, .lreturn, 0, 0, 0, 0, 0) := rfl
set_option maxRecDepth 20000 in
set_option maxHeartbeats 4000000 in
theorem t_Lk_allWays {xL : Nat} {xs : Nat → Int32} {ρ : Nat → Nat → Option Nat} (hρ : z_hR ρ) (d : Nat) (a0 : Int32) (σ : zS) : ∀ q, f_Lk_allWays a0 σ = some q → z_ec xL xs ρ (d + 0) 38 [.int a0] σ (em_pl σ q) := by
  refine j_of (W := [.int a0, .null, .null, .null]) (fun L hL => ?_) ?_
  · subst hL; exact z_vl_0 _ 3 rfl
  · unfold f_Lk_allWays
    refine j_lconst (pc' := 1) q38_0 rfl ?_
    refine j_lstore1 (pc' := 2) q38_1 rfl (Nat.le_of_ble_eq_true rfl) rfl ?_
    refine j_iconst (pc' := 3) q38_2 rfl ?_
    refine j_istore3 (pc' := 4) q38_3 rfl (Nat.le_of_ble_eq_true rfl) rfl ?_
    refine j_forget (V' := [.int a0, .long (1 : Int64), .null, .int (0 : Int32)]) (z_le_s (z_le_s (z_le_n (z_le_s (z_le_nil))))) ?_
    refine j_loopX (S := Int64 × Int32) (E := Int64) (fun e => e) 21 (fun s1 => [.int a0, .long s1.1, .null, .int s1.2]) (fun s1 => σ) (fun b1 => [.null, .long b1, .null, .null]) (fun b1 => σ) (fun b1 => ?_) (fun R1 hR1 hX1 s1 => ?_) ((1 : Int64), (0 : Int32))
    · show z_J _ _ _ _ _ _ _ _ _ _ _ _
      refine j_lload_n (pc' := 22) q38_21 rfl rfl ?_
      exact j_plret q38_22 rfl
    · show z_J _ _ _ _ _ _ _ _ _ _ _ _
      refine j_iload_n (pc' := 5) q38_4 rfl rfl ?_
      refine j_iload_n (pc' := 6) q38_5 rfl rfl ?_
      refine j_icmp_ge (pc' := 9) q38_6 rfl (fun c2 => ?_) (fun c2 => ?_)
      · exact j_exit (j_forget (z_le_n (z_le_s (z_le_n (z_le_n (z_le_nil))))) (hX1 s1.1))
      · refine j_lload_n (pc' := 10) q38_9 rfl rfl ?_
        refine j_ldc2 (pc' := 13) q38_10 rfl ?_
        refine j_lmul (pc' := 14) q38_13 rfl ?_
        refine j_lstore1 (pc' := 15) q38_14 rfl (Nat.le_of_ble_eq_true rfl) rfl ?_
        refine j_iinc3 (pc' := 18) q38_15 rfl (Nat.le_of_ble_eq_true rfl) rfl ?_
        refine j_goto q38_18 rfl ?_
        exact j_again (j_forget (z_le_s (z_le_s (z_le_n (z_le_s (z_le_nil))))) (hR1 ((s1.1 * (10 : Int64)), (s1.2 + (1 : Int32)))))
theorem q39_0 : z_fi (z_mi 39) 0 = some (0, .iload 5, 0, 0, 0, 0, 0) := rfl
theorem q39_2 : z_fi (z_mi 39) 2 = some (2, .ifCond .le 10, 0, 12, 0, 0, 0) := rfl
theorem q39_5 : z_fi (z_mi 39) 5 = some (5, .iload 5, 0, 0, 0, 0, 0) := rfl
theorem q39_7 : z_fi (z_mi 39) 7 = some (7, .bipush 8, 0, 0, 0, 8, 0) := rfl
theorem q39_9 : z_fi (z_mi 39) 9 = some (9, .if_icmp .le 5, 0, 14, 0, 0, 0) := rfl
theorem q39_12 : z_fi (z_mi 39) 12 = some (12, .lconst 0, 0, 0, 0, 0, 0) := rfl
theorem q39_13 : z_fi (z_mi 39) 13 = some (13, .lreturn, 0, 0, 0, 0, 0) := rfl
theorem q39_14 : z_fi (z_mi 39) 14 = some (14, .iload_n 0, 0, 0, 0, 0, 0) := rfl
theorem q39_15 : z_fi (z_mi 39) 15 = some (15, .iload_n 1, 0, 0, 0, 0, 0) := rfl
theorem q39_16 : z_fi (z_mi 39) 16 = some (16, .iload_n 2, 0, 0, 0, 0, 0) := rfl
theorem q39_17 : z_fi (z_mi 39) 17 = some (17, .invokestatic 11, 1, 3, 3, 0, 0) := rfl
theorem q39_20 : z_fi (z_mi 39) 20 = some (20, .istore 6, 0, 0, 0, 0, 0) := rfl
theorem q39_22 : z_fi (z_mi 39) 22 = some (22, .iload 6, 0, 0, 0, 0, 0) := rfl
theorem q39_24 : z_fi (z_mi 39) 24 = some (24, .iconst 3, 0, 0, 0, 3, 0) := rfl
theorem q39_25 : z_fi (z_mi 39) 25 = some (25, .if_icmp .ne 9, 0, 34, 0, 0, 0) := rfl
theorem q39_28 : z_fi (z_mi 39) 28 = some (28, .iload 5, 0, 0, 0, 0, 0) := rfl
theorem q39_30 : z_fi (z_mi 39) 30 = some (30, .invokestatic 17, 1, 38, 1, 0, 0) := rfl
theorem q39_33 : z_fi (z_mi 39) 33 = some (33, .lreturn, 0, 0, 0, 0, 0) := rfl
theorem q39_34 : z_fi (z_mi 39) 34 = some (34, .iload 6, 0, 0, 0, 0, 0) := rfl
theorem q39_36 : z_fi (z_mi 39) 36 = some (36, .iconst 4, 0, 0, 0, 4, 0) := rfl
theorem q39_37 : z_fi (z_mi 39) 37 = some (37, .if_icmp .ne 5, 0, 42, 0, 0, 0) := rfl
theorem q39_40 : z_fi (z_mi 39) 40 = some (40, .lconst 0, 0, 0, 0, 0, 0) := rfl
theorem q39_41 : z_fi (z_mi 39) 41 = some (41, .lreturn, 0, 0, 0, 0, 0) := rfl
theorem q39_42 : z_fi (z_mi 39) 42 = some (42, .iload_n 0, 0, 0, 0, 0, 0) := rfl
theorem q39_43 : z_fi (z_mi 39) 43 = some (43, .iload 6, 0, 0, 0, 0, 0) := rfl
theorem q39_45 : z_fi (z_mi 39) 45 = some (45, .iload_n 3, 0, 0, 0, 0, 0) := rfl
theorem q39_46 : z_fi (z_mi 39) 46 = some (46, .iconst 1, 0, 0, 0, 1, 0) := rfl
theorem q39_47 : z_fi (z_mi 39) 47 = some (47, .if_icmp .le 7, 0, 54, 0, 0, 0) := rfl
theorem q39_50 : z_fi (z_mi 39) 50 = some (50, .iload_n 2, 0, 0, 0, 0, 0) := rfl
theorem q39_51 : z_fi (z_mi 39) 51 = some (51, .goto 4, 0, 55, 0, 0, 0) := rfl
theorem q39_54 : z_fi (z_mi 39) 54 = some (54, .iconst 4, 0, 0, 0, 4, 0) := rfl
theorem q39_55 : z_fi (z_mi 39) 55 = some (55, .iload_n 3, 0, 0, 0, 0, 0) := rfl
theorem q39_56 : z_fi (z_mi 39) 56 = some (56, .iconst 1, 0, 0, 0, 1, 0) := rfl
theorem q39_57 : z_fi (z_mi 39) 57 = some (57, .isub, 0, 0, 0, 0, 0) := rfl
theorem q39_58 : z_fi (z_mi 39) 58 = some (58, .iload 4, 0, 0, 0, 0, 0) := rfl
theorem q39_60 : z_fi (z_mi 39) 60 = some (60, .iload 5, 0, 0, 0, 0, 0) := rfl
theorem q39_62 : z_fi (z_mi 39) 62 = some (62, .iconst 1, 0, 0, 0, 1, 0) := rfl
theorem q39_63 : z_fi (z_mi 39) 63 = some (63, .isub, 0, 0, 0, 0, 0) := rfl
theorem q39_64 : z_fi (z_mi 39) 64 = some (64, .invokestatic 23, 1, 39, 6, 0, 0) := rfl
theorem q39_67 : z_fi (z_mi 39) 67 = some (67, .lstore 7, 0, 0, 0, 0, 0) := rfl
theorem q39_69 : z_fi (z_mi 39) 69 = some (69, .iload_n 0, 0, 0, 0, 0, 0) := rfl
theorem q39_70 : z_fi (z_mi 39) 70 = some (70, .iload 6, 0, 0, 0, 0, 0) := rfl
theorem q39_72 : z_fi (z_mi 39) 72 = some (72, .iload_n 3, 0, 0, 0, 0, 0) := rfl
theorem q39_73 : z_fi (z_mi 39) 73 = some (73, .iconst 2, 0, 0, 0, 2, 0) := rfl
theorem q39_74 : z_fi (z_mi 39) 74 = some (74, .if_icmp .le 7, 0, 81, 0, 0, 0) := rfl
theorem q39_77 : z_fi (z_mi 39) 77 = some (77, .iload_n 2, 0, 0, 0, 0, 0) := rfl
theorem q39_78 : z_fi (z_mi 39) 78 = some (78, .goto 4, 0, 82, 0, 0, 0) := rfl
theorem q39_81 : z_fi (z_mi 39) 81 = some (81, .iconst 4, 0, 0, 0, 4, 0) := rfl
theorem q39_82 : z_fi (z_mi 39) 82 = some (82, .iload_n 3, 0, 0, 0, 0, 0) := rfl
theorem q39_83 : z_fi (z_mi 39) 83 = some (83, .iconst 2, 0, 0, 0, 2, 0) := rfl
theorem q39_84 : z_fi (z_mi 39) 84 = some (84, .isub, 0, 0, 0, 0, 0) := rfl
theorem q39_85 : z_fi (z_mi 39) 85 = some (85, .iload 4, 0, 0, 0, 0, 0) := rfl
theorem q39_87 : z_fi (z_mi 39) 87 = some (87, .iload 5, 0, 0, 0, 0, 0) := rfl
theorem q39_89 : z_fi (z_mi 39) 89 = some (89, .iconst 1, 0, 0, 0, 1, 0) := rfl
theorem q39_90 : z_fi (z_mi 39) 90 = some (90, .isub, 0, 0, 0, 0, 0) := rfl
theorem q39_91 : z_fi (z_mi 39) 91 = some (91, .invokestatic 23, 1, 39, 6, 0, 0) := rfl
theorem q39_94 : z_fi (z_mi 39) 94 = some (94, .lstore 9, 0, 0, 0, 0, 0) := rfl
theorem q39_96 : z_fi (z_mi 39) 96 = some (96, .bipush 10, 0, 0, 0, 10, 0) := rfl
theorem q39_98 : z_fi (z_mi 39) 98 = some (98, .iload 4, 0, 0, 0, 0, 0) := rfl
theorem q39_100 : z_fi (z_mi 39) 100 = some (100, .isub, 0, 0, 0, 0, 0) := rfl
theorem q39_101 : z_fi (z_mi 39) 101 = some (101, .i2l, 0, 0, 0, 0, 0) := rfl
set_option maxRecDepth 8000 in
theorem q39_102 : z_fi (z_mi 39) 102 = some (102, .lload 7, 0, 0, 0, 0, 0) := rfl
set_option maxRecDepth 8000 in
theorem q39_104 : z_fi (z_mi 39) 104 = some (104, .lmul, 0, 0, 0, 0, 0) := rfl
set_option maxRecDepth 8000 in
theorem q39_105 : z_fi (z_mi 39) 105 = some (105, .iload 4, 0, 0, 0, 0, 0) := rfl
set_option maxRecDepth 8000 in
theorem q39_107 : z_fi (z_mi 39) 107 = some (107, .i2l, 0, 0, 0, 0, 0) := rfl
set_option maxRecDepth 8000 in
theorem q39_108 : z_fi (z_mi 39) 108 = some (108, .lload 9, 0, 0, 0, 0, 0) := rfl
set_option maxRecDepth 8000 in
theorem q39_110 : z_fi (z_mi 39) 110 = some (110, .lmul, 0, 0, 0, 0, 0) := rfl
set_option maxRecDepth 8000 in
theorem q39_111 : z_fi (z_mi 39) 111 = some (111, .ladd, 0, 0, 0, 0, 0) := rfl
set_option maxRecDepth 8000 in
theorem q39_112 : z_fi (z_mi 39) 112 = some (112, .lreturn, 0, 0, 0, 0, 0) := rfl
set_option maxRecDepth 20000 in
set_option maxHeartbeats 4000000 in
theorem t_Lk_goodWays {xL : Nat} {xs : Nat → Int32} {ρ : Nat → Nat → Option Nat} (hρ : z_hR ρ) : ∀ (n : Nat) (d : Nat) (a0 : Int32) (a1 : Int32) (a2 : Int32) (a3 : Int32) (a4 : Int32) (a5 : Int32) (σ : zS), ∀ q, f_Lk_goodWays n a0 a1 a2 a3 a4 a5 σ = some q → z_ec xL xs ρ (d + n + 2) 39 [.int a0, .int a1, .int a2, .int a3, .int a4, .int a5] σ (em_pl σ q) := by
  intro n
  induction n with
  | zero => intro d a0 a1 a2 a3 a4 a5 σ q hq; cases hq
  | succ n ih =>
    intro d a0 a1 a2 a3 a4 a5 σ
    have e : d + (n + 1) + 2 = d + n + 2 + 1 := by omega
    rw [e]
    refine j_of (W := [.int a0, .int a1, .int a2, .int a3, .int a4, .int a5, .null, .null, .null, .null, .null]) (fun L hL => ?_) ?_
    · subst hL; exact z_vl_0 _ 5 rfl
    · unfold f_Lk_goodWays
      refine j_iload (pc' := 2) q39_0 rfl rfl ?_
      refine j_if_le (pc' := 5) q39_2 rfl (fun c1 => ?_) (fun c1 => ?_)
      · refine j_lconst (pc' := 13) q39_12 rfl ?_
        exact j_plret q39_13 rfl
      · refine j_iload (pc' := 7) q39_5 rfl rfl ?_
        refine j_bipush (pc' := 9) q39_7 rfl ?_
        refine j_icmp_le (pc' := 12) q39_9 rfl (fun c2 => ?_) (fun c2 => ?_)
        · refine j_iload_n (pc' := 15) q39_14 rfl rfl ?_
          refine j_iload_n (pc' := 16) q39_15 rfl rfl ?_
          refine j_iload_n (pc' := 17) q39_16 rfl rfl ?_
          refine j_callS3_pi (d := d + n + 2) (pc' := 20) q39_17 (Or.inl rfl) (Nat.le_of_ble_eq_true rfl) (Nat.le_of_ble_eq_true rfl) rfl (t_Cr_behind hρ (d + n + 0) _ _ _ _) (fun r3 => ?_)
          refine j_istore6 (pc' := 22) q39_20 rfl (Nat.le_of_ble_eq_true rfl) rfl ?_
          refine j_iload (pc' := 24) q39_22 rfl rfl ?_
          refine j_iconst (pc' := 25) q39_24 rfl ?_
          refine j_icmp_ne (pc' := 28) q39_25 rfl (fun c4 => ?_) (fun c4 => ?_)
          · refine j_iload (pc' := 30) q39_28 rfl rfl ?_
            refine j_callS1_pl (d := d + n + 2) (pc' := 33) q39_30 (Or.inl rfl) (Nat.le_of_ble_eq_true rfl) (Nat.le_of_ble_eq_true rfl) rfl (t_Lk_allWays hρ (d + n + 2) _ _) (fun r5 => ?_)
            exact j_plret q39_33 rfl
          · refine j_iload (pc' := 36) q39_34 rfl rfl ?_
            refine j_iconst (pc' := 37) q39_36 rfl ?_
            refine j_icmp_ne (pc' := 40) q39_37 rfl (fun c6 => ?_) (fun c6 => ?_)
            · refine j_lconst (pc' := 41) q39_40 rfl ?_
              exact j_plret q39_41 rfl
            · refine j_iload_n (pc' := 43) q39_42 rfl rfl ?_
              refine j_iload (pc' := 45) q39_43 rfl rfl ?_
              refine j_iload_n (pc' := 46) q39_45 rfl rfl ?_
              refine j_iconst (pc' := 47) q39_46 rfl ?_
              refine j_join (T := Int32 × Int32 × Int32) 55 (fun t7 => [.int a0, .null, .int a2, .int a3, .int a4, .int a5, .int r3, .null, .null, .null, .null]) (fun t7 => [.int t7.1, .int t7.2.1, .int t7.2.2]) (fun t7 => σ) (fun t7 => ?_) (fun j7 hj7 => ?_)
              · show z_J _ _ _ _ _ _ _ _ _ _ _ _
                refine j_iload_n (pc' := 56) q39_55 rfl rfl ?_
                refine j_iconst (pc' := 57) q39_56 rfl ?_
                refine j_isub (pc' := 58) q39_57 rfl ?_
                refine j_iload (pc' := 60) q39_58 rfl rfl ?_
                refine j_iload (pc' := 62) q39_60 rfl rfl ?_
                refine j_iconst (pc' := 63) q39_62 rfl ?_
                refine j_isub (pc' := 64) q39_63 rfl ?_
                refine j_callS6_pl (d := d + n + 2) (pc' := 67) q39_64 (Or.inl rfl) (Nat.le_of_ble_eq_true rfl) (Nat.le_of_ble_eq_true rfl) rfl (ih d _ _ _ _ _ _ _) (fun r8 => ?_)
                refine j_lstore7 (pc' := 69) q39_67 rfl (Nat.le_of_ble_eq_true rfl) rfl ?_
                refine j_iload_n (pc' := 70) q39_69 rfl rfl ?_
                refine j_iload (pc' := 72) q39_70 rfl rfl ?_
                refine j_iload_n (pc' := 73) q39_72 rfl rfl ?_
                refine j_iconst (pc' := 74) q39_73 rfl ?_
                refine j_join (T := Int32 × Int32 × Int32) 82 (fun t9 => [.null, .null, .null, .int a3, .int a4, .int a5, .null, .long r8, .null, .null, .null]) (fun t9 => [.int t9.1, .int t9.2.1, .int t9.2.2]) (fun t9 => σ) (fun t9 => ?_) (fun j9 hj9 => ?_)
                · show z_J _ _ _ _ _ _ _ _ _ _ _ _
                  refine j_iload_n (pc' := 83) q39_82 rfl rfl ?_
                  refine j_iconst (pc' := 84) q39_83 rfl ?_
                  refine j_isub (pc' := 85) q39_84 rfl ?_
                  refine j_iload (pc' := 87) q39_85 rfl rfl ?_
                  refine j_iload (pc' := 89) q39_87 rfl rfl ?_
                  refine j_iconst (pc' := 90) q39_89 rfl ?_
                  refine j_isub (pc' := 91) q39_90 rfl ?_
                  refine j_callS6_pl (d := d + n + 2) (pc' := 94) q39_91 (Or.inl rfl) (Nat.le_of_ble_eq_true rfl) (Nat.le_of_ble_eq_true rfl) rfl (ih d _ _ _ _ _ _ _) (fun r10 => ?_)
                  refine j_lstore9 (pc' := 96) q39_94 rfl (Nat.le_of_ble_eq_true rfl) rfl ?_
                  refine j_bipush (pc' := 98) q39_96 rfl ?_
                  refine j_iload (pc' := 100) q39_98 rfl rfl ?_
                  refine j_isub (pc' := 101) q39_100 rfl ?_
                  refine j_i2l (pc' := 102) q39_101 rfl ?_
                  refine j_lload (pc' := 104) q39_102 rfl rfl ?_
                  refine j_lmul (pc' := 105) q39_104 rfl ?_
                  refine j_iload (pc' := 107) q39_105 rfl rfl ?_
                  refine j_i2l (pc' := 108) q39_107 rfl ?_
                  refine j_lload (pc' := 110) q39_108 rfl rfl ?_
                  refine j_lmul (pc' := 111) q39_110 rfl ?_
                  refine j_ladd (pc' := 112) q39_111 rfl ?_
                  exact j_plret q39_112 rfl
                · show z_J _ _ _ _ _ _ _ _ _ _ _ _
                  refine j_icmp_le (pc' := 77) q39_74 rfl (fun c11 => ?_) (fun c11 => ?_)
                  · refine j_iconst (pc' := 82) q39_81 rfl ?_
                    refine j_forget (z_le_n (z_le_n (z_le_n (z_le_s (z_le_s (z_le_s (z_le_n (z_le_s (z_le_n (z_le_n (z_le_n (z_le_nil)))))))))))) (hj9 ((4 : Int32), r3, a0))
                  · refine j_iload_n (pc' := 78) q39_77 rfl rfl ?_
                    refine j_goto q39_78 rfl ?_
                    refine j_forget (z_le_n (z_le_n (z_le_n (z_le_s (z_le_s (z_le_s (z_le_n (z_le_s (z_le_n (z_le_n (z_le_n (z_le_nil)))))))))))) (hj9 (a2, r3, a0))
              · show z_J _ _ _ _ _ _ _ _ _ _ _ _
                refine j_icmp_le (pc' := 50) q39_47 rfl (fun c12 => ?_) (fun c12 => ?_)
                · refine j_iconst (pc' := 55) q39_54 rfl ?_
                  refine j_forget (z_le_s (z_le_n (z_le_s (z_le_s (z_le_s (z_le_s (z_le_s (z_le_n (z_le_n (z_le_n (z_le_n (z_le_nil)))))))))))) (hj7 ((4 : Int32), r3, a0))
                · refine j_iload_n (pc' := 51) q39_50 rfl rfl ?_
                  refine j_goto q39_51 rfl ?_
                  refine j_forget (z_le_s (z_le_n (z_le_s (z_le_s (z_le_s (z_le_s (z_le_s (z_le_n (z_le_n (z_le_n (z_le_n (z_le_nil)))))))))))) (hj7 (a2, r3, a0))
        · refine j_lconst (pc' := 13) q39_12 rfl ?_
          exact j_plret q39_13 rfl
