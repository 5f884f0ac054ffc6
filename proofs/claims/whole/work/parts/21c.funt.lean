/-! the abstract machine runs as the functions say, by wip/whole/gen_fun.py -/
theorem q158_0 : z_fi (z_mi 158) 0 = some (0, .iconst 5, 0, 0, 0, 5, 0) := rfl
theorem q158_1 : z_fi (z_mi 158) 1 = some (1, .aload_n 0, 0, 0, 0, 0, 0) := rfl
theorem q158_2 : z_fi (z_mi 158) 2 = some (2, .iload_n 1, 0, 0, 0, 0, 0) := rfl
theorem q158_3 : z_fi (z_mi 158) 3 = some (3, .bipush 15, 0, 0, 0, 15, 0) := rfl
theorem q158_5 : z_fi (z_mi 158) 5 = some (5, .invokevirtual 113, 0, 157, 2, 0, 0) := rfl
theorem q158_8 : z_fi (z_mi 158) 8 = some (8, .imul, 0, 0, 0, 0, 0) := rfl
theorem q158_9 : z_fi (z_mi 158) 9 = some (9, .istore_n 2, 0, 0, 0, 0, 0) := rfl
theorem q158_10 : z_fi (z_mi 158) 10 = some (10, .iload_n 1, 0, 0, 0, 0, 0) := rfl
theorem q158_11 : z_fi (z_mi 158) 11 = some (11, .iconst 1, 0, 0, 0, 1, 0) := rfl
theorem q158_12 : z_fi (z_mi 158) 12 = some (12, .if_icmp .ne 35, 0, 47, 0, 0, 0) := rfl
theorem q158_15 : z_fi (z_mi 158) 15 = some (15, .aload_n 0, 0, 0, 0, 0, 0) := rfl
theorem q158_16 : z_fi (z_mi 158) 16 = some (16, .getfield 23, 0, 10, 5, 0, 0) := rfl
theorem q158_19 : z_fi (z_mi 158) 19 = some (19, .iload_n 2, 0, 0, 0, 0, 0) := rfl
theorem q158_20 : z_fi (z_mi 158) 20 = some (20, .aload_n 0, 0, 0, 0, 0, 0) := rfl
theorem q158_21 : z_fi (z_mi 158) 21 = some (21, .iconst 0, 0, 0, 0, 0, 0) := rfl
theorem q158_22 : z_fi (z_mi 158) 22 = some (22, .iconst 3, 0, 0, 0, 3, 0) := rfl
theorem q158_23 : z_fi (z_mi 158) 23 = some (23, .iconst 0, 0, 0, 0, 0, 0) := rfl
theorem q158_24 : z_fi (z_mi 158) 24 = some (24, .invokevirtual 106, 0, 156, 3, 0, 0) := rfl
theorem q158_27 : z_fi (z_mi 158) 27 = some (27, .iastore, 0, 0, 0, 0, 0) := rfl
theorem q158_28 : z_fi (z_mi 158) 28 = some (28, .aload_n 0, 0, 0, 0, 0, 0) := rfl
theorem q158_29 : z_fi (z_mi 158) 29 = some (29, .getfield 23, 0, 10, 5, 0, 0) := rfl
theorem q158_32 : z_fi (z_mi 158) 32 = some (32, .iload_n 2, 0, 0, 0, 0, 0) := rfl
theorem q158_33 : z_fi (z_mi 158) 33 = some (33, .iconst 1, 0, 0, 0, 1, 0) := rfl
theorem q158_34 : z_fi (z_mi 158) 34 = some (34, .iadd, 0, 0, 0, 0, 0) := rfl
theorem q158_35 : z_fi (z_mi 158) 35 = some (35, .aload_n 0, 0, 0, 0, 0, 0) := rfl
theorem q158_36 : z_fi (z_mi 158) 36 = some (36, .iconst 1, 0, 0, 0, 1, 0) := rfl
theorem q158_37 : z_fi (z_mi 158) 37 = some (37, .bipush 9, 0, 0, 0, 9, 0) := rfl
theorem q158_39 : z_fi (z_mi 158) 39 = some (39, .iconst 0, 0, 0, 0, 0, 0) := rfl
theorem q158_40 : z_fi (z_mi 158) 40 = some (40, .invokevirtual 106, 0, 156, 3, 0, 0) := rfl
theorem q158_43 : z_fi (z_mi 158) 43 = some (43, .iastore, 0, 0, 0, 0, 0) := rfl
theorem q158_44 : z_fi (z_mi 158) 44 = some (44, .goto 65, 0, 109, 0, 0, 0) := rfl
theorem q158_47 : z_fi (z_mi 158) 47 = some (47, .iload_n 1, 0, 0, 0, 0, 0) := rfl
theorem q158_48 : z_fi (z_mi 158) 48 = some (48, .iconst 3, 0, 0, 0, 3, 0) := rfl
theorem q158_49 : z_fi (z_mi 158) 49 = some (49, .if_icmp .ne 21, 0, 70, 0, 0, 0) := rfl
theorem q158_52 : z_fi (z_mi 158) 52 = some (52, .aload_n 0, 0, 0, 0, 0, 0) := rfl
theorem q158_53 : z_fi (z_mi 158) 53 = some (53, .getfield 23, 0, 10, 5, 0, 0) := rfl
theorem q158_56 : z_fi (z_mi 158) 56 = some (56, .iload_n 2, 0, 0, 0, 0, 0) := rfl
theorem q158_57 : z_fi (z_mi 158) 57 = some (57, .iconst 4, 0, 0, 0, 4, 0) := rfl
theorem q158_58 : z_fi (z_mi 158) 58 = some (58, .iadd, 0, 0, 0, 0, 0) := rfl
theorem q158_59 : z_fi (z_mi 158) 59 = some (59, .aload_n 0, 0, 0, 0, 0, 0) := rfl
theorem q158_60 : z_fi (z_mi 158) 60 = some (60, .iconst 0, 0, 0, 0, 0, 0) := rfl
theorem q158_61 : z_fi (z_mi 158) 61 = some (61, .iconst 2, 0, 0, 0, 2, 0) := rfl
theorem q158_62 : z_fi (z_mi 158) 62 = some (62, .iconst 0, 0, 0, 0, 0, 0) := rfl
theorem q158_63 : z_fi (z_mi 158) 63 = some (63, .invokevirtual 106, 0, 156, 3, 0, 0) := rfl
theorem q158_66 : z_fi (z_mi 158) 66 = some (66, .iastore, 0, 0, 0, 0, 0) := rfl
theorem q158_67 : z_fi (z_mi 158) 67 = some (67, .goto 42, 0, 109, 0, 0, 0) := rfl
theorem q158_70 : z_fi (z_mi 158) 70 = some (70, .aload_n 0, 0, 0, 0, 0, 0) := rfl
theorem q158_71 : z_fi (z_mi 158) 71 = some (71, .invokevirtual 117, 0, 154, 0, 0, 0) := rfl
theorem q158_74 : z_fi (z_mi 158) 74 = some (74, .bipush 8, 0, 0, 0, 8, 0) := rfl
theorem q158_76 : z_fi (z_mi 158) 76 = some (76, .isub, 0, 0, 0, 0, 0) := rfl
theorem q158_77 : z_fi (z_mi 158) 77 = some (77, .istore_n 3, 0, 0, 0, 0, 0) := rfl
theorem q158_78 : z_fi (z_mi 158) 78 = some (78, .aload_n 0, 0, 0, 0, 0, 0) := rfl
theorem q158_79 : z_fi (z_mi 158) 79 = some (79, .getfield 69, 0, 10, 15, 0, 0) := rfl
theorem q158_82 : z_fi (z_mi 158) 82 = some (82, .ifCond .ne 12, 0, 94, 0, 0, 0) := rfl
theorem q158_85 : z_fi (z_mi 158) 85 = some (85, .iload_n 3, 0, 0, 0, 0, 0) := rfl
theorem q158_86 : z_fi (z_mi 158) 86 = some (86, .ifCond .ge 8, 0, 94, 0, 0, 0) := rfl
theorem q158_89 : z_fi (z_mi 158) 89 = some (89, .aload_n 0, 0, 0, 0, 0, 0) := rfl
theorem q158_90 : z_fi (z_mi 158) 90 = some (90, .iconst 2, 0, 0, 0, 2, 0) := rfl
theorem q158_91 : z_fi (z_mi 158) 91 = some (91, .invokevirtual 99, 0, 153, 1, 0, 0) := rfl
theorem q158_94 : z_fi (z_mi 158) 94 = some (94, .aload_n 0, 0, 0, 0, 0, 0) := rfl
theorem q158_95 : z_fi (z_mi 158) 95 = some (95, .getfield 23, 0, 10, 5, 0, 0) := rfl
set_option maxRecDepth 8000 in
theorem q158_98 : z_fi (z_mi 158) 98 = some (98, .iload_n 2, 0, 0, 0, 0, 0) := rfl
set_option maxRecDepth 8000 in
theorem q158_99 : z_fi (z_mi 158) 99 = some (99, .iconst 2, 0, 0, 0, 2, 0) := rfl
set_option maxRecDepth 8000 in
theorem q158_100 : z_fi (z_mi 158) 100 = some (100, .iadd, 0, 0, 0, 0, 0) := rfl
set_option maxRecDepth 8000 in
theorem q158_101 : z_fi (z_mi 158) 101 = some (101, .iload_n 3, 0, 0, 0, 0, 0) := rfl
set_option maxRecDepth 8000 in
theorem q158_102 : z_fi (z_mi 158) 102 = some (102, .iconst 1, 0, 0, 0, 1, 0) := rfl
set_option maxRecDepth 8000 in
theorem q158_103 : z_fi (z_mi 158) 103 = some (103, .iadd, 0, 0, 0, 0, 0) := rfl
set_option maxRecDepth 8000 in
theorem q158_104 : z_fi (z_mi 158) 104 = some (104, .iastore, 0, 0, 0, 0, 0) := rfl
set_option maxRecDepth 8000 in
theorem q158_105 : z_fi (z_mi 158) 105 = some (105, .aload_n 0, 0, 0, 0, 0, 0) := rfl
set_option maxRecDepth 8000 in
theorem q158_106 : z_fi (z_mi 158) 106 = some (106, .invokevirtual 103, 0, 155, 0, 0, 0) := rfl
set_option maxRecDepth 8000 in
theorem q158_109 : z_fi (z_mi 158) 109 = some (109, .return_, 0, 0, 0, 0, 0) := rfl
set_option maxRecDepth 20000 in
set_option maxHeartbeats 4000000 in
theorem t_M_readCell {xL : Nat} {xs : Nat → Int32} {ρ : Nat → Nat → Option Nat} (hρ : z_hR ρ) (d : Nat) (a1 : Int32) (σ : zS) : ∀ q, f_M_readCell a1 σ = some q → z_ec xL xs ρ (d + 4) 158 [.ref 90, .int a1] σ (em_v q) := by
  refine j_of (W := [.ref 90, .int a1, .null, .null]) (fun L hL => ?_) ?_
  · subst hL; exact z_vl_0 _ 2 rfl
  · unfold f_M_readCell
    refine j_iconst (pc' := 1) q158_0 rfl ?_
    refine j_aload_n (pc' := 2) q158_1 rfl (by decide) rfl ?_
    refine j_iload_n (pc' := 3) q158_2 rfl rfl ?_
    refine j_bipush (pc' := 5) q158_3 rfl ?_
    refine j_callV2_i (d := d + 3) (pc' := 8) q158_5 rfl (Nat.le_of_ble_eq_true rfl) (Nat.le_of_ble_eq_true rfl) rfl (t_M_fresh hρ (d + 0) _ _ _) (fun r1 => ?_)
    refine j_imul (pc' := 9) q158_8 rfl ?_
    refine j_istore2 (pc' := 10) q158_9 rfl (Nat.le_of_ble_eq_true rfl) rfl ?_
    refine j_iload_n (pc' := 11) q158_10 rfl rfl ?_
    refine j_iconst (pc' := 12) q158_11 rfl ?_
    refine j_icmp_ne (pc' := 15) q158_12 rfl (fun c2 => ?_) (fun c2 => ?_)
    · refine j_aload_n (pc' := 16) q158_15 rfl (by decide) rfl ?_
      refine j_getr (k := 90) (q := 93) (pc' := 19) q158_16 rfl (hρ 90 5 93 rfl) rfl ?_
      refine j_iload_n (pc' := 20) q158_19 rfl rfl ?_
      refine j_aload_n (pc' := 21) q158_20 rfl (by decide) rfl ?_
      refine j_iconst (pc' := 22) q158_21 rfl ?_
      refine j_iconst (pc' := 23) q158_22 rfl ?_
      refine j_iconst (pc' := 24) q158_23 rfl ?_
      refine j_callV3_i (d := d + 3) (pc' := 27) q158_24 rfl (Nat.le_of_ble_eq_true rfl) (Nat.le_of_ble_eq_true rfl) rfl (t_M_other hρ (d + 1) _ _ _ _) (fun r3 => ?_)
      refine j_if (fun hi4 => ?_) (fun _ => j_none)
      refine j_iast (k := 93) (N := 110) (pc' := 28) q158_27 rfl hi4 rfl ?_
      refine j_nameS (fun τ5 => ?_)
      refine j_aload_n (pc' := 29) q158_28 rfl (by decide) rfl ?_
      refine j_getr (k := 90) (q := 93) (pc' := 32) q158_29 rfl (hρ 90 5 93 rfl) rfl ?_
      refine j_iload_n (pc' := 33) q158_32 rfl rfl ?_
      refine j_iconst (pc' := 34) q158_33 rfl ?_
      refine j_iadd (pc' := 35) q158_34 rfl ?_
      refine j_aload_n (pc' := 36) q158_35 rfl (by decide) rfl ?_
      refine j_iconst (pc' := 37) q158_36 rfl ?_
      refine j_bipush (pc' := 39) q158_37 rfl ?_
      refine j_iconst (pc' := 40) q158_39 rfl ?_
      refine j_callV3_i (d := d + 3) (pc' := 43) q158_40 rfl (Nat.le_of_ble_eq_true rfl) (Nat.le_of_ble_eq_true rfl) rfl (t_M_other hρ (d + 1) _ _ _ _) (fun r6 => ?_)
      refine j_if (fun hi7 => ?_) (fun _ => j_none)
      refine j_iast (k := 93) (N := 110) (pc' := 44) q158_43 rfl hi7 rfl ?_
      refine j_nameS (fun τ8 => ?_)
      refine j_goto q158_44 rfl ?_
      exact j_vret q158_109 rfl
    · refine j_iload_n (pc' := 48) q158_47 rfl rfl ?_
      refine j_iconst (pc' := 49) q158_48 rfl ?_
      refine j_icmp_ne (pc' := 52) q158_49 rfl (fun c9 => ?_) (fun c9 => ?_)
      · refine j_aload_n (pc' := 53) q158_52 rfl (by decide) rfl ?_
        refine j_getr (k := 90) (q := 93) (pc' := 56) q158_53 rfl (hρ 90 5 93 rfl) rfl ?_
        refine j_iload_n (pc' := 57) q158_56 rfl rfl ?_
        refine j_iconst (pc' := 58) q158_57 rfl ?_
        refine j_iadd (pc' := 59) q158_58 rfl ?_
        refine j_aload_n (pc' := 60) q158_59 rfl (by decide) rfl ?_
        refine j_iconst (pc' := 61) q158_60 rfl ?_
        refine j_iconst (pc' := 62) q158_61 rfl ?_
        refine j_iconst (pc' := 63) q158_62 rfl ?_
        refine j_callV3_i (d := d + 3) (pc' := 66) q158_63 rfl (Nat.le_of_ble_eq_true rfl) (Nat.le_of_ble_eq_true rfl) rfl (t_M_other hρ (d + 1) _ _ _ _) (fun r10 => ?_)
        refine j_if (fun hi11 => ?_) (fun _ => j_none)
        refine j_iast (k := 93) (N := 110) (pc' := 67) q158_66 rfl hi11 rfl ?_
        refine j_nameS (fun τ12 => ?_)
        refine j_goto q158_67 rfl ?_
        exact j_vret q158_109 rfl
      · refine j_aload_n (pc' := 71) q158_70 rfl (by decide) rfl ?_
        refine j_callV0_pi (d := d + 3) (pc' := 74) q158_71 rfl (Nat.le_of_ble_eq_true rfl) (Nat.le_of_ble_eq_true rfl) rfl (t_M_nameHere hρ (d + 2) _) (fun r13 => ?_)
        refine j_bipush (pc' := 76) q158_74 rfl ?_
        refine j_isub (pc' := 77) q158_76 rfl ?_
        refine j_istore3 (pc' := 78) q158_77 rfl (Nat.le_of_ble_eq_true rfl) rfl ?_
        refine j_aload_n (pc' := 79) q158_78 rfl (by decide) rfl ?_
        refine j_getf (k := 90) (pc' := 82) q158_79 rfl rfl ?_
        refine j_join (T := zS) 94 (fun t14 => [.ref 90, .null, .int ((5 : Int32) * r1.1), .int (r13 - (8 : Int32))]) (fun t14 => []) (fun t14 => t14) (fun t14 => ?_) (fun j14 hj14 => ?_)
        · show z_J _ _ _ _ _ _ _ _ _ _ _ _
          refine j_aload_n (pc' := 95) q158_94 rfl (by decide) rfl ?_
          refine j_getr (k := 90) (q := 93) (pc' := 98) q158_95 rfl (hρ 90 5 93 rfl) rfl ?_
          refine j_iload_n (pc' := 99) q158_98 rfl rfl ?_
          refine j_iconst (pc' := 100) q158_99 rfl ?_
          refine j_iadd (pc' := 101) q158_100 rfl ?_
          refine j_iload_n (pc' := 102) q158_101 rfl rfl ?_
          refine j_iconst (pc' := 103) q158_102 rfl ?_
          refine j_iadd (pc' := 104) q158_103 rfl ?_
          refine j_if (fun hi15 => ?_) (fun _ => j_none)
          refine j_iast (k := 93) (N := 110) (pc' := 105) q158_104 rfl hi15 rfl ?_
          refine j_nameS (fun τ16 => ?_)
          refine j_aload_n (pc' := 106) q158_105 rfl (by decide) rfl ?_
          refine j_callV0_v (d := d + 3) (pc' := 109) q158_106 rfl (Nat.le_of_ble_eq_true rfl) (Nat.le_of_ble_eq_true rfl) rfl (t_M_step hρ (d + 2) _) (fun r17 => ?_)
          exact j_vret q158_109 rfl
        · show z_J _ _ _ _ _ _ _ _ _ _ _ _
          refine j_if_ne (pc' := 85) q158_82 rfl (fun c18 => ?_) (fun c18 => ?_)
          · refine j_iload_n (pc' := 86) q158_85 rfl rfl ?_
            refine j_if_ge (pc' := 89) q158_86 rfl (fun c19 => ?_) (fun c19 => ?_)
            · refine j_forget (z_le_s (z_le_n (z_le_s (z_le_s (z_le_nil))))) (hj14 r1.2)
            · refine j_aload_n (pc' := 90) q158_89 rfl (by decide) rfl ?_
              refine j_iconst (pc' := 91) q158_90 rfl ?_
              refine j_callV1_v (d := d + 3) (pc' := 94) q158_91 rfl (Nat.le_of_ble_eq_true rfl) (Nat.le_of_ble_eq_true rfl) rfl (t_M_fails hρ (d + 3) _ _) (fun r20 => ?_)
              refine j_forget (z_le_s (z_le_n (z_le_s (z_le_s (z_le_nil))))) (hj14 r20)
          · refine j_forget (z_le_s (z_le_n (z_le_s (z_le_s (z_le_nil))))) (hj14 r1.2)
theorem q160_0 : z_fi (z_mi 160) 0 = some (0, .aload_n 0, 0, 0, 0, 0, 0) := rfl
theorem q160_1 : z_fi (z_mi 160) 1 = some (1, .invokevirtual 117, 0, 154, 0, 0, 0) := rfl
theorem q160_4 : z_fi (z_mi 160) 4 = some (4, .istore_n 1, 0, 0, 0, 0, 0) := rfl
theorem q160_5 : z_fi (z_mi 160) 5 = some (5, .iload_n 1, 0, 0, 0, 0, 0) := rfl
theorem q160_6 : z_fi (z_mi 160) 6 = some (6, .i2l, 0, 0, 0, 0, 0) := rfl
theorem q160_7 : z_fi (z_mi 160) 7 = some (7, .lconst 0, 0, 0, 0, 0, 0) := rfl
theorem q160_8 : z_fi (z_mi 160) 8 = some (8, .ldc2_w 130, 0, 0, 0, 0, 7) := rfl
theorem q160_11 : z_fi (z_mi 160) 11 = some (11, .invokestatic 62, 1, 149, 3, 0, 0) := rfl
theorem q160_14 : z_fi (z_mi 160) 14 = some (14, .ifCond .ne 9, 0, 23, 0, 0, 0) := rfl
theorem q160_17 : z_fi (z_mi 160) 17 = some (17, .aload_n 0, 0, 0, 0, 0, 0) := rfl
theorem q160_18 : z_fi (z_mi 160) 18 = some (18, .iconst 2, 0, 0, 0, 2, 0) := rfl
theorem q160_19 : z_fi (z_mi 160) 19 = some (19, .invokevirtual 99, 0, 153, 1, 0, 0) := rfl
theorem q160_22 : z_fi (z_mi 160) 22 = some (22, .return_, 0, 0, 0, 0, 0) := rfl
theorem q160_23 : z_fi (z_mi 160) 23 = some (23, .iload_n 1, 0, 0, 0, 0, 0) := rfl
theorem q160_24 : z_fi (z_mi 160) 24 = some (24, .iconst 5, 0, 0, 0, 5, 0) := rfl
theorem q160_25 : z_fi (z_mi 160) 25 = some (25, .if_icmp .ne 16, 0, 41, 0, 0, 0) := rfl
theorem q160_28 : z_fi (z_mi 160) 28 = some (28, .aload_n 0, 0, 0, 0, 0, 0) := rfl
theorem q160_29 : z_fi (z_mi 160) 29 = some (29, .getfield 121, 0, 10, 8, 0, 0) := rfl
theorem q160_32 : z_fi (z_mi 160) 32 = some (32, .iconst 5, 0, 0, 0, 5, 0) := rfl
theorem q160_33 : z_fi (z_mi 160) 33 = some (33, .if_icmp .ne 8, 0, 41, 0, 0, 0) := rfl
theorem q160_36 : z_fi (z_mi 160) 36 = some (36, .aload_n 0, 0, 0, 0, 0, 0) := rfl
theorem q160_37 : z_fi (z_mi 160) 37 = some (37, .iconst 5, 0, 0, 0, 5, 0) := rfl
theorem q160_38 : z_fi (z_mi 160) 38 = some (38, .invokevirtual 99, 0, 153, 1, 0, 0) := rfl
theorem q160_41 : z_fi (z_mi 160) 41 = some (41, .iload_n 1, 0, 0, 0, 0, 0) := rfl
theorem q160_42 : z_fi (z_mi 160) 42 = some (42, .ifCond .eq 9, 0, 51, 0, 0, 0) := rfl
theorem q160_45 : z_fi (z_mi 160) 45 = some (45, .iload_n 1, 0, 0, 0, 0, 0) := rfl
theorem q160_46 : z_fi (z_mi 160) 46 = some (46, .bipush 7, 0, 0, 0, 7, 0) := rfl
theorem q160_48 : z_fi (z_mi 160) 48 = some (48, .if_icmp .ne 20, 0, 68, 0, 0, 0) := rfl
theorem q160_51 : z_fi (z_mi 160) 51 = some (51, .aload_n 0, 0, 0, 0, 0, 0) := rfl
theorem q160_52 : z_fi (z_mi 160) 52 = some (52, .getfield 132, 0, 10, 9, 0, 0) := rfl
theorem q160_55 : z_fi (z_mi 160) 55 = some (55, .iload_n 1, 0, 0, 0, 0, 0) := rfl
theorem q160_56 : z_fi (z_mi 160) 56 = some (56, .ishr, 0, 0, 0, 0, 0) := rfl
theorem q160_57 : z_fi (z_mi 160) 57 = some (57, .iconst 1, 0, 0, 0, 1, 0) := rfl
theorem q160_58 : z_fi (z_mi 160) 58 = some (58, .iand, 0, 0, 0, 0, 0) := rfl
theorem q160_59 : z_fi (z_mi 160) 59 = some (59, .iconst 1, 0, 0, 0, 1, 0) := rfl
theorem q160_60 : z_fi (z_mi 160) 60 = some (60, .if_icmp .ne 8, 0, 68, 0, 0, 0) := rfl
theorem q160_63 : z_fi (z_mi 160) 63 = some (63, .aload_n 0, 0, 0, 0, 0, 0) := rfl
theorem q160_64 : z_fi (z_mi 160) 64 = some (64, .iconst 4, 0, 0, 0, 4, 0) := rfl
theorem q160_65 : z_fi (z_mi 160) 65 = some (65, .invokevirtual 99, 0, 153, 1, 0, 0) := rfl
theorem q160_68 : z_fi (z_mi 160) 68 = some (68, .aload_n 0, 0, 0, 0, 0, 0) := rfl
theorem q160_69 : z_fi (z_mi 160) 69 = some (69, .dup, 0, 0, 0, 0, 0) := rfl
theorem q160_70 : z_fi (z_mi 160) 70 = some (70, .getfield 132, 0, 10, 9, 0, 0) := rfl
theorem q160_73 : z_fi (z_mi 160) 73 = some (73, .iconst 1, 0, 0, 0, 1, 0) := rfl
theorem q160_74 : z_fi (z_mi 160) 74 = some (74, .iload_n 1, 0, 0, 0, 0, 0) := rfl
theorem q160_75 : z_fi (z_mi 160) 75 = some (75, .ishl, 0, 0, 0, 0, 0) := rfl
theorem q160_76 : z_fi (z_mi 160) 76 = some (76, .ior, 0, 0, 0, 0, 0) := rfl
theorem q160_77 : z_fi (z_mi 160) 77 = some (77, .putfield 132, 0, 10, 9, 0, 0) := rfl
theorem q160_80 : z_fi (z_mi 160) 80 = some (80, .aload_n 0, 0, 0, 0, 0, 0) := rfl
theorem q160_81 : z_fi (z_mi 160) 81 = some (81, .invokevirtual 103, 0, 155, 0, 0, 0) := rfl
theorem q160_84 : z_fi (z_mi 160) 84 = some (84, .aload_n 0, 0, 0, 0, 0, 0) := rfl
theorem q160_85 : z_fi (z_mi 160) 85 = some (85, .getfield 69, 0, 10, 15, 0, 0) := rfl
theorem q160_88 : z_fi (z_mi 160) 88 = some (88, .ifCond .le 4, 0, 92, 0, 0, 0) := rfl
theorem q160_91 : z_fi (z_mi 160) 91 = some (91, .return_, 0, 0, 0, 0, 0) := rfl
theorem q160_92 : z_fi (z_mi 160) 92 = some (92, .iload_n 1, 0, 0, 0, 0, 0) := rfl
theorem q160_93 : z_fi (z_mi 160) 93 = some (93, .i2l, 0, 0, 0, 0, 0) := rfl
theorem q160_94 : z_fi (z_mi 160) 94 = some (94, .lconst 1, 0, 0, 0, 0, 1) := rfl
theorem q160_95 : z_fi (z_mi 160) 95 = some (95, .ldc2_w 135, 0, 0, 0, 0, 3) := rfl
theorem q160_98 : z_fi (z_mi 160) 98 = some (98, .invokestatic 62, 1, 149, 3, 0, 0) := rfl
theorem q160_101 : z_fi (z_mi 160) 101 = some (101, .ifCond .eq 11, 0, 112, 0, 0, 0) := rfl
theorem q160_104 : z_fi (z_mi 160) 104 = some (104, .aload_n 0, 0, 0, 0, 0, 0) := rfl
theorem q160_105 : z_fi (z_mi 160) 105 = some (105, .iload_n 1, 0, 0, 0, 0, 0) := rfl
set_option maxRecDepth 8000 in
theorem q160_106 : z_fi (z_mi 160) 106 = some (106, .invokevirtual 137, 0, 158, 1, 0, 0) := rfl
set_option maxRecDepth 8000 in
theorem q160_109 : z_fi (z_mi 160) 109 = some (109, .goto 8, 0, 117, 0, 0, 0) := rfl
set_option maxRecDepth 8000 in
theorem q160_112 : z_fi (z_mi 160) 112 = some (112, .aload_n 0, 0, 0, 0, 0, 0) := rfl
set_option maxRecDepth 8000 in
theorem q160_113 : z_fi (z_mi 160) 113 = some (113, .iload_n 1, 0, 0, 0, 0, 0) := rfl
set_option maxRecDepth 8000 in
theorem q160_114 : z_fi (z_mi 160) 114 = some (114, .invokevirtual 140, 0, 159, 1, 0, 0) := rfl
set_option maxRecDepth 8000 in
theorem q160_117 : z_fi (z_mi 160) 117 = some (117, .aload_n 0, 0, 0, 0, 0, 0) := rfl
set_option maxRecDepth 8000 in
theorem q160_118 : z_fi (z_mi 160) 118 = some (118, .getfield 69, 0, 10, 15, 0, 0) := rfl
set_option maxRecDepth 8000 in
theorem q160_121 : z_fi (z_mi 160) 121 = some (121, .ifCond .ne 16, 0, 137, 0, 0, 0) := rfl
set_option maxRecDepth 8000 in
theorem q160_124 : z_fi (z_mi 160) 124 = some (124, .aload_n 0, 0, 0, 0, 0, 0) := rfl
set_option maxRecDepth 8000 in
theorem q160_125 : z_fi (z_mi 160) 125 = some (125, .getfield 78, 0, 10, 19, 0, 0) := rfl
set_option maxRecDepth 8000 in
theorem q160_128 : z_fi (z_mi 160) 128 = some (128, .iconst 3, 0, 0, 0, 3, 0) := rfl
set_option maxRecDepth 8000 in
theorem q160_129 : z_fi (z_mi 160) 129 = some (129, .if_icmp .eq 8, 0, 137, 0, 0, 0) := rfl
set_option maxRecDepth 8000 in
theorem q160_132 : z_fi (z_mi 160) 132 = some (132, .aload_n 0, 0, 0, 0, 0, 0) := rfl
set_option maxRecDepth 8000 in
theorem q160_133 : z_fi (z_mi 160) 133 = some (133, .iconst 2, 0, 0, 0, 2, 0) := rfl
set_option maxRecDepth 8000 in
theorem q160_134 : z_fi (z_mi 160) 134 = some (134, .invokevirtual 99, 0, 153, 1, 0, 0) := rfl
set_option maxRecDepth 8000 in
theorem q160_137 : z_fi (z_mi 160) 137 = some (137, .aload_n 0, 0, 0, 0, 0, 0) := rfl
set_option maxRecDepth 8000 in
theorem q160_138 : z_fi (z_mi 160) 138 = some (138, .invokevirtual 103, 0, 155, 0, 0, 0) := rfl
set_option maxRecDepth 8000 in
theorem q160_141 : z_fi (z_mi 160) 141 = some (141, .return_, 0, 0, 0, 0, 0) := rfl
set_option maxRecDepth 20000 in
set_option maxHeartbeats 4000000 in
theorem t_M_readLine {xL : Nat} {xs : Nat → Int32} {ρ : Nat → Nat → Option Nat} (hρ : z_hR ρ) (d : Nat)  (σ : zS) : ∀ q, f_M_readLine  σ = some q → z_ec xL xs ρ (d + 5) 160 [.ref 90] σ (em_v q) := by
  refine j_of (W := [.ref 90, .null]) (fun L hL => ?_) ?_
  · subst hL; exact z_vl_0 _ 1 rfl
  · unfold f_M_readLine
    refine j_aload_n (pc' := 1) q160_0 rfl (by decide) rfl ?_
    refine j_callV0_pi (d := d + 4) (pc' := 4) q160_1 rfl (Nat.le_of_ble_eq_true rfl) (Nat.le_of_ble_eq_true rfl) rfl (t_M_nameHere hρ (d + 3) _) (fun r1 => ?_)
    refine j_istore1 (pc' := 5) q160_4 rfl (Nat.le_of_ble_eq_true rfl) rfl ?_
    refine j_iload_n (pc' := 6) q160_5 rfl rfl ?_
    refine j_i2l (pc' := 7) q160_6 rfl ?_
    refine j_lconst (pc' := 8) q160_7 rfl ?_
    refine j_ldc2 (pc' := 11) q160_8 rfl ?_
    refine j_callS3_pi (d := d + 4) (pc' := 14) q160_11 (Or.inl rfl) (Nat.le_of_ble_eq_true rfl) (Nat.le_of_ble_eq_true rfl) rfl (t_M_in hρ (d + 4) _ _ _ _) (fun r2 => ?_)
    refine j_if_ne (pc' := 17) q160_14 rfl (fun c3 => ?_) (fun c3 => ?_)
    · refine j_aload_n (pc' := 18) q160_17 rfl (by decide) rfl ?_
      refine j_iconst (pc' := 19) q160_18 rfl ?_
      refine j_callV1_v (d := d + 4) (pc' := 22) q160_19 rfl (Nat.le_of_ble_eq_true rfl) (Nat.le_of_ble_eq_true rfl) rfl (t_M_fails hρ (d + 4) _ _) (fun r4 => ?_)
      exact j_vret q160_22 rfl
    · refine j_iload_n (pc' := 24) q160_23 rfl rfl ?_
      refine j_iconst (pc' := 25) q160_24 rfl ?_
      refine j_join (T := zS) 41 (fun t5 => [.ref 90, .int r1]) (fun t5 => []) (fun t5 => t5) (fun t5 => ?_) (fun j5 hj5 => ?_)
      · show z_J _ _ _ _ _ _ _ _ _ _ _ _
        refine j_iload_n (pc' := 42) q160_41 rfl rfl ?_
        refine j_join (T := zS) 68 (fun t6 => [.ref 90, .int r1]) (fun t6 => []) (fun t6 => t6) (fun t6 => ?_) (fun j6 hj6 => ?_)
        · show z_J _ _ _ _ _ _ _ _ _ _ _ _
          refine j_aload_n (pc' := 69) q160_68 rfl (by decide) rfl ?_
          refine j_dup (pc' := 70) q160_69 rfl rfl ?_
          refine j_getf (k := 90) (pc' := 73) q160_70 rfl rfl ?_
          refine j_iconst (pc' := 74) q160_73 rfl ?_
          refine j_iload_n (pc' := 75) q160_74 rfl rfl ?_
          refine j_ishl (pc' := 76) q160_75 rfl ?_
          refine j_ior (pc' := 77) q160_76 rfl ?_
          refine j_putf (k := 90) (pc' := 80) q160_77 rfl rfl ?_
          refine j_nameS (fun τ7 => ?_)
          refine j_aload_n (pc' := 81) q160_80 rfl (by decide) rfl ?_
          refine j_callV0_v (d := d + 4) (pc' := 84) q160_81 rfl (Nat.le_of_ble_eq_true rfl) (Nat.le_of_ble_eq_true rfl) rfl (t_M_step hρ (d + 3) _) (fun r8 => ?_)
          refine j_aload_n (pc' := 85) q160_84 rfl (by decide) rfl ?_
          refine j_getf (k := 90) (pc' := 88) q160_85 rfl rfl ?_
          refine j_if_le (pc' := 91) q160_88 rfl (fun c9 => ?_) (fun c9 => ?_)
          · refine j_iload_n (pc' := 93) q160_92 rfl rfl ?_
            refine j_i2l (pc' := 94) q160_93 rfl ?_
            refine j_lconst (pc' := 95) q160_94 rfl ?_
            refine j_ldc2 (pc' := 98) q160_95 rfl ?_
            refine j_callS3_pi (d := d + 4) (pc' := 101) q160_98 (Or.inl rfl) (Nat.le_of_ble_eq_true rfl) (Nat.le_of_ble_eq_true rfl) rfl (t_M_in hρ (d + 4) _ _ _ _) (fun r10 => ?_)
            refine j_join (T := zS) 117 (fun t11 => [.ref 90, .null]) (fun t11 => []) (fun t11 => t11) (fun t11 => ?_) (fun j11 hj11 => ?_)
            · show z_J _ _ _ _ _ _ _ _ _ _ _ _
              refine j_aload_n (pc' := 118) q160_117 rfl (by decide) rfl ?_
              refine j_getf (k := 90) (pc' := 121) q160_118 rfl rfl ?_
              refine j_join (T := zS) 137 (fun t12 => [.ref 90, .null]) (fun t12 => []) (fun t12 => t12) (fun t12 => ?_) (fun j12 hj12 => ?_)
              · show z_J _ _ _ _ _ _ _ _ _ _ _ _
                refine j_aload_n (pc' := 138) q160_137 rfl (by decide) rfl ?_
                refine j_callV0_v (d := d + 4) (pc' := 141) q160_138 rfl (Nat.le_of_ble_eq_true rfl) (Nat.le_of_ble_eq_true rfl) rfl (t_M_step hρ (d + 3) _) (fun r13 => ?_)
                exact j_vret q160_141 rfl
              · show z_J _ _ _ _ _ _ _ _ _ _ _ _
                refine j_if_ne (pc' := 124) q160_121 rfl (fun c14 => ?_) (fun c14 => ?_)
                · refine j_aload_n (pc' := 125) q160_124 rfl (by decide) rfl ?_
                  refine j_getf (k := 90) (pc' := 128) q160_125 rfl rfl ?_
                  refine j_iconst (pc' := 129) q160_128 rfl ?_
                  refine j_icmp_eq (pc' := 132) q160_129 rfl (fun c15 => ?_) (fun c15 => ?_)
                  · refine j_forget (z_le_s (z_le_n (z_le_nil))) (hj12 t11)
                  · refine j_aload_n (pc' := 133) q160_132 rfl (by decide) rfl ?_
                    refine j_iconst (pc' := 134) q160_133 rfl ?_
                    refine j_callV1_v (d := d + 4) (pc' := 137) q160_134 rfl (Nat.le_of_ble_eq_true rfl) (Nat.le_of_ble_eq_true rfl) rfl (t_M_fails hρ (d + 4) _ _) (fun r16 => ?_)
                    refine j_forget (z_le_s (z_le_n (z_le_nil))) (hj12 r16)
                · refine j_forget (z_le_s (z_le_n (z_le_nil))) (hj12 t11)
            · show z_J _ _ _ _ _ _ _ _ _ _ _ _
              refine j_if_eq (pc' := 104) q160_101 rfl (fun c17 => ?_) (fun c17 => ?_)
              · refine j_aload_n (pc' := 113) q160_112 rfl (by decide) rfl ?_
                refine j_iload_n (pc' := 114) q160_113 rfl rfl ?_
                refine j_callV1_v (d := d + 4) (pc' := 117) q160_114 rfl (Nat.le_of_ble_eq_true rfl) (Nat.le_of_ble_eq_true rfl) rfl (t_M_readMore hρ (d + 0) _ _) (fun r18 => ?_)
                refine j_forget (z_le_s (z_le_n (z_le_nil))) (hj11 r18)
              · refine j_aload_n (pc' := 105) q160_104 rfl (by decide) rfl ?_
                refine j_iload_n (pc' := 106) q160_105 rfl rfl ?_
                refine j_callV1_v (d := d + 4) (pc' := 109) q160_106 rfl (Nat.le_of_ble_eq_true rfl) (Nat.le_of_ble_eq_true rfl) rfl (t_M_readCell hρ (d + 0) _ _) (fun r19 => ?_)
                refine j_goto q160_109 rfl ?_
                refine j_forget (z_le_s (z_le_n (z_le_nil))) (hj11 r19)
          · exact j_vret q160_91 rfl
        · show z_J _ _ _ _ _ _ _ _ _ _ _ _
          refine j_join (T := Unit) 51 (fun t20 => [.ref 90, .int r1]) (fun t20 => []) (fun t20 => t5) (fun t20 => ?_) (fun j20 hj20 => ?_)
          · show z_J _ _ _ _ _ _ _ _ _ _ _ _
            refine j_aload_n (pc' := 52) q160_51 rfl (by decide) rfl ?_
            refine j_getf (k := 90) (pc' := 55) q160_52 rfl rfl ?_
            refine j_iload_n (pc' := 56) q160_55 rfl rfl ?_
            refine j_ishr (pc' := 57) q160_56 rfl ?_
            refine j_iconst (pc' := 58) q160_57 rfl ?_
            refine j_iand (pc' := 59) q160_58 rfl ?_
            refine j_iconst (pc' := 60) q160_59 rfl ?_
            refine j_icmp_ne (pc' := 63) q160_60 rfl (fun c21 => ?_) (fun c21 => ?_)
            · refine j_aload_n (pc' := 64) q160_63 rfl (by decide) rfl ?_
              refine j_iconst (pc' := 65) q160_64 rfl ?_
              refine j_callV1_v (d := d + 4) (pc' := 68) q160_65 rfl (Nat.le_of_ble_eq_true rfl) (Nat.le_of_ble_eq_true rfl) rfl (t_M_fails hρ (d + 4) _ _) (fun r22 => ?_)
              refine j_forget (z_le_s (z_le_s (z_le_nil))) (hj6 r22)
            · refine j_forget (z_le_s (z_le_s (z_le_nil))) (hj6 t5)
          · show z_J _ _ _ _ _ _ _ _ _ _ _ _
            refine j_if_eq (pc' := 45) q160_42 rfl (fun c23 => ?_) (fun c23 => ?_)
            · refine j_forget (z_le_s (z_le_s (z_le_nil))) (hj20 ())
            · refine j_iload_n (pc' := 46) q160_45 rfl rfl ?_
              refine j_bipush (pc' := 48) q160_46 rfl ?_
              refine j_icmp_ne (pc' := 51) q160_48 rfl (fun c24 => ?_) (fun c24 => ?_)
              · refine j_forget (z_le_s (z_le_s (z_le_nil))) (hj20 ())
              · refine j_forget (z_le_s (z_le_s (z_le_nil))) (hj6 t5)
      · show z_J _ _ _ _ _ _ _ _ _ _ _ _
        refine j_icmp_ne (pc' := 28) q160_25 rfl (fun c25 => ?_) (fun c25 => ?_)
        · refine j_aload_n (pc' := 29) q160_28 rfl (by decide) rfl ?_
          refine j_getf (k := 90) (pc' := 32) q160_29 rfl rfl ?_
          refine j_iconst (pc' := 33) q160_32 rfl ?_
          refine j_icmp_ne (pc' := 36) q160_33 rfl (fun c26 => ?_) (fun c26 => ?_)
          · refine j_aload_n (pc' := 37) q160_36 rfl (by decide) rfl ?_
            refine j_iconst (pc' := 38) q160_37 rfl ?_
            refine j_callV1_v (d := d + 4) (pc' := 41) q160_38 rfl (Nat.le_of_ble_eq_true rfl) (Nat.le_of_ble_eq_true rfl) rfl (t_M_fails hρ (d + 4) _ _) (fun r27 => ?_)
            refine j_forget (z_le_s (z_le_s (z_le_nil))) (hj5 r27)
          · refine j_forget (z_le_s (z_le_s (z_le_nil))) (hj5 σ)
        · refine j_forget (z_le_s (z_le_s (z_le_nil))) (hj5 σ)
theorem q161_0 : z_fi (z_mi 161) 0 = some (0, .iload_n 0, 0, 0, 0, 0, 0) := rfl
theorem q161_1 : z_fi (z_mi 161) 1 = some (1, .iconst 2, 0, 0, 0, 2, 0) := rfl
theorem q161_2 : z_fi (z_mi 161) 2 = some (2, .idiv, 0, 0, 0, 0, 0) := rfl
theorem q161_3 : z_fi (z_mi 161) 3 = some (3, .istore_n 3, 0, 0, 0, 0, 0) := rfl
theorem q161_4 : z_fi (z_mi 161) 4 = some (4, .iload_n 0, 0, 0, 0, 0, 0) := rfl
theorem q161_5 : z_fi (z_mi 161) 5 = some (5, .ifCond .lt 41, 0, 46, 0, 0, 0) := rfl
theorem q161_8 : z_fi (z_mi 161) 8 = some (8, .iload_n 3, 0, 0, 0, 0, 0) := rfl
theorem q161_9 : z_fi (z_mi 161) 9 = some (9, .iload_n 1, 0, 0, 0, 0, 0) := rfl
theorem q161_10 : z_fi (z_mi 161) 10 = some (10, .iload_n 2, 0, 0, 0, 0, 0) := rfl
theorem q161_11 : z_fi (z_mi 161) 11 = some (11, .imul, 0, 0, 0, 0, 0) := rfl
theorem q161_12 : z_fi (z_mi 161) 12 = some (12, .if_icmp .ge 34, 0, 46, 0, 0, 0) := rfl
theorem q161_15 : z_fi (z_mi 161) 15 = some (15, .iload_n 0, 0, 0, 0, 0, 0) := rfl
theorem q161_16 : z_fi (z_mi 161) 16 = some (16, .iconst 2, 0, 0, 0, 2, 0) := rfl
theorem q161_17 : z_fi (z_mi 161) 17 = some (17, .irem, 0, 0, 0, 0, 0) := rfl
theorem q161_18 : z_fi (z_mi 161) 18 = some (18, .ifCond .ne 15, 0, 33, 0, 0, 0) := rfl
theorem q161_21 : z_fi (z_mi 161) 21 = some (21, .iload_n 3, 0, 0, 0, 0, 0) := rfl
theorem q161_22 : z_fi (z_mi 161) 22 = some (22, .iload_n 1, 0, 0, 0, 0, 0) := rfl
theorem q161_23 : z_fi (z_mi 161) 23 = some (23, .irem, 0, 0, 0, 0, 0) := rfl
theorem q161_24 : z_fi (z_mi 161) 24 = some (24, .iconst 1, 0, 0, 0, 1, 0) := rfl
theorem q161_25 : z_fi (z_mi 161) 25 = some (25, .iadd, 0, 0, 0, 0, 0) := rfl
theorem q161_26 : z_fi (z_mi 161) 26 = some (26, .iload_n 1, 0, 0, 0, 0, 0) := rfl
theorem q161_27 : z_fi (z_mi 161) 27 = some (27, .if_icmp .ge 19, 0, 46, 0, 0, 0) := rfl
theorem q161_30 : z_fi (z_mi 161) 30 = some (30, .goto 12, 0, 42, 0, 0, 0) := rfl
theorem q161_33 : z_fi (z_mi 161) 33 = some (33, .iload_n 3, 0, 0, 0, 0, 0) := rfl
theorem q161_34 : z_fi (z_mi 161) 34 = some (34, .iload_n 1, 0, 0, 0, 0, 0) := rfl
theorem q161_35 : z_fi (z_mi 161) 35 = some (35, .idiv, 0, 0, 0, 0, 0) := rfl
theorem q161_36 : z_fi (z_mi 161) 36 = some (36, .iconst 1, 0, 0, 0, 1, 0) := rfl
theorem q161_37 : z_fi (z_mi 161) 37 = some (37, .iadd, 0, 0, 0, 0, 0) := rfl
theorem q161_38 : z_fi (z_mi 161) 38 = some (38, .iload_n 2, 0, 0, 0, 0, 0) := rfl
theorem q161_39 : z_fi (z_mi 161) 39 = some (39, .if_icmp .ge 7, 0, 46, 0, 0, 0) := rfl
theorem q161_42 : z_fi (z_mi 161) 42 = some (42, .iconst 1, 0, 0, 0, 1, 0) := rfl
theorem q161_43 : z_fi (z_mi 161) 43 = some (43, .goto 4, 0, 47, 0, 0, 0) := rfl
theorem q161_46 : z_fi (z_mi 161) 46 = some (46, .iconst 0, 0, 0, 0, 0, 0) := rfl
theorem q161_47 : z_fi (z_mi 161) 47 = some (47, .ireturn, 0, 0, 0, 0, 0) := rfl
set_option maxRecDepth 20000 in
set_option maxHeartbeats 4000000 in
theorem t_M_isEdgeOf {xL : Nat} {xs : Nat → Int32} {ρ : Nat → Nat → Option Nat} (hρ : z_hR ρ) (d : Nat) (a0 : Int32) (a1 : Int32) (a2 : Int32) (σ : zS) : ∀ q, f_M_isEdgeOf a0 a1 a2 σ = some q → z_ec xL xs ρ (d + 0) 161 [.int a0, .int a1, .int a2] σ (em_pi σ q) := by
  refine j_of (W := [.int a0, .int a1, .int a2, .null]) (fun L hL => ?_) ?_
  · subst hL; exact z_vl_0 _ 1 rfl
  · unfold f_M_isEdgeOf
    refine j_iload_n (pc' := 1) q161_0 rfl rfl ?_
    refine j_iconst (pc' := 2) q161_1 rfl ?_
    refine j_idiv (pc' := 3) q161_2 (by decide) rfl ?_
    refine j_istore3 (pc' := 4) q161_3 rfl (Nat.le_of_ble_eq_true rfl) rfl ?_
    refine j_iload_n (pc' := 5) q161_4 rfl rfl ?_
    refine j_if_lt (pc' := 8) q161_5 rfl (fun c1 => ?_) (fun c1 => ?_)
    · refine j_iconst (pc' := 47) q161_46 rfl ?_
      exact j_pzret q161_47 rfl (Or.inl rfl)
    · refine j_iload_n (pc' := 9) q161_8 rfl rfl ?_
      refine j_iload_n (pc' := 10) q161_9 rfl rfl ?_
      refine j_iload_n (pc' := 11) q161_10 rfl rfl ?_
      refine j_imul (pc' := 12) q161_11 rfl ?_
      refine j_icmp_ge (pc' := 15) q161_12 rfl (fun c2 => ?_) (fun c2 => ?_)
      · refine j_iconst (pc' := 47) q161_46 rfl ?_
        exact j_pzret q161_47 rfl (Or.inl rfl)
      · refine j_iload_n (pc' := 16) q161_15 rfl rfl ?_
        refine j_iconst (pc' := 17) q161_16 rfl ?_
        refine j_irem (pc' := 18) q161_17 (by decide) rfl ?_
        refine j_join (T := Unit) 42 (fun t3 => [.null, .null, .null, .null]) (fun t3 => []) (fun t3 => σ) (fun t3 => ?_) (fun j3 hj3 => ?_)
        · show z_J _ _ _ _ _ _ _ _ _ _ _ _
          refine j_iconst (pc' := 43) q161_42 rfl ?_
          refine j_goto q161_43 rfl ?_
          exact j_pzret q161_47 rfl (Or.inr rfl)
        · show z_J _ _ _ _ _ _ _ _ _ _ _ _
          refine j_if_ne (pc' := 21) q161_18 rfl (fun c4 => ?_) (fun c4 => ?_)
          · refine j_iload_n (pc' := 22) q161_21 rfl rfl ?_
            refine j_iload_n (pc' := 23) q161_22 rfl rfl ?_
            refine j_if (fun _ => j_none) (fun hz5 => ?_)
            refine j_irem (pc' := 24) q161_23 hz5 rfl ?_
            refine j_iconst (pc' := 25) q161_24 rfl ?_
            refine j_iadd (pc' := 26) q161_25 rfl ?_
            refine j_iload_n (pc' := 27) q161_26 rfl rfl ?_
            refine j_icmp_ge (pc' := 30) q161_27 rfl (fun c6 => ?_) (fun c6 => ?_)
            · refine j_iconst (pc' := 47) q161_46 rfl ?_
              exact j_pzret q161_47 rfl (Or.inl rfl)
            · refine j_goto q161_30 rfl ?_
              refine j_forget (z_le_n (z_le_n (z_le_n (z_le_n (z_le_nil))))) (hj3 ())
          · refine j_iload_n (pc' := 34) q161_33 rfl rfl ?_
            refine j_iload_n (pc' := 35) q161_34 rfl rfl ?_
            refine j_if (fun _ => j_none) (fun hz7 => ?_)
            refine j_idiv (pc' := 36) q161_35 hz7 rfl ?_
            refine j_iconst (pc' := 37) q161_36 rfl ?_
            refine j_iadd (pc' := 38) q161_37 rfl ?_
            refine j_iload_n (pc' := 39) q161_38 rfl rfl ?_
            refine j_icmp_ge (pc' := 42) q161_39 rfl (fun c8 => ?_) (fun c8 => ?_)
            · refine j_iconst (pc' := 47) q161_46 rfl ?_
              exact j_pzret q161_47 rfl (Or.inl rfl)
            · refine j_forget (z_le_n (z_le_n (z_le_n (z_le_n (z_le_nil))))) (hj3 ())
theorem q162_0 : z_fi (z_mi 162) 0 = some (0, .aload_n 0, 0, 0, 0, 0, 0) := rfl
theorem q162_1 : z_fi (z_mi 162) 1 = some (1, .iconst 0, 0, 0, 0, 0, 0) := rfl
theorem q162_2 : z_fi (z_mi 162) 2 = some (2, .putfield 69, 0, 10, 15, 0, 0) := rfl
theorem q162_5 : z_fi (z_mi 162) 5 = some (5, .aload_n 0, 0, 0, 0, 0, 0) := rfl
theorem q162_6 : z_fi (z_mi 162) 6 = some (6, .iconst 0, 0, 0, 0, 0, 0) := rfl
theorem q162_7 : z_fi (z_mi 162) 7 = some (7, .putfield 81, 0, 10, 17, 0, 0) := rfl
theorem q162_10 : z_fi (z_mi 162) 10 = some (10, .aload_n 0, 0, 0, 0, 0, 0) := rfl
theorem q162_11 : z_fi (z_mi 162) 11 = some (11, .iconst 2, 0, 0, 0, 2, 0) := rfl
theorem q162_12 : z_fi (z_mi 162) 12 = some (12, .putfield 124, 0, 10, 6, 0, 0) := rfl
theorem q162_15 : z_fi (z_mi 162) 15 = some (15, .aload_n 0, 0, 0, 0, 0, 0) := rfl
theorem q162_16 : z_fi (z_mi 162) 16 = some (16, .iconst 2, 0, 0, 0, 2, 0) := rfl
theorem q162_17 : z_fi (z_mi 162) 17 = some (17, .putfield 127, 0, 10, 7, 0, 0) := rfl
theorem q162_20 : z_fi (z_mi 162) 20 = some (20, .aload_n 0, 0, 0, 0, 0, 0) := rfl
theorem q162_21 : z_fi (z_mi 162) 21 = some (21, .iconst 0, 0, 0, 0, 0, 0) := rfl
theorem q162_22 : z_fi (z_mi 162) 22 = some (22, .putfield 121, 0, 10, 8, 0, 0) := rfl
theorem q162_25 : z_fi (z_mi 162) 25 = some (25, .aload_n 0, 0, 0, 0, 0, 0) := rfl
theorem q162_26 : z_fi (z_mi 162) 26 = some (26, .iconst 0, 0, 0, 0, 0, 0) := rfl
theorem q162_27 : z_fi (z_mi 162) 27 = some (27, .putfield 132, 0, 10, 9, 0, 0) := rfl
theorem q162_30 : z_fi (z_mi 162) 30 = some (30, .aload_n 0, 0, 0, 0, 0, 0) := rfl
theorem q162_31 : z_fi (z_mi 162) 31 = some (31, .iconst (-1), 0, 0, 0, (-1), 0) := rfl
theorem q162_32 : z_fi (z_mi 162) 32 = some (32, .putfield 110, 0, 10, 11, 0, 0) := rfl
theorem q162_35 : z_fi (z_mi 162) 35 = some (35, .iconst 0, 0, 0, 0, 0, 0) := rfl
theorem q162_36 : z_fi (z_mi 162) 36 = some (36, .istore_n 1, 0, 0, 0, 0, 0) := rfl
theorem q162_37 : z_fi (z_mi 162) 37 = some (37, .iconst 0, 0, 0, 0, 0, 0) := rfl
theorem q162_38 : z_fi (z_mi 162) 38 = some (38, .istore_n 2, 0, 0, 0, 0, 0) := rfl
theorem q162_39 : z_fi (z_mi 162) 39 = some (39, .iload_n 2, 0, 0, 0, 0, 0) := rfl
theorem q162_40 : z_fi (z_mi 162) 40 = some (40, .bipush 110, 0, 0, 0, 110, 0) := rfl
theorem q162_42 : z_fi (z_mi 162) 42 = some (42, .if_icmp .ge 26, 0, 68, 0, 0, 0) := rfl
theorem q162_45 : z_fi (z_mi 162) 45 = some (45, .aload_n 0, 0, 0, 0, 0, 0) := rfl
theorem q162_46 : z_fi (z_mi 162) 46 = some (46, .getfield 23, 0, 10, 5, 0, 0) := rfl
theorem q162_49 : z_fi (z_mi 162) 49 = some (49, .iload_n 2, 0, 0, 0, 0, 0) := rfl
theorem q162_50 : z_fi (z_mi 162) 50 = some (50, .iconst 0, 0, 0, 0, 0, 0) := rfl
theorem q162_51 : z_fi (z_mi 162) 51 = some (51, .iastore, 0, 0, 0, 0, 0) := rfl
theorem q162_52 : z_fi (z_mi 162) 52 = some (52, .aload_n 0, 0, 0, 0, 0, 0) := rfl
theorem q162_53 : z_fi (z_mi 162) 53 = some (53, .getfield 26, 0, 10, 10, 0, 0) := rfl
theorem q162_56 : z_fi (z_mi 162) 56 = some (56, .iload_n 2, 0, 0, 0, 0, 0) := rfl
theorem q162_57 : z_fi (z_mi 162) 57 = some (57, .bipush 8, 0, 0, 0, 8, 0) := rfl
theorem q162_59 : z_fi (z_mi 162) 59 = some (59, .irem, 0, 0, 0, 0, 0) := rfl
theorem q162_60 : z_fi (z_mi 162) 60 = some (60, .iconst 0, 0, 0, 0, 0, 0) := rfl
theorem q162_61 : z_fi (z_mi 162) 61 = some (61, .iastore, 0, 0, 0, 0, 0) := rfl
theorem q162_62 : z_fi (z_mi 162) 62 = some (62, .iinc 2 1, 0, 0, 0, 1, 0) := rfl
theorem q162_65 : z_fi (z_mi 162) 65 = some (65, .goto (-26), 0, 39, 0, 0, 0) := rfl
theorem q162_68 : z_fi (z_mi 162) 68 = some (68, .aload_n 0, 0, 0, 0, 0, 0) := rfl
theorem q162_69 : z_fi (z_mi 162) 69 = some (69, .invokevirtual 103, 0, 155, 0, 0, 0) := rfl
theorem q162_72 : z_fi (z_mi 162) 72 = some (72, .aload_n 0, 0, 0, 0, 0, 0) := rfl
theorem q162_73 : z_fi (z_mi 162) 73 = some (73, .getfield 69, 0, 10, 15, 0, 0) := rfl
theorem q162_76 : z_fi (z_mi 162) 76 = some (76, .ifCond .ne 20, 0, 96, 0, 0, 0) := rfl
theorem q162_79 : z_fi (z_mi 162) 79 = some (79, .aload_n 0, 0, 0, 0, 0, 0) := rfl
theorem q162_80 : z_fi (z_mi 162) 80 = some (80, .getfield 78, 0, 10, 19, 0, 0) := rfl
theorem q162_83 : z_fi (z_mi 162) 83 = some (83, .ifCond .eq 13, 0, 96, 0, 0, 0) := rfl
theorem q162_86 : z_fi (z_mi 162) 86 = some (86, .aload_n 0, 0, 0, 0, 0, 0) := rfl
theorem q162_87 : z_fi (z_mi 162) 87 = some (87, .invokevirtual 143, 0, 160, 0, 0, 0) := rfl
theorem q162_90 : z_fi (z_mi 162) 90 = some (90, .iinc 1 1, 0, 0, 0, 1, 0) := rfl
theorem q162_93 : z_fi (z_mi 162) 93 = some (93, .goto (-21), 0, 72, 0, 0, 0) := rfl
theorem q162_96 : z_fi (z_mi 162) 96 = some (96, .aload_n 0, 0, 0, 0, 0, 0) := rfl
theorem q162_97 : z_fi (z_mi 162) 97 = some (97, .getfield 69, 0, 10, 15, 0, 0) := rfl
theorem q162_100 : z_fi (z_mi 162) 100 = some (100, .ifCond .ne 25, 0, 125, 0, 0, 0) := rfl
theorem q162_103 : z_fi (z_mi 162) 103 = some (103, .aload_n 0, 0, 0, 0, 0, 0) := rfl
theorem q162_104 : z_fi (z_mi 162) 104 = some (104, .getfield 110, 0, 10, 11, 0, 0) := rfl
theorem q162_107 : z_fi (z_mi 162) 107 = some (107, .aload_n 0, 0, 0, 0, 0, 0) := rfl
theorem q162_108 : z_fi (z_mi 162) 108 = some (108, .getfield 124, 0, 10, 6, 0, 0) := rfl
set_option maxRecDepth 8000 in
theorem q162_111 : z_fi (z_mi 162) 111 = some (111, .aload_n 0, 0, 0, 0, 0, 0) := rfl
set_option maxRecDepth 8000 in
theorem q162_112 : z_fi (z_mi 162) 112 = some (112, .getfield 127, 0, 10, 7, 0, 0) := rfl
set_option maxRecDepth 8000 in
theorem q162_115 : z_fi (z_mi 162) 115 = some (115, .imul, 0, 0, 0, 0, 0) := rfl
set_option maxRecDepth 8000 in
theorem q162_116 : z_fi (z_mi 162) 116 = some (116, .if_icmp .lt 9, 0, 125, 0, 0, 0) := rfl
set_option maxRecDepth 8000 in
theorem q162_119 : z_fi (z_mi 162) 119 = some (119, .aload_n 0, 0, 0, 0, 0, 0) := rfl
set_option maxRecDepth 8000 in
theorem q162_120 : z_fi (z_mi 162) 120 = some (120, .bipush 6, 0, 0, 0, 6, 0) := rfl
set_option maxRecDepth 8000 in
theorem q162_122 : z_fi (z_mi 162) 122 = some (122, .invokevirtual 99, 0, 153, 1, 0, 0) := rfl
set_option maxRecDepth 8000 in
theorem q162_125 : z_fi (z_mi 162) 125 = some (125, .iconst 0, 0, 0, 0, 0, 0) := rfl
set_option maxRecDepth 8000 in
theorem q162_126 : z_fi (z_mi 162) 126 = some (126, .istore_n 2, 0, 0, 0, 0, 0) := rfl
set_option maxRecDepth 8000 in
theorem q162_127 : z_fi (z_mi 162) 127 = some (127, .iload_n 2, 0, 0, 0, 0, 0) := rfl
set_option maxRecDepth 8000 in
theorem q162_128 : z_fi (z_mi 162) 128 = some (128, .bipush 32, 0, 0, 0, 32, 0) := rfl
set_option maxRecDepth 8000 in
theorem q162_130 : z_fi (z_mi 162) 130 = some (130, .if_icmp .ge 52, 0, 182, 0, 0, 0) := rfl
set_option maxRecDepth 8000 in
theorem q162_133 : z_fi (z_mi 162) 133 = some (133, .aload_n 0, 0, 0, 0, 0, 0) := rfl
set_option maxRecDepth 8000 in
theorem q162_134 : z_fi (z_mi 162) 134 = some (134, .getfield 69, 0, 10, 15, 0, 0) := rfl
set_option maxRecDepth 8000 in
theorem q162_137 : z_fi (z_mi 162) 137 = some (137, .ifCond .ne 45, 0, 182, 0, 0, 0) := rfl
set_option maxRecDepth 8000 in
theorem q162_140 : z_fi (z_mi 162) 140 = some (140, .aload_n 0, 0, 0, 0, 0, 0) := rfl
set_option maxRecDepth 8000 in
theorem q162_141 : z_fi (z_mi 162) 141 = some (141, .getfield 23, 0, 10, 5, 0, 0) := rfl
set_option maxRecDepth 8000 in
theorem q162_144 : z_fi (z_mi 162) 144 = some (144, .bipush 80, 0, 0, 0, 80, 0) := rfl
set_option maxRecDepth 8000 in
theorem q162_146 : z_fi (z_mi 162) 146 = some (146, .iaload, 0, 0, 0, 0, 0) := rfl
set_option maxRecDepth 8000 in
theorem q162_147 : z_fi (z_mi 162) 147 = some (147, .iload_n 2, 0, 0, 0, 0, 0) := rfl
set_option maxRecDepth 8000 in
theorem q162_148 : z_fi (z_mi 162) 148 = some (148, .ishr, 0, 0, 0, 0, 0) := rfl
set_option maxRecDepth 8000 in
theorem q162_149 : z_fi (z_mi 162) 149 = some (149, .iconst 1, 0, 0, 0, 1, 0) := rfl
set_option maxRecDepth 8000 in
theorem q162_150 : z_fi (z_mi 162) 150 = some (150, .iand, 0, 0, 0, 0, 0) := rfl
set_option maxRecDepth 8000 in
theorem q162_151 : z_fi (z_mi 162) 151 = some (151, .iconst 1, 0, 0, 0, 1, 0) := rfl
set_option maxRecDepth 8000 in
theorem q162_152 : z_fi (z_mi 162) 152 = some (152, .if_icmp .ne 24, 0, 176, 0, 0, 0) := rfl
set_option maxRecDepth 8000 in
theorem q162_155 : z_fi (z_mi 162) 155 = some (155, .iload_n 2, 0, 0, 0, 0, 0) := rfl
set_option maxRecDepth 8000 in
theorem q162_156 : z_fi (z_mi 162) 156 = some (156, .aload_n 0, 0, 0, 0, 0, 0) := rfl
set_option maxRecDepth 8000 in
theorem q162_157 : z_fi (z_mi 162) 157 = some (157, .getfield 124, 0, 10, 6, 0, 0) := rfl
set_option maxRecDepth 8000 in
theorem q162_160 : z_fi (z_mi 162) 160 = some (160, .aload_n 0, 0, 0, 0, 0, 0) := rfl
set_option maxRecDepth 8000 in
theorem q162_161 : z_fi (z_mi 162) 161 = some (161, .getfield 127, 0, 10, 7, 0, 0) := rfl
set_option maxRecDepth 8000 in
theorem q162_164 : z_fi (z_mi 162) 164 = some (164, .invokestatic 146, 1, 161, 3, 0, 0) := rfl
set_option maxRecDepth 8000 in
theorem q162_167 : z_fi (z_mi 162) 167 = some (167, .ifCond .ne 9, 0, 176, 0, 0, 0) := rfl
set_option maxRecDepth 8000 in
theorem q162_170 : z_fi (z_mi 162) 170 = some (170, .aload_n 0, 0, 0, 0, 0, 0) := rfl
set_option maxRecDepth 8000 in
theorem q162_171 : z_fi (z_mi 162) 171 = some (171, .bipush 7, 0, 0, 0, 7, 0) := rfl
set_option maxRecDepth 8000 in
theorem q162_173 : z_fi (z_mi 162) 173 = some (173, .invokevirtual 99, 0, 153, 1, 0, 0) := rfl
set_option maxRecDepth 8000 in
theorem q162_176 : z_fi (z_mi 162) 176 = some (176, .iinc 2 1, 0, 0, 0, 1, 0) := rfl
set_option maxRecDepth 8000 in
theorem q162_179 : z_fi (z_mi 162) 179 = some (179, .goto (-52), 0, 127, 0, 0, 0) := rfl
set_option maxRecDepth 8000 in
theorem q162_182 : z_fi (z_mi 162) 182 = some (182, .aload_n 0, 0, 0, 0, 0, 0) := rfl
set_option maxRecDepth 8000 in
theorem q162_183 : z_fi (z_mi 162) 183 = some (183, .iconst 0, 0, 0, 0, 0, 0) := rfl
set_option maxRecDepth 8000 in
theorem q162_184 : z_fi (z_mi 162) 184 = some (184, .putfield 66, 0, 10, 13, 0, 0) := rfl
set_option maxRecDepth 8000 in
theorem q162_187 : z_fi (z_mi 162) 187 = some (187, .aload_n 0, 0, 0, 0, 0, 0) := rfl
set_option maxRecDepth 8000 in
theorem q162_188 : z_fi (z_mi 162) 188 = some (188, .aload_n 0, 0, 0, 0, 0, 0) := rfl
set_option maxRecDepth 8000 in
theorem q162_189 : z_fi (z_mi 162) 189 = some (189, .getfield 69, 0, 10, 15, 0, 0) := rfl
set_option maxRecDepth 8000 in
theorem q162_192 : z_fi (z_mi 162) 192 = some (192, .putfield 150, 0, 10, 14, 0, 0) := rfl
set_option maxRecDepth 8000 in
theorem q162_195 : z_fi (z_mi 162) 195 = some (195, .aload_n 0, 0, 0, 0, 0, 0) := rfl
set_option maxRecDepth 8000 in
theorem q162_196 : z_fi (z_mi 162) 196 = some (196, .getfield 69, 0, 10, 15, 0, 0) := rfl
set_option maxRecDepth 8000 in
theorem q162_199 : z_fi (z_mi 162) 199 = some (199, .ifCond .le 11, 0, 210, 0, 0, 0) := rfl
set_option maxRecDepth 8000 in
theorem q162_202 : z_fi (z_mi 162) 202 = some (202, .bipush (-10), 0, 0, 0, (-10), 0) := rfl
set_option maxRecDepth 8000 in
theorem q162_204 : z_fi (z_mi 162) 204 = some (204, .aload_n 0, 0, 0, 0, 0, 0) := rfl
set_option maxRecDepth 8000 in
theorem q162_205 : z_fi (z_mi 162) 205 = some (205, .getfield 75, 0, 10, 16, 0, 0) := rfl
set_option maxRecDepth 8000 in
theorem q162_208 : z_fi (z_mi 162) 208 = some (208, .isub, 0, 0, 0, 0, 0) := rfl
set_option maxRecDepth 8000 in
theorem q162_209 : z_fi (z_mi 162) 209 = some (209, .ireturn, 0, 0, 0, 0, 0) := rfl
set_option maxRecDepth 8000 in
theorem q162_210 : z_fi (z_mi 162) 210 = some (210, .iconst 0, 0, 0, 0, 0, 0) := rfl
set_option maxRecDepth 8000 in
theorem q162_211 : z_fi (z_mi 162) 211 = some (211, .istore_n 2, 0, 0, 0, 0, 0) := rfl
set_option maxRecDepth 8000 in
theorem q162_212 : z_fi (z_mi 162) 212 = some (212, .iload_n 2, 0, 0, 0, 0, 0) := rfl
set_option maxRecDepth 8000 in
theorem q162_213 : z_fi (z_mi 162) 213 = some (213, .bipush 110, 0, 0, 0, 110, 0) := rfl
set_option maxRecDepth 8000 in
theorem q162_215 : z_fi (z_mi 162) 215 = some (215, .if_icmp .ge 21, 0, 236, 0, 0, 0) := rfl
set_option maxRecDepth 8000 in
theorem q162_218 : z_fi (z_mi 162) 218 = some (218, .aload_n 0, 0, 0, 0, 0, 0) := rfl
set_option maxRecDepth 8000 in
theorem q162_219 : z_fi (z_mi 162) 219 = some (219, .getfield 7, 0, 10, 0, 0, 0) := rfl
set_option maxRecDepth 8000 in
theorem q162_222 : z_fi (z_mi 162) 222 = some (222, .iload_n 2, 0, 0, 0, 0, 0) := rfl
set_option maxRecDepth 8000 in
theorem q162_223 : z_fi (z_mi 162) 223 = some (223, .aload_n 0, 0, 0, 0, 0, 0) := rfl
set_option maxRecDepth 8000 in
theorem q162_224 : z_fi (z_mi 162) 224 = some (224, .getfield 23, 0, 10, 5, 0, 0) := rfl
set_option maxRecDepth 8000 in
theorem q162_227 : z_fi (z_mi 162) 227 = some (227, .iload_n 2, 0, 0, 0, 0, 0) := rfl
set_option maxRecDepth 8000 in
theorem q162_228 : z_fi (z_mi 162) 228 = some (228, .iaload, 0, 0, 0, 0, 0) := rfl
set_option maxRecDepth 8000 in
theorem q162_229 : z_fi (z_mi 162) 229 = some (229, .iastore, 0, 0, 0, 0, 0) := rfl
set_option maxRecDepth 8000 in
theorem q162_230 : z_fi (z_mi 162) 230 = some (230, .iinc 2 1, 0, 0, 0, 1, 0) := rfl
set_option maxRecDepth 8000 in
theorem q162_233 : z_fi (z_mi 162) 233 = some (233, .goto (-21), 0, 212, 0, 0, 0) := rfl
set_option maxRecDepth 8000 in
theorem q162_236 : z_fi (z_mi 162) 236 = some (236, .aload_n 0, 0, 0, 0, 0, 0) := rfl
set_option maxRecDepth 8000 in
theorem q162_237 : z_fi (z_mi 162) 237 = some (237, .aload_n 0, 0, 0, 0, 0, 0) := rfl
set_option maxRecDepth 8000 in
theorem q162_238 : z_fi (z_mi 162) 238 = some (238, .getfield 124, 0, 10, 6, 0, 0) := rfl
set_option maxRecDepth 8000 in
theorem q162_241 : z_fi (z_mi 162) 241 = some (241, .putfield 13, 0, 10, 1, 0, 0) := rfl
set_option maxRecDepth 8000 in
theorem q162_244 : z_fi (z_mi 162) 244 = some (244, .aload_n 0, 0, 0, 0, 0, 0) := rfl
set_option maxRecDepth 8000 in
theorem q162_245 : z_fi (z_mi 162) 245 = some (245, .aload_n 0, 0, 0, 0, 0, 0) := rfl
set_option maxRecDepth 8000 in
theorem q162_246 : z_fi (z_mi 162) 246 = some (246, .getfield 127, 0, 10, 7, 0, 0) := rfl
set_option maxRecDepth 8000 in
theorem q162_249 : z_fi (z_mi 162) 249 = some (249, .putfield 17, 0, 10, 2, 0, 0) := rfl
set_option maxRecDepth 8000 in
theorem q162_252 : z_fi (z_mi 162) 252 = some (252, .aload_n 0, 0, 0, 0, 0, 0) := rfl
set_option maxRecDepth 8000 in
theorem q162_253 : z_fi (z_mi 162) 253 = some (253, .aload_n 0, 0, 0, 0, 0, 0) := rfl
set_option maxRecDepth 8000 in
theorem q162_254 : z_fi (z_mi 162) 254 = some (254, .getfield 121, 0, 10, 8, 0, 0) := rfl
set_option maxRecDepth 8000 in
theorem q162_257 : z_fi (z_mi 162) 257 = some (257, .putfield 153, 0, 10, 3, 0, 0) := rfl
set_option maxRecDepth 8000 in
theorem q162_260 : z_fi (z_mi 162) 260 = some (260, .aload_n 0, 0, 0, 0, 0, 0) := rfl
set_option maxRecDepth 8000 in
theorem q162_261 : z_fi (z_mi 162) 261 = some (261, .iconst 0, 0, 0, 0, 0, 0) := rfl
set_option maxRecDepth 8000 in
theorem q162_262 : z_fi (z_mi 162) 262 = some (262, .putfield 156, 0, 10, 26, 0, 0) := rfl
set_option maxRecDepth 8000 in
theorem q162_265 : z_fi (z_mi 162) 265 = some (265, .aload_n 0, 0, 0, 0, 0, 0) := rfl
set_option maxRecDepth 8000 in
theorem q162_266 : z_fi (z_mi 162) 266 = some (266, .getfield 47, 0, 10, 27, 0, 0) := rfl
set_option maxRecDepth 8000 in
theorem q162_269 : z_fi (z_mi 162) 269 = some (269, .iconst 0, 0, 0, 0, 0, 0) := rfl
set_option maxRecDepth 8000 in
theorem q162_270 : z_fi (z_mi 162) 270 = some (270, .iconst 0, 0, 0, 0, 0, 0) := rfl
set_option maxRecDepth 8000 in
theorem q162_271 : z_fi (z_mi 162) 271 = some (271, .bastore, 0, 0, 0, 0, 0) := rfl
set_option maxRecDepth 8000 in
theorem q162_272 : z_fi (z_mi 162) 272 = some (272, .aload_n 0, 0, 0, 0, 0, 0) := rfl
set_option maxRecDepth 8000 in
theorem q162_273 : z_fi (z_mi 162) 273 = some (273, .getfield 47, 0, 10, 27, 0, 0) := rfl
set_option maxRecDepth 8000 in
theorem q162_276 : z_fi (z_mi 162) 276 = some (276, .iconst 1, 0, 0, 0, 1, 0) := rfl
set_option maxRecDepth 8000 in
theorem q162_277 : z_fi (z_mi 162) 277 = some (277, .iconst 0, 0, 0, 0, 0, 0) := rfl
set_option maxRecDepth 8000 in
theorem q162_278 : z_fi (z_mi 162) 278 = some (278, .bastore, 0, 0, 0, 0, 0) := rfl
set_option maxRecDepth 8000 in
theorem q162_279 : z_fi (z_mi 162) 279 = some (279, .iload_n 1, 0, 0, 0, 0, 0) := rfl
set_option maxRecDepth 8000 in
theorem q162_280 : z_fi (z_mi 162) 280 = some (280, .ireturn, 0, 0, 0, 0, 0) := rfl
set_option maxRecDepth 20000 in
set_option maxHeartbeats 4000000 in
theorem t_M_text {xL : Nat} {xs : Nat → Int32} {ρ : Nat → Nat → Option Nat} (hρ : z_hR ρ) (d : Nat)  (σ : zS) : ∀ q, f_M_text  σ = some q → z_ec xL xs ρ (d + 6) 162 [.ref 90] σ (em_i q) := by
  refine j_of (W := [.ref 90, .null, .null]) (fun L hL => ?_) ?_
  · subst hL; exact z_vl_0 _ 2 rfl
  · unfold f_M_text
    refine j_aload_n (pc' := 1) q162_0 rfl (by decide) rfl ?_
    refine j_iconst (pc' := 2) q162_1 rfl ?_
    refine j_putf (k := 90) (pc' := 5) q162_2 rfl rfl ?_
    refine j_nameS (fun τ1 => ?_)
    refine j_aload_n (pc' := 6) q162_5 rfl (by decide) rfl ?_
    refine j_iconst (pc' := 7) q162_6 rfl ?_
    refine j_putf (k := 90) (pc' := 10) q162_7 rfl rfl ?_
    refine j_nameS (fun τ2 => ?_)
    refine j_aload_n (pc' := 11) q162_10 rfl (by decide) rfl ?_
    refine j_iconst (pc' := 12) q162_11 rfl ?_
    refine j_putf (k := 90) (pc' := 15) q162_12 rfl rfl ?_
    refine j_nameS (fun τ3 => ?_)
    refine j_aload_n (pc' := 16) q162_15 rfl (by decide) rfl ?_
    refine j_iconst (pc' := 17) q162_16 rfl ?_
    refine j_putf (k := 90) (pc' := 20) q162_17 rfl rfl ?_
    refine j_nameS (fun τ4 => ?_)
    refine j_aload_n (pc' := 21) q162_20 rfl (by decide) rfl ?_
    refine j_iconst (pc' := 22) q162_21 rfl ?_
    refine j_putf (k := 90) (pc' := 25) q162_22 rfl rfl ?_
    refine j_nameS (fun τ5 => ?_)
    refine j_aload_n (pc' := 26) q162_25 rfl (by decide) rfl ?_
    refine j_iconst (pc' := 27) q162_26 rfl ?_
    refine j_putf (k := 90) (pc' := 30) q162_27 rfl rfl ?_
    refine j_nameS (fun τ6 => ?_)
    refine j_aload_n (pc' := 31) q162_30 rfl (by decide) rfl ?_
    refine j_iconst (pc' := 32) q162_31 rfl ?_
    refine j_putf (k := 90) (pc' := 35) q162_32 rfl rfl ?_
    refine j_nameS (fun τ7 => ?_)
    refine j_iconst (pc' := 36) q162_35 rfl ?_
    refine j_istore1 (pc' := 37) q162_36 rfl (Nat.le_of_ble_eq_true rfl) rfl ?_
    refine j_iconst (pc' := 38) q162_37 rfl ?_
    refine j_istore2 (pc' := 39) q162_38 rfl (Nat.le_of_ble_eq_true rfl) rfl ?_
    refine j_forget (V' := [.ref 90, .int (0 : Int32), .int (0 : Int32)]) (z_le_s (z_le_s (z_le_s (z_le_nil)))) ?_
    refine j_loopX (S := Int32 × zS) (E := zS) (fun e => e) 68 (fun s8 => [.ref 90, .int (0 : Int32), .int s8.1]) (fun s8 => s8.2) (fun b8 => [.ref 90, .int (0 : Int32), .null]) (fun b8 => b8) (fun b8 => ?_) (fun R8 hR8 hX8 s8 => ?_) ((0 : Int32), τ7)
    · show z_J _ _ _ _ _ _ _ _ _ _ _ _
      refine j_aload_n (pc' := 69) q162_68 rfl (by decide) rfl ?_
      refine j_callV0_v (d := d + 5) (pc' := 72) q162_69 rfl (Nat.le_of_ble_eq_true rfl) (Nat.le_of_ble_eq_true rfl) rfl (t_M_step hρ (d + 4) _) (fun r14 => ?_)
      refine j_forget (V' := [.ref 90, .int (0 : Int32), .null]) (z_le_s (z_le_s (z_le_n (z_le_nil)))) ?_
      refine j_loopX (S := Int32 × zS) (E := Int32 × zS) (fun e => e) 96 (fun s15 => [.ref 90, .int s15.1, .null]) (fun s15 => s15.2) (fun b15 => [.ref 90, .int b15.1, .null]) (fun b15 => b15.2) (fun b15 => ?_) (fun R15 hR15 hX15 s15 => ?_) ((0 : Int32), r14)
      · show z_J _ _ _ _ _ _ _ _ _ _ _ _
        refine j_aload_n (pc' := 97) q162_96 rfl (by decide) rfl ?_
        refine j_getf (k := 90) (pc' := 100) q162_97 rfl rfl ?_
        refine j_join (T := zS) 125 (fun t19 => [.ref 90, .int b15.1, .null]) (fun t19 => []) (fun t19 => t19) (fun t19 => ?_) (fun j19 hj19 => ?_)
        · show z_J _ _ _ _ _ _ _ _ _ _ _ _
          refine j_iconst (pc' := 126) q162_125 rfl ?_
          refine j_istore2 (pc' := 127) q162_126 rfl (Nat.le_of_ble_eq_true rfl) rfl ?_
          refine j_forget (V' := [.ref 90, .int b15.1, .int (0 : Int32)]) (z_le_s (z_le_s (z_le_s (z_le_nil)))) ?_
          refine j_loopX (S := Int32 × zS) (E := zS) (fun e => e) 182 (fun s20 => [.ref 90, .int b15.1, .int s20.1]) (fun s20 => s20.2) (fun b20 => [.ref 90, .int b15.1, .null]) (fun b20 => b20) (fun b20 => ?_) (fun R20 hR20 hX20 s20 => ?_) ((0 : Int32), t19)
          · show z_J _ _ _ _ _ _ _ _ _ _ _ _
            refine j_aload_n (pc' := 183) q162_182 rfl (by decide) rfl ?_
            refine j_iconst (pc' := 184) q162_183 rfl ?_
            refine j_putf (k := 90) (pc' := 187) q162_184 rfl rfl ?_
            refine j_nameS (fun τ28 => ?_)
            refine j_aload_n (pc' := 188) q162_187 rfl (by decide) rfl ?_
            refine j_aload_n (pc' := 189) q162_188 rfl (by decide) rfl ?_
            refine j_getf (k := 90) (pc' := 192) q162_189 rfl rfl ?_
            refine j_putf (k := 90) (pc' := 195) q162_192 rfl rfl ?_
            refine j_nameS (fun τ29 => ?_)
            refine j_aload_n (pc' := 196) q162_195 rfl (by decide) rfl ?_
            refine j_getf (k := 90) (pc' := 199) q162_196 rfl rfl ?_
            refine j_if_le (pc' := 202) q162_199 rfl (fun c30 => ?_) (fun c30 => ?_)
            · refine j_iconst (pc' := 211) q162_210 rfl ?_
              refine j_istore2 (pc' := 212) q162_211 rfl (Nat.le_of_ble_eq_true rfl) rfl ?_
              refine j_forget (V' := [.ref 90, .int b15.1, .int (0 : Int32)]) (z_le_s (z_le_s (z_le_s (z_le_nil)))) ?_
              refine j_loopX (S := Int32 × zS) (E := zS) (fun e => e) 236 (fun s31 => [.ref 90, .int b15.1, .int s31.1]) (fun s31 => s31.2) (fun b31 => [.ref 90, .int b15.1, .null]) (fun b31 => b31) (fun b31 => ?_) (fun R31 hR31 hX31 s31 => ?_) ((0 : Int32), τ29)
              · show z_J _ _ _ _ _ _ _ _ _ _ _ _
                refine j_aload_n (pc' := 237) q162_236 rfl (by decide) rfl ?_
                refine j_aload_n (pc' := 238) q162_237 rfl (by decide) rfl ?_
                refine j_getf (k := 90) (pc' := 241) q162_238 rfl rfl ?_
                refine j_putf (k := 90) (pc' := 244) q162_241 rfl rfl ?_
                refine j_nameS (fun τ36 => ?_)
                refine j_aload_n (pc' := 245) q162_244 rfl (by decide) rfl ?_
                refine j_aload_n (pc' := 246) q162_245 rfl (by decide) rfl ?_
                refine j_getf (k := 90) (pc' := 249) q162_246 rfl rfl ?_
                refine j_putf (k := 90) (pc' := 252) q162_249 rfl rfl ?_
                refine j_nameS (fun τ37 => ?_)
                refine j_aload_n (pc' := 253) q162_252 rfl (by decide) rfl ?_
                refine j_aload_n (pc' := 254) q162_253 rfl (by decide) rfl ?_
                refine j_getf (k := 90) (pc' := 257) q162_254 rfl rfl ?_
                refine j_putf (k := 90) (pc' := 260) q162_257 rfl rfl ?_
                refine j_nameS (fun τ38 => ?_)
                refine j_aload_n (pc' := 261) q162_260 rfl (by decide) rfl ?_
                refine j_iconst (pc' := 262) q162_261 rfl ?_
                refine j_putf (k := 90) (pc' := 265) q162_262 rfl rfl ?_
                refine j_nameS (fun τ39 => ?_)
                refine j_aload_n (pc' := 266) q162_265 rfl (by decide) rfl ?_
                refine j_getr (k := 90) (q := 101) (pc' := 269) q162_266 rfl (hρ 90 27 101 rfl) rfl ?_
                refine j_iconst (pc' := 270) q162_269 rfl ?_
                refine j_iconst (pc' := 271) q162_270 rfl ?_
                refine j_zast (k := 101) (N := 2) (pc' := 272) q162_271 rfl (by decide) rfl ?_
                refine j_nameS (fun τ40 => ?_)
                refine j_aload_n (pc' := 273) q162_272 rfl (by decide) rfl ?_
                refine j_getr (k := 90) (q := 101) (pc' := 276) q162_273 rfl (hρ 90 27 101 rfl) rfl ?_
                refine j_iconst (pc' := 277) q162_276 rfl ?_
                refine j_iconst (pc' := 278) q162_277 rfl ?_
                refine j_zast (k := 101) (N := 2) (pc' := 279) q162_278 rfl (by decide) rfl ?_
                refine j_nameS (fun τ41 => ?_)
                refine j_iload_n (pc' := 280) q162_279 rfl rfl ?_
                exact j_iret q162_280 rfl
              · show z_J _ _ _ _ _ _ _ _ _ _ _ _
                refine j_iload_n (pc' := 213) q162_212 rfl rfl ?_
                refine j_bipush (pc' := 215) q162_213 rfl ?_
                refine j_icmp_ge (pc' := 218) q162_215 rfl (fun c32 => ?_) (fun c32 => ?_)
                · exact j_exit (j_forget (z_le_s (z_le_s (z_le_n (z_le_nil)))) (hX31 s31.2))
                · refine j_aload_n (pc' := 219) q162_218 rfl (by decide) rfl ?_
                  refine j_getr (k := 90) (q := 91) (pc' := 222) q162_219 rfl (hρ 90 0 91 rfl) rfl ?_
                  refine j_iload_n (pc' := 223) q162_222 rfl rfl ?_
                  refine j_aload_n (pc' := 224) q162_223 rfl (by decide) rfl ?_
                  refine j_getr (k := 90) (q := 93) (pc' := 227) q162_224 rfl (hρ 90 5 93 rfl) rfl ?_
                  refine j_iload_n (pc' := 228) q162_227 rfl rfl ?_
                  refine j_if (fun hi33 => ?_) (fun _ => j_none)
                  refine j_iald (k := 93) (N := 110) (pc' := 229) q162_228 rfl hi33 rfl ?_
                  refine j_if (fun hi34 => ?_) (fun _ => j_none)
                  refine j_iast (k := 91) (N := 550) (pc' := 230) q162_229 rfl hi34 rfl ?_
                  refine j_nameS (fun τ35 => ?_)
                  refine j_iinc2 (pc' := 233) q162_230 rfl (Nat.le_of_ble_eq_true rfl) rfl ?_
                  refine j_goto q162_233 rfl ?_
                  exact j_again (j_forget (z_le_s (z_le_s (z_le_s (z_le_nil)))) (hR31 ((s31.1 + (1 : Int32)), τ35)))
            · refine j_bipush (pc' := 204) q162_202 rfl ?_
              refine j_aload_n (pc' := 205) q162_204 rfl (by decide) rfl ?_
              refine j_getf (k := 90) (pc' := 208) q162_205 rfl rfl ?_
              refine j_isub (pc' := 209) q162_208 rfl ?_
              exact j_iret q162_209 rfl
          · show z_J _ _ _ _ _ _ _ _ _ _ _ _
            refine j_iload_n (pc' := 128) q162_127 rfl rfl ?_
            refine j_bipush (pc' := 130) q162_128 rfl ?_
            refine j_icmp_ge (pc' := 133) q162_130 rfl (fun c21 => ?_) (fun c21 => ?_)
            · exact j_exit (j_forget (z_le_s (z_le_s (z_le_n (z_le_nil)))) (hX20 s20.2))
            · refine j_aload_n (pc' := 134) q162_133 rfl (by decide) rfl ?_
              refine j_getf (k := 90) (pc' := 137) q162_134 rfl rfl ?_
              refine j_if_ne (pc' := 140) q162_137 rfl (fun c22 => ?_) (fun c22 => ?_)
              · refine j_aload_n (pc' := 141) q162_140 rfl (by decide) rfl ?_
                refine j_getr (k := 90) (q := 93) (pc' := 144) q162_141 rfl (hρ 90 5 93 rfl) rfl ?_
                refine j_bipush (pc' := 146) q162_144 rfl ?_
                refine j_iald (k := 93) (N := 110) (pc' := 147) q162_146 rfl (by decide) rfl ?_
                refine j_iload_n (pc' := 148) q162_147 rfl rfl ?_
                refine j_ishr (pc' := 149) q162_148 rfl ?_
                refine j_iconst (pc' := 150) q162_149 rfl ?_
                refine j_iand (pc' := 151) q162_150 rfl ?_
                refine j_iconst (pc' := 152) q162_151 rfl ?_
                refine j_join (T := zS) 176 (fun t23 => [.ref 90, .int b15.1, .int s20.1]) (fun t23 => []) (fun t23 => t23) (fun t23 => ?_) (fun j23 hj23 => ?_)
                · show z_J _ _ _ _ _ _ _ _ _ _ _ _
                  refine j_iinc2 (pc' := 179) q162_176 rfl (Nat.le_of_ble_eq_true rfl) rfl ?_
                  refine j_goto q162_179 rfl ?_
                  exact j_again (j_forget (z_le_s (z_le_s (z_le_s (z_le_nil)))) (hR20 ((s20.1 + (1 : Int32)), t23)))
                · show z_J _ _ _ _ _ _ _ _ _ _ _ _
                  refine j_icmp_ne (pc' := 155) q162_152 rfl (fun c24 => ?_) (fun c24 => ?_)
                  · refine j_iload_n (pc' := 156) q162_155 rfl rfl ?_
                    refine j_aload_n (pc' := 157) q162_156 rfl (by decide) rfl ?_
                    refine j_getf (k := 90) (pc' := 160) q162_157 rfl rfl ?_
                    refine j_aload_n (pc' := 161) q162_160 rfl (by decide) rfl ?_
                    refine j_getf (k := 90) (pc' := 164) q162_161 rfl rfl ?_
                    refine j_callS3_pi (d := d + 5) (pc' := 167) q162_164 (Or.inl rfl) (Nat.le_of_ble_eq_true rfl) (Nat.le_of_ble_eq_true rfl) rfl (t_M_isEdgeOf hρ (d + 5) _ _ _ _) (fun r25 => ?_)
                    refine j_if_ne (pc' := 170) q162_167 rfl (fun c26 => ?_) (fun c26 => ?_)
                    · refine j_aload_n (pc' := 171) q162_170 rfl (by decide) rfl ?_
                      refine j_bipush (pc' := 173) q162_171 rfl ?_
                      refine j_callV1_v (d := d + 5) (pc' := 176) q162_173 rfl (Nat.le_of_ble_eq_true rfl) (Nat.le_of_ble_eq_true rfl) rfl (t_M_fails hρ (d + 5) _ _) (fun r27 => ?_)
                      refine j_forget (z_le_s (z_le_s (z_le_s (z_le_nil)))) (hj23 r27)
                    · refine j_forget (z_le_s (z_le_s (z_le_s (z_le_nil)))) (hj23 s20.2)
                  · refine j_forget (z_le_s (z_le_s (z_le_s (z_le_nil)))) (hj23 s20.2)
              · exact j_exit (j_forget (z_le_s (z_le_s (z_le_n (z_le_nil)))) (hX20 s20.2))
        · show z_J _ _ _ _ _ _ _ _ _ _ _ _
          refine j_if_ne (pc' := 103) q162_100 rfl (fun c42 => ?_) (fun c42 => ?_)
          · refine j_aload_n (pc' := 104) q162_103 rfl (by decide) rfl ?_
            refine j_getf (k := 90) (pc' := 107) q162_104 rfl rfl ?_
            refine j_aload_n (pc' := 108) q162_107 rfl (by decide) rfl ?_
            refine j_getf (k := 90) (pc' := 111) q162_108 rfl rfl ?_
            refine j_aload_n (pc' := 112) q162_111 rfl (by decide) rfl ?_
            refine j_getf (k := 90) (pc' := 115) q162_112 rfl rfl ?_
            refine j_imul (pc' := 116) q162_115 rfl ?_
            refine j_icmp_lt (pc' := 119) q162_116 rfl (fun c43 => ?_) (fun c43 => ?_)
            · refine j_forget (z_le_s (z_le_s (z_le_n (z_le_nil)))) (hj19 b15.2)
            · refine j_aload_n (pc' := 120) q162_119 rfl (by decide) rfl ?_
              refine j_bipush (pc' := 122) q162_120 rfl ?_
              refine j_callV1_v (d := d + 5) (pc' := 125) q162_122 rfl (Nat.le_of_ble_eq_true rfl) (Nat.le_of_ble_eq_true rfl) rfl (t_M_fails hρ (d + 5) _ _) (fun r44 => ?_)
              refine j_forget (z_le_s (z_le_s (z_le_n (z_le_nil)))) (hj19 r44)
          · refine j_forget (z_le_s (z_le_s (z_le_n (z_le_nil)))) (hj19 b15.2)
      · show z_J _ _ _ _ _ _ _ _ _ _ _ _
        refine j_aload_n (pc' := 73) q162_72 rfl (by decide) rfl ?_
        refine j_getf (k := 90) (pc' := 76) q162_73 rfl rfl ?_
        refine j_if_ne (pc' := 79) q162_76 rfl (fun c16 => ?_) (fun c16 => ?_)
        · refine j_aload_n (pc' := 80) q162_79 rfl (by decide) rfl ?_
          refine j_getf (k := 90) (pc' := 83) q162_80 rfl rfl ?_
          refine j_if_eq (pc' := 86) q162_83 rfl (fun c17 => ?_) (fun c17 => ?_)
          · exact j_exit (j_forget (z_le_s (z_le_s (z_le_n (z_le_nil)))) (hX15 (s15.1, s15.2)))
          · refine j_aload_n (pc' := 87) q162_86 rfl (by decide) rfl ?_
            refine j_callV0_v (d := d + 5) (pc' := 90) q162_87 rfl (Nat.le_of_ble_eq_true rfl) (Nat.le_of_ble_eq_true rfl) rfl (t_M_readLine hρ (d + 0) _) (fun r18 => ?_)
            refine j_iinc1 (pc' := 93) q162_90 rfl (Nat.le_of_ble_eq_true rfl) rfl ?_
            refine j_goto q162_93 rfl ?_
            exact j_again (j_forget (z_le_s (z_le_s (z_le_n (z_le_nil)))) (hR15 ((s15.1 + (1 : Int32)), r18)))
        · exact j_exit (j_forget (z_le_s (z_le_s (z_le_n (z_le_nil)))) (hX15 (s15.1, s15.2)))
    · show z_J _ _ _ _ _ _ _ _ _ _ _ _
      refine j_iload_n (pc' := 40) q162_39 rfl rfl ?_
      refine j_bipush (pc' := 42) q162_40 rfl ?_
      refine j_icmp_ge (pc' := 45) q162_42 rfl (fun c9 => ?_) (fun c9 => ?_)
      · exact j_exit (j_forget (z_le_s (z_le_s (z_le_n (z_le_nil)))) (hX8 s8.2))
      · refine j_aload_n (pc' := 46) q162_45 rfl (by decide) rfl ?_
        refine j_getr (k := 90) (q := 93) (pc' := 49) q162_46 rfl (hρ 90 5 93 rfl) rfl ?_
        refine j_iload_n (pc' := 50) q162_49 rfl rfl ?_
        refine j_iconst (pc' := 51) q162_50 rfl ?_
        refine j_if (fun hi10 => ?_) (fun _ => j_none)
        refine j_iast (k := 93) (N := 110) (pc' := 52) q162_51 rfl hi10 rfl ?_
        refine j_nameS (fun τ11 => ?_)
        refine j_aload_n (pc' := 53) q162_52 rfl (by decide) rfl ?_
        refine j_getr (k := 90) (q := 94) (pc' := 56) q162_53 rfl (hρ 90 10 94 rfl) rfl ?_
        refine j_iload_n (pc' := 57) q162_56 rfl rfl ?_
        refine j_bipush (pc' := 59) q162_57 rfl ?_
        refine j_irem (pc' := 60) q162_59 (by decide) rfl ?_
        refine j_iconst (pc' := 61) q162_60 rfl ?_
        refine j_if (fun hi12 => ?_) (fun _ => j_none)
        refine j_iast (k := 94) (N := 8) (pc' := 62) q162_61 rfl hi12 rfl ?_
        refine j_nameS (fun τ13 => ?_)
        refine j_iinc2 (pc' := 65) q162_62 rfl (Nat.le_of_ble_eq_true rfl) rfl ?_
        refine j_goto q162_65 rfl ?_
        exact j_again (j_forget (z_le_s (z_le_s (z_le_s (z_le_nil)))) (hR8 ((s8.1 + (1 : Int32)), τ13)))
theorem q104_0 : z_fi (z_mi 104) 0 = some (0, .aload_n 0, 0, 0, 0, 0, 0) := rfl
theorem q104_1 : z_fi (z_mi 104) 1 = some (1, .getfield 79, 0, 9, 9, 0, 0) := rfl
theorem q104_4 : z_fi (z_mi 104) 4 = some (4, .ireturn, 0, 0, 0, 0, 0) := rfl
set_option maxRecDepth 20000 in
set_option maxHeartbeats 4000000 in
theorem t_Y_fault {xL : Nat} {xs : Nat → Int32} {ρ : Nat → Nat → Option Nat} (hρ : z_hR ρ) (d : Nat)  (σ : zS) : ∀ q, f_Y_fault  σ = some q → z_ec xL xs ρ (d + 0) 104 [.ref 0] σ (em_pi σ q) := by
  refine j_of (W := [.ref 0]) (fun L hL => ?_) ?_
  · subst hL; exact z_vl_0 _ 0 rfl
  · unfold f_Y_fault
    refine j_aload_n (pc' := 1) q104_0 rfl (by decide) rfl ?_
    refine j_getf (k := 0) (pc' := 4) q104_1 rfl rfl ?_
    exact j_piret q104_4 rfl
theorem q163_0 : z_fi (z_mi 163) 0 = some (0, .aload_n 0, 0, 0, 0, 0, 0) := rfl
theorem q163_1 : z_fi (z_mi 163) 1 = some (1, .getfield 150, 0, 10, 14, 0, 0) := rfl
theorem q163_4 : z_fi (z_mi 163) 4 = some (4, .ireturn, 0, 0, 0, 0, 0) := rfl
set_option maxRecDepth 20000 in
set_option maxHeartbeats 4000000 in
theorem t_M_fault {xL : Nat} {xs : Nat → Int32} {ρ : Nat → Nat → Option Nat} (hρ : z_hR ρ) (d : Nat)  (σ : zS) : ∀ q, f_M_fault  σ = some q → z_ec xL xs ρ (d + 0) 163 [.ref 90] σ (em_pi σ q) := by
  refine j_of (W := [.ref 90]) (fun L hL => ?_) ?_
  · subst hL; exact z_vl_0 _ 0 rfl
  · unfold f_M_fault
    refine j_aload_n (pc' := 1) q163_0 rfl (by decide) rfl ?_
    refine j_getf (k := 90) (pc' := 4) q163_1 rfl rfl ?_
    exact j_piret q163_4 rfl
theorem q105_0 : z_fi (z_mi 105) 0 = some (0, .iload_n 1, 0, 0, 0, 0, 0) := rfl
theorem q105_1 : z_fi (z_mi 105) 1 = some (1, .tableswitch 93 0 5 #[39, 47, 55, 66, 77, 85], 39, 0, 0, 0, 0) := rfl
theorem q105_40 : z_fi (z_mi 105) 40 = some (40, .aload_n 0, 0, 0, 0, 0, 0) := rfl
theorem q105_41 : z_fi (z_mi 105) 41 = some (41, .getfield 10, 0, 9, 0, 0, 0) := rfl
theorem q105_44 : z_fi (z_mi 105) 44 = some (44, .getfield 98, 0, 0, 0, 0, 0) := rfl
theorem q105_47 : z_fi (z_mi 105) 47 = some (47, .ireturn, 0, 0, 0, 0, 0) := rfl
theorem q105_48 : z_fi (z_mi 105) 48 = some (48, .aload_n 0, 0, 0, 0, 0, 0) := rfl
theorem q105_49 : z_fi (z_mi 105) 49 = some (49, .getfield 10, 0, 9, 0, 0, 0) := rfl
theorem q105_52 : z_fi (z_mi 105) 52 = some (52, .getfield 101, 0, 0, 1, 0, 0) := rfl
theorem q105_55 : z_fi (z_mi 105) 55 = some (55, .ireturn, 0, 0, 0, 0, 0) := rfl
theorem q105_56 : z_fi (z_mi 105) 56 = some (56, .aload_n 0, 0, 0, 0, 0, 0) := rfl
theorem q105_57 : z_fi (z_mi 105) 57 = some (57, .getfield 10, 0, 9, 0, 0, 0) := rfl
theorem q105_60 : z_fi (z_mi 105) 60 = some (60, .getfield 104, 0, 0, 8, 0, 0) := rfl
theorem q105_63 : z_fi (z_mi 105) 63 = some (63, .getfield 108, 0, 1, 3, 0, 0) := rfl
theorem q105_66 : z_fi (z_mi 105) 66 = some (66, .ireturn, 0, 0, 0, 0, 0) := rfl
theorem q105_67 : z_fi (z_mi 105) 67 = some (67, .aload_n 0, 0, 0, 0, 0, 0) := rfl
theorem q105_68 : z_fi (z_mi 105) 68 = some (68, .getfield 10, 0, 9, 0, 0, 0) := rfl
theorem q105_71 : z_fi (z_mi 105) 71 = some (71, .getfield 111, 0, 0, 9, 0, 0) := rfl
theorem q105_74 : z_fi (z_mi 105) 74 = some (74, .getfield 115, 0, 4, 2, 0, 0) := rfl
theorem q105_77 : z_fi (z_mi 105) 77 = some (77, .ireturn, 0, 0, 0, 0, 0) := rfl
theorem q105_78 : z_fi (z_mi 105) 78 = some (78, .aload_n 0, 0, 0, 0, 0, 0) := rfl
theorem q105_79 : z_fi (z_mi 105) 79 = some (79, .getfield 10, 0, 9, 0, 0, 0) := rfl
theorem q105_82 : z_fi (z_mi 105) 82 = some (82, .getfield 120, 0, 0, 10, 0, 0) := rfl
theorem q105_85 : z_fi (z_mi 105) 85 = some (85, .ireturn, 0, 0, 0, 0, 0) := rfl
theorem q105_86 : z_fi (z_mi 105) 86 = some (86, .aload_n 0, 0, 0, 0, 0, 0) := rfl
theorem q105_87 : z_fi (z_mi 105) 87 = some (87, .getfield 10, 0, 9, 0, 0, 0) := rfl
theorem q105_90 : z_fi (z_mi 105) 90 = some (90, .getfield 123, 0, 0, 12, 0, 0) := rfl
theorem q105_93 : z_fi (z_mi 105) 93 = some (93, .ireturn, 0, 0, 0, 0, 0) := rfl
theorem q105_94 : z_fi (z_mi 105) 94 = some (94, .iconst (-1), 0, 0, 0, (-1), 0) := rfl
theorem q105_95 : z_fi (z_mi 105) 95 = some (95, .ireturn, 0, 0, 0, 0, 0) := rfl
set_option maxRecDepth 20000 in
set_option maxHeartbeats 4000000 in
theorem t_Y_rule {xL : Nat} {xs : Nat → Int32} {ρ : Nat → Nat → Option Nat} (hρ : z_hR ρ) (d : Nat) (a1 : Int32) (σ : zS) : ∀ q, f_Y_rule a1 σ = some q → z_ec xL xs ρ (d + 0) 105 [.ref 0, .int a1] σ (em_pi σ q) := by
  refine j_of (W := [.ref 0, .int a1]) (fun L hL => ?_) ?_
  · subst hL; exact z_vl_0 _ 0 rfl
  · unfold f_Y_rule
    refine j_iload_n (pc' := 1) q105_0 rfl rfl ?_
    refine j_if (fun c1 => ?_) (fun c1 => ?_)
    · refine j_tin (pc' := 40) (j := 0) (off := 39) q105_1 c1 (Nat.le_of_ble_eq_true rfl) (by decide) rfl (by decide) ?_
      refine j_aload_n (pc' := 41) q105_40 rfl (by decide) rfl ?_
      refine j_getr (k := 0) (q := 1) (pc' := 44) q105_41 rfl (hρ 0 0 1 rfl) rfl ?_
      refine j_getf (k := 1) (pc' := 47) q105_44 rfl rfl ?_
      exact j_piret q105_47 rfl
    refine j_if (fun c2 => ?_) (fun c2 => ?_)
    · refine j_tin (pc' := 48) (j := 1) (off := 47) q105_1 c2 (Nat.le_of_ble_eq_true rfl) (by decide) rfl (by decide) ?_
      refine j_aload_n (pc' := 49) q105_48 rfl (by decide) rfl ?_
      refine j_getr (k := 0) (q := 1) (pc' := 52) q105_49 rfl (hρ 0 0 1 rfl) rfl ?_
      refine j_getf (k := 1) (pc' := 55) q105_52 rfl rfl ?_
      exact j_piret q105_55 rfl
    refine j_if (fun c3 => ?_) (fun c3 => ?_)
    · refine j_tin (pc' := 56) (j := 2) (off := 55) q105_1 c3 (Nat.le_of_ble_eq_true rfl) (by decide) rfl (by decide) ?_
      refine j_aload_n (pc' := 57) q105_56 rfl (by decide) rfl ?_
      refine j_getr (k := 0) (q := 1) (pc' := 60) q105_57 rfl (hρ 0 0 1 rfl) rfl ?_
      refine j_getr (k := 1) (q := 7) (pc' := 63) q105_60 rfl (hρ 1 8 7 rfl) rfl ?_
      refine j_getf (k := 7) (pc' := 66) q105_63 rfl rfl ?_
      exact j_piret q105_66 rfl
    refine j_if (fun c4 => ?_) (fun c4 => ?_)
    · refine j_tin (pc' := 67) (j := 3) (off := 66) q105_1 c4 (Nat.le_of_ble_eq_true rfl) (by decide) rfl (by decide) ?_
      refine j_aload_n (pc' := 68) q105_67 rfl (by decide) rfl ?_
      refine j_getr (k := 0) (q := 1) (pc' := 71) q105_68 rfl (hρ 0 0 1 rfl) rfl ?_
      refine j_getr (k := 1) (q := 11) (pc' := 74) q105_71 rfl (hρ 1 9 11 rfl) rfl ?_
      refine j_getf (k := 11) (pc' := 77) q105_74 rfl rfl ?_
      exact j_piret q105_77 rfl
    refine j_if (fun c5 => ?_) (fun c5 => ?_)
    · refine j_tin (pc' := 78) (j := 4) (off := 77) q105_1 c5 (Nat.le_of_ble_eq_true rfl) (by decide) rfl (by decide) ?_
      refine j_aload_n (pc' := 79) q105_78 rfl (by decide) rfl ?_
      refine j_getr (k := 0) (q := 1) (pc' := 82) q105_79 rfl (hρ 0 0 1 rfl) rfl ?_
      refine j_getf (k := 1) (pc' := 85) q105_82 rfl rfl ?_
      exact j_piret q105_85 rfl
    refine j_if (fun c6 => ?_) (fun c6 => ?_)
    · refine j_tin (pc' := 86) (j := 5) (off := 85) q105_1 c6 (Nat.le_of_ble_eq_true rfl) (by decide) rfl (by decide) ?_
      refine j_aload_n (pc' := 87) q105_86 rfl (by decide) rfl ?_
      refine j_getr (k := 0) (q := 1) (pc' := 90) q105_87 rfl (hρ 0 0 1 rfl) rfl ?_
      refine j_getf (k := 1) (pc' := 93) q105_90 rfl rfl ?_
      exact j_piret q105_93 rfl
    refine j_tdef (pc' := 94) 6 q105_1 rfl (by decide) (z_noS (z_noS (z_noS (z_noS (z_noS (z_noS (z_no0) c1) c2) c3) c4) c5) c6) (by decide) ?_
    refine j_iconst (pc' := 95) q105_94 rfl ?_
    exact j_piret q105_95 rfl
theorem q168_0 : z_fi (z_mi 168) 0 = some (0, .iload_n 1, 0, 0, 0, 0, 0) := rfl
theorem q168_1 : z_fi (z_mi 168) 1 = some (1, .tableswitch 78 0 5 #[39, 44, 49, 54, 62, 70], 39, 0, 0, 0, 0) := rfl
theorem q168_40 : z_fi (z_mi 168) 40 = some (40, .aload_n 0, 0, 0, 0, 0, 0) := rfl
theorem q168_41 : z_fi (z_mi 168) 41 = some (41, .getfield 13, 0, 10, 1, 0, 0) := rfl
theorem q168_44 : z_fi (z_mi 168) 44 = some (44, .ireturn, 0, 0, 0, 0, 0) := rfl
theorem q168_45 : z_fi (z_mi 168) 45 = some (45, .aload_n 0, 0, 0, 0, 0, 0) := rfl
theorem q168_46 : z_fi (z_mi 168) 46 = some (46, .getfield 17, 0, 10, 2, 0, 0) := rfl
theorem q168_49 : z_fi (z_mi 168) 49 = some (49, .ireturn, 0, 0, 0, 0, 0) := rfl
theorem q168_50 : z_fi (z_mi 168) 50 = some (50, .aload_n 0, 0, 0, 0, 0, 0) := rfl
theorem q168_51 : z_fi (z_mi 168) 51 = some (51, .getfield 153, 0, 10, 3, 0, 0) := rfl
theorem q168_54 : z_fi (z_mi 168) 54 = some (54, .ireturn, 0, 0, 0, 0, 0) := rfl
theorem q168_55 : z_fi (z_mi 168) 55 = some (55, .aload_n 0, 0, 0, 0, 0, 0) := rfl
theorem q168_56 : z_fi (z_mi 168) 56 = some (56, .getfield 7, 0, 10, 0, 0, 0) := rfl
theorem q168_59 : z_fi (z_mi 168) 59 = some (59, .bipush 104, 0, 0, 0, 104, 0) := rfl
theorem q168_61 : z_fi (z_mi 168) 61 = some (61, .iaload, 0, 0, 0, 0, 0) := rfl
theorem q168_62 : z_fi (z_mi 168) 62 = some (62, .ireturn, 0, 0, 0, 0, 0) := rfl
theorem q168_63 : z_fi (z_mi 168) 63 = some (63, .aload_n 0, 0, 0, 0, 0, 0) := rfl
theorem q168_64 : z_fi (z_mi 168) 64 = some (64, .getfield 7, 0, 10, 0, 0, 0) := rfl
theorem q168_67 : z_fi (z_mi 168) 67 = some (67, .bipush 105, 0, 0, 0, 105, 0) := rfl
theorem q168_69 : z_fi (z_mi 168) 69 = some (69, .iaload, 0, 0, 0, 0, 0) := rfl
theorem q168_70 : z_fi (z_mi 168) 70 = some (70, .ireturn, 0, 0, 0, 0, 0) := rfl
theorem q168_71 : z_fi (z_mi 168) 71 = some (71, .aload_n 0, 0, 0, 0, 0, 0) := rfl
theorem q168_72 : z_fi (z_mi 168) 72 = some (72, .getfield 7, 0, 10, 0, 0, 0) := rfl
theorem q168_75 : z_fi (z_mi 168) 75 = some (75, .bipush 109, 0, 0, 0, 109, 0) := rfl
theorem q168_77 : z_fi (z_mi 168) 77 = some (77, .iaload, 0, 0, 0, 0, 0) := rfl
theorem q168_78 : z_fi (z_mi 168) 78 = some (78, .ireturn, 0, 0, 0, 0, 0) := rfl
theorem q168_79 : z_fi (z_mi 168) 79 = some (79, .iconst (-1), 0, 0, 0, (-1), 0) := rfl
theorem q168_80 : z_fi (z_mi 168) 80 = some (80, .ireturn, 0, 0, 0, 0, 0) := rfl
set_option maxRecDepth 20000 in
set_option maxHeartbeats 4000000 in
theorem t_M_rule {xL : Nat} {xs : Nat → Int32} {ρ : Nat → Nat → Option Nat} (hρ : z_hR ρ) (d : Nat) (a1 : Int32) (σ : zS) : ∀ q, f_M_rule a1 σ = some q → z_ec xL xs ρ (d + 0) 168 [.ref 90, .int a1] σ (em_pi σ q) := by
  refine j_of (W := [.ref 90, .int a1]) (fun L hL => ?_) ?_
  · subst hL; exact z_vl_0 _ 0 rfl
  · unfold f_M_rule
    refine j_iload_n (pc' := 1) q168_0 rfl rfl ?_
    refine j_if (fun c1 => ?_) (fun c1 => ?_)
    · refine j_tin (pc' := 40) (j := 0) (off := 39) q168_1 c1 (Nat.le_of_ble_eq_true rfl) (by decide) rfl (by decide) ?_
      refine j_aload_n (pc' := 41) q168_40 rfl (by decide) rfl ?_
      refine j_getf (k := 90) (pc' := 44) q168_41 rfl rfl ?_
      exact j_piret q168_44 rfl
    refine j_if (fun c2 => ?_) (fun c2 => ?_)
    · refine j_tin (pc' := 45) (j := 1) (off := 44) q168_1 c2 (Nat.le_of_ble_eq_true rfl) (by decide) rfl (by decide) ?_
      refine j_aload_n (pc' := 46) q168_45 rfl (by decide) rfl ?_
      refine j_getf (k := 90) (pc' := 49) q168_46 rfl rfl ?_
      exact j_piret q168_49 rfl
    refine j_if (fun c3 => ?_) (fun c3 => ?_)
    · refine j_tin (pc' := 50) (j := 2) (off := 49) q168_1 c3 (Nat.le_of_ble_eq_true rfl) (by decide) rfl (by decide) ?_
      refine j_aload_n (pc' := 51) q168_50 rfl (by decide) rfl ?_
      refine j_getf (k := 90) (pc' := 54) q168_51 rfl rfl ?_
      exact j_piret q168_54 rfl
    refine j_if (fun c4 => ?_) (fun c4 => ?_)
    · refine j_tin (pc' := 55) (j := 3) (off := 54) q168_1 c4 (Nat.le_of_ble_eq_true rfl) (by decide) rfl (by decide) ?_
      refine j_aload_n (pc' := 56) q168_55 rfl (by decide) rfl ?_
      refine j_getr (k := 90) (q := 91) (pc' := 59) q168_56 rfl (hρ 90 0 91 rfl) rfl ?_
      refine j_bipush (pc' := 61) q168_59 rfl ?_
      refine j_iald (k := 91) (N := 550) (pc' := 62) q168_61 rfl (by decide) rfl ?_
      exact j_piret q168_62 rfl
    refine j_if (fun c5 => ?_) (fun c5 => ?_)
    · refine j_tin (pc' := 63) (j := 4) (off := 62) q168_1 c5 (Nat.le_of_ble_eq_true rfl) (by decide) rfl (by decide) ?_
      refine j_aload_n (pc' := 64) q168_63 rfl (by decide) rfl ?_
      refine j_getr (k := 90) (q := 91) (pc' := 67) q168_64 rfl (hρ 90 0 91 rfl) rfl ?_
      refine j_bipush (pc' := 69) q168_67 rfl ?_
      refine j_iald (k := 91) (N := 550) (pc' := 70) q168_69 rfl (by decide) rfl ?_
      exact j_piret q168_70 rfl
    refine j_if (fun c6 => ?_) (fun c6 => ?_)
    · refine j_tin (pc' := 71) (j := 5) (off := 70) q168_1 c6 (Nat.le_of_ble_eq_true rfl) (by decide) rfl (by decide) ?_
      refine j_aload_n (pc' := 72) q168_71 rfl (by decide) rfl ?_
      refine j_getr (k := 90) (q := 91) (pc' := 75) q168_72 rfl (hρ 90 0 91 rfl) rfl ?_
      refine j_bipush (pc' := 77) q168_75 rfl ?_
      refine j_iald (k := 91) (N := 550) (pc' := 78) q168_77 rfl (by decide) rfl ?_
      exact j_piret q168_78 rfl
    refine j_tdef (pc' := 79) 6 q168_1 rfl (by decide) (z_noS (z_noS (z_noS (z_noS (z_noS (z_noS (z_no0) c1) c2) c3) c4) c5) c6) (by decide) ?_
    refine j_iconst (pc' := 80) q168_79 rfl ?_
    exact j_piret q168_80 rfl
set_option maxRecDepth 20000 in
set_option maxHeartbeats 4000000 in
theorem t_G_cells_1 {xL : Nat} {xs : Nat → Int32} {ρ : Nat → Nat → Option Nat} (hρ : z_hR ρ) (d : Nat)  (σ : zS) : ∀ q, f_G_cells_1  σ = some q → z_ec xL xs ρ (d + 0) 7 [.ref 1] σ (em_pi σ q) := by
  refine j_of (W := [.ref 1, .null]) (fun L hL => ?_) ?_
  · subst hL; exact z_vl_0 _ 1 rfl
  · unfold f_G_cells_1
    refine j_aload_n (pc' := 1) q7_0 rfl (by decide) rfl ?_
    refine j_getf (k := 1) (pc' := 4) q7_1 rfl rfl ?_
    refine j_aload_n (pc' := 5) q7_4 rfl (by decide) rfl ?_
    refine j_getf (k := 1) (pc' := 8) q7_5 rfl rfl ?_
    refine j_imul (pc' := 9) q7_8 rfl ?_
    refine j_istore1 (pc' := 10) q7_9 rfl (Nat.le_of_ble_eq_true rfl) rfl ?_
    refine j_iload_n (pc' := 11) q7_10 rfl rfl ?_
    refine j_bipush (pc' := 13) q7_11 rfl ?_
    refine j_icmp_ge (pc' := 16) q7_13 rfl (fun c1 => ?_) (fun c1 => ?_)
    · refine j_bipush (pc' := 22) q7_20 rfl ?_
      exact j_piret q7_22 rfl
    · refine j_iload_n (pc' := 17) q7_16 rfl rfl ?_
      refine j_goto q7_17 rfl ?_
      exact j_piret q7_22 rfl
set_option maxRecDepth 20000 in
set_option maxHeartbeats 4000000 in
theorem t_G_hasCell_1 {xL : Nat} {xs : Nat → Int32} {ρ : Nat → Nat → Option Nat} (hρ : z_hR ρ) (d : Nat) (a1 : Int32) (σ : zS) : ∀ q, f_G_hasCell_1 a1 σ = some q → z_ec xL xs ρ (d + 1) 8 [.ref 1, .int a1] σ (em_pi σ q) := by
  refine j_of (W := [.ref 1, .int a1]) (fun L hL => ?_) ?_
  · subst hL; exact z_vl_0 _ 0 rfl
  · unfold f_G_hasCell_1
    refine j_iload_n (pc' := 1) q8_0 rfl rfl ?_
    refine j_if_lt (pc' := 4) q8_1 rfl (fun c1 => ?_) (fun c1 => ?_)
    · refine j_iconst (pc' := 17) q8_16 rfl ?_
      exact j_pzret q8_17 rfl (Or.inl rfl)
    · refine j_iload_n (pc' := 5) q8_4 rfl rfl ?_
      refine j_aload_n (pc' := 6) q8_5 rfl (by decide) rfl ?_
      refine j_callV0_pi (d := d + 0) (pc' := 9) q8_6 rfl (Nat.le_of_ble_eq_true rfl) (Nat.le_of_ble_eq_true rfl) rfl (t_G_cells_1 hρ (d + 0) _) (fun r2 => ?_)
      refine j_icmp_ge (pc' := 12) q8_9 rfl (fun c3 => ?_) (fun c3 => ?_)
      · refine j_iconst (pc' := 17) q8_16 rfl ?_
        exact j_pzret q8_17 rfl (Or.inl rfl)
      · refine j_iconst (pc' := 13) q8_12 rfl ?_
        refine j_goto q8_13 rfl ?_
        exact j_pzret q8_17 rfl (Or.inr rfl)
theorem q13_0 : z_fi (z_mi 13) 0 = some (0, .aload_n 0, 0, 0, 0, 0, 0) := rfl
theorem q13_1 : z_fi (z_mi 13) 1 = some (1, .iload_n 1, 0, 0, 0, 0, 0) := rfl
theorem q13_2 : z_fi (z_mi 13) 2 = some (2, .invokevirtual 99, 0, 8, 1, 0, 0) := rfl
theorem q13_5 : z_fi (z_mi 13) 5 = some (5, .ifCond .ne 5, 0, 10, 0, 0, 0) := rfl
theorem q13_8 : z_fi (z_mi 13) 8 = some (8, .iconst (-1), 0, 0, 0, (-1), 0) := rfl
theorem q13_9 : z_fi (z_mi 13) 9 = some (9, .ireturn, 0, 0, 0, 0, 0) := rfl
theorem q13_10 : z_fi (z_mi 13) 10 = some (10, .iload_n 2, 0, 0, 0, 0, 0) := rfl
theorem q13_11 : z_fi (z_mi 13) 11 = some (11, .tableswitch 68 0 4 #[33, 40, 47, 54, 61], 33, 0, 0, 0, 0) := rfl
theorem q13_44 : z_fi (z_mi 13) 44 = some (44, .aload_n 0, 0, 0, 0, 0, 0) := rfl
theorem q13_45 : z_fi (z_mi 13) 45 = some (45, .getfield 9, 0, 0, 2, 0, 0) := rfl
theorem q13_48 : z_fi (z_mi 13) 48 = some (48, .iload_n 1, 0, 0, 0, 0, 0) := rfl
theorem q13_49 : z_fi (z_mi 13) 49 = some (49, .iaload, 0, 0, 0, 0, 0) := rfl
theorem q13_50 : z_fi (z_mi 13) 50 = some (50, .ireturn, 0, 0, 0, 0, 0) := rfl
theorem q13_51 : z_fi (z_mi 13) 51 = some (51, .aload_n 0, 0, 0, 0, 0, 0) := rfl
theorem q13_52 : z_fi (z_mi 13) 52 = some (52, .getfield 15, 0, 0, 3, 0, 0) := rfl
theorem q13_55 : z_fi (z_mi 13) 55 = some (55, .iload_n 1, 0, 0, 0, 0, 0) := rfl
theorem q13_56 : z_fi (z_mi 13) 56 = some (56, .iaload, 0, 0, 0, 0, 0) := rfl
theorem q13_57 : z_fi (z_mi 13) 57 = some (57, .ireturn, 0, 0, 0, 0, 0) := rfl
theorem q13_58 : z_fi (z_mi 13) 58 = some (58, .aload_n 0, 0, 0, 0, 0, 0) := rfl
theorem q13_59 : z_fi (z_mi 13) 59 = some (59, .getfield 18, 0, 0, 4, 0, 0) := rfl
theorem q13_62 : z_fi (z_mi 13) 62 = some (62, .iload_n 1, 0, 0, 0, 0, 0) := rfl
theorem q13_63 : z_fi (z_mi 13) 63 = some (63, .iaload, 0, 0, 0, 0, 0) := rfl
theorem q13_64 : z_fi (z_mi 13) 64 = some (64, .ireturn, 0, 0, 0, 0, 0) := rfl
theorem q13_65 : z_fi (z_mi 13) 65 = some (65, .aload_n 0, 0, 0, 0, 0, 0) := rfl
theorem q13_66 : z_fi (z_mi 13) 66 = some (66, .getfield 21, 0, 0, 5, 0, 0) := rfl
theorem q13_69 : z_fi (z_mi 13) 69 = some (69, .iload_n 1, 0, 0, 0, 0, 0) := rfl
theorem q13_70 : z_fi (z_mi 13) 70 = some (70, .iaload, 0, 0, 0, 0, 0) := rfl
theorem q13_71 : z_fi (z_mi 13) 71 = some (71, .ireturn, 0, 0, 0, 0, 0) := rfl
theorem q13_72 : z_fi (z_mi 13) 72 = some (72, .aload_n 0, 0, 0, 0, 0, 0) := rfl
theorem q13_73 : z_fi (z_mi 13) 73 = some (73, .getfield 24, 0, 0, 6, 0, 0) := rfl
theorem q13_76 : z_fi (z_mi 13) 76 = some (76, .iload_n 1, 0, 0, 0, 0, 0) := rfl
theorem q13_77 : z_fi (z_mi 13) 77 = some (77, .iaload, 0, 0, 0, 0, 0) := rfl
theorem q13_78 : z_fi (z_mi 13) 78 = some (78, .ireturn, 0, 0, 0, 0, 0) := rfl
theorem q13_79 : z_fi (z_mi 13) 79 = some (79, .iconst (-1), 0, 0, 0, (-1), 0) := rfl
theorem q13_80 : z_fi (z_mi 13) 80 = some (80, .ireturn, 0, 0, 0, 0, 0) := rfl
set_option maxRecDepth 20000 in
set_option maxHeartbeats 4000000 in
theorem t_G_facet_1 {xL : Nat} {xs : Nat → Int32} {ρ : Nat → Nat → Option Nat} (hρ : z_hR ρ) (d : Nat) (a1 : Int32) (a2 : Int32) (σ : zS) : ∀ q, f_G_facet_1 a1 a2 σ = some q → z_ec xL xs ρ (d + 2) 13 [.ref 1, .int a1, .int a2] σ (em_pi σ q) := by
  refine j_of (W := [.ref 1, .int a1, .int a2]) (fun L hL => ?_) ?_
  · subst hL; exact z_vl_0 _ 0 rfl
  · unfold f_G_facet_1
    refine j_aload_n (pc' := 1) q13_0 rfl (by decide) rfl ?_
    refine j_iload_n (pc' := 2) q13_1 rfl rfl ?_
    refine j_callV1_pi (d := d + 1) (pc' := 5) q13_2 rfl (Nat.le_of_ble_eq_true rfl) (Nat.le_of_ble_eq_true rfl) rfl (t_G_hasCell_1 hρ (d + 0) _ _) (fun r1 => ?_)
    refine j_if_ne (pc' := 8) q13_5 rfl (fun c2 => ?_) (fun c2 => ?_)
    · refine j_iconst (pc' := 9) q13_8 rfl ?_
      exact j_piret q13_9 rfl
    · refine j_iload_n (pc' := 11) q13_10 rfl rfl ?_
      refine j_if (fun c3 => ?_) (fun c3 => ?_)
      · refine j_tin (pc' := 44) (j := 0) (off := 33) q13_11 c3 (Nat.le_of_ble_eq_true rfl) (by decide) rfl (by decide) ?_
        refine j_aload_n (pc' := 45) q13_44 rfl (by decide) rfl ?_
        refine j_getr (k := 1) (q := 2) (pc' := 48) q13_45 rfl (hρ 1 2 2 rfl) rfl ?_
        refine j_iload_n (pc' := 49) q13_48 rfl rfl ?_
        refine j_if (fun hi4 => ?_) (fun _ => j_none)
        refine j_iald (k := 2) (N := 16) (pc' := 50) q13_49 rfl hi4 rfl ?_
        exact j_piret q13_50 rfl
      refine j_if (fun c5 => ?_) (fun c5 => ?_)
      · refine j_tin (pc' := 51) (j := 1) (off := 40) q13_11 c5 (Nat.le_of_ble_eq_true rfl) (by decide) rfl (by decide) ?_
        refine j_aload_n (pc' := 52) q13_51 rfl (by decide) rfl ?_
        refine j_getr (k := 1) (q := 3) (pc' := 55) q13_52 rfl (hρ 1 3 3 rfl) rfl ?_
        refine j_iload_n (pc' := 56) q13_55 rfl rfl ?_
        refine j_if (fun hi6 => ?_) (fun _ => j_none)
        refine j_iald (k := 3) (N := 16) (pc' := 57) q13_56 rfl hi6 rfl ?_
        exact j_piret q13_57 rfl
      refine j_if (fun c7 => ?_) (fun c7 => ?_)
      · refine j_tin (pc' := 58) (j := 2) (off := 47) q13_11 c7 (Nat.le_of_ble_eq_true rfl) (by decide) rfl (by decide) ?_
        refine j_aload_n (pc' := 59) q13_58 rfl (by decide) rfl ?_
        refine j_getr (k := 1) (q := 4) (pc' := 62) q13_59 rfl (hρ 1 4 4 rfl) rfl ?_
        refine j_iload_n (pc' := 63) q13_62 rfl rfl ?_
        refine j_if (fun hi8 => ?_) (fun _ => j_none)
        refine j_iald (k := 4) (N := 16) (pc' := 64) q13_63 rfl hi8 rfl ?_
        exact j_piret q13_64 rfl
      refine j_if (fun c9 => ?_) (fun c9 => ?_)
      · refine j_tin (pc' := 65) (j := 3) (off := 54) q13_11 c9 (Nat.le_of_ble_eq_true rfl) (by decide) rfl (by decide) ?_
        refine j_aload_n (pc' := 66) q13_65 rfl (by decide) rfl ?_
        refine j_getr (k := 1) (q := 5) (pc' := 69) q13_66 rfl (hρ 1 5 5 rfl) rfl ?_
        refine j_iload_n (pc' := 70) q13_69 rfl rfl ?_
        refine j_if (fun hi10 => ?_) (fun _ => j_none)
        refine j_iald (k := 5) (N := 16) (pc' := 71) q13_70 rfl hi10 rfl ?_
        exact j_piret q13_71 rfl
      refine j_if (fun c11 => ?_) (fun c11 => ?_)
      · refine j_tin (pc' := 72) (j := 4) (off := 61) q13_11 c11 (Nat.le_of_ble_eq_true rfl) (by decide) rfl (by decide) ?_
        refine j_aload_n (pc' := 73) q13_72 rfl (by decide) rfl ?_
        refine j_getr (k := 1) (q := 6) (pc' := 76) q13_73 rfl (hρ 1 6 6 rfl) rfl ?_
        refine j_iload_n (pc' := 77) q13_76 rfl rfl ?_
        refine j_if (fun hi12 => ?_) (fun _ => j_none)
        refine j_iald (k := 6) (N := 16) (pc' := 78) q13_77 rfl hi12 rfl ?_
        exact j_piret q13_78 rfl
      refine j_tdef (pc' := 79) 5 q13_11 rfl (by decide) (z_noS (z_noS (z_noS (z_noS (z_noS (z_no0) c3) c5) c7) c9) c11) (by decide) ?_
      refine j_iconst (pc' := 80) q13_79 rfl ?_
      exact j_piret q13_80 rfl
theorem q106_0 : z_fi (z_mi 106) 0 = some (0, .aload_n 0, 0, 0, 0, 0, 0) := rfl
theorem q106_1 : z_fi (z_mi 106) 1 = some (1, .getfield 10, 0, 9, 0, 0, 0) := rfl
theorem q106_4 : z_fi (z_mi 106) 4 = some (4, .iload_n 1, 0, 0, 0, 0, 0) := rfl
theorem q106_5 : z_fi (z_mi 106) 5 = some (5, .iload_n 2, 0, 0, 0, 0, 0) := rfl
theorem q106_6 : z_fi (z_mi 106) 6 = some (6, .invokevirtual 126, 0, 13, 2, 0, 0) := rfl
theorem q106_9 : z_fi (z_mi 106) 9 = some (9, .ireturn, 0, 0, 0, 0, 0) := rfl
set_option maxRecDepth 20000 in
set_option maxHeartbeats 4000000 in
theorem t_Y_cell {xL : Nat} {xs : Nat → Int32} {ρ : Nat → Nat → Option Nat} (hρ : z_hR ρ) (d : Nat) (a1 : Int32) (a2 : Int32) (σ : zS) : ∀ q, f_Y_cell a1 a2 σ = some q → z_ec xL xs ρ (d + 3) 106 [.ref 0, .int a1, .int a2] σ (em_pi σ q) := by
  refine j_of (W := [.ref 0, .int a1, .int a2]) (fun L hL => ?_) ?_
  · subst hL; exact z_vl_0 _ 0 rfl
  · unfold f_Y_cell
    refine j_aload_n (pc' := 1) q106_0 rfl (by decide) rfl ?_
    refine j_getr (k := 0) (q := 1) (pc' := 4) q106_1 rfl (hρ 0 0 1 rfl) rfl ?_
    refine j_iload_n (pc' := 5) q106_4 rfl rfl ?_
    refine j_iload_n (pc' := 6) q106_5 rfl rfl ?_
    refine j_callV2_pi (d := d + 2) (pc' := 9) q106_6 rfl (Nat.le_of_ble_eq_true rfl) (Nat.le_of_ble_eq_true rfl) rfl (t_G_facet_1 hρ (d + 0) _ _ _) (fun r1 => ?_)
    exact j_piret q106_9 rfl
theorem q164_0 : z_fi (z_mi 164) 0 = some (0, .iload_n 1, 0, 0, 0, 0, 0) := rfl
theorem q164_1 : z_fi (z_mi 164) 1 = some (1, .i2l, 0, 0, 0, 0, 0) := rfl
theorem q164_2 : z_fi (z_mi 164) 2 = some (2, .lconst 0, 0, 0, 0, 0, 0) := rfl
theorem q164_3 : z_fi (z_mi 164) 3 = some (3, .aload_n 0, 0, 0, 0, 0, 0) := rfl
theorem q164_4 : z_fi (z_mi 164) 4 = some (4, .getfield 13, 0, 10, 1, 0, 0) := rfl
theorem q164_7 : z_fi (z_mi 164) 7 = some (7, .aload_n 0, 0, 0, 0, 0, 0) := rfl
theorem q164_8 : z_fi (z_mi 164) 8 = some (8, .getfield 17, 0, 10, 2, 0, 0) := rfl
theorem q164_11 : z_fi (z_mi 164) 11 = some (11, .imul, 0, 0, 0, 0, 0) := rfl
theorem q164_12 : z_fi (z_mi 164) 12 = some (12, .iconst 1, 0, 0, 0, 1, 0) := rfl
theorem q164_13 : z_fi (z_mi 164) 13 = some (13, .isub, 0, 0, 0, 0, 0) := rfl
theorem q164_14 : z_fi (z_mi 164) 14 = some (14, .i2l, 0, 0, 0, 0, 0) := rfl
theorem q164_15 : z_fi (z_mi 164) 15 = some (15, .invokestatic 62, 1, 149, 3, 0, 0) := rfl
theorem q164_18 : z_fi (z_mi 164) 18 = some (18, .ireturn, 0, 0, 0, 0, 0) := rfl
set_option maxRecDepth 20000 in
set_option maxHeartbeats 4000000 in
theorem t_M_isCell {xL : Nat} {xs : Nat → Int32} {ρ : Nat → Nat → Option Nat} (hρ : z_hR ρ) (d : Nat) (a1 : Int32) (σ : zS) : ∀ q, f_M_isCell a1 σ = some q → z_ec xL xs ρ (d + 1) 164 [.ref 90, .int a1] σ (em_pi σ q) := by
  refine j_of (W := [.ref 90, .int a1]) (fun L hL => ?_) ?_
  · subst hL; exact z_vl_0 _ 0 rfl
  · unfold f_M_isCell
    refine j_iload_n (pc' := 1) q164_0 rfl rfl ?_
    refine j_i2l (pc' := 2) q164_1 rfl ?_
    refine j_lconst (pc' := 3) q164_2 rfl ?_
    refine j_aload_n (pc' := 4) q164_3 rfl (by decide) rfl ?_
    refine j_getf (k := 90) (pc' := 7) q164_4 rfl rfl ?_
    refine j_aload_n (pc' := 8) q164_7 rfl (by decide) rfl ?_
    refine j_getf (k := 90) (pc' := 11) q164_8 rfl rfl ?_
    refine j_imul (pc' := 12) q164_11 rfl ?_
    refine j_iconst (pc' := 13) q164_12 rfl ?_
    refine j_isub (pc' := 14) q164_13 rfl ?_
    refine j_i2l (pc' := 15) q164_14 rfl ?_
    refine j_callS3_pi (d := d + 0) (pc' := 18) q164_15 (Or.inl rfl) (Nat.le_of_ble_eq_true rfl) (Nat.le_of_ble_eq_true rfl) rfl (t_M_in hρ (d + 0) _ _ _ _) (fun r1 => ?_)
    refine j_if (fun hb2 => ?_) (fun _ => j_none)
    exact j_pzret q164_18 rfl hb2
theorem q169_0 : z_fi (z_mi 169) 0 = some (0, .aload_n 0, 0, 0, 0, 0, 0) := rfl
theorem q169_1 : z_fi (z_mi 169) 1 = some (1, .getfield 7, 0, 10, 0, 0, 0) := rfl
theorem q169_4 : z_fi (z_mi 169) 4 = some (4, .iload_n 1, 0, 0, 0, 0, 0) := rfl
theorem q169_5 : z_fi (z_mi 169) 5 = some (5, .iconst 5, 0, 0, 0, 5, 0) := rfl
theorem q169_6 : z_fi (z_mi 169) 6 = some (6, .iload_n 2, 0, 0, 0, 0, 0) := rfl
theorem q169_7 : z_fi (z_mi 169) 7 = some (7, .imul, 0, 0, 0, 0, 0) := rfl
theorem q169_8 : z_fi (z_mi 169) 8 = some (8, .iadd, 0, 0, 0, 0, 0) := rfl
theorem q169_9 : z_fi (z_mi 169) 9 = some (9, .iconst 1, 0, 0, 0, 1, 0) := rfl
theorem q169_10 : z_fi (z_mi 169) 10 = some (10, .iadd, 0, 0, 0, 0, 0) := rfl
theorem q169_11 : z_fi (z_mi 169) 11 = some (11, .iaload, 0, 0, 0, 0, 0) := rfl
theorem q169_12 : z_fi (z_mi 169) 12 = some (12, .ifCond .ne 7, 0, 19, 0, 0, 0) := rfl
theorem q169_15 : z_fi (z_mi 169) 15 = some (15, .iconst 4, 0, 0, 0, 4, 0) := rfl
theorem q169_16 : z_fi (z_mi 169) 16 = some (16, .goto 13, 0, 29, 0, 0, 0) := rfl
theorem q169_19 : z_fi (z_mi 169) 19 = some (19, .aload_n 0, 0, 0, 0, 0, 0) := rfl
theorem q169_20 : z_fi (z_mi 169) 20 = some (20, .getfield 7, 0, 10, 0, 0, 0) := rfl
theorem q169_23 : z_fi (z_mi 169) 23 = some (23, .iload_n 1, 0, 0, 0, 0, 0) := rfl
theorem q169_24 : z_fi (z_mi 169) 24 = some (24, .iconst 5, 0, 0, 0, 5, 0) := rfl
theorem q169_25 : z_fi (z_mi 169) 25 = some (25, .iload_n 2, 0, 0, 0, 0, 0) := rfl
theorem q169_26 : z_fi (z_mi 169) 26 = some (26, .imul, 0, 0, 0, 0, 0) := rfl
theorem q169_27 : z_fi (z_mi 169) 27 = some (27, .iadd, 0, 0, 0, 0, 0) := rfl
theorem q169_28 : z_fi (z_mi 169) 28 = some (28, .iaload, 0, 0, 0, 0, 0) := rfl
theorem q169_29 : z_fi (z_mi 169) 29 = some (29, .ireturn, 0, 0, 0, 0, 0) := rfl
set_option maxRecDepth 20000 in
set_option maxHeartbeats 4000000 in
theorem t_M_lies {xL : Nat} {xs : Nat → Int32} {ρ : Nat → Nat → Option Nat} (hρ : z_hR ρ) (d : Nat) (a1 : Int32) (a2 : Int32) (σ : zS) : ∀ q, f_M_lies a1 a2 σ = some q → z_ec xL xs ρ (d + 0) 169 [.ref 90, .int a1, .int a2] σ (em_pi σ q) := by
  refine j_of (W := [.ref 90, .int a1, .int a2]) (fun L hL => ?_) ?_
  · subst hL; exact z_vl_0 _ 0 rfl
  · unfold f_M_lies
    refine j_aload_n (pc' := 1) q169_0 rfl (by decide) rfl ?_
    refine j_getr (k := 90) (q := 91) (pc' := 4) q169_1 rfl (hρ 90 0 91 rfl) rfl ?_
    refine j_iload_n (pc' := 5) q169_4 rfl rfl ?_
    refine j_iconst (pc' := 6) q169_5 rfl ?_
    refine j_iload_n (pc' := 7) q169_6 rfl rfl ?_
    refine j_imul (pc' := 8) q169_7 rfl ?_
    refine j_iadd (pc' := 9) q169_8 rfl ?_
    refine j_iconst (pc' := 10) q169_9 rfl ?_
    refine j_iadd (pc' := 11) q169_10 rfl ?_
    refine j_if (fun hi1 => ?_) (fun _ => j_none)
    refine j_iald (k := 91) (N := 550) (pc' := 12) q169_11 rfl hi1 rfl ?_
    refine j_if_ne (pc' := 15) q169_12 rfl (fun c2 => ?_) (fun c2 => ?_)
    · refine j_iconst (pc' := 16) q169_15 rfl ?_
      refine j_goto q169_16 rfl ?_
      exact j_piret q169_29 rfl
    · refine j_aload_n (pc' := 20) q169_19 rfl (by decide) rfl ?_
      refine j_getr (k := 90) (q := 91) (pc' := 23) q169_20 rfl (hρ 90 0 91 rfl) rfl ?_
      refine j_iload_n (pc' := 24) q169_23 rfl rfl ?_
      refine j_iconst (pc' := 25) q169_24 rfl ?_
      refine j_iload_n (pc' := 26) q169_25 rfl rfl ?_
      refine j_imul (pc' := 27) q169_26 rfl ?_
      refine j_iadd (pc' := 28) q169_27 rfl ?_
      refine j_if (fun hi3 => ?_) (fun _ => j_none)
      refine j_iald (k := 91) (N := 550) (pc' := 29) q169_28 rfl hi3 rfl ?_
      exact j_piret q169_29 rfl
theorem q170_0 : z_fi (z_mi 170) 0 = some (0, .aload_n 0, 0, 0, 0, 0, 0) := rfl
theorem q170_1 : z_fi (z_mi 170) 1 = some (1, .getfield 7, 0, 10, 0, 0, 0) := rfl
theorem q170_4 : z_fi (z_mi 170) 4 = some (4, .iload_n 1, 0, 0, 0, 0, 0) := rfl
theorem q170_5 : z_fi (z_mi 170) 5 = some (5, .iconst 5, 0, 0, 0, 5, 0) := rfl
theorem q170_6 : z_fi (z_mi 170) 6 = some (6, .iload_n 2, 0, 0, 0, 0, 0) := rfl
theorem q170_7 : z_fi (z_mi 170) 7 = some (7, .imul, 0, 0, 0, 0, 0) := rfl
theorem q170_8 : z_fi (z_mi 170) 8 = some (8, .iadd, 0, 0, 0, 0, 0) := rfl
theorem q170_9 : z_fi (z_mi 170) 9 = some (9, .iconst 2, 0, 0, 0, 2, 0) := rfl
theorem q170_10 : z_fi (z_mi 170) 10 = some (10, .iadd, 0, 0, 0, 0, 0) := rfl
theorem q170_11 : z_fi (z_mi 170) 11 = some (11, .iaload, 0, 0, 0, 0, 0) := rfl
theorem q170_12 : z_fi (z_mi 170) 12 = some (12, .ifCond .ne 8, 0, 20, 0, 0, 0) := rfl
theorem q170_15 : z_fi (z_mi 170) 15 = some (15, .bipush (-4), 0, 0, 0, (-4), 0) := rfl
theorem q170_17 : z_fi (z_mi 170) 17 = some (17, .goto 17, 0, 34, 0, 0, 0) := rfl
theorem q170_20 : z_fi (z_mi 170) 20 = some (20, .aload_n 0, 0, 0, 0, 0, 0) := rfl
theorem q170_21 : z_fi (z_mi 170) 21 = some (21, .getfield 7, 0, 10, 0, 0, 0) := rfl
theorem q170_24 : z_fi (z_mi 170) 24 = some (24, .iload_n 1, 0, 0, 0, 0, 0) := rfl
theorem q170_25 : z_fi (z_mi 170) 25 = some (25, .iconst 5, 0, 0, 0, 5, 0) := rfl
theorem q170_26 : z_fi (z_mi 170) 26 = some (26, .iload_n 2, 0, 0, 0, 0, 0) := rfl
theorem q170_27 : z_fi (z_mi 170) 27 = some (27, .imul, 0, 0, 0, 0, 0) := rfl
theorem q170_28 : z_fi (z_mi 170) 28 = some (28, .iadd, 0, 0, 0, 0, 0) := rfl
theorem q170_29 : z_fi (z_mi 170) 29 = some (29, .iconst 2, 0, 0, 0, 2, 0) := rfl
theorem q170_30 : z_fi (z_mi 170) 30 = some (30, .iadd, 0, 0, 0, 0, 0) := rfl
theorem q170_31 : z_fi (z_mi 170) 31 = some (31, .iaload, 0, 0, 0, 0, 0) := rfl
theorem q170_32 : z_fi (z_mi 170) 32 = some (32, .iconst 1, 0, 0, 0, 1, 0) := rfl
theorem q170_33 : z_fi (z_mi 170) 33 = some (33, .isub, 0, 0, 0, 0, 0) := rfl
theorem q170_34 : z_fi (z_mi 170) 34 = some (34, .ireturn, 0, 0, 0, 0, 0) := rfl
set_option maxRecDepth 20000 in
set_option maxHeartbeats 4000000 in
theorem t_M_cropIn {xL : Nat} {xs : Nat → Int32} {ρ : Nat → Nat → Option Nat} (hρ : z_hR ρ) (d : Nat) (a1 : Int32) (a2 : Int32) (σ : zS) : ∀ q, f_M_cropIn a1 a2 σ = some q → z_ec xL xs ρ (d + 0) 170 [.ref 90, .int a1, .int a2] σ (em_pi σ q) := by
  refine j_of (W := [.ref 90, .int a1, .int a2]) (fun L hL => ?_) ?_
  · subst hL; exact z_vl_0 _ 0 rfl
  · unfold f_M_cropIn
    refine j_aload_n (pc' := 1) q170_0 rfl (by decide) rfl ?_
    refine j_getr (k := 90) (q := 91) (pc' := 4) q170_1 rfl (hρ 90 0 91 rfl) rfl ?_
    refine j_iload_n (pc' := 5) q170_4 rfl rfl ?_
    refine j_iconst (pc' := 6) q170_5 rfl ?_
    refine j_iload_n (pc' := 7) q170_6 rfl rfl ?_
    refine j_imul (pc' := 8) q170_7 rfl ?_
    refine j_iadd (pc' := 9) q170_8 rfl ?_
    refine j_iconst (pc' := 10) q170_9 rfl ?_
    refine j_iadd (pc' := 11) q170_10 rfl ?_
    refine j_if (fun hi1 => ?_) (fun _ => j_none)
    refine j_iald (k := 91) (N := 550) (pc' := 12) q170_11 rfl hi1 rfl ?_
    refine j_if_ne (pc' := 15) q170_12 rfl (fun c2 => ?_) (fun c2 => ?_)
    · refine j_bipush (pc' := 17) q170_15 rfl ?_
      refine j_goto q170_17 rfl ?_
      exact j_piret q170_34 rfl
    · refine j_aload_n (pc' := 21) q170_20 rfl (by decide) rfl ?_
      refine j_getr (k := 90) (q := 91) (pc' := 24) q170_21 rfl (hρ 90 0 91 rfl) rfl ?_
      refine j_iload_n (pc' := 25) q170_24 rfl rfl ?_
      refine j_iconst (pc' := 26) q170_25 rfl ?_
      refine j_iload_n (pc' := 27) q170_26 rfl rfl ?_
      refine j_imul (pc' := 28) q170_27 rfl ?_
      refine j_iadd (pc' := 29) q170_28 rfl ?_
      refine j_iconst (pc' := 30) q170_29 rfl ?_
      refine j_iadd (pc' := 31) q170_30 rfl ?_
      refine j_if (fun hi3 => ?_) (fun _ => j_none)
      refine j_iald (k := 91) (N := 550) (pc' := 32) q170_31 rfl hi3 rfl ?_
      refine j_iconst (pc' := 33) q170_32 rfl ?_
      refine j_isub (pc' := 34) q170_33 rfl ?_
      exact j_piret q170_34 rfl
theorem q171_0 : z_fi (z_mi 171) 0 = some (0, .iload_n 3, 0, 0, 0, 0, 0) := rfl
theorem q171_1 : z_fi (z_mi 171) 1 = some (1, .ifCond .ne 12, 0, 13, 0, 0, 0) := rfl
theorem q171_4 : z_fi (z_mi 171) 4 = some (4, .aload_n 0, 0, 0, 0, 0, 0) := rfl
theorem q171_5 : z_fi (z_mi 171) 5 = some (5, .iload_n 1, 0, 0, 0, 0, 0) := rfl
theorem q171_6 : z_fi (z_mi 171) 6 = some (6, .iload_n 2, 0, 0, 0, 0, 0) := rfl
theorem q171_7 : z_fi (z_mi 171) 7 = some (7, .invokevirtual 159, 0, 169, 2, 0, 0) := rfl
theorem q171_10 : z_fi (z_mi 171) 10 = some (10, .goto 29, 0, 39, 0, 0, 0) := rfl
theorem q171_13 : z_fi (z_mi 171) 13 = some (13, .iload_n 3, 0, 0, 0, 0, 0) := rfl
theorem q171_14 : z_fi (z_mi 171) 14 = some (14, .iconst 2, 0, 0, 0, 2, 0) := rfl
theorem q171_15 : z_fi (z_mi 171) 15 = some (15, .if_icmp .ne 12, 0, 27, 0, 0, 0) := rfl
theorem q171_18 : z_fi (z_mi 171) 18 = some (18, .aload_n 0, 0, 0, 0, 0, 0) := rfl
theorem q171_19 : z_fi (z_mi 171) 19 = some (19, .iload_n 1, 0, 0, 0, 0, 0) := rfl
theorem q171_20 : z_fi (z_mi 171) 20 = some (20, .iload_n 2, 0, 0, 0, 0, 0) := rfl
theorem q171_21 : z_fi (z_mi 171) 21 = some (21, .invokevirtual 162, 0, 170, 2, 0, 0) := rfl
theorem q171_24 : z_fi (z_mi 171) 24 = some (24, .goto 15, 0, 39, 0, 0, 0) := rfl
theorem q171_27 : z_fi (z_mi 171) 27 = some (27, .aload_n 0, 0, 0, 0, 0, 0) := rfl
theorem q171_28 : z_fi (z_mi 171) 28 = some (28, .getfield 7, 0, 10, 0, 0, 0) := rfl
theorem q171_31 : z_fi (z_mi 171) 31 = some (31, .iload_n 1, 0, 0, 0, 0, 0) := rfl
theorem q171_32 : z_fi (z_mi 171) 32 = some (32, .iconst 5, 0, 0, 0, 5, 0) := rfl
theorem q171_33 : z_fi (z_mi 171) 33 = some (33, .iload_n 2, 0, 0, 0, 0, 0) := rfl
theorem q171_34 : z_fi (z_mi 171) 34 = some (34, .imul, 0, 0, 0, 0, 0) := rfl
theorem q171_35 : z_fi (z_mi 171) 35 = some (35, .iadd, 0, 0, 0, 0, 0) := rfl
theorem q171_36 : z_fi (z_mi 171) 36 = some (36, .iload_n 3, 0, 0, 0, 0, 0) := rfl
theorem q171_37 : z_fi (z_mi 171) 37 = some (37, .iadd, 0, 0, 0, 0, 0) := rfl
theorem q171_38 : z_fi (z_mi 171) 38 = some (38, .iaload, 0, 0, 0, 0, 0) := rfl
theorem q171_39 : z_fi (z_mi 171) 39 = some (39, .ireturn, 0, 0, 0, 0, 0) := rfl
set_option maxRecDepth 20000 in
set_option maxHeartbeats 4000000 in
theorem t_M_asked {xL : Nat} {xs : Nat → Int32} {ρ : Nat → Nat → Option Nat} (hρ : z_hR ρ) (d : Nat) (a1 : Int32) (a2 : Int32) (a3 : Int32) (σ : zS) : ∀ q, f_M_asked a1 a2 a3 σ = some q → z_ec xL xs ρ (d + 1) 171 [.ref 90, .int a1, .int a2, .int a3] σ (em_pi σ q) := by
  refine j_of (W := [.ref 90, .int a1, .int a2, .int a3]) (fun L hL => ?_) ?_
  · subst hL; exact z_vl_0 _ 0 rfl
  · unfold f_M_asked
    refine j_iload_n (pc' := 1) q171_0 rfl rfl ?_
    refine j_if_ne (pc' := 4) q171_1 rfl (fun c1 => ?_) (fun c1 => ?_)
    · refine j_aload_n (pc' := 5) q171_4 rfl (by decide) rfl ?_
      refine j_iload_n (pc' := 6) q171_5 rfl rfl ?_
      refine j_iload_n (pc' := 7) q171_6 rfl rfl ?_
      refine j_callV2_pi (d := d + 0) (pc' := 10) q171_7 rfl (Nat.le_of_ble_eq_true rfl) (Nat.le_of_ble_eq_true rfl) rfl (t_M_lies hρ (d + 0) _ _ _) (fun r2 => ?_)
      refine j_goto q171_10 rfl ?_
      exact j_piret q171_39 rfl
    · refine j_iload_n (pc' := 14) q171_13 rfl rfl ?_
      refine j_iconst (pc' := 15) q171_14 rfl ?_
      refine j_icmp_ne (pc' := 18) q171_15 rfl (fun c3 => ?_) (fun c3 => ?_)
      · refine j_aload_n (pc' := 19) q171_18 rfl (by decide) rfl ?_
        refine j_iload_n (pc' := 20) q171_19 rfl rfl ?_
        refine j_iload_n (pc' := 21) q171_20 rfl rfl ?_
        refine j_callV2_pi (d := d + 0) (pc' := 24) q171_21 rfl (Nat.le_of_ble_eq_true rfl) (Nat.le_of_ble_eq_true rfl) rfl (t_M_cropIn hρ (d + 0) _ _ _) (fun r4 => ?_)
        refine j_goto q171_24 rfl ?_
        exact j_piret q171_39 rfl
      · refine j_aload_n (pc' := 28) q171_27 rfl (by decide) rfl ?_
        refine j_getr (k := 90) (q := 91) (pc' := 31) q171_28 rfl (hρ 90 0 91 rfl) rfl ?_
        refine j_iload_n (pc' := 32) q171_31 rfl rfl ?_
        refine j_iconst (pc' := 33) q171_32 rfl ?_
        refine j_iload_n (pc' := 34) q171_33 rfl rfl ?_
        refine j_imul (pc' := 35) q171_34 rfl ?_
        refine j_iadd (pc' := 36) q171_35 rfl ?_
        refine j_iload_n (pc' := 37) q171_36 rfl rfl ?_
        refine j_iadd (pc' := 38) q171_37 rfl ?_
        refine j_if (fun hi5 => ?_) (fun _ => j_none)
        refine j_iald (k := 91) (N := 550) (pc' := 39) q171_38 rfl hi5 rfl ?_
        exact j_piret q171_39 rfl
theorem q172_0 : z_fi (z_mi 172) 0 = some (0, .aload_n 0, 0, 0, 0, 0, 0) := rfl
theorem q172_1 : z_fi (z_mi 172) 1 = some (1, .iload_n 1, 0, 0, 0, 0, 0) := rfl
theorem q172_2 : z_fi (z_mi 172) 2 = some (2, .invokevirtual 165, 0, 164, 1, 0, 0) := rfl
theorem q172_5 : z_fi (z_mi 172) 5 = some (5, .ifCond .eq 25, 0, 30, 0, 0, 0) := rfl
theorem q172_8 : z_fi (z_mi 172) 8 = some (8, .iload_n 2, 0, 0, 0, 0, 0) := rfl
theorem q172_9 : z_fi (z_mi 172) 9 = some (9, .i2l, 0, 0, 0, 0, 0) := rfl
theorem q172_10 : z_fi (z_mi 172) 10 = some (10, .lconst 0, 0, 0, 0, 0, 0) := rfl
theorem q172_11 : z_fi (z_mi 172) 11 = some (11, .ldc2_w 169, 0, 0, 0, 0, 4) := rfl
theorem q172_14 : z_fi (z_mi 172) 14 = some (14, .invokestatic 62, 1, 149, 3, 0, 0) := rfl
theorem q172_17 : z_fi (z_mi 172) 17 = some (17, .ifCond .eq 13, 0, 30, 0, 0, 0) := rfl
theorem q172_20 : z_fi (z_mi 172) 20 = some (20, .aload_n 0, 0, 0, 0, 0, 0) := rfl
theorem q172_21 : z_fi (z_mi 172) 21 = some (21, .iconst 0, 0, 0, 0, 0, 0) := rfl
theorem q172_22 : z_fi (z_mi 172) 22 = some (22, .iload_n 1, 0, 0, 0, 0, 0) := rfl
theorem q172_23 : z_fi (z_mi 172) 23 = some (23, .iload_n 2, 0, 0, 0, 0, 0) := rfl
theorem q172_24 : z_fi (z_mi 172) 24 = some (24, .invokevirtual 171, 0, 171, 3, 0, 0) := rfl
theorem q172_27 : z_fi (z_mi 172) 27 = some (27, .goto 4, 0, 31, 0, 0, 0) := rfl
theorem q172_30 : z_fi (z_mi 172) 30 = some (30, .iconst (-1), 0, 0, 0, (-1), 0) := rfl
theorem q172_31 : z_fi (z_mi 172) 31 = some (31, .ireturn, 0, 0, 0, 0, 0) := rfl
set_option maxRecDepth 20000 in
set_option maxHeartbeats 4000000 in
theorem t_M_cell {xL : Nat} {xs : Nat → Int32} {ρ : Nat → Nat → Option Nat} (hρ : z_hR ρ) (d : Nat) (a1 : Int32) (a2 : Int32) (σ : zS) : ∀ q, f_M_cell a1 a2 σ = some q → z_ec xL xs ρ (d + 2) 172 [.ref 90, .int a1, .int a2] σ (em_pi σ q) := by
  refine j_of (W := [.ref 90, .int a1, .int a2]) (fun L hL => ?_) ?_
  · subst hL; exact z_vl_0 _ 0 rfl
  · unfold f_M_cell
    refine j_aload_n (pc' := 1) q172_0 rfl (by decide) rfl ?_
    refine j_iload_n (pc' := 2) q172_1 rfl rfl ?_
    refine j_callV1_pi (d := d + 1) (pc' := 5) q172_2 rfl (Nat.le_of_ble_eq_true rfl) (Nat.le_of_ble_eq_true rfl) rfl (t_M_isCell hρ (d + 0) _ _) (fun r1 => ?_)
    refine j_if_eq (pc' := 8) q172_5 rfl (fun c2 => ?_) (fun c2 => ?_)
    · refine j_iconst (pc' := 31) q172_30 rfl ?_
      exact j_piret q172_31 rfl
    · refine j_iload_n (pc' := 9) q172_8 rfl rfl ?_
      refine j_i2l (pc' := 10) q172_9 rfl ?_
      refine j_lconst (pc' := 11) q172_10 rfl ?_
      refine j_ldc2 (pc' := 14) q172_11 rfl ?_
      refine j_callS3_pi (d := d + 1) (pc' := 17) q172_14 (Or.inl rfl) (Nat.le_of_ble_eq_true rfl) (Nat.le_of_ble_eq_true rfl) rfl (t_M_in hρ (d + 1) _ _ _ _) (fun r3 => ?_)
      refine j_if_eq (pc' := 20) q172_17 rfl (fun c4 => ?_) (fun c4 => ?_)
      · refine j_iconst (pc' := 31) q172_30 rfl ?_
        exact j_piret q172_31 rfl
      · refine j_aload_n (pc' := 21) q172_20 rfl (by decide) rfl ?_
        refine j_iconst (pc' := 22) q172_21 rfl ?_
        refine j_iload_n (pc' := 23) q172_22 rfl rfl ?_
        refine j_iload_n (pc' := 24) q172_23 rfl rfl ?_
        refine j_callV3_pi (d := d + 1) (pc' := 27) q172_24 rfl (Nat.le_of_ble_eq_true rfl) (Nat.le_of_ble_eq_true rfl) rfl (t_M_asked hρ (d + 0) _ _ _ _) (fun r5 => ?_)
        refine j_goto q172_27 rfl ?_
        exact j_piret q172_31 rfl
set_option maxRecDepth 20000 in
set_option maxHeartbeats 4000000 in
theorem t_G_hasEast_1 {xL : Nat} {xs : Nat → Int32} {ρ : Nat → Nat → Option Nat} (hρ : z_hR ρ) (d : Nat) (a1 : Int32) (σ : zS) : ∀ q, f_G_hasEast_1 a1 σ = some q → z_ec xL xs ρ (d + 0) 9 [.ref 1, .int a1] σ (em_pi σ q) := by
  refine j_of (W := [.ref 1, .int a1]) (fun L hL => ?_) ?_
  · subst hL; exact z_vl_0 _ 0 rfl
  · unfold f_G_hasEast_1
    refine j_aload_n (pc' := 1) q9_0 rfl (by decide) rfl ?_
    refine j_getf (k := 1) (pc' := 4) q9_1 rfl rfl ?_
    refine j_if_le (pc' := 7) q9_4 rfl (fun c1 => ?_) (fun c1 => ?_)
    · refine j_iconst (pc' := 27) q9_26 rfl ?_
      exact j_pzret q9_27 rfl (Or.inl rfl)
    · refine j_iload_n (pc' := 8) q9_7 rfl rfl ?_
      refine j_aload_n (pc' := 9) q9_8 rfl (by decide) rfl ?_
      refine j_getf (k := 1) (pc' := 12) q9_9 rfl rfl ?_
      refine j_if (fun _ => j_none) (fun hz2 => ?_)
      refine j_irem (pc' := 13) q9_12 hz2 rfl ?_
      refine j_aload_n (pc' := 14) q9_13 rfl (by decide) rfl ?_
      refine j_getf (k := 1) (pc' := 17) q9_14 rfl rfl ?_
      refine j_iconst (pc' := 18) q9_17 rfl ?_
      refine j_isub (pc' := 19) q9_18 rfl ?_
      refine j_icmp_ge (pc' := 22) q9_19 rfl (fun c3 => ?_) (fun c3 => ?_)
      · refine j_iconst (pc' := 27) q9_26 rfl ?_
        exact j_pzret q9_27 rfl (Or.inl rfl)
      · refine j_iconst (pc' := 23) q9_22 rfl ?_
        refine j_goto q9_23 rfl ?_
        exact j_pzret q9_27 rfl (Or.inr rfl)
set_option maxRecDepth 20000 in
set_option maxHeartbeats 4000000 in
theorem t_G_hasEdge_1 {xL : Nat} {xs : Nat → Int32} {ρ : Nat → Nat → Option Nat} (hρ : z_hR ρ) (d : Nat) (a1 : Int32) (σ : zS) : ∀ q, f_G_hasEdge_1 a1 σ = some q → z_ec xL xs ρ (d + 2) 10 [.ref 1, .int a1] σ (em_pi σ q) := by
  refine j_of (W := [.ref 1, .int a1, .null]) (fun L hL => ?_) ?_
  · subst hL; exact z_vl_0 _ 1 rfl
  · unfold f_G_hasEdge_1
    refine j_iload_n (pc' := 1) q10_0 rfl rfl ?_
    refine j_iconst (pc' := 2) q10_1 rfl ?_
    refine j_ishr (pc' := 3) q10_2 rfl ?_
    refine j_istore2 (pc' := 4) q10_3 rfl (Nat.le_of_ble_eq_true rfl) rfl ?_
    refine j_aload_n (pc' := 5) q10_4 rfl (by decide) rfl ?_
    refine j_iload_n (pc' := 6) q10_5 rfl rfl ?_
    refine j_callV1_pi (d := d + 1) (pc' := 9) q10_6 rfl (Nat.le_of_ble_eq_true rfl) (Nat.le_of_ble_eq_true rfl) rfl (t_G_hasCell_1 hρ (d + 0) _ _) (fun r1 => ?_)
    refine j_if_ne (pc' := 12) q10_9 rfl (fun c2 => ?_) (fun c2 => ?_)
    · refine j_iconst (pc' := 13) q10_12 rfl ?_
      exact j_pzret q10_13 rfl (Or.inl rfl)
    · refine j_iload_n (pc' := 15) q10_14 rfl rfl ?_
      refine j_iconst (pc' := 16) q10_15 rfl ?_
      refine j_iand (pc' := 17) q10_16 rfl ?_
      refine j_if_ne (pc' := 20) q10_17 rfl (fun c3 => ?_) (fun c3 => ?_)
      · refine j_aload_n (pc' := 21) q10_20 rfl (by decide) rfl ?_
        refine j_iload_n (pc' := 22) q10_21 rfl rfl ?_
        refine j_callV1_pi (d := d + 1) (pc' := 25) q10_22 rfl (Nat.le_of_ble_eq_true rfl) (Nat.le_of_ble_eq_true rfl) rfl (t_G_hasEast_1 hρ (d + 1) _ _) (fun r4 => ?_)
        refine j_goto q10_25 rfl ?_
        refine j_if (fun hb5 => ?_) (fun _ => j_none)
        exact j_pzret q10_38 rfl hb5
      · refine j_aload_n (pc' := 29) q10_28 rfl (by decide) rfl ?_
        refine j_iload_n (pc' := 30) q10_29 rfl rfl ?_
        refine j_aload_n (pc' := 31) q10_30 rfl (by decide) rfl ?_
        refine j_getf (k := 1) (pc' := 34) q10_31 rfl rfl ?_
        refine j_iadd (pc' := 35) q10_34 rfl ?_
        refine j_callV1_pi (d := d + 1) (pc' := 38) q10_35 rfl (Nat.le_of_ble_eq_true rfl) (Nat.le_of_ble_eq_true rfl) rfl (t_G_hasCell_1 hρ (d + 0) _ _) (fun r6 => ?_)
        refine j_if (fun hb7 => ?_) (fun _ => j_none)
        exact j_pzret q10_38 rfl hb7
theorem q11_0 : z_fi (z_mi 11) 0 = some (0, .aload_n 0, 0, 0, 0, 0, 0) := rfl
theorem q11_1 : z_fi (z_mi 11) 1 = some (1, .getfield 66, 0, 0, 7, 0, 0) := rfl
theorem q11_4 : z_fi (z_mi 11) 4 = some (4, .iload_n 1, 0, 0, 0, 0, 0) := rfl
theorem q11_5 : z_fi (z_mi 11) 5 = some (5, .iushr, 0, 0, 0, 0, 0) := rfl
theorem q11_6 : z_fi (z_mi 11) 6 = some (6, .iconst 1, 0, 0, 0, 1, 0) := rfl
theorem q11_7 : z_fi (z_mi 11) 7 = some (7, .iand, 0, 0, 0, 0, 0) := rfl
theorem q11_8 : z_fi (z_mi 11) 8 = some (8, .ifCond .ne 7, 0, 15, 0, 0, 0) := rfl
theorem q11_11 : z_fi (z_mi 11) 11 = some (11, .iconst 1, 0, 0, 0, 1, 0) := rfl
theorem q11_12 : z_fi (z_mi 11) 12 = some (12, .goto 4, 0, 16, 0, 0, 0) := rfl
theorem q11_15 : z_fi (z_mi 11) 15 = some (15, .iconst 0, 0, 0, 0, 0, 0) := rfl
theorem q11_16 : z_fi (z_mi 11) 16 = some (16, .ireturn, 0, 0, 0, 0, 0) := rfl
set_option maxRecDepth 20000 in
set_option maxHeartbeats 4000000 in
theorem t_G_isOpen_1 {xL : Nat} {xs : Nat → Int32} {ρ : Nat → Nat → Option Nat} (hρ : z_hR ρ) (d : Nat) (a1 : Int32) (σ : zS) : ∀ q, f_G_isOpen_1 a1 σ = some q → z_ec xL xs ρ (d + 0) 11 [.ref 1, .int a1] σ (em_pi σ q) := by
  refine j_of (W := [.ref 1, .int a1]) (fun L hL => ?_) ?_
  · subst hL; exact z_vl_0 _ 0 rfl
  · unfold f_G_isOpen_1
    refine j_aload_n (pc' := 1) q11_0 rfl (by decide) rfl ?_
    refine j_getf (k := 1) (pc' := 4) q11_1 rfl rfl ?_
    refine j_iload_n (pc' := 5) q11_4 rfl rfl ?_
    refine j_iushr (pc' := 6) q11_5 rfl ?_
    refine j_iconst (pc' := 7) q11_6 rfl ?_
    refine j_iand (pc' := 8) q11_7 rfl ?_
    refine j_if_ne (pc' := 11) q11_8 rfl (fun c1 => ?_) (fun c1 => ?_)
    · refine j_iconst (pc' := 12) q11_11 rfl ?_
      refine j_goto q11_12 rfl ?_
      exact j_pzret q11_16 rfl (Or.inr rfl)
    · refine j_iconst (pc' := 16) q11_15 rfl ?_
      exact j_pzret q11_16 rfl (Or.inl rfl)
theorem q107_0 : z_fi (z_mi 107) 0 = some (0, .aload_n 0, 0, 0, 0, 0, 0) := rfl
theorem q107_1 : z_fi (z_mi 107) 1 = some (1, .getfield 10, 0, 9, 0, 0, 0) := rfl
theorem q107_4 : z_fi (z_mi 107) 4 = some (4, .iload_n 1, 0, 0, 0, 0, 0) := rfl
theorem q107_5 : z_fi (z_mi 107) 5 = some (5, .invokevirtual 130, 0, 10, 1, 0, 0) := rfl
theorem q107_8 : z_fi (z_mi 107) 8 = some (8, .ifCond .ne 5, 0, 13, 0, 0, 0) := rfl
theorem q107_11 : z_fi (z_mi 107) 11 = some (11, .iconst (-1), 0, 0, 0, (-1), 0) := rfl
theorem q107_12 : z_fi (z_mi 107) 12 = some (12, .ireturn, 0, 0, 0, 0, 0) := rfl
theorem q107_13 : z_fi (z_mi 107) 13 = some (13, .aload_n 0, 0, 0, 0, 0, 0) := rfl
theorem q107_14 : z_fi (z_mi 107) 14 = some (14, .getfield 10, 0, 9, 0, 0, 0) := rfl
theorem q107_17 : z_fi (z_mi 107) 17 = some (17, .iload_n 1, 0, 0, 0, 0, 0) := rfl
theorem q107_18 : z_fi (z_mi 107) 18 = some (18, .invokevirtual 133, 0, 11, 1, 0, 0) := rfl
theorem q107_21 : z_fi (z_mi 107) 21 = some (21, .ifCond .eq 7, 0, 28, 0, 0, 0) := rfl
theorem q107_24 : z_fi (z_mi 107) 24 = some (24, .iconst 0, 0, 0, 0, 0, 0) := rfl
theorem q107_25 : z_fi (z_mi 107) 25 = some (25, .goto 4, 0, 29, 0, 0, 0) := rfl
theorem q107_28 : z_fi (z_mi 107) 28 = some (28, .iconst 1, 0, 0, 0, 1, 0) := rfl
theorem q107_29 : z_fi (z_mi 107) 29 = some (29, .ireturn, 0, 0, 0, 0, 0) := rfl
set_option maxRecDepth 20000 in
set_option maxHeartbeats 4000000 in
theorem t_Y_edge {xL : Nat} {xs : Nat → Int32} {ρ : Nat → Nat → Option Nat} (hρ : z_hR ρ) (d : Nat) (a1 : Int32) (σ : zS) : ∀ q, f_Y_edge a1 σ = some q → z_ec xL xs ρ (d + 3) 107 [.ref 0, .int a1] σ (em_pi σ q) := by
  refine j_of (W := [.ref 0, .int a1]) (fun L hL => ?_) ?_
  · subst hL; exact z_vl_0 _ 0 rfl
  · unfold f_Y_edge
    refine j_aload_n (pc' := 1) q107_0 rfl (by decide) rfl ?_
    refine j_getr (k := 0) (q := 1) (pc' := 4) q107_1 rfl (hρ 0 0 1 rfl) rfl ?_
    refine j_iload_n (pc' := 5) q107_4 rfl rfl ?_
    refine j_callV1_pi (d := d + 2) (pc' := 8) q107_5 rfl (Nat.le_of_ble_eq_true rfl) (Nat.le_of_ble_eq_true rfl) rfl (t_G_hasEdge_1 hρ (d + 0) _ _) (fun r1 => ?_)
    refine j_if_ne (pc' := 11) q107_8 rfl (fun c2 => ?_) (fun c2 => ?_)
    · refine j_iconst (pc' := 12) q107_11 rfl ?_
      exact j_piret q107_12 rfl
    · refine j_aload_n (pc' := 14) q107_13 rfl (by decide) rfl ?_
      refine j_getr (k := 0) (q := 1) (pc' := 17) q107_14 rfl (hρ 0 0 1 rfl) rfl ?_
      refine j_iload_n (pc' := 18) q107_17 rfl rfl ?_
      refine j_callV1_pi (d := d + 2) (pc' := 21) q107_18 rfl (Nat.le_of_ble_eq_true rfl) (Nat.le_of_ble_eq_true rfl) rfl (t_G_isOpen_1 hρ (d + 2) _ _) (fun r3 => ?_)
      refine j_if_eq (pc' := 24) q107_21 rfl (fun c4 => ?_) (fun c4 => ?_)
      · refine j_iconst (pc' := 29) q107_28 rfl ?_
        exact j_piret q107_29 rfl
      · refine j_iconst (pc' := 25) q107_24 rfl ?_
        refine j_goto q107_25 rfl ?_
        exact j_piret q107_29 rfl
theorem q165_0 : z_fi (z_mi 165) 0 = some (0, .iload_n 1, 0, 0, 0, 0, 0) := rfl
theorem q165_1 : z_fi (z_mi 165) 1 = some (1, .aload_n 0, 0, 0, 0, 0, 0) := rfl
theorem q165_2 : z_fi (z_mi 165) 2 = some (2, .getfield 13, 0, 10, 1, 0, 0) := rfl
theorem q165_5 : z_fi (z_mi 165) 5 = some (5, .aload_n 0, 0, 0, 0, 0, 0) := rfl
theorem q165_6 : z_fi (z_mi 165) 6 = some (6, .getfield 17, 0, 10, 2, 0, 0) := rfl
theorem q165_9 : z_fi (z_mi 165) 9 = some (9, .invokestatic 146, 1, 161, 3, 0, 0) := rfl
theorem q165_12 : z_fi (z_mi 165) 12 = some (12, .ireturn, 0, 0, 0, 0, 0) := rfl
set_option maxRecDepth 20000 in
set_option maxHeartbeats 4000000 in
theorem t_M_isEdge {xL : Nat} {xs : Nat → Int32} {ρ : Nat → Nat → Option Nat} (hρ : z_hR ρ) (d : Nat) (a1 : Int32) (σ : zS) : ∀ q, f_M_isEdge a1 σ = some q → z_ec xL xs ρ (d + 1) 165 [.ref 90, .int a1] σ (em_pi σ q) := by
  refine j_of (W := [.ref 90, .int a1]) (fun L hL => ?_) ?_
  · subst hL; exact z_vl_0 _ 0 rfl
  · unfold f_M_isEdge
    refine j_iload_n (pc' := 1) q165_0 rfl rfl ?_
    refine j_aload_n (pc' := 2) q165_1 rfl (by decide) rfl ?_
    refine j_getf (k := 90) (pc' := 5) q165_2 rfl rfl ?_
    refine j_aload_n (pc' := 6) q165_5 rfl (by decide) rfl ?_
    refine j_getf (k := 90) (pc' := 9) q165_6 rfl rfl ?_
    refine j_callS3_pi (d := d + 0) (pc' := 12) q165_9 (Or.inl rfl) (Nat.le_of_ble_eq_true rfl) (Nat.le_of_ble_eq_true rfl) rfl (t_M_isEdgeOf hρ (d + 0) _ _ _ _) (fun r1 => ?_)
    refine j_if (fun hb2 => ?_) (fun _ => j_none)
    exact j_pzret q165_12 rfl hb2
theorem q173_0 : z_fi (z_mi 173) 0 = some (0, .aload_n 0, 0, 0, 0, 0, 0) := rfl
theorem q173_1 : z_fi (z_mi 173) 1 = some (1, .iload_n 1, 0, 0, 0, 0, 0) := rfl
theorem q173_2 : z_fi (z_mi 173) 2 = some (2, .invokevirtual 174, 0, 165, 1, 0, 0) := rfl
theorem q173_5 : z_fi (z_mi 173) 5 = some (5, .ifCond .eq 17, 0, 22, 0, 0, 0) := rfl
theorem q173_8 : z_fi (z_mi 173) 8 = some (8, .aload_n 0, 0, 0, 0, 0, 0) := rfl
theorem q173_9 : z_fi (z_mi 173) 9 = some (9, .getfield 7, 0, 10, 0, 0, 0) := rfl
theorem q173_12 : z_fi (z_mi 173) 12 = some (12, .bipush 80, 0, 0, 0, 80, 0) := rfl
theorem q173_14 : z_fi (z_mi 173) 14 = some (14, .iaload, 0, 0, 0, 0, 0) := rfl
theorem q173_15 : z_fi (z_mi 173) 15 = some (15, .iload_n 1, 0, 0, 0, 0, 0) := rfl
theorem q173_16 : z_fi (z_mi 173) 16 = some (16, .ishr, 0, 0, 0, 0, 0) := rfl
theorem q173_17 : z_fi (z_mi 173) 17 = some (17, .iconst 1, 0, 0, 0, 1, 0) := rfl
theorem q173_18 : z_fi (z_mi 173) 18 = some (18, .iand, 0, 0, 0, 0, 0) := rfl
theorem q173_19 : z_fi (z_mi 173) 19 = some (19, .goto 4, 0, 23, 0, 0, 0) := rfl
theorem q173_22 : z_fi (z_mi 173) 22 = some (22, .iconst (-1), 0, 0, 0, (-1), 0) := rfl
theorem q173_23 : z_fi (z_mi 173) 23 = some (23, .ireturn, 0, 0, 0, 0, 0) := rfl
set_option maxRecDepth 20000 in
set_option maxHeartbeats 4000000 in
theorem t_M_edge {xL : Nat} {xs : Nat → Int32} {ρ : Nat → Nat → Option Nat} (hρ : z_hR ρ) (d : Nat) (a1 : Int32) (σ : zS) : ∀ q, f_M_edge a1 σ = some q → z_ec xL xs ρ (d + 2) 173 [.ref 90, .int a1] σ (em_pi σ q) := by
  refine j_of (W := [.ref 90, .int a1]) (fun L hL => ?_) ?_
  · subst hL; exact z_vl_0 _ 0 rfl
  · unfold f_M_edge
    refine j_aload_n (pc' := 1) q173_0 rfl (by decide) rfl ?_
    refine j_iload_n (pc' := 2) q173_1 rfl rfl ?_
    refine j_callV1_pi (d := d + 1) (pc' := 5) q173_2 rfl (Nat.le_of_ble_eq_true rfl) (Nat.le_of_ble_eq_true rfl) rfl (t_M_isEdge hρ (d + 0) _ _) (fun r1 => ?_)
    refine j_if_eq (pc' := 8) q173_5 rfl (fun c2 => ?_) (fun c2 => ?_)
    · refine j_iconst (pc' := 23) q173_22 rfl ?_
      exact j_piret q173_23 rfl
    · refine j_aload_n (pc' := 9) q173_8 rfl (by decide) rfl ?_
      refine j_getr (k := 90) (q := 91) (pc' := 12) q173_9 rfl (hρ 90 0 91 rfl) rfl ?_
      refine j_bipush (pc' := 14) q173_12 rfl ?_
      refine j_iald (k := 91) (N := 550) (pc' := 15) q173_14 rfl (by decide) rfl ?_
      refine j_iload_n (pc' := 16) q173_15 rfl rfl ?_
      refine j_ishr (pc' := 17) q173_16 rfl ?_
      refine j_iconst (pc' := 18) q173_17 rfl ?_
      refine j_iand (pc' := 19) q173_18 rfl ?_
      refine j_goto q173_19 rfl ?_
      exact j_piret q173_23 rfl
theorem q108_0 : z_fi (z_mi 108) 0 = some (0, .iload_n 1, 0, 0, 0, 0, 0) := rfl
theorem q108_1 : z_fi (z_mi 108) 1 = some (1, .invokestatic 136, 1, 100, 1, 0, 0) := rfl
theorem q108_4 : z_fi (z_mi 108) 4 = some (4, .ifCond .eq 12, 0, 16, 0, 0, 0) := rfl
theorem q108_7 : z_fi (z_mi 108) 7 = some (7, .iload_n 2, 0, 0, 0, 0, 0) := rfl
theorem q108_8 : z_fi (z_mi 108) 8 = some (8, .iconst 0, 0, 0, 0, 0, 0) := rfl
theorem q108_9 : z_fi (z_mi 108) 9 = some (9, .iconst 1, 0, 0, 0, 1, 0) := rfl
theorem q108_10 : z_fi (z_mi 108) 10 = some (10, .invokestatic 60, 1, 99, 3, 0, 0) := rfl
theorem q108_13 : z_fi (z_mi 108) 13 = some (13, .ifCond .ne 5, 0, 18, 0, 0, 0) := rfl
theorem q108_16 : z_fi (z_mi 108) 16 = some (16, .iconst (-1), 0, 0, 0, (-1), 0) := rfl
theorem q108_17 : z_fi (z_mi 108) 17 = some (17, .ireturn, 0, 0, 0, 0, 0) := rfl
theorem q108_18 : z_fi (z_mi 108) 18 = some (18, .iload_n 2, 0, 0, 0, 0, 0) := rfl
theorem q108_19 : z_fi (z_mi 108) 19 = some (19, .ifCond .ne 18, 0, 37, 0, 0, 0) := rfl
theorem q108_22 : z_fi (z_mi 108) 22 = some (22, .aload_n 0, 0, 0, 0, 0, 0) := rfl
theorem q108_23 : z_fi (z_mi 108) 23 = some (23, .getfield 10, 0, 9, 0, 0, 0) := rfl
theorem q108_26 : z_fi (z_mi 108) 26 = some (26, .getfield 111, 0, 0, 9, 0, 0) := rfl
theorem q108_29 : z_fi (z_mi 108) 29 = some (29, .getfield 139, 0, 4, 0, 0, 0) := rfl
theorem q108_32 : z_fi (z_mi 108) 32 = some (32, .iload_n 1, 0, 0, 0, 0, 0) := rfl
theorem q108_33 : z_fi (z_mi 108) 33 = some (33, .iaload, 0, 0, 0, 0, 0) := rfl
theorem q108_34 : z_fi (z_mi 108) 34 = some (34, .goto 15, 0, 49, 0, 0, 0) := rfl
theorem q108_37 : z_fi (z_mi 108) 37 = some (37, .aload_n 0, 0, 0, 0, 0, 0) := rfl
theorem q108_38 : z_fi (z_mi 108) 38 = some (38, .getfield 10, 0, 9, 0, 0, 0) := rfl
theorem q108_41 : z_fi (z_mi 108) 41 = some (41, .getfield 111, 0, 0, 9, 0, 0) := rfl
theorem q108_44 : z_fi (z_mi 108) 44 = some (44, .getfield 143, 0, 4, 1, 0, 0) := rfl
theorem q108_47 : z_fi (z_mi 108) 47 = some (47, .iload_n 1, 0, 0, 0, 0, 0) := rfl
theorem q108_48 : z_fi (z_mi 108) 48 = some (48, .iaload, 0, 0, 0, 0, 0) := rfl
theorem q108_49 : z_fi (z_mi 108) 49 = some (49, .ireturn, 0, 0, 0, 0, 0) := rfl
set_option maxRecDepth 20000 in
set_option maxHeartbeats 4000000 in
theorem t_Y_stock {xL : Nat} {xs : Nat → Int32} {ρ : Nat → Nat → Option Nat} (hρ : z_hR ρ) (d : Nat) (a1 : Int32) (a2 : Int32) (σ : zS) : ∀ q, f_Y_stock a1 a2 σ = some q → z_ec xL xs ρ (d + 2) 108 [.ref 0, .int a1, .int a2] σ (em_pi σ q) := by
  refine j_of (W := [.ref 0, .int a1, .int a2]) (fun L hL => ?_) ?_
  · subst hL; exact z_vl_0 _ 0 rfl
  · unfold f_Y_stock
    refine j_iload_n (pc' := 1) q108_0 rfl rfl ?_
    refine j_callS1_pi (d := d + 1) (pc' := 4) q108_1 (Or.inl rfl) (Nat.le_of_ble_eq_true rfl) (Nat.le_of_ble_eq_true rfl) rfl (t_Y_isSeason hρ (d + 0) _ _) (fun r1 => ?_)
    refine j_if_eq (pc' := 7) q108_4 rfl (fun c2 => ?_) (fun c2 => ?_)
    · refine j_iconst (pc' := 17) q108_16 rfl ?_
      exact j_piret q108_17 rfl
    · refine j_iload_n (pc' := 8) q108_7 rfl rfl ?_
      refine j_iconst (pc' := 9) q108_8 rfl ?_
      refine j_iconst (pc' := 10) q108_9 rfl ?_
      refine j_callS3_pi (d := d + 1) (pc' := 13) q108_10 (Or.inl rfl) (Nat.le_of_ble_eq_true rfl) (Nat.le_of_ble_eq_true rfl) rfl (t_Y_isIn hρ (d + 1) _ _ _ _) (fun r3 => ?_)
      refine j_if_ne (pc' := 16) q108_13 rfl (fun c4 => ?_) (fun c4 => ?_)
      · refine j_iconst (pc' := 17) q108_16 rfl ?_
        exact j_piret q108_17 rfl
      · refine j_iload_n (pc' := 19) q108_18 rfl rfl ?_
        refine j_if_ne (pc' := 22) q108_19 rfl (fun c5 => ?_) (fun c5 => ?_)
        · refine j_aload_n (pc' := 23) q108_22 rfl (by decide) rfl ?_
          refine j_getr (k := 0) (q := 1) (pc' := 26) q108_23 rfl (hρ 0 0 1 rfl) rfl ?_
          refine j_getr (k := 1) (q := 11) (pc' := 29) q108_26 rfl (hρ 1 9 11 rfl) rfl ?_
          refine j_getr (k := 11) (q := 12) (pc' := 32) q108_29 rfl (hρ 11 0 12 rfl) rfl ?_
          refine j_iload_n (pc' := 33) q108_32 rfl rfl ?_
          refine j_if (fun hi6 => ?_) (fun _ => j_none)
          refine j_iald (k := 12) (N := 4) (pc' := 34) q108_33 rfl hi6 rfl ?_
          refine j_goto q108_34 rfl ?_
          exact j_piret q108_49 rfl
        · refine j_aload_n (pc' := 38) q108_37 rfl (by decide) rfl ?_
          refine j_getr (k := 0) (q := 1) (pc' := 41) q108_38 rfl (hρ 0 0 1 rfl) rfl ?_
          refine j_getr (k := 1) (q := 11) (pc' := 44) q108_41 rfl (hρ 1 9 11 rfl) rfl ?_
          refine j_getr (k := 11) (q := 13) (pc' := 47) q108_44 rfl (hρ 11 1 13 rfl) rfl ?_
          refine j_iload_n (pc' := 48) q108_47 rfl rfl ?_
          refine j_if (fun hi7 => ?_) (fun _ => j_none)
          refine j_iald (k := 13) (N := 4) (pc' := 49) q108_48 rfl hi7 rfl ?_
          exact j_piret q108_49 rfl
theorem q167_0 : z_fi (z_mi 167) 0 = some (0, .iload_n 0, 0, 0, 0, 0, 0) := rfl
theorem q167_1 : z_fi (z_mi 167) 1 = some (1, .i2l, 0, 0, 0, 0, 0) := rfl
theorem q167_2 : z_fi (z_mi 167) 2 = some (2, .lconst 0, 0, 0, 0, 0, 0) := rfl
theorem q167_3 : z_fi (z_mi 167) 3 = some (3, .ldc2_w 135, 0, 0, 0, 0, 3) := rfl
theorem q167_6 : z_fi (z_mi 167) 6 = some (6, .invokestatic 62, 1, 149, 3, 0, 0) := rfl
theorem q167_9 : z_fi (z_mi 167) 9 = some (9, .ireturn, 0, 0, 0, 0, 0) := rfl
set_option maxRecDepth 20000 in
set_option maxHeartbeats 4000000 in
theorem t_M_isSeason {xL : Nat} {xs : Nat → Int32} {ρ : Nat → Nat → Option Nat} (hρ : z_hR ρ) (d : Nat) (a0 : Int32) (σ : zS) : ∀ q, f_M_isSeason a0 σ = some q → z_ec xL xs ρ (d + 1) 167 [.int a0] σ (em_pi σ q) := by
  refine j_of (W := [.int a0]) (fun L hL => ?_) ?_
  · subst hL; exact z_vl_0 _ 0 rfl
  · unfold f_M_isSeason
    refine j_iload_n (pc' := 1) q167_0 rfl rfl ?_
    refine j_i2l (pc' := 2) q167_1 rfl ?_
    refine j_lconst (pc' := 3) q167_2 rfl ?_
    refine j_ldc2 (pc' := 6) q167_3 rfl ?_
    refine j_callS3_pi (d := d + 0) (pc' := 9) q167_6 (Or.inl rfl) (Nat.le_of_ble_eq_true rfl) (Nat.le_of_ble_eq_true rfl) rfl (t_M_in hρ (d + 0) _ _ _ _) (fun r1 => ?_)
    refine j_if (fun hb2 => ?_) (fun _ => j_none)
    exact j_pzret q167_9 rfl hb2
theorem q174_0 : z_fi (z_mi 174) 0 = some (0, .iload_n 1, 0, 0, 0, 0, 0) := rfl
theorem q174_1 : z_fi (z_mi 174) 1 = some (1, .invokestatic 177, 1, 167, 1, 0, 0) := rfl
theorem q174_4 : z_fi (z_mi 174) 4 = some (4, .ifCond .eq 31, 0, 35, 0, 0, 0) := rfl
theorem q174_7 : z_fi (z_mi 174) 7 = some (7, .iload_n 2, 0, 0, 0, 0, 0) := rfl
theorem q174_8 : z_fi (z_mi 174) 8 = some (8, .i2l, 0, 0, 0, 0, 0) := rfl
theorem q174_9 : z_fi (z_mi 174) 9 = some (9, .lconst 0, 0, 0, 0, 0, 0) := rfl
theorem q174_10 : z_fi (z_mi 174) 10 = some (10, .lconst 1, 0, 0, 0, 0, 1) := rfl
theorem q174_11 : z_fi (z_mi 174) 11 = some (11, .invokestatic 62, 1, 149, 3, 0, 0) := rfl
theorem q174_14 : z_fi (z_mi 174) 14 = some (14, .ifCond .eq 21, 0, 35, 0, 0, 0) := rfl
theorem q174_17 : z_fi (z_mi 174) 17 = some (17, .aload_n 0, 0, 0, 0, 0, 0) := rfl
theorem q174_18 : z_fi (z_mi 174) 18 = some (18, .getfield 7, 0, 10, 0, 0, 0) := rfl
theorem q174_21 : z_fi (z_mi 174) 21 = some (21, .bipush 96, 0, 0, 0, 96, 0) := rfl
theorem q174_23 : z_fi (z_mi 174) 23 = some (23, .iconst 2, 0, 0, 0, 2, 0) := rfl
theorem q174_24 : z_fi (z_mi 174) 24 = some (24, .iload_n 1, 0, 0, 0, 0, 0) := rfl
theorem q174_25 : z_fi (z_mi 174) 25 = some (25, .imul, 0, 0, 0, 0, 0) := rfl
theorem q174_26 : z_fi (z_mi 174) 26 = some (26, .iadd, 0, 0, 0, 0, 0) := rfl
theorem q174_27 : z_fi (z_mi 174) 27 = some (27, .iload_n 2, 0, 0, 0, 0, 0) := rfl
theorem q174_28 : z_fi (z_mi 174) 28 = some (28, .iadd, 0, 0, 0, 0, 0) := rfl
theorem q174_29 : z_fi (z_mi 174) 29 = some (29, .iaload, 0, 0, 0, 0, 0) := rfl
theorem q174_30 : z_fi (z_mi 174) 30 = some (30, .iload_n 2, 0, 0, 0, 0, 0) := rfl
theorem q174_31 : z_fi (z_mi 174) 31 = some (31, .iadd, 0, 0, 0, 0, 0) := rfl
theorem q174_32 : z_fi (z_mi 174) 32 = some (32, .goto 4, 0, 36, 0, 0, 0) := rfl
theorem q174_35 : z_fi (z_mi 174) 35 = some (35, .iconst (-1), 0, 0, 0, (-1), 0) := rfl
theorem q174_36 : z_fi (z_mi 174) 36 = some (36, .ireturn, 0, 0, 0, 0, 0) := rfl
set_option maxRecDepth 20000 in
set_option maxHeartbeats 4000000 in
theorem t_M_stock {xL : Nat} {xs : Nat → Int32} {ρ : Nat → Nat → Option Nat} (hρ : z_hR ρ) (d : Nat) (a1 : Int32) (a2 : Int32) (σ : zS) : ∀ q, f_M_stock a1 a2 σ = some q → z_ec xL xs ρ (d + 2) 174 [.ref 90, .int a1, .int a2] σ (em_pi σ q) := by
  refine j_of (W := [.ref 90, .int a1, .int a2]) (fun L hL => ?_) ?_
  · subst hL; exact z_vl_0 _ 0 rfl
  · unfold f_M_stock
    refine j_iload_n (pc' := 1) q174_0 rfl rfl ?_
    refine j_callS1_pi (d := d + 1) (pc' := 4) q174_1 (Or.inl rfl) (Nat.le_of_ble_eq_true rfl) (Nat.le_of_ble_eq_true rfl) rfl (t_M_isSeason hρ (d + 0) _ _) (fun r1 => ?_)
    refine j_if_eq (pc' := 7) q174_4 rfl (fun c2 => ?_) (fun c2 => ?_)
    · refine j_iconst (pc' := 36) q174_35 rfl ?_
      exact j_piret q174_36 rfl
    · refine j_iload_n (pc' := 8) q174_7 rfl rfl ?_
      refine j_i2l (pc' := 9) q174_8 rfl ?_
      refine j_lconst (pc' := 10) q174_9 rfl ?_
      refine j_lconst (pc' := 11) q174_10 rfl ?_
      refine j_callS3_pi (d := d + 1) (pc' := 14) q174_11 (Or.inl rfl) (Nat.le_of_ble_eq_true rfl) (Nat.le_of_ble_eq_true rfl) rfl (t_M_in hρ (d + 1) _ _ _ _) (fun r3 => ?_)
      refine j_if_eq (pc' := 17) q174_14 rfl (fun c4 => ?_) (fun c4 => ?_)
      · refine j_iconst (pc' := 36) q174_35 rfl ?_
        exact j_piret q174_36 rfl
      · refine j_aload_n (pc' := 18) q174_17 rfl (by decide) rfl ?_
        refine j_getr (k := 90) (q := 91) (pc' := 21) q174_18 rfl (hρ 90 0 91 rfl) rfl ?_
        refine j_bipush (pc' := 23) q174_21 rfl ?_
        refine j_iconst (pc' := 24) q174_23 rfl ?_
        refine j_iload_n (pc' := 25) q174_24 rfl rfl ?_
        refine j_imul (pc' := 26) q174_25 rfl ?_
        refine j_iadd (pc' := 27) q174_26 rfl ?_
        refine j_iload_n (pc' := 28) q174_27 rfl rfl ?_
        refine j_iadd (pc' := 29) q174_28 rfl ?_
        refine j_if (fun hi5 => ?_) (fun _ => j_none)
        refine j_iald (k := 91) (N := 550) (pc' := 30) q174_29 rfl hi5 rfl ?_
        refine j_iload_n (pc' := 31) q174_30 rfl rfl ?_
        refine j_iadd (pc' := 32) q174_31 rfl ?_
        refine j_goto q174_32 rfl ?_
        exact j_piret q174_36 rfl
theorem q35_0 : z_fi (z_mi 35) 0 = some (0, .iload_n 1, 0, 0, 0, 0, 0) := rfl
theorem q35_1 : z_fi (z_mi 35) 1 = some (1, .ifCond .lt 20, 0, 21, 0, 0, 0) := rfl
theorem q35_4 : z_fi (z_mi 35) 4 = some (4, .iload_n 1, 0, 0, 0, 0, 0) := rfl
theorem q35_5 : z_fi (z_mi 35) 5 = some (5, .aload_n 0, 0, 0, 0, 0, 0) := rfl
theorem q35_6 : z_fi (z_mi 35) 6 = some (6, .getfield 21, 0, 1, 3, 0, 0) := rfl
theorem q35_9 : z_fi (z_mi 35) 9 = some (9, .if_icmp .ge 12, 0, 21, 0, 0, 0) := rfl
theorem q35_12 : z_fi (z_mi 35) 12 = some (12, .iload_n 1, 0, 0, 0, 0, 0) := rfl
theorem q35_13 : z_fi (z_mi 35) 13 = some (13, .iconst 5, 0, 0, 0, 5, 0) := rfl
theorem q35_14 : z_fi (z_mi 35) 14 = some (14, .if_icmp .ge 7, 0, 21, 0, 0, 0) := rfl
theorem q35_17 : z_fi (z_mi 35) 17 = some (17, .iconst 1, 0, 0, 0, 1, 0) := rfl
theorem q35_18 : z_fi (z_mi 35) 18 = some (18, .goto 4, 0, 22, 0, 0, 0) := rfl
theorem q35_21 : z_fi (z_mi 35) 21 = some (21, .iconst 0, 0, 0, 0, 0, 0) := rfl
theorem q35_22 : z_fi (z_mi 35) 22 = some (22, .ireturn, 0, 0, 0, 0, 0) := rfl
set_option maxRecDepth 20000 in
set_option maxHeartbeats 4000000 in
theorem t_Lw_has_7 {xL : Nat} {xs : Nat → Int32} {ρ : Nat → Nat → Option Nat} (hρ : z_hR ρ) (d : Nat) (a1 : Int32) (σ : zS) : ∀ q, f_Lw_has_7 a1 σ = some q → z_ec xL xs ρ (d + 0) 35 [.ref 7, .int a1] σ (em_pi σ q) := by
  refine j_of (W := [.ref 7, .int a1]) (fun L hL => ?_) ?_
  · subst hL; exact z_vl_0 _ 0 rfl
  · unfold f_Lw_has_7
    refine j_iload_n (pc' := 1) q35_0 rfl rfl ?_
    refine j_if_lt (pc' := 4) q35_1 rfl (fun c1 => ?_) (fun c1 => ?_)
    · refine j_iconst (pc' := 22) q35_21 rfl ?_
      exact j_pzret q35_22 rfl (Or.inl rfl)
    · refine j_iload_n (pc' := 5) q35_4 rfl rfl ?_
      refine j_aload_n (pc' := 6) q35_5 rfl (by decide) rfl ?_
      refine j_getf (k := 7) (pc' := 9) q35_6 rfl rfl ?_
      refine j_icmp_ge (pc' := 12) q35_9 rfl (fun c2 => ?_) (fun c2 => ?_)
      · refine j_iconst (pc' := 22) q35_21 rfl ?_
        exact j_pzret q35_22 rfl (Or.inl rfl)
      · refine j_iload_n (pc' := 13) q35_12 rfl rfl ?_
        refine j_iconst (pc' := 14) q35_13 rfl ?_
        refine j_icmp_ge (pc' := 17) q35_14 rfl (fun c3 => ?_) (fun c3 => ?_)
        · refine j_iconst (pc' := 22) q35_21 rfl ?_
          exact j_pzret q35_22 rfl (Or.inl rfl)
        · refine j_iconst (pc' := 18) q35_17 rfl ?_
          refine j_goto q35_18 rfl ?_
          exact j_pzret q35_22 rfl (Or.inr rfl)
theorem q109_0 : z_fi (z_mi 109) 0 = some (0, .aload_n 0, 0, 0, 0, 0, 0) := rfl
theorem q109_1 : z_fi (z_mi 109) 1 = some (1, .getfield 10, 0, 9, 0, 0, 0) := rfl
theorem q109_4 : z_fi (z_mi 109) 4 = some (4, .getfield 104, 0, 0, 8, 0, 0) := rfl
theorem q109_7 : z_fi (z_mi 109) 7 = some (7, .iload_n 1, 0, 0, 0, 0, 0) := rfl
theorem q109_8 : z_fi (z_mi 109) 8 = some (8, .invokevirtual 146, 0, 35, 1, 0, 0) := rfl
theorem q109_11 : z_fi (z_mi 109) 11 = some (11, .ifCond .ne 5, 0, 16, 0, 0, 0) := rfl
theorem q109_14 : z_fi (z_mi 109) 14 = some (14, .iconst (-1), 0, 0, 0, (-1), 0) := rfl
theorem q109_15 : z_fi (z_mi 109) 15 = some (15, .ireturn, 0, 0, 0, 0, 0) := rfl
theorem q109_16 : z_fi (z_mi 109) 16 = some (16, .iload_n 2, 0, 0, 0, 0, 0) := rfl
theorem q109_17 : z_fi (z_mi 109) 17 = some (17, .tableswitch 66 0 2 #[27, 40, 53], 27, 0, 0, 0, 0) := rfl
theorem q109_44 : z_fi (z_mi 109) 44 = some (44, .aload_n 0, 0, 0, 0, 0, 0) := rfl
theorem q109_45 : z_fi (z_mi 109) 45 = some (45, .getfield 10, 0, 9, 0, 0, 0) := rfl
theorem q109_48 : z_fi (z_mi 109) 48 = some (48, .getfield 104, 0, 0, 8, 0, 0) := rfl
theorem q109_51 : z_fi (z_mi 109) 51 = some (51, .getfield 149, 0, 1, 0, 0, 0) := rfl
theorem q109_54 : z_fi (z_mi 109) 54 = some (54, .iload_n 1, 0, 0, 0, 0, 0) := rfl
theorem q109_55 : z_fi (z_mi 109) 55 = some (55, .iaload, 0, 0, 0, 0, 0) := rfl
theorem q109_56 : z_fi (z_mi 109) 56 = some (56, .ireturn, 0, 0, 0, 0, 0) := rfl
theorem q109_57 : z_fi (z_mi 109) 57 = some (57, .aload_n 0, 0, 0, 0, 0, 0) := rfl
theorem q109_58 : z_fi (z_mi 109) 58 = some (58, .getfield 10, 0, 9, 0, 0, 0) := rfl
theorem q109_61 : z_fi (z_mi 109) 61 = some (61, .getfield 104, 0, 0, 8, 0, 0) := rfl
theorem q109_64 : z_fi (z_mi 109) 64 = some (64, .getfield 152, 0, 1, 1, 0, 0) := rfl
theorem q109_67 : z_fi (z_mi 109) 67 = some (67, .iload_n 1, 0, 0, 0, 0, 0) := rfl
theorem q109_68 : z_fi (z_mi 109) 68 = some (68, .iaload, 0, 0, 0, 0, 0) := rfl
theorem q109_69 : z_fi (z_mi 109) 69 = some (69, .ireturn, 0, 0, 0, 0, 0) := rfl
theorem q109_70 : z_fi (z_mi 109) 70 = some (70, .aload_n 0, 0, 0, 0, 0, 0) := rfl
theorem q109_71 : z_fi (z_mi 109) 71 = some (71, .getfield 10, 0, 9, 0, 0, 0) := rfl
theorem q109_74 : z_fi (z_mi 109) 74 = some (74, .getfield 104, 0, 0, 8, 0, 0) := rfl
theorem q109_77 : z_fi (z_mi 109) 77 = some (77, .getfield 155, 0, 1, 2, 0, 0) := rfl
theorem q109_80 : z_fi (z_mi 109) 80 = some (80, .iload_n 1, 0, 0, 0, 0, 0) := rfl
theorem q109_81 : z_fi (z_mi 109) 81 = some (81, .iaload, 0, 0, 0, 0, 0) := rfl
theorem q109_82 : z_fi (z_mi 109) 82 = some (82, .ireturn, 0, 0, 0, 0, 0) := rfl
theorem q109_83 : z_fi (z_mi 109) 83 = some (83, .iconst (-1), 0, 0, 0, (-1), 0) := rfl
theorem q109_84 : z_fi (z_mi 109) 84 = some (84, .ireturn, 0, 0, 0, 0, 0) := rfl
set_option maxRecDepth 20000 in
set_option maxHeartbeats 4000000 in
theorem t_Y_law {xL : Nat} {xs : Nat → Int32} {ρ : Nat → Nat → Option Nat} (hρ : z_hR ρ) (d : Nat) (a1 : Int32) (a2 : Int32) (σ : zS) : ∀ q, f_Y_law a1 a2 σ = some q → z_ec xL xs ρ (d + 1) 109 [.ref 0, .int a1, .int a2] σ (em_pi σ q) := by
  refine j_of (W := [.ref 0, .int a1, .int a2]) (fun L hL => ?_) ?_
  · subst hL; exact z_vl_0 _ 0 rfl
  · unfold f_Y_law
    refine j_aload_n (pc' := 1) q109_0 rfl (by decide) rfl ?_
    refine j_getr (k := 0) (q := 1) (pc' := 4) q109_1 rfl (hρ 0 0 1 rfl) rfl ?_
    refine j_getr (k := 1) (q := 7) (pc' := 7) q109_4 rfl (hρ 1 8 7 rfl) rfl ?_
    refine j_iload_n (pc' := 8) q109_7 rfl rfl ?_
    refine j_callV1_pi (d := d + 0) (pc' := 11) q109_8 rfl (Nat.le_of_ble_eq_true rfl) (Nat.le_of_ble_eq_true rfl) rfl (t_Lw_has_7 hρ (d + 0) _ _) (fun r1 => ?_)
    refine j_if_ne (pc' := 14) q109_11 rfl (fun c2 => ?_) (fun c2 => ?_)
    · refine j_iconst (pc' := 15) q109_14 rfl ?_
      exact j_piret q109_15 rfl
    · refine j_iload_n (pc' := 17) q109_16 rfl rfl ?_
      refine j_if (fun c3 => ?_) (fun c3 => ?_)
      · refine j_tin (pc' := 44) (j := 0) (off := 27) q109_17 c3 (Nat.le_of_ble_eq_true rfl) (by decide) rfl (by decide) ?_
        refine j_aload_n (pc' := 45) q109_44 rfl (by decide) rfl ?_
        refine j_getr (k := 0) (q := 1) (pc' := 48) q109_45 rfl (hρ 0 0 1 rfl) rfl ?_
        refine j_getr (k := 1) (q := 7) (pc' := 51) q109_48 rfl (hρ 1 8 7 rfl) rfl ?_
        refine j_getr (k := 7) (q := 8) (pc' := 54) q109_51 rfl (hρ 7 0 8 rfl) rfl ?_
        refine j_iload_n (pc' := 55) q109_54 rfl rfl ?_
        refine j_if (fun hi4 => ?_) (fun _ => j_none)
        refine j_iald (k := 8) (N := 5) (pc' := 56) q109_55 rfl hi4 rfl ?_
        exact j_piret q109_56 rfl
      refine j_if (fun c5 => ?_) (fun c5 => ?_)
      · refine j_tin (pc' := 57) (j := 1) (off := 40) q109_17 c5 (Nat.le_of_ble_eq_true rfl) (by decide) rfl (by decide) ?_
        refine j_aload_n (pc' := 58) q109_57 rfl (by decide) rfl ?_
        refine j_getr (k := 0) (q := 1) (pc' := 61) q109_58 rfl (hρ 0 0 1 rfl) rfl ?_
        refine j_getr (k := 1) (q := 7) (pc' := 64) q109_61 rfl (hρ 1 8 7 rfl) rfl ?_
        refine j_getr (k := 7) (q := 9) (pc' := 67) q109_64 rfl (hρ 7 1 9 rfl) rfl ?_
        refine j_iload_n (pc' := 68) q109_67 rfl rfl ?_
        refine j_if (fun hi6 => ?_) (fun _ => j_none)
        refine j_iald (k := 9) (N := 5) (pc' := 69) q109_68 rfl hi6 rfl ?_
        exact j_piret q109_69 rfl
      refine j_if (fun c7 => ?_) (fun c7 => ?_)
      · refine j_tin (pc' := 70) (j := 2) (off := 53) q109_17 c7 (Nat.le_of_ble_eq_true rfl) (by decide) rfl (by decide) ?_
        refine j_aload_n (pc' := 71) q109_70 rfl (by decide) rfl ?_
        refine j_getr (k := 0) (q := 1) (pc' := 74) q109_71 rfl (hρ 0 0 1 rfl) rfl ?_
        refine j_getr (k := 1) (q := 7) (pc' := 77) q109_74 rfl (hρ 1 8 7 rfl) rfl ?_
        refine j_getr (k := 7) (q := 10) (pc' := 80) q109_77 rfl (hρ 7 2 10 rfl) rfl ?_
        refine j_iload_n (pc' := 81) q109_80 rfl rfl ?_
        refine j_if (fun hi8 => ?_) (fun _ => j_none)
        refine j_iald (k := 10) (N := 5) (pc' := 82) q109_81 rfl hi8 rfl ?_
        exact j_piret q109_82 rfl
      refine j_tdef (pc' := 83) 3 q109_17 rfl (by decide) (z_noS (z_noS (z_noS (z_no0) c3) c5) c7) (by decide) ?_
      refine j_iconst (pc' := 84) q109_83 rfl ?_
      exact j_piret q109_84 rfl
theorem q166_0 : z_fi (z_mi 166) 0 = some (0, .iload_n 1, 0, 0, 0, 0, 0) := rfl
theorem q166_1 : z_fi (z_mi 166) 1 = some (1, .i2l, 0, 0, 0, 0, 0) := rfl
theorem q166_2 : z_fi (z_mi 166) 2 = some (2, .lconst 0, 0, 0, 0, 0, 0) := rfl
theorem q166_3 : z_fi (z_mi 166) 3 = some (3, .aload_n 0, 0, 0, 0, 0, 0) := rfl
theorem q166_4 : z_fi (z_mi 166) 4 = some (4, .getfield 153, 0, 10, 3, 0, 0) := rfl
theorem q166_7 : z_fi (z_mi 166) 7 = some (7, .iconst 1, 0, 0, 0, 1, 0) := rfl
theorem q166_8 : z_fi (z_mi 166) 8 = some (8, .isub, 0, 0, 0, 0, 0) := rfl
theorem q166_9 : z_fi (z_mi 166) 9 = some (9, .i2l, 0, 0, 0, 0, 0) := rfl
theorem q166_10 : z_fi (z_mi 166) 10 = some (10, .invokestatic 62, 1, 149, 3, 0, 0) := rfl
theorem q166_13 : z_fi (z_mi 166) 13 = some (13, .ireturn, 0, 0, 0, 0, 0) := rfl
set_option maxRecDepth 20000 in
set_option maxHeartbeats 4000000 in
theorem t_M_isRule {xL : Nat} {xs : Nat → Int32} {ρ : Nat → Nat → Option Nat} (hρ : z_hR ρ) (d : Nat) (a1 : Int32) (σ : zS) : ∀ q, f_M_isRule a1 σ = some q → z_ec xL xs ρ (d + 1) 166 [.ref 90, .int a1] σ (em_pi σ q) := by
  refine j_of (W := [.ref 90, .int a1]) (fun L hL => ?_) ?_
  · subst hL; exact z_vl_0 _ 0 rfl
  · unfold f_M_isRule
    refine j_iload_n (pc' := 1) q166_0 rfl rfl ?_
    refine j_i2l (pc' := 2) q166_1 rfl ?_
    refine j_lconst (pc' := 3) q166_2 rfl ?_
    refine j_aload_n (pc' := 4) q166_3 rfl (by decide) rfl ?_
    refine j_getf (k := 90) (pc' := 7) q166_4 rfl rfl ?_
    refine j_iconst (pc' := 8) q166_7 rfl ?_
    refine j_isub (pc' := 9) q166_8 rfl ?_
    refine j_i2l (pc' := 10) q166_9 rfl ?_
    refine j_callS3_pi (d := d + 0) (pc' := 13) q166_10 (Or.inl rfl) (Nat.le_of_ble_eq_true rfl) (Nat.le_of_ble_eq_true rfl) rfl (t_M_in hρ (d + 0) _ _ _ _) (fun r1 => ?_)
    refine j_if (fun hb2 => ?_) (fun _ => j_none)
    exact j_pzret q166_13 rfl hb2
theorem q175_0 : z_fi (z_mi 175) 0 = some (0, .aload_n 0, 0, 0, 0, 0, 0) := rfl
theorem q175_1 : z_fi (z_mi 175) 1 = some (1, .iload_n 1, 0, 0, 0, 0, 0) := rfl
theorem q175_2 : z_fi (z_mi 175) 2 = some (2, .invokevirtual 180, 0, 166, 1, 0, 0) := rfl
theorem q175_5 : z_fi (z_mi 175) 5 = some (5, .ifCond .eq 31, 0, 36, 0, 0, 0) := rfl
theorem q175_8 : z_fi (z_mi 175) 8 = some (8, .iload_n 2, 0, 0, 0, 0, 0) := rfl
theorem q175_9 : z_fi (z_mi 175) 9 = some (9, .i2l, 0, 0, 0, 0, 0) := rfl
theorem q175_10 : z_fi (z_mi 175) 10 = some (10, .lconst 0, 0, 0, 0, 0, 0) := rfl
theorem q175_11 : z_fi (z_mi 175) 11 = some (11, .ldc2_w 183, 0, 0, 0, 0, 2) := rfl
theorem q175_14 : z_fi (z_mi 175) 14 = some (14, .invokestatic 62, 1, 149, 3, 0, 0) := rfl
theorem q175_17 : z_fi (z_mi 175) 17 = some (17, .ifCond .eq 19, 0, 36, 0, 0, 0) := rfl
theorem q175_20 : z_fi (z_mi 175) 20 = some (20, .aload_n 0, 0, 0, 0, 0, 0) := rfl
theorem q175_21 : z_fi (z_mi 175) 21 = some (21, .getfield 7, 0, 10, 0, 0, 0) := rfl
theorem q175_24 : z_fi (z_mi 175) 24 = some (24, .bipush 81, 0, 0, 0, 81, 0) := rfl
theorem q175_26 : z_fi (z_mi 175) 26 = some (26, .iconst 3, 0, 0, 0, 3, 0) := rfl
theorem q175_27 : z_fi (z_mi 175) 27 = some (27, .iload_n 1, 0, 0, 0, 0, 0) := rfl
theorem q175_28 : z_fi (z_mi 175) 28 = some (28, .imul, 0, 0, 0, 0, 0) := rfl
theorem q175_29 : z_fi (z_mi 175) 29 = some (29, .iadd, 0, 0, 0, 0, 0) := rfl
theorem q175_30 : z_fi (z_mi 175) 30 = some (30, .iload_n 2, 0, 0, 0, 0, 0) := rfl
theorem q175_31 : z_fi (z_mi 175) 31 = some (31, .iadd, 0, 0, 0, 0, 0) := rfl
theorem q175_32 : z_fi (z_mi 175) 32 = some (32, .iaload, 0, 0, 0, 0, 0) := rfl
theorem q175_33 : z_fi (z_mi 175) 33 = some (33, .goto 4, 0, 37, 0, 0, 0) := rfl
theorem q175_36 : z_fi (z_mi 175) 36 = some (36, .iconst (-1), 0, 0, 0, (-1), 0) := rfl
theorem q175_37 : z_fi (z_mi 175) 37 = some (37, .ireturn, 0, 0, 0, 0, 0) := rfl
set_option maxRecDepth 20000 in
set_option maxHeartbeats 4000000 in
theorem t_M_law {xL : Nat} {xs : Nat → Int32} {ρ : Nat → Nat → Option Nat} (hρ : z_hR ρ) (d : Nat) (a1 : Int32) (a2 : Int32) (σ : zS) : ∀ q, f_M_law a1 a2 σ = some q → z_ec xL xs ρ (d + 2) 175 [.ref 90, .int a1, .int a2] σ (em_pi σ q) := by
  refine j_of (W := [.ref 90, .int a1, .int a2]) (fun L hL => ?_) ?_
  · subst hL; exact z_vl_0 _ 0 rfl
  · unfold f_M_law
    refine j_aload_n (pc' := 1) q175_0 rfl (by decide) rfl ?_
    refine j_iload_n (pc' := 2) q175_1 rfl rfl ?_
    refine j_callV1_pi (d := d + 1) (pc' := 5) q175_2 rfl (Nat.le_of_ble_eq_true rfl) (Nat.le_of_ble_eq_true rfl) rfl (t_M_isRule hρ (d + 0) _ _) (fun r1 => ?_)
    refine j_if_eq (pc' := 8) q175_5 rfl (fun c2 => ?_) (fun c2 => ?_)
    · refine j_iconst (pc' := 37) q175_36 rfl ?_
      exact j_piret q175_37 rfl
    · refine j_iload_n (pc' := 9) q175_8 rfl rfl ?_
      refine j_i2l (pc' := 10) q175_9 rfl ?_
      refine j_lconst (pc' := 11) q175_10 rfl ?_
      refine j_ldc2 (pc' := 14) q175_11 rfl ?_
      refine j_callS3_pi (d := d + 1) (pc' := 17) q175_14 (Or.inl rfl) (Nat.le_of_ble_eq_true rfl) (Nat.le_of_ble_eq_true rfl) rfl (t_M_in hρ (d + 1) _ _ _ _) (fun r3 => ?_)
      refine j_if_eq (pc' := 20) q175_17 rfl (fun c4 => ?_) (fun c4 => ?_)
      · refine j_iconst (pc' := 37) q175_36 rfl ?_
        exact j_piret q175_37 rfl
      · refine j_aload_n (pc' := 21) q175_20 rfl (by decide) rfl ?_
        refine j_getr (k := 90) (q := 91) (pc' := 24) q175_21 rfl (hρ 90 0 91 rfl) rfl ?_
        refine j_bipush (pc' := 26) q175_24 rfl ?_
        refine j_iconst (pc' := 27) q175_26 rfl ?_
        refine j_iload_n (pc' := 28) q175_27 rfl rfl ?_
        refine j_imul (pc' := 29) q175_28 rfl ?_
        refine j_iadd (pc' := 30) q175_29 rfl ?_
        refine j_iload_n (pc' := 31) q175_30 rfl rfl ?_
        refine j_iadd (pc' := 32) q175_31 rfl ?_
        refine j_if (fun hi5 => ?_) (fun _ => j_none)
        refine j_iald (k := 91) (N := 550) (pc' := 33) q175_32 rfl hi5 rfl ?_
        refine j_goto q175_33 rfl ?_
        exact j_piret q175_37 rfl
theorem q110_0 : z_fi (z_mi 110) 0 = some (0, .iload_n 1, 0, 0, 0, 0, 0) := rfl
theorem q110_1 : z_fi (z_mi 110) 1 = some (1, .iconst 0, 0, 0, 0, 0, 0) := rfl
theorem q110_2 : z_fi (z_mi 110) 2 = some (2, .iconst 2, 0, 0, 0, 2, 0) := rfl
theorem q110_3 : z_fi (z_mi 110) 3 = some (3, .invokestatic 60, 1, 99, 3, 0, 0) := rfl
theorem q110_6 : z_fi (z_mi 110) 6 = some (6, .ifCond .eq 15, 0, 21, 0, 0, 0) := rfl
theorem q110_9 : z_fi (z_mi 110) 9 = some (9, .aload_n 0, 0, 0, 0, 0, 0) := rfl
theorem q110_10 : z_fi (z_mi 110) 10 = some (10, .getfield 10, 0, 9, 0, 0, 0) := rfl
theorem q110_13 : z_fi (z_mi 110) 13 = some (13, .getfield 158, 0, 0, 11, 0, 0) := rfl
theorem q110_16 : z_fi (z_mi 110) 16 = some (16, .iload_n 1, 0, 0, 0, 0, 0) := rfl
theorem q110_17 : z_fi (z_mi 110) 17 = some (17, .iaload, 0, 0, 0, 0, 0) := rfl
theorem q110_18 : z_fi (z_mi 110) 18 = some (18, .goto 4, 0, 22, 0, 0, 0) := rfl
theorem q110_21 : z_fi (z_mi 110) 21 = some (21, .iconst (-1), 0, 0, 0, (-1), 0) := rfl
theorem q110_22 : z_fi (z_mi 110) 22 = some (22, .ireturn, 0, 0, 0, 0, 0) := rfl
set_option maxRecDepth 20000 in
set_option maxHeartbeats 4000000 in
theorem t_Y_ripe {xL : Nat} {xs : Nat → Int32} {ρ : Nat → Nat → Option Nat} (hρ : z_hR ρ) (d : Nat) (a1 : Int32) (σ : zS) : ∀ q, f_Y_ripe a1 σ = some q → z_ec xL xs ρ (d + 1) 110 [.ref 0, .int a1] σ (em_pi σ q) := by
  refine j_of (W := [.ref 0, .int a1]) (fun L hL => ?_) ?_
  · subst hL; exact z_vl_0 _ 0 rfl
  · unfold f_Y_ripe
    refine j_iload_n (pc' := 1) q110_0 rfl rfl ?_
    refine j_iconst (pc' := 2) q110_1 rfl ?_
    refine j_iconst (pc' := 3) q110_2 rfl ?_
    refine j_callS3_pi (d := d + 0) (pc' := 6) q110_3 (Or.inl rfl) (Nat.le_of_ble_eq_true rfl) (Nat.le_of_ble_eq_true rfl) rfl (t_Y_isIn hρ (d + 0) _ _ _ _) (fun r1 => ?_)
    refine j_if_eq (pc' := 9) q110_6 rfl (fun c2 => ?_) (fun c2 => ?_)
    · refine j_iconst (pc' := 22) q110_21 rfl ?_
      exact j_piret q110_22 rfl
    · refine j_aload_n (pc' := 10) q110_9 rfl (by decide) rfl ?_
      refine j_getr (k := 0) (q := 1) (pc' := 13) q110_10 rfl (hρ 0 0 1 rfl) rfl ?_
      refine j_getr (k := 1) (q := 14) (pc' := 16) q110_13 rfl (hρ 1 11 14 rfl) rfl ?_
      refine j_iload_n (pc' := 17) q110_16 rfl rfl ?_
      refine j_if (fun hi3 => ?_) (fun _ => j_none)
      refine j_iald (k := 14) (N := 3) (pc' := 18) q110_17 rfl hi3 rfl ?_
      refine j_goto q110_18 rfl ?_
      exact j_piret q110_22 rfl
theorem q176_0 : z_fi (z_mi 176) 0 = some (0, .iload_n 1, 0, 0, 0, 0, 0) := rfl
theorem q176_1 : z_fi (z_mi 176) 1 = some (1, .i2l, 0, 0, 0, 0, 0) := rfl
theorem q176_2 : z_fi (z_mi 176) 2 = some (2, .lconst 0, 0, 0, 0, 0, 0) := rfl
theorem q176_3 : z_fi (z_mi 176) 3 = some (3, .ldc2_w 183, 0, 0, 0, 0, 2) := rfl
theorem q176_6 : z_fi (z_mi 176) 6 = some (6, .invokestatic 62, 1, 149, 3, 0, 0) := rfl
theorem q176_9 : z_fi (z_mi 176) 9 = some (9, .ifCond .eq 15, 0, 24, 0, 0, 0) := rfl
theorem q176_12 : z_fi (z_mi 176) 12 = some (12, .aload_n 0, 0, 0, 0, 0, 0) := rfl
theorem q176_13 : z_fi (z_mi 176) 13 = some (13, .getfield 7, 0, 10, 0, 0, 0) := rfl
theorem q176_16 : z_fi (z_mi 176) 16 = some (16, .bipush 106, 0, 0, 0, 106, 0) := rfl
theorem q176_18 : z_fi (z_mi 176) 18 = some (18, .iload_n 1, 0, 0, 0, 0, 0) := rfl
theorem q176_19 : z_fi (z_mi 176) 19 = some (19, .iadd, 0, 0, 0, 0, 0) := rfl
theorem q176_20 : z_fi (z_mi 176) 20 = some (20, .iaload, 0, 0, 0, 0, 0) := rfl
theorem q176_21 : z_fi (z_mi 176) 21 = some (21, .goto 4, 0, 25, 0, 0, 0) := rfl
theorem q176_24 : z_fi (z_mi 176) 24 = some (24, .iconst (-1), 0, 0, 0, (-1), 0) := rfl
theorem q176_25 : z_fi (z_mi 176) 25 = some (25, .ireturn, 0, 0, 0, 0, 0) := rfl
set_option maxRecDepth 20000 in
set_option maxHeartbeats 4000000 in
theorem t_M_ripe {xL : Nat} {xs : Nat → Int32} {ρ : Nat → Nat → Option Nat} (hρ : z_hR ρ) (d : Nat) (a1 : Int32) (σ : zS) : ∀ q, f_M_ripe a1 σ = some q → z_ec xL xs ρ (d + 1) 176 [.ref 90, .int a1] σ (em_pi σ q) := by
  refine j_of (W := [.ref 90, .int a1]) (fun L hL => ?_) ?_
  · subst hL; exact z_vl_0 _ 0 rfl
  · unfold f_M_ripe
    refine j_iload_n (pc' := 1) q176_0 rfl rfl ?_
    refine j_i2l (pc' := 2) q176_1 rfl ?_
    refine j_lconst (pc' := 3) q176_2 rfl ?_
    refine j_ldc2 (pc' := 6) q176_3 rfl ?_
    refine j_callS3_pi (d := d + 0) (pc' := 9) q176_6 (Or.inl rfl) (Nat.le_of_ble_eq_true rfl) (Nat.le_of_ble_eq_true rfl) rfl (t_M_in hρ (d + 0) _ _ _ _) (fun r1 => ?_)
    refine j_if_eq (pc' := 12) q176_9 rfl (fun c2 => ?_) (fun c2 => ?_)
    · refine j_iconst (pc' := 25) q176_24 rfl ?_
      exact j_piret q176_25 rfl
    · refine j_aload_n (pc' := 13) q176_12 rfl (by decide) rfl ?_
      refine j_getr (k := 90) (q := 91) (pc' := 16) q176_13 rfl (hρ 90 0 91 rfl) rfl ?_
      refine j_bipush (pc' := 18) q176_16 rfl ?_
      refine j_iload_n (pc' := 19) q176_18 rfl rfl ?_
      refine j_iadd (pc' := 20) q176_19 rfl ?_
      refine j_if (fun hi3 => ?_) (fun _ => j_none)
      refine j_iald (k := 91) (N := 550) (pc' := 21) q176_20 rfl hi3 rfl ?_
      refine j_goto q176_21 rfl ?_
      exact j_piret q176_25 rfl
theorem q63_0 : z_fi (z_mi 63) 0 = some (0, .iload_n 1, 0, 0, 0, 0, 0) := rfl
theorem q63_1 : z_fi (z_mi 63) 1 = some (1, .invokestatic 28, 4, 100, 1, 0, 0) := rfl
theorem q63_4 : z_fi (z_mi 63) 4 = some (4, .ifCond .eq 32, 0, 36, 0, 0, 0) := rfl
theorem q63_7 : z_fi (z_mi 63) 7 = some (7, .aload_n 0, 0, 0, 0, 0, 0) := rfl
theorem q63_8 : z_fi (z_mi 63) 8 = some (8, .getfield 9, 0, 4, 0, 0, 0) := rfl
theorem q63_11 : z_fi (z_mi 63) 11 = some (11, .iload_n 1, 0, 0, 0, 0, 0) := rfl
theorem q63_12 : z_fi (z_mi 63) 12 = some (12, .iaload, 0, 0, 0, 0, 0) := rfl
theorem q63_13 : z_fi (z_mi 63) 13 = some (13, .iload_n 2, 0, 0, 0, 0, 0) := rfl
theorem q63_14 : z_fi (z_mi 63) 14 = some (14, .if_icmp .lt 22, 0, 36, 0, 0, 0) := rfl
theorem q63_17 : z_fi (z_mi 63) 17 = some (17, .aload_n 0, 0, 0, 0, 0, 0) := rfl
theorem q63_18 : z_fi (z_mi 63) 18 = some (18, .getfield 24, 0, 4, 2, 0, 0) := rfl
theorem q63_21 : z_fi (z_mi 63) 21 = some (21, .aload_n 0, 0, 0, 0, 0, 0) := rfl
theorem q63_22 : z_fi (z_mi 63) 22 = some (22, .getfield 15, 0, 4, 1, 0, 0) := rfl
theorem q63_25 : z_fi (z_mi 63) 25 = some (25, .iload_n 1, 0, 0, 0, 0, 0) := rfl
theorem q63_26 : z_fi (z_mi 63) 26 = some (26, .iaload, 0, 0, 0, 0, 0) := rfl
theorem q63_27 : z_fi (z_mi 63) 27 = some (27, .iload_n 2, 0, 0, 0, 0, 0) := rfl
theorem q63_28 : z_fi (z_mi 63) 28 = some (28, .imul, 0, 0, 0, 0, 0) := rfl
theorem q63_29 : z_fi (z_mi 63) 29 = some (29, .if_icmp .lt 7, 0, 36, 0, 0, 0) := rfl
theorem q63_32 : z_fi (z_mi 63) 32 = some (32, .iconst 1, 0, 0, 0, 1, 0) := rfl
theorem q63_33 : z_fi (z_mi 63) 33 = some (33, .goto 4, 0, 37, 0, 0, 0) := rfl
theorem q63_36 : z_fi (z_mi 63) 36 = some (36, .iconst 0, 0, 0, 0, 0, 0) := rfl
theorem q63_37 : z_fi (z_mi 63) 37 = some (37, .ireturn, 0, 0, 0, 0, 0) := rfl
set_option maxRecDepth 20000 in
set_option maxHeartbeats 4000000 in
theorem t_Sp_sells_11 {xL : Nat} {xs : Nat → Int32} {ρ : Nat → Nat → Option Nat} (hρ : z_hR ρ) (d : Nat) (a1 : Int32) (a2 : Int32) (σ : zS) : ∀ q, f_Sp_sells_11 a1 a2 σ = some q → z_ec xL xs ρ (d + 2) 63 [.ref 11, .int a1, .int a2] σ (em_pi σ q) := by
  refine j_of (W := [.ref 11, .int a1, .int a2]) (fun L hL => ?_) ?_
  · subst hL; exact z_vl_0 _ 0 rfl
  · unfold f_Sp_sells_11
    refine j_iload_n (pc' := 1) q63_0 rfl rfl ?_
    refine j_callS1_pi (d := d + 1) (pc' := 4) q63_1 (Or.inr rfl) (Nat.le_of_ble_eq_true rfl) (Nat.le_of_ble_eq_true rfl) rfl (t_Y_isSeason hρ (d + 0) _ _) (fun r1 => ?_)
    refine j_if_eq (pc' := 7) q63_4 rfl (fun c2 => ?_) (fun c2 => ?_)
    · refine j_iconst (pc' := 37) q63_36 rfl ?_
      exact j_pzret q63_37 rfl (Or.inl rfl)
    · refine j_aload_n (pc' := 8) q63_7 rfl (by decide) rfl ?_
      refine j_getr (k := 11) (q := 12) (pc' := 11) q63_8 rfl (hρ 11 0 12 rfl) rfl ?_
      refine j_iload_n (pc' := 12) q63_11 rfl rfl ?_
      refine j_if (fun hi3 => ?_) (fun _ => j_none)
      refine j_iald (k := 12) (N := 4) (pc' := 13) q63_12 rfl hi3 rfl ?_
      refine j_iload_n (pc' := 14) q63_13 rfl rfl ?_
      refine j_icmp_lt (pc' := 17) q63_14 rfl (fun c4 => ?_) (fun c4 => ?_)
      · refine j_iconst (pc' := 37) q63_36 rfl ?_
        exact j_pzret q63_37 rfl (Or.inl rfl)
      · refine j_aload_n (pc' := 18) q63_17 rfl (by decide) rfl ?_
        refine j_getf (k := 11) (pc' := 21) q63_18 rfl rfl ?_
        refine j_aload_n (pc' := 22) q63_21 rfl (by decide) rfl ?_
        refine j_getr (k := 11) (q := 13) (pc' := 25) q63_22 rfl (hρ 11 1 13 rfl) rfl ?_
        refine j_iload_n (pc' := 26) q63_25 rfl rfl ?_
        refine j_if (fun hi5 => ?_) (fun _ => j_none)
        refine j_iald (k := 13) (N := 4) (pc' := 27) q63_26 rfl hi5 rfl ?_
        refine j_iload_n (pc' := 28) q63_27 rfl rfl ?_
        refine j_imul (pc' := 29) q63_28 rfl ?_
        refine j_icmp_lt (pc' := 32) q63_29 rfl (fun c6 => ?_) (fun c6 => ?_)
        · refine j_iconst (pc' := 37) q63_36 rfl ?_
          exact j_pzret q63_37 rfl (Or.inl rfl)
        · refine j_iconst (pc' := 33) q63_32 rfl ?_
          refine j_goto q63_33 rfl ?_
          exact j_pzret q63_37 rfl (Or.inr rfl)
theorem q64_0 : z_fi (z_mi 64) 0 = some (0, .iload_n 1, 0, 0, 0, 0, 0) := rfl
theorem q64_1 : z_fi (z_mi 64) 1 = some (1, .invokestatic 28, 4, 100, 1, 0, 0) := rfl
theorem q64_4 : z_fi (z_mi 64) 4 = some (4, .ifCond .eq 30, 0, 34, 0, 0, 0) := rfl
theorem q64_7 : z_fi (z_mi 64) 7 = some (7, .aload_n 0, 0, 0, 0, 0, 0) := rfl
theorem q64_8 : z_fi (z_mi 64) 8 = some (8, .getfield 9, 0, 4, 0, 0, 0) := rfl
theorem q64_11 : z_fi (z_mi 64) 11 = some (11, .iload_n 1, 0, 0, 0, 0, 0) := rfl
theorem q64_12 : z_fi (z_mi 64) 12 = some (12, .dup2, 0, 0, 0, 0, 0) := rfl
theorem q64_13 : z_fi (z_mi 64) 13 = some (13, .iaload, 0, 0, 0, 0, 0) := rfl
theorem q64_14 : z_fi (z_mi 64) 14 = some (14, .iload_n 2, 0, 0, 0, 0, 0) := rfl
theorem q64_15 : z_fi (z_mi 64) 15 = some (15, .isub, 0, 0, 0, 0, 0) := rfl
theorem q64_16 : z_fi (z_mi 64) 16 = some (16, .iastore, 0, 0, 0, 0, 0) := rfl
theorem q64_17 : z_fi (z_mi 64) 17 = some (17, .aload_n 0, 0, 0, 0, 0, 0) := rfl
theorem q64_18 : z_fi (z_mi 64) 18 = some (18, .dup, 0, 0, 0, 0, 0) := rfl
theorem q64_19 : z_fi (z_mi 64) 19 = some (19, .getfield 24, 0, 4, 2, 0, 0) := rfl
theorem q64_22 : z_fi (z_mi 64) 22 = some (22, .aload_n 0, 0, 0, 0, 0, 0) := rfl
theorem q64_23 : z_fi (z_mi 64) 23 = some (23, .getfield 15, 0, 4, 1, 0, 0) := rfl
theorem q64_26 : z_fi (z_mi 64) 26 = some (26, .iload_n 1, 0, 0, 0, 0, 0) := rfl
theorem q64_27 : z_fi (z_mi 64) 27 = some (27, .iaload, 0, 0, 0, 0, 0) := rfl
theorem q64_28 : z_fi (z_mi 64) 28 = some (28, .iload_n 2, 0, 0, 0, 0, 0) := rfl
theorem q64_29 : z_fi (z_mi 64) 29 = some (29, .imul, 0, 0, 0, 0, 0) := rfl
theorem q64_30 : z_fi (z_mi 64) 30 = some (30, .isub, 0, 0, 0, 0, 0) := rfl
theorem q64_31 : z_fi (z_mi 64) 31 = some (31, .putfield 24, 0, 4, 2, 0, 0) := rfl
theorem q64_34 : z_fi (z_mi 64) 34 = some (34, .return_, 0, 0, 0, 0, 0) := rfl
set_option maxRecDepth 20000 in
set_option maxHeartbeats 4000000 in
theorem t_Sp_take_11 {xL : Nat} {xs : Nat → Int32} {ρ : Nat → Nat → Option Nat} (hρ : z_hR ρ) (d : Nat) (a1 : Int32) (a2 : Int32) (σ : zS) : ∀ q, f_Sp_take_11 a1 a2 σ = some q → z_ec xL xs ρ (d + 2) 64 [.ref 11, .int a1, .int a2] σ (em_v q) := by
  refine j_of (W := [.ref 11, .int a1, .int a2]) (fun L hL => ?_) ?_
  · subst hL; exact z_vl_0 _ 0 rfl
  · unfold f_Sp_take_11
    refine j_iload_n (pc' := 1) q64_0 rfl rfl ?_
    refine j_callS1_pi (d := d + 1) (pc' := 4) q64_1 (Or.inr rfl) (Nat.le_of_ble_eq_true rfl) (Nat.le_of_ble_eq_true rfl) rfl (t_Y_isSeason hρ (d + 0) _ _) (fun r1 => ?_)
    refine j_if_eq (pc' := 7) q64_4 rfl (fun c2 => ?_) (fun c2 => ?_)
    · exact j_vret q64_34 rfl
    · refine j_aload_n (pc' := 8) q64_7 rfl (by decide) rfl ?_
      refine j_getr (k := 11) (q := 12) (pc' := 11) q64_8 rfl (hρ 11 0 12 rfl) rfl ?_
      refine j_iload_n (pc' := 12) q64_11 rfl rfl ?_
      refine j_dup2 (pc' := 13) q64_12 ⟨rfl, rfl⟩ rfl ?_
      refine j_if (fun hi3 => ?_) (fun _ => j_none)
      refine j_iald (k := 12) (N := 4) (pc' := 14) q64_13 rfl hi3 rfl ?_
      refine j_iload_n (pc' := 15) q64_14 rfl rfl ?_
      refine j_isub (pc' := 16) q64_15 rfl ?_
      refine j_if (fun hi4 => ?_) (fun _ => j_none)
      refine j_iast (k := 12) (N := 4) (pc' := 17) q64_16 rfl hi4 rfl ?_
      refine j_nameS (fun τ5 => ?_)
      refine j_aload_n (pc' := 18) q64_17 rfl (by decide) rfl ?_
      refine j_dup (pc' := 19) q64_18 rfl rfl ?_
      refine j_getf (k := 11) (pc' := 22) q64_19 rfl rfl ?_
      refine j_aload_n (pc' := 23) q64_22 rfl (by decide) rfl ?_
      refine j_getr (k := 11) (q := 13) (pc' := 26) q64_23 rfl (hρ 11 1 13 rfl) rfl ?_
      refine j_iload_n (pc' := 27) q64_26 rfl rfl ?_
      refine j_if (fun hi6 => ?_) (fun _ => j_none)
      refine j_iald (k := 13) (N := 4) (pc' := 28) q64_27 rfl hi6 rfl ?_
      refine j_iload_n (pc' := 29) q64_28 rfl rfl ?_
      refine j_imul (pc' := 30) q64_29 rfl ?_
      refine j_isub (pc' := 31) q64_30 rfl ?_
      refine j_putf (k := 11) (pc' := 34) q64_31 rfl rfl ?_
      refine j_nameS (fun τ7 => ?_)
      exact j_vret q64_34 rfl
set_option maxRecDepth 20000 in
set_option maxHeartbeats 4000000 in
theorem t_G_set_1 {xL : Nat} {xs : Nat → Int32} {ρ : Nat → Nat → Option Nat} (hρ : z_hR ρ) (d : Nat) (a1 : Int32) (a2 : Int32) (a3 : Int32) (σ : zS) : ∀ q, f_G_set_1 a1 a2 a3 σ = some q → z_ec xL xs ρ (d + 1) 14 [.ref 1, .int a1, .int a2, .int a3] σ (em_v q) := by
  refine j_of (W := [.ref 1, .int a1, .int a2, .int a3]) (fun L hL => ?_) ?_
  · subst hL; exact z_vl_0 _ 0 rfl
  · unfold f_G_set_1
    refine j_iload_n (pc' := 1) q14_0 rfl rfl ?_
    refine j_iconst (pc' := 2) q14_1 rfl ?_
    refine j_bipush (pc' := 4) q14_2 rfl ?_
    refine j_callS3_pi (d := d + 0) (pc' := 7) q14_4 (Or.inr rfl) (Nat.le_of_ble_eq_true rfl) (Nat.le_of_ble_eq_true rfl) rfl (t_Y_isIn hρ (d + 0) _ _ _ _) (fun r1 => ?_)
    refine j_if_eq (pc' := 10) q14_7 rfl (fun c2 => ?_) (fun c2 => ?_)
    · exact j_vret q14_24 rfl
    · refine j_aload_n (pc' := 11) q14_10 rfl (by decide) rfl ?_
      refine j_getr (k := 1) (q := 2) (pc' := 14) q14_11 rfl (hρ 1 2 2 rfl) rfl ?_
      refine j_iload_n (pc' := 15) q14_14 rfl rfl ?_
      refine j_iload_n (pc' := 16) q14_15 rfl rfl ?_
      refine j_if (fun hi3 => ?_) (fun _ => j_none)
      refine j_iast (k := 2) (N := 16) (pc' := 17) q14_16 rfl hi3 rfl ?_
      refine j_nameS (fun τ4 => ?_)
      refine j_aload_n (pc' := 18) q14_17 rfl (by decide) rfl ?_
      refine j_getr (k := 1) (q := 3) (pc' := 21) q14_18 rfl (hρ 1 3 3 rfl) rfl ?_
      refine j_iload_n (pc' := 22) q14_21 rfl rfl ?_
      refine j_iload_n (pc' := 23) q14_22 rfl rfl ?_
      refine j_if (fun hi5 => ?_) (fun _ => j_none)
      refine j_iast (k := 3) (N := 16) (pc' := 24) q14_23 rfl hi5 rfl ?_
      refine j_nameS (fun τ6 => ?_)
      exact j_vret q14_24 rfl
theorem q18_0 : z_fi (z_mi 18) 0 = some (0, .aload_n 0, 0, 0, 0, 0, 0) := rfl
theorem q18_1 : z_fi (z_mi 18) 1 = some (1, .iload_n 1, 0, 0, 0, 0, 0) := rfl
theorem q18_2 : z_fi (z_mi 18) 2 = some (2, .invokevirtual 99, 0, 8, 1, 0, 0) := rfl
theorem q18_5 : z_fi (z_mi 18) 5 = some (5, .ifCond .eq 20, 0, 25, 0, 0, 0) := rfl
theorem q18_8 : z_fi (z_mi 18) 8 = some (8, .iload_n 2, 0, 0, 0, 0, 0) := rfl
theorem q18_9 : z_fi (z_mi 18) 9 = some (9, .invokestatic 114, 4, 100, 1, 0, 0) := rfl
theorem q18_12 : z_fi (z_mi 18) 12 = some (12, .ifCond .eq 13, 0, 25, 0, 0, 0) := rfl
theorem q18_15 : z_fi (z_mi 18) 15 = some (15, .iload_n 3, 0, 0, 0, 0, 0) := rfl
theorem q18_16 : z_fi (z_mi 18) 16 = some (16, .iconst 1, 0, 0, 0, 1, 0) := rfl
theorem q18_17 : z_fi (z_mi 18) 17 = some (17, .bipush 9, 0, 0, 0, 9, 0) := rfl
theorem q18_19 : z_fi (z_mi 18) 19 = some (19, .invokestatic 106, 4, 99, 3, 0, 0) := rfl
theorem q18_22 : z_fi (z_mi 18) 22 = some (22, .ifCond .ne 5, 0, 27, 0, 0, 0) := rfl
theorem q18_25 : z_fi (z_mi 18) 25 = some (25, .iconst (-1), 0, 0, 0, (-1), 0) := rfl
theorem q18_26 : z_fi (z_mi 18) 26 = some (26, .ireturn, 0, 0, 0, 0, 0) := rfl
theorem q18_27 : z_fi (z_mi 18) 27 = some (27, .aload_n 0, 0, 0, 0, 0, 0) := rfl
theorem q18_28 : z_fi (z_mi 18) 28 = some (28, .getfield 37, 0, 0, 9, 0, 0) := rfl
theorem q18_31 : z_fi (z_mi 18) 31 = some (31, .iload_n 2, 0, 0, 0, 0, 0) := rfl
theorem q18_32 : z_fi (z_mi 18) 32 = some (32, .iload_n 3, 0, 0, 0, 0, 0) := rfl
theorem q18_33 : z_fi (z_mi 18) 33 = some (33, .invokevirtual 117, 0, 63, 2, 0, 0) := rfl
theorem q18_36 : z_fi (z_mi 18) 36 = some (36, .ifCond .ne 6, 0, 42, 0, 0, 0) := rfl
theorem q18_39 : z_fi (z_mi 18) 39 = some (39, .bipush (-2), 0, 0, 0, (-2), 0) := rfl
theorem q18_41 : z_fi (z_mi 18) 41 = some (41, .ireturn, 0, 0, 0, 0, 0) := rfl
theorem q18_42 : z_fi (z_mi 18) 42 = some (42, .aload_n 0, 0, 0, 0, 0, 0) := rfl
theorem q18_43 : z_fi (z_mi 18) 43 = some (43, .getfield 37, 0, 0, 9, 0, 0) := rfl
theorem q18_46 : z_fi (z_mi 18) 46 = some (46, .iload_n 2, 0, 0, 0, 0, 0) := rfl
theorem q18_47 : z_fi (z_mi 18) 47 = some (47, .iload_n 3, 0, 0, 0, 0, 0) := rfl
theorem q18_48 : z_fi (z_mi 18) 48 = some (48, .invokevirtual 121, 0, 64, 2, 0, 0) := rfl
theorem q18_51 : z_fi (z_mi 18) 51 = some (51, .aload_n 0, 0, 0, 0, 0, 0) := rfl
theorem q18_52 : z_fi (z_mi 18) 52 = some (52, .iload_n 1, 0, 0, 0, 0, 0) := rfl
theorem q18_53 : z_fi (z_mi 18) 53 = some (53, .iload_n 2, 0, 0, 0, 0, 0) := rfl
theorem q18_54 : z_fi (z_mi 18) 54 = some (54, .iload_n 3, 0, 0, 0, 0, 0) := rfl
theorem q18_55 : z_fi (z_mi 18) 55 = some (55, .invokevirtual 110, 0, 14, 3, 0, 0) := rfl
theorem q18_58 : z_fi (z_mi 18) 58 = some (58, .aload_n 0, 0, 0, 0, 0, 0) := rfl
theorem q18_59 : z_fi (z_mi 18) 59 = some (59, .getfield 37, 0, 0, 9, 0, 0) := rfl
theorem q18_62 : z_fi (z_mi 18) 62 = some (62, .getfield 125, 0, 4, 2, 0, 0) := rfl
theorem q18_65 : z_fi (z_mi 18) 65 = some (65, .ireturn, 0, 0, 0, 0, 0) := rfl
set_option maxRecDepth 20000 in
set_option maxHeartbeats 4000000 in
theorem t_G_buyAndSet_1 {xL : Nat} {xs : Nat → Int32} {ρ : Nat → Nat → Option Nat} (hρ : z_hR ρ) (d : Nat) (a1 : Int32) (a2 : Int32) (a3 : Int32) (σ : zS) : ∀ q, f_G_buyAndSet_1 a1 a2 a3 σ = some q → z_ec xL xs ρ (d + 3) 18 [.ref 1, .int a1, .int a2, .int a3] σ (em_i q) := by
  refine j_of (W := [.ref 1, .int a1, .int a2, .int a3]) (fun L hL => ?_) ?_
  · subst hL; exact z_vl_0 _ 0 rfl
  · unfold f_G_buyAndSet_1
    refine j_aload_n (pc' := 1) q18_0 rfl (by decide) rfl ?_
    refine j_iload_n (pc' := 2) q18_1 rfl rfl ?_
    refine j_callV1_pi (d := d + 2) (pc' := 5) q18_2 rfl (Nat.le_of_ble_eq_true rfl) (Nat.le_of_ble_eq_true rfl) rfl (t_G_hasCell_1 hρ (d + 1) _ _) (fun r1 => ?_)
    refine j_if_eq (pc' := 8) q18_5 rfl (fun c2 => ?_) (fun c2 => ?_)
    · refine j_iconst (pc' := 26) q18_25 rfl ?_
      exact j_iret q18_26 rfl
    · refine j_iload_n (pc' := 9) q18_8 rfl rfl ?_
      refine j_callS1_pi (d := d + 2) (pc' := 12) q18_9 (Or.inr rfl) (Nat.le_of_ble_eq_true rfl) (Nat.le_of_ble_eq_true rfl) rfl (t_Y_isSeason hρ (d + 1) _ _) (fun r3 => ?_)
      refine j_if_eq (pc' := 15) q18_12 rfl (fun c4 => ?_) (fun c4 => ?_)
      · refine j_iconst (pc' := 26) q18_25 rfl ?_
        exact j_iret q18_26 rfl
      · refine j_iload_n (pc' := 16) q18_15 rfl rfl ?_
        refine j_iconst (pc' := 17) q18_16 rfl ?_
        refine j_bipush (pc' := 19) q18_17 rfl ?_
        refine j_callS3_pi (d := d + 2) (pc' := 22) q18_19 (Or.inr rfl) (Nat.le_of_ble_eq_true rfl) (Nat.le_of_ble_eq_true rfl) rfl (t_Y_isIn hρ (d + 2) _ _ _ _) (fun r5 => ?_)
        refine j_if_ne (pc' := 25) q18_22 rfl (fun c6 => ?_) (fun c6 => ?_)
        · refine j_iconst (pc' := 26) q18_25 rfl ?_
          exact j_iret q18_26 rfl
        · refine j_aload_n (pc' := 28) q18_27 rfl (by decide) rfl ?_
          refine j_getr (k := 1) (q := 11) (pc' := 31) q18_28 rfl (hρ 1 9 11 rfl) rfl ?_
          refine j_iload_n (pc' := 32) q18_31 rfl rfl ?_
          refine j_iload_n (pc' := 33) q18_32 rfl rfl ?_
          refine j_callV2_pi (d := d + 2) (pc' := 36) q18_33 rfl (Nat.le_of_ble_eq_true rfl) (Nat.le_of_ble_eq_true rfl) rfl (t_Sp_sells_11 hρ (d + 0) _ _ _) (fun r7 => ?_)
          refine j_if_ne (pc' := 39) q18_36 rfl (fun c8 => ?_) (fun c8 => ?_)
          · refine j_bipush (pc' := 41) q18_39 rfl ?_
            exact j_iret q18_41 rfl
          · refine j_aload_n (pc' := 43) q18_42 rfl (by decide) rfl ?_
            refine j_getr (k := 1) (q := 11) (pc' := 46) q18_43 rfl (hρ 1 9 11 rfl) rfl ?_
            refine j_iload_n (pc' := 47) q18_46 rfl rfl ?_
            refine j_iload_n (pc' := 48) q18_47 rfl rfl ?_
            refine j_callV2_v (d := d + 2) (pc' := 51) q18_48 rfl (Nat.le_of_ble_eq_true rfl) (Nat.le_of_ble_eq_true rfl) rfl (t_Sp_take_11 hρ (d + 0) _ _ _) (fun r9 => ?_)
            refine j_aload_n (pc' := 52) q18_51 rfl (by decide) rfl ?_
            refine j_iload_n (pc' := 53) q18_52 rfl rfl ?_
            refine j_iload_n (pc' := 54) q18_53 rfl rfl ?_
            refine j_iload_n (pc' := 55) q18_54 rfl rfl ?_
            refine j_callV3_v (d := d + 2) (pc' := 58) q18_55 rfl (Nat.le_of_ble_eq_true rfl) (Nat.le_of_ble_eq_true rfl) rfl (t_G_set_1 hρ (d + 1) _ _ _ _) (fun r10 => ?_)
            refine j_aload_n (pc' := 59) q18_58 rfl (by decide) rfl ?_
            refine j_getr (k := 1) (q := 11) (pc' := 62) q18_59 rfl (hρ 1 9 11 rfl) rfl ?_
            refine j_getf (k := 11) (pc' := 65) q18_62 rfl rfl ?_
            exact j_iret q18_65 rfl
theorem q111_0 : z_fi (z_mi 111) 0 = some (0, .aload_n 0, 0, 0, 0, 0, 0) := rfl
theorem q111_1 : z_fi (z_mi 111) 1 = some (1, .getfield 10, 0, 9, 0, 0, 0) := rfl
theorem q111_4 : z_fi (z_mi 111) 4 = some (4, .iload_n 1, 0, 0, 0, 0, 0) := rfl
theorem q111_5 : z_fi (z_mi 111) 5 = some (5, .iload_n 2, 0, 0, 0, 0, 0) := rfl
theorem q111_6 : z_fi (z_mi 111) 6 = some (6, .iload_n 3, 0, 0, 0, 0, 0) := rfl
theorem q111_7 : z_fi (z_mi 111) 7 = some (7, .invokevirtual 161, 0, 18, 3, 0, 0) := rfl
theorem q111_10 : z_fi (z_mi 111) 10 = some (10, .ireturn, 0, 0, 0, 0, 0) := rfl
set_option maxRecDepth 20000 in
set_option maxHeartbeats 4000000 in
theorem t_Y_lay {xL : Nat} {xs : Nat → Int32} {ρ : Nat → Nat → Option Nat} (hρ : z_hR ρ) (d : Nat) (a1 : Int32) (a2 : Int32) (a3 : Int32) (σ : zS) : ∀ q, f_Y_lay a1 a2 a3 σ = some q → z_ec xL xs ρ (d + 4) 111 [.ref 0, .int a1, .int a2, .int a3] σ (em_i q) := by
  refine j_of (W := [.ref 0, .int a1, .int a2, .int a3]) (fun L hL => ?_) ?_
  · subst hL; exact z_vl_0 _ 0 rfl
  · unfold f_Y_lay
    refine j_aload_n (pc' := 1) q111_0 rfl (by decide) rfl ?_
    refine j_getr (k := 0) (q := 1) (pc' := 4) q111_1 rfl (hρ 0 0 1 rfl) rfl ?_
    refine j_iload_n (pc' := 5) q111_4 rfl rfl ?_
    refine j_iload_n (pc' := 6) q111_5 rfl rfl ?_
    refine j_iload_n (pc' := 7) q111_6 rfl rfl ?_
    refine j_callV3_i (d := d + 3) (pc' := 10) q111_7 rfl (Nat.le_of_ble_eq_true rfl) (Nat.le_of_ble_eq_true rfl) rfl (t_G_buyAndSet_1 hρ (d + 0) _ _ _ _) (fun r1 => ?_)
    exact j_iret q111_10 rfl
theorem q178_0 : z_fi (z_mi 178) 0 = some (0, .aload_n 0, 0, 0, 0, 0, 0) := rfl
theorem q178_1 : z_fi (z_mi 178) 1 = some (1, .getfield 7, 0, 10, 0, 0, 0) := rfl
theorem q178_4 : z_fi (z_mi 178) 4 = some (4, .iload_n 1, 0, 0, 0, 0, 0) := rfl
theorem q178_5 : z_fi (z_mi 178) 5 = some (5, .iconst 5, 0, 0, 0, 5, 0) := rfl
theorem q178_6 : z_fi (z_mi 178) 6 = some (6, .iload_n 2, 0, 0, 0, 0, 0) := rfl
theorem q178_7 : z_fi (z_mi 178) 7 = some (7, .imul, 0, 0, 0, 0, 0) := rfl
theorem q178_8 : z_fi (z_mi 178) 8 = some (8, .iadd, 0, 0, 0, 0, 0) := rfl
theorem q178_9 : z_fi (z_mi 178) 9 = some (9, .iload_n 3, 0, 0, 0, 0, 0) := rfl
theorem q178_10 : z_fi (z_mi 178) 10 = some (10, .iastore, 0, 0, 0, 0, 0) := rfl
theorem q178_11 : z_fi (z_mi 178) 11 = some (11, .aload_n 0, 0, 0, 0, 0, 0) := rfl
theorem q178_12 : z_fi (z_mi 178) 12 = some (12, .getfield 7, 0, 10, 0, 0, 0) := rfl
theorem q178_15 : z_fi (z_mi 178) 15 = some (15, .iload_n 1, 0, 0, 0, 0, 0) := rfl
theorem q178_16 : z_fi (z_mi 178) 16 = some (16, .iconst 5, 0, 0, 0, 5, 0) := rfl
theorem q178_17 : z_fi (z_mi 178) 17 = some (17, .iload_n 2, 0, 0, 0, 0, 0) := rfl
theorem q178_18 : z_fi (z_mi 178) 18 = some (18, .imul, 0, 0, 0, 0, 0) := rfl
theorem q178_19 : z_fi (z_mi 178) 19 = some (19, .iadd, 0, 0, 0, 0, 0) := rfl
theorem q178_20 : z_fi (z_mi 178) 20 = some (20, .iconst 1, 0, 0, 0, 1, 0) := rfl
theorem q178_21 : z_fi (z_mi 178) 21 = some (21, .iadd, 0, 0, 0, 0, 0) := rfl
theorem q178_22 : z_fi (z_mi 178) 22 = some (22, .iload 4, 0, 0, 0, 0, 0) := rfl
theorem q178_24 : z_fi (z_mi 178) 24 = some (24, .iastore, 0, 0, 0, 0, 0) := rfl
theorem q178_25 : z_fi (z_mi 178) 25 = some (25, .return_, 0, 0, 0, 0, 0) := rfl
set_option maxRecDepth 20000 in
set_option maxHeartbeats 4000000 in
theorem t_M_lays {xL : Nat} {xs : Nat → Int32} {ρ : Nat → Nat → Option Nat} (hρ : z_hR ρ) (d : Nat) (a1 : Int32) (a2 : Int32) (a3 : Int32) (a4 : Int32) (σ : zS) : ∀ q, f_M_lays a1 a2 a3 a4 σ = some q → z_ec xL xs ρ (d + 0) 178 [.ref 90, .int a1, .int a2, .int a3, .int a4] σ (em_v q) := by
  refine j_of (W := [.ref 90, .int a1, .int a2, .int a3, .int a4]) (fun L hL => ?_) ?_
  · subst hL; exact z_vl_0 _ 0 rfl
  · unfold f_M_lays
    refine j_aload_n (pc' := 1) q178_0 rfl (by decide) rfl ?_
    refine j_getr (k := 90) (q := 91) (pc' := 4) q178_1 rfl (hρ 90 0 91 rfl) rfl ?_
    refine j_iload_n (pc' := 5) q178_4 rfl rfl ?_
    refine j_iconst (pc' := 6) q178_5 rfl ?_
    refine j_iload_n (pc' := 7) q178_6 rfl rfl ?_
    refine j_imul (pc' := 8) q178_7 rfl ?_
    refine j_iadd (pc' := 9) q178_8 rfl ?_
    refine j_iload_n (pc' := 10) q178_9 rfl rfl ?_
    refine j_if (fun hi1 => ?_) (fun _ => j_none)
    refine j_iast (k := 91) (N := 550) (pc' := 11) q178_10 rfl hi1 rfl ?_
    refine j_nameS (fun τ2 => ?_)
    refine j_aload_n (pc' := 12) q178_11 rfl (by decide) rfl ?_
    refine j_getr (k := 90) (q := 91) (pc' := 15) q178_12 rfl (hρ 90 0 91 rfl) rfl ?_
    refine j_iload_n (pc' := 16) q178_15 rfl rfl ?_
    refine j_iconst (pc' := 17) q178_16 rfl ?_
    refine j_iload_n (pc' := 18) q178_17 rfl rfl ?_
    refine j_imul (pc' := 19) q178_18 rfl ?_
    refine j_iadd (pc' := 20) q178_19 rfl ?_
    refine j_iconst (pc' := 21) q178_20 rfl ?_
    refine j_iadd (pc' := 22) q178_21 rfl ?_
    refine j_iload (pc' := 24) q178_22 rfl rfl ?_
    refine j_if (fun hi3 => ?_) (fun _ => j_none)
    refine j_iast (k := 91) (N := 550) (pc' := 25) q178_24 rfl hi3 rfl ?_
    refine j_nameS (fun τ4 => ?_)
    exact j_vret q178_25 rfl
theorem q179_0 : z_fi (z_mi 179) 0 = some (0, .aload_n 0, 0, 0, 0, 0, 0) := rfl
theorem q179_1 : z_fi (z_mi 179) 1 = some (1, .iload_n 1, 0, 0, 0, 0, 0) := rfl
theorem q179_2 : z_fi (z_mi 179) 2 = some (2, .invokevirtual 165, 0, 164, 1, 0, 0) := rfl
theorem q179_5 : z_fi (z_mi 179) 5 = some (5, .ifCond .eq 22, 0, 27, 0, 0, 0) := rfl
theorem q179_8 : z_fi (z_mi 179) 8 = some (8, .iload_n 2, 0, 0, 0, 0, 0) := rfl
theorem q179_9 : z_fi (z_mi 179) 9 = some (9, .invokestatic 177, 1, 167, 1, 0, 0) := rfl
theorem q179_12 : z_fi (z_mi 179) 12 = some (12, .ifCond .eq 15, 0, 27, 0, 0, 0) := rfl
theorem q179_15 : z_fi (z_mi 179) 15 = some (15, .iload_n 3, 0, 0, 0, 0, 0) := rfl
theorem q179_16 : z_fi (z_mi 179) 16 = some (16, .i2l, 0, 0, 0, 0, 0) := rfl
theorem q179_17 : z_fi (z_mi 179) 17 = some (17, .lconst 1, 0, 0, 0, 0, 1) := rfl
theorem q179_18 : z_fi (z_mi 179) 18 = some (18, .ldc2_w 185, 0, 0, 0, 0, 9) := rfl
theorem q179_21 : z_fi (z_mi 179) 21 = some (21, .invokestatic 62, 1, 149, 3, 0, 0) := rfl
theorem q179_24 : z_fi (z_mi 179) 24 = some (24, .ifCond .ne 5, 0, 29, 0, 0, 0) := rfl
theorem q179_27 : z_fi (z_mi 179) 27 = some (27, .iconst (-1), 0, 0, 0, (-1), 0) := rfl
theorem q179_28 : z_fi (z_mi 179) 28 = some (28, .ireturn, 0, 0, 0, 0, 0) := rfl
theorem q179_29 : z_fi (z_mi 179) 29 = some (29, .iload_n 3, 0, 0, 0, 0, 0) := rfl
theorem q179_30 : z_fi (z_mi 179) 30 = some (30, .aload_n 0, 0, 0, 0, 0, 0) := rfl
theorem q179_31 : z_fi (z_mi 179) 31 = some (31, .getfield 7, 0, 10, 0, 0, 0) := rfl
theorem q179_34 : z_fi (z_mi 179) 34 = some (34, .bipush 96, 0, 0, 0, 96, 0) := rfl
theorem q179_36 : z_fi (z_mi 179) 36 = some (36, .iconst 2, 0, 0, 0, 2, 0) := rfl
theorem q179_37 : z_fi (z_mi 179) 37 = some (37, .iload_n 2, 0, 0, 0, 0, 0) := rfl
theorem q179_38 : z_fi (z_mi 179) 38 = some (38, .imul, 0, 0, 0, 0, 0) := rfl
theorem q179_39 : z_fi (z_mi 179) 39 = some (39, .iadd, 0, 0, 0, 0, 0) := rfl
theorem q179_40 : z_fi (z_mi 179) 40 = some (40, .iconst 1, 0, 0, 0, 1, 0) := rfl
theorem q179_41 : z_fi (z_mi 179) 41 = some (41, .iadd, 0, 0, 0, 0, 0) := rfl
theorem q179_42 : z_fi (z_mi 179) 42 = some (42, .iaload, 0, 0, 0, 0, 0) := rfl
theorem q179_43 : z_fi (z_mi 179) 43 = some (43, .iconst 1, 0, 0, 0, 1, 0) := rfl
theorem q179_44 : z_fi (z_mi 179) 44 = some (44, .iadd, 0, 0, 0, 0, 0) := rfl
theorem q179_45 : z_fi (z_mi 179) 45 = some (45, .imul, 0, 0, 0, 0, 0) := rfl
theorem q179_46 : z_fi (z_mi 179) 46 = some (46, .istore 4, 0, 0, 0, 0, 0) := rfl
theorem q179_48 : z_fi (z_mi 179) 48 = some (48, .aload_n 0, 0, 0, 0, 0, 0) := rfl
theorem q179_49 : z_fi (z_mi 179) 49 = some (49, .getfield 7, 0, 10, 0, 0, 0) := rfl
theorem q179_52 : z_fi (z_mi 179) 52 = some (52, .bipush 96, 0, 0, 0, 96, 0) := rfl
theorem q179_54 : z_fi (z_mi 179) 54 = some (54, .iconst 2, 0, 0, 0, 2, 0) := rfl
theorem q179_55 : z_fi (z_mi 179) 55 = some (55, .iload_n 2, 0, 0, 0, 0, 0) := rfl
theorem q179_56 : z_fi (z_mi 179) 56 = some (56, .imul, 0, 0, 0, 0, 0) := rfl
theorem q179_57 : z_fi (z_mi 179) 57 = some (57, .iadd, 0, 0, 0, 0, 0) := rfl
theorem q179_58 : z_fi (z_mi 179) 58 = some (58, .iaload, 0, 0, 0, 0, 0) := rfl
theorem q179_59 : z_fi (z_mi 179) 59 = some (59, .iload_n 3, 0, 0, 0, 0, 0) := rfl
theorem q179_60 : z_fi (z_mi 179) 60 = some (60, .if_icmp .lt 15, 0, 75, 0, 0, 0) := rfl
theorem q179_63 : z_fi (z_mi 179) 63 = some (63, .aload_n 0, 0, 0, 0, 0, 0) := rfl
theorem q179_64 : z_fi (z_mi 179) 64 = some (64, .getfield 7, 0, 10, 0, 0, 0) := rfl
theorem q179_67 : z_fi (z_mi 179) 67 = some (67, .bipush 104, 0, 0, 0, 104, 0) := rfl
theorem q179_69 : z_fi (z_mi 179) 69 = some (69, .iaload, 0, 0, 0, 0, 0) := rfl
theorem q179_70 : z_fi (z_mi 179) 70 = some (70, .iload 4, 0, 0, 0, 0, 0) := rfl
theorem q179_72 : z_fi (z_mi 179) 72 = some (72, .if_icmp .ge 6, 0, 78, 0, 0, 0) := rfl
theorem q179_75 : z_fi (z_mi 179) 75 = some (75, .bipush (-2), 0, 0, 0, (-2), 0) := rfl
theorem q179_77 : z_fi (z_mi 179) 77 = some (77, .ireturn, 0, 0, 0, 0, 0) := rfl
theorem q179_78 : z_fi (z_mi 179) 78 = some (78, .aload_n 0, 0, 0, 0, 0, 0) := rfl
theorem q179_79 : z_fi (z_mi 179) 79 = some (79, .getfield 7, 0, 10, 0, 0, 0) := rfl
theorem q179_82 : z_fi (z_mi 179) 82 = some (82, .bipush 96, 0, 0, 0, 96, 0) := rfl
theorem q179_84 : z_fi (z_mi 179) 84 = some (84, .iconst 2, 0, 0, 0, 2, 0) := rfl
theorem q179_85 : z_fi (z_mi 179) 85 = some (85, .iload_n 2, 0, 0, 0, 0, 0) := rfl
theorem q179_86 : z_fi (z_mi 179) 86 = some (86, .imul, 0, 0, 0, 0, 0) := rfl
theorem q179_87 : z_fi (z_mi 179) 87 = some (87, .iadd, 0, 0, 0, 0, 0) := rfl
theorem q179_88 : z_fi (z_mi 179) 88 = some (88, .dup2, 0, 0, 0, 0, 0) := rfl
theorem q179_89 : z_fi (z_mi 179) 89 = some (89, .iaload, 0, 0, 0, 0, 0) := rfl
theorem q179_90 : z_fi (z_mi 179) 90 = some (90, .iload_n 3, 0, 0, 0, 0, 0) := rfl
theorem q179_91 : z_fi (z_mi 179) 91 = some (91, .isub, 0, 0, 0, 0, 0) := rfl
theorem q179_92 : z_fi (z_mi 179) 92 = some (92, .iastore, 0, 0, 0, 0, 0) := rfl
theorem q179_93 : z_fi (z_mi 179) 93 = some (93, .aload_n 0, 0, 0, 0, 0, 0) := rfl
set_option maxRecDepth 8000 in
theorem q179_94 : z_fi (z_mi 179) 94 = some (94, .getfield 7, 0, 10, 0, 0, 0) := rfl
set_option maxRecDepth 8000 in
theorem q179_97 : z_fi (z_mi 179) 97 = some (97, .bipush 104, 0, 0, 0, 104, 0) := rfl
set_option maxRecDepth 8000 in
theorem q179_99 : z_fi (z_mi 179) 99 = some (99, .dup2, 0, 0, 0, 0, 0) := rfl
set_option maxRecDepth 8000 in
theorem q179_100 : z_fi (z_mi 179) 100 = some (100, .iaload, 0, 0, 0, 0, 0) := rfl
set_option maxRecDepth 8000 in
theorem q179_101 : z_fi (z_mi 179) 101 = some (101, .iload 4, 0, 0, 0, 0, 0) := rfl
set_option maxRecDepth 8000 in
theorem q179_103 : z_fi (z_mi 179) 103 = some (103, .isub, 0, 0, 0, 0, 0) := rfl
set_option maxRecDepth 8000 in
theorem q179_104 : z_fi (z_mi 179) 104 = some (104, .iastore, 0, 0, 0, 0, 0) := rfl
set_option maxRecDepth 8000 in
theorem q179_105 : z_fi (z_mi 179) 105 = some (105, .aload_n 0, 0, 0, 0, 0, 0) := rfl
set_option maxRecDepth 8000 in
theorem q179_106 : z_fi (z_mi 179) 106 = some (106, .iconst 0, 0, 0, 0, 0, 0) := rfl
set_option maxRecDepth 8000 in
theorem q179_107 : z_fi (z_mi 179) 107 = some (107, .iload_n 1, 0, 0, 0, 0, 0) := rfl
set_option maxRecDepth 8000 in
theorem q179_108 : z_fi (z_mi 179) 108 = some (108, .iload_n 2, 0, 0, 0, 0, 0) := rfl
set_option maxRecDepth 8000 in
theorem q179_109 : z_fi (z_mi 179) 109 = some (109, .iload_n 3, 0, 0, 0, 0, 0) := rfl
set_option maxRecDepth 8000 in
theorem q179_110 : z_fi (z_mi 179) 110 = some (110, .invokevirtual 187, 0, 178, 4, 0, 0) := rfl
set_option maxRecDepth 8000 in
theorem q179_113 : z_fi (z_mi 179) 113 = some (113, .aload_n 0, 0, 0, 0, 0, 0) := rfl
set_option maxRecDepth 8000 in
theorem q179_114 : z_fi (z_mi 179) 114 = some (114, .getfield 7, 0, 10, 0, 0, 0) := rfl
set_option maxRecDepth 8000 in
theorem q179_117 : z_fi (z_mi 179) 117 = some (117, .bipush 104, 0, 0, 0, 104, 0) := rfl
set_option maxRecDepth 8000 in
theorem q179_119 : z_fi (z_mi 179) 119 = some (119, .iaload, 0, 0, 0, 0, 0) := rfl
set_option maxRecDepth 8000 in
theorem q179_120 : z_fi (z_mi 179) 120 = some (120, .ireturn, 0, 0, 0, 0, 0) := rfl
set_option maxRecDepth 20000 in
set_option maxHeartbeats 4000000 in
theorem t_M_buys {xL : Nat} {xs : Nat → Int32} {ρ : Nat → Nat → Option Nat} (hρ : z_hR ρ) (d : Nat) (a1 : Int32) (a2 : Int32) (a3 : Int32) (σ : zS) : ∀ q, f_M_buys a1 a2 a3 σ = some q → z_ec xL xs ρ (d + 2) 179 [.ref 90, .int a1, .int a2, .int a3] σ (em_i q) := by
  refine j_of (W := [.ref 90, .int a1, .int a2, .int a3, .null]) (fun L hL => ?_) ?_
  · subst hL; exact z_vl_0 _ 1 rfl
  · unfold f_M_buys
    refine j_aload_n (pc' := 1) q179_0 rfl (by decide) rfl ?_
    refine j_iload_n (pc' := 2) q179_1 rfl rfl ?_
    refine j_callV1_pi (d := d + 1) (pc' := 5) q179_2 rfl (Nat.le_of_ble_eq_true rfl) (Nat.le_of_ble_eq_true rfl) rfl (t_M_isCell hρ (d + 0) _ _) (fun r1 => ?_)
    refine j_if_eq (pc' := 8) q179_5 rfl (fun c2 => ?_) (fun c2 => ?_)
    · refine j_iconst (pc' := 28) q179_27 rfl ?_
      exact j_iret q179_28 rfl
    · refine j_iload_n (pc' := 9) q179_8 rfl rfl ?_
      refine j_callS1_pi (d := d + 1) (pc' := 12) q179_9 (Or.inl rfl) (Nat.le_of_ble_eq_true rfl) (Nat.le_of_ble_eq_true rfl) rfl (t_M_isSeason hρ (d + 0) _ _) (fun r3 => ?_)
      refine j_if_eq (pc' := 15) q179_12 rfl (fun c4 => ?_) (fun c4 => ?_)
      · refine j_iconst (pc' := 28) q179_27 rfl ?_
        exact j_iret q179_28 rfl
      · refine j_iload_n (pc' := 16) q179_15 rfl rfl ?_
        refine j_i2l (pc' := 17) q179_16 rfl ?_
        refine j_lconst (pc' := 18) q179_17 rfl ?_
        refine j_ldc2 (pc' := 21) q179_18 rfl ?_
        refine j_callS3_pi (d := d + 1) (pc' := 24) q179_21 (Or.inl rfl) (Nat.le_of_ble_eq_true rfl) (Nat.le_of_ble_eq_true rfl) rfl (t_M_in hρ (d + 1) _ _ _ _) (fun r5 => ?_)
        refine j_if_ne (pc' := 27) q179_24 rfl (fun c6 => ?_) (fun c6 => ?_)
        · refine j_iconst (pc' := 28) q179_27 rfl ?_
          exact j_iret q179_28 rfl
        · refine j_iload_n (pc' := 30) q179_29 rfl rfl ?_
          refine j_aload_n (pc' := 31) q179_30 rfl (by decide) rfl ?_
          refine j_getr (k := 90) (q := 91) (pc' := 34) q179_31 rfl (hρ 90 0 91 rfl) rfl ?_
          refine j_bipush (pc' := 36) q179_34 rfl ?_
          refine j_iconst (pc' := 37) q179_36 rfl ?_
          refine j_iload_n (pc' := 38) q179_37 rfl rfl ?_
          refine j_imul (pc' := 39) q179_38 rfl ?_
          refine j_iadd (pc' := 40) q179_39 rfl ?_
          refine j_iconst (pc' := 41) q179_40 rfl ?_
          refine j_iadd (pc' := 42) q179_41 rfl ?_
          refine j_if (fun hi7 => ?_) (fun _ => j_none)
          refine j_iald (k := 91) (N := 550) (pc' := 43) q179_42 rfl hi7 rfl ?_
          refine j_iconst (pc' := 44) q179_43 rfl ?_
          refine j_iadd (pc' := 45) q179_44 rfl ?_
          refine j_imul (pc' := 46) q179_45 rfl ?_
          refine j_nameI (fun v8 => ?_)
          refine j_istore4 (pc' := 48) q179_46 rfl (Nat.le_of_ble_eq_true rfl) rfl ?_
          refine j_aload_n (pc' := 49) q179_48 rfl (by decide) rfl ?_
          refine j_getr (k := 90) (q := 91) (pc' := 52) q179_49 rfl (hρ 90 0 91 rfl) rfl ?_
          refine j_bipush (pc' := 54) q179_52 rfl ?_
          refine j_iconst (pc' := 55) q179_54 rfl ?_
          refine j_iload_n (pc' := 56) q179_55 rfl rfl ?_
          refine j_imul (pc' := 57) q179_56 rfl ?_
          refine j_iadd (pc' := 58) q179_57 rfl ?_
          refine j_if (fun hi9 => ?_) (fun _ => j_none)
          refine j_iald (k := 91) (N := 550) (pc' := 59) q179_58 rfl hi9 rfl ?_
          refine j_iload_n (pc' := 60) q179_59 rfl rfl ?_
          refine j_icmp_lt (pc' := 63) q179_60 rfl (fun c10 => ?_) (fun c10 => ?_)
          · refine j_bipush (pc' := 77) q179_75 rfl ?_
            exact j_iret q179_77 rfl
          · refine j_aload_n (pc' := 64) q179_63 rfl (by decide) rfl ?_
            refine j_getr (k := 90) (q := 91) (pc' := 67) q179_64 rfl (hρ 90 0 91 rfl) rfl ?_
            refine j_bipush (pc' := 69) q179_67 rfl ?_
            refine j_iald (k := 91) (N := 550) (pc' := 70) q179_69 rfl (by decide) rfl ?_
            refine j_iload (pc' := 72) q179_70 rfl rfl ?_
            refine j_icmp_ge (pc' := 75) q179_72 rfl (fun c11 => ?_) (fun c11 => ?_)
            · refine j_aload_n (pc' := 79) q179_78 rfl (by decide) rfl ?_
              refine j_getr (k := 90) (q := 91) (pc' := 82) q179_79 rfl (hρ 90 0 91 rfl) rfl ?_
              refine j_bipush (pc' := 84) q179_82 rfl ?_
              refine j_iconst (pc' := 85) q179_84 rfl ?_
              refine j_iload_n (pc' := 86) q179_85 rfl rfl ?_
              refine j_imul (pc' := 87) q179_86 rfl ?_
              refine j_iadd (pc' := 88) q179_87 rfl ?_
              refine j_dup2 (pc' := 89) q179_88 ⟨rfl, rfl⟩ rfl ?_
              refine j_if (fun hi12 => ?_) (fun _ => j_none)
              refine j_iald (k := 91) (N := 550) (pc' := 90) q179_89 rfl hi12 rfl ?_
              refine j_iload_n (pc' := 91) q179_90 rfl rfl ?_
              refine j_isub (pc' := 92) q179_91 rfl ?_
              refine j_if (fun hi13 => ?_) (fun _ => j_none)
              refine j_iast (k := 91) (N := 550) (pc' := 93) q179_92 rfl hi13 rfl ?_
              refine j_nameS (fun τ14 => ?_)
              refine j_aload_n (pc' := 94) q179_93 rfl (by decide) rfl ?_
              refine j_getr (k := 90) (q := 91) (pc' := 97) q179_94 rfl (hρ 90 0 91 rfl) rfl ?_
              refine j_bipush (pc' := 99) q179_97 rfl ?_
              refine j_dup2 (pc' := 100) q179_99 ⟨rfl, rfl⟩ rfl ?_
              refine j_iald (k := 91) (N := 550) (pc' := 101) q179_100 rfl (by decide) rfl ?_
              refine j_iload (pc' := 103) q179_101 rfl rfl ?_
              refine j_isub (pc' := 104) q179_103 rfl ?_
              refine j_iast (k := 91) (N := 550) (pc' := 105) q179_104 rfl (by decide) rfl ?_
              refine j_nameS (fun τ15 => ?_)
              refine j_aload_n (pc' := 106) q179_105 rfl (by decide) rfl ?_
              refine j_iconst (pc' := 107) q179_106 rfl ?_
              refine j_iload_n (pc' := 108) q179_107 rfl rfl ?_
              refine j_iload_n (pc' := 109) q179_108 rfl rfl ?_
              refine j_iload_n (pc' := 110) q179_109 rfl rfl ?_
              refine j_callV4_v (d := d + 1) (pc' := 113) q179_110 rfl (Nat.le_of_ble_eq_true rfl) (Nat.le_of_ble_eq_true rfl) rfl (t_M_lays hρ (d + 1) _ _ _ _ _) (fun r16 => ?_)
              refine j_aload_n (pc' := 114) q179_113 rfl (by decide) rfl ?_
              refine j_getr (k := 90) (q := 91) (pc' := 117) q179_114 rfl (hρ 90 0 91 rfl) rfl ?_
              refine j_bipush (pc' := 119) q179_117 rfl ?_
              refine j_iald (k := 91) (N := 550) (pc' := 120) q179_119 rfl (by decide) rfl ?_
              exact j_iret q179_120 rfl
            · refine j_bipush (pc' := 77) q179_75 rfl ?_
              exact j_iret q179_77 rfl
