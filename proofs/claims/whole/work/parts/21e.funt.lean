/-! the abstract machine runs as the functions say, by wip/whole/gen_fun.py -/
theorem q120_0 : z_fi (z_mi 120) 0 = some (0, .iload_n 1, 0, 0, 0, 0, 0) := rfl
theorem q120_1 : z_fi (z_mi 120) 1 = some (1, .iconst 0, 0, 0, 0, 0, 0) := rfl
theorem q120_2 : z_fi (z_mi 120) 2 = some (2, .bipush 60, 0, 0, 0, 60, 0) := rfl
theorem q120_4 : z_fi (z_mi 120) 4 = some (4, .invokestatic 60, 1, 99, 3, 0, 0) := rfl
theorem q120_7 : z_fi (z_mi 120) 7 = some (7, .ifCond .ne 5, 0, 12, 0, 0, 0) := rfl
theorem q120_10 : z_fi (z_mi 120) 10 = some (10, .iconst (-1), 0, 0, 0, (-1), 0) := rfl
theorem q120_11 : z_fi (z_mi 120) 11 = some (11, .ireturn, 0, 0, 0, 0, 0) := rfl
theorem q120_12 : z_fi (z_mi 120) 12 = some (12, .aload_n 0, 0, 0, 0, 0, 0) := rfl
theorem q120_13 : z_fi (z_mi 120) 13 = some (13, .getfield 10, 0, 9, 0, 0, 0) := rfl
theorem q120_16 : z_fi (z_mi 120) 16 = some (16, .getfield 120, 0, 0, 10, 0, 0) := rfl
theorem q120_19 : z_fi (z_mi 120) 19 = some (19, .iload_n 1, 0, 0, 0, 0, 0) := rfl
theorem q120_20 : z_fi (z_mi 120) 20 = some (20, .iadd, 0, 0, 0, 0, 0) := rfl
theorem q120_21 : z_fi (z_mi 120) 21 = some (21, .sipush 1000, 0, 0, 0, 1000, 0) := rfl
theorem q120_24 : z_fi (z_mi 120) 24 = some (24, .if_icmp .lt 6, 0, 30, 0, 0, 0) := rfl
theorem q120_27 : z_fi (z_mi 120) 27 = some (27, .bipush (-3), 0, 0, 0, (-3), 0) := rfl
theorem q120_29 : z_fi (z_mi 120) 29 = some (29, .ireturn, 0, 0, 0, 0, 0) := rfl
theorem q120_30 : z_fi (z_mi 120) 30 = some (30, .aload_n 0, 0, 0, 0, 0, 0) := rfl
theorem q120_31 : z_fi (z_mi 120) 31 = some (31, .getfield 10, 0, 9, 0, 0, 0) := rfl
theorem q120_34 : z_fi (z_mi 120) 34 = some (34, .invokevirtual 192, 0, 30, 0, 0, 0) := rfl
theorem q120_37 : z_fi (z_mi 120) 37 = some (37, .istore_n 2, 0, 0, 0, 0, 0) := rfl
theorem q120_38 : z_fi (z_mi 120) 38 = some (38, .aload_n 0, 0, 0, 0, 0, 0) := rfl
theorem q120_39 : z_fi (z_mi 120) 39 = some (39, .getfield 10, 0, 9, 0, 0, 0) := rfl
theorem q120_42 : z_fi (z_mi 120) 42 = some (42, .iload_n 1, 0, 0, 0, 0, 0) := rfl
theorem q120_43 : z_fi (z_mi 120) 43 = some (43, .invokevirtual 196, 0, 19, 1, 0, 0) := rfl
theorem q120_46 : z_fi (z_mi 120) 46 = some (46, .aload_n 0, 0, 0, 0, 0, 0) := rfl
theorem q120_47 : z_fi (z_mi 120) 47 = some (47, .getfield 10, 0, 9, 0, 0, 0) := rfl
theorem q120_50 : z_fi (z_mi 120) 50 = some (50, .invokevirtual 192, 0, 30, 0, 0, 0) := rfl
theorem q120_53 : z_fi (z_mi 120) 53 = some (53, .iload_n 2, 0, 0, 0, 0, 0) := rfl
theorem q120_54 : z_fi (z_mi 120) 54 = some (54, .isub, 0, 0, 0, 0, 0) := rfl
theorem q120_55 : z_fi (z_mi 120) 55 = some (55, .ireturn, 0, 0, 0, 0, 0) := rfl
set_option maxRecDepth 20000 in
set_option maxHeartbeats 4000000 in
theorem t_Y_week {xL : Nat} {xs : Nat → Int32} {ρ : Nat → Nat → Option Nat} (hρ : z_hR ρ) (d : Nat) (a1 : Int32) (σ : zS) : ∀ q, f_Y_week a1 σ = some q → z_ec xL xs ρ (d + 7) 120 [.ref 0, .int a1] σ (em_i q) := by
  refine j_of (W := [.ref 0, .int a1, .null]) (fun L hL => ?_) ?_
  · subst hL; exact z_vl_0 _ 1 rfl
  · unfold f_Y_week
    refine j_iload_n (pc' := 1) q120_0 rfl rfl ?_
    refine j_iconst (pc' := 2) q120_1 rfl ?_
    refine j_bipush (pc' := 4) q120_2 rfl ?_
    refine j_callS3_pi (d := d + 6) (pc' := 7) q120_4 (Or.inl rfl) (Nat.le_of_ble_eq_true rfl) (Nat.le_of_ble_eq_true rfl) rfl (t_Y_isIn hρ (d + 6) _ _ _ _) (fun r1 => ?_)
    refine j_if_ne (pc' := 10) q120_7 rfl (fun c2 => ?_) (fun c2 => ?_)
    · refine j_iconst (pc' := 11) q120_10 rfl ?_
      exact j_iret q120_11 rfl
    · refine j_aload_n (pc' := 13) q120_12 rfl (by decide) rfl ?_
      refine j_getr (k := 0) (q := 1) (pc' := 16) q120_13 rfl (hρ 0 0 1 rfl) rfl ?_
      refine j_getf (k := 1) (pc' := 19) q120_16 rfl rfl ?_
      refine j_iload_n (pc' := 20) q120_19 rfl rfl ?_
      refine j_iadd (pc' := 21) q120_20 rfl ?_
      refine j_sipush (pc' := 24) q120_21 rfl ?_
      refine j_icmp_lt (pc' := 27) q120_24 rfl (fun c3 => ?_) (fun c3 => ?_)
      · refine j_aload_n (pc' := 31) q120_30 rfl (by decide) rfl ?_
        refine j_getr (k := 0) (q := 1) (pc' := 34) q120_31 rfl (hρ 0 0 1 rfl) rfl ?_
        refine j_callV0_pi (d := d + 6) (pc' := 37) q120_34 rfl (Nat.le_of_ble_eq_true rfl) (Nat.le_of_ble_eq_true rfl) rfl (t_G_ripeOfAll_1 hρ (d + 6) _) (fun r4 => ?_)
        refine j_istore2 (pc' := 38) q120_37 rfl (Nat.le_of_ble_eq_true rfl) rfl ?_
        refine j_aload_n (pc' := 39) q120_38 rfl (by decide) rfl ?_
        refine j_getr (k := 0) (q := 1) (pc' := 42) q120_39 rfl (hρ 0 0 1 rfl) rfl ?_
        refine j_iload_n (pc' := 43) q120_42 rfl rfl ?_
        refine j_callV1_v (d := d + 6) (pc' := 46) q120_43 rfl (Nat.le_of_ble_eq_true rfl) (Nat.le_of_ble_eq_true rfl) rfl (t_G_goOn_1 hρ (d + 0) _ _) (fun r5 => ?_)
        refine j_aload_n (pc' := 47) q120_46 rfl (by decide) rfl ?_
        refine j_getr (k := 0) (q := 1) (pc' := 50) q120_47 rfl (hρ 0 0 1 rfl) rfl ?_
        refine j_callV0_pi (d := d + 6) (pc' := 53) q120_50 rfl (Nat.le_of_ble_eq_true rfl) (Nat.le_of_ble_eq_true rfl) rfl (t_G_ripeOfAll_1 hρ (d + 6) _) (fun r6 => ?_)
        refine j_iload_n (pc' := 54) q120_53 rfl rfl ?_
        refine j_isub (pc' := 55) q120_54 rfl ?_
        exact j_iret q120_55 rfl
      · refine j_bipush (pc' := 29) q120_27 rfl ?_
        exact j_iret q120_29 rfl
theorem q196_0 : z_fi (z_mi 196) 0 = some (0, .aload_n 0, 0, 0, 0, 0, 0) := rfl
theorem q196_1 : z_fi (z_mi 196) 1 = some (1, .getfield 7, 0, 10, 0, 0, 0) := rfl
theorem q196_4 : z_fi (z_mi 196) 4 = some (4, .iload_n 1, 0, 0, 0, 0, 0) := rfl
theorem q196_5 : z_fi (z_mi 196) 5 = some (5, .bipush 106, 0, 0, 0, 106, 0) := rfl
theorem q196_7 : z_fi (z_mi 196) 7 = some (7, .iadd, 0, 0, 0, 0, 0) := rfl
theorem q196_8 : z_fi (z_mi 196) 8 = some (8, .iaload, 0, 0, 0, 0, 0) := rfl
theorem q196_9 : z_fi (z_mi 196) 9 = some (9, .aload_n 0, 0, 0, 0, 0, 0) := rfl
theorem q196_10 : z_fi (z_mi 196) 10 = some (10, .getfield 7, 0, 10, 0, 0, 0) := rfl
theorem q196_13 : z_fi (z_mi 196) 13 = some (13, .iload_n 1, 0, 0, 0, 0, 0) := rfl
theorem q196_14 : z_fi (z_mi 196) 14 = some (14, .bipush 106, 0, 0, 0, 106, 0) := rfl
theorem q196_16 : z_fi (z_mi 196) 16 = some (16, .iadd, 0, 0, 0, 0, 0) := rfl
theorem q196_17 : z_fi (z_mi 196) 17 = some (17, .iconst 1, 0, 0, 0, 1, 0) := rfl
theorem q196_18 : z_fi (z_mi 196) 18 = some (18, .iadd, 0, 0, 0, 0, 0) := rfl
theorem q196_19 : z_fi (z_mi 196) 19 = some (19, .iaload, 0, 0, 0, 0, 0) := rfl
theorem q196_20 : z_fi (z_mi 196) 20 = some (20, .iadd, 0, 0, 0, 0, 0) := rfl
theorem q196_21 : z_fi (z_mi 196) 21 = some (21, .aload_n 0, 0, 0, 0, 0, 0) := rfl
theorem q196_22 : z_fi (z_mi 196) 22 = some (22, .getfield 7, 0, 10, 0, 0, 0) := rfl
theorem q196_25 : z_fi (z_mi 196) 25 = some (25, .iload_n 1, 0, 0, 0, 0, 0) := rfl
theorem q196_26 : z_fi (z_mi 196) 26 = some (26, .bipush 106, 0, 0, 0, 106, 0) := rfl
theorem q196_28 : z_fi (z_mi 196) 28 = some (28, .iadd, 0, 0, 0, 0, 0) := rfl
theorem q196_29 : z_fi (z_mi 196) 29 = some (29, .iconst 2, 0, 0, 0, 2, 0) := rfl
theorem q196_30 : z_fi (z_mi 196) 30 = some (30, .iadd, 0, 0, 0, 0, 0) := rfl
theorem q196_31 : z_fi (z_mi 196) 31 = some (31, .iaload, 0, 0, 0, 0, 0) := rfl
theorem q196_32 : z_fi (z_mi 196) 32 = some (32, .iadd, 0, 0, 0, 0, 0) := rfl
theorem q196_33 : z_fi (z_mi 196) 33 = some (33, .ireturn, 0, 0, 0, 0, 0) := rfl
set_option maxRecDepth 20000 in
set_option maxHeartbeats 4000000 in
theorem t_M_ripeOn {xL : Nat} {xs : Nat → Int32} {ρ : Nat → Nat → Option Nat} (hρ : z_hR ρ) (d : Nat) (a1 : Int32) (σ : zS) : ∀ q, f_M_ripeOn a1 σ = some q → z_ec xL xs ρ (d + 0) 196 [.ref 90, .int a1] σ (em_pi σ q) := by
  refine j_of (W := [.ref 90, .int a1]) (fun L hL => ?_) ?_
  · subst hL; exact z_vl_0 _ 0 rfl
  · unfold f_M_ripeOn
    refine j_aload_n (pc' := 1) q196_0 rfl (by decide) rfl ?_
    refine j_getr (k := 90) (q := 91) (pc' := 4) q196_1 rfl (hρ 90 0 91 rfl) rfl ?_
    refine j_iload_n (pc' := 5) q196_4 rfl rfl ?_
    refine j_bipush (pc' := 7) q196_5 rfl ?_
    refine j_iadd (pc' := 8) q196_7 rfl ?_
    refine j_if (fun hi1 => ?_) (fun _ => j_none)
    refine j_iald (k := 91) (N := 550) (pc' := 9) q196_8 rfl hi1 rfl ?_
    refine j_aload_n (pc' := 10) q196_9 rfl (by decide) rfl ?_
    refine j_getr (k := 90) (q := 91) (pc' := 13) q196_10 rfl (hρ 90 0 91 rfl) rfl ?_
    refine j_iload_n (pc' := 14) q196_13 rfl rfl ?_
    refine j_bipush (pc' := 16) q196_14 rfl ?_
    refine j_iadd (pc' := 17) q196_16 rfl ?_
    refine j_iconst (pc' := 18) q196_17 rfl ?_
    refine j_iadd (pc' := 19) q196_18 rfl ?_
    refine j_if (fun hi2 => ?_) (fun _ => j_none)
    refine j_iald (k := 91) (N := 550) (pc' := 20) q196_19 rfl hi2 rfl ?_
    refine j_iadd (pc' := 21) q196_20 rfl ?_
    refine j_aload_n (pc' := 22) q196_21 rfl (by decide) rfl ?_
    refine j_getr (k := 90) (q := 91) (pc' := 25) q196_22 rfl (hρ 90 0 91 rfl) rfl ?_
    refine j_iload_n (pc' := 26) q196_25 rfl rfl ?_
    refine j_bipush (pc' := 28) q196_26 rfl ?_
    refine j_iadd (pc' := 29) q196_28 rfl ?_
    refine j_iconst (pc' := 30) q196_29 rfl ?_
    refine j_iadd (pc' := 31) q196_30 rfl ?_
    refine j_if (fun hi3 => ?_) (fun _ => j_none)
    refine j_iald (k := 91) (N := 550) (pc' := 32) q196_31 rfl hi3 rfl ?_
    refine j_iadd (pc' := 33) q196_32 rfl ?_
    exact j_piret q196_33 rfl
theorem q189_0 : z_fi (z_mi 189) 0 = some (0, .aload_n 0, 0, 0, 0, 0, 0) := rfl
theorem q189_1 : z_fi (z_mi 189) 1 = some (1, .getfield 7, 0, 10, 0, 0, 0) := rfl
theorem q189_4 : z_fi (z_mi 189) 4 = some (4, .iload_n 1, 0, 0, 0, 0, 0) := rfl
theorem q189_5 : z_fi (z_mi 189) 5 = some (5, .bipush 80, 0, 0, 0, 80, 0) := rfl
theorem q189_7 : z_fi (z_mi 189) 7 = some (7, .iadd, 0, 0, 0, 0, 0) := rfl
theorem q189_8 : z_fi (z_mi 189) 8 = some (8, .iaload, 0, 0, 0, 0, 0) := rfl
theorem q189_9 : z_fi (z_mi 189) 9 = some (9, .iload_n 2, 0, 0, 0, 0, 0) := rfl
theorem q189_10 : z_fi (z_mi 189) 10 = some (10, .ishr, 0, 0, 0, 0, 0) := rfl
theorem q189_11 : z_fi (z_mi 189) 11 = some (11, .iconst 1, 0, 0, 0, 1, 0) := rfl
theorem q189_12 : z_fi (z_mi 189) 12 = some (12, .iand, 0, 0, 0, 0, 0) := rfl
theorem q189_13 : z_fi (z_mi 189) 13 = some (13, .iconst 1, 0, 0, 0, 1, 0) := rfl
theorem q189_14 : z_fi (z_mi 189) 14 = some (14, .if_icmp .ne 7, 0, 21, 0, 0, 0) := rfl
theorem q189_17 : z_fi (z_mi 189) 17 = some (17, .iconst 1, 0, 0, 0, 1, 0) := rfl
theorem q189_18 : z_fi (z_mi 189) 18 = some (18, .goto 4, 0, 22, 0, 0, 0) := rfl
theorem q189_21 : z_fi (z_mi 189) 21 = some (21, .iconst 0, 0, 0, 0, 0, 0) := rfl
theorem q189_22 : z_fi (z_mi 189) 22 = some (22, .ireturn, 0, 0, 0, 0, 0) := rfl
set_option maxRecDepth 20000 in
set_option maxHeartbeats 4000000 in
theorem t_M_isWalled {xL : Nat} {xs : Nat → Int32} {ρ : Nat → Nat → Option Nat} (hρ : z_hR ρ) (d : Nat) (a1 : Int32) (a2 : Int32) (σ : zS) : ∀ q, f_M_isWalled a1 a2 σ = some q → z_ec xL xs ρ (d + 0) 189 [.ref 90, .int a1, .int a2] σ (em_pi σ q) := by
  refine j_of (W := [.ref 90, .int a1, .int a2]) (fun L hL => ?_) ?_
  · subst hL; exact z_vl_0 _ 0 rfl
  · unfold f_M_isWalled
    refine j_aload_n (pc' := 1) q189_0 rfl (by decide) rfl ?_
    refine j_getr (k := 90) (q := 91) (pc' := 4) q189_1 rfl (hρ 90 0 91 rfl) rfl ?_
    refine j_iload_n (pc' := 5) q189_4 rfl rfl ?_
    refine j_bipush (pc' := 7) q189_5 rfl ?_
    refine j_iadd (pc' := 8) q189_7 rfl ?_
    refine j_if (fun hi1 => ?_) (fun _ => j_none)
    refine j_iald (k := 91) (N := 550) (pc' := 9) q189_8 rfl hi1 rfl ?_
    refine j_iload_n (pc' := 10) q189_9 rfl rfl ?_
    refine j_ishr (pc' := 11) q189_10 rfl ?_
    refine j_iconst (pc' := 12) q189_11 rfl ?_
    refine j_iand (pc' := 13) q189_12 rfl ?_
    refine j_iconst (pc' := 14) q189_13 rfl ?_
    refine j_icmp_ne (pc' := 17) q189_14 rfl (fun c2 => ?_) (fun c2 => ?_)
    · refine j_iconst (pc' := 18) q189_17 rfl ?_
      refine j_goto q189_18 rfl ?_
      exact j_pzret q189_22 rfl (Or.inr rfl)
    · refine j_iconst (pc' := 22) q189_21 rfl ?_
      exact j_pzret q189_22 rfl (Or.inl rfl)
theorem q190_0 : z_fi (z_mi 190) 0 = some (0, .iconst 0, 0, 0, 0, 0, 0) := rfl
theorem q190_1 : z_fi (z_mi 190) 1 = some (1, .istore 4, 0, 0, 0, 0, 0) := rfl
theorem q190_3 : z_fi (z_mi 190) 3 = some (3, .iload_n 2, 0, 0, 0, 0, 0) := rfl
theorem q190_4 : z_fi (z_mi 190) 4 = some (4, .aload_n 0, 0, 0, 0, 0, 0) := rfl
theorem q190_5 : z_fi (z_mi 190) 5 = some (5, .getfield 13, 0, 10, 1, 0, 0) := rfl
theorem q190_8 : z_fi (z_mi 190) 8 = some (8, .if_icmp .lt 46, 0, 54, 0, 0, 0) := rfl
theorem q190_11 : z_fi (z_mi 190) 11 = some (11, .aload_n 0, 0, 0, 0, 0, 0) := rfl
theorem q190_12 : z_fi (z_mi 190) 12 = some (12, .iload_n 1, 0, 0, 0, 0, 0) := rfl
theorem q190_13 : z_fi (z_mi 190) 13 = some (13, .iconst 2, 0, 0, 0, 2, 0) := rfl
theorem q190_14 : z_fi (z_mi 190) 14 = some (14, .iload_n 2, 0, 0, 0, 0, 0) := rfl
theorem q190_15 : z_fi (z_mi 190) 15 = some (15, .aload_n 0, 0, 0, 0, 0, 0) := rfl
theorem q190_16 : z_fi (z_mi 190) 16 = some (16, .getfield 13, 0, 10, 1, 0, 0) := rfl
theorem q190_19 : z_fi (z_mi 190) 19 = some (19, .isub, 0, 0, 0, 0, 0) := rfl
theorem q190_20 : z_fi (z_mi 190) 20 = some (20, .imul, 0, 0, 0, 0, 0) := rfl
theorem q190_21 : z_fi (z_mi 190) 21 = some (21, .iconst 1, 0, 0, 0, 1, 0) := rfl
theorem q190_22 : z_fi (z_mi 190) 22 = some (22, .iadd, 0, 0, 0, 0, 0) := rfl
theorem q190_23 : z_fi (z_mi 190) 23 = some (23, .invokevirtual 202, 0, 189, 2, 0, 0) := rfl
theorem q190_26 : z_fi (z_mi 190) 26 = some (26, .ifCond .ne 28, 0, 54, 0, 0, 0) := rfl
theorem q190_29 : z_fi (z_mi 190) 29 = some (29, .iload 4, 0, 0, 0, 0, 0) := rfl
theorem q190_31 : z_fi (z_mi 190) 31 = some (31, .aload_n 0, 0, 0, 0, 0, 0) := rfl
theorem q190_32 : z_fi (z_mi 190) 32 = some (32, .iload_n 1, 0, 0, 0, 0, 0) := rfl
theorem q190_33 : z_fi (z_mi 190) 33 = some (33, .iload_n 2, 0, 0, 0, 0, 0) := rfl
theorem q190_34 : z_fi (z_mi 190) 34 = some (34, .aload_n 0, 0, 0, 0, 0, 0) := rfl
theorem q190_35 : z_fi (z_mi 190) 35 = some (35, .getfield 13, 0, 10, 1, 0, 0) := rfl
theorem q190_38 : z_fi (z_mi 190) 38 = some (38, .isub, 0, 0, 0, 0, 0) := rfl
theorem q190_39 : z_fi (z_mi 190) 39 = some (39, .invokevirtual 159, 0, 169, 2, 0, 0) := rfl
theorem q190_42 : z_fi (z_mi 190) 42 = some (42, .iload_n 3, 0, 0, 0, 0, 0) := rfl
theorem q190_43 : z_fi (z_mi 190) 43 = some (43, .if_icmp .ne 7, 0, 50, 0, 0, 0) := rfl
theorem q190_46 : z_fi (z_mi 190) 46 = some (46, .iconst 1, 0, 0, 0, 1, 0) := rfl
theorem q190_47 : z_fi (z_mi 190) 47 = some (47, .goto 4, 0, 51, 0, 0, 0) := rfl
theorem q190_50 : z_fi (z_mi 190) 50 = some (50, .iconst 0, 0, 0, 0, 0, 0) := rfl
theorem q190_51 : z_fi (z_mi 190) 51 = some (51, .iadd, 0, 0, 0, 0, 0) := rfl
theorem q190_52 : z_fi (z_mi 190) 52 = some (52, .istore 4, 0, 0, 0, 0, 0) := rfl
theorem q190_54 : z_fi (z_mi 190) 54 = some (54, .iload_n 2, 0, 0, 0, 0, 0) := rfl
theorem q190_55 : z_fi (z_mi 190) 55 = some (55, .aload_n 0, 0, 0, 0, 0, 0) := rfl
theorem q190_56 : z_fi (z_mi 190) 56 = some (56, .getfield 13, 0, 10, 1, 0, 0) := rfl
theorem q190_59 : z_fi (z_mi 190) 59 = some (59, .irem, 0, 0, 0, 0, 0) := rfl
theorem q190_60 : z_fi (z_mi 190) 60 = some (60, .ifCond .le 38, 0, 98, 0, 0, 0) := rfl
theorem q190_63 : z_fi (z_mi 190) 63 = some (63, .aload_n 0, 0, 0, 0, 0, 0) := rfl
theorem q190_64 : z_fi (z_mi 190) 64 = some (64, .iload_n 1, 0, 0, 0, 0, 0) := rfl
theorem q190_65 : z_fi (z_mi 190) 65 = some (65, .iconst 2, 0, 0, 0, 2, 0) := rfl
theorem q190_66 : z_fi (z_mi 190) 66 = some (66, .iload_n 2, 0, 0, 0, 0, 0) := rfl
theorem q190_67 : z_fi (z_mi 190) 67 = some (67, .iconst 1, 0, 0, 0, 1, 0) := rfl
theorem q190_68 : z_fi (z_mi 190) 68 = some (68, .isub, 0, 0, 0, 0, 0) := rfl
theorem q190_69 : z_fi (z_mi 190) 69 = some (69, .imul, 0, 0, 0, 0, 0) := rfl
theorem q190_70 : z_fi (z_mi 190) 70 = some (70, .invokevirtual 202, 0, 189, 2, 0, 0) := rfl
theorem q190_73 : z_fi (z_mi 190) 73 = some (73, .ifCond .ne 25, 0, 98, 0, 0, 0) := rfl
theorem q190_76 : z_fi (z_mi 190) 76 = some (76, .iload 4, 0, 0, 0, 0, 0) := rfl
theorem q190_78 : z_fi (z_mi 190) 78 = some (78, .aload_n 0, 0, 0, 0, 0, 0) := rfl
theorem q190_79 : z_fi (z_mi 190) 79 = some (79, .iload_n 1, 0, 0, 0, 0, 0) := rfl
theorem q190_80 : z_fi (z_mi 190) 80 = some (80, .iload_n 2, 0, 0, 0, 0, 0) := rfl
theorem q190_81 : z_fi (z_mi 190) 81 = some (81, .iconst 1, 0, 0, 0, 1, 0) := rfl
theorem q190_82 : z_fi (z_mi 190) 82 = some (82, .isub, 0, 0, 0, 0, 0) := rfl
theorem q190_83 : z_fi (z_mi 190) 83 = some (83, .invokevirtual 159, 0, 169, 2, 0, 0) := rfl
theorem q190_86 : z_fi (z_mi 190) 86 = some (86, .iload_n 3, 0, 0, 0, 0, 0) := rfl
theorem q190_87 : z_fi (z_mi 190) 87 = some (87, .if_icmp .ne 7, 0, 94, 0, 0, 0) := rfl
theorem q190_90 : z_fi (z_mi 190) 90 = some (90, .iconst 1, 0, 0, 0, 1, 0) := rfl
theorem q190_91 : z_fi (z_mi 190) 91 = some (91, .goto 4, 0, 95, 0, 0, 0) := rfl
theorem q190_94 : z_fi (z_mi 190) 94 = some (94, .iconst 0, 0, 0, 0, 0, 0) := rfl
theorem q190_95 : z_fi (z_mi 190) 95 = some (95, .iadd, 0, 0, 0, 0, 0) := rfl
theorem q190_96 : z_fi (z_mi 190) 96 = some (96, .istore 4, 0, 0, 0, 0, 0) := rfl
set_option maxRecDepth 8000 in
theorem q190_98 : z_fi (z_mi 190) 98 = some (98, .iload_n 2, 0, 0, 0, 0, 0) := rfl
set_option maxRecDepth 8000 in
theorem q190_99 : z_fi (z_mi 190) 99 = some (99, .aload_n 0, 0, 0, 0, 0, 0) := rfl
set_option maxRecDepth 8000 in
theorem q190_100 : z_fi (z_mi 190) 100 = some (100, .getfield 13, 0, 10, 1, 0, 0) := rfl
set_option maxRecDepth 8000 in
theorem q190_103 : z_fi (z_mi 190) 103 = some (103, .irem, 0, 0, 0, 0, 0) := rfl
set_option maxRecDepth 8000 in
theorem q190_104 : z_fi (z_mi 190) 104 = some (104, .iconst 1, 0, 0, 0, 1, 0) := rfl
set_option maxRecDepth 8000 in
theorem q190_105 : z_fi (z_mi 190) 105 = some (105, .iadd, 0, 0, 0, 0, 0) := rfl
set_option maxRecDepth 8000 in
theorem q190_106 : z_fi (z_mi 190) 106 = some (106, .aload_n 0, 0, 0, 0, 0, 0) := rfl
set_option maxRecDepth 8000 in
theorem q190_107 : z_fi (z_mi 190) 107 = some (107, .getfield 13, 0, 10, 1, 0, 0) := rfl
set_option maxRecDepth 8000 in
theorem q190_110 : z_fi (z_mi 190) 110 = some (110, .if_icmp .ge 36, 0, 146, 0, 0, 0) := rfl
set_option maxRecDepth 8000 in
theorem q190_113 : z_fi (z_mi 190) 113 = some (113, .aload_n 0, 0, 0, 0, 0, 0) := rfl
set_option maxRecDepth 8000 in
theorem q190_114 : z_fi (z_mi 190) 114 = some (114, .iload_n 1, 0, 0, 0, 0, 0) := rfl
set_option maxRecDepth 8000 in
theorem q190_115 : z_fi (z_mi 190) 115 = some (115, .iconst 2, 0, 0, 0, 2, 0) := rfl
set_option maxRecDepth 8000 in
theorem q190_116 : z_fi (z_mi 190) 116 = some (116, .iload_n 2, 0, 0, 0, 0, 0) := rfl
set_option maxRecDepth 8000 in
theorem q190_117 : z_fi (z_mi 190) 117 = some (117, .imul, 0, 0, 0, 0, 0) := rfl
set_option maxRecDepth 8000 in
theorem q190_118 : z_fi (z_mi 190) 118 = some (118, .invokevirtual 202, 0, 189, 2, 0, 0) := rfl
set_option maxRecDepth 8000 in
theorem q190_121 : z_fi (z_mi 190) 121 = some (121, .ifCond .ne 25, 0, 146, 0, 0, 0) := rfl
set_option maxRecDepth 8000 in
theorem q190_124 : z_fi (z_mi 190) 124 = some (124, .iload 4, 0, 0, 0, 0, 0) := rfl
set_option maxRecDepth 8000 in
theorem q190_126 : z_fi (z_mi 190) 126 = some (126, .aload_n 0, 0, 0, 0, 0, 0) := rfl
set_option maxRecDepth 8000 in
theorem q190_127 : z_fi (z_mi 190) 127 = some (127, .iload_n 1, 0, 0, 0, 0, 0) := rfl
set_option maxRecDepth 8000 in
theorem q190_128 : z_fi (z_mi 190) 128 = some (128, .iload_n 2, 0, 0, 0, 0, 0) := rfl
set_option maxRecDepth 8000 in
theorem q190_129 : z_fi (z_mi 190) 129 = some (129, .iconst 1, 0, 0, 0, 1, 0) := rfl
set_option maxRecDepth 8000 in
theorem q190_130 : z_fi (z_mi 190) 130 = some (130, .iadd, 0, 0, 0, 0, 0) := rfl
set_option maxRecDepth 8000 in
theorem q190_131 : z_fi (z_mi 190) 131 = some (131, .invokevirtual 159, 0, 169, 2, 0, 0) := rfl
set_option maxRecDepth 8000 in
theorem q190_134 : z_fi (z_mi 190) 134 = some (134, .iload_n 3, 0, 0, 0, 0, 0) := rfl
set_option maxRecDepth 8000 in
theorem q190_135 : z_fi (z_mi 190) 135 = some (135, .if_icmp .ne 7, 0, 142, 0, 0, 0) := rfl
set_option maxRecDepth 8000 in
theorem q190_138 : z_fi (z_mi 190) 138 = some (138, .iconst 1, 0, 0, 0, 1, 0) := rfl
set_option maxRecDepth 8000 in
theorem q190_139 : z_fi (z_mi 190) 139 = some (139, .goto 4, 0, 143, 0, 0, 0) := rfl
set_option maxRecDepth 8000 in
theorem q190_142 : z_fi (z_mi 190) 142 = some (142, .iconst 0, 0, 0, 0, 0, 0) := rfl
set_option maxRecDepth 8000 in
theorem q190_143 : z_fi (z_mi 190) 143 = some (143, .iadd, 0, 0, 0, 0, 0) := rfl
set_option maxRecDepth 8000 in
theorem q190_144 : z_fi (z_mi 190) 144 = some (144, .istore 4, 0, 0, 0, 0, 0) := rfl
set_option maxRecDepth 8000 in
theorem q190_146 : z_fi (z_mi 190) 146 = some (146, .iload_n 2, 0, 0, 0, 0, 0) := rfl
set_option maxRecDepth 8000 in
theorem q190_147 : z_fi (z_mi 190) 147 = some (147, .aload_n 0, 0, 0, 0, 0, 0) := rfl
set_option maxRecDepth 8000 in
theorem q190_148 : z_fi (z_mi 190) 148 = some (148, .getfield 13, 0, 10, 1, 0, 0) := rfl
set_option maxRecDepth 8000 in
theorem q190_151 : z_fi (z_mi 190) 151 = some (151, .iadd, 0, 0, 0, 0, 0) := rfl
set_option maxRecDepth 8000 in
theorem q190_152 : z_fi (z_mi 190) 152 = some (152, .aload_n 0, 0, 0, 0, 0, 0) := rfl
set_option maxRecDepth 8000 in
theorem q190_153 : z_fi (z_mi 190) 153 = some (153, .getfield 13, 0, 10, 1, 0, 0) := rfl
set_option maxRecDepth 8000 in
theorem q190_156 : z_fi (z_mi 190) 156 = some (156, .aload_n 0, 0, 0, 0, 0, 0) := rfl
set_option maxRecDepth 8000 in
theorem q190_157 : z_fi (z_mi 190) 157 = some (157, .getfield 17, 0, 10, 2, 0, 0) := rfl
set_option maxRecDepth 8000 in
theorem q190_160 : z_fi (z_mi 190) 160 = some (160, .imul, 0, 0, 0, 0, 0) := rfl
set_option maxRecDepth 8000 in
theorem q190_161 : z_fi (z_mi 190) 161 = some (161, .if_icmp .ge 41, 0, 202, 0, 0, 0) := rfl
set_option maxRecDepth 8000 in
theorem q190_164 : z_fi (z_mi 190) 164 = some (164, .aload_n 0, 0, 0, 0, 0, 0) := rfl
set_option maxRecDepth 8000 in
theorem q190_165 : z_fi (z_mi 190) 165 = some (165, .iload_n 1, 0, 0, 0, 0, 0) := rfl
set_option maxRecDepth 8000 in
theorem q190_166 : z_fi (z_mi 190) 166 = some (166, .iconst 2, 0, 0, 0, 2, 0) := rfl
set_option maxRecDepth 8000 in
theorem q190_167 : z_fi (z_mi 190) 167 = some (167, .iload_n 2, 0, 0, 0, 0, 0) := rfl
set_option maxRecDepth 8000 in
theorem q190_168 : z_fi (z_mi 190) 168 = some (168, .imul, 0, 0, 0, 0, 0) := rfl
set_option maxRecDepth 8000 in
theorem q190_169 : z_fi (z_mi 190) 169 = some (169, .iconst 1, 0, 0, 0, 1, 0) := rfl
set_option maxRecDepth 8000 in
theorem q190_170 : z_fi (z_mi 190) 170 = some (170, .iadd, 0, 0, 0, 0, 0) := rfl
set_option maxRecDepth 8000 in
theorem q190_171 : z_fi (z_mi 190) 171 = some (171, .invokevirtual 202, 0, 189, 2, 0, 0) := rfl
set_option maxRecDepth 8000 in
theorem q190_174 : z_fi (z_mi 190) 174 = some (174, .ifCond .ne 28, 0, 202, 0, 0, 0) := rfl
set_option maxRecDepth 8000 in
theorem q190_177 : z_fi (z_mi 190) 177 = some (177, .iload 4, 0, 0, 0, 0, 0) := rfl
set_option maxRecDepth 8000 in
theorem q190_179 : z_fi (z_mi 190) 179 = some (179, .aload_n 0, 0, 0, 0, 0, 0) := rfl
set_option maxRecDepth 8000 in
theorem q190_180 : z_fi (z_mi 190) 180 = some (180, .iload_n 1, 0, 0, 0, 0, 0) := rfl
set_option maxRecDepth 8000 in
theorem q190_181 : z_fi (z_mi 190) 181 = some (181, .iload_n 2, 0, 0, 0, 0, 0) := rfl
set_option maxRecDepth 8000 in
theorem q190_182 : z_fi (z_mi 190) 182 = some (182, .aload_n 0, 0, 0, 0, 0, 0) := rfl
set_option maxRecDepth 8000 in
theorem q190_183 : z_fi (z_mi 190) 183 = some (183, .getfield 13, 0, 10, 1, 0, 0) := rfl
set_option maxRecDepth 8000 in
theorem q190_186 : z_fi (z_mi 190) 186 = some (186, .iadd, 0, 0, 0, 0, 0) := rfl
set_option maxRecDepth 8000 in
theorem q190_187 : z_fi (z_mi 190) 187 = some (187, .invokevirtual 159, 0, 169, 2, 0, 0) := rfl
set_option maxRecDepth 8000 in
theorem q190_190 : z_fi (z_mi 190) 190 = some (190, .iload_n 3, 0, 0, 0, 0, 0) := rfl
set_option maxRecDepth 8000 in
theorem q190_191 : z_fi (z_mi 190) 191 = some (191, .if_icmp .ne 7, 0, 198, 0, 0, 0) := rfl
set_option maxRecDepth 8000 in
theorem q190_194 : z_fi (z_mi 190) 194 = some (194, .iconst 1, 0, 0, 0, 1, 0) := rfl
set_option maxRecDepth 8000 in
theorem q190_195 : z_fi (z_mi 190) 195 = some (195, .goto 4, 0, 199, 0, 0, 0) := rfl
set_option maxRecDepth 8000 in
theorem q190_198 : z_fi (z_mi 190) 198 = some (198, .iconst 0, 0, 0, 0, 0, 0) := rfl
set_option maxRecDepth 8000 in
theorem q190_199 : z_fi (z_mi 190) 199 = some (199, .iadd, 0, 0, 0, 0, 0) := rfl
set_option maxRecDepth 8000 in
theorem q190_200 : z_fi (z_mi 190) 200 = some (200, .istore 4, 0, 0, 0, 0, 0) := rfl
set_option maxRecDepth 8000 in
theorem q190_202 : z_fi (z_mi 190) 202 = some (202, .iload 4, 0, 0, 0, 0, 0) := rfl
set_option maxRecDepth 8000 in
theorem q190_204 : z_fi (z_mi 190) 204 = some (204, .ireturn, 0, 0, 0, 0, 0) := rfl
set_option maxRecDepth 20000 in
set_option maxHeartbeats 4000000 in
theorem t_M_nextWith {xL : Nat} {xs : Nat → Int32} {ρ : Nat → Nat → Option Nat} (hρ : z_hR ρ) (d : Nat) (a1 : Int32) (a2 : Int32) (a3 : Int32) (σ : zS) : ∀ q, f_M_nextWith a1 a2 a3 σ = some q → z_ec xL xs ρ (d + 1) 190 [.ref 90, .int a1, .int a2, .int a3] σ (em_pi σ q) := by
  refine j_of (W := [.ref 90, .int a1, .int a2, .int a3, .null]) (fun L hL => ?_) ?_
  · subst hL; exact z_vl_0 _ 1 rfl
  · unfold f_M_nextWith
    refine j_iconst (pc' := 1) q190_0 rfl ?_
    refine j_istore4 (pc' := 3) q190_1 rfl (Nat.le_of_ble_eq_true rfl) rfl ?_
    refine j_iload_n (pc' := 4) q190_3 rfl rfl ?_
    refine j_aload_n (pc' := 5) q190_4 rfl (by decide) rfl ?_
    refine j_getf (k := 90) (pc' := 8) q190_5 rfl rfl ?_
    refine j_join (T := Int32) 54 (fun t1 => [.ref 90, .int a1, .int a2, .int a3, .int t1]) (fun t1 => []) (fun t1 => σ) (fun t1 => ?_) (fun j1 hj1 => ?_)
    · show z_J _ _ _ _ _ _ _ _ _ _ _ _
      refine j_iload_n (pc' := 55) q190_54 rfl rfl ?_
      refine j_aload_n (pc' := 56) q190_55 rfl (by decide) rfl ?_
      refine j_getf (k := 90) (pc' := 59) q190_56 rfl rfl ?_
      refine j_if (fun _ => j_none) (fun hz2 => ?_)
      refine j_irem (pc' := 60) q190_59 hz2 rfl ?_
      refine j_join (T := Int32) 98 (fun t3 => [.ref 90, .int a1, .int a2, .int a3, .int t3]) (fun t3 => []) (fun t3 => σ) (fun t3 => ?_) (fun j3 hj3 => ?_)
      · show z_J _ _ _ _ _ _ _ _ _ _ _ _
        refine j_iload_n (pc' := 99) q190_98 rfl rfl ?_
        refine j_aload_n (pc' := 100) q190_99 rfl (by decide) rfl ?_
        refine j_getf (k := 90) (pc' := 103) q190_100 rfl rfl ?_
        refine j_if (fun _ => j_none) (fun hz4 => ?_)
        refine j_irem (pc' := 104) q190_103 hz4 rfl ?_
        refine j_iconst (pc' := 105) q190_104 rfl ?_
        refine j_iadd (pc' := 106) q190_105 rfl ?_
        refine j_aload_n (pc' := 107) q190_106 rfl (by decide) rfl ?_
        refine j_getf (k := 90) (pc' := 110) q190_107 rfl rfl ?_
        refine j_join (T := Int32) 146 (fun t5 => [.ref 90, .int a1, .int a2, .int a3, .int t5]) (fun t5 => []) (fun t5 => σ) (fun t5 => ?_) (fun j5 hj5 => ?_)
        · show z_J _ _ _ _ _ _ _ _ _ _ _ _
          refine j_iload_n (pc' := 147) q190_146 rfl rfl ?_
          refine j_aload_n (pc' := 148) q190_147 rfl (by decide) rfl ?_
          refine j_getf (k := 90) (pc' := 151) q190_148 rfl rfl ?_
          refine j_iadd (pc' := 152) q190_151 rfl ?_
          refine j_aload_n (pc' := 153) q190_152 rfl (by decide) rfl ?_
          refine j_getf (k := 90) (pc' := 156) q190_153 rfl rfl ?_
          refine j_aload_n (pc' := 157) q190_156 rfl (by decide) rfl ?_
          refine j_getf (k := 90) (pc' := 160) q190_157 rfl rfl ?_
          refine j_imul (pc' := 161) q190_160 rfl ?_
          refine j_icmp_ge (pc' := 164) q190_161 rfl (fun c6 => ?_) (fun c6 => ?_)
          · refine j_iload (pc' := 204) q190_202 rfl rfl ?_
            exact j_piret q190_204 rfl
          · refine j_aload_n (pc' := 165) q190_164 rfl (by decide) rfl ?_
            refine j_iload_n (pc' := 166) q190_165 rfl rfl ?_
            refine j_iconst (pc' := 167) q190_166 rfl ?_
            refine j_iload_n (pc' := 168) q190_167 rfl rfl ?_
            refine j_imul (pc' := 169) q190_168 rfl ?_
            refine j_iconst (pc' := 170) q190_169 rfl ?_
            refine j_iadd (pc' := 171) q190_170 rfl ?_
            refine j_callV2_pi (d := d + 0) (pc' := 174) q190_171 rfl (Nat.le_of_ble_eq_true rfl) (Nat.le_of_ble_eq_true rfl) rfl (t_M_isWalled hρ (d + 0) _ _ _) (fun r7 => ?_)
            refine j_if_ne (pc' := 177) q190_174 rfl (fun c8 => ?_) (fun c8 => ?_)
            · refine j_iload (pc' := 179) q190_177 rfl rfl ?_
              refine j_aload_n (pc' := 180) q190_179 rfl (by decide) rfl ?_
              refine j_iload_n (pc' := 181) q190_180 rfl rfl ?_
              refine j_iload_n (pc' := 182) q190_181 rfl rfl ?_
              refine j_aload_n (pc' := 183) q190_182 rfl (by decide) rfl ?_
              refine j_getf (k := 90) (pc' := 186) q190_183 rfl rfl ?_
              refine j_iadd (pc' := 187) q190_186 rfl ?_
              refine j_callV2_pi (d := d + 0) (pc' := 190) q190_187 rfl (Nat.le_of_ble_eq_true rfl) (Nat.le_of_ble_eq_true rfl) rfl (t_M_lies hρ (d + 0) _ _ _) (fun r9 => ?_)
              refine j_iload_n (pc' := 191) q190_190 rfl rfl ?_
              refine j_join (T := Int32 × Int32) 199 (fun t10 => [.null, .null, .null, .null, .null]) (fun t10 => [.int t10.1, .int t10.2]) (fun t10 => σ) (fun t10 => ?_) (fun j10 hj10 => ?_)
              · show z_J _ _ _ _ _ _ _ _ _ _ _ _
                refine j_iadd (pc' := 200) q190_199 rfl ?_
                refine j_istore4 (pc' := 202) q190_200 rfl (Nat.le_of_ble_eq_true rfl) rfl ?_
                refine j_iload (pc' := 204) q190_202 rfl rfl ?_
                exact j_piret q190_204 rfl
              · show z_J _ _ _ _ _ _ _ _ _ _ _ _
                refine j_icmp_ne (pc' := 194) q190_191 rfl (fun c11 => ?_) (fun c11 => ?_)
                · refine j_iconst (pc' := 195) q190_194 rfl ?_
                  refine j_goto q190_195 rfl ?_
                  refine j_forget (z_le_n (z_le_n (z_le_n (z_le_n (z_le_n (z_le_nil)))))) (hj10 ((1 : Int32), t5))
                · refine j_iconst (pc' := 199) q190_198 rfl ?_
                  refine j_forget (z_le_n (z_le_n (z_le_n (z_le_n (z_le_n (z_le_nil)))))) (hj10 ((0 : Int32), t5))
            · refine j_iload (pc' := 204) q190_202 rfl rfl ?_
              exact j_piret q190_204 rfl
        · show z_J _ _ _ _ _ _ _ _ _ _ _ _
          refine j_icmp_ge (pc' := 113) q190_110 rfl (fun c12 => ?_) (fun c12 => ?_)
          · refine j_forget (z_le_s (z_le_s (z_le_s (z_le_s (z_le_s (z_le_nil)))))) (hj5 t3)
          · refine j_aload_n (pc' := 114) q190_113 rfl (by decide) rfl ?_
            refine j_iload_n (pc' := 115) q190_114 rfl rfl ?_
            refine j_iconst (pc' := 116) q190_115 rfl ?_
            refine j_iload_n (pc' := 117) q190_116 rfl rfl ?_
            refine j_imul (pc' := 118) q190_117 rfl ?_
            refine j_callV2_pi (d := d + 0) (pc' := 121) q190_118 rfl (Nat.le_of_ble_eq_true rfl) (Nat.le_of_ble_eq_true rfl) rfl (t_M_isWalled hρ (d + 0) _ _ _) (fun r13 => ?_)
            refine j_if_ne (pc' := 124) q190_121 rfl (fun c14 => ?_) (fun c14 => ?_)
            · refine j_iload (pc' := 126) q190_124 rfl rfl ?_
              refine j_aload_n (pc' := 127) q190_126 rfl (by decide) rfl ?_
              refine j_iload_n (pc' := 128) q190_127 rfl rfl ?_
              refine j_iload_n (pc' := 129) q190_128 rfl rfl ?_
              refine j_iconst (pc' := 130) q190_129 rfl ?_
              refine j_iadd (pc' := 131) q190_130 rfl ?_
              refine j_callV2_pi (d := d + 0) (pc' := 134) q190_131 rfl (Nat.le_of_ble_eq_true rfl) (Nat.le_of_ble_eq_true rfl) rfl (t_M_lies hρ (d + 0) _ _ _) (fun r15 => ?_)
              refine j_iload_n (pc' := 135) q190_134 rfl rfl ?_
              refine j_join (T := Int32 × Int32) 143 (fun t16 => [.ref 90, .int a1, .int a2, .int a3, .null]) (fun t16 => [.int t16.1, .int t16.2]) (fun t16 => σ) (fun t16 => ?_) (fun j16 hj16 => ?_)
              · show z_J _ _ _ _ _ _ _ _ _ _ _ _
                refine j_iadd (pc' := 144) q190_143 rfl ?_
                refine j_istore4 (pc' := 146) q190_144 rfl (Nat.le_of_ble_eq_true rfl) rfl ?_
                refine j_forget (z_le_s (z_le_s (z_le_s (z_le_s (z_le_s (z_le_nil)))))) (hj5 (t16.2 + t16.1))
              · show z_J _ _ _ _ _ _ _ _ _ _ _ _
                refine j_icmp_ne (pc' := 138) q190_135 rfl (fun c17 => ?_) (fun c17 => ?_)
                · refine j_iconst (pc' := 139) q190_138 rfl ?_
                  refine j_goto q190_139 rfl ?_
                  refine j_forget (z_le_s (z_le_s (z_le_s (z_le_s (z_le_n (z_le_nil)))))) (hj16 ((1 : Int32), t3))
                · refine j_iconst (pc' := 143) q190_142 rfl ?_
                  refine j_forget (z_le_s (z_le_s (z_le_s (z_le_s (z_le_n (z_le_nil)))))) (hj16 ((0 : Int32), t3))
            · refine j_forget (z_le_s (z_le_s (z_le_s (z_le_s (z_le_s (z_le_nil)))))) (hj5 t3)
      · show z_J _ _ _ _ _ _ _ _ _ _ _ _
        refine j_if_le (pc' := 63) q190_60 rfl (fun c18 => ?_) (fun c18 => ?_)
        · refine j_forget (z_le_s (z_le_s (z_le_s (z_le_s (z_le_s (z_le_nil)))))) (hj3 t1)
        · refine j_aload_n (pc' := 64) q190_63 rfl (by decide) rfl ?_
          refine j_iload_n (pc' := 65) q190_64 rfl rfl ?_
          refine j_iconst (pc' := 66) q190_65 rfl ?_
          refine j_iload_n (pc' := 67) q190_66 rfl rfl ?_
          refine j_iconst (pc' := 68) q190_67 rfl ?_
          refine j_isub (pc' := 69) q190_68 rfl ?_
          refine j_imul (pc' := 70) q190_69 rfl ?_
          refine j_callV2_pi (d := d + 0) (pc' := 73) q190_70 rfl (Nat.le_of_ble_eq_true rfl) (Nat.le_of_ble_eq_true rfl) rfl (t_M_isWalled hρ (d + 0) _ _ _) (fun r19 => ?_)
          refine j_if_ne (pc' := 76) q190_73 rfl (fun c20 => ?_) (fun c20 => ?_)
          · refine j_iload (pc' := 78) q190_76 rfl rfl ?_
            refine j_aload_n (pc' := 79) q190_78 rfl (by decide) rfl ?_
            refine j_iload_n (pc' := 80) q190_79 rfl rfl ?_
            refine j_iload_n (pc' := 81) q190_80 rfl rfl ?_
            refine j_iconst (pc' := 82) q190_81 rfl ?_
            refine j_isub (pc' := 83) q190_82 rfl ?_
            refine j_callV2_pi (d := d + 0) (pc' := 86) q190_83 rfl (Nat.le_of_ble_eq_true rfl) (Nat.le_of_ble_eq_true rfl) rfl (t_M_lies hρ (d + 0) _ _ _) (fun r21 => ?_)
            refine j_iload_n (pc' := 87) q190_86 rfl rfl ?_
            refine j_join (T := Int32 × Int32) 95 (fun t22 => [.ref 90, .int a1, .int a2, .int a3, .null]) (fun t22 => [.int t22.1, .int t22.2]) (fun t22 => σ) (fun t22 => ?_) (fun j22 hj22 => ?_)
            · show z_J _ _ _ _ _ _ _ _ _ _ _ _
              refine j_iadd (pc' := 96) q190_95 rfl ?_
              refine j_istore4 (pc' := 98) q190_96 rfl (Nat.le_of_ble_eq_true rfl) rfl ?_
              refine j_forget (z_le_s (z_le_s (z_le_s (z_le_s (z_le_s (z_le_nil)))))) (hj3 (t22.2 + t22.1))
            · show z_J _ _ _ _ _ _ _ _ _ _ _ _
              refine j_icmp_ne (pc' := 90) q190_87 rfl (fun c23 => ?_) (fun c23 => ?_)
              · refine j_iconst (pc' := 91) q190_90 rfl ?_
                refine j_goto q190_91 rfl ?_
                refine j_forget (z_le_s (z_le_s (z_le_s (z_le_s (z_le_n (z_le_nil)))))) (hj22 ((1 : Int32), t1))
              · refine j_iconst (pc' := 95) q190_94 rfl ?_
                refine j_forget (z_le_s (z_le_s (z_le_s (z_le_s (z_le_n (z_le_nil)))))) (hj22 ((0 : Int32), t1))
          · refine j_forget (z_le_s (z_le_s (z_le_s (z_le_s (z_le_s (z_le_nil)))))) (hj3 t1)
    · show z_J _ _ _ _ _ _ _ _ _ _ _ _
      refine j_icmp_lt (pc' := 11) q190_8 rfl (fun c24 => ?_) (fun c24 => ?_)
      · refine j_forget (z_le_s (z_le_s (z_le_s (z_le_s (z_le_s (z_le_nil)))))) (hj1 (0 : Int32))
      · refine j_aload_n (pc' := 12) q190_11 rfl (by decide) rfl ?_
        refine j_iload_n (pc' := 13) q190_12 rfl rfl ?_
        refine j_iconst (pc' := 14) q190_13 rfl ?_
        refine j_iload_n (pc' := 15) q190_14 rfl rfl ?_
        refine j_aload_n (pc' := 16) q190_15 rfl (by decide) rfl ?_
        refine j_getf (k := 90) (pc' := 19) q190_16 rfl rfl ?_
        refine j_isub (pc' := 20) q190_19 rfl ?_
        refine j_imul (pc' := 21) q190_20 rfl ?_
        refine j_iconst (pc' := 22) q190_21 rfl ?_
        refine j_iadd (pc' := 23) q190_22 rfl ?_
        refine j_callV2_pi (d := d + 0) (pc' := 26) q190_23 rfl (Nat.le_of_ble_eq_true rfl) (Nat.le_of_ble_eq_true rfl) rfl (t_M_isWalled hρ (d + 0) _ _ _) (fun r25 => ?_)
        refine j_if_ne (pc' := 29) q190_26 rfl (fun c26 => ?_) (fun c26 => ?_)
        · refine j_iload (pc' := 31) q190_29 rfl rfl ?_
          refine j_aload_n (pc' := 32) q190_31 rfl (by decide) rfl ?_
          refine j_iload_n (pc' := 33) q190_32 rfl rfl ?_
          refine j_iload_n (pc' := 34) q190_33 rfl rfl ?_
          refine j_aload_n (pc' := 35) q190_34 rfl (by decide) rfl ?_
          refine j_getf (k := 90) (pc' := 38) q190_35 rfl rfl ?_
          refine j_isub (pc' := 39) q190_38 rfl ?_
          refine j_callV2_pi (d := d + 0) (pc' := 42) q190_39 rfl (Nat.le_of_ble_eq_true rfl) (Nat.le_of_ble_eq_true rfl) rfl (t_M_lies hρ (d + 0) _ _ _) (fun r27 => ?_)
          refine j_iload_n (pc' := 43) q190_42 rfl rfl ?_
          refine j_join (T := Int32 × Int32) 51 (fun t28 => [.ref 90, .int a1, .int a2, .int a3, .null]) (fun t28 => [.int t28.1, .int t28.2]) (fun t28 => σ) (fun t28 => ?_) (fun j28 hj28 => ?_)
          · show z_J _ _ _ _ _ _ _ _ _ _ _ _
            refine j_iadd (pc' := 52) q190_51 rfl ?_
            refine j_istore4 (pc' := 54) q190_52 rfl (Nat.le_of_ble_eq_true rfl) rfl ?_
            refine j_forget (z_le_s (z_le_s (z_le_s (z_le_s (z_le_s (z_le_nil)))))) (hj1 (t28.2 + t28.1))
          · show z_J _ _ _ _ _ _ _ _ _ _ _ _
            refine j_icmp_ne (pc' := 46) q190_43 rfl (fun c29 => ?_) (fun c29 => ?_)
            · refine j_iconst (pc' := 47) q190_46 rfl ?_
              refine j_goto q190_47 rfl ?_
              refine j_forget (z_le_s (z_le_s (z_le_s (z_le_s (z_le_n (z_le_nil)))))) (hj28 ((1 : Int32), (0 : Int32)))
            · refine j_iconst (pc' := 51) q190_50 rfl ?_
              refine j_forget (z_le_s (z_le_s (z_le_s (z_le_s (z_le_n (z_le_nil)))))) (hj28 ((0 : Int32), (0 : Int32)))
        · refine j_forget (z_le_s (z_le_s (z_le_s (z_le_s (z_le_s (z_le_nil)))))) (hj1 (0 : Int32))
theorem q191_0 : z_fi (z_mi 191) 0 = some (0, .iconst 0, 0, 0, 0, 0, 0) := rfl
theorem q191_1 : z_fi (z_mi 191) 1 = some (1, .istore_n 3, 0, 0, 0, 0, 0) := rfl
theorem q191_2 : z_fi (z_mi 191) 2 = some (2, .iload_n 3, 0, 0, 0, 0, 0) := rfl
theorem q191_3 : z_fi (z_mi 191) 3 = some (3, .aload_n 0, 0, 0, 0, 0, 0) := rfl
theorem q191_4 : z_fi (z_mi 191) 4 = some (4, .getfield 153, 0, 10, 3, 0, 0) := rfl
theorem q191_7 : z_fi (z_mi 191) 7 = some (7, .if_icmp .ge 64, 0, 71, 0, 0, 0) := rfl
theorem q191_10 : z_fi (z_mi 191) 10 = some (10, .iload_n 1, 0, 0, 0, 0, 0) := rfl
theorem q191_11 : z_fi (z_mi 191) 11 = some (11, .bipush 81, 0, 0, 0, 81, 0) := rfl
theorem q191_13 : z_fi (z_mi 191) 13 = some (13, .iadd, 0, 0, 0, 0, 0) := rfl
theorem q191_14 : z_fi (z_mi 191) 14 = some (14, .iconst 3, 0, 0, 0, 3, 0) := rfl
theorem q191_15 : z_fi (z_mi 191) 15 = some (15, .iload_n 3, 0, 0, 0, 0, 0) := rfl
theorem q191_16 : z_fi (z_mi 191) 16 = some (16, .imul, 0, 0, 0, 0, 0) := rfl
theorem q191_17 : z_fi (z_mi 191) 17 = some (17, .iadd, 0, 0, 0, 0, 0) := rfl
theorem q191_18 : z_fi (z_mi 191) 18 = some (18, .istore 4, 0, 0, 0, 0, 0) := rfl
theorem q191_20 : z_fi (z_mi 191) 20 = some (20, .aload_n 0, 0, 0, 0, 0, 0) := rfl
theorem q191_21 : z_fi (z_mi 191) 21 = some (21, .iload_n 1, 0, 0, 0, 0, 0) := rfl
theorem q191_22 : z_fi (z_mi 191) 22 = some (22, .iload_n 2, 0, 0, 0, 0, 0) := rfl
theorem q191_23 : z_fi (z_mi 191) 23 = some (23, .invokevirtual 159, 0, 169, 2, 0, 0) := rfl
theorem q191_26 : z_fi (z_mi 191) 26 = some (26, .aload_n 0, 0, 0, 0, 0, 0) := rfl
theorem q191_27 : z_fi (z_mi 191) 27 = some (27, .getfield 7, 0, 10, 0, 0, 0) := rfl
theorem q191_30 : z_fi (z_mi 191) 30 = some (30, .iload 4, 0, 0, 0, 0, 0) := rfl
theorem q191_32 : z_fi (z_mi 191) 32 = some (32, .iconst 1, 0, 0, 0, 1, 0) := rfl
theorem q191_33 : z_fi (z_mi 191) 33 = some (33, .iadd, 0, 0, 0, 0, 0) := rfl
theorem q191_34 : z_fi (z_mi 191) 34 = some (34, .iaload, 0, 0, 0, 0, 0) := rfl
theorem q191_35 : z_fi (z_mi 191) 35 = some (35, .if_icmp .ne 30, 0, 65, 0, 0, 0) := rfl
theorem q191_38 : z_fi (z_mi 191) 38 = some (38, .aload_n 0, 0, 0, 0, 0, 0) := rfl
theorem q191_39 : z_fi (z_mi 191) 39 = some (39, .iload_n 1, 0, 0, 0, 0, 0) := rfl
theorem q191_40 : z_fi (z_mi 191) 40 = some (40, .iload_n 2, 0, 0, 0, 0, 0) := rfl
theorem q191_41 : z_fi (z_mi 191) 41 = some (41, .aload_n 0, 0, 0, 0, 0, 0) := rfl
theorem q191_42 : z_fi (z_mi 191) 42 = some (42, .getfield 7, 0, 10, 0, 0, 0) := rfl
theorem q191_45 : z_fi (z_mi 191) 45 = some (45, .iload 4, 0, 0, 0, 0, 0) := rfl
theorem q191_47 : z_fi (z_mi 191) 47 = some (47, .iaload, 0, 0, 0, 0, 0) := rfl
theorem q191_48 : z_fi (z_mi 191) 48 = some (48, .invokevirtual 206, 0, 190, 3, 0, 0) := rfl
theorem q191_51 : z_fi (z_mi 191) 51 = some (51, .aload_n 0, 0, 0, 0, 0, 0) := rfl
theorem q191_52 : z_fi (z_mi 191) 52 = some (52, .getfield 7, 0, 10, 0, 0, 0) := rfl
theorem q191_55 : z_fi (z_mi 191) 55 = some (55, .iload 4, 0, 0, 0, 0, 0) := rfl
theorem q191_57 : z_fi (z_mi 191) 57 = some (57, .iconst 2, 0, 0, 0, 2, 0) := rfl
theorem q191_58 : z_fi (z_mi 191) 58 = some (58, .iadd, 0, 0, 0, 0, 0) := rfl
theorem q191_59 : z_fi (z_mi 191) 59 = some (59, .iaload, 0, 0, 0, 0, 0) := rfl
theorem q191_60 : z_fi (z_mi 191) 60 = some (60, .if_icmp .lt 5, 0, 65, 0, 0, 0) := rfl
theorem q191_63 : z_fi (z_mi 191) 63 = some (63, .iload_n 3, 0, 0, 0, 0, 0) := rfl
theorem q191_64 : z_fi (z_mi 191) 64 = some (64, .ireturn, 0, 0, 0, 0, 0) := rfl
theorem q191_65 : z_fi (z_mi 191) 65 = some (65, .iinc 3 1, 0, 0, 0, 1, 0) := rfl
theorem q191_68 : z_fi (z_mi 191) 68 = some (68, .goto (-66), 0, 2, 0, 0, 0) := rfl
theorem q191_71 : z_fi (z_mi 191) 71 = some (71, .bipush (-4), 0, 0, 0, (-4), 0) := rfl
theorem q191_73 : z_fi (z_mi 191) 73 = some (73, .ireturn, 0, 0, 0, 0, 0) := rfl
set_option maxRecDepth 20000 in
set_option maxHeartbeats 4000000 in
theorem t_M_fitting {xL : Nat} {xs : Nat → Int32} {ρ : Nat → Nat → Option Nat} (hρ : z_hR ρ) (d : Nat) (a1 : Int32) (a2 : Int32) (σ : zS) : ∀ q, f_M_fitting a1 a2 σ = some q → z_ec xL xs ρ (d + 2) 191 [.ref 90, .int a1, .int a2] σ (em_pi σ q) := by
  refine j_of (W := [.ref 90, .int a1, .int a2, .null, .null]) (fun L hL => ?_) ?_
  · subst hL; exact z_vl_0 _ 2 rfl
  · unfold f_M_fitting
    refine j_iconst (pc' := 1) q191_0 rfl ?_
    refine j_istore3 (pc' := 2) q191_1 rfl (Nat.le_of_ble_eq_true rfl) rfl ?_
    refine j_forget (V' := [.ref 90, .int a1, .int a2, .int (0 : Int32), .null]) (z_le_s (z_le_s (z_le_s (z_le_s (z_le_n (z_le_nil)))))) ?_
    refine j_loopX (S := Int32) (E := Unit) Sum.inl 71 (fun s1 => [.ref 90, .int a1, .int a2, .int s1, .null]) (fun s1 => σ) (fun b1 => [.null, .null, .null, .null, .null]) (fun b1 => σ) (fun b1 => ?_) (fun R1 hR1 hX1 s1 => ?_) (0 : Int32)
    · show z_J _ _ _ _ _ _ _ _ _ _ _ _
      refine j_bipush (pc' := 73) q191_71 rfl ?_
      exact j_piret q191_73 rfl
    · show z_J _ _ _ _ _ _ _ _ _ _ _ _
      refine j_iload_n (pc' := 3) q191_2 rfl rfl ?_
      refine j_aload_n (pc' := 4) q191_3 rfl (by decide) rfl ?_
      refine j_getf (k := 90) (pc' := 7) q191_4 rfl rfl ?_
      refine j_icmp_ge (pc' := 10) q191_7 rfl (fun c2 => ?_) (fun c2 => ?_)
      · exact j_exit (j_forget (z_le_n (z_le_n (z_le_n (z_le_n (z_le_n (z_le_nil)))))) (hX1 ()))
      · refine j_iload_n (pc' := 11) q191_10 rfl rfl ?_
        refine j_bipush (pc' := 13) q191_11 rfl ?_
        refine j_iadd (pc' := 14) q191_13 rfl ?_
        refine j_iconst (pc' := 15) q191_14 rfl ?_
        refine j_iload_n (pc' := 16) q191_15 rfl rfl ?_
        refine j_imul (pc' := 17) q191_16 rfl ?_
        refine j_iadd (pc' := 18) q191_17 rfl ?_
        refine j_nameI (fun v3 => ?_)
        refine j_istore4 (pc' := 20) q191_18 rfl (Nat.le_of_ble_eq_true rfl) rfl ?_
        refine j_aload_n (pc' := 21) q191_20 rfl (by decide) rfl ?_
        refine j_iload_n (pc' := 22) q191_21 rfl rfl ?_
        refine j_iload_n (pc' := 23) q191_22 rfl rfl ?_
        refine j_callV2_pi (d := d + 1) (pc' := 26) q191_23 rfl (Nat.le_of_ble_eq_true rfl) (Nat.le_of_ble_eq_true rfl) rfl (t_M_lies hρ (d + 1) _ _ _) (fun r4 => ?_)
        refine j_aload_n (pc' := 27) q191_26 rfl (by decide) rfl ?_
        refine j_getr (k := 90) (q := 91) (pc' := 30) q191_27 rfl (hρ 90 0 91 rfl) rfl ?_
        refine j_iload (pc' := 32) q191_30 rfl rfl ?_
        refine j_iconst (pc' := 33) q191_32 rfl ?_
        refine j_iadd (pc' := 34) q191_33 rfl ?_
        refine j_if (fun hi5 => ?_) (fun _ => j_none)
        refine j_iald (k := 91) (N := 550) (pc' := 35) q191_34 rfl hi5 rfl ?_
        refine j_join (T := Unit) 65 (fun t6 => [.ref 90, .int a1, .int a2, .int s1, .null]) (fun t6 => []) (fun t6 => σ) (fun t6 => ?_) (fun j6 hj6 => ?_)
        · show z_J _ _ _ _ _ _ _ _ _ _ _ _
          refine j_iinc3 (pc' := 68) q191_65 rfl (Nat.le_of_ble_eq_true rfl) rfl ?_
          refine j_goto q191_68 rfl ?_
          exact j_again (j_forget (z_le_s (z_le_s (z_le_s (z_le_s (z_le_n (z_le_nil)))))) (hR1 (s1 + (1 : Int32))))
        · show z_J _ _ _ _ _ _ _ _ _ _ _ _
          refine j_icmp_ne (pc' := 38) q191_35 rfl (fun c7 => ?_) (fun c7 => ?_)
          · refine j_aload_n (pc' := 39) q191_38 rfl (by decide) rfl ?_
            refine j_iload_n (pc' := 40) q191_39 rfl rfl ?_
            refine j_iload_n (pc' := 41) q191_40 rfl rfl ?_
            refine j_aload_n (pc' := 42) q191_41 rfl (by decide) rfl ?_
            refine j_getr (k := 90) (q := 91) (pc' := 45) q191_42 rfl (hρ 90 0 91 rfl) rfl ?_
            refine j_iload (pc' := 47) q191_45 rfl rfl ?_
            refine j_if (fun hi8 => ?_) (fun _ => j_none)
            refine j_iald (k := 91) (N := 550) (pc' := 48) q191_47 rfl hi8 rfl ?_
            refine j_callV3_pi (d := d + 1) (pc' := 51) q191_48 rfl (Nat.le_of_ble_eq_true rfl) (Nat.le_of_ble_eq_true rfl) rfl (t_M_nextWith hρ (d + 0) _ _ _ _) (fun r9 => ?_)
            refine j_aload_n (pc' := 52) q191_51 rfl (by decide) rfl ?_
            refine j_getr (k := 90) (q := 91) (pc' := 55) q191_52 rfl (hρ 90 0 91 rfl) rfl ?_
            refine j_iload (pc' := 57) q191_55 rfl rfl ?_
            refine j_iconst (pc' := 58) q191_57 rfl ?_
            refine j_iadd (pc' := 59) q191_58 rfl ?_
            refine j_if (fun hi10 => ?_) (fun _ => j_none)
            refine j_iald (k := 91) (N := 550) (pc' := 60) q191_59 rfl hi10 rfl ?_
            refine j_icmp_lt (pc' := 63) q191_60 rfl (fun c11 => ?_) (fun c11 => ?_)
            · refine j_forget (z_le_s (z_le_s (z_le_s (z_le_s (z_le_n (z_le_nil)))))) (hj6 ())
            · refine j_iload_n (pc' := 64) q191_63 rfl rfl ?_
              refine j_exit ?_
              exact j_piret q191_64 rfl
          · refine j_forget (z_le_s (z_le_s (z_le_s (z_le_s (z_le_n (z_le_nil)))))) (hj6 ())
theorem q192_0 : z_fi (z_mi 192) 0 = some (0, .aload_n 0, 0, 0, 0, 0, 0) := rfl
theorem q192_1 : z_fi (z_mi 192) 1 = some (1, .getfield 20, 0, 10, 4, 0, 0) := rfl
theorem q192_4 : z_fi (z_mi 192) 4 = some (4, .iconst 3, 0, 0, 0, 3, 0) := rfl
theorem q192_5 : z_fi (z_mi 192) 5 = some (5, .iload_n 1, 0, 0, 0, 0, 0) := rfl
theorem q192_6 : z_fi (z_mi 192) 6 = some (6, .imul, 0, 0, 0, 0, 0) := rfl
theorem q192_7 : z_fi (z_mi 192) 7 = some (7, .iload_n 2, 0, 0, 0, 0, 0) := rfl
theorem q192_8 : z_fi (z_mi 192) 8 = some (8, .iadd, 0, 0, 0, 0, 0) := rfl
theorem q192_9 : z_fi (z_mi 192) 9 = some (9, .iaload, 0, 0, 0, 0, 0) := rfl
theorem q192_10 : z_fi (z_mi 192) 10 = some (10, .istore 4, 0, 0, 0, 0, 0) := rfl
theorem q192_12 : z_fi (z_mi 192) 12 = some (12, .iload_n 3, 0, 0, 0, 0, 0) := rfl
theorem q192_13 : z_fi (z_mi 192) 13 = some (13, .iload 4, 0, 0, 0, 0, 0) := rfl
theorem q192_15 : z_fi (z_mi 192) 15 = some (15, .if_icmp .ne 45, 0, 60, 0, 0, 0) := rfl
theorem q192_18 : z_fi (z_mi 192) 18 = some (18, .iload_n 2, 0, 0, 0, 0, 0) := rfl
theorem q192_19 : z_fi (z_mi 192) 19 = some (19, .iconst 2, 0, 0, 0, 2, 0) := rfl
theorem q192_20 : z_fi (z_mi 192) 20 = some (20, .if_icmp .ge 24, 0, 44, 0, 0, 0) := rfl
theorem q192_23 : z_fi (z_mi 192) 23 = some (23, .aload_n 0, 0, 0, 0, 0, 0) := rfl
theorem q192_24 : z_fi (z_mi 192) 24 = some (24, .getfield 20, 0, 10, 4, 0, 0) := rfl
theorem q192_27 : z_fi (z_mi 192) 27 = some (27, .iconst 3, 0, 0, 0, 3, 0) := rfl
theorem q192_28 : z_fi (z_mi 192) 28 = some (28, .iload_n 1, 0, 0, 0, 0, 0) := rfl
theorem q192_29 : z_fi (z_mi 192) 29 = some (29, .imul, 0, 0, 0, 0, 0) := rfl
theorem q192_30 : z_fi (z_mi 192) 30 = some (30, .iload_n 2, 0, 0, 0, 0, 0) := rfl
theorem q192_31 : z_fi (z_mi 192) 31 = some (31, .iadd, 0, 0, 0, 0, 0) := rfl
theorem q192_32 : z_fi (z_mi 192) 32 = some (32, .iconst 1, 0, 0, 0, 1, 0) := rfl
theorem q192_33 : z_fi (z_mi 192) 33 = some (33, .iadd, 0, 0, 0, 0, 0) := rfl
theorem q192_34 : z_fi (z_mi 192) 34 = some (34, .iaload, 0, 0, 0, 0, 0) := rfl
theorem q192_35 : z_fi (z_mi 192) 35 = some (35, .bipush (-4), 0, 0, 0, (-4), 0) := rfl
theorem q192_37 : z_fi (z_mi 192) 37 = some (37, .if_icmp .eq 7, 0, 44, 0, 0, 0) := rfl
theorem q192_40 : z_fi (z_mi 192) 40 = some (40, .iconst 1, 0, 0, 0, 1, 0) := rfl
theorem q192_41 : z_fi (z_mi 192) 41 = some (41, .goto 4, 0, 45, 0, 0, 0) := rfl
theorem q192_44 : z_fi (z_mi 192) 44 = some (44, .iconst 0, 0, 0, 0, 0, 0) := rfl
theorem q192_45 : z_fi (z_mi 192) 45 = some (45, .istore 5, 0, 0, 0, 0, 0) := rfl
theorem q192_47 : z_fi (z_mi 192) 47 = some (47, .iload 5, 0, 0, 0, 0, 0) := rfl
theorem q192_49 : z_fi (z_mi 192) 49 = some (49, .ifCond .eq 9, 0, 58, 0, 0, 0) := rfl
theorem q192_52 : z_fi (z_mi 192) 52 = some (52, .iload_n 2, 0, 0, 0, 0, 0) := rfl
theorem q192_53 : z_fi (z_mi 192) 53 = some (53, .iconst 1, 0, 0, 0, 1, 0) := rfl
theorem q192_54 : z_fi (z_mi 192) 54 = some (54, .iadd, 0, 0, 0, 0, 0) := rfl
theorem q192_55 : z_fi (z_mi 192) 55 = some (55, .goto 4, 0, 59, 0, 0, 0) := rfl
theorem q192_58 : z_fi (z_mi 192) 58 = some (58, .iconst 3, 0, 0, 0, 3, 0) := rfl
theorem q192_59 : z_fi (z_mi 192) 59 = some (59, .ireturn, 0, 0, 0, 0, 0) := rfl
theorem q192_60 : z_fi (z_mi 192) 60 = some (60, .iload_n 2, 0, 0, 0, 0, 0) := rfl
theorem q192_61 : z_fi (z_mi 192) 61 = some (61, .ifCond .eq 19, 0, 80, 0, 0, 0) := rfl
theorem q192_64 : z_fi (z_mi 192) 64 = some (64, .iload_n 3, 0, 0, 0, 0, 0) := rfl
theorem q192_65 : z_fi (z_mi 192) 65 = some (65, .aload_n 0, 0, 0, 0, 0, 0) := rfl
theorem q192_66 : z_fi (z_mi 192) 66 = some (66, .getfield 20, 0, 10, 4, 0, 0) := rfl
theorem q192_69 : z_fi (z_mi 192) 69 = some (69, .iconst 3, 0, 0, 0, 3, 0) := rfl
theorem q192_70 : z_fi (z_mi 192) 70 = some (70, .iload_n 1, 0, 0, 0, 0, 0) := rfl
theorem q192_71 : z_fi (z_mi 192) 71 = some (71, .imul, 0, 0, 0, 0, 0) := rfl
theorem q192_72 : z_fi (z_mi 192) 72 = some (72, .iload_n 2, 0, 0, 0, 0, 0) := rfl
theorem q192_73 : z_fi (z_mi 192) 73 = some (73, .iadd, 0, 0, 0, 0, 0) := rfl
theorem q192_74 : z_fi (z_mi 192) 74 = some (74, .iconst 1, 0, 0, 0, 1, 0) := rfl
theorem q192_75 : z_fi (z_mi 192) 75 = some (75, .isub, 0, 0, 0, 0, 0) := rfl
theorem q192_76 : z_fi (z_mi 192) 76 = some (76, .iaload, 0, 0, 0, 0, 0) := rfl
theorem q192_77 : z_fi (z_mi 192) 77 = some (77, .if_icmp .ne 7, 0, 84, 0, 0, 0) := rfl
theorem q192_80 : z_fi (z_mi 192) 80 = some (80, .iload_n 2, 0, 0, 0, 0, 0) := rfl
theorem q192_81 : z_fi (z_mi 192) 81 = some (81, .goto 4, 0, 85, 0, 0, 0) := rfl
theorem q192_84 : z_fi (z_mi 192) 84 = some (84, .iconst 4, 0, 0, 0, 4, 0) := rfl
theorem q192_85 : z_fi (z_mi 192) 85 = some (85, .ireturn, 0, 0, 0, 0, 0) := rfl
set_option maxRecDepth 20000 in
set_option maxHeartbeats 4000000 in
theorem t_M_stageBy {xL : Nat} {xs : Nat → Int32} {ρ : Nat → Nat → Option Nat} (hρ : z_hR ρ) (d : Nat) (a1 : Int32) (a2 : Int32) (a3 : Int32) (σ : zS) : ∀ q, f_M_stageBy a1 a2 a3 σ = some q → z_ec xL xs ρ (d + 0) 192 [.ref 90, .int a1, .int a2, .int a3] σ (em_pi σ q) := by
  refine j_of (W := [.ref 90, .int a1, .int a2, .int a3, .null, .null]) (fun L hL => ?_) ?_
  · subst hL; exact z_vl_0 _ 2 rfl
  · unfold f_M_stageBy
    refine j_aload_n (pc' := 1) q192_0 rfl (by decide) rfl ?_
    refine j_getr (k := 90) (q := 92) (pc' := 4) q192_1 rfl (hρ 90 4 92 rfl) rfl ?_
    refine j_iconst (pc' := 5) q192_4 rfl ?_
    refine j_iload_n (pc' := 6) q192_5 rfl rfl ?_
    refine j_imul (pc' := 7) q192_6 rfl ?_
    refine j_iload_n (pc' := 8) q192_7 rfl rfl ?_
    refine j_iadd (pc' := 9) q192_8 rfl ?_
    refine j_if (fun hi1 => ?_) (fun _ => j_none)
    refine j_iald (k := 92) (N := 15) (pc' := 10) q192_9 rfl hi1 rfl ?_
    refine j_nameI (fun v2 => ?_)
    refine j_istore4 (pc' := 12) q192_10 rfl (Nat.le_of_ble_eq_true rfl) rfl ?_
    refine j_iload_n (pc' := 13) q192_12 rfl rfl ?_
    refine j_iload (pc' := 15) q192_13 rfl rfl ?_
    refine j_icmp_ne (pc' := 18) q192_15 rfl (fun c3 => ?_) (fun c3 => ?_)
    · refine j_iload_n (pc' := 19) q192_18 rfl rfl ?_
      refine j_iconst (pc' := 20) q192_19 rfl ?_
      refine j_join (T := Int32) 45 (fun t4 => [.null, .null, .int a2, .null, .null, .null]) (fun t4 => [.int t4]) (fun t4 => σ) (fun t4 => ?_) (fun j4 hj4 => ?_)
      · show z_J _ _ _ _ _ _ _ _ _ _ _ _
        refine j_istore5 (pc' := 47) q192_45 rfl (Nat.le_of_ble_eq_true rfl) rfl ?_
        refine j_iload (pc' := 49) q192_47 rfl rfl ?_
        refine j_if_eq (pc' := 52) q192_49 rfl (fun c5 => ?_) (fun c5 => ?_)
        · refine j_iconst (pc' := 59) q192_58 rfl ?_
          exact j_piret q192_59 rfl
        · refine j_iload_n (pc' := 53) q192_52 rfl rfl ?_
          refine j_iconst (pc' := 54) q192_53 rfl ?_
          refine j_iadd (pc' := 55) q192_54 rfl ?_
          refine j_goto q192_55 rfl ?_
          exact j_piret q192_59 rfl
      · show z_J _ _ _ _ _ _ _ _ _ _ _ _
        refine j_join (T := Unit) 44 (fun t6 => [.null, .null, .int a2, .null, .null, .null]) (fun t6 => []) (fun t6 => σ) (fun t6 => ?_) (fun j6 hj6 => ?_)
        · show z_J _ _ _ _ _ _ _ _ _ _ _ _
          refine j_iconst (pc' := 45) q192_44 rfl ?_
          refine j_forget (z_le_n (z_le_n (z_le_s (z_le_n (z_le_n (z_le_n (z_le_nil))))))) (hj4 (0 : Int32))
        · show z_J _ _ _ _ _ _ _ _ _ _ _ _
          refine j_icmp_ge (pc' := 23) q192_20 rfl (fun c7 => ?_) (fun c7 => ?_)
          · refine j_forget (z_le_n (z_le_n (z_le_s (z_le_n (z_le_n (z_le_n (z_le_nil))))))) (hj6 ())
          · refine j_aload_n (pc' := 24) q192_23 rfl (by decide) rfl ?_
            refine j_getr (k := 90) (q := 92) (pc' := 27) q192_24 rfl (hρ 90 4 92 rfl) rfl ?_
            refine j_iconst (pc' := 28) q192_27 rfl ?_
            refine j_iload_n (pc' := 29) q192_28 rfl rfl ?_
            refine j_imul (pc' := 30) q192_29 rfl ?_
            refine j_iload_n (pc' := 31) q192_30 rfl rfl ?_
            refine j_iadd (pc' := 32) q192_31 rfl ?_
            refine j_iconst (pc' := 33) q192_32 rfl ?_
            refine j_iadd (pc' := 34) q192_33 rfl ?_
            refine j_if (fun hi8 => ?_) (fun _ => j_none)
            refine j_iald (k := 92) (N := 15) (pc' := 35) q192_34 rfl hi8 rfl ?_
            refine j_bipush (pc' := 37) q192_35 rfl ?_
            refine j_icmp_eq (pc' := 40) q192_37 rfl (fun c9 => ?_) (fun c9 => ?_)
            · refine j_forget (z_le_n (z_le_n (z_le_s (z_le_n (z_le_n (z_le_n (z_le_nil))))))) (hj6 ())
            · refine j_iconst (pc' := 41) q192_40 rfl ?_
              refine j_goto q192_41 rfl ?_
              refine j_forget (z_le_n (z_le_n (z_le_s (z_le_n (z_le_n (z_le_n (z_le_nil))))))) (hj4 (1 : Int32))
    · refine j_iload_n (pc' := 61) q192_60 rfl rfl ?_
      refine j_join (T := Unit) 80 (fun t10 => [.null, .null, .int a2, .null, .null, .null]) (fun t10 => []) (fun t10 => σ) (fun t10 => ?_) (fun j10 hj10 => ?_)
      · show z_J _ _ _ _ _ _ _ _ _ _ _ _
        refine j_iload_n (pc' := 81) q192_80 rfl rfl ?_
        refine j_goto q192_81 rfl ?_
        exact j_piret q192_85 rfl
      · show z_J _ _ _ _ _ _ _ _ _ _ _ _
        refine j_if_eq (pc' := 64) q192_61 rfl (fun c11 => ?_) (fun c11 => ?_)
        · refine j_forget (z_le_n (z_le_n (z_le_s (z_le_n (z_le_n (z_le_n (z_le_nil))))))) (hj10 ())
        · refine j_iload_n (pc' := 65) q192_64 rfl rfl ?_
          refine j_aload_n (pc' := 66) q192_65 rfl (by decide) rfl ?_
          refine j_getr (k := 90) (q := 92) (pc' := 69) q192_66 rfl (hρ 90 4 92 rfl) rfl ?_
          refine j_iconst (pc' := 70) q192_69 rfl ?_
          refine j_iload_n (pc' := 71) q192_70 rfl rfl ?_
          refine j_imul (pc' := 72) q192_71 rfl ?_
          refine j_iload_n (pc' := 73) q192_72 rfl rfl ?_
          refine j_iadd (pc' := 74) q192_73 rfl ?_
          refine j_iconst (pc' := 75) q192_74 rfl ?_
          refine j_isub (pc' := 76) q192_75 rfl ?_
          refine j_if (fun hi12 => ?_) (fun _ => j_none)
          refine j_iald (k := 92) (N := 15) (pc' := 77) q192_76 rfl hi12 rfl ?_
          refine j_icmp_ne (pc' := 80) q192_77 rfl (fun c13 => ?_) (fun c13 => ?_)
          · refine j_forget (z_le_n (z_le_n (z_le_s (z_le_n (z_le_n (z_le_n (z_le_nil))))))) (hj10 ())
          · refine j_iconst (pc' := 85) q192_84 rfl ?_
            exact j_piret q192_85 rfl
theorem q193_0 : z_fi (z_mi 193) 0 = some (0, .aload_n 0, 0, 0, 0, 0, 0) := rfl
theorem q193_1 : z_fi (z_mi 193) 1 = some (1, .iload_n 1, 0, 0, 0, 0, 0) := rfl
theorem q193_2 : z_fi (z_mi 193) 2 = some (2, .iload_n 2, 0, 0, 0, 0, 0) := rfl
theorem q193_3 : z_fi (z_mi 193) 3 = some (3, .invokevirtual 162, 0, 170, 2, 0, 0) := rfl
theorem q193_6 : z_fi (z_mi 193) 6 = some (6, .istore_n 3, 0, 0, 0, 0, 0) := rfl
theorem q193_7 : z_fi (z_mi 193) 7 = some (7, .iload_n 3, 0, 0, 0, 0, 0) := rfl
theorem q193_8 : z_fi (z_mi 193) 8 = some (8, .bipush (-4), 0, 0, 0, (-4), 0) := rfl
theorem q193_10 : z_fi (z_mi 193) 10 = some (10, .if_icmp .ne 4, 0, 14, 0, 0, 0) := rfl
theorem q193_13 : z_fi (z_mi 193) 13 = some (13, .return_, 0, 0, 0, 0, 0) := rfl
theorem q193_14 : z_fi (z_mi 193) 14 = some (14, .aload_n 0, 0, 0, 0, 0, 0) := rfl
theorem q193_15 : z_fi (z_mi 193) 15 = some (15, .iload_n 3, 0, 0, 0, 0, 0) := rfl
theorem q193_16 : z_fi (z_mi 193) 16 = some (16, .aload_n 0, 0, 0, 0, 0, 0) := rfl
theorem q193_17 : z_fi (z_mi 193) 17 = some (17, .getfield 7, 0, 10, 0, 0, 0) := rfl
theorem q193_20 : z_fi (z_mi 193) 20 = some (20, .iload_n 1, 0, 0, 0, 0, 0) := rfl
theorem q193_21 : z_fi (z_mi 193) 21 = some (21, .iconst 5, 0, 0, 0, 5, 0) := rfl
theorem q193_22 : z_fi (z_mi 193) 22 = some (22, .iload_n 2, 0, 0, 0, 0, 0) := rfl
theorem q193_23 : z_fi (z_mi 193) 23 = some (23, .imul, 0, 0, 0, 0, 0) := rfl
theorem q193_24 : z_fi (z_mi 193) 24 = some (24, .iadd, 0, 0, 0, 0, 0) := rfl
theorem q193_25 : z_fi (z_mi 193) 25 = some (25, .iconst 3, 0, 0, 0, 3, 0) := rfl
theorem q193_26 : z_fi (z_mi 193) 26 = some (26, .iadd, 0, 0, 0, 0, 0) := rfl
theorem q193_27 : z_fi (z_mi 193) 27 = some (27, .iaload, 0, 0, 0, 0, 0) := rfl
theorem q193_28 : z_fi (z_mi 193) 28 = some (28, .aload_n 0, 0, 0, 0, 0, 0) := rfl
theorem q193_29 : z_fi (z_mi 193) 29 = some (29, .iload_n 1, 0, 0, 0, 0, 0) := rfl
theorem q193_30 : z_fi (z_mi 193) 30 = some (30, .iload_n 2, 0, 0, 0, 0, 0) := rfl
theorem q193_31 : z_fi (z_mi 193) 31 = some (31, .invokevirtual 159, 0, 169, 2, 0, 0) := rfl
theorem q193_34 : z_fi (z_mi 193) 34 = some (34, .invokevirtual 209, 0, 192, 3, 0, 0) := rfl
theorem q193_37 : z_fi (z_mi 193) 37 = some (37, .istore 4, 0, 0, 0, 0, 0) := rfl
theorem q193_39 : z_fi (z_mi 193) 39 = some (39, .aload_n 0, 0, 0, 0, 0, 0) := rfl
theorem q193_40 : z_fi (z_mi 193) 40 = some (40, .getfield 7, 0, 10, 0, 0, 0) := rfl
theorem q193_43 : z_fi (z_mi 193) 43 = some (43, .iload_n 1, 0, 0, 0, 0, 0) := rfl
theorem q193_44 : z_fi (z_mi 193) 44 = some (44, .iconst 5, 0, 0, 0, 5, 0) := rfl
theorem q193_45 : z_fi (z_mi 193) 45 = some (45, .iload_n 2, 0, 0, 0, 0, 0) := rfl
theorem q193_46 : z_fi (z_mi 193) 46 = some (46, .imul, 0, 0, 0, 0, 0) := rfl
theorem q193_47 : z_fi (z_mi 193) 47 = some (47, .iadd, 0, 0, 0, 0, 0) := rfl
theorem q193_48 : z_fi (z_mi 193) 48 = some (48, .iconst 3, 0, 0, 0, 3, 0) := rfl
theorem q193_49 : z_fi (z_mi 193) 49 = some (49, .iadd, 0, 0, 0, 0, 0) := rfl
theorem q193_50 : z_fi (z_mi 193) 50 = some (50, .iload 4, 0, 0, 0, 0, 0) := rfl
theorem q193_52 : z_fi (z_mi 193) 52 = some (52, .iconst 2, 0, 0, 0, 2, 0) := rfl
theorem q193_53 : z_fi (z_mi 193) 53 = some (53, .if_icmp .le 7, 0, 60, 0, 0, 0) := rfl
theorem q193_56 : z_fi (z_mi 193) 56 = some (56, .iconst 0, 0, 0, 0, 0, 0) := rfl
theorem q193_57 : z_fi (z_mi 193) 57 = some (57, .goto 5, 0, 62, 0, 0, 0) := rfl
theorem q193_60 : z_fi (z_mi 193) 60 = some (60, .iload 4, 0, 0, 0, 0, 0) := rfl
theorem q193_62 : z_fi (z_mi 193) 62 = some (62, .iastore, 0, 0, 0, 0, 0) := rfl
theorem q193_63 : z_fi (z_mi 193) 63 = some (63, .aload_n 0, 0, 0, 0, 0, 0) := rfl
theorem q193_64 : z_fi (z_mi 193) 64 = some (64, .getfield 7, 0, 10, 0, 0, 0) := rfl
theorem q193_67 : z_fi (z_mi 193) 67 = some (67, .iload_n 1, 0, 0, 0, 0, 0) := rfl
theorem q193_68 : z_fi (z_mi 193) 68 = some (68, .iconst 5, 0, 0, 0, 5, 0) := rfl
theorem q193_69 : z_fi (z_mi 193) 69 = some (69, .iload_n 2, 0, 0, 0, 0, 0) := rfl
theorem q193_70 : z_fi (z_mi 193) 70 = some (70, .imul, 0, 0, 0, 0, 0) := rfl
theorem q193_71 : z_fi (z_mi 193) 71 = some (71, .iadd, 0, 0, 0, 0, 0) := rfl
theorem q193_72 : z_fi (z_mi 193) 72 = some (72, .iconst 2, 0, 0, 0, 2, 0) := rfl
theorem q193_73 : z_fi (z_mi 193) 73 = some (73, .iadd, 0, 0, 0, 0, 0) := rfl
theorem q193_74 : z_fi (z_mi 193) 74 = some (74, .iload 4, 0, 0, 0, 0, 0) := rfl
theorem q193_76 : z_fi (z_mi 193) 76 = some (76, .iconst 2, 0, 0, 0, 2, 0) := rfl
theorem q193_77 : z_fi (z_mi 193) 77 = some (77, .if_icmp .le 7, 0, 84, 0, 0, 0) := rfl
theorem q193_80 : z_fi (z_mi 193) 80 = some (80, .iconst 0, 0, 0, 0, 0, 0) := rfl
theorem q193_81 : z_fi (z_mi 193) 81 = some (81, .goto 6, 0, 87, 0, 0, 0) := rfl
theorem q193_84 : z_fi (z_mi 193) 84 = some (84, .iload_n 3, 0, 0, 0, 0, 0) := rfl
theorem q193_85 : z_fi (z_mi 193) 85 = some (85, .iconst 1, 0, 0, 0, 1, 0) := rfl
theorem q193_86 : z_fi (z_mi 193) 86 = some (86, .iadd, 0, 0, 0, 0, 0) := rfl
theorem q193_87 : z_fi (z_mi 193) 87 = some (87, .iastore, 0, 0, 0, 0, 0) := rfl
set_option maxRecDepth 8000 in
theorem q193_88 : z_fi (z_mi 193) 88 = some (88, .aload_n 0, 0, 0, 0, 0, 0) := rfl
set_option maxRecDepth 8000 in
theorem q193_89 : z_fi (z_mi 193) 89 = some (89, .getfield 7, 0, 10, 0, 0, 0) := rfl
set_option maxRecDepth 8000 in
theorem q193_92 : z_fi (z_mi 193) 92 = some (92, .iload_n 1, 0, 0, 0, 0, 0) := rfl
set_option maxRecDepth 8000 in
theorem q193_93 : z_fi (z_mi 193) 93 = some (93, .bipush 106, 0, 0, 0, 106, 0) := rfl
set_option maxRecDepth 8000 in
theorem q193_95 : z_fi (z_mi 193) 95 = some (95, .iadd, 0, 0, 0, 0, 0) := rfl
set_option maxRecDepth 8000 in
theorem q193_96 : z_fi (z_mi 193) 96 = some (96, .aload_n 0, 0, 0, 0, 0, 0) := rfl
set_option maxRecDepth 8000 in
theorem q193_97 : z_fi (z_mi 193) 97 = some (97, .getfield 7, 0, 10, 0, 0, 0) := rfl
set_option maxRecDepth 8000 in
theorem q193_100 : z_fi (z_mi 193) 100 = some (100, .iload_n 1, 0, 0, 0, 0, 0) := rfl
set_option maxRecDepth 8000 in
theorem q193_101 : z_fi (z_mi 193) 101 = some (101, .iconst 5, 0, 0, 0, 5, 0) := rfl
set_option maxRecDepth 8000 in
theorem q193_102 : z_fi (z_mi 193) 102 = some (102, .iload_n 2, 0, 0, 0, 0, 0) := rfl
set_option maxRecDepth 8000 in
theorem q193_103 : z_fi (z_mi 193) 103 = some (103, .imul, 0, 0, 0, 0, 0) := rfl
set_option maxRecDepth 8000 in
theorem q193_104 : z_fi (z_mi 193) 104 = some (104, .iadd, 0, 0, 0, 0, 0) := rfl
set_option maxRecDepth 8000 in
theorem q193_105 : z_fi (z_mi 193) 105 = some (105, .iconst 4, 0, 0, 0, 4, 0) := rfl
set_option maxRecDepth 8000 in
theorem q193_106 : z_fi (z_mi 193) 106 = some (106, .iadd, 0, 0, 0, 0, 0) := rfl
set_option maxRecDepth 8000 in
theorem q193_107 : z_fi (z_mi 193) 107 = some (107, .iaload, 0, 0, 0, 0, 0) := rfl
set_option maxRecDepth 8000 in
theorem q193_108 : z_fi (z_mi 193) 108 = some (108, .iadd, 0, 0, 0, 0, 0) := rfl
set_option maxRecDepth 8000 in
theorem q193_109 : z_fi (z_mi 193) 109 = some (109, .dup2, 0, 0, 0, 0, 0) := rfl
set_option maxRecDepth 8000 in
theorem q193_110 : z_fi (z_mi 193) 110 = some (110, .iaload, 0, 0, 0, 0, 0) := rfl
set_option maxRecDepth 8000 in
theorem q193_111 : z_fi (z_mi 193) 111 = some (111, .iload 4, 0, 0, 0, 0, 0) := rfl
set_option maxRecDepth 8000 in
theorem q193_113 : z_fi (z_mi 193) 113 = some (113, .iconst 3, 0, 0, 0, 3, 0) := rfl
set_option maxRecDepth 8000 in
theorem q193_114 : z_fi (z_mi 193) 114 = some (114, .if_icmp .ne 7, 0, 121, 0, 0, 0) := rfl
set_option maxRecDepth 8000 in
theorem q193_117 : z_fi (z_mi 193) 117 = some (117, .iconst 1, 0, 0, 0, 1, 0) := rfl
set_option maxRecDepth 8000 in
theorem q193_118 : z_fi (z_mi 193) 118 = some (118, .goto 4, 0, 122, 0, 0, 0) := rfl
set_option maxRecDepth 8000 in
theorem q193_121 : z_fi (z_mi 193) 121 = some (121, .iconst 0, 0, 0, 0, 0, 0) := rfl
set_option maxRecDepth 8000 in
theorem q193_122 : z_fi (z_mi 193) 122 = some (122, .iadd, 0, 0, 0, 0, 0) := rfl
set_option maxRecDepth 8000 in
theorem q193_123 : z_fi (z_mi 193) 123 = some (123, .iastore, 0, 0, 0, 0, 0) := rfl
set_option maxRecDepth 8000 in
theorem q193_124 : z_fi (z_mi 193) 124 = some (124, .aload_n 0, 0, 0, 0, 0, 0) := rfl
set_option maxRecDepth 8000 in
theorem q193_125 : z_fi (z_mi 193) 125 = some (125, .getfield 7, 0, 10, 0, 0, 0) := rfl
set_option maxRecDepth 8000 in
theorem q193_128 : z_fi (z_mi 193) 128 = some (128, .iload_n 1, 0, 0, 0, 0, 0) := rfl
set_option maxRecDepth 8000 in
theorem q193_129 : z_fi (z_mi 193) 129 = some (129, .bipush 109, 0, 0, 0, 109, 0) := rfl
set_option maxRecDepth 8000 in
theorem q193_131 : z_fi (z_mi 193) 131 = some (131, .iadd, 0, 0, 0, 0, 0) := rfl
set_option maxRecDepth 8000 in
theorem q193_132 : z_fi (z_mi 193) 132 = some (132, .dup2, 0, 0, 0, 0, 0) := rfl
set_option maxRecDepth 8000 in
theorem q193_133 : z_fi (z_mi 193) 133 = some (133, .iaload, 0, 0, 0, 0, 0) := rfl
set_option maxRecDepth 8000 in
theorem q193_134 : z_fi (z_mi 193) 134 = some (134, .iload 4, 0, 0, 0, 0, 0) := rfl
set_option maxRecDepth 8000 in
theorem q193_136 : z_fi (z_mi 193) 136 = some (136, .iconst 4, 0, 0, 0, 4, 0) := rfl
set_option maxRecDepth 8000 in
theorem q193_137 : z_fi (z_mi 193) 137 = some (137, .if_icmp .ne 7, 0, 144, 0, 0, 0) := rfl
set_option maxRecDepth 8000 in
theorem q193_140 : z_fi (z_mi 193) 140 = some (140, .iconst 1, 0, 0, 0, 1, 0) := rfl
set_option maxRecDepth 8000 in
theorem q193_141 : z_fi (z_mi 193) 141 = some (141, .goto 4, 0, 145, 0, 0, 0) := rfl
set_option maxRecDepth 8000 in
theorem q193_144 : z_fi (z_mi 193) 144 = some (144, .iconst 0, 0, 0, 0, 0, 0) := rfl
set_option maxRecDepth 8000 in
theorem q193_145 : z_fi (z_mi 193) 145 = some (145, .iadd, 0, 0, 0, 0, 0) := rfl
set_option maxRecDepth 8000 in
theorem q193_146 : z_fi (z_mi 193) 146 = some (146, .iastore, 0, 0, 0, 0, 0) := rfl
set_option maxRecDepth 8000 in
theorem q193_147 : z_fi (z_mi 193) 147 = some (147, .return_, 0, 0, 0, 0, 0) := rfl
set_option maxRecDepth 20000 in
set_option maxHeartbeats 4000000 in
theorem t_M_grows {xL : Nat} {xs : Nat → Int32} {ρ : Nat → Nat → Option Nat} (hρ : z_hR ρ) (d : Nat) (a1 : Int32) (a2 : Int32) (σ : zS) : ∀ q, f_M_grows a1 a2 σ = some q → z_ec xL xs ρ (d + 1) 193 [.ref 90, .int a1, .int a2] σ (em_v q) := by
  refine j_of (W := [.ref 90, .int a1, .int a2, .null, .null]) (fun L hL => ?_) ?_
  · subst hL; exact z_vl_0 _ 2 rfl
  · unfold f_M_grows
    refine j_aload_n (pc' := 1) q193_0 rfl (by decide) rfl ?_
    refine j_iload_n (pc' := 2) q193_1 rfl rfl ?_
    refine j_iload_n (pc' := 3) q193_2 rfl rfl ?_
    refine j_callV2_pi (d := d + 0) (pc' := 6) q193_3 rfl (Nat.le_of_ble_eq_true rfl) (Nat.le_of_ble_eq_true rfl) rfl (t_M_cropIn hρ (d + 0) _ _ _) (fun r1 => ?_)
    refine j_istore3 (pc' := 7) q193_6 rfl (Nat.le_of_ble_eq_true rfl) rfl ?_
    refine j_iload_n (pc' := 8) q193_7 rfl rfl ?_
    refine j_bipush (pc' := 10) q193_8 rfl ?_
    refine j_icmp_ne (pc' := 13) q193_10 rfl (fun c2 => ?_) (fun c2 => ?_)
    · exact j_vret q193_13 rfl
    · refine j_aload_n (pc' := 15) q193_14 rfl (by decide) rfl ?_
      refine j_iload_n (pc' := 16) q193_15 rfl rfl ?_
      refine j_aload_n (pc' := 17) q193_16 rfl (by decide) rfl ?_
      refine j_getr (k := 90) (q := 91) (pc' := 20) q193_17 rfl (hρ 90 0 91 rfl) rfl ?_
      refine j_iload_n (pc' := 21) q193_20 rfl rfl ?_
      refine j_iconst (pc' := 22) q193_21 rfl ?_
      refine j_iload_n (pc' := 23) q193_22 rfl rfl ?_
      refine j_imul (pc' := 24) q193_23 rfl ?_
      refine j_iadd (pc' := 25) q193_24 rfl ?_
      refine j_iconst (pc' := 26) q193_25 rfl ?_
      refine j_iadd (pc' := 27) q193_26 rfl ?_
      refine j_if (fun hi3 => ?_) (fun _ => j_none)
      refine j_iald (k := 91) (N := 550) (pc' := 28) q193_27 rfl hi3 rfl ?_
      refine j_aload_n (pc' := 29) q193_28 rfl (by decide) rfl ?_
      refine j_iload_n (pc' := 30) q193_29 rfl rfl ?_
      refine j_iload_n (pc' := 31) q193_30 rfl rfl ?_
      refine j_callV2_pi (d := d + 0) (pc' := 34) q193_31 rfl (Nat.le_of_ble_eq_true rfl) (Nat.le_of_ble_eq_true rfl) rfl (t_M_lies hρ (d + 0) _ _ _) (fun r4 => ?_)
      refine j_callV3_pi (d := d + 0) (pc' := 37) q193_34 rfl (Nat.le_of_ble_eq_true rfl) (Nat.le_of_ble_eq_true rfl) rfl (t_M_stageBy hρ (d + 0) _ _ _ _) (fun r5 => ?_)
      refine j_istore4 (pc' := 39) q193_37 rfl (Nat.le_of_ble_eq_true rfl) rfl ?_
      refine j_aload_n (pc' := 40) q193_39 rfl (by decide) rfl ?_
      refine j_getr (k := 90) (q := 91) (pc' := 43) q193_40 rfl (hρ 90 0 91 rfl) rfl ?_
      refine j_iload_n (pc' := 44) q193_43 rfl rfl ?_
      refine j_iconst (pc' := 45) q193_44 rfl ?_
      refine j_iload_n (pc' := 46) q193_45 rfl rfl ?_
      refine j_imul (pc' := 47) q193_46 rfl ?_
      refine j_iadd (pc' := 48) q193_47 rfl ?_
      refine j_iconst (pc' := 49) q193_48 rfl ?_
      refine j_iadd (pc' := 50) q193_49 rfl ?_
      refine j_iload (pc' := 52) q193_50 rfl rfl ?_
      refine j_iconst (pc' := 53) q193_52 rfl ?_
      refine j_join (T := Int32 × Int32) 62 (fun t6 => [.ref 90, .int a1, .int a2, .int r1, .int r5]) (fun t6 => [.int t6.1, .int t6.2, .ref 91]) (fun t6 => σ) (fun t6 => ?_) (fun j6 hj6 => ?_)
      · show z_J _ _ _ _ _ _ _ _ _ _ _ _
        refine j_if (fun hi7 => ?_) (fun _ => j_none)
        refine j_iast (k := 91) (N := 550) (pc' := 63) q193_62 rfl hi7 rfl ?_
        refine j_nameS (fun τ8 => ?_)
        refine j_aload_n (pc' := 64) q193_63 rfl (by decide) rfl ?_
        refine j_getr (k := 90) (q := 91) (pc' := 67) q193_64 rfl (hρ 90 0 91 rfl) rfl ?_
        refine j_iload_n (pc' := 68) q193_67 rfl rfl ?_
        refine j_iconst (pc' := 69) q193_68 rfl ?_
        refine j_iload_n (pc' := 70) q193_69 rfl rfl ?_
        refine j_imul (pc' := 71) q193_70 rfl ?_
        refine j_iadd (pc' := 72) q193_71 rfl ?_
        refine j_iconst (pc' := 73) q193_72 rfl ?_
        refine j_iadd (pc' := 74) q193_73 rfl ?_
        refine j_iload (pc' := 76) q193_74 rfl rfl ?_
        refine j_iconst (pc' := 77) q193_76 rfl ?_
        refine j_join (T := Int32 × Int32) 87 (fun t9 => [.ref 90, .int a1, .int a2, .null, .int r5]) (fun t9 => [.int t9.1, .int t9.2, .ref 91]) (fun t9 => τ8) (fun t9 => ?_) (fun j9 hj9 => ?_)
        · show z_J _ _ _ _ _ _ _ _ _ _ _ _
          refine j_if (fun hi10 => ?_) (fun _ => j_none)
          refine j_iast (k := 91) (N := 550) (pc' := 88) q193_87 rfl hi10 rfl ?_
          refine j_nameS (fun τ11 => ?_)
          refine j_aload_n (pc' := 89) q193_88 rfl (by decide) rfl ?_
          refine j_getr (k := 90) (q := 91) (pc' := 92) q193_89 rfl (hρ 90 0 91 rfl) rfl ?_
          refine j_iload_n (pc' := 93) q193_92 rfl rfl ?_
          refine j_bipush (pc' := 95) q193_93 rfl ?_
          refine j_iadd (pc' := 96) q193_95 rfl ?_
          refine j_aload_n (pc' := 97) q193_96 rfl (by decide) rfl ?_
          refine j_getr (k := 90) (q := 91) (pc' := 100) q193_97 rfl (hρ 90 0 91 rfl) rfl ?_
          refine j_iload_n (pc' := 101) q193_100 rfl rfl ?_
          refine j_iconst (pc' := 102) q193_101 rfl ?_
          refine j_iload_n (pc' := 103) q193_102 rfl rfl ?_
          refine j_imul (pc' := 104) q193_103 rfl ?_
          refine j_iadd (pc' := 105) q193_104 rfl ?_
          refine j_iconst (pc' := 106) q193_105 rfl ?_
          refine j_iadd (pc' := 107) q193_106 rfl ?_
          refine j_if (fun hi12 => ?_) (fun _ => j_none)
          refine j_iald (k := 91) (N := 550) (pc' := 108) q193_107 rfl hi12 rfl ?_
          refine j_iadd (pc' := 109) q193_108 rfl ?_
          refine j_dup2 (pc' := 110) q193_109 ⟨rfl, rfl⟩ rfl ?_
          refine j_if (fun hi13 => ?_) (fun _ => j_none)
          refine j_iald (k := 91) (N := 550) (pc' := 111) q193_110 rfl hi13 rfl ?_
          refine j_iload (pc' := 113) q193_111 rfl rfl ?_
          refine j_iconst (pc' := 114) q193_113 rfl ?_
          refine j_join (T := Int32 × Int32 × Int32) 122 (fun t14 => [.ref 90, .int a1, .null, .null, .int r5]) (fun t14 => [.int t14.1, .int t14.2.1, .int t14.2.2, .ref 91]) (fun t14 => τ11) (fun t14 => ?_) (fun j14 hj14 => ?_)
          · show z_J _ _ _ _ _ _ _ _ _ _ _ _
            refine j_iadd (pc' := 123) q193_122 rfl ?_
            refine j_if (fun hi15 => ?_) (fun _ => j_none)
            refine j_iast (k := 91) (N := 550) (pc' := 124) q193_123 rfl hi15 rfl ?_
            refine j_nameS (fun τ16 => ?_)
            refine j_aload_n (pc' := 125) q193_124 rfl (by decide) rfl ?_
            refine j_getr (k := 90) (q := 91) (pc' := 128) q193_125 rfl (hρ 90 0 91 rfl) rfl ?_
            refine j_iload_n (pc' := 129) q193_128 rfl rfl ?_
            refine j_bipush (pc' := 131) q193_129 rfl ?_
            refine j_iadd (pc' := 132) q193_131 rfl ?_
            refine j_dup2 (pc' := 133) q193_132 ⟨rfl, rfl⟩ rfl ?_
            refine j_if (fun hi17 => ?_) (fun _ => j_none)
            refine j_iald (k := 91) (N := 550) (pc' := 134) q193_133 rfl hi17 rfl ?_
            refine j_iload (pc' := 136) q193_134 rfl rfl ?_
            refine j_iconst (pc' := 137) q193_136 rfl ?_
            refine j_join (T := Int32 × Int32 × Int32) 145 (fun t18 => [.null, .null, .null, .null, .null]) (fun t18 => [.int t18.1, .int t18.2.1, .int t18.2.2, .ref 91]) (fun t18 => τ16) (fun t18 => ?_) (fun j18 hj18 => ?_)
            · show z_J _ _ _ _ _ _ _ _ _ _ _ _
              refine j_iadd (pc' := 146) q193_145 rfl ?_
              refine j_if (fun hi19 => ?_) (fun _ => j_none)
              refine j_iast (k := 91) (N := 550) (pc' := 147) q193_146 rfl hi19 rfl ?_
              refine j_nameS (fun τ20 => ?_)
              exact j_vret q193_147 rfl
            · show z_J _ _ _ _ _ _ _ _ _ _ _ _
              refine j_icmp_ne (pc' := 140) q193_137 rfl (fun c21 => ?_) (fun c21 => ?_)
              · refine j_iconst (pc' := 141) q193_140 rfl ?_
                refine j_goto q193_141 rfl ?_
                refine j_forget (z_le_n (z_le_n (z_le_n (z_le_n (z_le_n (z_le_nil)))))) (hj18 ((1 : Int32), (τ16 91 (a1 + (109 : Int32)).toNatClampNeg), (a1 + (109 : Int32))))
              · refine j_iconst (pc' := 145) q193_144 rfl ?_
                refine j_forget (z_le_n (z_le_n (z_le_n (z_le_n (z_le_n (z_le_nil)))))) (hj18 ((0 : Int32), (τ16 91 (a1 + (109 : Int32)).toNatClampNeg), (a1 + (109 : Int32))))
          · show z_J _ _ _ _ _ _ _ _ _ _ _ _
            refine j_icmp_ne (pc' := 117) q193_114 rfl (fun c22 => ?_) (fun c22 => ?_)
            · refine j_iconst (pc' := 118) q193_117 rfl ?_
              refine j_goto q193_118 rfl ?_
              refine j_forget (z_le_s (z_le_s (z_le_n (z_le_n (z_le_s (z_le_nil)))))) (hj14 ((1 : Int32), (τ11 91 ((a1 + (106 : Int32)) + (τ11 91 ((a1 + ((5 : Int32) * a2)) + (4 : Int32)).toNatClampNeg)).toNatClampNeg), ((a1 + (106 : Int32)) + (τ11 91 ((a1 + ((5 : Int32) * a2)) + (4 : Int32)).toNatClampNeg))))
            · refine j_iconst (pc' := 122) q193_121 rfl ?_
              refine j_forget (z_le_s (z_le_s (z_le_n (z_le_n (z_le_s (z_le_nil)))))) (hj14 ((0 : Int32), (τ11 91 ((a1 + (106 : Int32)) + (τ11 91 ((a1 + ((5 : Int32) * a2)) + (4 : Int32)).toNatClampNeg)).toNatClampNeg), ((a1 + (106 : Int32)) + (τ11 91 ((a1 + ((5 : Int32) * a2)) + (4 : Int32)).toNatClampNeg))))
        · show z_J _ _ _ _ _ _ _ _ _ _ _ _
          refine j_icmp_le (pc' := 80) q193_77 rfl (fun c23 => ?_) (fun c23 => ?_)
          · refine j_iload_n (pc' := 85) q193_84 rfl rfl ?_
            refine j_iconst (pc' := 86) q193_85 rfl ?_
            refine j_iadd (pc' := 87) q193_86 rfl ?_
            refine j_forget (z_le_s (z_le_s (z_le_s (z_le_n (z_le_s (z_le_nil)))))) (hj9 ((r1 + (1 : Int32)), ((a1 + ((5 : Int32) * a2)) + (2 : Int32))))
          · refine j_iconst (pc' := 81) q193_80 rfl ?_
            refine j_goto q193_81 rfl ?_
            refine j_forget (z_le_s (z_le_s (z_le_s (z_le_n (z_le_s (z_le_nil)))))) (hj9 ((0 : Int32), ((a1 + ((5 : Int32) * a2)) + (2 : Int32))))
      · show z_J _ _ _ _ _ _ _ _ _ _ _ _
        refine j_icmp_le (pc' := 56) q193_53 rfl (fun c24 => ?_) (fun c24 => ?_)
        · refine j_iload (pc' := 62) q193_60 rfl rfl ?_
          refine j_forget (z_le_s (z_le_s (z_le_s (z_le_s (z_le_s (z_le_nil)))))) (hj6 (r5, ((a1 + ((5 : Int32) * a2)) + (3 : Int32))))
        · refine j_iconst (pc' := 57) q193_56 rfl ?_
          refine j_goto q193_57 rfl ?_
          refine j_forget (z_le_s (z_le_s (z_le_s (z_le_s (z_le_s (z_le_nil)))))) (hj6 ((0 : Int32), ((a1 + ((5 : Int32) * a2)) + (3 : Int32))))
theorem q194_0 : z_fi (z_mi 194) 0 = some (0, .iconst 0, 0, 0, 0, 0, 0) := rfl
theorem q194_1 : z_fi (z_mi 194) 1 = some (1, .istore_n 3, 0, 0, 0, 0, 0) := rfl
theorem q194_2 : z_fi (z_mi 194) 2 = some (2, .iload_n 3, 0, 0, 0, 0, 0) := rfl
theorem q194_3 : z_fi (z_mi 194) 3 = some (3, .iload_n 2, 0, 0, 0, 0, 0) := rfl
theorem q194_4 : z_fi (z_mi 194) 4 = some (4, .if_icmp .ge 190, 0, 194, 0, 0, 0) := rfl
theorem q194_7 : z_fi (z_mi 194) 7 = some (7, .iconst 0, 0, 0, 0, 0, 0) := rfl
theorem q194_8 : z_fi (z_mi 194) 8 = some (8, .istore 4, 0, 0, 0, 0, 0) := rfl
theorem q194_10 : z_fi (z_mi 194) 10 = some (10, .iload 4, 0, 0, 0, 0, 0) := rfl
theorem q194_12 : z_fi (z_mi 194) 12 = some (12, .aload_n 0, 0, 0, 0, 0, 0) := rfl
theorem q194_13 : z_fi (z_mi 194) 13 = some (13, .getfield 13, 0, 10, 1, 0, 0) := rfl
theorem q194_16 : z_fi (z_mi 194) 16 = some (16, .aload_n 0, 0, 0, 0, 0, 0) := rfl
theorem q194_17 : z_fi (z_mi 194) 17 = some (17, .getfield 17, 0, 10, 2, 0, 0) := rfl
theorem q194_20 : z_fi (z_mi 194) 20 = some (20, .imul, 0, 0, 0, 0, 0) := rfl
theorem q194_21 : z_fi (z_mi 194) 21 = some (21, .if_icmp .ge 23, 0, 44, 0, 0, 0) := rfl
theorem q194_24 : z_fi (z_mi 194) 24 = some (24, .aload_n 0, 0, 0, 0, 0, 0) := rfl
theorem q194_25 : z_fi (z_mi 194) 25 = some (25, .getfield 38, 0, 10, 23, 0, 0) := rfl
theorem q194_28 : z_fi (z_mi 194) 28 = some (28, .iload 4, 0, 0, 0, 0, 0) := rfl
theorem q194_30 : z_fi (z_mi 194) 30 = some (30, .aload_n 0, 0, 0, 0, 0, 0) := rfl
theorem q194_31 : z_fi (z_mi 194) 31 = some (31, .iload_n 1, 0, 0, 0, 0, 0) := rfl
theorem q194_32 : z_fi (z_mi 194) 32 = some (32, .iload 4, 0, 0, 0, 0, 0) := rfl
theorem q194_34 : z_fi (z_mi 194) 34 = some (34, .invokevirtual 212, 0, 191, 2, 0, 0) := rfl
theorem q194_37 : z_fi (z_mi 194) 37 = some (37, .iastore, 0, 0, 0, 0, 0) := rfl
theorem q194_38 : z_fi (z_mi 194) 38 = some (38, .iinc 4 1, 0, 0, 0, 1, 0) := rfl
theorem q194_41 : z_fi (z_mi 194) 41 = some (41, .goto (-31), 0, 10, 0, 0, 0) := rfl
theorem q194_44 : z_fi (z_mi 194) 44 = some (44, .iconst 0, 0, 0, 0, 0, 0) := rfl
theorem q194_45 : z_fi (z_mi 194) 45 = some (45, .istore 4, 0, 0, 0, 0, 0) := rfl
theorem q194_47 : z_fi (z_mi 194) 47 = some (47, .iload 4, 0, 0, 0, 0, 0) := rfl
theorem q194_49 : z_fi (z_mi 194) 49 = some (49, .aload_n 0, 0, 0, 0, 0, 0) := rfl
theorem q194_50 : z_fi (z_mi 194) 50 = some (50, .getfield 13, 0, 10, 1, 0, 0) := rfl
theorem q194_53 : z_fi (z_mi 194) 53 = some (53, .aload_n 0, 0, 0, 0, 0, 0) := rfl
theorem q194_54 : z_fi (z_mi 194) 54 = some (54, .getfield 17, 0, 10, 2, 0, 0) := rfl
theorem q194_57 : z_fi (z_mi 194) 57 = some (57, .imul, 0, 0, 0, 0, 0) := rfl
theorem q194_58 : z_fi (z_mi 194) 58 = some (58, .if_icmp .ge 117, 0, 175, 0, 0, 0) := rfl
theorem q194_61 : z_fi (z_mi 194) 61 = some (61, .aload_n 0, 0, 0, 0, 0, 0) := rfl
theorem q194_62 : z_fi (z_mi 194) 62 = some (62, .getfield 7, 0, 10, 0, 0, 0) := rfl
theorem q194_65 : z_fi (z_mi 194) 65 = some (65, .iload_n 1, 0, 0, 0, 0, 0) := rfl
theorem q194_66 : z_fi (z_mi 194) 66 = some (66, .iconst 5, 0, 0, 0, 5, 0) := rfl
theorem q194_67 : z_fi (z_mi 194) 67 = some (67, .iload 4, 0, 0, 0, 0, 0) := rfl
theorem q194_69 : z_fi (z_mi 194) 69 = some (69, .imul, 0, 0, 0, 0, 0) := rfl
theorem q194_70 : z_fi (z_mi 194) 70 = some (70, .iadd, 0, 0, 0, 0, 0) := rfl
theorem q194_71 : z_fi (z_mi 194) 71 = some (71, .iconst 1, 0, 0, 0, 1, 0) := rfl
theorem q194_72 : z_fi (z_mi 194) 72 = some (72, .iadd, 0, 0, 0, 0, 0) := rfl
theorem q194_73 : z_fi (z_mi 194) 73 = some (73, .iaload, 0, 0, 0, 0, 0) := rfl
theorem q194_74 : z_fi (z_mi 194) 74 = some (74, .istore 5, 0, 0, 0, 0, 0) := rfl
theorem q194_76 : z_fi (z_mi 194) 76 = some (76, .aload_n 0, 0, 0, 0, 0, 0) := rfl
theorem q194_77 : z_fi (z_mi 194) 77 = some (77, .getfield 38, 0, 10, 23, 0, 0) := rfl
theorem q194_80 : z_fi (z_mi 194) 80 = some (80, .iload 4, 0, 0, 0, 0, 0) := rfl
theorem q194_82 : z_fi (z_mi 194) 82 = some (82, .iaload, 0, 0, 0, 0, 0) := rfl
theorem q194_83 : z_fi (z_mi 194) 83 = some (83, .bipush (-4), 0, 0, 0, (-4), 0) := rfl
theorem q194_85 : z_fi (z_mi 194) 85 = some (85, .if_icmp .eq 40, 0, 125, 0, 0, 0) := rfl
theorem q194_88 : z_fi (z_mi 194) 88 = some (88, .aload_n 0, 0, 0, 0, 0, 0) := rfl
theorem q194_89 : z_fi (z_mi 194) 89 = some (89, .iload_n 1, 0, 0, 0, 0, 0) := rfl
theorem q194_90 : z_fi (z_mi 194) 90 = some (90, .iload 4, 0, 0, 0, 0, 0) := rfl
theorem q194_92 : z_fi (z_mi 194) 92 = some (92, .aload_n 0, 0, 0, 0, 0, 0) := rfl
theorem q194_93 : z_fi (z_mi 194) 93 = some (93, .getfield 7, 0, 10, 0, 0, 0) := rfl
theorem q194_96 : z_fi (z_mi 194) 96 = some (96, .iload_n 1, 0, 0, 0, 0, 0) := rfl
theorem q194_97 : z_fi (z_mi 194) 97 = some (97, .bipush 81, 0, 0, 0, 81, 0) := rfl
theorem q194_99 : z_fi (z_mi 194) 99 = some (99, .iadd, 0, 0, 0, 0, 0) := rfl
theorem q194_100 : z_fi (z_mi 194) 100 = some (100, .iconst 3, 0, 0, 0, 3, 0) := rfl
theorem q194_101 : z_fi (z_mi 194) 101 = some (101, .aload_n 0, 0, 0, 0, 0, 0) := rfl
theorem q194_102 : z_fi (z_mi 194) 102 = some (102, .getfield 38, 0, 10, 23, 0, 0) := rfl
set_option maxRecDepth 8000 in
theorem q194_105 : z_fi (z_mi 194) 105 = some (105, .iload 4, 0, 0, 0, 0, 0) := rfl
set_option maxRecDepth 8000 in
theorem q194_107 : z_fi (z_mi 194) 107 = some (107, .iaload, 0, 0, 0, 0, 0) := rfl
set_option maxRecDepth 8000 in
theorem q194_108 : z_fi (z_mi 194) 108 = some (108, .imul, 0, 0, 0, 0, 0) := rfl
set_option maxRecDepth 8000 in
theorem q194_109 : z_fi (z_mi 194) 109 = some (109, .iadd, 0, 0, 0, 0, 0) := rfl
set_option maxRecDepth 8000 in
theorem q194_110 : z_fi (z_mi 194) 110 = some (110, .iaload, 0, 0, 0, 0, 0) := rfl
set_option maxRecDepth 8000 in
theorem q194_111 : z_fi (z_mi 194) 111 = some (111, .iload 5, 0, 0, 0, 0, 0) := rfl
set_option maxRecDepth 8000 in
theorem q194_113 : z_fi (z_mi 194) 113 = some (113, .ifCond .ne 7, 0, 120, 0, 0, 0) := rfl
set_option maxRecDepth 8000 in
theorem q194_116 : z_fi (z_mi 194) 116 = some (116, .iconst 1, 0, 0, 0, 1, 0) := rfl
set_option maxRecDepth 8000 in
theorem q194_117 : z_fi (z_mi 194) 117 = some (117, .goto 5, 0, 122, 0, 0, 0) := rfl
set_option maxRecDepth 8000 in
theorem q194_120 : z_fi (z_mi 194) 120 = some (120, .iload 5, 0, 0, 0, 0, 0) := rfl
set_option maxRecDepth 8000 in
theorem q194_122 : z_fi (z_mi 194) 122 = some (122, .invokevirtual 187, 0, 178, 4, 0, 0) := rfl
set_option maxRecDepth 8000 in
theorem q194_125 : z_fi (z_mi 194) 125 = some (125, .aload_n 0, 0, 0, 0, 0, 0) := rfl
set_option maxRecDepth 8000 in
theorem q194_126 : z_fi (z_mi 194) 126 = some (126, .iload_n 1, 0, 0, 0, 0, 0) := rfl
set_option maxRecDepth 8000 in
theorem q194_127 : z_fi (z_mi 194) 127 = some (127, .iload 4, 0, 0, 0, 0, 0) := rfl
set_option maxRecDepth 8000 in
theorem q194_129 : z_fi (z_mi 194) 129 = some (129, .invokevirtual 215, 0, 193, 2, 0, 0) := rfl
set_option maxRecDepth 8000 in
theorem q194_132 : z_fi (z_mi 194) 132 = some (132, .aload_n 0, 0, 0, 0, 0, 0) := rfl
set_option maxRecDepth 8000 in
theorem q194_133 : z_fi (z_mi 194) 133 = some (133, .getfield 7, 0, 10, 0, 0, 0) := rfl
set_option maxRecDepth 8000 in
theorem q194_136 : z_fi (z_mi 194) 136 = some (136, .iload_n 1, 0, 0, 0, 0, 0) := rfl
set_option maxRecDepth 8000 in
theorem q194_137 : z_fi (z_mi 194) 137 = some (137, .iconst 5, 0, 0, 0, 5, 0) := rfl
set_option maxRecDepth 8000 in
theorem q194_138 : z_fi (z_mi 194) 138 = some (138, .iload 4, 0, 0, 0, 0, 0) := rfl
set_option maxRecDepth 8000 in
theorem q194_140 : z_fi (z_mi 194) 140 = some (140, .imul, 0, 0, 0, 0, 0) := rfl
set_option maxRecDepth 8000 in
theorem q194_141 : z_fi (z_mi 194) 141 = some (141, .iadd, 0, 0, 0, 0, 0) := rfl
set_option maxRecDepth 8000 in
theorem q194_142 : z_fi (z_mi 194) 142 = some (142, .iconst 1, 0, 0, 0, 1, 0) := rfl
set_option maxRecDepth 8000 in
theorem q194_143 : z_fi (z_mi 194) 143 = some (143, .iadd, 0, 0, 0, 0, 0) := rfl
set_option maxRecDepth 8000 in
theorem q194_144 : z_fi (z_mi 194) 144 = some (144, .dup2, 0, 0, 0, 0, 0) := rfl
set_option maxRecDepth 8000 in
theorem q194_145 : z_fi (z_mi 194) 145 = some (145, .iaload, 0, 0, 0, 0, 0) := rfl
set_option maxRecDepth 8000 in
theorem q194_146 : z_fi (z_mi 194) 146 = some (146, .aload_n 0, 0, 0, 0, 0, 0) := rfl
set_option maxRecDepth 8000 in
theorem q194_147 : z_fi (z_mi 194) 147 = some (147, .getfield 7, 0, 10, 0, 0, 0) := rfl
set_option maxRecDepth 8000 in
theorem q194_150 : z_fi (z_mi 194) 150 = some (150, .iload_n 1, 0, 0, 0, 0, 0) := rfl
set_option maxRecDepth 8000 in
theorem q194_151 : z_fi (z_mi 194) 151 = some (151, .iconst 5, 0, 0, 0, 5, 0) := rfl
set_option maxRecDepth 8000 in
theorem q194_152 : z_fi (z_mi 194) 152 = some (152, .iload 4, 0, 0, 0, 0, 0) := rfl
set_option maxRecDepth 8000 in
theorem q194_154 : z_fi (z_mi 194) 154 = some (154, .imul, 0, 0, 0, 0, 0) := rfl
set_option maxRecDepth 8000 in
theorem q194_155 : z_fi (z_mi 194) 155 = some (155, .iadd, 0, 0, 0, 0, 0) := rfl
set_option maxRecDepth 8000 in
theorem q194_156 : z_fi (z_mi 194) 156 = some (156, .iconst 1, 0, 0, 0, 1, 0) := rfl
set_option maxRecDepth 8000 in
theorem q194_157 : z_fi (z_mi 194) 157 = some (157, .iadd, 0, 0, 0, 0, 0) := rfl
set_option maxRecDepth 8000 in
theorem q194_158 : z_fi (z_mi 194) 158 = some (158, .iaload, 0, 0, 0, 0, 0) := rfl
set_option maxRecDepth 8000 in
theorem q194_159 : z_fi (z_mi 194) 159 = some (159, .ifCond .le 7, 0, 166, 0, 0, 0) := rfl
set_option maxRecDepth 8000 in
theorem q194_162 : z_fi (z_mi 194) 162 = some (162, .iconst 1, 0, 0, 0, 1, 0) := rfl
set_option maxRecDepth 8000 in
theorem q194_163 : z_fi (z_mi 194) 163 = some (163, .goto 4, 0, 167, 0, 0, 0) := rfl
set_option maxRecDepth 8000 in
theorem q194_166 : z_fi (z_mi 194) 166 = some (166, .iconst 0, 0, 0, 0, 0, 0) := rfl
set_option maxRecDepth 8000 in
theorem q194_167 : z_fi (z_mi 194) 167 = some (167, .isub, 0, 0, 0, 0, 0) := rfl
set_option maxRecDepth 8000 in
theorem q194_168 : z_fi (z_mi 194) 168 = some (168, .iastore, 0, 0, 0, 0, 0) := rfl
set_option maxRecDepth 8000 in
theorem q194_169 : z_fi (z_mi 194) 169 = some (169, .iinc 4 1, 0, 0, 0, 1, 0) := rfl
set_option maxRecDepth 8000 in
theorem q194_172 : z_fi (z_mi 194) 172 = some (172, .goto (-125), 0, 47, 0, 0, 0) := rfl
set_option maxRecDepth 8000 in
theorem q194_175 : z_fi (z_mi 194) 175 = some (175, .aload_n 0, 0, 0, 0, 0, 0) := rfl
set_option maxRecDepth 8000 in
theorem q194_176 : z_fi (z_mi 194) 176 = some (176, .getfield 7, 0, 10, 0, 0, 0) := rfl
set_option maxRecDepth 8000 in
theorem q194_179 : z_fi (z_mi 194) 179 = some (179, .iload_n 1, 0, 0, 0, 0, 0) := rfl
set_option maxRecDepth 8000 in
theorem q194_180 : z_fi (z_mi 194) 180 = some (180, .bipush 105, 0, 0, 0, 105, 0) := rfl
set_option maxRecDepth 8000 in
theorem q194_182 : z_fi (z_mi 194) 182 = some (182, .iadd, 0, 0, 0, 0, 0) := rfl
set_option maxRecDepth 8000 in
theorem q194_183 : z_fi (z_mi 194) 183 = some (183, .dup2, 0, 0, 0, 0, 0) := rfl
set_option maxRecDepth 8000 in
theorem q194_184 : z_fi (z_mi 194) 184 = some (184, .iaload, 0, 0, 0, 0, 0) := rfl
set_option maxRecDepth 8000 in
theorem q194_185 : z_fi (z_mi 194) 185 = some (185, .iconst 1, 0, 0, 0, 1, 0) := rfl
set_option maxRecDepth 8000 in
theorem q194_186 : z_fi (z_mi 194) 186 = some (186, .iadd, 0, 0, 0, 0, 0) := rfl
set_option maxRecDepth 8000 in
theorem q194_187 : z_fi (z_mi 194) 187 = some (187, .iastore, 0, 0, 0, 0, 0) := rfl
set_option maxRecDepth 8000 in
theorem q194_188 : z_fi (z_mi 194) 188 = some (188, .iinc 3 1, 0, 0, 0, 1, 0) := rfl
set_option maxRecDepth 8000 in
theorem q194_191 : z_fi (z_mi 194) 191 = some (191, .goto (-189), 0, 2, 0, 0, 0) := rfl
set_option maxRecDepth 8000 in
theorem q194_194 : z_fi (z_mi 194) 194 = some (194, .return_, 0, 0, 0, 0, 0) := rfl
set_option maxRecDepth 20000 in
set_option maxHeartbeats 4000000 in
theorem t_M_weeks {xL : Nat} {xs : Nat → Int32} {ρ : Nat → Nat → Option Nat} (hρ : z_hR ρ) (d : Nat) (a1 : Int32) (a2 : Int32) (σ : zS) : ∀ q, f_M_weeks a1 a2 σ = some q → z_ec xL xs ρ (d + 3) 194 [.ref 90, .int a1, .int a2] σ (em_v q) := by
  refine j_of (W := [.ref 90, .int a1, .int a2, .null, .null, .null]) (fun L hL => ?_) ?_
  · subst hL; exact z_vl_0 _ 3 rfl
  · unfold f_M_weeks
    refine j_iconst (pc' := 1) q194_0 rfl ?_
    refine j_istore3 (pc' := 2) q194_1 rfl (Nat.le_of_ble_eq_true rfl) rfl ?_
    refine j_forget (V' := [.ref 90, .int a1, .int a2, .int (0 : Int32), .null, .null]) (z_le_s (z_le_s (z_le_s (z_le_s (z_le_n (z_le_n (z_le_nil))))))) ?_
    refine j_loopX (S := Int32 × zS) (E := zS) (fun e => e) 194 (fun s1 => [.ref 90, .int a1, .int a2, .int s1.1, .null, .null]) (fun s1 => s1.2) (fun b1 => [.null, .null, .null, .null, .null, .null]) (fun b1 => b1) (fun b1 => ?_) (fun R1 hR1 hX1 s1 => ?_) ((0 : Int32), σ)
    · show z_J _ _ _ _ _ _ _ _ _ _ _ _
      exact j_vret q194_194 rfl
    · show z_J _ _ _ _ _ _ _ _ _ _ _ _
      refine j_iload_n (pc' := 3) q194_2 rfl rfl ?_
      refine j_iload_n (pc' := 4) q194_3 rfl rfl ?_
      refine j_icmp_ge (pc' := 7) q194_4 rfl (fun c2 => ?_) (fun c2 => ?_)
      · exact j_exit (j_forget (z_le_n (z_le_n (z_le_n (z_le_n (z_le_n (z_le_n (z_le_nil))))))) (hX1 s1.2))
      · refine j_iconst (pc' := 8) q194_7 rfl ?_
        refine j_istore4 (pc' := 10) q194_8 rfl (Nat.le_of_ble_eq_true rfl) rfl ?_
        refine j_forget (V' := [.ref 90, .int a1, .int a2, .int s1.1, .int (0 : Int32), .null]) (z_le_s (z_le_s (z_le_s (z_le_s (z_le_s (z_le_n (z_le_nil))))))) ?_
        refine j_loopX (S := Int32 × zS) (E := zS) (fun e => e) 44 (fun s3 => [.ref 90, .int a1, .int a2, .int s1.1, .int s3.1, .null]) (fun s3 => s3.2) (fun b3 => [.ref 90, .int a1, .int a2, .int s1.1, .null, .null]) (fun b3 => b3) (fun b3 => ?_) (fun R3 hR3 hX3 s3 => ?_) ((0 : Int32), s1.2)
        · show z_J _ _ _ _ _ _ _ _ _ _ _ _
          refine j_iconst (pc' := 45) q194_44 rfl ?_
          refine j_istore4 (pc' := 47) q194_45 rfl (Nat.le_of_ble_eq_true rfl) rfl ?_
          refine j_forget (V' := [.ref 90, .int a1, .int a2, .int s1.1, .int (0 : Int32), .null]) (z_le_s (z_le_s (z_le_s (z_le_s (z_le_s (z_le_n (z_le_nil))))))) ?_
          refine j_loopX (S := Int32 × zS) (E := zS) (fun e => e) 175 (fun s8 => [.ref 90, .int a1, .int a2, .int s1.1, .int s8.1, .null]) (fun s8 => s8.2) (fun b8 => [.ref 90, .int a1, .int a2, .int s1.1, .null, .null]) (fun b8 => b8) (fun b8 => ?_) (fun R8 hR8 hX8 s8 => ?_) ((0 : Int32), b3)
          · show z_J _ _ _ _ _ _ _ _ _ _ _ _
            refine j_aload_n (pc' := 176) q194_175 rfl (by decide) rfl ?_
            refine j_getr (k := 90) (q := 91) (pc' := 179) q194_176 rfl (hρ 90 0 91 rfl) rfl ?_
            refine j_iload_n (pc' := 180) q194_179 rfl rfl ?_
            refine j_bipush (pc' := 182) q194_180 rfl ?_
            refine j_iadd (pc' := 183) q194_182 rfl ?_
            refine j_dup2 (pc' := 184) q194_183 ⟨rfl, rfl⟩ rfl ?_
            refine j_if (fun hi27 => ?_) (fun _ => j_none)
            refine j_iald (k := 91) (N := 550) (pc' := 185) q194_184 rfl hi27 rfl ?_
            refine j_iconst (pc' := 186) q194_185 rfl ?_
            refine j_iadd (pc' := 187) q194_186 rfl ?_
            refine j_if (fun hi28 => ?_) (fun _ => j_none)
            refine j_iast (k := 91) (N := 550) (pc' := 188) q194_187 rfl hi28 rfl ?_
            refine j_nameS (fun τ29 => ?_)
            refine j_iinc3 (pc' := 191) q194_188 rfl (Nat.le_of_ble_eq_true rfl) rfl ?_
            refine j_goto q194_191 rfl ?_
            exact j_again (j_forget (z_le_s (z_le_s (z_le_s (z_le_s (z_le_n (z_le_n (z_le_nil))))))) (hR1 ((s1.1 + (1 : Int32)), τ29)))
          · show z_J _ _ _ _ _ _ _ _ _ _ _ _
            refine j_iload (pc' := 49) q194_47 rfl rfl ?_
            refine j_aload_n (pc' := 50) q194_49 rfl (by decide) rfl ?_
            refine j_getf (k := 90) (pc' := 53) q194_50 rfl rfl ?_
            refine j_aload_n (pc' := 54) q194_53 rfl (by decide) rfl ?_
            refine j_getf (k := 90) (pc' := 57) q194_54 rfl rfl ?_
            refine j_imul (pc' := 58) q194_57 rfl ?_
            refine j_icmp_ge (pc' := 61) q194_58 rfl (fun c9 => ?_) (fun c9 => ?_)
            · exact j_exit (j_forget (z_le_s (z_le_s (z_le_s (z_le_s (z_le_n (z_le_n (z_le_nil))))))) (hX8 s8.2))
            · refine j_aload_n (pc' := 62) q194_61 rfl (by decide) rfl ?_
              refine j_getr (k := 90) (q := 91) (pc' := 65) q194_62 rfl (hρ 90 0 91 rfl) rfl ?_
              refine j_iload_n (pc' := 66) q194_65 rfl rfl ?_
              refine j_iconst (pc' := 67) q194_66 rfl ?_
              refine j_iload (pc' := 69) q194_67 rfl rfl ?_
              refine j_imul (pc' := 70) q194_69 rfl ?_
              refine j_iadd (pc' := 71) q194_70 rfl ?_
              refine j_iconst (pc' := 72) q194_71 rfl ?_
              refine j_iadd (pc' := 73) q194_72 rfl ?_
              refine j_if (fun hi10 => ?_) (fun _ => j_none)
              refine j_iald (k := 91) (N := 550) (pc' := 74) q194_73 rfl hi10 rfl ?_
              refine j_nameI (fun v11 => ?_)
              refine j_istore5 (pc' := 76) q194_74 rfl (Nat.le_of_ble_eq_true rfl) rfl ?_
              refine j_aload_n (pc' := 77) q194_76 rfl (by decide) rfl ?_
              refine j_getr (k := 90) (q := 98) (pc' := 80) q194_77 rfl (hρ 90 23 98 rfl) rfl ?_
              refine j_iload (pc' := 82) q194_80 rfl rfl ?_
              refine j_if (fun hi12 => ?_) (fun _ => j_none)
              refine j_iald (k := 98) (N := 16) (pc' := 83) q194_82 rfl hi12 rfl ?_
              refine j_bipush (pc' := 85) q194_83 rfl ?_
              refine j_join (T := zS) 125 (fun t13 => [.ref 90, .int a1, .int a2, .int s1.1, .int s8.1, .null]) (fun t13 => []) (fun t13 => t13) (fun t13 => ?_) (fun j13 hj13 => ?_)
              · show z_J _ _ _ _ _ _ _ _ _ _ _ _
                refine j_aload_n (pc' := 126) q194_125 rfl (by decide) rfl ?_
                refine j_iload_n (pc' := 127) q194_126 rfl rfl ?_
                refine j_iload (pc' := 129) q194_127 rfl rfl ?_
                refine j_callV2_v (d := d + 2) (pc' := 132) q194_129 rfl (Nat.le_of_ble_eq_true rfl) (Nat.le_of_ble_eq_true rfl) rfl (t_M_grows hρ (d + 1) _ _ _) (fun r14 => ?_)
                refine j_aload_n (pc' := 133) q194_132 rfl (by decide) rfl ?_
                refine j_getr (k := 90) (q := 91) (pc' := 136) q194_133 rfl (hρ 90 0 91 rfl) rfl ?_
                refine j_iload_n (pc' := 137) q194_136 rfl rfl ?_
                refine j_iconst (pc' := 138) q194_137 rfl ?_
                refine j_iload (pc' := 140) q194_138 rfl rfl ?_
                refine j_imul (pc' := 141) q194_140 rfl ?_
                refine j_iadd (pc' := 142) q194_141 rfl ?_
                refine j_iconst (pc' := 143) q194_142 rfl ?_
                refine j_iadd (pc' := 144) q194_143 rfl ?_
                refine j_dup2 (pc' := 145) q194_144 ⟨rfl, rfl⟩ rfl ?_
                refine j_if (fun hi15 => ?_) (fun _ => j_none)
                refine j_iald (k := 91) (N := 550) (pc' := 146) q194_145 rfl hi15 rfl ?_
                refine j_aload_n (pc' := 147) q194_146 rfl (by decide) rfl ?_
                refine j_getr (k := 90) (q := 91) (pc' := 150) q194_147 rfl (hρ 90 0 91 rfl) rfl ?_
                refine j_iload_n (pc' := 151) q194_150 rfl rfl ?_
                refine j_iconst (pc' := 152) q194_151 rfl ?_
                refine j_iload (pc' := 154) q194_152 rfl rfl ?_
                refine j_imul (pc' := 155) q194_154 rfl ?_
                refine j_iadd (pc' := 156) q194_155 rfl ?_
                refine j_iconst (pc' := 157) q194_156 rfl ?_
                refine j_iadd (pc' := 158) q194_157 rfl ?_
                refine j_if (fun hi16 => ?_) (fun _ => j_none)
                refine j_iald (k := 91) (N := 550) (pc' := 159) q194_158 rfl hi16 rfl ?_
                refine j_join (T := Int32 × Int32 × Int32) 167 (fun t17 => [.ref 90, .int a1, .int a2, .int s1.1, .int s8.1, .null]) (fun t17 => [.int t17.1, .int t17.2.1, .int t17.2.2, .ref 91]) (fun t17 => r14) (fun t17 => ?_) (fun j17 hj17 => ?_)
                · show z_J _ _ _ _ _ _ _ _ _ _ _ _
                  refine j_isub (pc' := 168) q194_167 rfl ?_
                  refine j_if (fun hi18 => ?_) (fun _ => j_none)
                  refine j_iast (k := 91) (N := 550) (pc' := 169) q194_168 rfl hi18 rfl ?_
                  refine j_nameS (fun τ19 => ?_)
                  refine j_iinc4 (pc' := 172) q194_169 rfl (Nat.le_of_ble_eq_true rfl) rfl ?_
                  refine j_goto q194_172 rfl ?_
                  exact j_again (j_forget (z_le_s (z_le_s (z_le_s (z_le_s (z_le_s (z_le_n (z_le_nil))))))) (hR8 ((s8.1 + (1 : Int32)), τ19)))
                · show z_J _ _ _ _ _ _ _ _ _ _ _ _
                  refine j_if_le (pc' := 162) q194_159 rfl (fun c20 => ?_) (fun c20 => ?_)
                  · refine j_iconst (pc' := 167) q194_166 rfl ?_
                    refine j_forget (z_le_s (z_le_s (z_le_s (z_le_s (z_le_s (z_le_n (z_le_nil))))))) (hj17 ((0 : Int32), (r14 91 ((a1 + ((5 : Int32) * s8.1)) + (1 : Int32)).toNatClampNeg), ((a1 + ((5 : Int32) * s8.1)) + (1 : Int32))))
                  · refine j_iconst (pc' := 163) q194_162 rfl ?_
                    refine j_goto q194_163 rfl ?_
                    refine j_forget (z_le_s (z_le_s (z_le_s (z_le_s (z_le_s (z_le_n (z_le_nil))))))) (hj17 ((1 : Int32), (r14 91 ((a1 + ((5 : Int32) * s8.1)) + (1 : Int32)).toNatClampNeg), ((a1 + ((5 : Int32) * s8.1)) + (1 : Int32))))
              · show z_J _ _ _ _ _ _ _ _ _ _ _ _
                refine j_icmp_eq (pc' := 88) q194_85 rfl (fun c21 => ?_) (fun c21 => ?_)
                · refine j_forget (z_le_s (z_le_s (z_le_s (z_le_s (z_le_s (z_le_n (z_le_nil))))))) (hj13 s8.2)
                · refine j_aload_n (pc' := 89) q194_88 rfl (by decide) rfl ?_
                  refine j_iload_n (pc' := 90) q194_89 rfl rfl ?_
                  refine j_iload (pc' := 92) q194_90 rfl rfl ?_
                  refine j_aload_n (pc' := 93) q194_92 rfl (by decide) rfl ?_
                  refine j_getr (k := 90) (q := 91) (pc' := 96) q194_93 rfl (hρ 90 0 91 rfl) rfl ?_
                  refine j_iload_n (pc' := 97) q194_96 rfl rfl ?_
                  refine j_bipush (pc' := 99) q194_97 rfl ?_
                  refine j_iadd (pc' := 100) q194_99 rfl ?_
                  refine j_iconst (pc' := 101) q194_100 rfl ?_
                  refine j_aload_n (pc' := 102) q194_101 rfl (by decide) rfl ?_
                  refine j_getr (k := 90) (q := 98) (pc' := 105) q194_102 rfl (hρ 90 23 98 rfl) rfl ?_
                  refine j_iload (pc' := 107) q194_105 rfl rfl ?_
                  refine j_if (fun hi22 => ?_) (fun _ => j_none)
                  refine j_iald (k := 98) (N := 16) (pc' := 108) q194_107 rfl hi22 rfl ?_
                  refine j_imul (pc' := 109) q194_108 rfl ?_
                  refine j_iadd (pc' := 110) q194_109 rfl ?_
                  refine j_if (fun hi23 => ?_) (fun _ => j_none)
                  refine j_iald (k := 91) (N := 550) (pc' := 111) q194_110 rfl hi23 rfl ?_
                  refine j_iload (pc' := 113) q194_111 rfl rfl ?_
                  refine j_join (T := Int32 × Int32 × Int32 × Int32) 122 (fun t24 => [.ref 90, .int a1, .int a2, .int s1.1, .int s8.1, .null]) (fun t24 => [.int t24.1, .int t24.2.1, .int t24.2.2.1, .int t24.2.2.2, .ref 90]) (fun t24 => s8.2) (fun t24 => ?_) (fun j24 hj24 => ?_)
                  · show z_J _ _ _ _ _ _ _ _ _ _ _ _
                    refine j_callV4_v (d := d + 2) (pc' := 125) q194_122 rfl (Nat.le_of_ble_eq_true rfl) (Nat.le_of_ble_eq_true rfl) rfl (t_M_lays hρ (d + 2) _ _ _ _ _) (fun r25 => ?_)
                    refine j_forget (z_le_s (z_le_s (z_le_s (z_le_s (z_le_s (z_le_n (z_le_nil))))))) (hj13 r25)
                  · show z_J _ _ _ _ _ _ _ _ _ _ _ _
                    refine j_if_ne (pc' := 116) q194_113 rfl (fun c26 => ?_) (fun c26 => ?_)
                    · refine j_iconst (pc' := 117) q194_116 rfl ?_
                      refine j_goto q194_117 rfl ?_
                      refine j_forget (z_le_s (z_le_s (z_le_s (z_le_s (z_le_s (z_le_n (z_le_nil))))))) (hj24 ((1 : Int32), (s8.2 91 ((a1 + (81 : Int32)) + ((3 : Int32) * (s8.2 98 s8.1.toNatClampNeg))).toNatClampNeg), s8.1, a1))
                    · refine j_iload (pc' := 122) q194_120 rfl rfl ?_
                      refine j_forget (z_le_s (z_le_s (z_le_s (z_le_s (z_le_s (z_le_n (z_le_nil))))))) (hj24 (v11, (s8.2 91 ((a1 + (81 : Int32)) + ((3 : Int32) * (s8.2 98 s8.1.toNatClampNeg))).toNatClampNeg), s8.1, a1))
        · show z_J _ _ _ _ _ _ _ _ _ _ _ _
          refine j_iload (pc' := 12) q194_10 rfl rfl ?_
          refine j_aload_n (pc' := 13) q194_12 rfl (by decide) rfl ?_
          refine j_getf (k := 90) (pc' := 16) q194_13 rfl rfl ?_
          refine j_aload_n (pc' := 17) q194_16 rfl (by decide) rfl ?_
          refine j_getf (k := 90) (pc' := 20) q194_17 rfl rfl ?_
          refine j_imul (pc' := 21) q194_20 rfl ?_
          refine j_icmp_ge (pc' := 24) q194_21 rfl (fun c4 => ?_) (fun c4 => ?_)
          · exact j_exit (j_forget (z_le_s (z_le_s (z_le_s (z_le_s (z_le_n (z_le_n (z_le_nil))))))) (hX3 s3.2))
          · refine j_aload_n (pc' := 25) q194_24 rfl (by decide) rfl ?_
            refine j_getr (k := 90) (q := 98) (pc' := 28) q194_25 rfl (hρ 90 23 98 rfl) rfl ?_
            refine j_iload (pc' := 30) q194_28 rfl rfl ?_
            refine j_aload_n (pc' := 31) q194_30 rfl (by decide) rfl ?_
            refine j_iload_n (pc' := 32) q194_31 rfl rfl ?_
            refine j_iload (pc' := 34) q194_32 rfl rfl ?_
            refine j_callV2_pi (d := d + 2) (pc' := 37) q194_34 rfl (Nat.le_of_ble_eq_true rfl) (Nat.le_of_ble_eq_true rfl) rfl (t_M_fitting hρ (d + 0) _ _ _) (fun r5 => ?_)
            refine j_if (fun hi6 => ?_) (fun _ => j_none)
            refine j_iast (k := 98) (N := 16) (pc' := 38) q194_37 rfl hi6 rfl ?_
            refine j_nameS (fun τ7 => ?_)
            refine j_iinc4 (pc' := 41) q194_38 rfl (Nat.le_of_ble_eq_true rfl) rfl ?_
            refine j_goto q194_41 rfl ?_
            exact j_again (j_forget (z_le_s (z_le_s (z_le_s (z_le_s (z_le_s (z_le_n (z_le_nil))))))) (hR3 ((s3.1 + (1 : Int32)), τ7)))
theorem q197_0 : z_fi (z_mi 197) 0 = some (0, .iload_n 1, 0, 0, 0, 0, 0) := rfl
theorem q197_1 : z_fi (z_mi 197) 1 = some (1, .i2l, 0, 0, 0, 0, 0) := rfl
theorem q197_2 : z_fi (z_mi 197) 2 = some (2, .lconst 0, 0, 0, 0, 0, 0) := rfl
theorem q197_3 : z_fi (z_mi 197) 3 = some (3, .ldc2_w 219, 0, 0, 0, 0, 60) := rfl
theorem q197_6 : z_fi (z_mi 197) 6 = some (6, .invokestatic 62, 1, 149, 3, 0, 0) := rfl
theorem q197_9 : z_fi (z_mi 197) 9 = some (9, .ifCond .ne 5, 0, 14, 0, 0, 0) := rfl
theorem q197_12 : z_fi (z_mi 197) 12 = some (12, .iconst (-1), 0, 0, 0, (-1), 0) := rfl
theorem q197_13 : z_fi (z_mi 197) 13 = some (13, .ireturn, 0, 0, 0, 0, 0) := rfl
theorem q197_14 : z_fi (z_mi 197) 14 = some (14, .aload_n 0, 0, 0, 0, 0, 0) := rfl
theorem q197_15 : z_fi (z_mi 197) 15 = some (15, .getfield 7, 0, 10, 0, 0, 0) := rfl
theorem q197_18 : z_fi (z_mi 197) 18 = some (18, .bipush 105, 0, 0, 0, 105, 0) := rfl
theorem q197_20 : z_fi (z_mi 197) 20 = some (20, .iaload, 0, 0, 0, 0, 0) := rfl
theorem q197_21 : z_fi (z_mi 197) 21 = some (21, .iload_n 1, 0, 0, 0, 0, 0) := rfl
theorem q197_22 : z_fi (z_mi 197) 22 = some (22, .iadd, 0, 0, 0, 0, 0) := rfl
theorem q197_23 : z_fi (z_mi 197) 23 = some (23, .sipush 999, 0, 0, 0, 999, 0) := rfl
theorem q197_26 : z_fi (z_mi 197) 26 = some (26, .if_icmp .le 6, 0, 32, 0, 0, 0) := rfl
theorem q197_29 : z_fi (z_mi 197) 29 = some (29, .bipush (-3), 0, 0, 0, (-3), 0) := rfl
theorem q197_31 : z_fi (z_mi 197) 31 = some (31, .ireturn, 0, 0, 0, 0, 0) := rfl
theorem q197_32 : z_fi (z_mi 197) 32 = some (32, .aload_n 0, 0, 0, 0, 0, 0) := rfl
theorem q197_33 : z_fi (z_mi 197) 33 = some (33, .iconst 0, 0, 0, 0, 0, 0) := rfl
theorem q197_34 : z_fi (z_mi 197) 34 = some (34, .invokevirtual 221, 0, 196, 1, 0, 0) := rfl
theorem q197_37 : z_fi (z_mi 197) 37 = some (37, .istore_n 2, 0, 0, 0, 0, 0) := rfl
theorem q197_38 : z_fi (z_mi 197) 38 = some (38, .aload_n 0, 0, 0, 0, 0, 0) := rfl
theorem q197_39 : z_fi (z_mi 197) 39 = some (39, .iconst 0, 0, 0, 0, 0, 0) := rfl
theorem q197_40 : z_fi (z_mi 197) 40 = some (40, .iload_n 1, 0, 0, 0, 0, 0) := rfl
theorem q197_41 : z_fi (z_mi 197) 41 = some (41, .invokevirtual 224, 0, 194, 2, 0, 0) := rfl
theorem q197_44 : z_fi (z_mi 197) 44 = some (44, .aload_n 0, 0, 0, 0, 0, 0) := rfl
theorem q197_45 : z_fi (z_mi 197) 45 = some (45, .iconst 0, 0, 0, 0, 0, 0) := rfl
theorem q197_46 : z_fi (z_mi 197) 46 = some (46, .invokevirtual 221, 0, 196, 1, 0, 0) := rfl
theorem q197_49 : z_fi (z_mi 197) 49 = some (49, .iload_n 2, 0, 0, 0, 0, 0) := rfl
theorem q197_50 : z_fi (z_mi 197) 50 = some (50, .isub, 0, 0, 0, 0, 0) := rfl
theorem q197_51 : z_fi (z_mi 197) 51 = some (51, .ireturn, 0, 0, 0, 0, 0) := rfl
set_option maxRecDepth 20000 in
set_option maxHeartbeats 4000000 in
theorem t_M_week {xL : Nat} {xs : Nat → Int32} {ρ : Nat → Nat → Option Nat} (hρ : z_hR ρ) (d : Nat) (a1 : Int32) (σ : zS) : ∀ q, f_M_week a1 σ = some q → z_ec xL xs ρ (d + 4) 197 [.ref 90, .int a1] σ (em_i q) := by
  refine j_of (W := [.ref 90, .int a1, .null]) (fun L hL => ?_) ?_
  · subst hL; exact z_vl_0 _ 1 rfl
  · unfold f_M_week
    refine j_iload_n (pc' := 1) q197_0 rfl rfl ?_
    refine j_i2l (pc' := 2) q197_1 rfl ?_
    refine j_lconst (pc' := 3) q197_2 rfl ?_
    refine j_ldc2 (pc' := 6) q197_3 rfl ?_
    refine j_callS3_pi (d := d + 3) (pc' := 9) q197_6 (Or.inl rfl) (Nat.le_of_ble_eq_true rfl) (Nat.le_of_ble_eq_true rfl) rfl (t_M_in hρ (d + 3) _ _ _ _) (fun r1 => ?_)
    refine j_if_ne (pc' := 12) q197_9 rfl (fun c2 => ?_) (fun c2 => ?_)
    · refine j_iconst (pc' := 13) q197_12 rfl ?_
      exact j_iret q197_13 rfl
    · refine j_aload_n (pc' := 15) q197_14 rfl (by decide) rfl ?_
      refine j_getr (k := 90) (q := 91) (pc' := 18) q197_15 rfl (hρ 90 0 91 rfl) rfl ?_
      refine j_bipush (pc' := 20) q197_18 rfl ?_
      refine j_iald (k := 91) (N := 550) (pc' := 21) q197_20 rfl (by decide) rfl ?_
      refine j_iload_n (pc' := 22) q197_21 rfl rfl ?_
      refine j_iadd (pc' := 23) q197_22 rfl ?_
      refine j_sipush (pc' := 26) q197_23 rfl ?_
      refine j_icmp_le (pc' := 29) q197_26 rfl (fun c3 => ?_) (fun c3 => ?_)
      · refine j_aload_n (pc' := 33) q197_32 rfl (by decide) rfl ?_
        refine j_iconst (pc' := 34) q197_33 rfl ?_
        refine j_callV1_pi (d := d + 3) (pc' := 37) q197_34 rfl (Nat.le_of_ble_eq_true rfl) (Nat.le_of_ble_eq_true rfl) rfl (t_M_ripeOn hρ (d + 3) _ _) (fun r4 => ?_)
        refine j_istore2 (pc' := 38) q197_37 rfl (Nat.le_of_ble_eq_true rfl) rfl ?_
        refine j_aload_n (pc' := 39) q197_38 rfl (by decide) rfl ?_
        refine j_iconst (pc' := 40) q197_39 rfl ?_
        refine j_iload_n (pc' := 41) q197_40 rfl rfl ?_
        refine j_callV2_v (d := d + 3) (pc' := 44) q197_41 rfl (Nat.le_of_ble_eq_true rfl) (Nat.le_of_ble_eq_true rfl) rfl (t_M_weeks hρ (d + 0) _ _ _) (fun r5 => ?_)
        refine j_aload_n (pc' := 45) q197_44 rfl (by decide) rfl ?_
        refine j_iconst (pc' := 46) q197_45 rfl ?_
        refine j_callV1_pi (d := d + 3) (pc' := 49) q197_46 rfl (Nat.le_of_ble_eq_true rfl) (Nat.le_of_ble_eq_true rfl) rfl (t_M_ripeOn hρ (d + 3) _ _) (fun r6 => ?_)
        refine j_iload_n (pc' := 50) q197_49 rfl rfl ?_
        refine j_isub (pc' := 51) q197_50 rfl ?_
        exact j_iret q197_51 rfl
      · refine j_bipush (pc' := 31) q197_29 rfl ?_
        exact j_iret q197_31 rfl
set_option maxRecDepth 20000 in
set_option maxHeartbeats 4000000 in
theorem t_Lw_copyFrom_23_7 {xL : Nat} {xs : Nat → Int32} {ρ : Nat → Nat → Option Nat} (hρ : z_hR ρ) (d : Nat)  (σ : zS) : ∀ q, f_Lw_copyFrom_23_7  σ = some q → z_ec xL xs ρ (d + 0) 37 [.ref 23, .ref 7] σ (em_v q) := by
  refine j_of (W := [.ref 23, .ref 7]) (fun L hL => ?_) ?_
  · subst hL; exact z_vl_0 _ 0 rfl
  · unfold f_Lw_copyFrom_23_7
    refine j_aload_n (pc' := 1) q37_0 rfl (by decide) rfl ?_
    refine j_getr (k := 7) (q := 8) (pc' := 4) q37_1 rfl (hρ 7 0 8 rfl) rfl ?_
    refine j_iconst (pc' := 5) q37_4 rfl ?_
    refine j_aload_n (pc' := 6) q37_5 rfl (by decide) rfl ?_
    refine j_getr (k := 23) (q := 24) (pc' := 9) q37_6 rfl (hρ 23 0 24 rfl) rfl ?_
    refine j_iconst (pc' := 10) q37_9 rfl ?_
    refine j_iconst (pc' := 11) q37_10 rfl ?_
    refine j_acopy (ks := 8) (kd := 24) (pc' := 14) q37_11 rfl (by decide) (Nat.le_of_ble_eq_true rfl) rfl ?_
    refine j_nameS (fun τ1 => ?_)
    refine j_aload_n (pc' := 15) q37_14 rfl (by decide) rfl ?_
    refine j_getr (k := 7) (q := 9) (pc' := 18) q37_15 rfl (hρ 7 1 9 rfl) rfl ?_
    refine j_iconst (pc' := 19) q37_18 rfl ?_
    refine j_aload_n (pc' := 20) q37_19 rfl (by decide) rfl ?_
    refine j_getr (k := 23) (q := 25) (pc' := 23) q37_20 rfl (hρ 23 1 25 rfl) rfl ?_
    refine j_iconst (pc' := 24) q37_23 rfl ?_
    refine j_iconst (pc' := 25) q37_24 rfl ?_
    refine j_acopy (ks := 9) (kd := 25) (pc' := 28) q37_25 rfl (by decide) (Nat.le_of_ble_eq_true rfl) rfl ?_
    refine j_nameS (fun τ2 => ?_)
    refine j_aload_n (pc' := 29) q37_28 rfl (by decide) rfl ?_
    refine j_getr (k := 7) (q := 10) (pc' := 32) q37_29 rfl (hρ 7 2 10 rfl) rfl ?_
    refine j_iconst (pc' := 33) q37_32 rfl ?_
    refine j_aload_n (pc' := 34) q37_33 rfl (by decide) rfl ?_
    refine j_getr (k := 23) (q := 26) (pc' := 37) q37_34 rfl (hρ 23 2 26 rfl) rfl ?_
    refine j_iconst (pc' := 38) q37_37 rfl ?_
    refine j_iconst (pc' := 39) q37_38 rfl ?_
    refine j_acopy (ks := 10) (kd := 26) (pc' := 42) q37_39 rfl (by decide) (Nat.le_of_ble_eq_true rfl) rfl ?_
    refine j_nameS (fun τ3 => ?_)
    refine j_aload_n (pc' := 43) q37_42 rfl (by decide) rfl ?_
    refine j_aload_n (pc' := 44) q37_43 rfl (by decide) rfl ?_
    refine j_getf (k := 7) (pc' := 47) q37_44 rfl rfl ?_
    refine j_putf (k := 23) (pc' := 50) q37_47 rfl rfl ?_
    refine j_nameS (fun τ4 => ?_)
    exact j_vret q37_50 rfl
set_option maxRecDepth 20000 in
set_option maxHeartbeats 4000000 in
theorem t_Sp_copyFrom_27_11 {xL : Nat} {xs : Nat → Int32} {ρ : Nat → Nat → Option Nat} (hρ : z_hR ρ) (d : Nat)  (σ : zS) : ∀ q, f_Sp_copyFrom_27_11  σ = some q → z_ec xL xs ρ (d + 0) 65 [.ref 27, .ref 11] σ (em_v q) := by
  refine j_of (W := [.ref 27, .ref 11]) (fun L hL => ?_) ?_
  · subst hL; exact z_vl_0 _ 0 rfl
  · unfold f_Sp_copyFrom_27_11
    refine j_aload_n (pc' := 1) q65_0 rfl (by decide) rfl ?_
    refine j_getr (k := 11) (q := 12) (pc' := 4) q65_1 rfl (hρ 11 0 12 rfl) rfl ?_
    refine j_iconst (pc' := 5) q65_4 rfl ?_
    refine j_aload_n (pc' := 6) q65_5 rfl (by decide) rfl ?_
    refine j_getr (k := 27) (q := 28) (pc' := 9) q65_6 rfl (hρ 27 0 28 rfl) rfl ?_
    refine j_iconst (pc' := 10) q65_9 rfl ?_
    refine j_iconst (pc' := 11) q65_10 rfl ?_
    refine j_acopy (ks := 12) (kd := 28) (pc' := 14) q65_11 rfl (by decide) (Nat.le_of_ble_eq_true rfl) rfl ?_
    refine j_nameS (fun τ1 => ?_)
    refine j_aload_n (pc' := 15) q65_14 rfl (by decide) rfl ?_
    refine j_getr (k := 11) (q := 13) (pc' := 18) q65_15 rfl (hρ 11 1 13 rfl) rfl ?_
    refine j_iconst (pc' := 19) q65_18 rfl ?_
    refine j_aload_n (pc' := 20) q65_19 rfl (by decide) rfl ?_
    refine j_getr (k := 27) (q := 29) (pc' := 23) q65_20 rfl (hρ 27 1 29 rfl) rfl ?_
    refine j_iconst (pc' := 24) q65_23 rfl ?_
    refine j_iconst (pc' := 25) q65_24 rfl ?_
    refine j_acopy (ks := 13) (kd := 29) (pc' := 28) q65_25 rfl (by decide) (Nat.le_of_ble_eq_true rfl) rfl ?_
    refine j_nameS (fun τ2 => ?_)
    refine j_aload_n (pc' := 29) q65_28 rfl (by decide) rfl ?_
    refine j_aload_n (pc' := 30) q65_29 rfl (by decide) rfl ?_
    refine j_getf (k := 11) (pc' := 33) q65_30 rfl rfl ?_
    refine j_putf (k := 27) (pc' := 36) q65_33 rfl rfl ?_
    refine j_nameS (fun τ3 => ?_)
    exact j_vret q65_36 rfl
set_option maxRecDepth 20000 in
set_option maxHeartbeats 4000000 in
theorem t_G_copyFrom_17_1 {xL : Nat} {xs : Nat → Int32} {ρ : Nat → Nat → Option Nat} (hρ : z_hR ρ) (d : Nat)  (σ : zS) : ∀ q, f_G_copyFrom_17_1  σ = some q → z_ec xL xs ρ (d + 1) 6 [.ref 17, .ref 1] σ (em_v q) := by
  refine j_of (W := [.ref 17, .ref 1]) (fun L hL => ?_) ?_
  · subst hL; exact z_vl_0 _ 0 rfl
  · unfold f_G_copyFrom_17_1
    refine j_aload_n (pc' := 1) q6_0 rfl (by decide) rfl ?_
    refine j_aload_n (pc' := 2) q6_1 rfl (by decide) rfl ?_
    refine j_getf (k := 1) (pc' := 5) q6_2 rfl rfl ?_
    refine j_putf (k := 17) (pc' := 8) q6_5 rfl rfl ?_
    refine j_nameS (fun τ1 => ?_)
    refine j_aload_n (pc' := 9) q6_8 rfl (by decide) rfl ?_
    refine j_aload_n (pc' := 10) q6_9 rfl (by decide) rfl ?_
    refine j_getf (k := 1) (pc' := 13) q6_10 rfl rfl ?_
    refine j_putf (k := 17) (pc' := 16) q6_13 rfl rfl ?_
    refine j_nameS (fun τ2 => ?_)
    refine j_aload_n (pc' := 17) q6_16 rfl (by decide) rfl ?_
    refine j_getr (k := 1) (q := 2) (pc' := 20) q6_17 rfl (hρ 1 2 2 rfl) rfl ?_
    refine j_iconst (pc' := 21) q6_20 rfl ?_
    refine j_aload_n (pc' := 22) q6_21 rfl (by decide) rfl ?_
    refine j_getr (k := 17) (q := 18) (pc' := 25) q6_22 rfl (hρ 17 2 18 rfl) rfl ?_
    refine j_iconst (pc' := 26) q6_25 rfl ?_
    refine j_bipush (pc' := 28) q6_26 rfl ?_
    refine j_acopy (ks := 2) (kd := 18) (pc' := 31) q6_28 rfl (by decide) (Nat.le_of_ble_eq_true rfl) rfl ?_
    refine j_nameS (fun τ3 => ?_)
    refine j_aload_n (pc' := 32) q6_31 rfl (by decide) rfl ?_
    refine j_getr (k := 1) (q := 3) (pc' := 35) q6_32 rfl (hρ 1 3 3 rfl) rfl ?_
    refine j_iconst (pc' := 36) q6_35 rfl ?_
    refine j_aload_n (pc' := 37) q6_36 rfl (by decide) rfl ?_
    refine j_getr (k := 17) (q := 19) (pc' := 40) q6_37 rfl (hρ 17 3 19 rfl) rfl ?_
    refine j_iconst (pc' := 41) q6_40 rfl ?_
    refine j_bipush (pc' := 43) q6_41 rfl ?_
    refine j_acopy (ks := 3) (kd := 19) (pc' := 46) q6_43 rfl (by decide) (Nat.le_of_ble_eq_true rfl) rfl ?_
    refine j_nameS (fun τ4 => ?_)
    refine j_aload_n (pc' := 47) q6_46 rfl (by decide) rfl ?_
    refine j_getr (k := 1) (q := 4) (pc' := 50) q6_47 rfl (hρ 1 4 4 rfl) rfl ?_
    refine j_iconst (pc' := 51) q6_50 rfl ?_
    refine j_aload_n (pc' := 52) q6_51 rfl (by decide) rfl ?_
    refine j_getr (k := 17) (q := 20) (pc' := 55) q6_52 rfl (hρ 17 4 20 rfl) rfl ?_
    refine j_iconst (pc' := 56) q6_55 rfl ?_
    refine j_bipush (pc' := 58) q6_56 rfl ?_
    refine j_acopy (ks := 4) (kd := 20) (pc' := 61) q6_58 rfl (by decide) (Nat.le_of_ble_eq_true rfl) rfl ?_
    refine j_nameS (fun τ5 => ?_)
    refine j_aload_n (pc' := 62) q6_61 rfl (by decide) rfl ?_
    refine j_getr (k := 1) (q := 5) (pc' := 65) q6_62 rfl (hρ 1 5 5 rfl) rfl ?_
    refine j_iconst (pc' := 66) q6_65 rfl ?_
    refine j_aload_n (pc' := 67) q6_66 rfl (by decide) rfl ?_
    refine j_getr (k := 17) (q := 21) (pc' := 70) q6_67 rfl (hρ 17 5 21 rfl) rfl ?_
    refine j_iconst (pc' := 71) q6_70 rfl ?_
    refine j_bipush (pc' := 73) q6_71 rfl ?_
    refine j_acopy (ks := 5) (kd := 21) (pc' := 76) q6_73 rfl (by decide) (Nat.le_of_ble_eq_true rfl) rfl ?_
    refine j_nameS (fun τ6 => ?_)
    refine j_aload_n (pc' := 77) q6_76 rfl (by decide) rfl ?_
    refine j_getr (k := 1) (q := 6) (pc' := 80) q6_77 rfl (hρ 1 6 6 rfl) rfl ?_
    refine j_iconst (pc' := 81) q6_80 rfl ?_
    refine j_aload_n (pc' := 82) q6_81 rfl (by decide) rfl ?_
    refine j_getr (k := 17) (q := 22) (pc' := 85) q6_82 rfl (hρ 17 6 22 rfl) rfl ?_
    refine j_iconst (pc' := 86) q6_85 rfl ?_
    refine j_bipush (pc' := 88) q6_86 rfl ?_
    refine j_acopy (ks := 6) (kd := 22) (pc' := 91) q6_88 rfl (by decide) (Nat.le_of_ble_eq_true rfl) rfl ?_
    refine j_nameS (fun τ7 => ?_)
    refine j_aload_n (pc' := 92) q6_91 rfl (by decide) rfl ?_
    refine j_aload_n (pc' := 93) q6_92 rfl (by decide) rfl ?_
    refine j_getf (k := 1) (pc' := 96) q6_93 rfl rfl ?_
    refine j_putf (k := 17) (pc' := 99) q6_96 rfl rfl ?_
    refine j_nameS (fun τ8 => ?_)
    refine j_aload_n (pc' := 100) q6_99 rfl (by decide) rfl ?_
    refine j_getr (k := 17) (q := 23) (pc' := 103) q6_100 rfl (hρ 17 8 23 rfl) rfl ?_
    refine j_aload_n (pc' := 104) q6_103 rfl (by decide) rfl ?_
    refine j_getr (k := 1) (q := 7) (pc' := 107) q6_104 rfl (hρ 1 8 7 rfl) rfl ?_
    refine j_callV1_v (d := d + 0) (pc' := 110) q6_107 rfl (Nat.le_of_ble_eq_true rfl) (Nat.le_of_ble_eq_true rfl) rfl (t_Lw_copyFrom_23_7 hρ (d + 0) _) (fun r9 => ?_)
    refine j_aload_n (pc' := 111) q6_110 rfl (by decide) rfl ?_
    refine j_getr (k := 17) (q := 27) (pc' := 114) q6_111 rfl (hρ 17 9 27 rfl) rfl ?_
    refine j_aload_n (pc' := 115) q6_114 rfl (by decide) rfl ?_
    refine j_getr (k := 1) (q := 11) (pc' := 118) q6_115 rfl (hρ 1 9 11 rfl) rfl ?_
    refine j_callV1_v (d := d + 0) (pc' := 121) q6_118 rfl (Nat.le_of_ble_eq_true rfl) (Nat.le_of_ble_eq_true rfl) rfl (t_Sp_copyFrom_27_11 hρ (d + 0) _) (fun r10 => ?_)
    refine j_aload_n (pc' := 122) q6_121 rfl (by decide) rfl ?_
    refine j_aload_n (pc' := 123) q6_122 rfl (by decide) rfl ?_
    refine j_getf (k := 1) (pc' := 126) q6_123 rfl rfl ?_
    refine j_putf (k := 17) (pc' := 129) q6_126 rfl rfl ?_
    refine j_nameS (fun τ11 => ?_)
    refine j_aload_n (pc' := 130) q6_129 rfl (by decide) rfl ?_
    refine j_getr (k := 1) (q := 14) (pc' := 133) q6_130 rfl (hρ 1 11 14 rfl) rfl ?_
    refine j_iconst (pc' := 134) q6_133 rfl ?_
    refine j_aload_n (pc' := 135) q6_134 rfl (by decide) rfl ?_
    refine j_getr (k := 17) (q := 30) (pc' := 138) q6_135 rfl (hρ 17 11 30 rfl) rfl ?_
    refine j_iconst (pc' := 139) q6_138 rfl ?_
    refine j_iconst (pc' := 140) q6_139 rfl ?_
    refine j_acopy (ks := 14) (kd := 30) (pc' := 143) q6_140 rfl (by decide) (Nat.le_of_ble_eq_true rfl) rfl ?_
    refine j_nameS (fun τ12 => ?_)
    refine j_aload_n (pc' := 144) q6_143 rfl (by decide) rfl ?_
    refine j_aload_n (pc' := 145) q6_144 rfl (by decide) rfl ?_
    refine j_getf (k := 1) (pc' := 148) q6_145 rfl rfl ?_
    refine j_putf (k := 17) (pc' := 151) q6_148 rfl rfl ?_
    refine j_nameS (fun τ13 => ?_)
    refine j_aload_n (pc' := 152) q6_151 rfl (by decide) rfl ?_
    refine j_aload_n (pc' := 153) q6_152 rfl (by decide) rfl ?_
    refine j_getf (k := 1) (pc' := 156) q6_153 rfl rfl ?_
    refine j_putf (k := 17) (pc' := 159) q6_156 rfl rfl ?_
    refine j_nameS (fun τ14 => ?_)
    exact j_vret q6_159 rfl
set_option maxRecDepth 20000 in
set_option maxHeartbeats 4000000 in
theorem t_JA_fill_31 {xL : Nat} {xs : Nat → Int32} {ρ : Nat → Nat → Option Nat} (hρ : z_hR ρ) (d : Nat) (a1 : Int32) (σ : zS) : ∀ q, f_JA_fill_31 a1 σ = some q → z_ec xL xs ρ (d + 0) 240 [.ref 31, .int a1] σ (em_v q) := by
  refine j_of (W := [.ref 31, .int a1, .null, .null]) (fun L hL => ?_) ?_
  · subst hL; exact z_vl_0 _ 2 rfl
  · unfold f_JA_fill_31
    refine j_iconst (pc' := 1) q240_0 rfl ?_
    refine j_istore2 (pc' := 2) q240_1 rfl (Nat.le_of_ble_eq_true rfl) rfl ?_
    refine j_aload_n (pc' := 3) q240_2 rfl (by decide) rfl ?_
    refine j_alen (k := 31) (N := 5) (pc' := 4) q240_3 ⟨Nat.le_of_ble_eq_true rfl, by decide, rfl⟩ rfl ?_
    refine j_istore3 (pc' := 5) q240_4 rfl (Nat.le_of_ble_eq_true rfl) rfl ?_
    refine j_forget (V' := [.ref 31, .int a1, .int (0 : Int32), .int (5 : Int32)]) (z_le_s (z_le_s (z_le_s (z_le_s (z_le_nil))))) ?_
    refine j_loopX (S := Int32 × zS) (E := zS) (fun e => e) 20 (fun s1 => [.ref 31, .int a1, .int s1.1, .int (5 : Int32)]) (fun s1 => s1.2) (fun b1 => [.null, .null, .null, .null]) (fun b1 => b1) (fun b1 => ?_) (fun R1 hR1 hX1 s1 => ?_) ((0 : Int32), σ)
    · show z_J _ _ _ _ _ _ _ _ _ _ _ _
      exact j_vret q240_20 rfl
    · show z_J _ _ _ _ _ _ _ _ _ _ _ _
      refine j_iload_n (pc' := 6) q240_5 rfl rfl ?_
      refine j_iload_n (pc' := 7) q240_6 rfl rfl ?_
      refine j_icmp_ge (pc' := 10) q240_7 rfl (fun c2 => ?_) (fun c2 => ?_)
      · exact j_exit (j_forget (z_le_n (z_le_n (z_le_n (z_le_n (z_le_nil))))) (hX1 s1.2))
      · refine j_aload_n (pc' := 11) q240_10 rfl (by decide) rfl ?_
        refine j_iload_n (pc' := 12) q240_11 rfl rfl ?_
        refine j_iload_n (pc' := 13) q240_12 rfl rfl ?_
        refine j_if (fun hi3 => ?_) (fun _ => j_none)
        refine j_iast (k := 31) (N := 5) (pc' := 14) q240_13 rfl hi3 rfl ?_
        refine j_nameS (fun τ4 => ?_)
        refine j_iinc2 (pc' := 17) q240_14 rfl (Nat.le_of_ble_eq_true rfl) rfl ?_
        refine j_goto q240_17 rfl ?_
        exact j_again (j_forget (z_le_s (z_le_s (z_le_s (z_le_s (z_le_nil))))) (hR1 ((s1.1 + (1 : Int32)), τ4)))
set_option maxRecDepth 20000 in
set_option maxHeartbeats 4000000 in
theorem t_G_notePlaces_17 {xL : Nat} {xs : Nat → Int32} {ρ : Nat → Nat → Option Nat} (hρ : z_hR ρ) (d : Nat)  (σ : zS) : ∀ q, f_G_notePlaces_17  σ = some q → z_ec xL xs ρ (d + 1) 21 [.ref 17] σ (em_v q) := by
  refine j_of (W := [.ref 17, .null]) (fun L hL => ?_) ?_
  · subst hL; exact z_vl_0 _ 1 rfl
  · unfold f_G_notePlaces_17
    refine j_aload_n (pc' := 1) q21_0 rfl (by decide) rfl ?_
    refine j_getr (k := 17) (q := 31) (pc' := 4) q21_1 rfl (hρ 17 14 31 rfl) rfl ?_
    refine j_iconst (pc' := 5) q21_4 rfl ?_
    refine j_callS2_v (d := d + 0) (pc' := 8) q21_5 (Or.inl rfl) (Nat.le_of_ble_eq_true rfl) (Nat.le_of_ble_eq_true rfl) rfl (t_JA_fill_31 hρ (d + 0) _ _) (fun r1 => ?_)
    refine j_iconst (pc' := 9) q21_8 rfl ?_
    refine j_istore1 (pc' := 10) q21_9 rfl (Nat.le_of_ble_eq_true rfl) rfl ?_
    refine j_forget (V' := [.ref 17, .int (0 : Int32)]) (z_le_s (z_le_s (z_le_nil))) ?_
    refine j_loopX (S := Int32 × zS) (E := zS) (fun e => e) 55 (fun s2 => [.ref 17, .int s2.1]) (fun s2 => s2.2) (fun b2 => [.null, .null]) (fun b2 => b2) (fun b2 => ?_) (fun R2 hR2 hX2 s2 => ?_) ((0 : Int32), r1)
    · show z_J _ _ _ _ _ _ _ _ _ _ _ _
      exact j_vret q21_55 rfl
    · show z_J _ _ _ _ _ _ _ _ _ _ _ _
      refine j_iload_n (pc' := 11) q21_10 rfl rfl ?_
      refine j_aload_n (pc' := 12) q21_11 rfl (by decide) rfl ?_
      refine j_callV0_pi (d := d + 0) (pc' := 15) q21_12 rfl (Nat.le_of_ble_eq_true rfl) (Nat.le_of_ble_eq_true rfl) rfl (t_G_cells_17 hρ (d + 0) _) (fun r3 => ?_)
      refine j_icmp_ge (pc' := 18) q21_15 rfl (fun c4 => ?_) (fun c4 => ?_)
      · exact j_exit (j_forget (z_le_n (z_le_n (z_le_nil))) (hX2 s2.2))
      · refine j_aload_n (pc' := 19) q21_18 rfl (by decide) rfl ?_
        refine j_getr (k := 17) (q := 18) (pc' := 22) q21_19 rfl (hρ 17 2 18 rfl) rfl ?_
        refine j_iload_n (pc' := 23) q21_22 rfl rfl ?_
        refine j_if (fun hi5 => ?_) (fun _ => j_none)
        refine j_iald (k := 18) (N := 16) (pc' := 24) q21_23 rfl hi5 rfl ?_
        refine j_iconst (pc' := 25) q21_24 rfl ?_
        refine j_iconst (pc' := 26) q21_25 rfl ?_
        refine j_callS3_pi (d := d + 0) (pc' := 29) q21_26 (Or.inr rfl) (Nat.le_of_ble_eq_true rfl) (Nat.le_of_ble_eq_true rfl) rfl (t_Y_isIn hρ (d + 0) _ _ _ _) (fun r6 => ?_)
        refine j_join (T := zS) 49 (fun t7 => [.ref 17, .int s2.1]) (fun t7 => []) (fun t7 => t7) (fun t7 => ?_) (fun j7 hj7 => ?_)
        · show z_J _ _ _ _ _ _ _ _ _ _ _ _
          refine j_iinc1 (pc' := 52) q21_49 rfl (Nat.le_of_ble_eq_true rfl) rfl ?_
          refine j_goto q21_52 rfl ?_
          exact j_again (j_forget (z_le_s (z_le_s (z_le_nil))) (hR2 ((s2.1 + (1 : Int32)), t7)))
        · show z_J _ _ _ _ _ _ _ _ _ _ _ _
          refine j_if_eq (pc' := 32) q21_29 rfl (fun c8 => ?_) (fun c8 => ?_)
          · refine j_forget (z_le_s (z_le_s (z_le_nil))) (hj7 s2.2)
          · refine j_aload_n (pc' := 33) q21_32 rfl (by decide) rfl ?_
            refine j_getr (k := 17) (q := 31) (pc' := 36) q21_33 rfl (hρ 17 14 31 rfl) rfl ?_
            refine j_aload_n (pc' := 37) q21_36 rfl (by decide) rfl ?_
            refine j_getr (k := 17) (q := 18) (pc' := 40) q21_37 rfl (hρ 17 2 18 rfl) rfl ?_
            refine j_iload_n (pc' := 41) q21_40 rfl rfl ?_
            refine j_if (fun hi9 => ?_) (fun _ => j_none)
            refine j_iald (k := 18) (N := 16) (pc' := 42) q21_41 rfl hi9 rfl ?_
            refine j_dup2 (pc' := 43) q21_42 ⟨rfl, rfl⟩ rfl ?_
            refine j_if (fun hi10 => ?_) (fun _ => j_none)
            refine j_iald (k := 31) (N := 5) (pc' := 44) q21_43 rfl hi10 rfl ?_
            refine j_iconst (pc' := 45) q21_44 rfl ?_
            refine j_iload_n (pc' := 46) q21_45 rfl rfl ?_
            refine j_ishl (pc' := 47) q21_46 rfl ?_
            refine j_ior (pc' := 48) q21_47 rfl ?_
            refine j_if (fun hi11 => ?_) (fun _ => j_none)
            refine j_iast (k := 31) (N := 5) (pc' := 49) q21_48 rfl hi11 rfl ?_
            refine j_nameS (fun τ12 => ?_)
            refine j_forget (z_le_s (z_le_s (z_le_nil))) (hj7 τ12)
set_option maxRecDepth 20000 in
set_option maxHeartbeats 4000000 in
theorem t_G_isOpen_17 {xL : Nat} {xs : Nat → Int32} {ρ : Nat → Nat → Option Nat} (hρ : z_hR ρ) (d : Nat) (a1 : Int32) (σ : zS) : ∀ q, f_G_isOpen_17 a1 σ = some q → z_ec xL xs ρ (d + 0) 11 [.ref 17, .int a1] σ (em_pi σ q) := by
  refine j_of (W := [.ref 17, .int a1]) (fun L hL => ?_) ?_
  · subst hL; exact z_vl_0 _ 0 rfl
  · unfold f_G_isOpen_17
    refine j_aload_n (pc' := 1) q11_0 rfl (by decide) rfl ?_
    refine j_getf (k := 17) (pc' := 4) q11_1 rfl rfl ?_
    refine j_iload_n (pc' := 5) q11_4 rfl rfl ?_
    refine j_iushr (pc' := 6) q11_5 rfl ?_
    refine j_iconst (pc' := 7) q11_6 rfl ?_
    refine j_iand (pc' := 8) q11_7 rfl ?_
    refine j_if_ne (pc' := 11) q11_8 rfl (fun c1 => ?_) (fun c1 => ?_)
    · refine j_iconst (pc' := 12) q11_11 rfl ?_
      refine j_goto q11_12 rfl ?_
      exact j_pzret q11_16 rfl (Or.inr rfl)
    · refine j_iconst (pc' := 16) q11_15 rfl ?_
      exact j_pzret q11_16 rfl (Or.inl rfl)
set_option maxRecDepth 20000 in
set_option maxHeartbeats 4000000 in
theorem t_G_nextTo_17 {xL : Nat} {xs : Nat → Int32} {ρ : Nat → Nat → Option Nat} (hρ : z_hR ρ) (d : Nat) (a1 : Int32) (σ : zS) : ∀ q, f_G_nextTo_17 a1 σ = some q → z_ec xL xs ρ (d + 2) 24 [.ref 17, .int a1] σ (em_pi σ q) := by
  refine j_of (W := [.ref 17, .int a1, .null]) (fun L hL => ?_) ?_
  · subst hL; exact z_vl_0 _ 1 rfl
  · unfold f_G_nextTo_17
    refine j_iconst (pc' := 1) q24_0 rfl ?_
    refine j_istore2 (pc' := 2) q24_1 rfl (Nat.le_of_ble_eq_true rfl) rfl ?_
    refine j_aload_n (pc' := 3) q24_2 rfl (by decide) rfl ?_
    refine j_iload_n (pc' := 4) q24_3 rfl rfl ?_
    refine j_callV1_pi (d := d + 1) (pc' := 7) q24_4 rfl (Nat.le_of_ble_eq_true rfl) (Nat.le_of_ble_eq_true rfl) rfl (t_G_hasEast_17 hρ (d + 1) _ _) (fun r1 => ?_)
    refine j_join (T := Int32) 28 (fun t2 => [.ref 17, .int a1, .int t2]) (fun t2 => []) (fun t2 => σ) (fun t2 => ?_) (fun j2 hj2 => ?_)
    · show z_J _ _ _ _ _ _ _ _ _ _ _ _
      refine j_iload_n (pc' := 29) q24_28 rfl rfl ?_
      refine j_join (T := Int32) 62 (fun t3 => [.ref 17, .int a1, .int t3]) (fun t3 => []) (fun t3 => σ) (fun t3 => ?_) (fun j3 hj3 => ?_)
      · show z_J _ _ _ _ _ _ _ _ _ _ _ _
        refine j_aload_n (pc' := 63) q24_62 rfl (by decide) rfl ?_
        refine j_iload_n (pc' := 64) q24_63 rfl rfl ?_
        refine j_aload_n (pc' := 65) q24_64 rfl (by decide) rfl ?_
        refine j_getf (k := 17) (pc' := 68) q24_65 rfl rfl ?_
        refine j_iadd (pc' := 69) q24_68 rfl ?_
        refine j_callV1_pi (d := d + 1) (pc' := 72) q24_69 rfl (Nat.le_of_ble_eq_true rfl) (Nat.le_of_ble_eq_true rfl) rfl (t_G_hasCell_17 hρ (d + 0) _ _) (fun r4 => ?_)
        refine j_join (T := Int32) 98 (fun t5 => [.ref 17, .int a1, .int t5]) (fun t5 => []) (fun t5 => σ) (fun t5 => ?_) (fun j5 hj5 => ?_)
        · show z_J _ _ _ _ _ _ _ _ _ _ _ _
          refine j_aload_n (pc' := 99) q24_98 rfl (by decide) rfl ?_
          refine j_iload_n (pc' := 100) q24_99 rfl rfl ?_
          refine j_aload_n (pc' := 101) q24_100 rfl (by decide) rfl ?_
          refine j_getf (k := 17) (pc' := 104) q24_101 rfl rfl ?_
          refine j_isub (pc' := 105) q24_104 rfl ?_
          refine j_callV1_pi (d := d + 1) (pc' := 108) q24_105 rfl (Nat.le_of_ble_eq_true rfl) (Nat.le_of_ble_eq_true rfl) rfl (t_G_hasCell_17 hρ (d + 0) _ _) (fun r6 => ?_)
          refine j_if_eq (pc' := 111) q24_108 rfl (fun c7 => ?_) (fun c7 => ?_)
          · refine j_iload_n (pc' := 140) q24_139 rfl rfl ?_
            exact j_piret q24_140 rfl
          · refine j_aload_n (pc' := 112) q24_111 rfl (by decide) rfl ?_
            refine j_iconst (pc' := 113) q24_112 rfl ?_
            refine j_iload_n (pc' := 114) q24_113 rfl rfl ?_
            refine j_aload_n (pc' := 115) q24_114 rfl (by decide) rfl ?_
            refine j_getf (k := 17) (pc' := 118) q24_115 rfl rfl ?_
            refine j_isub (pc' := 119) q24_118 rfl ?_
            refine j_imul (pc' := 120) q24_119 rfl ?_
            refine j_iconst (pc' := 121) q24_120 rfl ?_
            refine j_iadd (pc' := 122) q24_121 rfl ?_
            refine j_callV1_pi (d := d + 1) (pc' := 125) q24_122 rfl (Nat.le_of_ble_eq_true rfl) (Nat.le_of_ble_eq_true rfl) rfl (t_G_isOpen_17 hρ (d + 1) _ _) (fun r8 => ?_)
            refine j_if_eq (pc' := 128) q24_125 rfl (fun c9 => ?_) (fun c9 => ?_)
            · refine j_iload_n (pc' := 140) q24_139 rfl rfl ?_
              exact j_piret q24_140 rfl
            · refine j_iload_n (pc' := 129) q24_128 rfl rfl ?_
              refine j_iconst (pc' := 130) q24_129 rfl ?_
              refine j_iload_n (pc' := 131) q24_130 rfl rfl ?_
              refine j_aload_n (pc' := 132) q24_131 rfl (by decide) rfl ?_
              refine j_getf (k := 17) (pc' := 135) q24_132 rfl rfl ?_
              refine j_isub (pc' := 136) q24_135 rfl ?_
              refine j_ishl (pc' := 137) q24_136 rfl ?_
              refine j_ior (pc' := 138) q24_137 rfl ?_
              refine j_nameI (fun v10 => ?_)
              refine j_istore2 (pc' := 139) q24_138 rfl (Nat.le_of_ble_eq_true rfl) rfl ?_
              refine j_iload_n (pc' := 140) q24_139 rfl rfl ?_
              exact j_piret q24_140 rfl
        · show z_J _ _ _ _ _ _ _ _ _ _ _ _
          refine j_if_eq (pc' := 75) q24_72 rfl (fun c11 => ?_) (fun c11 => ?_)
          · refine j_forget (z_le_s (z_le_s (z_le_s (z_le_nil)))) (hj5 t3)
          · refine j_aload_n (pc' := 76) q24_75 rfl (by decide) rfl ?_
            refine j_iconst (pc' := 77) q24_76 rfl ?_
            refine j_iload_n (pc' := 78) q24_77 rfl rfl ?_
            refine j_imul (pc' := 79) q24_78 rfl ?_
            refine j_iconst (pc' := 80) q24_79 rfl ?_
            refine j_iadd (pc' := 81) q24_80 rfl ?_
            refine j_callV1_pi (d := d + 1) (pc' := 84) q24_81 rfl (Nat.le_of_ble_eq_true rfl) (Nat.le_of_ble_eq_true rfl) rfl (t_G_isOpen_17 hρ (d + 1) _ _) (fun r12 => ?_)
            refine j_if_eq (pc' := 87) q24_84 rfl (fun c13 => ?_) (fun c13 => ?_)
            · refine j_forget (z_le_s (z_le_s (z_le_s (z_le_nil)))) (hj5 t3)
            · refine j_iload_n (pc' := 88) q24_87 rfl rfl ?_
              refine j_iconst (pc' := 89) q24_88 rfl ?_
              refine j_iload_n (pc' := 90) q24_89 rfl rfl ?_
              refine j_aload_n (pc' := 91) q24_90 rfl (by decide) rfl ?_
              refine j_getf (k := 17) (pc' := 94) q24_91 rfl rfl ?_
              refine j_iadd (pc' := 95) q24_94 rfl ?_
              refine j_ishl (pc' := 96) q24_95 rfl ?_
              refine j_ior (pc' := 97) q24_96 rfl ?_
              refine j_nameI (fun v14 => ?_)
              refine j_istore2 (pc' := 98) q24_97 rfl (Nat.le_of_ble_eq_true rfl) rfl ?_
              refine j_forget (z_le_s (z_le_s (z_le_s (z_le_nil)))) (hj5 v14)
      · show z_J _ _ _ _ _ _ _ _ _ _ _ _
        refine j_if_le (pc' := 32) q24_29 rfl (fun c15 => ?_) (fun c15 => ?_)
        · refine j_forget (z_le_s (z_le_s (z_le_s (z_le_nil)))) (hj3 t2)
        · refine j_aload_n (pc' := 33) q24_32 rfl (by decide) rfl ?_
          refine j_iload_n (pc' := 34) q24_33 rfl rfl ?_
          refine j_iconst (pc' := 35) q24_34 rfl ?_
          refine j_isub (pc' := 36) q24_35 rfl ?_
          refine j_callV1_pi (d := d + 1) (pc' := 39) q24_36 rfl (Nat.le_of_ble_eq_true rfl) (Nat.le_of_ble_eq_true rfl) rfl (t_G_hasEast_17 hρ (d + 1) _ _) (fun r16 => ?_)
          refine j_if_eq (pc' := 42) q24_39 rfl (fun c17 => ?_) (fun c17 => ?_)
          · refine j_forget (z_le_s (z_le_s (z_le_s (z_le_nil)))) (hj3 t2)
          · refine j_aload_n (pc' := 43) q24_42 rfl (by decide) rfl ?_
            refine j_iconst (pc' := 44) q24_43 rfl ?_
            refine j_iload_n (pc' := 45) q24_44 rfl rfl ?_
            refine j_imul (pc' := 46) q24_45 rfl ?_
            refine j_iconst (pc' := 47) q24_46 rfl ?_
            refine j_isub (pc' := 48) q24_47 rfl ?_
            refine j_callV1_pi (d := d + 1) (pc' := 51) q24_48 rfl (Nat.le_of_ble_eq_true rfl) (Nat.le_of_ble_eq_true rfl) rfl (t_G_isOpen_17 hρ (d + 1) _ _) (fun r18 => ?_)
            refine j_if_eq (pc' := 54) q24_51 rfl (fun c19 => ?_) (fun c19 => ?_)
            · refine j_forget (z_le_s (z_le_s (z_le_s (z_le_nil)))) (hj3 t2)
            · refine j_iload_n (pc' := 55) q24_54 rfl rfl ?_
              refine j_iconst (pc' := 56) q24_55 rfl ?_
              refine j_iload_n (pc' := 57) q24_56 rfl rfl ?_
              refine j_iconst (pc' := 58) q24_57 rfl ?_
              refine j_isub (pc' := 59) q24_58 rfl ?_
              refine j_ishl (pc' := 60) q24_59 rfl ?_
              refine j_ior (pc' := 61) q24_60 rfl ?_
              refine j_nameI (fun v20 => ?_)
              refine j_istore2 (pc' := 62) q24_61 rfl (Nat.le_of_ble_eq_true rfl) rfl ?_
              refine j_forget (z_le_s (z_le_s (z_le_s (z_le_nil)))) (hj3 v20)
    · show z_J _ _ _ _ _ _ _ _ _ _ _ _
      refine j_if_eq (pc' := 10) q24_7 rfl (fun c21 => ?_) (fun c21 => ?_)
      · refine j_forget (z_le_s (z_le_s (z_le_s (z_le_nil)))) (hj2 (0 : Int32))
      · refine j_aload_n (pc' := 11) q24_10 rfl (by decide) rfl ?_
        refine j_iconst (pc' := 12) q24_11 rfl ?_
        refine j_iload_n (pc' := 13) q24_12 rfl rfl ?_
        refine j_imul (pc' := 14) q24_13 rfl ?_
        refine j_callV1_pi (d := d + 1) (pc' := 17) q24_14 rfl (Nat.le_of_ble_eq_true rfl) (Nat.le_of_ble_eq_true rfl) rfl (t_G_isOpen_17 hρ (d + 1) _ _) (fun r22 => ?_)
        refine j_if_eq (pc' := 20) q24_17 rfl (fun c23 => ?_) (fun c23 => ?_)
        · refine j_forget (z_le_s (z_le_s (z_le_s (z_le_nil)))) (hj2 (0 : Int32))
        · refine j_iload_n (pc' := 21) q24_20 rfl rfl ?_
          refine j_iconst (pc' := 22) q24_21 rfl ?_
          refine j_iload_n (pc' := 23) q24_22 rfl rfl ?_
          refine j_iconst (pc' := 24) q24_23 rfl ?_
          refine j_iadd (pc' := 25) q24_24 rfl ?_
          refine j_ishl (pc' := 26) q24_25 rfl ?_
          refine j_ior (pc' := 27) q24_26 rfl ?_
          refine j_nameI (fun v24 => ?_)
          refine j_istore2 (pc' := 28) q24_27 rfl (Nat.le_of_ble_eq_true rfl) rfl ?_
          refine j_forget (z_le_s (z_le_s (z_le_s (z_le_nil)))) (hj2 v24)
set_option maxRecDepth 20000 in
set_option maxHeartbeats 4000000 in
theorem t_G_fits_17 {xL : Nat} {xs : Nat → Int32} {ρ : Nat → Nat → Option Nat} (hρ : z_hR ρ) (d : Nat) (a1 : Int32) (a2 : Int32) (σ : zS) : ∀ q, f_G_fits_17 a1 a2 σ = some q → z_ec xL xs ρ (d + 3) 23 [.ref 17, .int a1, .int a2] σ (em_pi σ q) := by
  refine j_of (W := [.ref 17, .int a1, .int a2, .null, .null]) (fun L hL => ?_) ?_
  · subst hL; exact z_vl_0 _ 2 rfl
  · unfold f_G_fits_17
    refine j_aload_n (pc' := 1) q23_0 rfl (by decide) rfl ?_
    refine j_getr (k := 17) (q := 23) (pc' := 4) q23_1 rfl (hρ 17 8 23 rfl) rfl ?_
    refine j_getr (k := 23) (q := 24) (pc' := 7) q23_4 rfl (hρ 23 0 24 rfl) rfl ?_
    refine j_iload_n (pc' := 8) q23_7 rfl rfl ?_
    refine j_if (fun hi1 => ?_) (fun _ => j_none)
    refine j_iald (k := 24) (N := 5) (pc' := 9) q23_8 rfl hi1 rfl ?_
    refine j_istore3 (pc' := 10) q23_9 rfl (Nat.le_of_ble_eq_true rfl) rfl ?_
    refine j_aload_n (pc' := 11) q23_10 rfl (by decide) rfl ?_
    refine j_getr (k := 17) (q := 23) (pc' := 14) q23_11 rfl (hρ 17 8 23 rfl) rfl ?_
    refine j_getr (k := 23) (q := 25) (pc' := 17) q23_14 rfl (hρ 23 1 25 rfl) rfl ?_
    refine j_iload_n (pc' := 18) q23_17 rfl rfl ?_
    refine j_if (fun hi2 => ?_) (fun _ => j_none)
    refine j_iald (k := 25) (N := 5) (pc' := 19) q23_18 rfl hi2 rfl ?_
    refine j_istore4 (pc' := 21) q23_19 rfl (Nat.le_of_ble_eq_true rfl) rfl ?_
    refine j_iload_n (pc' := 22) q23_21 rfl rfl ?_
    refine j_callS1_pi (d := d + 2) (pc' := 25) q23_22 (Or.inr rfl) (Nat.le_of_ble_eq_true rfl) (Nat.le_of_ble_eq_true rfl) rfl (t_Y_isSeason hρ (d + 1) _ _) (fun r3 => ?_)
    refine j_if_eq (pc' := 28) q23_25 rfl (fun c4 => ?_) (fun c4 => ?_)
    · refine j_iconst (pc' := 84) q23_83 rfl ?_
      exact j_pzret q23_84 rfl (Or.inl rfl)
    · refine j_iload (pc' := 30) q23_28 rfl rfl ?_
      refine j_iconst (pc' := 31) q23_30 rfl ?_
      refine j_iconst (pc' := 32) q23_31 rfl ?_
      refine j_callS3_pi (d := d + 2) (pc' := 35) q23_32 (Or.inr rfl) (Nat.le_of_ble_eq_true rfl) (Nat.le_of_ble_eq_true rfl) rfl (t_Y_isIn hρ (d + 2) _ _ _ _) (fun r5 => ?_)
      refine j_if_eq (pc' := 38) q23_35 rfl (fun c6 => ?_) (fun c6 => ?_)
      · refine j_iconst (pc' := 84) q23_83 rfl ?_
        exact j_pzret q23_84 rfl (Or.inl rfl)
      · refine j_aload_n (pc' := 39) q23_38 rfl (by decide) rfl ?_
        refine j_getr (k := 17) (q := 31) (pc' := 42) q23_39 rfl (hρ 17 14 31 rfl) rfl ?_
        refine j_iload (pc' := 44) q23_42 rfl rfl ?_
        refine j_if (fun hi7 => ?_) (fun _ => j_none)
        refine j_iald (k := 31) (N := 5) (pc' := 45) q23_44 rfl hi7 rfl ?_
        refine j_iload_n (pc' := 46) q23_45 rfl rfl ?_
        refine j_iushr (pc' := 47) q23_46 rfl ?_
        refine j_iconst (pc' := 48) q23_47 rfl ?_
        refine j_iand (pc' := 49) q23_48 rfl ?_
        refine j_if_eq (pc' := 52) q23_49 rfl (fun c8 => ?_) (fun c8 => ?_)
        · refine j_iconst (pc' := 84) q23_83 rfl ?_
          exact j_pzret q23_84 rfl (Or.inl rfl)
        · refine j_aload_n (pc' := 53) q23_52 rfl (by decide) rfl ?_
          refine j_getr (k := 17) (q := 31) (pc' := 56) q23_53 rfl (hρ 17 14 31 rfl) rfl ?_
          refine j_iload_n (pc' := 57) q23_56 rfl rfl ?_
          refine j_if (fun hi9 => ?_) (fun _ => j_none)
          refine j_iald (k := 31) (N := 5) (pc' := 58) q23_57 rfl hi9 rfl ?_
          refine j_aload_n (pc' := 59) q23_58 rfl (by decide) rfl ?_
          refine j_iload_n (pc' := 60) q23_59 rfl rfl ?_
          refine j_callV1_pi (d := d + 2) (pc' := 63) q23_60 rfl (Nat.le_of_ble_eq_true rfl) (Nat.le_of_ble_eq_true rfl) rfl (t_G_nextTo_17 hρ (d + 0) _ _) (fun r10 => ?_)
          refine j_iand (pc' := 64) q23_63 rfl ?_
          refine j_callS1_pi (d := d + 2) (pc' := 67) q23_64 (Or.inl rfl) (Nat.le_of_ble_eq_true rfl) (Nat.le_of_ble_eq_true rfl) rfl (t_JI_bitCount hρ (d + 2) _ _) (fun r11 => ?_)
          refine j_aload_n (pc' := 68) q23_67 rfl (by decide) rfl ?_
          refine j_getr (k := 17) (q := 23) (pc' := 71) q23_68 rfl (hρ 17 8 23 rfl) rfl ?_
          refine j_getr (k := 23) (q := 26) (pc' := 74) q23_71 rfl (hρ 23 2 26 rfl) rfl ?_
          refine j_iload_n (pc' := 75) q23_74 rfl rfl ?_
          refine j_if (fun hi12 => ?_) (fun _ => j_none)
          refine j_iald (k := 26) (N := 5) (pc' := 76) q23_75 rfl hi12 rfl ?_
          refine j_icmp_lt (pc' := 79) q23_76 rfl (fun c13 => ?_) (fun c13 => ?_)
          · refine j_iconst (pc' := 84) q23_83 rfl ?_
            exact j_pzret q23_84 rfl (Or.inl rfl)
          · refine j_iconst (pc' := 80) q23_79 rfl ?_
            refine j_goto q23_80 rfl ?_
            exact j_pzret q23_84 rfl (Or.inr rfl)
set_option maxRecDepth 20000 in
set_option maxHeartbeats 4000000 in
theorem t_G_firstFitting_17 {xL : Nat} {xs : Nat → Int32} {ρ : Nat → Nat → Option Nat} (hρ : z_hR ρ) (d : Nat) (a1 : Int32) (σ : zS) : ∀ q, f_G_firstFitting_17 a1 σ = some q → z_ec xL xs ρ (d + 4) 22 [.ref 17, .int a1] σ (em_pi σ q) := by
  refine j_of (W := [.ref 17, .int a1, .null]) (fun L hL => ?_) ?_
  · subst hL; exact z_vl_0 _ 1 rfl
  · unfold f_G_firstFitting_17
    refine j_iconst (pc' := 1) q22_0 rfl ?_
    refine j_istore2 (pc' := 2) q22_1 rfl (Nat.le_of_ble_eq_true rfl) rfl ?_
    refine j_forget (V' := [.ref 17, .int a1, .int (0 : Int32)]) (z_le_s (z_le_s (z_le_s (z_le_nil)))) ?_
    refine j_loopX (S := Int32) (E := Unit) Sum.inl 35 (fun s1 => [.ref 17, .int a1, .int s1]) (fun s1 => σ) (fun b1 => [.null, .null, .null]) (fun b1 => σ) (fun b1 => ?_) (fun R1 hR1 hX1 s1 => ?_) (0 : Int32)
    · show z_J _ _ _ _ _ _ _ _ _ _ _ _
      refine j_bipush (pc' := 37) q22_35 rfl ?_
      exact j_piret q22_37 rfl
    · show z_J _ _ _ _ _ _ _ _ _ _ _ _
      refine j_iload_n (pc' := 3) q22_2 rfl rfl ?_
      refine j_aload_n (pc' := 4) q22_3 rfl (by decide) rfl ?_
      refine j_getr (k := 17) (q := 23) (pc' := 7) q22_4 rfl (hρ 17 8 23 rfl) rfl ?_
      refine j_getf (k := 23) (pc' := 10) q22_7 rfl rfl ?_
      refine j_icmp_ge (pc' := 13) q22_10 rfl (fun c2 => ?_) (fun c2 => ?_)
      · exact j_exit (j_forget (z_le_n (z_le_n (z_le_n (z_le_nil)))) (hX1 ()))
      · refine j_iload_n (pc' := 14) q22_13 rfl rfl ?_
        refine j_iconst (pc' := 15) q22_14 rfl ?_
        refine j_icmp_ge (pc' := 18) q22_15 rfl (fun c3 => ?_) (fun c3 => ?_)
        · exact j_exit (j_forget (z_le_n (z_le_n (z_le_n (z_le_nil)))) (hX1 ()))
        · refine j_aload_n (pc' := 19) q22_18 rfl (by decide) rfl ?_
          refine j_iload_n (pc' := 20) q22_19 rfl rfl ?_
          refine j_iload_n (pc' := 21) q22_20 rfl rfl ?_
          refine j_callV2_pi (d := d + 3) (pc' := 24) q22_21 rfl (Nat.le_of_ble_eq_true rfl) (Nat.le_of_ble_eq_true rfl) rfl (t_G_fits_17 hρ (d + 0) _ _ _) (fun r4 => ?_)
          refine j_if_eq (pc' := 27) q22_24 rfl (fun c5 => ?_) (fun c5 => ?_)
          · refine j_iinc2 (pc' := 32) q22_29 rfl (Nat.le_of_ble_eq_true rfl) rfl ?_
            refine j_goto q22_32 rfl ?_
            exact j_again (j_forget (z_le_s (z_le_s (z_le_s (z_le_nil)))) (hR1 (s1 + (1 : Int32))))
          · refine j_iload_n (pc' := 28) q22_27 rfl rfl ?_
            refine j_exit ?_
            exact j_piret q22_28 rfl
set_option maxRecDepth 20000 in
set_option maxHeartbeats 4000000 in
theorem t_Lw_has_23 {xL : Nat} {xs : Nat → Int32} {ρ : Nat → Nat → Option Nat} (hρ : z_hR ρ) (d : Nat) (a1 : Int32) (σ : zS) : ∀ q, f_Lw_has_23 a1 σ = some q → z_ec xL xs ρ (d + 0) 35 [.ref 23, .int a1] σ (em_pi σ q) := by
  refine j_of (W := [.ref 23, .int a1]) (fun L hL => ?_) ?_
  · subst hL; exact z_vl_0 _ 0 rfl
  · unfold f_Lw_has_23
    refine j_iload_n (pc' := 1) q35_0 rfl rfl ?_
    refine j_if_lt (pc' := 4) q35_1 rfl (fun c1 => ?_) (fun c1 => ?_)
    · refine j_iconst (pc' := 22) q35_21 rfl ?_
      exact j_pzret q35_22 rfl (Or.inl rfl)
    · refine j_iload_n (pc' := 5) q35_4 rfl rfl ?_
      refine j_aload_n (pc' := 6) q35_5 rfl (by decide) rfl ?_
      refine j_getf (k := 23) (pc' := 9) q35_6 rfl rfl ?_
      refine j_icmp_ge (pc' := 12) q35_9 rfl (fun c2 => ?_) (fun c2 => ?_)
      · refine j_iconst (pc' := 22) q35_21 rfl ?_
        exact j_pzret q35_22 rfl (Or.inl rfl)
      · refine j_iload_n (pc' := 13) q35_12 rfl rfl ?_
        refine j_iconst (pc' := 14) q35_13 rfl ?_
        refine j_icmp_ge (pc' := 17) q35_14 rfl (fun c3 => ?_) (fun c3 => ?_)
        · refine j_iconst (pc' := 22) q35_21 rfl ?_
          exact j_pzret q35_22 rfl (Or.inl rfl)
        · refine j_iconst (pc' := 18) q35_17 rfl ?_
          refine j_goto q35_18 rfl ?_
          exact j_pzret q35_22 rfl (Or.inr rfl)
set_option maxRecDepth 20000 in
set_option maxHeartbeats 4000000 in
theorem t_G_spread_17 {xL : Nat} {xs : Nat → Int32} {ρ : Nat → Nat → Option Nat} (hρ : z_hR ρ) (d : Nat)  (σ : zS) : ∀ q, f_G_spread_17  σ = some q → z_ec xL xs ρ (d + 5) 20 [.ref 17] σ (em_v q) := by
  refine j_of (W := [.ref 17, .null]) (fun L hL => ?_) ?_
  · subst hL; exact z_vl_0 _ 1 rfl
  · unfold f_G_spread_17
    refine j_aload_n (pc' := 1) q20_0 rfl (by decide) rfl ?_
    refine j_getr (k := 17) (q := 23) (pc' := 4) q20_1 rfl (hρ 17 8 23 rfl) rfl ?_
    refine j_getf (k := 23) (pc' := 7) q20_4 rfl rfl ?_
    refine j_if_ne (pc' := 10) q20_7 rfl (fun c1 => ?_) (fun c1 => ?_)
    · exact j_vret q20_10 rfl
    · refine j_aload_n (pc' := 12) q20_11 rfl (by decide) rfl ?_
      refine j_callV0_v (d := d + 4) (pc' := 15) q20_12 rfl (Nat.le_of_ble_eq_true rfl) (Nat.le_of_ble_eq_true rfl) rfl (t_G_notePlaces_17 hρ (d + 3) _) (fun r2 => ?_)
      refine j_iconst (pc' := 16) q20_15 rfl ?_
      refine j_istore1 (pc' := 17) q20_16 rfl (Nat.le_of_ble_eq_true rfl) rfl ?_
      refine j_forget (V' := [.ref 17, .int (0 : Int32)]) (z_le_s (z_le_s (z_le_nil))) ?_
      refine j_loopX (S := Int32 × zS) (E := zS) (fun e => e) 42 (fun s3 => [.ref 17, .int s3.1]) (fun s3 => s3.2) (fun b3 => [.ref 17, .null]) (fun b3 => b3) (fun b3 => ?_) (fun R3 hR3 hX3 s3 => ?_) ((0 : Int32), r2)
      · show z_J _ _ _ _ _ _ _ _ _ _ _ _
        refine j_iconst (pc' := 43) q20_42 rfl ?_
        refine j_istore1 (pc' := 44) q20_43 rfl (Nat.le_of_ble_eq_true rfl) rfl ?_
        refine j_forget (V' := [.ref 17, .int (0 : Int32)]) (z_le_s (z_le_s (z_le_nil))) ?_
        refine j_loopX (S := Int32 × zS) (E := zS) (fun e => e) 110 (fun s9 => [.ref 17, .int s9.1]) (fun s9 => s9.2) (fun b9 => [.null, .null]) (fun b9 => b9) (fun b9 => ?_) (fun R9 hR9 hX9 s9 => ?_) ((0 : Int32), b3)
        · show z_J _ _ _ _ _ _ _ _ _ _ _ _
          exact j_vret q20_110 rfl
        · show z_J _ _ _ _ _ _ _ _ _ _ _ _
          refine j_iload_n (pc' := 45) q20_44 rfl rfl ?_
          refine j_aload_n (pc' := 46) q20_45 rfl (by decide) rfl ?_
          refine j_callV0_pi (d := d + 4) (pc' := 49) q20_46 rfl (Nat.le_of_ble_eq_true rfl) (Nat.le_of_ble_eq_true rfl) rfl (t_G_cells_17 hρ (d + 4) _) (fun r10 => ?_)
          refine j_icmp_ge (pc' := 52) q20_49 rfl (fun c11 => ?_) (fun c11 => ?_)
          · exact j_exit (j_forget (z_le_n (z_le_n (z_le_nil))) (hX9 s9.2))
          · refine j_aload_n (pc' := 53) q20_52 rfl (by decide) rfl ?_
            refine j_getr (k := 17) (q := 23) (pc' := 56) q20_53 rfl (hρ 17 8 23 rfl) rfl ?_
            refine j_aload_n (pc' := 57) q20_56 rfl (by decide) rfl ?_
            refine j_getr (k := 17) (q := 32) (pc' := 60) q20_57 rfl (hρ 17 15 32 rfl) rfl ?_
            refine j_iload_n (pc' := 61) q20_60 rfl rfl ?_
            refine j_if (fun hi12 => ?_) (fun _ => j_none)
            refine j_iald (k := 32) (N := 16) (pc' := 62) q20_61 rfl hi12 rfl ?_
            refine j_callV1_pi (d := d + 4) (pc' := 65) q20_62 rfl (Nat.le_of_ble_eq_true rfl) (Nat.le_of_ble_eq_true rfl) rfl (t_Lw_has_23 hρ (d + 4) _ _) (fun r13 => ?_)
            refine j_join (T := zS) 104 (fun t14 => [.ref 17, .int s9.1]) (fun t14 => []) (fun t14 => t14) (fun t14 => ?_) (fun j14 hj14 => ?_)
            · show z_J _ _ _ _ _ _ _ _ _ _ _ _
              refine j_iinc1 (pc' := 107) q20_104 rfl (Nat.le_of_ble_eq_true rfl) rfl ?_
              refine j_goto q20_107 rfl ?_
              exact j_again (j_forget (z_le_s (z_le_s (z_le_nil))) (hR9 ((s9.1 + (1 : Int32)), t14)))
            · show z_J _ _ _ _ _ _ _ _ _ _ _ _
              refine j_if_eq (pc' := 68) q20_65 rfl (fun c15 => ?_) (fun c15 => ?_)
              · refine j_forget (z_le_s (z_le_s (z_le_nil))) (hj14 s9.2)
              · refine j_aload_n (pc' := 69) q20_68 rfl (by decide) rfl ?_
                refine j_getr (k := 17) (q := 18) (pc' := 72) q20_69 rfl (hρ 17 2 18 rfl) rfl ?_
                refine j_iload_n (pc' := 73) q20_72 rfl rfl ?_
                refine j_aload_n (pc' := 74) q20_73 rfl (by decide) rfl ?_
                refine j_getr (k := 17) (q := 23) (pc' := 77) q20_74 rfl (hρ 17 8 23 rfl) rfl ?_
                refine j_getr (k := 23) (q := 24) (pc' := 80) q20_77 rfl (hρ 23 0 24 rfl) rfl ?_
                refine j_aload_n (pc' := 81) q20_80 rfl (by decide) rfl ?_
                refine j_getr (k := 17) (q := 32) (pc' := 84) q20_81 rfl (hρ 17 15 32 rfl) rfl ?_
                refine j_iload_n (pc' := 85) q20_84 rfl rfl ?_
                refine j_if (fun hi16 => ?_) (fun _ => j_none)
                refine j_iald (k := 32) (N := 16) (pc' := 86) q20_85 rfl hi16 rfl ?_
                refine j_if (fun hi17 => ?_) (fun _ => j_none)
                refine j_iald (k := 24) (N := 5) (pc' := 87) q20_86 rfl hi17 rfl ?_
                refine j_if (fun hi18 => ?_) (fun _ => j_none)
                refine j_iast (k := 18) (N := 16) (pc' := 88) q20_87 rfl hi18 rfl ?_
                refine j_nameS (fun τ19 => ?_)
                refine j_aload_n (pc' := 89) q20_88 rfl (by decide) rfl ?_
                refine j_getr (k := 17) (q := 19) (pc' := 92) q20_89 rfl (hρ 17 3 19 rfl) rfl ?_
                refine j_iload_n (pc' := 93) q20_92 rfl rfl ?_
                refine j_aload_n (pc' := 94) q20_93 rfl (by decide) rfl ?_
                refine j_getr (k := 17) (q := 19) (pc' := 97) q20_94 rfl (hρ 17 3 19 rfl) rfl ?_
                refine j_iload_n (pc' := 98) q20_97 rfl rfl ?_
                refine j_if (fun hi20 => ?_) (fun _ => j_none)
                refine j_iald (k := 19) (N := 16) (pc' := 99) q20_98 rfl hi20 rfl ?_
                refine j_iconst (pc' := 100) q20_99 rfl ?_
                refine j_max (pc' := 103) q20_100 rfl (Nat.le_of_ble_eq_true rfl) rfl ?_
                refine j_if (fun hi21 => ?_) (fun _ => j_none)
                refine j_iast (k := 19) (N := 16) (pc' := 104) q20_103 rfl hi21 rfl ?_
                refine j_nameS (fun τ22 => ?_)
                refine j_forget (z_le_s (z_le_s (z_le_nil))) (hj14 τ22)
      · show z_J _ _ _ _ _ _ _ _ _ _ _ _
        refine j_iload_n (pc' := 18) q20_17 rfl rfl ?_
        refine j_aload_n (pc' := 19) q20_18 rfl (by decide) rfl ?_
        refine j_callV0_pi (d := d + 4) (pc' := 22) q20_19 rfl (Nat.le_of_ble_eq_true rfl) (Nat.le_of_ble_eq_true rfl) rfl (t_G_cells_17 hρ (d + 4) _) (fun r4 => ?_)
        refine j_icmp_ge (pc' := 25) q20_22 rfl (fun c5 => ?_) (fun c5 => ?_)
        · exact j_exit (j_forget (z_le_s (z_le_n (z_le_nil))) (hX3 s3.2))
        · refine j_aload_n (pc' := 26) q20_25 rfl (by decide) rfl ?_
          refine j_getr (k := 17) (q := 32) (pc' := 29) q20_26 rfl (hρ 17 15 32 rfl) rfl ?_
          refine j_iload_n (pc' := 30) q20_29 rfl rfl ?_
          refine j_aload_n (pc' := 31) q20_30 rfl (by decide) rfl ?_
          refine j_iload_n (pc' := 32) q20_31 rfl rfl ?_
          refine j_callV1_pi (d := d + 4) (pc' := 35) q20_32 rfl (Nat.le_of_ble_eq_true rfl) (Nat.le_of_ble_eq_true rfl) rfl (t_G_firstFitting_17 hρ (d + 0) _ _) (fun r6 => ?_)
          refine j_if (fun hi7 => ?_) (fun _ => j_none)
          refine j_iast (k := 32) (N := 16) (pc' := 36) q20_35 rfl hi7 rfl ?_
          refine j_nameS (fun τ8 => ?_)
          refine j_iinc1 (pc' := 39) q20_36 rfl (Nat.le_of_ble_eq_true rfl) rfl ?_
          refine j_goto q20_39 rfl ?_
          exact j_again (j_forget (z_le_s (z_le_s (z_le_nil))) (hR3 ((s3.1 + (1 : Int32)), τ8)))
set_option maxRecDepth 20000 in
set_option maxHeartbeats 4000000 in
theorem t_G_growCrop_17 {xL : Nat} {xs : Nat → Int32} {ρ : Nat → Nat → Option Nat} (hρ : z_hR ρ) (d : Nat) (a1 : Int32) (σ : zS) : ∀ q, f_G_growCrop_17 a1 σ = some q → z_ec xL xs ρ (d + 3) 27 [.ref 17, .int a1] σ (em_v q) := by
  refine j_of (W := [.ref 17, .int a1, .null]) (fun L hL => ?_) ?_
  · subst hL; exact z_vl_0 _ 1 rfl
  · unfold f_G_growCrop_17
    refine j_aload_n (pc' := 1) q27_0 rfl (by decide) rfl ?_
    refine j_getr (k := 17) (q := 20) (pc' := 4) q27_1 rfl (hρ 17 4 20 rfl) rfl ?_
    refine j_iload_n (pc' := 5) q27_4 rfl rfl ?_
    refine j_if (fun hi1 => ?_) (fun _ => j_none)
    refine j_iald (k := 20) (N := 16) (pc' := 6) q27_5 rfl hi1 rfl ?_
    refine j_aload_n (pc' := 7) q27_6 rfl (by decide) rfl ?_
    refine j_getr (k := 17) (q := 21) (pc' := 10) q27_7 rfl (hρ 17 5 21 rfl) rfl ?_
    refine j_iload_n (pc' := 11) q27_10 rfl rfl ?_
    refine j_if (fun hi2 => ?_) (fun _ => j_none)
    refine j_iald (k := 21) (N := 16) (pc' := 12) q27_11 rfl hi2 rfl ?_
    refine j_aload_n (pc' := 13) q27_12 rfl (by decide) rfl ?_
    refine j_getr (k := 17) (q := 18) (pc' := 16) q27_13 rfl (hρ 17 2 18 rfl) rfl ?_
    refine j_iload_n (pc' := 17) q27_16 rfl rfl ?_
    refine j_if (fun hi3 => ?_) (fun _ => j_none)
    refine j_iald (k := 18) (N := 16) (pc' := 18) q27_17 rfl hi3 rfl ?_
    refine j_callS3_pi (d := d + 2) (pc' := 21) q27_18 (Or.inl rfl) (Nat.le_of_ble_eq_true rfl) (Nat.le_of_ble_eq_true rfl) rfl (t_Cr_behind hρ (d + 0) _ _ _ _) (fun r4 => ?_)
    refine j_istore2 (pc' := 22) q27_21 rfl (Nat.le_of_ble_eq_true rfl) rfl ?_
    refine j_iload_n (pc' := 23) q27_22 rfl rfl ?_
    refine j_iconst (pc' := 24) q27_23 rfl ?_
    refine j_icmp_ne (pc' := 27) q27_24 rfl (fun c5 => ?_) (fun c5 => ?_)
    · refine j_aload_n (pc' := 28) q27_27 rfl (by decide) rfl ?_
      refine j_getr (k := 17) (q := 22) (pc' := 31) q27_28 rfl (hρ 17 6 22 rfl) rfl ?_
      refine j_iload_n (pc' := 32) q27_31 rfl rfl ?_
      refine j_if (fun hi6 => ?_) (fun _ => j_none)
      refine j_iald (k := 22) (N := 16) (pc' := 33) q27_32 rfl hi6 rfl ?_
      refine j_iconst (pc' := 34) q27_33 rfl ?_
      refine j_iconst (pc' := 35) q27_34 rfl ?_
      refine j_callS3_pi (d := d + 2) (pc' := 38) q27_35 (Or.inr rfl) (Nat.le_of_ble_eq_true rfl) (Nat.le_of_ble_eq_true rfl) rfl (t_Y_isIn hρ (d + 2) _ _ _ _) (fun r7 => ?_)
      refine j_join (T := zS) 56 (fun t8 => [.ref 17, .int a1, .null]) (fun t8 => []) (fun t8 => t8) (fun t8 => ?_) (fun j8 hj8 => ?_)
      · show z_J _ _ _ _ _ _ _ _ _ _ _ _
        refine j_aload_n (pc' := 57) q27_56 rfl (by decide) rfl ?_
        refine j_dup (pc' := 58) q27_57 rfl rfl ?_
        refine j_getf (k := 17) (pc' := 61) q27_58 rfl rfl ?_
        refine j_iconst (pc' := 62) q27_61 rfl ?_
        refine j_iload_n (pc' := 63) q27_62 rfl rfl ?_
        refine j_ishl (pc' := 64) q27_63 rfl ?_
        refine j_ior (pc' := 65) q27_64 rfl ?_
        refine j_putf (k := 17) (pc' := 68) q27_65 rfl rfl ?_
        refine j_nameS (fun τ9 => ?_)
        refine j_aload_n (pc' := 69) q27_68 rfl (by decide) rfl ?_
        refine j_iload_n (pc' := 70) q27_69 rfl rfl ?_
        refine j_bipush (pc' := 72) q27_70 rfl ?_
        refine j_callV2_v (d := d + 2) (pc' := 75) q27_72 rfl (Nat.le_of_ble_eq_true rfl) (Nat.le_of_ble_eq_true rfl) rfl (t_G_setCrop_17 hρ (d + 1) _ _ _) (fun r10 => ?_)
        refine j_goto q27_75 rfl ?_
        exact j_vret q27_110 rfl
      · show z_J _ _ _ _ _ _ _ _ _ _ _ _
        refine j_if_eq (pc' := 41) q27_38 rfl (fun c11 => ?_) (fun c11 => ?_)
        · refine j_forget (z_le_s (z_le_s (z_le_n (z_le_nil)))) (hj8 σ)
        · refine j_aload_n (pc' := 42) q27_41 rfl (by decide) rfl ?_
          refine j_getr (k := 17) (q := 30) (pc' := 45) q27_42 rfl (hρ 17 11 30 rfl) rfl ?_
          refine j_aload_n (pc' := 46) q27_45 rfl (by decide) rfl ?_
          refine j_getr (k := 17) (q := 22) (pc' := 49) q27_46 rfl (hρ 17 6 22 rfl) rfl ?_
          refine j_iload_n (pc' := 50) q27_49 rfl rfl ?_
          refine j_if (fun hi12 => ?_) (fun _ => j_none)
          refine j_iald (k := 22) (N := 16) (pc' := 51) q27_50 rfl hi12 rfl ?_
          refine j_dup2 (pc' := 52) q27_51 ⟨rfl, rfl⟩ rfl ?_
          refine j_if (fun hi13 => ?_) (fun _ => j_none)
          refine j_iald (k := 30) (N := 3) (pc' := 53) q27_52 rfl hi13 rfl ?_
          refine j_iconst (pc' := 54) q27_53 rfl ?_
          refine j_iadd (pc' := 55) q27_54 rfl ?_
          refine j_if (fun hi14 => ?_) (fun _ => j_none)
          refine j_iast (k := 30) (N := 3) (pc' := 56) q27_55 rfl hi14 rfl ?_
          refine j_nameS (fun τ15 => ?_)
          refine j_forget (z_le_s (z_le_s (z_le_n (z_le_nil)))) (hj8 τ15)
    · refine j_iload_n (pc' := 79) q27_78 rfl rfl ?_
      refine j_iconst (pc' := 80) q27_79 rfl ?_
      refine j_icmp_ne (pc' := 83) q27_80 rfl (fun c16 => ?_) (fun c16 => ?_)
      · refine j_aload_n (pc' := 84) q27_83 rfl (by decide) rfl ?_
        refine j_dup (pc' := 85) q27_84 rfl rfl ?_
        refine j_getf (k := 17) (pc' := 88) q27_85 rfl rfl ?_
        refine j_iconst (pc' := 89) q27_88 rfl ?_
        refine j_iadd (pc' := 90) q27_89 rfl ?_
        refine j_putf (k := 17) (pc' := 93) q27_90 rfl rfl ?_
        refine j_nameS (fun τ17 => ?_)
        refine j_aload_n (pc' := 94) q27_93 rfl (by decide) rfl ?_
        refine j_iload_n (pc' := 95) q27_94 rfl rfl ?_
        refine j_bipush (pc' := 97) q27_95 rfl ?_
        refine j_callV2_v (d := d + 2) (pc' := 100) q27_97 rfl (Nat.le_of_ble_eq_true rfl) (Nat.le_of_ble_eq_true rfl) rfl (t_G_setCrop_17 hρ (d + 1) _ _ _) (fun r18 => ?_)
        refine j_goto q27_100 rfl ?_
        exact j_vret q27_110 rfl
      · refine j_aload_n (pc' := 104) q27_103 rfl (by decide) rfl ?_
        refine j_getr (k := 17) (q := 21) (pc' := 107) q27_104 rfl (hρ 17 5 21 rfl) rfl ?_
        refine j_iload_n (pc' := 108) q27_107 rfl rfl ?_
        refine j_iload_n (pc' := 109) q27_108 rfl rfl ?_
        refine j_if (fun hi19 => ?_) (fun _ => j_none)
        refine j_iast (k := 21) (N := 16) (pc' := 110) q27_109 rfl hi19 rfl ?_
        refine j_nameS (fun τ20 => ?_)
        exact j_vret q27_110 rfl
set_option maxRecDepth 20000 in
set_option maxHeartbeats 4000000 in
theorem t_G_growCrops_17 {xL : Nat} {xs : Nat → Int32} {ρ : Nat → Nat → Option Nat} (hρ : z_hR ρ) (d : Nat)  (σ : zS) : ∀ q, f_G_growCrops_17  σ = some q → z_ec xL xs ρ (d + 4) 26 [.ref 17] σ (em_v q) := by
  refine j_of (W := [.ref 17, .null]) (fun L hL => ?_) ?_
  · subst hL; exact z_vl_0 _ 1 rfl
  · unfold f_G_growCrops_17
    refine j_aload_n (pc' := 1) q26_0 rfl (by decide) rfl ?_
    refine j_iconst (pc' := 2) q26_1 rfl ?_
    refine j_putf (k := 17) (pc' := 5) q26_2 rfl rfl ?_
    refine j_nameS (fun τ1 => ?_)
    refine j_iconst (pc' := 6) q26_5 rfl ?_
    refine j_istore1 (pc' := 7) q26_6 rfl (Nat.le_of_ble_eq_true rfl) rfl ?_
    refine j_forget (V' := [.ref 17, .int (0 : Int32)]) (z_le_s (z_le_s (z_le_nil))) ?_
    refine j_loopX (S := Int32 × zS) (E := zS) (fun e => e) 37 (fun s2 => [.ref 17, .int s2.1]) (fun s2 => s2.2) (fun b2 => [.null, .null]) (fun b2 => b2) (fun b2 => ?_) (fun R2 hR2 hX2 s2 => ?_) ((0 : Int32), τ1)
    · show z_J _ _ _ _ _ _ _ _ _ _ _ _
      exact j_vret q26_37 rfl
    · show z_J _ _ _ _ _ _ _ _ _ _ _ _
      refine j_iload_n (pc' := 8) q26_7 rfl rfl ?_
      refine j_aload_n (pc' := 9) q26_8 rfl (by decide) rfl ?_
      refine j_callV0_pi (d := d + 3) (pc' := 12) q26_9 rfl (Nat.le_of_ble_eq_true rfl) (Nat.le_of_ble_eq_true rfl) rfl (t_G_cells_17 hρ (d + 3) _) (fun r3 => ?_)
      refine j_icmp_ge (pc' := 15) q26_12 rfl (fun c4 => ?_) (fun c4 => ?_)
      · exact j_exit (j_forget (z_le_n (z_le_n (z_le_nil))) (hX2 s2.2))
      · refine j_aload_n (pc' := 16) q26_15 rfl (by decide) rfl ?_
        refine j_getr (k := 17) (q := 20) (pc' := 19) q26_16 rfl (hρ 17 4 20 rfl) rfl ?_
        refine j_iload_n (pc' := 20) q26_19 rfl rfl ?_
        refine j_if (fun hi5 => ?_) (fun _ => j_none)
        refine j_iald (k := 20) (N := 16) (pc' := 21) q26_20 rfl hi5 rfl ?_
        refine j_bipush (pc' := 23) q26_21 rfl ?_
        refine j_join (T := zS) 31 (fun t6 => [.ref 17, .int s2.1]) (fun t6 => []) (fun t6 => t6) (fun t6 => ?_) (fun j6 hj6 => ?_)
        · show z_J _ _ _ _ _ _ _ _ _ _ _ _
          refine j_iinc1 (pc' := 34) q26_31 rfl (Nat.le_of_ble_eq_true rfl) rfl ?_
          refine j_goto q26_34 rfl ?_
          exact j_again (j_forget (z_le_s (z_le_s (z_le_nil))) (hR2 ((s2.1 + (1 : Int32)), t6)))
        · show z_J _ _ _ _ _ _ _ _ _ _ _ _
          refine j_icmp_eq (pc' := 26) q26_23 rfl (fun c7 => ?_) (fun c7 => ?_)
          · refine j_forget (z_le_s (z_le_s (z_le_nil))) (hj6 s2.2)
          · refine j_aload_n (pc' := 27) q26_26 rfl (by decide) rfl ?_
            refine j_iload_n (pc' := 28) q26_27 rfl rfl ?_
            refine j_callV1_v (d := d + 3) (pc' := 31) q26_28 rfl (Nat.le_of_ble_eq_true rfl) (Nat.le_of_ble_eq_true rfl) rfl (t_G_growCrop_17 hρ (d + 0) _ _) (fun r8 => ?_)
            refine j_forget (z_le_s (z_le_s (z_le_nil))) (hj6 r8)
set_option maxRecDepth 20000 in
set_option maxHeartbeats 4000000 in
theorem t_G_setBare_17 {xL : Nat} {xs : Nat → Int32} {ρ : Nat → Nat → Option Nat} (hρ : z_hR ρ) (d : Nat) (a1 : Int32) (σ : zS) : ∀ q, f_G_setBare_17 a1 σ = some q → z_ec xL xs ρ (d + 2) 15 [.ref 17, .int a1] σ (em_v q) := by
  refine j_of (W := [.ref 17, .int a1]) (fun L hL => ?_) ?_
  · subst hL; exact z_vl_0 _ 0 rfl
  · unfold f_G_setBare_17
    refine j_aload_n (pc' := 1) q15_0 rfl (by decide) rfl ?_
    refine j_iload_n (pc' := 2) q15_1 rfl rfl ?_
    refine j_iconst (pc' := 3) q15_2 rfl ?_
    refine j_iconst (pc' := 4) q15_3 rfl ?_
    refine j_callV3_v (d := d + 1) (pc' := 7) q15_4 rfl (Nat.le_of_ble_eq_true rfl) (Nat.le_of_ble_eq_true rfl) rfl (t_G_set_17 hρ (d + 0) _ _ _ _) (fun r1 => ?_)
    exact j_vret q15_7 rfl
set_option maxRecDepth 20000 in
set_option maxHeartbeats 4000000 in
theorem t_G_loseYards_17 {xL : Nat} {xs : Nat → Int32} {ρ : Nat → Nat → Option Nat} (hρ : z_hR ρ) (d : Nat)  (σ : zS) : ∀ q, f_G_loseYards_17  σ = some q → z_ec xL xs ρ (d + 3) 28 [.ref 17] σ (em_v q) := by
  refine j_of (W := [.ref 17, .null]) (fun L hL => ?_) ?_
  · subst hL; exact z_vl_0 _ 1 rfl
  · unfold f_G_loseYards_17
    refine j_iconst (pc' := 1) q28_0 rfl ?_
    refine j_istore1 (pc' := 2) q28_1 rfl (Nat.le_of_ble_eq_true rfl) rfl ?_
    refine j_forget (V' := [.ref 17, .int (0 : Int32)]) (z_le_s (z_le_s (z_le_nil))) ?_
    refine j_loopX (S := Int32 × zS) (E := zS) (fun e => e) 44 (fun s1 => [.ref 17, .int s1.1]) (fun s1 => s1.2) (fun b1 => [.null, .null]) (fun b1 => b1) (fun b1 => ?_) (fun R1 hR1 hX1 s1 => ?_) ((0 : Int32), σ)
    · show z_J _ _ _ _ _ _ _ _ _ _ _ _
      exact j_vret q28_44 rfl
    · show z_J _ _ _ _ _ _ _ _ _ _ _ _
      refine j_iload_n (pc' := 3) q28_2 rfl rfl ?_
      refine j_aload_n (pc' := 4) q28_3 rfl (by decide) rfl ?_
      refine j_callV0_pi (d := d + 2) (pc' := 7) q28_4 rfl (Nat.le_of_ble_eq_true rfl) (Nat.le_of_ble_eq_true rfl) rfl (t_G_cells_17 hρ (d + 2) _) (fun r2 => ?_)
      refine j_icmp_ge (pc' := 10) q28_7 rfl (fun c3 => ?_) (fun c3 => ?_)
      · exact j_exit (j_forget (z_le_n (z_le_n (z_le_nil))) (hX1 s1.2))
      · refine j_aload_n (pc' := 11) q28_10 rfl (by decide) rfl ?_
        refine j_getr (k := 17) (q := 19) (pc' := 14) q28_11 rfl (hρ 17 3 19 rfl) rfl ?_
        refine j_iload_n (pc' := 15) q28_14 rfl rfl ?_
        refine j_if (fun hi4 => ?_) (fun _ => j_none)
        refine j_iald (k := 19) (N := 16) (pc' := 16) q28_15 rfl hi4 rfl ?_
        refine j_iconst (pc' := 17) q28_16 rfl ?_
        refine j_join (T := zS) 38 (fun t5 => [.ref 17, .int s1.1]) (fun t5 => []) (fun t5 => t5) (fun t5 => ?_) (fun j5 hj5 => ?_)
        · show z_J _ _ _ _ _ _ _ _ _ _ _ _
          refine j_iinc1 (pc' := 41) q28_38 rfl (Nat.le_of_ble_eq_true rfl) rfl ?_
          refine j_goto q28_41 rfl ?_
          exact j_again (j_forget (z_le_s (z_le_s (z_le_nil))) (hR1 ((s1.1 + (1 : Int32)), t5)))
        · show z_J _ _ _ _ _ _ _ _ _ _ _ _
          refine j_icmp_le (pc' := 20) q28_17 rfl (fun c6 => ?_) (fun c6 => ?_)
          · refine j_aload_n (pc' := 34) q28_33 rfl (by decide) rfl ?_
            refine j_iload_n (pc' := 35) q28_34 rfl rfl ?_
            refine j_callV1_v (d := d + 2) (pc' := 38) q28_35 rfl (Nat.le_of_ble_eq_true rfl) (Nat.le_of_ble_eq_true rfl) rfl (t_G_setBare_17 hρ (d + 0) _ _) (fun r7 => ?_)
            refine j_forget (z_le_s (z_le_s (z_le_nil))) (hj5 r7)
          · refine j_aload_n (pc' := 21) q28_20 rfl (by decide) rfl ?_
            refine j_getr (k := 17) (q := 19) (pc' := 24) q28_21 rfl (hρ 17 3 19 rfl) rfl ?_
            refine j_iload_n (pc' := 25) q28_24 rfl rfl ?_
            refine j_dup2 (pc' := 26) q28_25 ⟨rfl, rfl⟩ rfl ?_
            refine j_if (fun hi8 => ?_) (fun _ => j_none)
            refine j_iald (k := 19) (N := 16) (pc' := 27) q28_26 rfl hi8 rfl ?_
            refine j_iconst (pc' := 28) q28_27 rfl ?_
            refine j_isub (pc' := 29) q28_28 rfl ?_
            refine j_if (fun hi9 => ?_) (fun _ => j_none)
            refine j_iast (k := 19) (N := 16) (pc' := 30) q28_29 rfl hi9 rfl ?_
            refine j_nameS (fun τ10 => ?_)
            refine j_goto q28_30 rfl ?_
            refine j_forget (z_le_s (z_le_s (z_le_nil))) (hj5 τ10)
set_option maxRecDepth 20000 in
set_option maxHeartbeats 4000000 in
theorem t_G_goOn_17 {xL : Nat} {xs : Nat → Int32} {ρ : Nat → Nat → Option Nat} (hρ : z_hR ρ) (d : Nat) (a1 : Int32) (σ : zS) : ∀ q, f_G_goOn_17 a1 σ = some q → z_ec xL xs ρ (d + 6) 19 [.ref 17, .int a1] σ (em_v q) := by
  refine j_of (W := [.ref 17, .int a1, .null]) (fun L hL => ?_) ?_
  · subst hL; exact z_vl_0 _ 1 rfl
  · unfold f_G_goOn_17
    refine j_iconst (pc' := 1) q19_0 rfl ?_
    refine j_istore2 (pc' := 2) q19_1 rfl (Nat.le_of_ble_eq_true rfl) rfl ?_
    refine j_forget (V' := [.ref 17, .int a1, .int (0 : Int32)]) (z_le_s (z_le_s (z_le_s (z_le_nil)))) ?_
    refine j_loopX (S := Int32 × zS) (E := zS) (fun e => e) 35 (fun s1 => [.ref 17, .int a1, .int s1.1]) (fun s1 => s1.2) (fun b1 => [.null, .null, .null]) (fun b1 => b1) (fun b1 => ?_) (fun R1 hR1 hX1 s1 => ?_) ((0 : Int32), σ)
    · show z_J _ _ _ _ _ _ _ _ _ _ _ _
      exact j_vret q19_35 rfl
    · show z_J _ _ _ _ _ _ _ _ _ _ _ _
      refine j_iload_n (pc' := 3) q19_2 rfl rfl ?_
      refine j_iload_n (pc' := 4) q19_3 rfl rfl ?_
      refine j_icmp_ge (pc' := 7) q19_4 rfl (fun c2 => ?_) (fun c2 => ?_)
      · exact j_exit (j_forget (z_le_n (z_le_n (z_le_n (z_le_nil)))) (hX1 s1.2))
      · refine j_aload_n (pc' := 8) q19_7 rfl (by decide) rfl ?_
        refine j_callV0_v (d := d + 5) (pc' := 11) q19_8 rfl (Nat.le_of_ble_eq_true rfl) (Nat.le_of_ble_eq_true rfl) rfl (t_G_spread_17 hρ (d + 0) _) (fun r3 => ?_)
        refine j_aload_n (pc' := 12) q19_11 rfl (by decide) rfl ?_
        refine j_callV0_v (d := d + 5) (pc' := 15) q19_12 rfl (Nat.le_of_ble_eq_true rfl) (Nat.le_of_ble_eq_true rfl) rfl (t_G_growCrops_17 hρ (d + 1) _) (fun r4 => ?_)
        refine j_aload_n (pc' := 16) q19_15 rfl (by decide) rfl ?_
        refine j_callV0_v (d := d + 5) (pc' := 19) q19_16 rfl (Nat.le_of_ble_eq_true rfl) (Nat.le_of_ble_eq_true rfl) rfl (t_G_loseYards_17 hρ (d + 2) _) (fun r5 => ?_)
        refine j_aload_n (pc' := 20) q19_19 rfl (by decide) rfl ?_
        refine j_dup (pc' := 21) q19_20 rfl rfl ?_
        refine j_getf (k := 17) (pc' := 24) q19_21 rfl rfl ?_
        refine j_iconst (pc' := 25) q19_24 rfl ?_
        refine j_iadd (pc' := 26) q19_25 rfl ?_
        refine j_putf (k := 17) (pc' := 29) q19_26 rfl rfl ?_
        refine j_nameS (fun τ6 => ?_)
        refine j_iinc2 (pc' := 32) q19_29 rfl (Nat.le_of_ble_eq_true rfl) rfl ?_
        refine j_goto q19_32 rfl ?_
        exact j_again (j_forget (z_le_s (z_le_s (z_le_s (z_le_nil)))) (hR1 ((s1.1 + (1 : Int32)), τ6)))
set_option maxRecDepth 20000 in
set_option maxHeartbeats 4000000 in
theorem t_G_facet_17 {xL : Nat} {xs : Nat → Int32} {ρ : Nat → Nat → Option Nat} (hρ : z_hR ρ) (d : Nat) (a1 : Int32) (a2 : Int32) (σ : zS) : ∀ q, f_G_facet_17 a1 a2 σ = some q → z_ec xL xs ρ (d + 2) 13 [.ref 17, .int a1, .int a2] σ (em_pi σ q) := by
  refine j_of (W := [.ref 17, .int a1, .int a2]) (fun L hL => ?_) ?_
  · subst hL; exact z_vl_0 _ 0 rfl
  · unfold f_G_facet_17
    refine j_aload_n (pc' := 1) q13_0 rfl (by decide) rfl ?_
    refine j_iload_n (pc' := 2) q13_1 rfl rfl ?_
    refine j_callV1_pi (d := d + 1) (pc' := 5) q13_2 rfl (Nat.le_of_ble_eq_true rfl) (Nat.le_of_ble_eq_true rfl) rfl (t_G_hasCell_17 hρ (d + 0) _ _) (fun r1 => ?_)
    refine j_if_ne (pc' := 8) q13_5 rfl (fun c2 => ?_) (fun c2 => ?_)
    · refine j_iconst (pc' := 9) q13_8 rfl ?_
      exact j_piret q13_9 rfl
    · refine j_iload_n (pc' := 11) q13_10 rfl rfl ?_
      refine j_if (fun c3 => ?_) (fun c3 => ?_)
      · refine j_tin (pc' := 44) (j := 0) (off := 33) q13_11 c3 (Nat.le_of_ble_eq_true rfl) (by decide) rfl (by decide) ?_
        refine j_aload_n (pc' := 45) q13_44 rfl (by decide) rfl ?_
        refine j_getr (k := 17) (q := 18) (pc' := 48) q13_45 rfl (hρ 17 2 18 rfl) rfl ?_
        refine j_iload_n (pc' := 49) q13_48 rfl rfl ?_
        refine j_if (fun hi4 => ?_) (fun _ => j_none)
        refine j_iald (k := 18) (N := 16) (pc' := 50) q13_49 rfl hi4 rfl ?_
        exact j_piret q13_50 rfl
      refine j_if (fun c5 => ?_) (fun c5 => ?_)
      · refine j_tin (pc' := 51) (j := 1) (off := 40) q13_11 c5 (Nat.le_of_ble_eq_true rfl) (by decide) rfl (by decide) ?_
        refine j_aload_n (pc' := 52) q13_51 rfl (by decide) rfl ?_
        refine j_getr (k := 17) (q := 19) (pc' := 55) q13_52 rfl (hρ 17 3 19 rfl) rfl ?_
        refine j_iload_n (pc' := 56) q13_55 rfl rfl ?_
        refine j_if (fun hi6 => ?_) (fun _ => j_none)
        refine j_iald (k := 19) (N := 16) (pc' := 57) q13_56 rfl hi6 rfl ?_
        exact j_piret q13_57 rfl
      refine j_if (fun c7 => ?_) (fun c7 => ?_)
      · refine j_tin (pc' := 58) (j := 2) (off := 47) q13_11 c7 (Nat.le_of_ble_eq_true rfl) (by decide) rfl (by decide) ?_
        refine j_aload_n (pc' := 59) q13_58 rfl (by decide) rfl ?_
        refine j_getr (k := 17) (q := 20) (pc' := 62) q13_59 rfl (hρ 17 4 20 rfl) rfl ?_
        refine j_iload_n (pc' := 63) q13_62 rfl rfl ?_
        refine j_if (fun hi8 => ?_) (fun _ => j_none)
        refine j_iald (k := 20) (N := 16) (pc' := 64) q13_63 rfl hi8 rfl ?_
        exact j_piret q13_64 rfl
      refine j_if (fun c9 => ?_) (fun c9 => ?_)
      · refine j_tin (pc' := 65) (j := 3) (off := 54) q13_11 c9 (Nat.le_of_ble_eq_true rfl) (by decide) rfl (by decide) ?_
        refine j_aload_n (pc' := 66) q13_65 rfl (by decide) rfl ?_
        refine j_getr (k := 17) (q := 21) (pc' := 69) q13_66 rfl (hρ 17 5 21 rfl) rfl ?_
        refine j_iload_n (pc' := 70) q13_69 rfl rfl ?_
        refine j_if (fun hi10 => ?_) (fun _ => j_none)
        refine j_iald (k := 21) (N := 16) (pc' := 71) q13_70 rfl hi10 rfl ?_
        exact j_piret q13_71 rfl
      refine j_if (fun c11 => ?_) (fun c11 => ?_)
      · refine j_tin (pc' := 72) (j := 4) (off := 61) q13_11 c11 (Nat.le_of_ble_eq_true rfl) (by decide) rfl (by decide) ?_
        refine j_aload_n (pc' := 73) q13_72 rfl (by decide) rfl ?_
        refine j_getr (k := 17) (q := 22) (pc' := 76) q13_73 rfl (hρ 17 6 22 rfl) rfl ?_
        refine j_iload_n (pc' := 77) q13_76 rfl rfl ?_
        refine j_if (fun hi12 => ?_) (fun _ => j_none)
        refine j_iald (k := 22) (N := 16) (pc' := 78) q13_77 rfl hi12 rfl ?_
        exact j_piret q13_78 rfl
      refine j_tdef (pc' := 79) 5 q13_11 rfl (by decide) (z_noS (z_noS (z_noS (z_noS (z_noS (z_no0) c3) c5) c7) c9) c11) (by decide) ?_
      refine j_iconst (pc' := 80) q13_79 rfl ?_
      exact j_piret q13_80 rfl
theorem q121_0 : z_fi (z_mi 121) 0 = some (0, .iload_n 2, 0, 0, 0, 0, 0) := rfl
theorem q121_1 : z_fi (z_mi 121) 1 = some (1, .iconst 0, 0, 0, 0, 0, 0) := rfl
theorem q121_2 : z_fi (z_mi 121) 2 = some (2, .bipush 60, 0, 0, 0, 60, 0) := rfl
theorem q121_4 : z_fi (z_mi 121) 4 = some (4, .invokestatic 60, 1, 99, 3, 0, 0) := rfl
theorem q121_7 : z_fi (z_mi 121) 7 = some (7, .ifCond .ne 5, 0, 12, 0, 0, 0) := rfl
theorem q121_10 : z_fi (z_mi 121) 10 = some (10, .iconst (-1), 0, 0, 0, (-1), 0) := rfl
theorem q121_11 : z_fi (z_mi 121) 11 = some (11, .ireturn, 0, 0, 0, 0, 0) := rfl
theorem q121_12 : z_fi (z_mi 121) 12 = some (12, .aload_n 0, 0, 0, 0, 0, 0) := rfl
theorem q121_13 : z_fi (z_mi 121) 13 = some (13, .getfield 16, 0, 9, 1, 0, 0) := rfl
theorem q121_16 : z_fi (z_mi 121) 16 = some (16, .aload_n 0, 0, 0, 0, 0, 0) := rfl
theorem q121_17 : z_fi (z_mi 121) 17 = some (17, .getfield 10, 0, 9, 0, 0, 0) := rfl
theorem q121_20 : z_fi (z_mi 121) 20 = some (20, .invokevirtual 85, 0, 6, 1, 0, 0) := rfl
theorem q121_23 : z_fi (z_mi 121) 23 = some (23, .aload_n 0, 0, 0, 0, 0, 0) := rfl
theorem q121_24 : z_fi (z_mi 121) 24 = some (24, .getfield 16, 0, 9, 1, 0, 0) := rfl
theorem q121_27 : z_fi (z_mi 121) 27 = some (27, .iload_n 2, 0, 0, 0, 0, 0) := rfl
theorem q121_28 : z_fi (z_mi 121) 28 = some (28, .invokevirtual 196, 0, 19, 1, 0, 0) := rfl
theorem q121_31 : z_fi (z_mi 121) 31 = some (31, .aload_n 0, 0, 0, 0, 0, 0) := rfl
theorem q121_32 : z_fi (z_mi 121) 32 = some (32, .getfield 16, 0, 9, 1, 0, 0) := rfl
theorem q121_35 : z_fi (z_mi 121) 35 = some (35, .iload_n 1, 0, 0, 0, 0, 0) := rfl
theorem q121_36 : z_fi (z_mi 121) 36 = some (36, .iload_n 3, 0, 0, 0, 0, 0) := rfl
theorem q121_37 : z_fi (z_mi 121) 37 = some (37, .invokevirtual 126, 0, 13, 2, 0, 0) := rfl
theorem q121_40 : z_fi (z_mi 121) 40 = some (40, .ireturn, 0, 0, 0, 0, 0) := rfl
set_option maxRecDepth 20000 in
set_option maxHeartbeats 4000000 in
theorem t_Y_ahead {xL : Nat} {xs : Nat → Int32} {ρ : Nat → Nat → Option Nat} (hρ : z_hR ρ) (d : Nat) (a1 : Int32) (a2 : Int32) (a3 : Int32) (σ : zS) : ∀ q, f_Y_ahead a1 a2 a3 σ = some q → z_ec xL xs ρ (d + 7) 121 [.ref 0, .int a1, .int a2, .int a3] σ (em_i q) := by
  refine j_of (W := [.ref 0, .int a1, .int a2, .int a3]) (fun L hL => ?_) ?_
  · subst hL; exact z_vl_0 _ 0 rfl
  · unfold f_Y_ahead
    refine j_iload_n (pc' := 1) q121_0 rfl rfl ?_
    refine j_iconst (pc' := 2) q121_1 rfl ?_
    refine j_bipush (pc' := 4) q121_2 rfl ?_
    refine j_callS3_pi (d := d + 6) (pc' := 7) q121_4 (Or.inl rfl) (Nat.le_of_ble_eq_true rfl) (Nat.le_of_ble_eq_true rfl) rfl (t_Y_isIn hρ (d + 6) _ _ _ _) (fun r1 => ?_)
    refine j_if_ne (pc' := 10) q121_7 rfl (fun c2 => ?_) (fun c2 => ?_)
    · refine j_iconst (pc' := 11) q121_10 rfl ?_
      exact j_iret q121_11 rfl
    · refine j_aload_n (pc' := 13) q121_12 rfl (by decide) rfl ?_
      refine j_getr (k := 0) (q := 17) (pc' := 16) q121_13 rfl (hρ 0 1 17 rfl) rfl ?_
      refine j_aload_n (pc' := 17) q121_16 rfl (by decide) rfl ?_
      refine j_getr (k := 0) (q := 1) (pc' := 20) q121_17 rfl (hρ 0 0 1 rfl) rfl ?_
      refine j_callV1_v (d := d + 6) (pc' := 23) q121_20 rfl (Nat.le_of_ble_eq_true rfl) (Nat.le_of_ble_eq_true rfl) rfl (t_G_copyFrom_17_1 hρ (d + 5) _) (fun r3 => ?_)
      refine j_aload_n (pc' := 24) q121_23 rfl (by decide) rfl ?_
      refine j_getr (k := 0) (q := 17) (pc' := 27) q121_24 rfl (hρ 0 1 17 rfl) rfl ?_
      refine j_iload_n (pc' := 28) q121_27 rfl rfl ?_
      refine j_callV1_v (d := d + 6) (pc' := 31) q121_28 rfl (Nat.le_of_ble_eq_true rfl) (Nat.le_of_ble_eq_true rfl) rfl (t_G_goOn_17 hρ (d + 0) _ _) (fun r4 => ?_)
      refine j_aload_n (pc' := 32) q121_31 rfl (by decide) rfl ?_
      refine j_getr (k := 0) (q := 17) (pc' := 35) q121_32 rfl (hρ 0 1 17 rfl) rfl ?_
      refine j_iload_n (pc' := 36) q121_35 rfl rfl ?_
      refine j_iload_n (pc' := 37) q121_36 rfl rfl ?_
      refine j_callV2_pi (d := d + 6) (pc' := 40) q121_37 rfl (Nat.le_of_ble_eq_true rfl) (Nat.le_of_ble_eq_true rfl) rfl (t_G_facet_17 hρ (d + 4) _ _ _) (fun r5 => ?_)
      exact j_iret q121_40 rfl
theorem q195_0 : z_fi (z_mi 195) 0 = some (0, .iconst 0, 0, 0, 0, 0, 0) := rfl
theorem q195_1 : z_fi (z_mi 195) 1 = some (1, .istore_n 3, 0, 0, 0, 0, 0) := rfl
theorem q195_2 : z_fi (z_mi 195) 2 = some (2, .iload_n 3, 0, 0, 0, 0, 0) := rfl
theorem q195_3 : z_fi (z_mi 195) 3 = some (3, .bipush 110, 0, 0, 0, 110, 0) := rfl
theorem q195_5 : z_fi (z_mi 195) 5 = some (5, .if_icmp .ge 25, 0, 30, 0, 0, 0) := rfl
theorem q195_8 : z_fi (z_mi 195) 8 = some (8, .aload_n 0, 0, 0, 0, 0, 0) := rfl
theorem q195_9 : z_fi (z_mi 195) 9 = some (9, .getfield 7, 0, 10, 0, 0, 0) := rfl
theorem q195_12 : z_fi (z_mi 195) 12 = some (12, .iload_n 2, 0, 0, 0, 0, 0) := rfl
theorem q195_13 : z_fi (z_mi 195) 13 = some (13, .iload_n 3, 0, 0, 0, 0, 0) := rfl
theorem q195_14 : z_fi (z_mi 195) 14 = some (14, .iadd, 0, 0, 0, 0, 0) := rfl
theorem q195_15 : z_fi (z_mi 195) 15 = some (15, .aload_n 0, 0, 0, 0, 0, 0) := rfl
theorem q195_16 : z_fi (z_mi 195) 16 = some (16, .getfield 7, 0, 10, 0, 0, 0) := rfl
theorem q195_19 : z_fi (z_mi 195) 19 = some (19, .iload_n 1, 0, 0, 0, 0, 0) := rfl
theorem q195_20 : z_fi (z_mi 195) 20 = some (20, .iload_n 3, 0, 0, 0, 0, 0) := rfl
theorem q195_21 : z_fi (z_mi 195) 21 = some (21, .iadd, 0, 0, 0, 0, 0) := rfl
theorem q195_22 : z_fi (z_mi 195) 22 = some (22, .iaload, 0, 0, 0, 0, 0) := rfl
theorem q195_23 : z_fi (z_mi 195) 23 = some (23, .iastore, 0, 0, 0, 0, 0) := rfl
theorem q195_24 : z_fi (z_mi 195) 24 = some (24, .iinc 3 1, 0, 0, 0, 1, 0) := rfl
theorem q195_27 : z_fi (z_mi 195) 27 = some (27, .goto (-25), 0, 2, 0, 0, 0) := rfl
theorem q195_30 : z_fi (z_mi 195) 30 = some (30, .return_, 0, 0, 0, 0, 0) := rfl
set_option maxRecDepth 20000 in
set_option maxHeartbeats 4000000 in
theorem t_M_copies {xL : Nat} {xs : Nat → Int32} {ρ : Nat → Nat → Option Nat} (hρ : z_hR ρ) (d : Nat) (a1 : Int32) (a2 : Int32) (σ : zS) : ∀ q, f_M_copies a1 a2 σ = some q → z_ec xL xs ρ (d + 0) 195 [.ref 90, .int a1, .int a2] σ (em_v q) := by
  refine j_of (W := [.ref 90, .int a1, .int a2, .null]) (fun L hL => ?_) ?_
  · subst hL; exact z_vl_0 _ 1 rfl
  · unfold f_M_copies
    refine j_iconst (pc' := 1) q195_0 rfl ?_
    refine j_istore3 (pc' := 2) q195_1 rfl (Nat.le_of_ble_eq_true rfl) rfl ?_
    refine j_forget (V' := [.ref 90, .int a1, .int a2, .int (0 : Int32)]) (z_le_s (z_le_s (z_le_s (z_le_s (z_le_nil))))) ?_
    refine j_loopX (S := Int32 × zS) (E := zS) (fun e => e) 30 (fun s1 => [.ref 90, .int a1, .int a2, .int s1.1]) (fun s1 => s1.2) (fun b1 => [.null, .null, .null, .null]) (fun b1 => b1) (fun b1 => ?_) (fun R1 hR1 hX1 s1 => ?_) ((0 : Int32), σ)
    · show z_J _ _ _ _ _ _ _ _ _ _ _ _
      exact j_vret q195_30 rfl
    · show z_J _ _ _ _ _ _ _ _ _ _ _ _
      refine j_iload_n (pc' := 3) q195_2 rfl rfl ?_
      refine j_bipush (pc' := 5) q195_3 rfl ?_
      refine j_icmp_ge (pc' := 8) q195_5 rfl (fun c2 => ?_) (fun c2 => ?_)
      · exact j_exit (j_forget (z_le_n (z_le_n (z_le_n (z_le_n (z_le_nil))))) (hX1 s1.2))
      · refine j_aload_n (pc' := 9) q195_8 rfl (by decide) rfl ?_
        refine j_getr (k := 90) (q := 91) (pc' := 12) q195_9 rfl (hρ 90 0 91 rfl) rfl ?_
        refine j_iload_n (pc' := 13) q195_12 rfl rfl ?_
        refine j_iload_n (pc' := 14) q195_13 rfl rfl ?_
        refine j_iadd (pc' := 15) q195_14 rfl ?_
        refine j_aload_n (pc' := 16) q195_15 rfl (by decide) rfl ?_
        refine j_getr (k := 90) (q := 91) (pc' := 19) q195_16 rfl (hρ 90 0 91 rfl) rfl ?_
        refine j_iload_n (pc' := 20) q195_19 rfl rfl ?_
        refine j_iload_n (pc' := 21) q195_20 rfl rfl ?_
        refine j_iadd (pc' := 22) q195_21 rfl ?_
        refine j_if (fun hi3 => ?_) (fun _ => j_none)
        refine j_iald (k := 91) (N := 550) (pc' := 23) q195_22 rfl hi3 rfl ?_
        refine j_if (fun hi4 => ?_) (fun _ => j_none)
        refine j_iast (k := 91) (N := 550) (pc' := 24) q195_23 rfl hi4 rfl ?_
        refine j_nameS (fun τ5 => ?_)
        refine j_iinc3 (pc' := 27) q195_24 rfl (Nat.le_of_ble_eq_true rfl) rfl ?_
        refine j_goto q195_27 rfl ?_
        exact j_again (j_forget (z_le_s (z_le_s (z_le_s (z_le_s (z_le_nil))))) (hR1 ((s1.1 + (1 : Int32)), τ5)))
