/-! the abstract machine runs as the functions say, by wip/whole/gen_fun.py -/
theorem q198_0 : z_fi (z_mi 198) 0 = some (0, .aload_n 0, 0, 0, 0, 0, 0) := rfl
theorem q198_1 : z_fi (z_mi 198) 1 = some (1, .iload_n 1, 0, 0, 0, 0, 0) := rfl
theorem q198_2 : z_fi (z_mi 198) 2 = some (2, .invokevirtual 165, 0, 164, 1, 0, 0) := rfl
theorem q198_5 : z_fi (z_mi 198) 5 = some (5, .ifCond .eq 27, 0, 32, 0, 0, 0) := rfl
theorem q198_8 : z_fi (z_mi 198) 8 = some (8, .iload_n 2, 0, 0, 0, 0, 0) := rfl
theorem q198_9 : z_fi (z_mi 198) 9 = some (9, .i2l, 0, 0, 0, 0, 0) := rfl
theorem q198_10 : z_fi (z_mi 198) 10 = some (10, .lconst 0, 0, 0, 0, 0, 0) := rfl
theorem q198_11 : z_fi (z_mi 198) 11 = some (11, .ldc2_w 219, 0, 0, 0, 0, 60) := rfl
theorem q198_14 : z_fi (z_mi 198) 14 = some (14, .invokestatic 62, 1, 149, 3, 0, 0) := rfl
theorem q198_17 : z_fi (z_mi 198) 17 = some (17, .ifCond .eq 15, 0, 32, 0, 0, 0) := rfl
theorem q198_20 : z_fi (z_mi 198) 20 = some (20, .iload_n 3, 0, 0, 0, 0, 0) := rfl
theorem q198_21 : z_fi (z_mi 198) 21 = some (21, .i2l, 0, 0, 0, 0, 0) := rfl
theorem q198_22 : z_fi (z_mi 198) 22 = some (22, .lconst 0, 0, 0, 0, 0, 0) := rfl
theorem q198_23 : z_fi (z_mi 198) 23 = some (23, .ldc2_w 169, 0, 0, 0, 0, 4) := rfl
theorem q198_26 : z_fi (z_mi 198) 26 = some (26, .invokestatic 62, 1, 149, 3, 0, 0) := rfl
theorem q198_29 : z_fi (z_mi 198) 29 = some (29, .ifCond .ne 5, 0, 34, 0, 0, 0) := rfl
theorem q198_32 : z_fi (z_mi 198) 32 = some (32, .iconst (-1), 0, 0, 0, (-1), 0) := rfl
theorem q198_33 : z_fi (z_mi 198) 33 = some (33, .ireturn, 0, 0, 0, 0, 0) := rfl
theorem q198_34 : z_fi (z_mi 198) 34 = some (34, .aload_n 0, 0, 0, 0, 0, 0) := rfl
theorem q198_35 : z_fi (z_mi 198) 35 = some (35, .iconst 0, 0, 0, 0, 0, 0) := rfl
theorem q198_36 : z_fi (z_mi 198) 36 = some (36, .sipush 440, 0, 0, 0, 440, 0) := rfl
theorem q198_39 : z_fi (z_mi 198) 39 = some (39, .invokevirtual 227, 0, 195, 2, 0, 0) := rfl
theorem q198_42 : z_fi (z_mi 198) 42 = some (42, .aload_n 0, 0, 0, 0, 0, 0) := rfl
theorem q198_43 : z_fi (z_mi 198) 43 = some (43, .sipush 440, 0, 0, 0, 440, 0) := rfl
theorem q198_46 : z_fi (z_mi 198) 46 = some (46, .iload_n 2, 0, 0, 0, 0, 0) := rfl
theorem q198_47 : z_fi (z_mi 198) 47 = some (47, .invokevirtual 224, 0, 194, 2, 0, 0) := rfl
theorem q198_50 : z_fi (z_mi 198) 50 = some (50, .aload_n 0, 0, 0, 0, 0, 0) := rfl
theorem q198_51 : z_fi (z_mi 198) 51 = some (51, .sipush 440, 0, 0, 0, 440, 0) := rfl
theorem q198_54 : z_fi (z_mi 198) 54 = some (54, .iload_n 1, 0, 0, 0, 0, 0) := rfl
theorem q198_55 : z_fi (z_mi 198) 55 = some (55, .iload_n 3, 0, 0, 0, 0, 0) := rfl
theorem q198_56 : z_fi (z_mi 198) 56 = some (56, .invokevirtual 171, 0, 171, 3, 0, 0) := rfl
theorem q198_59 : z_fi (z_mi 198) 59 = some (59, .ireturn, 0, 0, 0, 0, 0) := rfl
set_option maxRecDepth 20000 in
set_option maxHeartbeats 4000000 in
theorem t_M_ahead {xL : Nat} {xs : Nat → Int32} {ρ : Nat → Nat → Option Nat} (hρ : z_hR ρ) (d : Nat) (a1 : Int32) (a2 : Int32) (a3 : Int32) (σ : zS) : ∀ q, f_M_ahead a1 a2 a3 σ = some q → z_ec xL xs ρ (d + 4) 198 [.ref 90, .int a1, .int a2, .int a3] σ (em_i q) := by
  refine j_of (W := [.ref 90, .int a1, .int a2, .int a3]) (fun L hL => ?_) ?_
  · subst hL; exact z_vl_0 _ 0 rfl
  · unfold f_M_ahead
    refine j_aload_n (pc' := 1) q198_0 rfl (by decide) rfl ?_
    refine j_iload_n (pc' := 2) q198_1 rfl rfl ?_
    refine j_callV1_pi (d := d + 3) (pc' := 5) q198_2 rfl (Nat.le_of_ble_eq_true rfl) (Nat.le_of_ble_eq_true rfl) rfl (t_M_isCell hρ (d + 2) _ _) (fun r1 => ?_)
    refine j_if_eq (pc' := 8) q198_5 rfl (fun c2 => ?_) (fun c2 => ?_)
    · refine j_iconst (pc' := 33) q198_32 rfl ?_
      exact j_iret q198_33 rfl
    · refine j_iload_n (pc' := 9) q198_8 rfl rfl ?_
      refine j_i2l (pc' := 10) q198_9 rfl ?_
      refine j_lconst (pc' := 11) q198_10 rfl ?_
      refine j_ldc2 (pc' := 14) q198_11 rfl ?_
      refine j_callS3_pi (d := d + 3) (pc' := 17) q198_14 (Or.inl rfl) (Nat.le_of_ble_eq_true rfl) (Nat.le_of_ble_eq_true rfl) rfl (t_M_in hρ (d + 3) _ _ _ _) (fun r3 => ?_)
      refine j_if_eq (pc' := 20) q198_17 rfl (fun c4 => ?_) (fun c4 => ?_)
      · refine j_iconst (pc' := 33) q198_32 rfl ?_
        exact j_iret q198_33 rfl
      · refine j_iload_n (pc' := 21) q198_20 rfl rfl ?_
        refine j_i2l (pc' := 22) q198_21 rfl ?_
        refine j_lconst (pc' := 23) q198_22 rfl ?_
        refine j_ldc2 (pc' := 26) q198_23 rfl ?_
        refine j_callS3_pi (d := d + 3) (pc' := 29) q198_26 (Or.inl rfl) (Nat.le_of_ble_eq_true rfl) (Nat.le_of_ble_eq_true rfl) rfl (t_M_in hρ (d + 3) _ _ _ _) (fun r5 => ?_)
        refine j_if_ne (pc' := 32) q198_29 rfl (fun c6 => ?_) (fun c6 => ?_)
        · refine j_iconst (pc' := 33) q198_32 rfl ?_
          exact j_iret q198_33 rfl
        · refine j_aload_n (pc' := 35) q198_34 rfl (by decide) rfl ?_
          refine j_iconst (pc' := 36) q198_35 rfl ?_
          refine j_sipush (pc' := 39) q198_36 rfl ?_
          refine j_callV2_v (d := d + 3) (pc' := 42) q198_39 rfl (Nat.le_of_ble_eq_true rfl) (Nat.le_of_ble_eq_true rfl) rfl (t_M_copies hρ (d + 3) _ _ _) (fun r7 => ?_)
          refine j_aload_n (pc' := 43) q198_42 rfl (by decide) rfl ?_
          refine j_sipush (pc' := 46) q198_43 rfl ?_
          refine j_iload_n (pc' := 47) q198_46 rfl rfl ?_
          refine j_callV2_v (d := d + 3) (pc' := 50) q198_47 rfl (Nat.le_of_ble_eq_true rfl) (Nat.le_of_ble_eq_true rfl) rfl (t_M_weeks hρ (d + 0) _ _ _) (fun r8 => ?_)
          refine j_aload_n (pc' := 51) q198_50 rfl (by decide) rfl ?_
          refine j_sipush (pc' := 54) q198_51 rfl ?_
          refine j_iload_n (pc' := 55) q198_54 rfl rfl ?_
          refine j_iload_n (pc' := 56) q198_55 rfl rfl ?_
          refine j_callV3_pi (d := d + 3) (pc' := 59) q198_56 rfl (Nat.le_of_ble_eq_true rfl) (Nat.le_of_ble_eq_true rfl) rfl (t_M_asked hρ (d + 2) _ _ _ _) (fun r9 => ?_)
          exact j_iret q198_59 rfl
theorem q25_0 : z_fi (z_mi 25) 0 = some (0, .aload_n 0, 0, 0, 0, 0, 0) := rfl
theorem q25_1 : z_fi (z_mi 25) 1 = some (1, .invokevirtual 137, 0, 21, 0, 0, 0) := rfl
theorem q25_4 : z_fi (z_mi 25) 4 = some (4, .iconst 0, 0, 0, 0, 0, 0) := rfl
theorem q25_5 : z_fi (z_mi 25) 5 = some (5, .istore_n 1, 0, 0, 0, 0, 0) := rfl
theorem q25_6 : z_fi (z_mi 25) 6 = some (6, .iconst 0, 0, 0, 0, 0, 0) := rfl
theorem q25_7 : z_fi (z_mi 25) 7 = some (7, .istore_n 2, 0, 0, 0, 0, 0) := rfl
theorem q25_8 : z_fi (z_mi 25) 8 = some (8, .iload_n 2, 0, 0, 0, 0, 0) := rfl
theorem q25_9 : z_fi (z_mi 25) 9 = some (9, .aload_n 0, 0, 0, 0, 0, 0) := rfl
theorem q25_10 : z_fi (z_mi 25) 10 = some (10, .invokevirtual 95, 0, 7, 0, 0, 0) := rfl
theorem q25_13 : z_fi (z_mi 25) 13 = some (13, .if_icmp .ge 25, 0, 38, 0, 0, 0) := rfl
theorem q25_16 : z_fi (z_mi 25) 16 = some (16, .aload_n 0, 0, 0, 0, 0, 0) := rfl
theorem q25_17 : z_fi (z_mi 25) 17 = some (17, .iload_n 2, 0, 0, 0, 0, 0) := rfl
theorem q25_18 : z_fi (z_mi 25) 18 = some (18, .invokevirtual 140, 0, 22, 1, 0, 0) := rfl
theorem q25_21 : z_fi (z_mi 25) 21 = some (21, .bipush (-4), 0, 0, 0, (-4), 0) := rfl
theorem q25_23 : z_fi (z_mi 25) 23 = some (23, .if_icmp .eq 9, 0, 32, 0, 0, 0) := rfl
theorem q25_26 : z_fi (z_mi 25) 26 = some (26, .iload_n 1, 0, 0, 0, 0, 0) := rfl
theorem q25_27 : z_fi (z_mi 25) 27 = some (27, .iconst 1, 0, 0, 0, 1, 0) := rfl
theorem q25_28 : z_fi (z_mi 25) 28 = some (28, .iload_n 2, 0, 0, 0, 0, 0) := rfl
theorem q25_29 : z_fi (z_mi 25) 29 = some (29, .ishl, 0, 0, 0, 0, 0) := rfl
theorem q25_30 : z_fi (z_mi 25) 30 = some (30, .ior, 0, 0, 0, 0, 0) := rfl
theorem q25_31 : z_fi (z_mi 25) 31 = some (31, .istore_n 1, 0, 0, 0, 0, 0) := rfl
theorem q25_32 : z_fi (z_mi 25) 32 = some (32, .iinc 2 1, 0, 0, 0, 1, 0) := rfl
theorem q25_35 : z_fi (z_mi 25) 35 = some (35, .goto (-27), 0, 8, 0, 0, 0) := rfl
theorem q25_38 : z_fi (z_mi 25) 38 = some (38, .iload_n 1, 0, 0, 0, 0, 0) := rfl
theorem q25_39 : z_fi (z_mi 25) 39 = some (39, .ireturn, 0, 0, 0, 0, 0) := rfl
set_option maxRecDepth 20000 in
set_option maxHeartbeats 4000000 in
theorem t_G_fittedCells_1 {xL : Nat} {xs : Nat → Int32} {ρ : Nat → Nat → Option Nat} (hρ : z_hR ρ) (d : Nat)  (σ : zS) : ∀ q, f_G_fittedCells_1  σ = some q → z_ec xL xs ρ (d + 5) 25 [.ref 1] σ (em_i q) := by
  refine j_of (W := [.ref 1, .null, .null]) (fun L hL => ?_) ?_
  · subst hL; exact z_vl_0 _ 2 rfl
  · unfold f_G_fittedCells_1
    refine j_aload_n (pc' := 1) q25_0 rfl (by decide) rfl ?_
    refine j_callV0_v (d := d + 4) (pc' := 4) q25_1 rfl (Nat.le_of_ble_eq_true rfl) (Nat.le_of_ble_eq_true rfl) rfl (t_G_notePlaces_1 hρ (d + 3) _) (fun r1 => ?_)
    refine j_iconst (pc' := 5) q25_4 rfl ?_
    refine j_istore1 (pc' := 6) q25_5 rfl (Nat.le_of_ble_eq_true rfl) rfl ?_
    refine j_iconst (pc' := 7) q25_6 rfl ?_
    refine j_istore2 (pc' := 8) q25_7 rfl (Nat.le_of_ble_eq_true rfl) rfl ?_
    refine j_forget (V' := [.ref 1, .int (0 : Int32), .int (0 : Int32)]) (z_le_s (z_le_s (z_le_s (z_le_nil)))) ?_
    refine j_loopX (S := Int32 × Int32) (E := Int32) (fun e => e) 38 (fun s2 => [.ref 1, .int s2.1, .int s2.2]) (fun s2 => r1) (fun b2 => [.null, .int b2, .null]) (fun b2 => r1) (fun b2 => ?_) (fun R2 hR2 hX2 s2 => ?_) ((0 : Int32), (0 : Int32))
    · show z_J _ _ _ _ _ _ _ _ _ _ _ _
      refine j_iload_n (pc' := 39) q25_38 rfl rfl ?_
      exact j_iret q25_39 rfl
    · show z_J _ _ _ _ _ _ _ _ _ _ _ _
      refine j_iload_n (pc' := 9) q25_8 rfl rfl ?_
      refine j_aload_n (pc' := 10) q25_9 rfl (by decide) rfl ?_
      refine j_callV0_pi (d := d + 4) (pc' := 13) q25_10 rfl (Nat.le_of_ble_eq_true rfl) (Nat.le_of_ble_eq_true rfl) rfl (t_G_cells_1 hρ (d + 4) _) (fun r3 => ?_)
      refine j_icmp_ge (pc' := 16) q25_13 rfl (fun c4 => ?_) (fun c4 => ?_)
      · exact j_exit (j_forget (z_le_n (z_le_s (z_le_n (z_le_nil)))) (hX2 s2.1))
      · refine j_aload_n (pc' := 17) q25_16 rfl (by decide) rfl ?_
        refine j_iload_n (pc' := 18) q25_17 rfl rfl ?_
        refine j_callV1_pi (d := d + 4) (pc' := 21) q25_18 rfl (Nat.le_of_ble_eq_true rfl) (Nat.le_of_ble_eq_true rfl) rfl (t_G_firstFitting_1 hρ (d + 0) _ _) (fun r5 => ?_)
        refine j_bipush (pc' := 23) q25_21 rfl ?_
        refine j_join (T := Int32) 32 (fun t6 => [.ref 1, .int t6, .int s2.2]) (fun t6 => []) (fun t6 => r1) (fun t6 => ?_) (fun j6 hj6 => ?_)
        · show z_J _ _ _ _ _ _ _ _ _ _ _ _
          refine j_iinc2 (pc' := 35) q25_32 rfl (Nat.le_of_ble_eq_true rfl) rfl ?_
          refine j_goto q25_35 rfl ?_
          exact j_again (j_forget (z_le_s (z_le_s (z_le_s (z_le_nil)))) (hR2 (t6, (s2.2 + (1 : Int32)))))
        · show z_J _ _ _ _ _ _ _ _ _ _ _ _
          refine j_icmp_eq (pc' := 26) q25_23 rfl (fun c7 => ?_) (fun c7 => ?_)
          · refine j_forget (z_le_s (z_le_s (z_le_s (z_le_nil)))) (hj6 s2.1)
          · refine j_iload_n (pc' := 27) q25_26 rfl rfl ?_
            refine j_iconst (pc' := 28) q25_27 rfl ?_
            refine j_iload_n (pc' := 29) q25_28 rfl rfl ?_
            refine j_ishl (pc' := 30) q25_29 rfl ?_
            refine j_ior (pc' := 31) q25_30 rfl ?_
            refine j_nameI (fun v8 => ?_)
            refine j_istore1 (pc' := 32) q25_31 rfl (Nat.le_of_ble_eq_true rfl) rfl ?_
            refine j_forget (z_le_s (z_le_s (z_le_s (z_le_nil)))) (hj6 v8)
theorem q122_0 : z_fi (z_mi 122) 0 = some (0, .aload_n 0, 0, 0, 0, 0, 0) := rfl
theorem q122_1 : z_fi (z_mi 122) 1 = some (1, .getfield 10, 0, 9, 0, 0, 0) := rfl
theorem q122_4 : z_fi (z_mi 122) 4 = some (4, .invokevirtual 199, 0, 25, 0, 0, 0) := rfl
theorem q122_7 : z_fi (z_mi 122) 7 = some (7, .ireturn, 0, 0, 0, 0, 0) := rfl
set_option maxRecDepth 20000 in
set_option maxHeartbeats 4000000 in
theorem t_Y_spreads {xL : Nat} {xs : Nat → Int32} {ρ : Nat → Nat → Option Nat} (hρ : z_hR ρ) (d : Nat)  (σ : zS) : ∀ q, f_Y_spreads  σ = some q → z_ec xL xs ρ (d + 6) 122 [.ref 0] σ (em_i q) := by
  refine j_of (W := [.ref 0]) (fun L hL => ?_) ?_
  · subst hL; exact z_vl_0 _ 0 rfl
  · unfold f_Y_spreads
    refine j_aload_n (pc' := 1) q122_0 rfl (by decide) rfl ?_
    refine j_getr (k := 0) (q := 1) (pc' := 4) q122_1 rfl (hρ 0 0 1 rfl) rfl ?_
    refine j_callV0_i (d := d + 5) (pc' := 7) q122_4 rfl (Nat.le_of_ble_eq_true rfl) (Nat.le_of_ble_eq_true rfl) rfl (t_G_fittedCells_1 hρ (d + 0) _) (fun r1 => ?_)
    exact j_iret q122_7 rfl
theorem q199_0 : z_fi (z_mi 199) 0 = some (0, .iconst 0, 0, 0, 0, 0, 0) := rfl
theorem q199_1 : z_fi (z_mi 199) 1 = some (1, .istore_n 1, 0, 0, 0, 0, 0) := rfl
theorem q199_2 : z_fi (z_mi 199) 2 = some (2, .iconst 0, 0, 0, 0, 0, 0) := rfl
theorem q199_3 : z_fi (z_mi 199) 3 = some (3, .istore_n 2, 0, 0, 0, 0, 0) := rfl
theorem q199_4 : z_fi (z_mi 199) 4 = some (4, .iload_n 2, 0, 0, 0, 0, 0) := rfl
theorem q199_5 : z_fi (z_mi 199) 5 = some (5, .aload_n 0, 0, 0, 0, 0, 0) := rfl
theorem q199_6 : z_fi (z_mi 199) 6 = some (6, .getfield 13, 0, 10, 1, 0, 0) := rfl
theorem q199_9 : z_fi (z_mi 199) 9 = some (9, .aload_n 0, 0, 0, 0, 0, 0) := rfl
theorem q199_10 : z_fi (z_mi 199) 10 = some (10, .getfield 17, 0, 10, 2, 0, 0) := rfl
theorem q199_13 : z_fi (z_mi 199) 13 = some (13, .imul, 0, 0, 0, 0, 0) := rfl
theorem q199_14 : z_fi (z_mi 199) 14 = some (14, .if_icmp .ge 30, 0, 44, 0, 0, 0) := rfl
theorem q199_17 : z_fi (z_mi 199) 17 = some (17, .iload_n 1, 0, 0, 0, 0, 0) := rfl
theorem q199_18 : z_fi (z_mi 199) 18 = some (18, .aload_n 0, 0, 0, 0, 0, 0) := rfl
theorem q199_19 : z_fi (z_mi 199) 19 = some (19, .iconst 0, 0, 0, 0, 0, 0) := rfl
theorem q199_20 : z_fi (z_mi 199) 20 = some (20, .iload_n 2, 0, 0, 0, 0, 0) := rfl
theorem q199_21 : z_fi (z_mi 199) 21 = some (21, .invokevirtual 212, 0, 191, 2, 0, 0) := rfl
theorem q199_24 : z_fi (z_mi 199) 24 = some (24, .bipush (-4), 0, 0, 0, (-4), 0) := rfl
theorem q199_26 : z_fi (z_mi 199) 26 = some (26, .if_icmp .eq 9, 0, 35, 0, 0, 0) := rfl
theorem q199_29 : z_fi (z_mi 199) 29 = some (29, .iconst 1, 0, 0, 0, 1, 0) := rfl
theorem q199_30 : z_fi (z_mi 199) 30 = some (30, .iload_n 2, 0, 0, 0, 0, 0) := rfl
theorem q199_31 : z_fi (z_mi 199) 31 = some (31, .ishl, 0, 0, 0, 0, 0) := rfl
theorem q199_32 : z_fi (z_mi 199) 32 = some (32, .goto 4, 0, 36, 0, 0, 0) := rfl
theorem q199_35 : z_fi (z_mi 199) 35 = some (35, .iconst 0, 0, 0, 0, 0, 0) := rfl
theorem q199_36 : z_fi (z_mi 199) 36 = some (36, .ior, 0, 0, 0, 0, 0) := rfl
theorem q199_37 : z_fi (z_mi 199) 37 = some (37, .istore_n 1, 0, 0, 0, 0, 0) := rfl
theorem q199_38 : z_fi (z_mi 199) 38 = some (38, .iinc 2 1, 0, 0, 0, 1, 0) := rfl
theorem q199_41 : z_fi (z_mi 199) 41 = some (41, .goto (-37), 0, 4, 0, 0, 0) := rfl
theorem q199_44 : z_fi (z_mi 199) 44 = some (44, .iload_n 1, 0, 0, 0, 0, 0) := rfl
theorem q199_45 : z_fi (z_mi 199) 45 = some (45, .ireturn, 0, 0, 0, 0, 0) := rfl
set_option maxRecDepth 20000 in
set_option maxHeartbeats 4000000 in
theorem t_M_spreads {xL : Nat} {xs : Nat → Int32} {ρ : Nat → Nat → Option Nat} (hρ : z_hR ρ) (d : Nat)  (σ : zS) : ∀ q, f_M_spreads  σ = some q → z_ec xL xs ρ (d + 3) 199 [.ref 90] σ (em_pi σ q) := by
  refine j_of (W := [.ref 90, .null, .null]) (fun L hL => ?_) ?_
  · subst hL; exact z_vl_0 _ 2 rfl
  · unfold f_M_spreads
    refine j_iconst (pc' := 1) q199_0 rfl ?_
    refine j_istore1 (pc' := 2) q199_1 rfl (Nat.le_of_ble_eq_true rfl) rfl ?_
    refine j_iconst (pc' := 3) q199_2 rfl ?_
    refine j_istore2 (pc' := 4) q199_3 rfl (Nat.le_of_ble_eq_true rfl) rfl ?_
    refine j_forget (V' := [.ref 90, .int (0 : Int32), .int (0 : Int32)]) (z_le_s (z_le_s (z_le_s (z_le_nil)))) ?_
    refine j_loopX (S := Int32 × Int32) (E := Int32) (fun e => e) 44 (fun s1 => [.ref 90, .int s1.1, .int s1.2]) (fun s1 => σ) (fun b1 => [.null, .int b1, .null]) (fun b1 => σ) (fun b1 => ?_) (fun R1 hR1 hX1 s1 => ?_) ((0 : Int32), (0 : Int32))
    · show z_J _ _ _ _ _ _ _ _ _ _ _ _
      refine j_iload_n (pc' := 45) q199_44 rfl rfl ?_
      exact j_piret q199_45 rfl
    · show z_J _ _ _ _ _ _ _ _ _ _ _ _
      refine j_iload_n (pc' := 5) q199_4 rfl rfl ?_
      refine j_aload_n (pc' := 6) q199_5 rfl (by decide) rfl ?_
      refine j_getf (k := 90) (pc' := 9) q199_6 rfl rfl ?_
      refine j_aload_n (pc' := 10) q199_9 rfl (by decide) rfl ?_
      refine j_getf (k := 90) (pc' := 13) q199_10 rfl rfl ?_
      refine j_imul (pc' := 14) q199_13 rfl ?_
      refine j_icmp_ge (pc' := 17) q199_14 rfl (fun c2 => ?_) (fun c2 => ?_)
      · exact j_exit (j_forget (z_le_n (z_le_s (z_le_n (z_le_nil)))) (hX1 s1.1))
      · refine j_iload_n (pc' := 18) q199_17 rfl rfl ?_
        refine j_aload_n (pc' := 19) q199_18 rfl (by decide) rfl ?_
        refine j_iconst (pc' := 20) q199_19 rfl ?_
        refine j_iload_n (pc' := 21) q199_20 rfl rfl ?_
        refine j_callV2_pi (d := d + 2) (pc' := 24) q199_21 rfl (Nat.le_of_ble_eq_true rfl) (Nat.le_of_ble_eq_true rfl) rfl (t_M_fitting hρ (d + 0) _ _ _) (fun r3 => ?_)
        refine j_bipush (pc' := 26) q199_24 rfl ?_
        refine j_join (T := Int32 × Int32) 36 (fun t4 => [.ref 90, .null, .int s1.2]) (fun t4 => [.int t4.1, .int t4.2]) (fun t4 => σ) (fun t4 => ?_) (fun j4 hj4 => ?_)
        · show z_J _ _ _ _ _ _ _ _ _ _ _ _
          refine j_ior (pc' := 37) q199_36 rfl ?_
          refine j_istore1 (pc' := 38) q199_37 rfl (Nat.le_of_ble_eq_true rfl) rfl ?_
          refine j_iinc2 (pc' := 41) q199_38 rfl (Nat.le_of_ble_eq_true rfl) rfl ?_
          refine j_goto q199_41 rfl ?_
          exact j_again (j_forget (z_le_s (z_le_s (z_le_s (z_le_nil)))) (hR1 ((t4.2 ||| t4.1), (s1.2 + (1 : Int32)))))
        · show z_J _ _ _ _ _ _ _ _ _ _ _ _
          refine j_icmp_eq (pc' := 29) q199_26 rfl (fun c5 => ?_) (fun c5 => ?_)
          · refine j_iconst (pc' := 36) q199_35 rfl ?_
            refine j_forget (z_le_s (z_le_n (z_le_s (z_le_nil)))) (hj4 ((0 : Int32), s1.1))
          · refine j_iconst (pc' := 30) q199_29 rfl ?_
            refine j_iload_n (pc' := 31) q199_30 rfl rfl ?_
            refine j_ishl (pc' := 32) q199_31 rfl ?_
            refine j_goto q199_32 rfl ?_
            refine j_forget (z_le_s (z_le_n (z_le_s (z_le_nil)))) (hj4 (((1 : Int32) <<< (s1.2 &&& 31)), s1.1))
set_option maxRecDepth 20000 in
set_option maxHeartbeats 4000000 in
theorem t_G_ripeOfAll_17 {xL : Nat} {xs : Nat → Int32} {ρ : Nat → Nat → Option Nat} (hρ : z_hR ρ) (d : Nat)  (σ : zS) : ∀ q, f_G_ripeOfAll_17  σ = some q → z_ec xL xs ρ (d + 0) 30 [.ref 17] σ (em_pi σ q) := by
  refine j_of (W := [.ref 17, .null, .null]) (fun L hL => ?_) ?_
  · subst hL; exact z_vl_0 _ 2 rfl
  · unfold f_G_ripeOfAll_17
    refine j_iconst (pc' := 1) q30_0 rfl ?_
    refine j_istore1 (pc' := 2) q30_1 rfl (Nat.le_of_ble_eq_true rfl) rfl ?_
    refine j_iconst (pc' := 3) q30_2 rfl ?_
    refine j_istore2 (pc' := 4) q30_3 rfl (Nat.le_of_ble_eq_true rfl) rfl ?_
    refine j_forget (V' := [.ref 17, .int (0 : Int32), .int (0 : Int32)]) (z_le_s (z_le_s (z_le_s (z_le_nil)))) ?_
    refine j_loopX (S := Int32 × Int32) (E := Int32) (fun e => e) 24 (fun s1 => [.ref 17, .int s1.1, .int s1.2]) (fun s1 => σ) (fun b1 => [.null, .int b1, .null]) (fun b1 => σ) (fun b1 => ?_) (fun R1 hR1 hX1 s1 => ?_) ((0 : Int32), (0 : Int32))
    · show z_J _ _ _ _ _ _ _ _ _ _ _ _
      refine j_iload_n (pc' := 25) q30_24 rfl rfl ?_
      exact j_piret q30_25 rfl
    · show z_J _ _ _ _ _ _ _ _ _ _ _ _
      refine j_iload_n (pc' := 5) q30_4 rfl rfl ?_
      refine j_iconst (pc' := 6) q30_5 rfl ?_
      refine j_icmp_ge (pc' := 9) q30_6 rfl (fun c2 => ?_) (fun c2 => ?_)
      · exact j_exit (j_forget (z_le_n (z_le_s (z_le_n (z_le_nil)))) (hX1 s1.1))
      · refine j_iload_n (pc' := 10) q30_9 rfl rfl ?_
        refine j_aload_n (pc' := 11) q30_10 rfl (by decide) rfl ?_
        refine j_getr (k := 17) (q := 30) (pc' := 14) q30_11 rfl (hρ 17 11 30 rfl) rfl ?_
        refine j_iload_n (pc' := 15) q30_14 rfl rfl ?_
        refine j_if (fun hi3 => ?_) (fun _ => j_none)
        refine j_iald (k := 30) (N := 3) (pc' := 16) q30_15 rfl hi3 rfl ?_
        refine j_iadd (pc' := 17) q30_16 rfl ?_
        refine j_nameI (fun v4 => ?_)
        refine j_istore1 (pc' := 18) q30_17 rfl (Nat.le_of_ble_eq_true rfl) rfl ?_
        refine j_iinc2 (pc' := 21) q30_18 rfl (Nat.le_of_ble_eq_true rfl) rfl ?_
        refine j_goto q30_21 rfl ?_
        exact j_again (j_forget (z_le_s (z_le_s (z_le_s (z_le_nil)))) (hR1 (v4, (s1.2 + (1 : Int32)))))
theorem q126_0 : z_fi (z_mi 126) 0 = some (0, .aload_n 0, 0, 0, 0, 0, 0) := rfl
theorem q126_1 : z_fi (z_mi 126) 1 = some (1, .getfield 16, 0, 9, 1, 0, 0) := rfl
theorem q126_4 : z_fi (z_mi 126) 4 = some (4, .invokevirtual 192, 0, 30, 0, 0, 0) := rfl
theorem q126_7 : z_fi (z_mi 126) 7 = some (7, .aload_n 0, 0, 0, 0, 0, 0) := rfl
theorem q126_8 : z_fi (z_mi 126) 8 = some (8, .getfield 10, 0, 9, 0, 0, 0) := rfl
theorem q126_11 : z_fi (z_mi 126) 11 = some (11, .invokevirtual 192, 0, 30, 0, 0, 0) := rfl
theorem q126_14 : z_fi (z_mi 126) 14 = some (14, .isub, 0, 0, 0, 0, 0) := rfl
theorem q126_15 : z_fi (z_mi 126) 15 = some (15, .ireturn, 0, 0, 0, 0, 0) := rfl
set_option maxRecDepth 20000 in
set_option maxHeartbeats 4000000 in
theorem t_Y_ripeInTrial {xL : Nat} {xs : Nat → Int32} {ρ : Nat → Nat → Option Nat} (hρ : z_hR ρ) (d : Nat)  (σ : zS) : ∀ q, f_Y_ripeInTrial  σ = some q → z_ec xL xs ρ (d + 1) 126 [.ref 0] σ (em_pi σ q) := by
  refine j_of (W := [.ref 0]) (fun L hL => ?_) ?_
  · subst hL; exact z_vl_0 _ 0 rfl
  · unfold f_Y_ripeInTrial
    refine j_aload_n (pc' := 1) q126_0 rfl (by decide) rfl ?_
    refine j_getr (k := 0) (q := 17) (pc' := 4) q126_1 rfl (hρ 0 1 17 rfl) rfl ?_
    refine j_callV0_pi (d := d + 0) (pc' := 7) q126_4 rfl (Nat.le_of_ble_eq_true rfl) (Nat.le_of_ble_eq_true rfl) rfl (t_G_ripeOfAll_17 hρ (d + 0) _) (fun r1 => ?_)
    refine j_aload_n (pc' := 8) q126_7 rfl (by decide) rfl ?_
    refine j_getr (k := 0) (q := 1) (pc' := 11) q126_8 rfl (hρ 0 0 1 rfl) rfl ?_
    refine j_callV0_pi (d := d + 0) (pc' := 14) q126_11 rfl (Nat.le_of_ble_eq_true rfl) (Nat.le_of_ble_eq_true rfl) rfl (t_G_ripeOfAll_1 hρ (d + 0) _) (fun r2 => ?_)
    refine j_isub (pc' := 15) q126_14 rfl ?_
    exact j_piret q126_15 rfl
theorem q127_0 : z_fi (z_mi 127) 0 = some (0, .aload_n 0, 0, 0, 0, 0, 0) := rfl
theorem q127_1 : z_fi (z_mi 127) 1 = some (1, .getfield 16, 0, 9, 1, 0, 0) := rfl
theorem q127_4 : z_fi (z_mi 127) 4 = some (4, .getfield 123, 0, 0, 12, 0, 0) := rfl
theorem q127_7 : z_fi (z_mi 127) 7 = some (7, .aload_n 0, 0, 0, 0, 0, 0) := rfl
theorem q127_8 : z_fi (z_mi 127) 8 = some (8, .getfield 10, 0, 9, 0, 0, 0) := rfl
theorem q127_11 : z_fi (z_mi 127) 11 = some (11, .getfield 123, 0, 0, 12, 0, 0) := rfl
theorem q127_14 : z_fi (z_mi 127) 14 = some (14, .isub, 0, 0, 0, 0, 0) := rfl
theorem q127_15 : z_fi (z_mi 127) 15 = some (15, .ireturn, 0, 0, 0, 0, 0) := rfl
set_option maxRecDepth 20000 in
set_option maxHeartbeats 4000000 in
theorem t_Y_spoiledInTrial {xL : Nat} {xs : Nat → Int32} {ρ : Nat → Nat → Option Nat} (hρ : z_hR ρ) (d : Nat)  (σ : zS) : ∀ q, f_Y_spoiledInTrial  σ = some q → z_ec xL xs ρ (d + 0) 127 [.ref 0] σ (em_pi σ q) := by
  refine j_of (W := [.ref 0]) (fun L hL => ?_) ?_
  · subst hL; exact z_vl_0 _ 0 rfl
  · unfold f_Y_spoiledInTrial
    refine j_aload_n (pc' := 1) q127_0 rfl (by decide) rfl ?_
    refine j_getr (k := 0) (q := 17) (pc' := 4) q127_1 rfl (hρ 0 1 17 rfl) rfl ?_
    refine j_getf (k := 17) (pc' := 7) q127_4 rfl rfl ?_
    refine j_aload_n (pc' := 8) q127_7 rfl (by decide) rfl ?_
    refine j_getr (k := 0) (q := 1) (pc' := 11) q127_8 rfl (hρ 0 0 1 rfl) rfl ?_
    refine j_getf (k := 1) (pc' := 14) q127_11 rfl rfl ?_
    refine j_isub (pc' := 15) q127_14 rfl ?_
    exact j_piret q127_15 rfl
theorem q123_0 : z_fi (z_mi 123) 0 = some (0, .iload_n 1, 0, 0, 0, 0, 0) := rfl
theorem q123_1 : z_fi (z_mi 123) 1 = some (1, .iconst 0, 0, 0, 0, 0, 0) := rfl
theorem q123_2 : z_fi (z_mi 123) 2 = some (2, .bipush 60, 0, 0, 0, 60, 0) := rfl
theorem q123_4 : z_fi (z_mi 123) 4 = some (4, .invokestatic 60, 1, 99, 3, 0, 0) := rfl
theorem q123_7 : z_fi (z_mi 123) 7 = some (7, .ifCond .eq 12, 0, 19, 0, 0, 0) := rfl
theorem q123_10 : z_fi (z_mi 123) 10 = some (10, .iload_n 2, 0, 0, 0, 0, 0) := rfl
theorem q123_11 : z_fi (z_mi 123) 11 = some (11, .iconst 0, 0, 0, 0, 0, 0) := rfl
theorem q123_12 : z_fi (z_mi 123) 12 = some (12, .iconst 1, 0, 0, 0, 1, 0) := rfl
theorem q123_13 : z_fi (z_mi 123) 13 = some (13, .invokestatic 60, 1, 99, 3, 0, 0) := rfl
theorem q123_16 : z_fi (z_mi 123) 16 = some (16, .ifCond .ne 5, 0, 21, 0, 0, 0) := rfl
theorem q123_19 : z_fi (z_mi 123) 19 = some (19, .iconst (-1), 0, 0, 0, (-1), 0) := rfl
theorem q123_20 : z_fi (z_mi 123) 20 = some (20, .ireturn, 0, 0, 0, 0, 0) := rfl
theorem q123_21 : z_fi (z_mi 123) 21 = some (21, .aload_n 0, 0, 0, 0, 0, 0) := rfl
theorem q123_22 : z_fi (z_mi 123) 22 = some (22, .getfield 16, 0, 9, 1, 0, 0) := rfl
theorem q123_25 : z_fi (z_mi 123) 25 = some (25, .aload_n 0, 0, 0, 0, 0, 0) := rfl
theorem q123_26 : z_fi (z_mi 123) 26 = some (26, .getfield 10, 0, 9, 0, 0, 0) := rfl
theorem q123_29 : z_fi (z_mi 123) 29 = some (29, .invokevirtual 85, 0, 6, 1, 0, 0) := rfl
theorem q123_32 : z_fi (z_mi 123) 32 = some (32, .aload_n 0, 0, 0, 0, 0, 0) := rfl
theorem q123_33 : z_fi (z_mi 123) 33 = some (33, .getfield 16, 0, 9, 1, 0, 0) := rfl
theorem q123_36 : z_fi (z_mi 123) 36 = some (36, .iload_n 1, 0, 0, 0, 0, 0) := rfl
theorem q123_37 : z_fi (z_mi 123) 37 = some (37, .invokevirtual 196, 0, 19, 1, 0, 0) := rfl
theorem q123_40 : z_fi (z_mi 123) 40 = some (40, .iload_n 2, 0, 0, 0, 0, 0) := rfl
theorem q123_41 : z_fi (z_mi 123) 41 = some (41, .ifCond .ne 10, 0, 51, 0, 0, 0) := rfl
theorem q123_44 : z_fi (z_mi 123) 44 = some (44, .aload_n 0, 0, 0, 0, 0, 0) := rfl
theorem q123_45 : z_fi (z_mi 123) 45 = some (45, .invokevirtual 202, 0, 126, 0, 0, 0) := rfl
theorem q123_48 : z_fi (z_mi 123) 48 = some (48, .goto 7, 0, 55, 0, 0, 0) := rfl
theorem q123_51 : z_fi (z_mi 123) 51 = some (51, .aload_n 0, 0, 0, 0, 0, 0) := rfl
theorem q123_52 : z_fi (z_mi 123) 52 = some (52, .invokevirtual 205, 0, 127, 0, 0, 0) := rfl
theorem q123_55 : z_fi (z_mi 123) 55 = some (55, .ireturn, 0, 0, 0, 0, 0) := rfl
set_option maxRecDepth 20000 in
set_option maxHeartbeats 4000000 in
theorem t_Y_comes {xL : Nat} {xs : Nat → Int32} {ρ : Nat → Nat → Option Nat} (hρ : z_hR ρ) (d : Nat) (a1 : Int32) (a2 : Int32) (σ : zS) : ∀ q, f_Y_comes a1 a2 σ = some q → z_ec xL xs ρ (d + 7) 123 [.ref 0, .int a1, .int a2] σ (em_i q) := by
  refine j_of (W := [.ref 0, .int a1, .int a2]) (fun L hL => ?_) ?_
  · subst hL; exact z_vl_0 _ 0 rfl
  · unfold f_Y_comes
    refine j_iload_n (pc' := 1) q123_0 rfl rfl ?_
    refine j_iconst (pc' := 2) q123_1 rfl ?_
    refine j_bipush (pc' := 4) q123_2 rfl ?_
    refine j_callS3_pi (d := d + 6) (pc' := 7) q123_4 (Or.inl rfl) (Nat.le_of_ble_eq_true rfl) (Nat.le_of_ble_eq_true rfl) rfl (t_Y_isIn hρ (d + 6) _ _ _ _) (fun r1 => ?_)
    refine j_if_eq (pc' := 10) q123_7 rfl (fun c2 => ?_) (fun c2 => ?_)
    · refine j_iconst (pc' := 20) q123_19 rfl ?_
      exact j_iret q123_20 rfl
    · refine j_iload_n (pc' := 11) q123_10 rfl rfl ?_
      refine j_iconst (pc' := 12) q123_11 rfl ?_
      refine j_iconst (pc' := 13) q123_12 rfl ?_
      refine j_callS3_pi (d := d + 6) (pc' := 16) q123_13 (Or.inl rfl) (Nat.le_of_ble_eq_true rfl) (Nat.le_of_ble_eq_true rfl) rfl (t_Y_isIn hρ (d + 6) _ _ _ _) (fun r3 => ?_)
      refine j_if_ne (pc' := 19) q123_16 rfl (fun c4 => ?_) (fun c4 => ?_)
      · refine j_iconst (pc' := 20) q123_19 rfl ?_
        exact j_iret q123_20 rfl
      · refine j_aload_n (pc' := 22) q123_21 rfl (by decide) rfl ?_
        refine j_getr (k := 0) (q := 17) (pc' := 25) q123_22 rfl (hρ 0 1 17 rfl) rfl ?_
        refine j_aload_n (pc' := 26) q123_25 rfl (by decide) rfl ?_
        refine j_getr (k := 0) (q := 1) (pc' := 29) q123_26 rfl (hρ 0 0 1 rfl) rfl ?_
        refine j_callV1_v (d := d + 6) (pc' := 32) q123_29 rfl (Nat.le_of_ble_eq_true rfl) (Nat.le_of_ble_eq_true rfl) rfl (t_G_copyFrom_17_1 hρ (d + 5) _) (fun r5 => ?_)
        refine j_aload_n (pc' := 33) q123_32 rfl (by decide) rfl ?_
        refine j_getr (k := 0) (q := 17) (pc' := 36) q123_33 rfl (hρ 0 1 17 rfl) rfl ?_
        refine j_iload_n (pc' := 37) q123_36 rfl rfl ?_
        refine j_callV1_v (d := d + 6) (pc' := 40) q123_37 rfl (Nat.le_of_ble_eq_true rfl) (Nat.le_of_ble_eq_true rfl) rfl (t_G_goOn_17 hρ (d + 0) _ _) (fun r6 => ?_)
        refine j_iload_n (pc' := 41) q123_40 rfl rfl ?_
        refine j_if_ne (pc' := 44) q123_41 rfl (fun c7 => ?_) (fun c7 => ?_)
        · refine j_aload_n (pc' := 45) q123_44 rfl (by decide) rfl ?_
          refine j_callV0_pi (d := d + 6) (pc' := 48) q123_45 rfl (Nat.le_of_ble_eq_true rfl) (Nat.le_of_ble_eq_true rfl) rfl (t_Y_ripeInTrial hρ (d + 5) _) (fun r8 => ?_)
          refine j_goto q123_48 rfl ?_
          exact j_iret q123_55 rfl
        · refine j_aload_n (pc' := 52) q123_51 rfl (by decide) rfl ?_
          refine j_callV0_pi (d := d + 6) (pc' := 55) q123_52 rfl (Nat.le_of_ble_eq_true rfl) (Nat.le_of_ble_eq_true rfl) rfl (t_Y_spoiledInTrial hρ (d + 6) _) (fun r9 => ?_)
          exact j_iret q123_55 rfl
theorem q200_0 : z_fi (z_mi 200) 0 = some (0, .aload_n 0, 0, 0, 0, 0, 0) := rfl
theorem q200_1 : z_fi (z_mi 200) 1 = some (1, .sipush 440, 0, 0, 0, 440, 0) := rfl
theorem q200_4 : z_fi (z_mi 200) 4 = some (4, .iload_n 1, 0, 0, 0, 0, 0) := rfl
theorem q200_5 : z_fi (z_mi 200) 5 = some (5, .invokevirtual 224, 0, 194, 2, 0, 0) := rfl
theorem q200_8 : z_fi (z_mi 200) 8 = some (8, .iload_n 2, 0, 0, 0, 0, 0) := rfl
theorem q200_9 : z_fi (z_mi 200) 9 = some (9, .ifCond .ne 19, 0, 28, 0, 0, 0) := rfl
theorem q200_12 : z_fi (z_mi 200) 12 = some (12, .aload_n 0, 0, 0, 0, 0, 0) := rfl
theorem q200_13 : z_fi (z_mi 200) 13 = some (13, .sipush 440, 0, 0, 0, 440, 0) := rfl
theorem q200_16 : z_fi (z_mi 200) 16 = some (16, .invokevirtual 221, 0, 196, 1, 0, 0) := rfl
theorem q200_19 : z_fi (z_mi 200) 19 = some (19, .aload_n 0, 0, 0, 0, 0, 0) := rfl
theorem q200_20 : z_fi (z_mi 200) 20 = some (20, .iconst 0, 0, 0, 0, 0, 0) := rfl
theorem q200_21 : z_fi (z_mi 200) 21 = some (21, .invokevirtual 221, 0, 196, 1, 0, 0) := rfl
theorem q200_24 : z_fi (z_mi 200) 24 = some (24, .isub, 0, 0, 0, 0, 0) := rfl
theorem q200_25 : z_fi (z_mi 200) 25 = some (25, .goto 19, 0, 44, 0, 0, 0) := rfl
theorem q200_28 : z_fi (z_mi 200) 28 = some (28, .aload_n 0, 0, 0, 0, 0, 0) := rfl
theorem q200_29 : z_fi (z_mi 200) 29 = some (29, .getfield 7, 0, 10, 0, 0, 0) := rfl
theorem q200_32 : z_fi (z_mi 200) 32 = some (32, .sipush 549, 0, 0, 0, 549, 0) := rfl
theorem q200_35 : z_fi (z_mi 200) 35 = some (35, .iaload, 0, 0, 0, 0, 0) := rfl
theorem q200_36 : z_fi (z_mi 200) 36 = some (36, .aload_n 0, 0, 0, 0, 0, 0) := rfl
theorem q200_37 : z_fi (z_mi 200) 37 = some (37, .getfield 7, 0, 10, 0, 0, 0) := rfl
theorem q200_40 : z_fi (z_mi 200) 40 = some (40, .bipush 109, 0, 0, 0, 109, 0) := rfl
theorem q200_42 : z_fi (z_mi 200) 42 = some (42, .iaload, 0, 0, 0, 0, 0) := rfl
theorem q200_43 : z_fi (z_mi 200) 43 = some (43, .isub, 0, 0, 0, 0, 0) := rfl
theorem q200_44 : z_fi (z_mi 200) 44 = some (44, .ireturn, 0, 0, 0, 0, 0) := rfl
set_option maxRecDepth 20000 in
set_option maxHeartbeats 4000000 in
theorem t_M_triedBy {xL : Nat} {xs : Nat → Int32} {ρ : Nat → Nat → Option Nat} (hρ : z_hR ρ) (d : Nat) (a1 : Int32) (a2 : Int32) (σ : zS) : ∀ q, f_M_triedBy a1 a2 σ = some q → z_ec xL xs ρ (d + 4) 200 [.ref 90, .int a1, .int a2] σ (em_i q) := by
  refine j_of (W := [.ref 90, .int a1, .int a2]) (fun L hL => ?_) ?_
  · subst hL; exact z_vl_0 _ 0 rfl
  · unfold f_M_triedBy
    refine j_aload_n (pc' := 1) q200_0 rfl (by decide) rfl ?_
    refine j_sipush (pc' := 4) q200_1 rfl ?_
    refine j_iload_n (pc' := 5) q200_4 rfl rfl ?_
    refine j_callV2_v (d := d + 3) (pc' := 8) q200_5 rfl (Nat.le_of_ble_eq_true rfl) (Nat.le_of_ble_eq_true rfl) rfl (t_M_weeks hρ (d + 0) _ _ _) (fun r1 => ?_)
    refine j_iload_n (pc' := 9) q200_8 rfl rfl ?_
    refine j_if_ne (pc' := 12) q200_9 rfl (fun c2 => ?_) (fun c2 => ?_)
    · refine j_aload_n (pc' := 13) q200_12 rfl (by decide) rfl ?_
      refine j_sipush (pc' := 16) q200_13 rfl ?_
      refine j_callV1_pi (d := d + 3) (pc' := 19) q200_16 rfl (Nat.le_of_ble_eq_true rfl) (Nat.le_of_ble_eq_true rfl) rfl (t_M_ripeOn hρ (d + 3) _ _) (fun r3 => ?_)
      refine j_aload_n (pc' := 20) q200_19 rfl (by decide) rfl ?_
      refine j_iconst (pc' := 21) q200_20 rfl ?_
      refine j_callV1_pi (d := d + 3) (pc' := 24) q200_21 rfl (Nat.le_of_ble_eq_true rfl) (Nat.le_of_ble_eq_true rfl) rfl (t_M_ripeOn hρ (d + 3) _ _) (fun r4 => ?_)
      refine j_isub (pc' := 25) q200_24 rfl ?_
      refine j_goto q200_25 rfl ?_
      exact j_iret q200_44 rfl
    · refine j_aload_n (pc' := 29) q200_28 rfl (by decide) rfl ?_
      refine j_getr (k := 90) (q := 91) (pc' := 32) q200_29 rfl (hρ 90 0 91 rfl) rfl ?_
      refine j_sipush (pc' := 35) q200_32 rfl ?_
      refine j_iald (k := 91) (N := 550) (pc' := 36) q200_35 rfl (by decide) rfl ?_
      refine j_aload_n (pc' := 37) q200_36 rfl (by decide) rfl ?_
      refine j_getr (k := 90) (q := 91) (pc' := 40) q200_37 rfl (hρ 90 0 91 rfl) rfl ?_
      refine j_bipush (pc' := 42) q200_40 rfl ?_
      refine j_iald (k := 91) (N := 550) (pc' := 43) q200_42 rfl (by decide) rfl ?_
      refine j_isub (pc' := 44) q200_43 rfl ?_
      exact j_iret q200_44 rfl
set_option maxRecDepth 8000 in
theorem q201_0 : z_fi (z_mi 201) 0 = some (0, .iload_n 1, 0, 0, 0, 0, 0) := rfl
set_option maxRecDepth 8000 in
theorem q201_1 : z_fi (z_mi 201) 1 = some (1, .i2l, 0, 0, 0, 0, 0) := rfl
set_option maxRecDepth 8000 in
theorem q201_2 : z_fi (z_mi 201) 2 = some (2, .lconst 0, 0, 0, 0, 0, 0) := rfl
set_option maxRecDepth 8000 in
theorem q201_3 : z_fi (z_mi 201) 3 = some (3, .ldc2_w 219, 0, 0, 0, 0, 60) := rfl
set_option maxRecDepth 8000 in
theorem q201_6 : z_fi (z_mi 201) 6 = some (6, .invokestatic 62, 1, 149, 3, 0, 0) := rfl
set_option maxRecDepth 8000 in
theorem q201_9 : z_fi (z_mi 201) 9 = some (9, .ifCond .eq 13, 0, 22, 0, 0, 0) := rfl
set_option maxRecDepth 8000 in
theorem q201_12 : z_fi (z_mi 201) 12 = some (12, .iload_n 2, 0, 0, 0, 0, 0) := rfl
set_option maxRecDepth 8000 in
theorem q201_13 : z_fi (z_mi 201) 13 = some (13, .i2l, 0, 0, 0, 0, 0) := rfl
set_option maxRecDepth 8000 in
theorem q201_14 : z_fi (z_mi 201) 14 = some (14, .lconst 0, 0, 0, 0, 0, 0) := rfl
set_option maxRecDepth 8000 in
theorem q201_15 : z_fi (z_mi 201) 15 = some (15, .lconst 1, 0, 0, 0, 0, 1) := rfl
set_option maxRecDepth 8000 in
theorem q201_16 : z_fi (z_mi 201) 16 = some (16, .invokestatic 62, 1, 149, 3, 0, 0) := rfl
set_option maxRecDepth 8000 in
theorem q201_19 : z_fi (z_mi 201) 19 = some (19, .ifCond .ne 5, 0, 24, 0, 0, 0) := rfl
set_option maxRecDepth 8000 in
theorem q201_22 : z_fi (z_mi 201) 22 = some (22, .iconst (-1), 0, 0, 0, (-1), 0) := rfl
set_option maxRecDepth 8000 in
theorem q201_23 : z_fi (z_mi 201) 23 = some (23, .ireturn, 0, 0, 0, 0, 0) := rfl
set_option maxRecDepth 8000 in
theorem q201_24 : z_fi (z_mi 201) 24 = some (24, .aload_n 0, 0, 0, 0, 0, 0) := rfl
set_option maxRecDepth 8000 in
theorem q201_25 : z_fi (z_mi 201) 25 = some (25, .iconst 0, 0, 0, 0, 0, 0) := rfl
set_option maxRecDepth 8000 in
theorem q201_26 : z_fi (z_mi 201) 26 = some (26, .sipush 440, 0, 0, 0, 440, 0) := rfl
set_option maxRecDepth 8000 in
theorem q201_29 : z_fi (z_mi 201) 29 = some (29, .invokevirtual 227, 0, 195, 2, 0, 0) := rfl
set_option maxRecDepth 8000 in
theorem q201_32 : z_fi (z_mi 201) 32 = some (32, .aload_n 0, 0, 0, 0, 0, 0) := rfl
set_option maxRecDepth 8000 in
theorem q201_33 : z_fi (z_mi 201) 33 = some (33, .iload_n 1, 0, 0, 0, 0, 0) := rfl
set_option maxRecDepth 8000 in
theorem q201_34 : z_fi (z_mi 201) 34 = some (34, .iload_n 2, 0, 0, 0, 0, 0) := rfl
set_option maxRecDepth 8000 in
theorem q201_35 : z_fi (z_mi 201) 35 = some (35, .invokevirtual 230, 0, 200, 2, 0, 0) := rfl
set_option maxRecDepth 8000 in
theorem q201_38 : z_fi (z_mi 201) 38 = some (38, .ireturn, 0, 0, 0, 0, 0) := rfl
set_option maxRecDepth 20000 in
set_option maxHeartbeats 4000000 in
theorem t_M_comes {xL : Nat} {xs : Nat → Int32} {ρ : Nat → Nat → Option Nat} (hρ : z_hR ρ) (d : Nat) (a1 : Int32) (a2 : Int32) (σ : zS) : ∀ q, f_M_comes a1 a2 σ = some q → z_ec xL xs ρ (d + 5) 201 [.ref 90, .int a1, .int a2] σ (em_i q) := by
  refine j_of (W := [.ref 90, .int a1, .int a2]) (fun L hL => ?_) ?_
  · subst hL; exact z_vl_0 _ 0 rfl
  · unfold f_M_comes
    refine j_iload_n (pc' := 1) q201_0 rfl rfl ?_
    refine j_i2l (pc' := 2) q201_1 rfl ?_
    refine j_lconst (pc' := 3) q201_2 rfl ?_
    refine j_ldc2 (pc' := 6) q201_3 rfl ?_
    refine j_callS3_pi (d := d + 4) (pc' := 9) q201_6 (Or.inl rfl) (Nat.le_of_ble_eq_true rfl) (Nat.le_of_ble_eq_true rfl) rfl (t_M_in hρ (d + 4) _ _ _ _) (fun r1 => ?_)
    refine j_if_eq (pc' := 12) q201_9 rfl (fun c2 => ?_) (fun c2 => ?_)
    · refine j_iconst (pc' := 23) q201_22 rfl ?_
      exact j_iret q201_23 rfl
    · refine j_iload_n (pc' := 13) q201_12 rfl rfl ?_
      refine j_i2l (pc' := 14) q201_13 rfl ?_
      refine j_lconst (pc' := 15) q201_14 rfl ?_
      refine j_lconst (pc' := 16) q201_15 rfl ?_
      refine j_callS3_pi (d := d + 4) (pc' := 19) q201_16 (Or.inl rfl) (Nat.le_of_ble_eq_true rfl) (Nat.le_of_ble_eq_true rfl) rfl (t_M_in hρ (d + 4) _ _ _ _) (fun r3 => ?_)
      refine j_if_ne (pc' := 22) q201_19 rfl (fun c4 => ?_) (fun c4 => ?_)
      · refine j_iconst (pc' := 23) q201_22 rfl ?_
        exact j_iret q201_23 rfl
      · refine j_aload_n (pc' := 25) q201_24 rfl (by decide) rfl ?_
        refine j_iconst (pc' := 26) q201_25 rfl ?_
        refine j_sipush (pc' := 29) q201_26 rfl ?_
        refine j_callV2_v (d := d + 4) (pc' := 32) q201_29 rfl (Nat.le_of_ble_eq_true rfl) (Nat.le_of_ble_eq_true rfl) rfl (t_M_copies hρ (d + 4) _ _ _) (fun r5 => ?_)
        refine j_aload_n (pc' := 33) q201_32 rfl (by decide) rfl ?_
        refine j_iload_n (pc' := 34) q201_33 rfl rfl ?_
        refine j_iload_n (pc' := 35) q201_34 rfl rfl ?_
        refine j_callV2_i (d := d + 4) (pc' := 38) q201_35 rfl (Nat.le_of_ble_eq_true rfl) (Nat.le_of_ble_eq_true rfl) rfl (t_M_triedBy hρ (d + 0) _ _ _) (fun r6 => ?_)
        exact j_iret q201_38 rfl
theorem q124_0 : z_fi (z_mi 124) 0 = some (0, .aload_n 0, 0, 0, 0, 0, 0) := rfl
theorem q124_1 : z_fi (z_mi 124) 1 = some (1, .getfield 10, 0, 9, 0, 0, 0) := rfl
theorem q124_4 : z_fi (z_mi 124) 4 = some (4, .iload_n 1, 0, 0, 0, 0, 0) := rfl
theorem q124_5 : z_fi (z_mi 124) 5 = some (5, .invokevirtual 165, 0, 8, 1, 0, 0) := rfl
theorem q124_8 : z_fi (z_mi 124) 8 = some (8, .ifCond .ne 5, 0, 13, 0, 0, 0) := rfl
theorem q124_11 : z_fi (z_mi 124) 11 = some (11, .iconst (-1), 0, 0, 0, (-1), 0) := rfl
theorem q124_12 : z_fi (z_mi 124) 12 = some (12, .ireturn, 0, 0, 0, 0, 0) := rfl
theorem q124_13 : z_fi (z_mi 124) 13 = some (13, .aload_n 0, 0, 0, 0, 0, 0) := rfl
theorem q124_14 : z_fi (z_mi 124) 14 = some (14, .getfield 10, 0, 9, 0, 0, 0) := rfl
theorem q124_17 : z_fi (z_mi 124) 17 = some (17, .getfield 178, 0, 0, 4, 0, 0) := rfl
theorem q124_20 : z_fi (z_mi 124) 20 = some (20, .iload_n 1, 0, 0, 0, 0, 0) := rfl
theorem q124_21 : z_fi (z_mi 124) 21 = some (21, .iaload, 0, 0, 0, 0, 0) := rfl
theorem q124_22 : z_fi (z_mi 124) 22 = some (22, .bipush (-4), 0, 0, 0, (-4), 0) := rfl
theorem q124_24 : z_fi (z_mi 124) 24 = some (24, .if_icmp .ne 6, 0, 30, 0, 0, 0) := rfl
theorem q124_27 : z_fi (z_mi 124) 27 = some (27, .bipush (-2), 0, 0, 0, (-2), 0) := rfl
theorem q124_29 : z_fi (z_mi 124) 29 = some (29, .ireturn, 0, 0, 0, 0, 0) := rfl
theorem q124_30 : z_fi (z_mi 124) 30 = some (30, .aload_n 0, 0, 0, 0, 0, 0) := rfl
theorem q124_31 : z_fi (z_mi 124) 31 = some (31, .getfield 16, 0, 9, 1, 0, 0) := rfl
theorem q124_34 : z_fi (z_mi 124) 34 = some (34, .aload_n 0, 0, 0, 0, 0, 0) := rfl
theorem q124_35 : z_fi (z_mi 124) 35 = some (35, .getfield 10, 0, 9, 0, 0, 0) := rfl
theorem q124_38 : z_fi (z_mi 124) 38 = some (38, .invokevirtual 85, 0, 6, 1, 0, 0) := rfl
theorem q124_41 : z_fi (z_mi 124) 41 = some (41, .iconst 1, 0, 0, 0, 1, 0) := rfl
theorem q124_42 : z_fi (z_mi 124) 42 = some (42, .istore_n 2, 0, 0, 0, 0, 0) := rfl
theorem q124_43 : z_fi (z_mi 124) 43 = some (43, .iload_n 2, 0, 0, 0, 0, 0) := rfl
theorem q124_44 : z_fi (z_mi 124) 44 = some (44, .bipush 60, 0, 0, 0, 60, 0) := rfl
theorem q124_46 : z_fi (z_mi 124) 46 = some (46, .if_icmp .gt 47, 0, 93, 0, 0, 0) := rfl
theorem q124_49 : z_fi (z_mi 124) 49 = some (49, .aload_n 0, 0, 0, 0, 0, 0) := rfl
theorem q124_50 : z_fi (z_mi 124) 50 = some (50, .getfield 16, 0, 9, 1, 0, 0) := rfl
theorem q124_53 : z_fi (z_mi 124) 53 = some (53, .getfield 178, 0, 0, 4, 0, 0) := rfl
theorem q124_56 : z_fi (z_mi 124) 56 = some (56, .iload_n 1, 0, 0, 0, 0, 0) := rfl
theorem q124_57 : z_fi (z_mi 124) 57 = some (57, .iaload, 0, 0, 0, 0, 0) := rfl
theorem q124_58 : z_fi (z_mi 124) 58 = some (58, .bipush (-4), 0, 0, 0, (-4), 0) := rfl
theorem q124_60 : z_fi (z_mi 124) 60 = some (60, .if_icmp .eq 33, 0, 93, 0, 0, 0) := rfl
theorem q124_63 : z_fi (z_mi 124) 63 = some (63, .aload_n 0, 0, 0, 0, 0, 0) := rfl
theorem q124_64 : z_fi (z_mi 124) 64 = some (64, .getfield 16, 0, 9, 1, 0, 0) := rfl
theorem q124_67 : z_fi (z_mi 124) 67 = some (67, .iconst 1, 0, 0, 0, 1, 0) := rfl
theorem q124_68 : z_fi (z_mi 124) 68 = some (68, .invokevirtual 196, 0, 19, 1, 0, 0) := rfl
theorem q124_71 : z_fi (z_mi 124) 71 = some (71, .aload_n 0, 0, 0, 0, 0, 0) := rfl
theorem q124_72 : z_fi (z_mi 124) 72 = some (72, .getfield 16, 0, 9, 1, 0, 0) := rfl
theorem q124_75 : z_fi (z_mi 124) 75 = some (75, .getfield 208, 0, 0, 13, 0, 0) := rfl
theorem q124_78 : z_fi (z_mi 124) 78 = some (78, .iload_n 1, 0, 0, 0, 0, 0) := rfl
theorem q124_79 : z_fi (z_mi 124) 79 = some (79, .iushr, 0, 0, 0, 0, 0) := rfl
theorem q124_80 : z_fi (z_mi 124) 80 = some (80, .iconst 1, 0, 0, 0, 1, 0) := rfl
theorem q124_81 : z_fi (z_mi 124) 81 = some (81, .iand, 0, 0, 0, 0, 0) := rfl
theorem q124_82 : z_fi (z_mi 124) 82 = some (82, .ifCond .eq 5, 0, 87, 0, 0, 0) := rfl
theorem q124_85 : z_fi (z_mi 124) 85 = some (85, .iload_n 2, 0, 0, 0, 0, 0) := rfl
theorem q124_86 : z_fi (z_mi 124) 86 = some (86, .ireturn, 0, 0, 0, 0, 0) := rfl
theorem q124_87 : z_fi (z_mi 124) 87 = some (87, .iinc 2 1, 0, 0, 0, 1, 0) := rfl
theorem q124_90 : z_fi (z_mi 124) 90 = some (90, .goto (-47), 0, 43, 0, 0, 0) := rfl
theorem q124_93 : z_fi (z_mi 124) 93 = some (93, .bipush (-4), 0, 0, 0, (-4), 0) := rfl
theorem q124_95 : z_fi (z_mi 124) 95 = some (95, .ireturn, 0, 0, 0, 0, 0) := rfl
set_option maxRecDepth 20000 in
set_option maxHeartbeats 4000000 in
theorem t_Y_when {xL : Nat} {xs : Nat → Int32} {ρ : Nat → Nat → Option Nat} (hρ : z_hR ρ) (d : Nat) (a1 : Int32) (σ : zS) : ∀ q, f_Y_when a1 σ = some q → z_ec xL xs ρ (d + 7) 124 [.ref 0, .int a1] σ (em_i q) := by
  refine j_of (W := [.ref 0, .int a1, .null]) (fun L hL => ?_) ?_
  · subst hL; exact z_vl_0 _ 1 rfl
  · unfold f_Y_when
    refine j_aload_n (pc' := 1) q124_0 rfl (by decide) rfl ?_
    refine j_getr (k := 0) (q := 1) (pc' := 4) q124_1 rfl (hρ 0 0 1 rfl) rfl ?_
    refine j_iload_n (pc' := 5) q124_4 rfl rfl ?_
    refine j_callV1_pi (d := d + 6) (pc' := 8) q124_5 rfl (Nat.le_of_ble_eq_true rfl) (Nat.le_of_ble_eq_true rfl) rfl (t_G_hasCell_1 hρ (d + 5) _ _) (fun r1 => ?_)
    refine j_if_ne (pc' := 11) q124_8 rfl (fun c2 => ?_) (fun c2 => ?_)
    · refine j_iconst (pc' := 12) q124_11 rfl ?_
      exact j_iret q124_12 rfl
    · refine j_aload_n (pc' := 14) q124_13 rfl (by decide) rfl ?_
      refine j_getr (k := 0) (q := 1) (pc' := 17) q124_14 rfl (hρ 0 0 1 rfl) rfl ?_
      refine j_getr (k := 1) (q := 4) (pc' := 20) q124_17 rfl (hρ 1 4 4 rfl) rfl ?_
      refine j_iload_n (pc' := 21) q124_20 rfl rfl ?_
      refine j_if (fun hi3 => ?_) (fun _ => j_none)
      refine j_iald (k := 4) (N := 16) (pc' := 22) q124_21 rfl hi3 rfl ?_
      refine j_bipush (pc' := 24) q124_22 rfl ?_
      refine j_icmp_ne (pc' := 27) q124_24 rfl (fun c4 => ?_) (fun c4 => ?_)
      · refine j_bipush (pc' := 29) q124_27 rfl ?_
        exact j_iret q124_29 rfl
      · refine j_aload_n (pc' := 31) q124_30 rfl (by decide) rfl ?_
        refine j_getr (k := 0) (q := 17) (pc' := 34) q124_31 rfl (hρ 0 1 17 rfl) rfl ?_
        refine j_aload_n (pc' := 35) q124_34 rfl (by decide) rfl ?_
        refine j_getr (k := 0) (q := 1) (pc' := 38) q124_35 rfl (hρ 0 0 1 rfl) rfl ?_
        refine j_callV1_v (d := d + 6) (pc' := 41) q124_38 rfl (Nat.le_of_ble_eq_true rfl) (Nat.le_of_ble_eq_true rfl) rfl (t_G_copyFrom_17_1 hρ (d + 5) _) (fun r5 => ?_)
        refine j_iconst (pc' := 42) q124_41 rfl ?_
        refine j_istore2 (pc' := 43) q124_42 rfl (Nat.le_of_ble_eq_true rfl) rfl ?_
        refine j_forget (V' := [.ref 0, .int a1, .int (1 : Int32)]) (z_le_s (z_le_s (z_le_s (z_le_nil)))) ?_
        refine j_loopX (S := Int32 × zS) (E := zS) Sum.inl 93 (fun s6 => [.ref 0, .int a1, .int s6.1]) (fun s6 => s6.2) (fun b6 => [.null, .null, .null]) (fun b6 => b6) (fun b6 => ?_) (fun R6 hR6 hX6 s6 => ?_) ((1 : Int32), r5)
        · show z_J _ _ _ _ _ _ _ _ _ _ _ _
          refine j_bipush (pc' := 95) q124_93 rfl ?_
          exact j_iret q124_95 rfl
        · show z_J _ _ _ _ _ _ _ _ _ _ _ _
          refine j_iload_n (pc' := 44) q124_43 rfl rfl ?_
          refine j_bipush (pc' := 46) q124_44 rfl ?_
          refine j_icmp_gt (pc' := 49) q124_46 rfl (fun c7 => ?_) (fun c7 => ?_)
          · exact j_exit (j_forget (z_le_n (z_le_n (z_le_n (z_le_nil)))) (hX6 s6.2))
          · refine j_aload_n (pc' := 50) q124_49 rfl (by decide) rfl ?_
            refine j_getr (k := 0) (q := 17) (pc' := 53) q124_50 rfl (hρ 0 1 17 rfl) rfl ?_
            refine j_getr (k := 17) (q := 20) (pc' := 56) q124_53 rfl (hρ 17 4 20 rfl) rfl ?_
            refine j_iload_n (pc' := 57) q124_56 rfl rfl ?_
            refine j_if (fun hi8 => ?_) (fun _ => j_none)
            refine j_iald (k := 20) (N := 16) (pc' := 58) q124_57 rfl hi8 rfl ?_
            refine j_bipush (pc' := 60) q124_58 rfl ?_
            refine j_icmp_eq (pc' := 63) q124_60 rfl (fun c9 => ?_) (fun c9 => ?_)
            · exact j_exit (j_forget (z_le_n (z_le_n (z_le_n (z_le_nil)))) (hX6 s6.2))
            · refine j_aload_n (pc' := 64) q124_63 rfl (by decide) rfl ?_
              refine j_getr (k := 0) (q := 17) (pc' := 67) q124_64 rfl (hρ 0 1 17 rfl) rfl ?_
              refine j_iconst (pc' := 68) q124_67 rfl ?_
              refine j_callV1_v (d := d + 6) (pc' := 71) q124_68 rfl (Nat.le_of_ble_eq_true rfl) (Nat.le_of_ble_eq_true rfl) rfl (t_G_goOn_17 hρ (d + 0) _ _) (fun r10 => ?_)
              refine j_aload_n (pc' := 72) q124_71 rfl (by decide) rfl ?_
              refine j_getr (k := 0) (q := 17) (pc' := 75) q124_72 rfl (hρ 0 1 17 rfl) rfl ?_
              refine j_getf (k := 17) (pc' := 78) q124_75 rfl rfl ?_
              refine j_iload_n (pc' := 79) q124_78 rfl rfl ?_
              refine j_iushr (pc' := 80) q124_79 rfl ?_
              refine j_iconst (pc' := 81) q124_80 rfl ?_
              refine j_iand (pc' := 82) q124_81 rfl ?_
              refine j_if_eq (pc' := 85) q124_82 rfl (fun c11 => ?_) (fun c11 => ?_)
              · refine j_iinc2 (pc' := 90) q124_87 rfl (Nat.le_of_ble_eq_true rfl) rfl ?_
                refine j_goto q124_90 rfl ?_
                exact j_again (j_forget (z_le_s (z_le_s (z_le_s (z_le_nil)))) (hR6 ((s6.1 + (1 : Int32)), r10)))
              · refine j_iload_n (pc' := 86) q124_85 rfl rfl ?_
                refine j_exit ?_
                exact j_iret q124_86 rfl
set_option maxRecDepth 8000 in
theorem q202_0 : z_fi (z_mi 202) 0 = some (0, .aload_n 0, 0, 0, 0, 0, 0) := rfl
set_option maxRecDepth 8000 in
theorem q202_1 : z_fi (z_mi 202) 1 = some (1, .iload_n 1, 0, 0, 0, 0, 0) := rfl
set_option maxRecDepth 8000 in
theorem q202_2 : z_fi (z_mi 202) 2 = some (2, .invokevirtual 165, 0, 164, 1, 0, 0) := rfl
set_option maxRecDepth 8000 in
theorem q202_5 : z_fi (z_mi 202) 5 = some (5, .ifCond .ne 5, 0, 10, 0, 0, 0) := rfl
set_option maxRecDepth 8000 in
theorem q202_8 : z_fi (z_mi 202) 8 = some (8, .iconst (-1), 0, 0, 0, (-1), 0) := rfl
set_option maxRecDepth 8000 in
theorem q202_9 : z_fi (z_mi 202) 9 = some (9, .ireturn, 0, 0, 0, 0, 0) := rfl
set_option maxRecDepth 8000 in
theorem q202_10 : z_fi (z_mi 202) 10 = some (10, .aload_n 0, 0, 0, 0, 0, 0) := rfl
set_option maxRecDepth 8000 in
theorem q202_11 : z_fi (z_mi 202) 11 = some (11, .iconst 0, 0, 0, 0, 0, 0) := rfl
set_option maxRecDepth 8000 in
theorem q202_12 : z_fi (z_mi 202) 12 = some (12, .iload_n 1, 0, 0, 0, 0, 0) := rfl
set_option maxRecDepth 8000 in
theorem q202_13 : z_fi (z_mi 202) 13 = some (13, .invokevirtual 162, 0, 170, 2, 0, 0) := rfl
set_option maxRecDepth 8000 in
theorem q202_16 : z_fi (z_mi 202) 16 = some (16, .bipush (-4), 0, 0, 0, (-4), 0) := rfl
set_option maxRecDepth 8000 in
theorem q202_18 : z_fi (z_mi 202) 18 = some (18, .if_icmp .ne 6, 0, 24, 0, 0, 0) := rfl
set_option maxRecDepth 8000 in
theorem q202_21 : z_fi (z_mi 202) 21 = some (21, .bipush (-2), 0, 0, 0, (-2), 0) := rfl
set_option maxRecDepth 8000 in
theorem q202_23 : z_fi (z_mi 202) 23 = some (23, .ireturn, 0, 0, 0, 0, 0) := rfl
set_option maxRecDepth 8000 in
theorem q202_24 : z_fi (z_mi 202) 24 = some (24, .aload_n 0, 0, 0, 0, 0, 0) := rfl
set_option maxRecDepth 8000 in
theorem q202_25 : z_fi (z_mi 202) 25 = some (25, .iconst 0, 0, 0, 0, 0, 0) := rfl
set_option maxRecDepth 8000 in
theorem q202_26 : z_fi (z_mi 202) 26 = some (26, .sipush 440, 0, 0, 0, 440, 0) := rfl
set_option maxRecDepth 8000 in
theorem q202_29 : z_fi (z_mi 202) 29 = some (29, .invokevirtual 227, 0, 195, 2, 0, 0) := rfl
set_option maxRecDepth 8000 in
theorem q202_32 : z_fi (z_mi 202) 32 = some (32, .iconst 1, 0, 0, 0, 1, 0) := rfl
set_option maxRecDepth 8000 in
theorem q202_33 : z_fi (z_mi 202) 33 = some (33, .istore_n 2, 0, 0, 0, 0, 0) := rfl
set_option maxRecDepth 8000 in
theorem q202_34 : z_fi (z_mi 202) 34 = some (34, .iload_n 2, 0, 0, 0, 0, 0) := rfl
set_option maxRecDepth 8000 in
theorem q202_35 : z_fi (z_mi 202) 35 = some (35, .bipush 60, 0, 0, 0, 60, 0) := rfl
set_option maxRecDepth 8000 in
theorem q202_37 : z_fi (z_mi 202) 37 = some (37, .if_icmp .gt 102, 0, 139, 0, 0, 0) := rfl
set_option maxRecDepth 8000 in
theorem q202_40 : z_fi (z_mi 202) 40 = some (40, .sipush 546, 0, 0, 0, 546, 0) := rfl
set_option maxRecDepth 8000 in
theorem q202_43 : z_fi (z_mi 202) 43 = some (43, .aload_n 0, 0, 0, 0, 0, 0) := rfl
set_option maxRecDepth 8000 in
theorem q202_44 : z_fi (z_mi 202) 44 = some (44, .getfield 7, 0, 10, 0, 0, 0) := rfl
set_option maxRecDepth 8000 in
theorem q202_47 : z_fi (z_mi 202) 47 = some (47, .sipush 440, 0, 0, 0, 440, 0) := rfl
set_option maxRecDepth 8000 in
theorem q202_50 : z_fi (z_mi 202) 50 = some (50, .iconst 5, 0, 0, 0, 5, 0) := rfl
set_option maxRecDepth 8000 in
theorem q202_51 : z_fi (z_mi 202) 51 = some (51, .iload_n 1, 0, 0, 0, 0, 0) := rfl
set_option maxRecDepth 8000 in
theorem q202_52 : z_fi (z_mi 202) 52 = some (52, .imul, 0, 0, 0, 0, 0) := rfl
set_option maxRecDepth 8000 in
theorem q202_53 : z_fi (z_mi 202) 53 = some (53, .iadd, 0, 0, 0, 0, 0) := rfl
set_option maxRecDepth 8000 in
theorem q202_54 : z_fi (z_mi 202) 54 = some (54, .iconst 4, 0, 0, 0, 4, 0) := rfl
set_option maxRecDepth 8000 in
theorem q202_55 : z_fi (z_mi 202) 55 = some (55, .iadd, 0, 0, 0, 0, 0) := rfl
set_option maxRecDepth 8000 in
theorem q202_56 : z_fi (z_mi 202) 56 = some (56, .iaload, 0, 0, 0, 0, 0) := rfl
set_option maxRecDepth 8000 in
theorem q202_57 : z_fi (z_mi 202) 57 = some (57, .iadd, 0, 0, 0, 0, 0) := rfl
set_option maxRecDepth 8000 in
theorem q202_58 : z_fi (z_mi 202) 58 = some (58, .istore_n 3, 0, 0, 0, 0, 0) := rfl
set_option maxRecDepth 8000 in
theorem q202_59 : z_fi (z_mi 202) 59 = some (59, .iconst 0, 0, 0, 0, 0, 0) := rfl
set_option maxRecDepth 8000 in
theorem q202_60 : z_fi (z_mi 202) 60 = some (60, .istore 4, 0, 0, 0, 0, 0) := rfl
set_option maxRecDepth 8000 in
theorem q202_62 : z_fi (z_mi 202) 62 = some (62, .iload 4, 0, 0, 0, 0, 0) := rfl
set_option maxRecDepth 8000 in
theorem q202_64 : z_fi (z_mi 202) 64 = some (64, .aload_n 0, 0, 0, 0, 0, 0) := rfl
set_option maxRecDepth 8000 in
theorem q202_65 : z_fi (z_mi 202) 65 = some (65, .getfield 13, 0, 10, 1, 0, 0) := rfl
set_option maxRecDepth 8000 in
theorem q202_68 : z_fi (z_mi 202) 68 = some (68, .aload_n 0, 0, 0, 0, 0, 0) := rfl
set_option maxRecDepth 8000 in
theorem q202_69 : z_fi (z_mi 202) 69 = some (69, .getfield 17, 0, 10, 2, 0, 0) := rfl
set_option maxRecDepth 8000 in
theorem q202_72 : z_fi (z_mi 202) 72 = some (72, .imul, 0, 0, 0, 0, 0) := rfl
set_option maxRecDepth 8000 in
theorem q202_73 : z_fi (z_mi 202) 73 = some (73, .if_icmp .ge 31, 0, 104, 0, 0, 0) := rfl
set_option maxRecDepth 8000 in
theorem q202_76 : z_fi (z_mi 202) 76 = some (76, .iload 4, 0, 0, 0, 0, 0) := rfl
set_option maxRecDepth 8000 in
theorem q202_78 : z_fi (z_mi 202) 78 = some (78, .iload_n 1, 0, 0, 0, 0, 0) := rfl
set_option maxRecDepth 8000 in
theorem q202_79 : z_fi (z_mi 202) 79 = some (79, .if_icmp .eq 19, 0, 98, 0, 0, 0) := rfl
set_option maxRecDepth 8000 in
theorem q202_82 : z_fi (z_mi 202) 82 = some (82, .aload_n 0, 0, 0, 0, 0, 0) := rfl
set_option maxRecDepth 8000 in
theorem q202_83 : z_fi (z_mi 202) 83 = some (83, .getfield 7, 0, 10, 0, 0, 0) := rfl
set_option maxRecDepth 8000 in
theorem q202_86 : z_fi (z_mi 202) 86 = some (86, .sipush 440, 0, 0, 0, 440, 0) := rfl
set_option maxRecDepth 8000 in
theorem q202_89 : z_fi (z_mi 202) 89 = some (89, .iconst 5, 0, 0, 0, 5, 0) := rfl
set_option maxRecDepth 8000 in
theorem q202_90 : z_fi (z_mi 202) 90 = some (90, .iload 4, 0, 0, 0, 0, 0) := rfl
set_option maxRecDepth 8000 in
theorem q202_92 : z_fi (z_mi 202) 92 = some (92, .imul, 0, 0, 0, 0, 0) := rfl
set_option maxRecDepth 8000 in
theorem q202_93 : z_fi (z_mi 202) 93 = some (93, .iadd, 0, 0, 0, 0, 0) := rfl
set_option maxRecDepth 8000 in
theorem q202_94 : z_fi (z_mi 202) 94 = some (94, .iconst 2, 0, 0, 0, 2, 0) := rfl
set_option maxRecDepth 8000 in
theorem q202_95 : z_fi (z_mi 202) 95 = some (95, .iadd, 0, 0, 0, 0, 0) := rfl
set_option maxRecDepth 8000 in
theorem q202_96 : z_fi (z_mi 202) 96 = some (96, .iconst 0, 0, 0, 0, 0, 0) := rfl
set_option maxRecDepth 8000 in
theorem q202_97 : z_fi (z_mi 202) 97 = some (97, .iastore, 0, 0, 0, 0, 0) := rfl
set_option maxRecDepth 8000 in
theorem q202_98 : z_fi (z_mi 202) 98 = some (98, .iinc 4 1, 0, 0, 0, 1, 0) := rfl
set_option maxRecDepth 8000 in
theorem q202_101 : z_fi (z_mi 202) 101 = some (101, .goto (-39), 0, 62, 0, 0, 0) := rfl
set_option maxRecDepth 8000 in
theorem q202_104 : z_fi (z_mi 202) 104 = some (104, .aload_n 0, 0, 0, 0, 0, 0) := rfl
set_option maxRecDepth 8000 in
theorem q202_105 : z_fi (z_mi 202) 105 = some (105, .getfield 7, 0, 10, 0, 0, 0) := rfl
set_option maxRecDepth 8000 in
theorem q202_108 : z_fi (z_mi 202) 108 = some (108, .iload_n 3, 0, 0, 0, 0, 0) := rfl
set_option maxRecDepth 8000 in
theorem q202_109 : z_fi (z_mi 202) 109 = some (109, .iaload, 0, 0, 0, 0, 0) := rfl
set_option maxRecDepth 8000 in
theorem q202_110 : z_fi (z_mi 202) 110 = some (110, .istore 4, 0, 0, 0, 0, 0) := rfl
set_option maxRecDepth 8000 in
theorem q202_112 : z_fi (z_mi 202) 112 = some (112, .aload_n 0, 0, 0, 0, 0, 0) := rfl
set_option maxRecDepth 8000 in
theorem q202_113 : z_fi (z_mi 202) 113 = some (113, .sipush 440, 0, 0, 0, 440, 0) := rfl
set_option maxRecDepth 8000 in
theorem q202_116 : z_fi (z_mi 202) 116 = some (116, .iconst 1, 0, 0, 0, 1, 0) := rfl
set_option maxRecDepth 8000 in
theorem q202_117 : z_fi (z_mi 202) 117 = some (117, .invokevirtual 224, 0, 194, 2, 0, 0) := rfl
set_option maxRecDepth 8000 in
theorem q202_120 : z_fi (z_mi 202) 120 = some (120, .aload_n 0, 0, 0, 0, 0, 0) := rfl
set_option maxRecDepth 8000 in
theorem q202_121 : z_fi (z_mi 202) 121 = some (121, .getfield 7, 0, 10, 0, 0, 0) := rfl
set_option maxRecDepth 8000 in
theorem q202_124 : z_fi (z_mi 202) 124 = some (124, .iload_n 3, 0, 0, 0, 0, 0) := rfl
set_option maxRecDepth 8000 in
theorem q202_125 : z_fi (z_mi 202) 125 = some (125, .iaload, 0, 0, 0, 0, 0) := rfl
set_option maxRecDepth 8000 in
theorem q202_126 : z_fi (z_mi 202) 126 = some (126, .iload 4, 0, 0, 0, 0, 0) := rfl
set_option maxRecDepth 8000 in
theorem q202_128 : z_fi (z_mi 202) 128 = some (128, .if_icmp .le 5, 0, 133, 0, 0, 0) := rfl
set_option maxRecDepth 8000 in
theorem q202_131 : z_fi (z_mi 202) 131 = some (131, .iload_n 2, 0, 0, 0, 0, 0) := rfl
set_option maxRecDepth 8000 in
theorem q202_132 : z_fi (z_mi 202) 132 = some (132, .ireturn, 0, 0, 0, 0, 0) := rfl
set_option maxRecDepth 8000 in
theorem q202_133 : z_fi (z_mi 202) 133 = some (133, .iinc 2 1, 0, 0, 0, 1, 0) := rfl
set_option maxRecDepth 8000 in
theorem q202_136 : z_fi (z_mi 202) 136 = some (136, .goto (-102), 0, 34, 0, 0, 0) := rfl
set_option maxRecDepth 8000 in
theorem q202_139 : z_fi (z_mi 202) 139 = some (139, .bipush (-4), 0, 0, 0, (-4), 0) := rfl
set_option maxRecDepth 8000 in
theorem q202_141 : z_fi (z_mi 202) 141 = some (141, .ireturn, 0, 0, 0, 0, 0) := rfl
set_option maxRecDepth 20000 in
set_option maxHeartbeats 4000000 in
theorem t_M_when {xL : Nat} {xs : Nat → Int32} {ρ : Nat → Nat → Option Nat} (hρ : z_hR ρ) (d : Nat) (a1 : Int32) (σ : zS) : ∀ q, f_M_when a1 σ = some q → z_ec xL xs ρ (d + 4) 202 [.ref 90, .int a1] σ (em_i q) := by
  refine j_of (W := [.ref 90, .int a1, .null, .null, .null]) (fun L hL => ?_) ?_
  · subst hL; exact z_vl_0 _ 3 rfl
  · unfold f_M_when
    refine j_aload_n (pc' := 1) q202_0 rfl (by decide) rfl ?_
    refine j_iload_n (pc' := 2) q202_1 rfl rfl ?_
    refine j_callV1_pi (d := d + 3) (pc' := 5) q202_2 rfl (Nat.le_of_ble_eq_true rfl) (Nat.le_of_ble_eq_true rfl) rfl (t_M_isCell hρ (d + 2) _ _) (fun r1 => ?_)
    refine j_if_ne (pc' := 8) q202_5 rfl (fun c2 => ?_) (fun c2 => ?_)
    · refine j_iconst (pc' := 9) q202_8 rfl ?_
      exact j_iret q202_9 rfl
    · refine j_aload_n (pc' := 11) q202_10 rfl (by decide) rfl ?_
      refine j_iconst (pc' := 12) q202_11 rfl ?_
      refine j_iload_n (pc' := 13) q202_12 rfl rfl ?_
      refine j_callV2_pi (d := d + 3) (pc' := 16) q202_13 rfl (Nat.le_of_ble_eq_true rfl) (Nat.le_of_ble_eq_true rfl) rfl (t_M_cropIn hρ (d + 3) _ _ _) (fun r3 => ?_)
      refine j_bipush (pc' := 18) q202_16 rfl ?_
      refine j_icmp_ne (pc' := 21) q202_18 rfl (fun c4 => ?_) (fun c4 => ?_)
      · refine j_bipush (pc' := 23) q202_21 rfl ?_
        exact j_iret q202_23 rfl
      · refine j_aload_n (pc' := 25) q202_24 rfl (by decide) rfl ?_
        refine j_iconst (pc' := 26) q202_25 rfl ?_
        refine j_sipush (pc' := 29) q202_26 rfl ?_
        refine j_callV2_v (d := d + 3) (pc' := 32) q202_29 rfl (Nat.le_of_ble_eq_true rfl) (Nat.le_of_ble_eq_true rfl) rfl (t_M_copies hρ (d + 3) _ _ _) (fun r5 => ?_)
        refine j_iconst (pc' := 33) q202_32 rfl ?_
        refine j_istore2 (pc' := 34) q202_33 rfl (Nat.le_of_ble_eq_true rfl) rfl ?_
        refine j_forget (V' := [.ref 90, .int a1, .int (1 : Int32), .null, .null]) (z_le_s (z_le_s (z_le_s (z_le_n (z_le_n (z_le_nil)))))) ?_
        refine j_loopX (S := Int32 × zS) (E := zS) Sum.inl 139 (fun s6 => [.ref 90, .int a1, .int s6.1, .null, .null]) (fun s6 => s6.2) (fun b6 => [.null, .null, .null, .null, .null]) (fun b6 => b6) (fun b6 => ?_) (fun R6 hR6 hX6 s6 => ?_) ((1 : Int32), r5)
        · show z_J _ _ _ _ _ _ _ _ _ _ _ _
          refine j_bipush (pc' := 141) q202_139 rfl ?_
          exact j_iret q202_141 rfl
        · show z_J _ _ _ _ _ _ _ _ _ _ _ _
          refine j_iload_n (pc' := 35) q202_34 rfl rfl ?_
          refine j_bipush (pc' := 37) q202_35 rfl ?_
          refine j_icmp_gt (pc' := 40) q202_37 rfl (fun c7 => ?_) (fun c7 => ?_)
          · exact j_exit (j_forget (z_le_n (z_le_n (z_le_n (z_le_n (z_le_n (z_le_nil)))))) (hX6 s6.2))
          · refine j_sipush (pc' := 43) q202_40 rfl ?_
            refine j_aload_n (pc' := 44) q202_43 rfl (by decide) rfl ?_
            refine j_getr (k := 90) (q := 91) (pc' := 47) q202_44 rfl (hρ 90 0 91 rfl) rfl ?_
            refine j_sipush (pc' := 50) q202_47 rfl ?_
            refine j_iconst (pc' := 51) q202_50 rfl ?_
            refine j_iload_n (pc' := 52) q202_51 rfl rfl ?_
            refine j_imul (pc' := 53) q202_52 rfl ?_
            refine j_iadd (pc' := 54) q202_53 rfl ?_
            refine j_iconst (pc' := 55) q202_54 rfl ?_
            refine j_iadd (pc' := 56) q202_55 rfl ?_
            refine j_if (fun hi8 => ?_) (fun _ => j_none)
            refine j_iald (k := 91) (N := 550) (pc' := 57) q202_56 rfl hi8 rfl ?_
            refine j_iadd (pc' := 58) q202_57 rfl ?_
            refine j_nameI (fun v9 => ?_)
            refine j_istore3 (pc' := 59) q202_58 rfl (Nat.le_of_ble_eq_true rfl) rfl ?_
            refine j_iconst (pc' := 60) q202_59 rfl ?_
            refine j_istore4 (pc' := 62) q202_60 rfl (Nat.le_of_ble_eq_true rfl) rfl ?_
            refine j_forget (V' := [.ref 90, .int a1, .int s6.1, .int v9, .int (0 : Int32)]) (z_le_s (z_le_s (z_le_s (z_le_s (z_le_s (z_le_nil)))))) ?_
            refine j_loopX (S := Int32 × zS) (E := zS) (fun e => e) 104 (fun s10 => [.ref 90, .int a1, .int s6.1, .int v9, .int s10.1]) (fun s10 => s10.2) (fun b10 => [.ref 90, .int a1, .int s6.1, .int v9, .null]) (fun b10 => b10) (fun b10 => ?_) (fun R10 hR10 hX10 s10 => ?_) ((0 : Int32), s6.2)
            · show z_J _ _ _ _ _ _ _ _ _ _ _ _
              refine j_aload_n (pc' := 105) q202_104 rfl (by decide) rfl ?_
              refine j_getr (k := 90) (q := 91) (pc' := 108) q202_105 rfl (hρ 90 0 91 rfl) rfl ?_
              refine j_iload_n (pc' := 109) q202_108 rfl rfl ?_
              refine j_if (fun hi16 => ?_) (fun _ => j_none)
              refine j_iald (k := 91) (N := 550) (pc' := 110) q202_109 rfl hi16 rfl ?_
              refine j_istore4 (pc' := 112) q202_110 rfl (Nat.le_of_ble_eq_true rfl) rfl ?_
              refine j_aload_n (pc' := 113) q202_112 rfl (by decide) rfl ?_
              refine j_sipush (pc' := 116) q202_113 rfl ?_
              refine j_iconst (pc' := 117) q202_116 rfl ?_
              refine j_callV2_v (d := d + 3) (pc' := 120) q202_117 rfl (Nat.le_of_ble_eq_true rfl) (Nat.le_of_ble_eq_true rfl) rfl (t_M_weeks hρ (d + 0) _ _ _) (fun r17 => ?_)
              refine j_aload_n (pc' := 121) q202_120 rfl (by decide) rfl ?_
              refine j_getr (k := 90) (q := 91) (pc' := 124) q202_121 rfl (hρ 90 0 91 rfl) rfl ?_
              refine j_iload_n (pc' := 125) q202_124 rfl rfl ?_
              refine j_if (fun hi18 => ?_) (fun _ => j_none)
              refine j_iald (k := 91) (N := 550) (pc' := 126) q202_125 rfl hi18 rfl ?_
              refine j_iload (pc' := 128) q202_126 rfl rfl ?_
              refine j_icmp_le (pc' := 131) q202_128 rfl (fun c19 => ?_) (fun c19 => ?_)
              · refine j_iinc2 (pc' := 136) q202_133 rfl (Nat.le_of_ble_eq_true rfl) rfl ?_
                refine j_goto q202_136 rfl ?_
                exact j_again (j_forget (z_le_s (z_le_s (z_le_s (z_le_n (z_le_n (z_le_nil)))))) (hR6 ((s6.1 + (1 : Int32)), r17)))
              · refine j_iload_n (pc' := 132) q202_131 rfl rfl ?_
                refine j_exit ?_
                exact j_iret q202_132 rfl
            · show z_J _ _ _ _ _ _ _ _ _ _ _ _
              refine j_iload (pc' := 64) q202_62 rfl rfl ?_
              refine j_aload_n (pc' := 65) q202_64 rfl (by decide) rfl ?_
              refine j_getf (k := 90) (pc' := 68) q202_65 rfl rfl ?_
              refine j_aload_n (pc' := 69) q202_68 rfl (by decide) rfl ?_
              refine j_getf (k := 90) (pc' := 72) q202_69 rfl rfl ?_
              refine j_imul (pc' := 73) q202_72 rfl ?_
              refine j_icmp_ge (pc' := 76) q202_73 rfl (fun c11 => ?_) (fun c11 => ?_)
              · exact j_exit (j_forget (z_le_s (z_le_s (z_le_s (z_le_s (z_le_n (z_le_nil)))))) (hX10 s10.2))
              · refine j_iload (pc' := 78) q202_76 rfl rfl ?_
                refine j_iload_n (pc' := 79) q202_78 rfl rfl ?_
                refine j_join (T := zS) 98 (fun t12 => [.ref 90, .int a1, .int s6.1, .int v9, .int s10.1]) (fun t12 => []) (fun t12 => t12) (fun t12 => ?_) (fun j12 hj12 => ?_)
                · show z_J _ _ _ _ _ _ _ _ _ _ _ _
                  refine j_iinc4 (pc' := 101) q202_98 rfl (Nat.le_of_ble_eq_true rfl) rfl ?_
                  refine j_goto q202_101 rfl ?_
                  exact j_again (j_forget (z_le_s (z_le_s (z_le_s (z_le_s (z_le_s (z_le_nil)))))) (hR10 ((s10.1 + (1 : Int32)), t12)))
                · show z_J _ _ _ _ _ _ _ _ _ _ _ _
                  refine j_icmp_eq (pc' := 82) q202_79 rfl (fun c13 => ?_) (fun c13 => ?_)
                  · refine j_forget (z_le_s (z_le_s (z_le_s (z_le_s (z_le_s (z_le_nil)))))) (hj12 s10.2)
                  · refine j_aload_n (pc' := 83) q202_82 rfl (by decide) rfl ?_
                    refine j_getr (k := 90) (q := 91) (pc' := 86) q202_83 rfl (hρ 90 0 91 rfl) rfl ?_
                    refine j_sipush (pc' := 89) q202_86 rfl ?_
                    refine j_iconst (pc' := 90) q202_89 rfl ?_
                    refine j_iload (pc' := 92) q202_90 rfl rfl ?_
                    refine j_imul (pc' := 93) q202_92 rfl ?_
                    refine j_iadd (pc' := 94) q202_93 rfl ?_
                    refine j_iconst (pc' := 95) q202_94 rfl ?_
                    refine j_iadd (pc' := 96) q202_95 rfl ?_
                    refine j_iconst (pc' := 97) q202_96 rfl ?_
                    refine j_if (fun hi14 => ?_) (fun _ => j_none)
                    refine j_iast (k := 91) (N := 550) (pc' := 98) q202_97 rfl hi14 rfl ?_
                    refine j_nameS (fun τ15 => ?_)
                    refine j_forget (z_le_s (z_le_s (z_le_s (z_le_s (z_le_s (z_le_nil)))))) (hj12 τ15)
theorem q29_0 : z_fi (z_mi 29) 0 = some (0, .iconst 0, 0, 0, 0, 0, 0) := rfl
theorem q29_1 : z_fi (z_mi 29) 1 = some (1, .istore_n 2, 0, 0, 0, 0, 0) := rfl
theorem q29_2 : z_fi (z_mi 29) 2 = some (2, .iload_n 2, 0, 0, 0, 0, 0) := rfl
theorem q29_3 : z_fi (z_mi 29) 3 = some (3, .aload_n 0, 0, 0, 0, 0, 0) := rfl
theorem q29_4 : z_fi (z_mi 29) 4 = some (4, .invokevirtual 95, 0, 7, 0, 0, 0) := rfl
theorem q29_7 : z_fi (z_mi 29) 7 = some (7, .if_icmp .ge 41, 0, 48, 0, 0, 0) := rfl
theorem q29_10 : z_fi (z_mi 29) 10 = some (10, .aload_n 0, 0, 0, 0, 0, 0) := rfl
theorem q29_11 : z_fi (z_mi 29) 11 = some (11, .getfield 9, 0, 0, 2, 0, 0) := rfl
theorem q29_14 : z_fi (z_mi 29) 14 = some (14, .iload_n 2, 0, 0, 0, 0, 0) := rfl
theorem q29_15 : z_fi (z_mi 29) 15 = some (15, .iaload, 0, 0, 0, 0, 0) := rfl
theorem q29_16 : z_fi (z_mi 29) 16 = some (16, .aload_n 1, 0, 0, 0, 0, 0) := rfl
theorem q29_17 : z_fi (z_mi 29) 17 = some (17, .getfield 9, 0, 0, 2, 0, 0) := rfl
theorem q29_20 : z_fi (z_mi 29) 20 = some (20, .iload_n 2, 0, 0, 0, 0, 0) := rfl
theorem q29_21 : z_fi (z_mi 29) 21 = some (21, .iaload, 0, 0, 0, 0, 0) := rfl
theorem q29_22 : z_fi (z_mi 29) 22 = some (22, .if_icmp .ne 18, 0, 40, 0, 0, 0) := rfl
theorem q29_25 : z_fi (z_mi 29) 25 = some (25, .aload_n 0, 0, 0, 0, 0, 0) := rfl
theorem q29_26 : z_fi (z_mi 29) 26 = some (26, .getfield 15, 0, 0, 3, 0, 0) := rfl
theorem q29_29 : z_fi (z_mi 29) 29 = some (29, .iload_n 2, 0, 0, 0, 0, 0) := rfl
theorem q29_30 : z_fi (z_mi 29) 30 = some (30, .iaload, 0, 0, 0, 0, 0) := rfl
theorem q29_31 : z_fi (z_mi 29) 31 = some (31, .aload_n 1, 0, 0, 0, 0, 0) := rfl
theorem q29_32 : z_fi (z_mi 29) 32 = some (32, .getfield 15, 0, 0, 3, 0, 0) := rfl
theorem q29_35 : z_fi (z_mi 29) 35 = some (35, .iload_n 2, 0, 0, 0, 0, 0) := rfl
theorem q29_36 : z_fi (z_mi 29) 36 = some (36, .iaload, 0, 0, 0, 0, 0) := rfl
theorem q29_37 : z_fi (z_mi 29) 37 = some (37, .if_icmp .eq 5, 0, 42, 0, 0, 0) := rfl
theorem q29_40 : z_fi (z_mi 29) 40 = some (40, .iconst 0, 0, 0, 0, 0, 0) := rfl
theorem q29_41 : z_fi (z_mi 29) 41 = some (41, .ireturn, 0, 0, 0, 0, 0) := rfl
theorem q29_42 : z_fi (z_mi 29) 42 = some (42, .iinc 2 1, 0, 0, 0, 1, 0) := rfl
theorem q29_45 : z_fi (z_mi 29) 45 = some (45, .goto (-43), 0, 2, 0, 0, 0) := rfl
theorem q29_48 : z_fi (z_mi 29) 48 = some (48, .iconst 1, 0, 0, 0, 1, 0) := rfl
theorem q29_49 : z_fi (z_mi 29) 49 = some (49, .ireturn, 0, 0, 0, 0, 0) := rfl
set_option maxRecDepth 20000 in
set_option maxHeartbeats 4000000 in
theorem t_G_liesAs_17_1 {xL : Nat} {xs : Nat → Int32} {ρ : Nat → Nat → Option Nat} (hρ : z_hR ρ) (d : Nat)  (σ : zS) : ∀ q, f_G_liesAs_17_1  σ = some q → z_ec xL xs ρ (d + 1) 29 [.ref 17, .ref 1] σ (em_pi σ q) := by
  refine j_of (W := [.ref 17, .ref 1, .null]) (fun L hL => ?_) ?_
  · subst hL; exact z_vl_0 _ 1 rfl
  · unfold f_G_liesAs_17_1
    refine j_iconst (pc' := 1) q29_0 rfl ?_
    refine j_istore2 (pc' := 2) q29_1 rfl (Nat.le_of_ble_eq_true rfl) rfl ?_
    refine j_forget (V' := [.ref 17, .ref 1, .int (0 : Int32)]) (z_le_s (z_le_s (z_le_s (z_le_nil)))) ?_
    refine j_loopX (S := Int32) (E := Unit) Sum.inl 48 (fun s1 => [.ref 17, .ref 1, .int s1]) (fun s1 => σ) (fun b1 => [.null, .null, .null]) (fun b1 => σ) (fun b1 => ?_) (fun R1 hR1 hX1 s1 => ?_) (0 : Int32)
    · show z_J _ _ _ _ _ _ _ _ _ _ _ _
      refine j_iconst (pc' := 49) q29_48 rfl ?_
      exact j_pzret q29_49 rfl (Or.inr rfl)
    · show z_J _ _ _ _ _ _ _ _ _ _ _ _
      refine j_iload_n (pc' := 3) q29_2 rfl rfl ?_
      refine j_aload_n (pc' := 4) q29_3 rfl (by decide) rfl ?_
      refine j_callV0_pi (d := d + 0) (pc' := 7) q29_4 rfl (Nat.le_of_ble_eq_true rfl) (Nat.le_of_ble_eq_true rfl) rfl (t_G_cells_17 hρ (d + 0) _) (fun r2 => ?_)
      refine j_icmp_ge (pc' := 10) q29_7 rfl (fun c3 => ?_) (fun c3 => ?_)
      · exact j_exit (j_forget (z_le_n (z_le_n (z_le_n (z_le_nil)))) (hX1 ()))
      · refine j_aload_n (pc' := 11) q29_10 rfl (by decide) rfl ?_
        refine j_getr (k := 17) (q := 18) (pc' := 14) q29_11 rfl (hρ 17 2 18 rfl) rfl ?_
        refine j_iload_n (pc' := 15) q29_14 rfl rfl ?_
        refine j_if (fun hi4 => ?_) (fun _ => j_none)
        refine j_iald (k := 18) (N := 16) (pc' := 16) q29_15 rfl hi4 rfl ?_
        refine j_aload_n (pc' := 17) q29_16 rfl (by decide) rfl ?_
        refine j_getr (k := 1) (q := 2) (pc' := 20) q29_17 rfl (hρ 1 2 2 rfl) rfl ?_
        refine j_iload_n (pc' := 21) q29_20 rfl rfl ?_
        refine j_if (fun hi5 => ?_) (fun _ => j_none)
        refine j_iald (k := 2) (N := 16) (pc' := 22) q29_21 rfl hi5 rfl ?_
        refine j_icmp_ne (pc' := 25) q29_22 rfl (fun c6 => ?_) (fun c6 => ?_)
        · refine j_aload_n (pc' := 26) q29_25 rfl (by decide) rfl ?_
          refine j_getr (k := 17) (q := 19) (pc' := 29) q29_26 rfl (hρ 17 3 19 rfl) rfl ?_
          refine j_iload_n (pc' := 30) q29_29 rfl rfl ?_
          refine j_if (fun hi7 => ?_) (fun _ => j_none)
          refine j_iald (k := 19) (N := 16) (pc' := 31) q29_30 rfl hi7 rfl ?_
          refine j_aload_n (pc' := 32) q29_31 rfl (by decide) rfl ?_
          refine j_getr (k := 1) (q := 3) (pc' := 35) q29_32 rfl (hρ 1 3 3 rfl) rfl ?_
          refine j_iload_n (pc' := 36) q29_35 rfl rfl ?_
          refine j_if (fun hi8 => ?_) (fun _ => j_none)
          refine j_iald (k := 3) (N := 16) (pc' := 37) q29_36 rfl hi8 rfl ?_
          refine j_icmp_eq (pc' := 40) q29_37 rfl (fun c9 => ?_) (fun c9 => ?_)
          · refine j_iinc2 (pc' := 45) q29_42 rfl (Nat.le_of_ble_eq_true rfl) rfl ?_
            refine j_goto q29_45 rfl ?_
            exact j_again (j_forget (z_le_s (z_le_s (z_le_s (z_le_nil)))) (hR1 (s1 + (1 : Int32))))
          · refine j_iconst (pc' := 41) q29_40 rfl ?_
            refine j_exit ?_
            exact j_pzret q29_41 rfl (Or.inl rfl)
        · refine j_iconst (pc' := 41) q29_40 rfl ?_
          refine j_exit ?_
          exact j_pzret q29_41 rfl (Or.inl rfl)
theorem q125_0 : z_fi (z_mi 125) 0 = some (0, .aload_n 0, 0, 0, 0, 0, 0) := rfl
theorem q125_1 : z_fi (z_mi 125) 1 = some (1, .getfield 16, 0, 9, 1, 0, 0) := rfl
theorem q125_4 : z_fi (z_mi 125) 4 = some (4, .aload_n 0, 0, 0, 0, 0, 0) := rfl
theorem q125_5 : z_fi (z_mi 125) 5 = some (5, .getfield 10, 0, 9, 0, 0, 0) := rfl
theorem q125_8 : z_fi (z_mi 125) 8 = some (8, .invokevirtual 85, 0, 6, 1, 0, 0) := rfl
theorem q125_11 : z_fi (z_mi 125) 11 = some (11, .iconst 1, 0, 0, 0, 1, 0) := rfl
theorem q125_12 : z_fi (z_mi 125) 12 = some (12, .istore_n 1, 0, 0, 0, 0, 0) := rfl
theorem q125_13 : z_fi (z_mi 125) 13 = some (13, .iload_n 1, 0, 0, 0, 0, 0) := rfl
theorem q125_14 : z_fi (z_mi 125) 14 = some (14, .bipush 60, 0, 0, 0, 60, 0) := rfl
theorem q125_16 : z_fi (z_mi 125) 16 = some (16, .if_icmp .gt 33, 0, 49, 0, 0, 0) := rfl
theorem q125_19 : z_fi (z_mi 125) 19 = some (19, .aload_n 0, 0, 0, 0, 0, 0) := rfl
theorem q125_20 : z_fi (z_mi 125) 20 = some (20, .getfield 16, 0, 9, 1, 0, 0) := rfl
theorem q125_23 : z_fi (z_mi 125) 23 = some (23, .iconst 1, 0, 0, 0, 1, 0) := rfl
theorem q125_24 : z_fi (z_mi 125) 24 = some (24, .invokevirtual 196, 0, 19, 1, 0, 0) := rfl
theorem q125_27 : z_fi (z_mi 125) 27 = some (27, .aload_n 0, 0, 0, 0, 0, 0) := rfl
theorem q125_28 : z_fi (z_mi 125) 28 = some (28, .getfield 16, 0, 9, 1, 0, 0) := rfl
theorem q125_31 : z_fi (z_mi 125) 31 = some (31, .aload_n 0, 0, 0, 0, 0, 0) := rfl
theorem q125_32 : z_fi (z_mi 125) 32 = some (32, .getfield 10, 0, 9, 0, 0, 0) := rfl
theorem q125_35 : z_fi (z_mi 125) 35 = some (35, .invokevirtual 211, 0, 29, 1, 0, 0) := rfl
theorem q125_38 : z_fi (z_mi 125) 38 = some (38, .ifCond .eq 5, 0, 43, 0, 0, 0) := rfl
theorem q125_41 : z_fi (z_mi 125) 41 = some (41, .iload_n 1, 0, 0, 0, 0, 0) := rfl
theorem q125_42 : z_fi (z_mi 125) 42 = some (42, .ireturn, 0, 0, 0, 0, 0) := rfl
theorem q125_43 : z_fi (z_mi 125) 43 = some (43, .iinc 1 1, 0, 0, 0, 1, 0) := rfl
theorem q125_46 : z_fi (z_mi 125) 46 = some (46, .goto (-33), 0, 13, 0, 0, 0) := rfl
theorem q125_49 : z_fi (z_mi 125) 49 = some (49, .bipush (-4), 0, 0, 0, (-4), 0) := rfl
theorem q125_51 : z_fi (z_mi 125) 51 = some (51, .ireturn, 0, 0, 0, 0, 0) := rfl
set_option maxRecDepth 20000 in
set_option maxHeartbeats 4000000 in
theorem t_Y_again {xL : Nat} {xs : Nat → Int32} {ρ : Nat → Nat → Option Nat} (hρ : z_hR ρ) (d : Nat)  (σ : zS) : ∀ q, f_Y_again  σ = some q → z_ec xL xs ρ (d + 7) 125 [.ref 0] σ (em_i q) := by
  refine j_of (W := [.ref 0, .null]) (fun L hL => ?_) ?_
  · subst hL; exact z_vl_0 _ 1 rfl
  · unfold f_Y_again
    refine j_aload_n (pc' := 1) q125_0 rfl (by decide) rfl ?_
    refine j_getr (k := 0) (q := 17) (pc' := 4) q125_1 rfl (hρ 0 1 17 rfl) rfl ?_
    refine j_aload_n (pc' := 5) q125_4 rfl (by decide) rfl ?_
    refine j_getr (k := 0) (q := 1) (pc' := 8) q125_5 rfl (hρ 0 0 1 rfl) rfl ?_
    refine j_callV1_v (d := d + 6) (pc' := 11) q125_8 rfl (Nat.le_of_ble_eq_true rfl) (Nat.le_of_ble_eq_true rfl) rfl (t_G_copyFrom_17_1 hρ (d + 5) _) (fun r1 => ?_)
    refine j_iconst (pc' := 12) q125_11 rfl ?_
    refine j_istore1 (pc' := 13) q125_12 rfl (Nat.le_of_ble_eq_true rfl) rfl ?_
    refine j_forget (V' := [.ref 0, .int (1 : Int32)]) (z_le_s (z_le_s (z_le_nil))) ?_
    refine j_loopX (S := Int32 × zS) (E := zS) Sum.inl 49 (fun s2 => [.ref 0, .int s2.1]) (fun s2 => s2.2) (fun b2 => [.null, .null]) (fun b2 => b2) (fun b2 => ?_) (fun R2 hR2 hX2 s2 => ?_) ((1 : Int32), r1)
    · show z_J _ _ _ _ _ _ _ _ _ _ _ _
      refine j_bipush (pc' := 51) q125_49 rfl ?_
      exact j_iret q125_51 rfl
    · show z_J _ _ _ _ _ _ _ _ _ _ _ _
      refine j_iload_n (pc' := 14) q125_13 rfl rfl ?_
      refine j_bipush (pc' := 16) q125_14 rfl ?_
      refine j_icmp_gt (pc' := 19) q125_16 rfl (fun c3 => ?_) (fun c3 => ?_)
      · exact j_exit (j_forget (z_le_n (z_le_n (z_le_nil))) (hX2 s2.2))
      · refine j_aload_n (pc' := 20) q125_19 rfl (by decide) rfl ?_
        refine j_getr (k := 0) (q := 17) (pc' := 23) q125_20 rfl (hρ 0 1 17 rfl) rfl ?_
        refine j_iconst (pc' := 24) q125_23 rfl ?_
        refine j_callV1_v (d := d + 6) (pc' := 27) q125_24 rfl (Nat.le_of_ble_eq_true rfl) (Nat.le_of_ble_eq_true rfl) rfl (t_G_goOn_17 hρ (d + 0) _ _) (fun r4 => ?_)
        refine j_aload_n (pc' := 28) q125_27 rfl (by decide) rfl ?_
        refine j_getr (k := 0) (q := 17) (pc' := 31) q125_28 rfl (hρ 0 1 17 rfl) rfl ?_
        refine j_aload_n (pc' := 32) q125_31 rfl (by decide) rfl ?_
        refine j_getr (k := 0) (q := 1) (pc' := 35) q125_32 rfl (hρ 0 0 1 rfl) rfl ?_
        refine j_callV1_pi (d := d + 6) (pc' := 38) q125_35 rfl (Nat.le_of_ble_eq_true rfl) (Nat.le_of_ble_eq_true rfl) rfl (t_G_liesAs_17_1 hρ (d + 5) _) (fun r5 => ?_)
        refine j_if_eq (pc' := 41) q125_38 rfl (fun c6 => ?_) (fun c6 => ?_)
        · refine j_iinc1 (pc' := 46) q125_43 rfl (Nat.le_of_ble_eq_true rfl) rfl ?_
          refine j_goto q125_46 rfl ?_
          exact j_again (j_forget (z_le_s (z_le_s (z_le_nil))) (hR2 ((s2.1 + (1 : Int32)), r4)))
        · refine j_iload_n (pc' := 42) q125_41 rfl rfl ?_
          refine j_exit ?_
          exact j_iret q125_42 rfl
set_option maxRecDepth 8000 in
theorem q203_0 : z_fi (z_mi 203) 0 = some (0, .iconst 1, 0, 0, 0, 1, 0) := rfl
set_option maxRecDepth 8000 in
theorem q203_1 : z_fi (z_mi 203) 1 = some (1, .istore_n 2, 0, 0, 0, 0, 0) := rfl
set_option maxRecDepth 8000 in
theorem q203_2 : z_fi (z_mi 203) 2 = some (2, .iconst 0, 0, 0, 0, 0, 0) := rfl
set_option maxRecDepth 8000 in
theorem q203_3 : z_fi (z_mi 203) 3 = some (3, .istore_n 3, 0, 0, 0, 0, 0) := rfl
set_option maxRecDepth 8000 in
theorem q203_4 : z_fi (z_mi 203) 4 = some (4, .iload_n 3, 0, 0, 0, 0, 0) := rfl
set_option maxRecDepth 8000 in
theorem q203_5 : z_fi (z_mi 203) 5 = some (5, .aload_n 0, 0, 0, 0, 0, 0) := rfl
set_option maxRecDepth 8000 in
theorem q203_6 : z_fi (z_mi 203) 6 = some (6, .getfield 13, 0, 10, 1, 0, 0) := rfl
set_option maxRecDepth 8000 in
theorem q203_9 : z_fi (z_mi 203) 9 = some (9, .aload_n 0, 0, 0, 0, 0, 0) := rfl
set_option maxRecDepth 8000 in
theorem q203_10 : z_fi (z_mi 203) 10 = some (10, .getfield 17, 0, 10, 2, 0, 0) := rfl
set_option maxRecDepth 8000 in
theorem q203_13 : z_fi (z_mi 203) 13 = some (13, .imul, 0, 0, 0, 0, 0) := rfl
set_option maxRecDepth 8000 in
theorem q203_14 : z_fi (z_mi 203) 14 = some (14, .if_icmp .ge 59, 0, 73, 0, 0, 0) := rfl
set_option maxRecDepth 8000 in
theorem q203_17 : z_fi (z_mi 203) 17 = some (17, .iload_n 2, 0, 0, 0, 0, 0) := rfl
set_option maxRecDepth 8000 in
theorem q203_18 : z_fi (z_mi 203) 18 = some (18, .ifCond .eq 47, 0, 65, 0, 0, 0) := rfl
set_option maxRecDepth 8000 in
theorem q203_21 : z_fi (z_mi 203) 21 = some (21, .aload_n 0, 0, 0, 0, 0, 0) := rfl
set_option maxRecDepth 8000 in
theorem q203_22 : z_fi (z_mi 203) 22 = some (22, .iload_n 1, 0, 0, 0, 0, 0) := rfl
set_option maxRecDepth 8000 in
theorem q203_23 : z_fi (z_mi 203) 23 = some (23, .iload_n 3, 0, 0, 0, 0, 0) := rfl
set_option maxRecDepth 8000 in
theorem q203_24 : z_fi (z_mi 203) 24 = some (24, .invokevirtual 159, 0, 169, 2, 0, 0) := rfl
set_option maxRecDepth 8000 in
theorem q203_27 : z_fi (z_mi 203) 27 = some (27, .aload_n 0, 0, 0, 0, 0, 0) := rfl
set_option maxRecDepth 8000 in
theorem q203_28 : z_fi (z_mi 203) 28 = some (28, .iconst 0, 0, 0, 0, 0, 0) := rfl
set_option maxRecDepth 8000 in
theorem q203_29 : z_fi (z_mi 203) 29 = some (29, .iload_n 3, 0, 0, 0, 0, 0) := rfl
set_option maxRecDepth 8000 in
theorem q203_30 : z_fi (z_mi 203) 30 = some (30, .invokevirtual 159, 0, 169, 2, 0, 0) := rfl
set_option maxRecDepth 8000 in
theorem q203_33 : z_fi (z_mi 203) 33 = some (33, .if_icmp .ne 32, 0, 65, 0, 0, 0) := rfl
set_option maxRecDepth 8000 in
theorem q203_36 : z_fi (z_mi 203) 36 = some (36, .aload_n 0, 0, 0, 0, 0, 0) := rfl
set_option maxRecDepth 8000 in
theorem q203_37 : z_fi (z_mi 203) 37 = some (37, .getfield 7, 0, 10, 0, 0, 0) := rfl
set_option maxRecDepth 8000 in
theorem q203_40 : z_fi (z_mi 203) 40 = some (40, .iload_n 1, 0, 0, 0, 0, 0) := rfl
set_option maxRecDepth 8000 in
theorem q203_41 : z_fi (z_mi 203) 41 = some (41, .iconst 5, 0, 0, 0, 5, 0) := rfl
set_option maxRecDepth 8000 in
theorem q203_42 : z_fi (z_mi 203) 42 = some (42, .iload_n 3, 0, 0, 0, 0, 0) := rfl
set_option maxRecDepth 8000 in
theorem q203_43 : z_fi (z_mi 203) 43 = some (43, .imul, 0, 0, 0, 0, 0) := rfl
set_option maxRecDepth 8000 in
theorem q203_44 : z_fi (z_mi 203) 44 = some (44, .iadd, 0, 0, 0, 0, 0) := rfl
set_option maxRecDepth 8000 in
theorem q203_45 : z_fi (z_mi 203) 45 = some (45, .iconst 1, 0, 0, 0, 1, 0) := rfl
set_option maxRecDepth 8000 in
theorem q203_46 : z_fi (z_mi 203) 46 = some (46, .iadd, 0, 0, 0, 0, 0) := rfl
set_option maxRecDepth 8000 in
theorem q203_47 : z_fi (z_mi 203) 47 = some (47, .iaload, 0, 0, 0, 0, 0) := rfl
set_option maxRecDepth 8000 in
theorem q203_48 : z_fi (z_mi 203) 48 = some (48, .aload_n 0, 0, 0, 0, 0, 0) := rfl
set_option maxRecDepth 8000 in
theorem q203_49 : z_fi (z_mi 203) 49 = some (49, .getfield 7, 0, 10, 0, 0, 0) := rfl
set_option maxRecDepth 8000 in
theorem q203_52 : z_fi (z_mi 203) 52 = some (52, .iconst 5, 0, 0, 0, 5, 0) := rfl
set_option maxRecDepth 8000 in
theorem q203_53 : z_fi (z_mi 203) 53 = some (53, .iload_n 3, 0, 0, 0, 0, 0) := rfl
set_option maxRecDepth 8000 in
theorem q203_54 : z_fi (z_mi 203) 54 = some (54, .imul, 0, 0, 0, 0, 0) := rfl
set_option maxRecDepth 8000 in
theorem q203_55 : z_fi (z_mi 203) 55 = some (55, .iconst 1, 0, 0, 0, 1, 0) := rfl
set_option maxRecDepth 8000 in
theorem q203_56 : z_fi (z_mi 203) 56 = some (56, .iadd, 0, 0, 0, 0, 0) := rfl
set_option maxRecDepth 8000 in
theorem q203_57 : z_fi (z_mi 203) 57 = some (57, .iaload, 0, 0, 0, 0, 0) := rfl
set_option maxRecDepth 8000 in
theorem q203_58 : z_fi (z_mi 203) 58 = some (58, .if_icmp .ne 7, 0, 65, 0, 0, 0) := rfl
set_option maxRecDepth 8000 in
theorem q203_61 : z_fi (z_mi 203) 61 = some (61, .iconst 1, 0, 0, 0, 1, 0) := rfl
set_option maxRecDepth 8000 in
theorem q203_62 : z_fi (z_mi 203) 62 = some (62, .goto 4, 0, 66, 0, 0, 0) := rfl
set_option maxRecDepth 8000 in
theorem q203_65 : z_fi (z_mi 203) 65 = some (65, .iconst 0, 0, 0, 0, 0, 0) := rfl
set_option maxRecDepth 8000 in
theorem q203_66 : z_fi (z_mi 203) 66 = some (66, .istore_n 2, 0, 0, 0, 0, 0) := rfl
set_option maxRecDepth 8000 in
theorem q203_67 : z_fi (z_mi 203) 67 = some (67, .iinc 3 1, 0, 0, 0, 1, 0) := rfl
set_option maxRecDepth 8000 in
theorem q203_70 : z_fi (z_mi 203) 70 = some (70, .goto (-66), 0, 4, 0, 0, 0) := rfl
set_option maxRecDepth 8000 in
theorem q203_73 : z_fi (z_mi 203) 73 = some (73, .iload_n 2, 0, 0, 0, 0, 0) := rfl
set_option maxRecDepth 8000 in
theorem q203_74 : z_fi (z_mi 203) 74 = some (74, .ireturn, 0, 0, 0, 0, 0) := rfl
set_option maxRecDepth 20000 in
set_option maxHeartbeats 4000000 in
theorem t_M_liesAsNow {xL : Nat} {xs : Nat → Int32} {ρ : Nat → Nat → Option Nat} (hρ : z_hR ρ) (d : Nat) (a1 : Int32) (σ : zS) : ∀ q, f_M_liesAsNow a1 σ = some q → z_ec xL xs ρ (d + 1) 203 [.ref 90, .int a1] σ (em_pi σ q) := by
  refine j_of (W := [.ref 90, .int a1, .null, .null]) (fun L hL => ?_) ?_
  · subst hL; exact z_vl_0 _ 2 rfl
  · unfold f_M_liesAsNow
    refine j_iconst (pc' := 1) q203_0 rfl ?_
    refine j_istore2 (pc' := 2) q203_1 rfl (Nat.le_of_ble_eq_true rfl) rfl ?_
    refine j_iconst (pc' := 3) q203_2 rfl ?_
    refine j_istore3 (pc' := 4) q203_3 rfl (Nat.le_of_ble_eq_true rfl) rfl ?_
    refine j_forget (V' := [.ref 90, .int a1, .int (1 : Int32), .int (0 : Int32)]) (z_le_s (z_le_s (z_le_s (z_le_s (z_le_nil))))) ?_
    refine j_loopX (S := Int32 × Int32) (E := Int32) (fun e => e) 73 (fun s1 => [.ref 90, .int a1, .int s1.1, .int s1.2]) (fun s1 => σ) (fun b1 => [.null, .null, .int b1, .null]) (fun b1 => σ) (fun b1 => ?_) (fun R1 hR1 hX1 s1 => ?_) ((1 : Int32), (0 : Int32))
    · show z_J _ _ _ _ _ _ _ _ _ _ _ _
      refine j_iload_n (pc' := 74) q203_73 rfl rfl ?_
      refine j_if (fun hb12 => ?_) (fun _ => j_none)
      exact j_pzret q203_74 rfl hb12
    · show z_J _ _ _ _ _ _ _ _ _ _ _ _
      refine j_iload_n (pc' := 5) q203_4 rfl rfl ?_
      refine j_aload_n (pc' := 6) q203_5 rfl (by decide) rfl ?_
      refine j_getf (k := 90) (pc' := 9) q203_6 rfl rfl ?_
      refine j_aload_n (pc' := 10) q203_9 rfl (by decide) rfl ?_
      refine j_getf (k := 90) (pc' := 13) q203_10 rfl rfl ?_
      refine j_imul (pc' := 14) q203_13 rfl ?_
      refine j_icmp_ge (pc' := 17) q203_14 rfl (fun c2 => ?_) (fun c2 => ?_)
      · exact j_exit (j_forget (z_le_n (z_le_n (z_le_s (z_le_n (z_le_nil))))) (hX1 s1.1))
      · refine j_iload_n (pc' := 18) q203_17 rfl rfl ?_
        refine j_join (T := Int32) 66 (fun t3 => [.ref 90, .int a1, .null, .int s1.2]) (fun t3 => [.int t3]) (fun t3 => σ) (fun t3 => ?_) (fun j3 hj3 => ?_)
        · show z_J _ _ _ _ _ _ _ _ _ _ _ _
          refine j_istore2 (pc' := 67) q203_66 rfl (Nat.le_of_ble_eq_true rfl) rfl ?_
          refine j_iinc3 (pc' := 70) q203_67 rfl (Nat.le_of_ble_eq_true rfl) rfl ?_
          refine j_goto q203_70 rfl ?_
          exact j_again (j_forget (z_le_s (z_le_s (z_le_s (z_le_s (z_le_nil))))) (hR1 (t3, (s1.2 + (1 : Int32)))))
        · show z_J _ _ _ _ _ _ _ _ _ _ _ _
          refine j_join (T := Unit) 65 (fun t4 => [.ref 90, .int a1, .null, .int s1.2]) (fun t4 => []) (fun t4 => σ) (fun t4 => ?_) (fun j4 hj4 => ?_)
          · show z_J _ _ _ _ _ _ _ _ _ _ _ _
            refine j_iconst (pc' := 66) q203_65 rfl ?_
            refine j_forget (z_le_s (z_le_s (z_le_n (z_le_s (z_le_nil))))) (hj3 (0 : Int32))
          · show z_J _ _ _ _ _ _ _ _ _ _ _ _
            refine j_if_eq (pc' := 21) q203_18 rfl (fun c5 => ?_) (fun c5 => ?_)
            · refine j_forget (z_le_s (z_le_s (z_le_n (z_le_s (z_le_nil))))) (hj4 ())
            · refine j_aload_n (pc' := 22) q203_21 rfl (by decide) rfl ?_
              refine j_iload_n (pc' := 23) q203_22 rfl rfl ?_
              refine j_iload_n (pc' := 24) q203_23 rfl rfl ?_
              refine j_callV2_pi (d := d + 0) (pc' := 27) q203_24 rfl (Nat.le_of_ble_eq_true rfl) (Nat.le_of_ble_eq_true rfl) rfl (t_M_lies hρ (d + 0) _ _ _) (fun r6 => ?_)
              refine j_aload_n (pc' := 28) q203_27 rfl (by decide) rfl ?_
              refine j_iconst (pc' := 29) q203_28 rfl ?_
              refine j_iload_n (pc' := 30) q203_29 rfl rfl ?_
              refine j_callV2_pi (d := d + 0) (pc' := 33) q203_30 rfl (Nat.le_of_ble_eq_true rfl) (Nat.le_of_ble_eq_true rfl) rfl (t_M_lies hρ (d + 0) _ _ _) (fun r7 => ?_)
              refine j_icmp_ne (pc' := 36) q203_33 rfl (fun c8 => ?_) (fun c8 => ?_)
              · refine j_aload_n (pc' := 37) q203_36 rfl (by decide) rfl ?_
                refine j_getr (k := 90) (q := 91) (pc' := 40) q203_37 rfl (hρ 90 0 91 rfl) rfl ?_
                refine j_iload_n (pc' := 41) q203_40 rfl rfl ?_
                refine j_iconst (pc' := 42) q203_41 rfl ?_
                refine j_iload_n (pc' := 43) q203_42 rfl rfl ?_
                refine j_imul (pc' := 44) q203_43 rfl ?_
                refine j_iadd (pc' := 45) q203_44 rfl ?_
                refine j_iconst (pc' := 46) q203_45 rfl ?_
                refine j_iadd (pc' := 47) q203_46 rfl ?_
                refine j_if (fun hi9 => ?_) (fun _ => j_none)
                refine j_iald (k := 91) (N := 550) (pc' := 48) q203_47 rfl hi9 rfl ?_
                refine j_aload_n (pc' := 49) q203_48 rfl (by decide) rfl ?_
                refine j_getr (k := 90) (q := 91) (pc' := 52) q203_49 rfl (hρ 90 0 91 rfl) rfl ?_
                refine j_iconst (pc' := 53) q203_52 rfl ?_
                refine j_iload_n (pc' := 54) q203_53 rfl rfl ?_
                refine j_imul (pc' := 55) q203_54 rfl ?_
                refine j_iconst (pc' := 56) q203_55 rfl ?_
                refine j_iadd (pc' := 57) q203_56 rfl ?_
                refine j_if (fun hi10 => ?_) (fun _ => j_none)
                refine j_iald (k := 91) (N := 550) (pc' := 58) q203_57 rfl hi10 rfl ?_
                refine j_icmp_ne (pc' := 61) q203_58 rfl (fun c11 => ?_) (fun c11 => ?_)
                · refine j_iconst (pc' := 62) q203_61 rfl ?_
                  refine j_goto q203_62 rfl ?_
                  refine j_forget (z_le_s (z_le_s (z_le_n (z_le_s (z_le_nil))))) (hj3 (1 : Int32))
                · refine j_forget (z_le_s (z_le_s (z_le_n (z_le_s (z_le_nil))))) (hj4 ())
              · refine j_forget (z_le_s (z_le_s (z_le_n (z_le_s (z_le_nil))))) (hj4 ())
set_option maxRecDepth 8000 in
theorem q204_0 : z_fi (z_mi 204) 0 = some (0, .aload_n 0, 0, 0, 0, 0, 0) := rfl
set_option maxRecDepth 8000 in
theorem q204_1 : z_fi (z_mi 204) 1 = some (1, .iconst 0, 0, 0, 0, 0, 0) := rfl
set_option maxRecDepth 8000 in
theorem q204_2 : z_fi (z_mi 204) 2 = some (2, .sipush 440, 0, 0, 0, 440, 0) := rfl
set_option maxRecDepth 8000 in
theorem q204_5 : z_fi (z_mi 204) 5 = some (5, .invokevirtual 227, 0, 195, 2, 0, 0) := rfl
set_option maxRecDepth 8000 in
theorem q204_8 : z_fi (z_mi 204) 8 = some (8, .iconst 1, 0, 0, 0, 1, 0) := rfl
set_option maxRecDepth 8000 in
theorem q204_9 : z_fi (z_mi 204) 9 = some (9, .istore_n 1, 0, 0, 0, 0, 0) := rfl
set_option maxRecDepth 8000 in
theorem q204_10 : z_fi (z_mi 204) 10 = some (10, .iload_n 1, 0, 0, 0, 0, 0) := rfl
set_option maxRecDepth 8000 in
theorem q204_11 : z_fi (z_mi 204) 11 = some (11, .bipush 60, 0, 0, 0, 60, 0) := rfl
set_option maxRecDepth 8000 in
theorem q204_13 : z_fi (z_mi 204) 13 = some (13, .if_icmp .gt 29, 0, 42, 0, 0, 0) := rfl
set_option maxRecDepth 8000 in
theorem q204_16 : z_fi (z_mi 204) 16 = some (16, .aload_n 0, 0, 0, 0, 0, 0) := rfl
set_option maxRecDepth 8000 in
theorem q204_17 : z_fi (z_mi 204) 17 = some (17, .sipush 440, 0, 0, 0, 440, 0) := rfl
set_option maxRecDepth 8000 in
theorem q204_20 : z_fi (z_mi 204) 20 = some (20, .iconst 1, 0, 0, 0, 1, 0) := rfl
set_option maxRecDepth 8000 in
theorem q204_21 : z_fi (z_mi 204) 21 = some (21, .invokevirtual 224, 0, 194, 2, 0, 0) := rfl
set_option maxRecDepth 8000 in
theorem q204_24 : z_fi (z_mi 204) 24 = some (24, .aload_n 0, 0, 0, 0, 0, 0) := rfl
set_option maxRecDepth 8000 in
theorem q204_25 : z_fi (z_mi 204) 25 = some (25, .sipush 440, 0, 0, 0, 440, 0) := rfl
set_option maxRecDepth 8000 in
theorem q204_28 : z_fi (z_mi 204) 28 = some (28, .invokevirtual 233, 0, 203, 1, 0, 0) := rfl
set_option maxRecDepth 8000 in
theorem q204_31 : z_fi (z_mi 204) 31 = some (31, .ifCond .eq 5, 0, 36, 0, 0, 0) := rfl
set_option maxRecDepth 8000 in
theorem q204_34 : z_fi (z_mi 204) 34 = some (34, .iload_n 1, 0, 0, 0, 0, 0) := rfl
set_option maxRecDepth 8000 in
theorem q204_35 : z_fi (z_mi 204) 35 = some (35, .ireturn, 0, 0, 0, 0, 0) := rfl
set_option maxRecDepth 8000 in
theorem q204_36 : z_fi (z_mi 204) 36 = some (36, .iinc 1 1, 0, 0, 0, 1, 0) := rfl
set_option maxRecDepth 8000 in
theorem q204_39 : z_fi (z_mi 204) 39 = some (39, .goto (-29), 0, 10, 0, 0, 0) := rfl
set_option maxRecDepth 8000 in
theorem q204_42 : z_fi (z_mi 204) 42 = some (42, .bipush (-4), 0, 0, 0, (-4), 0) := rfl
set_option maxRecDepth 8000 in
theorem q204_44 : z_fi (z_mi 204) 44 = some (44, .ireturn, 0, 0, 0, 0, 0) := rfl
set_option maxRecDepth 20000 in
set_option maxHeartbeats 4000000 in
theorem t_M_again {xL : Nat} {xs : Nat → Int32} {ρ : Nat → Nat → Option Nat} (hρ : z_hR ρ) (d : Nat)  (σ : zS) : ∀ q, f_M_again  σ = some q → z_ec xL xs ρ (d + 4) 204 [.ref 90] σ (em_i q) := by
  refine j_of (W := [.ref 90, .null]) (fun L hL => ?_) ?_
  · subst hL; exact z_vl_0 _ 1 rfl
  · unfold f_M_again
    refine j_aload_n (pc' := 1) q204_0 rfl (by decide) rfl ?_
    refine j_iconst (pc' := 2) q204_1 rfl ?_
    refine j_sipush (pc' := 5) q204_2 rfl ?_
    refine j_callV2_v (d := d + 3) (pc' := 8) q204_5 rfl (Nat.le_of_ble_eq_true rfl) (Nat.le_of_ble_eq_true rfl) rfl (t_M_copies hρ (d + 3) _ _ _) (fun r1 => ?_)
    refine j_iconst (pc' := 9) q204_8 rfl ?_
    refine j_istore1 (pc' := 10) q204_9 rfl (Nat.le_of_ble_eq_true rfl) rfl ?_
    refine j_forget (V' := [.ref 90, .int (1 : Int32)]) (z_le_s (z_le_s (z_le_nil))) ?_
    refine j_loopX (S := Int32 × zS) (E := zS) Sum.inl 42 (fun s2 => [.ref 90, .int s2.1]) (fun s2 => s2.2) (fun b2 => [.null, .null]) (fun b2 => b2) (fun b2 => ?_) (fun R2 hR2 hX2 s2 => ?_) ((1 : Int32), r1)
    · show z_J _ _ _ _ _ _ _ _ _ _ _ _
      refine j_bipush (pc' := 44) q204_42 rfl ?_
      exact j_iret q204_44 rfl
    · show z_J _ _ _ _ _ _ _ _ _ _ _ _
      refine j_iload_n (pc' := 11) q204_10 rfl rfl ?_
      refine j_bipush (pc' := 13) q204_11 rfl ?_
      refine j_icmp_gt (pc' := 16) q204_13 rfl (fun c3 => ?_) (fun c3 => ?_)
      · exact j_exit (j_forget (z_le_n (z_le_n (z_le_nil))) (hX2 s2.2))
      · refine j_aload_n (pc' := 17) q204_16 rfl (by decide) rfl ?_
        refine j_sipush (pc' := 20) q204_17 rfl ?_
        refine j_iconst (pc' := 21) q204_20 rfl ?_
        refine j_callV2_v (d := d + 3) (pc' := 24) q204_21 rfl (Nat.le_of_ble_eq_true rfl) (Nat.le_of_ble_eq_true rfl) rfl (t_M_weeks hρ (d + 0) _ _ _) (fun r4 => ?_)
        refine j_aload_n (pc' := 25) q204_24 rfl (by decide) rfl ?_
        refine j_sipush (pc' := 28) q204_25 rfl ?_
        refine j_callV1_pi (d := d + 3) (pc' := 31) q204_28 rfl (Nat.le_of_ble_eq_true rfl) (Nat.le_of_ble_eq_true rfl) rfl (t_M_liesAsNow hρ (d + 2) _ _) (fun r5 => ?_)
        refine j_if_eq (pc' := 34) q204_31 rfl (fun c6 => ?_) (fun c6 => ?_)
        · refine j_iinc1 (pc' := 39) q204_36 rfl (Nat.le_of_ble_eq_true rfl) rfl ?_
          refine j_goto q204_39 rfl ?_
          exact j_again (j_forget (z_le_s (z_le_s (z_le_nil))) (hR2 ((s2.1 + (1 : Int32)), r4)))
        · refine j_iload_n (pc' := 35) q204_34 rfl rfl ?_
          refine j_exit ?_
          exact j_iret q204_35 rfl
set_option maxRecDepth 20000 in
set_option maxHeartbeats 4000000 in
theorem t_JA_fill_42 {xL : Nat} {xs : Nat → Int32} {ρ : Nat → Nat → Option Nat} (hρ : z_hR ρ) (d : Nat) (a1 : Int32) (σ : zS) : ∀ q, f_JA_fill_42 a1 σ = some q → z_ec xL xs ρ (d + 0) 240 [.ref 42, .int a1] σ (em_v q) := by
  refine j_of (W := [.ref 42, .int a1, .null, .null]) (fun L hL => ?_) ?_
  · subst hL; exact z_vl_0 _ 2 rfl
  · unfold f_JA_fill_42
    refine j_iconst (pc' := 1) q240_0 rfl ?_
    refine j_istore2 (pc' := 2) q240_1 rfl (Nat.le_of_ble_eq_true rfl) rfl ?_
    refine j_aload_n (pc' := 3) q240_2 rfl (by decide) rfl ?_
    refine j_alen (k := 42) (N := 777) (pc' := 4) q240_3 ⟨Nat.le_of_ble_eq_true rfl, by decide, rfl⟩ rfl ?_
    refine j_istore3 (pc' := 5) q240_4 rfl (Nat.le_of_ble_eq_true rfl) rfl ?_
    refine j_forget (V' := [.ref 42, .int a1, .int (0 : Int32), .int (777 : Int32)]) (z_le_s (z_le_s (z_le_s (z_le_s (z_le_nil))))) ?_
    refine j_loopX (S := Int32 × zS) (E := zS) (fun e => e) 20 (fun s1 => [.ref 42, .int a1, .int s1.1, .int (777 : Int32)]) (fun s1 => s1.2) (fun b1 => [.null, .null, .null, .null]) (fun b1 => b1) (fun b1 => ?_) (fun R1 hR1 hX1 s1 => ?_) ((0 : Int32), σ)
    · show z_J _ _ _ _ _ _ _ _ _ _ _ _
      exact j_vret q240_20 rfl
    · show z_J _ _ _ _ _ _ _ _ _ _ _ _
      refine j_iload_n (pc' := 6) q240_5 rfl rfl ?_
      refine j_iload_n (pc' := 7) q240_6 rfl rfl ?_
      refine j_icmp_ge (pc' := 10) q240_7 rfl (fun c2 => ?_) (fun c2 => ?_)
      · exact j_exit (j_forget (z_le_n (z_le_n (z_le_n (z_le_n (z_le_nil))))) (hX1 s1.2))
      · refine j_aload_n (pc' := 11) q240_10 rfl (by decide) rfl ?_
        refine j_iload_n (pc' := 12) q240_11 rfl rfl ?_
        refine j_iload_n (pc' := 13) q240_12 rfl rfl ?_
        refine j_if (fun hi3 => ?_) (fun _ => j_none)
        refine j_iast (k := 42) (N := 777) (pc' := 14) q240_13 rfl hi3 rfl ?_
        refine j_nameS (fun τ4 => ?_)
        refine j_iinc2 (pc' := 17) q240_14 rfl (Nat.le_of_ble_eq_true rfl) rfl ?_
        refine j_goto q240_17 rfl ?_
        exact j_again (j_forget (z_le_s (z_le_s (z_le_s (z_le_s (z_le_nil))))) (hR1 ((s1.1 + (1 : Int32)), τ4)))
theorem q45_0 : z_fi (z_mi 45) 0 = some (0, .iload_n 0, 0, 0, 0, 0, 0) := rfl
theorem q45_1 : z_fi (z_mi 45) 1 = some (1, .ifCond .ne 7, 0, 8, 0, 0, 0) := rfl
theorem q45_4 : z_fi (z_mi 45) 4 = some (4, .iconst 4, 0, 0, 0, 4, 0) := rfl
theorem q45_5 : z_fi (z_mi 45) 5 = some (5, .goto 9, 0, 14, 0, 0, 0) := rfl
theorem q45_8 : z_fi (z_mi 45) 8 = some (8, .iload_n 0, 0, 0, 0, 0, 0) := rfl
theorem q45_9 : z_fi (z_mi 45) 9 = some (9, .iconst 1, 0, 0, 0, 1, 0) := rfl
theorem q45_10 : z_fi (z_mi 45) 10 = some (10, .isub, 0, 0, 0, 0, 0) := rfl
theorem q45_11 : z_fi (z_mi 45) 11 = some (11, .bipush 9, 0, 0, 0, 9, 0) := rfl
theorem q45_13 : z_fi (z_mi 45) 13 = some (13, .idiv, 0, 0, 0, 0, 0) := rfl
theorem q45_14 : z_fi (z_mi 45) 14 = some (14, .ireturn, 0, 0, 0, 0, 0) := rfl
set_option maxRecDepth 20000 in
set_option maxHeartbeats 4000000 in
theorem t_Pl_seasonOf {xL : Nat} {xs : Nat → Int32} {ρ : Nat → Nat → Option Nat} (hρ : z_hR ρ) (d : Nat) (a0 : Int32) (σ : zS) : ∀ q, f_Pl_seasonOf a0 σ = some q → z_ec xL xs ρ (d + 0) 45 [.int a0] σ (em_pi σ q) := by
  refine j_of (W := [.int a0]) (fun L hL => ?_) ?_
  · subst hL; exact z_vl_0 _ 0 rfl
  · unfold f_Pl_seasonOf
    refine j_iload_n (pc' := 1) q45_0 rfl rfl ?_
    refine j_if_ne (pc' := 4) q45_1 rfl (fun c1 => ?_) (fun c1 => ?_)
    · refine j_iconst (pc' := 5) q45_4 rfl ?_
      refine j_goto q45_5 rfl ?_
      exact j_piret q45_14 rfl
    · refine j_iload_n (pc' := 9) q45_8 rfl rfl ?_
      refine j_iconst (pc' := 10) q45_9 rfl ?_
      refine j_isub (pc' := 11) q45_10 rfl ?_
      refine j_bipush (pc' := 13) q45_11 rfl ?_
      refine j_idiv (pc' := 14) q45_13 (by decide) rfl ?_
      exact j_piret q45_14 rfl
theorem q46_0 : z_fi (z_mi 46) 0 = some (0, .iload_n 0, 0, 0, 0, 0, 0) := rfl
theorem q46_1 : z_fi (z_mi 46) 1 = some (1, .ifCond .ne 7, 0, 8, 0, 0, 0) := rfl
theorem q46_4 : z_fi (z_mi 46) 4 = some (4, .iconst 0, 0, 0, 0, 0, 0) := rfl
theorem q46_5 : z_fi (z_mi 46) 5 = some (5, .goto 11, 0, 16, 0, 0, 0) := rfl
theorem q46_8 : z_fi (z_mi 46) 8 = some (8, .iload_n 0, 0, 0, 0, 0, 0) := rfl
theorem q46_9 : z_fi (z_mi 46) 9 = some (9, .iconst 1, 0, 0, 0, 1, 0) := rfl
theorem q46_10 : z_fi (z_mi 46) 10 = some (10, .isub, 0, 0, 0, 0, 0) := rfl
theorem q46_11 : z_fi (z_mi 46) 11 = some (11, .bipush 9, 0, 0, 0, 9, 0) := rfl
theorem q46_13 : z_fi (z_mi 46) 13 = some (13, .irem, 0, 0, 0, 0, 0) := rfl
theorem q46_14 : z_fi (z_mi 46) 14 = some (14, .iconst 1, 0, 0, 0, 1, 0) := rfl
theorem q46_15 : z_fi (z_mi 46) 15 = some (15, .iadd, 0, 0, 0, 0, 0) := rfl
theorem q46_16 : z_fi (z_mi 46) 16 = some (16, .ireturn, 0, 0, 0, 0, 0) := rfl
set_option maxRecDepth 20000 in
set_option maxHeartbeats 4000000 in
theorem t_Pl_yardsOf {xL : Nat} {xs : Nat → Int32} {ρ : Nat → Nat → Option Nat} (hρ : z_hR ρ) (d : Nat) (a0 : Int32) (σ : zS) : ∀ q, f_Pl_yardsOf a0 σ = some q → z_ec xL xs ρ (d + 0) 46 [.int a0] σ (em_pi σ q) := by
  refine j_of (W := [.int a0]) (fun L hL => ?_) ?_
  · subst hL; exact z_vl_0 _ 0 rfl
  · unfold f_Pl_yardsOf
    refine j_iload_n (pc' := 1) q46_0 rfl rfl ?_
    refine j_if_ne (pc' := 4) q46_1 rfl (fun c1 => ?_) (fun c1 => ?_)
    · refine j_iconst (pc' := 5) q46_4 rfl ?_
      refine j_goto q46_5 rfl ?_
      exact j_piret q46_16 rfl
    · refine j_iload_n (pc' := 9) q46_8 rfl rfl ?_
      refine j_iconst (pc' := 10) q46_9 rfl ?_
      refine j_isub (pc' := 11) q46_10 rfl ?_
      refine j_bipush (pc' := 13) q46_11 rfl ?_
      refine j_irem (pc' := 14) q46_13 (by decide) rfl ?_
      refine j_iconst (pc' := 15) q46_14 rfl ?_
      refine j_iadd (pc' := 16) q46_15 rfl ?_
      exact j_piret q46_16 rfl
theorem q47_0 : z_fi (z_mi 47) 0 = some (0, .iload_n 1, 0, 0, 0, 0, 0) := rfl
theorem q47_1 : z_fi (z_mi 47) 1 = some (1, .invokestatic 97, 1, 45, 1, 0, 0) := rfl
theorem q47_4 : z_fi (z_mi 47) 4 = some (4, .istore_n 2, 0, 0, 0, 0, 0) := rfl
theorem q47_5 : z_fi (z_mi 47) 5 = some (5, .iload_n 2, 0, 0, 0, 0, 0) := rfl
theorem q47_6 : z_fi (z_mi 47) 6 = some (6, .invokestatic 100, 4, 100, 1, 0, 0) := rfl
theorem q47_9 : z_fi (z_mi 47) 9 = some (9, .ifCond .eq 17, 0, 26, 0, 0, 0) := rfl
theorem q47_12 : z_fi (z_mi 47) 12 = some (12, .aload_n 0, 0, 0, 0, 0, 0) := rfl
theorem q47_13 : z_fi (z_mi 47) 13 = some (13, .getfield 17, 0, 2, 1, 0, 0) := rfl
theorem q47_16 : z_fi (z_mi 47) 16 = some (16, .iload_n 2, 0, 0, 0, 0, 0) := rfl
theorem q47_17 : z_fi (z_mi 47) 17 = some (17, .iaload, 0, 0, 0, 0, 0) := rfl
theorem q47_18 : z_fi (z_mi 47) 18 = some (18, .iload_n 1, 0, 0, 0, 0, 0) := rfl
theorem q47_19 : z_fi (z_mi 47) 19 = some (19, .invokestatic 104, 1, 46, 1, 0, 0) := rfl
theorem q47_22 : z_fi (z_mi 47) 22 = some (22, .imul, 0, 0, 0, 0, 0) := rfl
theorem q47_23 : z_fi (z_mi 47) 23 = some (23, .goto 4, 0, 27, 0, 0, 0) := rfl
theorem q47_26 : z_fi (z_mi 47) 26 = some (26, .iconst 0, 0, 0, 0, 0, 0) := rfl
theorem q47_27 : z_fi (z_mi 47) 27 = some (27, .ireturn, 0, 0, 0, 0, 0) := rfl
set_option maxRecDepth 20000 in
set_option maxHeartbeats 4000000 in
theorem t_Pl_costOf_41 {xL : Nat} {xs : Nat → Int32} {ρ : Nat → Nat → Option Nat} (hρ : z_hR ρ) (d : Nat) (a1 : Int32) (σ : zS) : ∀ q, f_Pl_costOf_41 a1 σ = some q → z_ec xL xs ρ (d + 2) 47 [.ref 41, .int a1] σ (em_pi σ q) := by
  refine j_of (W := [.ref 41, .int a1, .null]) (fun L hL => ?_) ?_
  · subst hL; exact z_vl_0 _ 1 rfl
  · unfold f_Pl_costOf_41
    refine j_iload_n (pc' := 1) q47_0 rfl rfl ?_
    refine j_callS1_pi (d := d + 1) (pc' := 4) q47_1 (Or.inl rfl) (Nat.le_of_ble_eq_true rfl) (Nat.le_of_ble_eq_true rfl) rfl (t_Pl_seasonOf hρ (d + 1) _ _) (fun r1 => ?_)
    refine j_istore2 (pc' := 5) q47_4 rfl (Nat.le_of_ble_eq_true rfl) rfl ?_
    refine j_iload_n (pc' := 6) q47_5 rfl rfl ?_
    refine j_callS1_pi (d := d + 1) (pc' := 9) q47_6 (Or.inr rfl) (Nat.le_of_ble_eq_true rfl) (Nat.le_of_ble_eq_true rfl) rfl (t_Y_isSeason hρ (d + 0) _ _) (fun r2 => ?_)
    refine j_if_eq (pc' := 12) q47_9 rfl (fun c3 => ?_) (fun c3 => ?_)
    · refine j_iconst (pc' := 27) q47_26 rfl ?_
      exact j_piret q47_27 rfl
    · refine j_aload_n (pc' := 13) q47_12 rfl (by decide) rfl ?_
      refine j_getr (k := 41) (q := 43) (pc' := 16) q47_13 rfl (hρ 41 1 43 rfl) rfl ?_
      refine j_iload_n (pc' := 17) q47_16 rfl rfl ?_
      refine j_if (fun hi4 => ?_) (fun _ => j_none)
      refine j_iald (k := 43) (N := 4) (pc' := 18) q47_17 rfl hi4 rfl ?_
      refine j_iload_n (pc' := 19) q47_18 rfl rfl ?_
      refine j_callS1_pi (d := d + 1) (pc' := 22) q47_19 (Or.inl rfl) (Nat.le_of_ble_eq_true rfl) (Nat.le_of_ble_eq_true rfl) rfl (t_Pl_yardsOf hρ (d + 1) _ _) (fun r5 => ?_)
      refine j_imul (pc' := 23) q47_22 rfl ?_
      refine j_goto q47_23 rfl ?_
      exact j_piret q47_27 rfl
theorem q51_0 : z_fi (z_mi 51) 0 = some (0, .iload_n 0, 0, 0, 0, 0, 0) := rfl
theorem q51_1 : z_fi (z_mi 51) 1 = some (1, .invokestatic 104, 1, 46, 1, 0, 0) := rfl
theorem q51_4 : z_fi (z_mi 51) 4 = some (4, .iconst 1, 0, 0, 0, 1, 0) := rfl
theorem q51_5 : z_fi (z_mi 51) 5 = some (5, .if_icmp .le 9, 0, 14, 0, 0, 0) := rfl
theorem q51_8 : z_fi (z_mi 51) 8 = some (8, .iload_n 0, 0, 0, 0, 0, 0) := rfl
theorem q51_9 : z_fi (z_mi 51) 9 = some (9, .iconst 1, 0, 0, 0, 1, 0) := rfl
theorem q51_10 : z_fi (z_mi 51) 10 = some (10, .isub, 0, 0, 0, 0, 0) := rfl
theorem q51_11 : z_fi (z_mi 51) 11 = some (11, .goto 4, 0, 15, 0, 0, 0) := rfl
theorem q51_14 : z_fi (z_mi 51) 14 = some (14, .iconst 0, 0, 0, 0, 0, 0) := rfl
theorem q51_15 : z_fi (z_mi 51) 15 = some (15, .ireturn, 0, 0, 0, 0, 0) := rfl
set_option maxRecDepth 20000 in
set_option maxHeartbeats 4000000 in
theorem t_Pl_lessOne {xL : Nat} {xs : Nat → Int32} {ρ : Nat → Nat → Option Nat} (hρ : z_hR ρ) (d : Nat) (a0 : Int32) (σ : zS) : ∀ q, f_Pl_lessOne a0 σ = some q → z_ec xL xs ρ (d + 1) 51 [.int a0] σ (em_pi σ q) := by
  refine j_of (W := [.int a0]) (fun L hL => ?_) ?_
  · subst hL; exact z_vl_0 _ 0 rfl
  · unfold f_Pl_lessOne
    refine j_iload_n (pc' := 1) q51_0 rfl rfl ?_
    refine j_callS1_pi (d := d + 0) (pc' := 4) q51_1 (Or.inl rfl) (Nat.le_of_ble_eq_true rfl) (Nat.le_of_ble_eq_true rfl) rfl (t_Pl_yardsOf hρ (d + 0) _ _) (fun r1 => ?_)
    refine j_iconst (pc' := 5) q51_4 rfl ?_
    refine j_icmp_le (pc' := 8) q51_5 rfl (fun c2 => ?_) (fun c2 => ?_)
    · refine j_iconst (pc' := 15) q51_14 rfl ?_
      exact j_piret q51_15 rfl
    · refine j_iload_n (pc' := 9) q51_8 rfl rfl ?_
      refine j_iconst (pc' := 10) q51_9 rfl ?_
      refine j_isub (pc' := 11) q51_10 rfl ?_
      refine j_goto q51_11 rfl ?_
      exact j_piret q51_15 rfl
theorem q48_0 : z_fi (z_mi 48) 0 = some (0, .iload_n 0, 0, 0, 0, 0, 0) := rfl
theorem q48_1 : z_fi (z_mi 48) 1 = some (1, .bipush 111, 0, 0, 0, 111, 0) := rfl
theorem q48_3 : z_fi (z_mi 48) 3 = some (3, .imul, 0, 0, 0, 0, 0) := rfl
theorem q48_4 : z_fi (z_mi 48) 4 = some (4, .iload_n 1, 0, 0, 0, 0, 0) := rfl
theorem q48_5 : z_fi (z_mi 48) 5 = some (5, .iconst 3, 0, 0, 0, 3, 0) := rfl
theorem q48_6 : z_fi (z_mi 48) 6 = some (6, .imul, 0, 0, 0, 0, 0) := rfl
theorem q48_7 : z_fi (z_mi 48) 7 = some (7, .iadd, 0, 0, 0, 0, 0) := rfl
theorem q48_8 : z_fi (z_mi 48) 8 = some (8, .iload_n 2, 0, 0, 0, 0, 0) := rfl
theorem q48_9 : z_fi (z_mi 48) 9 = some (9, .iadd, 0, 0, 0, 0, 0) := rfl
theorem q48_10 : z_fi (z_mi 48) 10 = some (10, .ireturn, 0, 0, 0, 0, 0) := rfl
set_option maxRecDepth 20000 in
set_option maxHeartbeats 4000000 in
theorem t_Pl_placeOf {xL : Nat} {xs : Nat → Int32} {ρ : Nat → Nat → Option Nat} (hρ : z_hR ρ) (d : Nat) (a0 : Int32) (a1 : Int32) (a2 : Int32) (σ : zS) : ∀ q, f_Pl_placeOf a0 a1 a2 σ = some q → z_ec xL xs ρ (d + 0) 48 [.int a0, .int a1, .int a2] σ (em_pi σ q) := by
  refine j_of (W := [.int a0, .int a1, .int a2]) (fun L hL => ?_) ?_
  · subst hL; exact z_vl_0 _ 0 rfl
  · unfold f_Pl_placeOf
    refine j_iload_n (pc' := 1) q48_0 rfl rfl ?_
    refine j_bipush (pc' := 3) q48_1 rfl ?_
    refine j_imul (pc' := 4) q48_3 rfl ?_
    refine j_iload_n (pc' := 5) q48_4 rfl rfl ?_
    refine j_iconst (pc' := 6) q48_5 rfl ?_
    refine j_imul (pc' := 7) q48_6 rfl ?_
    refine j_iadd (pc' := 8) q48_7 rfl ?_
    refine j_iload_n (pc' := 9) q48_8 rfl rfl ?_
    refine j_iadd (pc' := 10) q48_9 rfl ?_
    exact j_piret q48_10 rfl
theorem q49_0 : z_fi (z_mi 49) 0 = some (0, .iload_n 1, 0, 0, 0, 0, 0) := rfl
theorem q49_1 : z_fi (z_mi 49) 1 = some (1, .iload_n 2, 0, 0, 0, 0, 0) := rfl
theorem q49_2 : z_fi (z_mi 49) 2 = some (2, .iload_n 3, 0, 0, 0, 0, 0) := rfl
theorem q49_3 : z_fi (z_mi 49) 3 = some (3, .invokestatic 90, 1, 48, 3, 0, 0) := rfl
theorem q49_6 : z_fi (z_mi 49) 6 = some (6, .istore 4, 0, 0, 0, 0, 0) := rfl
theorem q49_8 : z_fi (z_mi 49) 8 = some (8, .iload 4, 0, 0, 0, 0, 0) := rfl
theorem q49_10 : z_fi (z_mi 49) 10 = some (10, .iconst 0, 0, 0, 0, 0, 0) := rfl
theorem q49_11 : z_fi (z_mi 49) 11 = some (11, .aload_n 0, 0, 0, 0, 0, 0) := rfl
theorem q49_12 : z_fi (z_mi 49) 12 = some (12, .getfield 13, 0, 2, 0, 0, 0) := rfl
theorem q49_15 : z_fi (z_mi 49) 15 = some (15, .arraylength, 0, 0, 0, 0, 0) := rfl
theorem q49_16 : z_fi (z_mi 49) 16 = some (16, .iconst 1, 0, 0, 0, 1, 0) := rfl
theorem q49_17 : z_fi (z_mi 49) 17 = some (17, .isub, 0, 0, 0, 0, 0) := rfl
theorem q49_18 : z_fi (z_mi 49) 18 = some (18, .invokestatic 93, 4, 99, 3, 0, 0) := rfl
theorem q49_21 : z_fi (z_mi 49) 21 = some (21, .ifCond .eq 13, 0, 34, 0, 0, 0) := rfl
theorem q49_24 : z_fi (z_mi 49) 24 = some (24, .aload_n 0, 0, 0, 0, 0, 0) := rfl
theorem q49_25 : z_fi (z_mi 49) 25 = some (25, .getfield 13, 0, 2, 0, 0, 0) := rfl
theorem q49_28 : z_fi (z_mi 49) 28 = some (28, .iload 4, 0, 0, 0, 0, 0) := rfl
theorem q49_30 : z_fi (z_mi 49) 30 = some (30, .iaload, 0, 0, 0, 0, 0) := rfl
theorem q49_31 : z_fi (z_mi 49) 31 = some (31, .goto 5, 0, 36, 0, 0, 0) := rfl
theorem q49_34 : z_fi (z_mi 49) 34 = some (34, .ldc 60, 0, 0, 0, 1000000, 0) := rfl
theorem q49_36 : z_fi (z_mi 49) 36 = some (36, .ireturn, 0, 0, 0, 0, 0) := rfl
set_option maxRecDepth 20000 in
set_option maxHeartbeats 4000000 in
theorem t_Pl_leastAt_41 {xL : Nat} {xs : Nat → Int32} {ρ : Nat → Nat → Option Nat} (hρ : z_hR ρ) (d : Nat) (a1 : Int32) (a2 : Int32) (a3 : Int32) (σ : zS) : ∀ q, f_Pl_leastAt_41 a1 a2 a3 σ = some q → z_ec xL xs ρ (d + 1) 49 [.ref 41, .int a1, .int a2, .int a3] σ (em_pi σ q) := by
  refine j_of (W := [.ref 41, .int a1, .int a2, .int a3, .null]) (fun L hL => ?_) ?_
  · subst hL; exact z_vl_0 _ 1 rfl
  · unfold f_Pl_leastAt_41
    refine j_iload_n (pc' := 1) q49_0 rfl rfl ?_
    refine j_iload_n (pc' := 2) q49_1 rfl rfl ?_
    refine j_iload_n (pc' := 3) q49_2 rfl rfl ?_
    refine j_callS3_pi (d := d + 0) (pc' := 6) q49_3 (Or.inl rfl) (Nat.le_of_ble_eq_true rfl) (Nat.le_of_ble_eq_true rfl) rfl (t_Pl_placeOf hρ (d + 0) _ _ _ _) (fun r1 => ?_)
    refine j_istore4 (pc' := 8) q49_6 rfl (Nat.le_of_ble_eq_true rfl) rfl ?_
    refine j_iload (pc' := 10) q49_8 rfl rfl ?_
    refine j_iconst (pc' := 11) q49_10 rfl ?_
    refine j_aload_n (pc' := 12) q49_11 rfl (by decide) rfl ?_
    refine j_getr (k := 41) (q := 42) (pc' := 15) q49_12 rfl (hρ 41 0 42 rfl) rfl ?_
    refine j_alen (k := 42) (N := 777) (pc' := 16) q49_15 ⟨Nat.le_of_ble_eq_true rfl, by decide, rfl⟩ rfl ?_
    refine j_iconst (pc' := 17) q49_16 rfl ?_
    refine j_isub (pc' := 18) q49_17 rfl ?_
    refine j_callS3_pi (d := d + 0) (pc' := 21) q49_18 (Or.inr rfl) (Nat.le_of_ble_eq_true rfl) (Nat.le_of_ble_eq_true rfl) rfl (t_Y_isIn hρ (d + 0) _ _ _ _) (fun r2 => ?_)
    refine j_if_eq (pc' := 24) q49_21 rfl (fun c3 => ?_) (fun c3 => ?_)
    · refine j_ldcI (pc' := 36) q49_34 rfl rfl ?_
      exact j_piret q49_36 rfl
    · refine j_aload_n (pc' := 25) q49_24 rfl (by decide) rfl ?_
      refine j_getr (k := 41) (q := 42) (pc' := 28) q49_25 rfl (hρ 41 0 42 rfl) rfl ?_
      refine j_iload (pc' := 30) q49_28 rfl rfl ?_
      refine j_if (fun hi4 => ?_) (fun _ => j_none)
      refine j_iald (k := 42) (N := 777) (pc' := 31) q49_30 rfl hi4 rfl ?_
      refine j_goto q49_31 rfl ?_
      exact j_piret q49_36 rfl
theorem q50_0 : z_fi (z_mi 50) 0 = some (0, .aload_n 0, 0, 0, 0, 0, 0) := rfl
theorem q50_1 : z_fi (z_mi 50) 1 = some (1, .getfield 38, 0, 2, 2, 0, 0) := rfl
theorem q50_4 : z_fi (z_mi 50) 4 = some (4, .iload_n 3, 0, 0, 0, 0, 0) := rfl
theorem q50_5 : z_fi (z_mi 50) 5 = some (5, .iload_n 2, 0, 0, 0, 0, 0) := rfl
theorem q50_6 : z_fi (z_mi 50) 6 = some (6, .invokestatic 97, 1, 45, 1, 0, 0) := rfl
theorem q50_9 : z_fi (z_mi 50) 9 = some (9, .invokestatic 107, 1, 3, 3, 0, 0) := rfl
theorem q50_12 : z_fi (z_mi 50) 12 = some (12, .istore 4, 0, 0, 0, 0, 0) := rfl
theorem q50_14 : z_fi (z_mi 50) 14 = some (14, .iload 4, 0, 0, 0, 0, 0) := rfl
theorem q50_16 : z_fi (z_mi 50) 16 = some (16, .iconst 3, 0, 0, 0, 3, 0) := rfl
theorem q50_17 : z_fi (z_mi 50) 17 = some (17, .if_icmp .ne 5, 0, 22, 0, 0, 0) := rfl
theorem q50_20 : z_fi (z_mi 50) 20 = some (20, .iconst 0, 0, 0, 0, 0, 0) := rfl
theorem q50_21 : z_fi (z_mi 50) 21 = some (21, .ireturn, 0, 0, 0, 0, 0) := rfl
theorem q50_22 : z_fi (z_mi 50) 22 = some (22, .iload 4, 0, 0, 0, 0, 0) := rfl
theorem q50_24 : z_fi (z_mi 50) 24 = some (24, .iconst 4, 0, 0, 0, 4, 0) := rfl
theorem q50_25 : z_fi (z_mi 50) 25 = some (25, .if_icmp .ne 8, 0, 33, 0, 0, 0) := rfl
theorem q50_28 : z_fi (z_mi 50) 28 = some (28, .ldc 60, 0, 0, 0, 1000000, 0) := rfl
theorem q50_30 : z_fi (z_mi 50) 30 = some (30, .goto 16, 0, 46, 0, 0, 0) := rfl
theorem q50_33 : z_fi (z_mi 50) 33 = some (33, .aload_n 0, 0, 0, 0, 0, 0) := rfl
theorem q50_34 : z_fi (z_mi 50) 34 = some (34, .iload_n 1, 0, 0, 0, 0, 0) := rfl
theorem q50_35 : z_fi (z_mi 50) 35 = some (35, .iconst 1, 0, 0, 0, 1, 0) := rfl
theorem q50_36 : z_fi (z_mi 50) 36 = some (36, .iadd, 0, 0, 0, 0, 0) := rfl
theorem q50_37 : z_fi (z_mi 50) 37 = some (37, .iload_n 2, 0, 0, 0, 0, 0) := rfl
theorem q50_38 : z_fi (z_mi 50) 38 = some (38, .invokestatic 110, 1, 51, 1, 0, 0) := rfl
theorem q50_41 : z_fi (z_mi 50) 41 = some (41, .iload 4, 0, 0, 0, 0, 0) := rfl
theorem q50_43 : z_fi (z_mi 50) 43 = some (43, .invokevirtual 71, 0, 49, 3, 0, 0) := rfl
theorem q50_46 : z_fi (z_mi 50) 46 = some (46, .ireturn, 0, 0, 0, 0, 0) := rfl
set_option maxRecDepth 20000 in
set_option maxHeartbeats 4000000 in
theorem t_Pl_leastBehind_41 {xL : Nat} {xs : Nat → Int32} {ρ : Nat → Nat → Option Nat} (hρ : z_hR ρ) (d : Nat) (a1 : Int32) (a2 : Int32) (a3 : Int32) (σ : zS) : ∀ q, f_Pl_leastBehind_41 a1 a2 a3 σ = some q → z_ec xL xs ρ (d + 3) 50 [.ref 41, .int a1, .int a2, .int a3] σ (em_pi σ q) := by
  refine j_of (W := [.ref 41, .int a1, .int a2, .int a3, .null]) (fun L hL => ?_) ?_
  · subst hL; exact z_vl_0 _ 1 rfl
  · unfold f_Pl_leastBehind_41
    refine j_aload_n (pc' := 1) q50_0 rfl (by decide) rfl ?_
    refine j_getf (k := 41) (pc' := 4) q50_1 rfl rfl ?_
    refine j_iload_n (pc' := 5) q50_4 rfl rfl ?_
    refine j_iload_n (pc' := 6) q50_5 rfl rfl ?_
    refine j_callS1_pi (d := d + 2) (pc' := 9) q50_6 (Or.inl rfl) (Nat.le_of_ble_eq_true rfl) (Nat.le_of_ble_eq_true rfl) rfl (t_Pl_seasonOf hρ (d + 2) _ _) (fun r1 => ?_)
    refine j_callS3_pi (d := d + 2) (pc' := 12) q50_9 (Or.inl rfl) (Nat.le_of_ble_eq_true rfl) (Nat.le_of_ble_eq_true rfl) rfl (t_Cr_behind hρ (d + 0) _ _ _ _) (fun r2 => ?_)
    refine j_istore4 (pc' := 14) q50_12 rfl (Nat.le_of_ble_eq_true rfl) rfl ?_
    refine j_iload (pc' := 16) q50_14 rfl rfl ?_
    refine j_iconst (pc' := 17) q50_16 rfl ?_
    refine j_icmp_ne (pc' := 20) q50_17 rfl (fun c3 => ?_) (fun c3 => ?_)
    · refine j_iconst (pc' := 21) q50_20 rfl ?_
      exact j_piret q50_21 rfl
    · refine j_iload (pc' := 24) q50_22 rfl rfl ?_
      refine j_iconst (pc' := 25) q50_24 rfl ?_
      refine j_icmp_ne (pc' := 28) q50_25 rfl (fun c4 => ?_) (fun c4 => ?_)
      · refine j_ldcI (pc' := 30) q50_28 rfl rfl ?_
        refine j_goto q50_30 rfl ?_
        exact j_piret q50_46 rfl
      · refine j_aload_n (pc' := 34) q50_33 rfl (by decide) rfl ?_
        refine j_iload_n (pc' := 35) q50_34 rfl rfl ?_
        refine j_iconst (pc' := 36) q50_35 rfl ?_
        refine j_iadd (pc' := 37) q50_36 rfl ?_
        refine j_iload_n (pc' := 38) q50_37 rfl rfl ?_
        refine j_callS1_pi (d := d + 2) (pc' := 41) q50_38 (Or.inl rfl) (Nat.le_of_ble_eq_true rfl) (Nat.le_of_ble_eq_true rfl) rfl (t_Pl_lessOne hρ (d + 1) _ _) (fun r5 => ?_)
        refine j_iload (pc' := 43) q50_41 rfl rfl ?_
        refine j_callV3_pi (d := d + 2) (pc' := 46) q50_43 rfl (Nat.le_of_ble_eq_true rfl) (Nat.le_of_ble_eq_true rfl) rfl (t_Pl_leastAt_41 hρ (d + 1) _ _ _ _) (fun r6 => ?_)
        exact j_piret q50_46 rfl
theorem q43_0 : z_fi (z_mi 43) 0 = some (0, .ldc 60, 0, 0, 0, 1000000, 0) := rfl
theorem q43_2 : z_fi (z_mi 43) 2 = some (2, .istore_n 3, 0, 0, 0, 0, 0) := rfl
theorem q43_3 : z_fi (z_mi 43) 3 = some (3, .iconst 1, 0, 0, 0, 1, 0) := rfl
theorem q43_4 : z_fi (z_mi 43) 4 = some (4, .istore 4, 0, 0, 0, 0, 0) := rfl
theorem q43_6 : z_fi (z_mi 43) 6 = some (6, .iload 4, 0, 0, 0, 0, 0) := rfl
theorem q43_8 : z_fi (z_mi 43) 8 = some (8, .bipush 37, 0, 0, 0, 37, 0) := rfl
theorem q43_10 : z_fi (z_mi 43) 10 = some (10, .if_icmp .ge 29, 0, 39, 0, 0, 0) := rfl
theorem q43_13 : z_fi (z_mi 43) 13 = some (13, .iload_n 3, 0, 0, 0, 0, 0) := rfl
theorem q43_14 : z_fi (z_mi 43) 14 = some (14, .aload_n 0, 0, 0, 0, 0, 0) := rfl
theorem q43_15 : z_fi (z_mi 43) 15 = some (15, .iload 4, 0, 0, 0, 0, 0) := rfl
theorem q43_17 : z_fi (z_mi 43) 17 = some (17, .invokevirtual 78, 0, 47, 1, 0, 0) := rfl
theorem q43_20 : z_fi (z_mi 43) 20 = some (20, .aload_n 0, 0, 0, 0, 0, 0) := rfl
theorem q43_21 : z_fi (z_mi 43) 21 = some (21, .iload_n 1, 0, 0, 0, 0, 0) := rfl
theorem q43_22 : z_fi (z_mi 43) 22 = some (22, .iload 4, 0, 0, 0, 0, 0) := rfl
theorem q43_24 : z_fi (z_mi 43) 24 = some (24, .iload_n 2, 0, 0, 0, 0, 0) := rfl
theorem q43_25 : z_fi (z_mi 43) 25 = some (25, .invokevirtual 82, 0, 50, 3, 0, 0) := rfl
theorem q43_28 : z_fi (z_mi 43) 28 = some (28, .iadd, 0, 0, 0, 0, 0) := rfl
theorem q43_29 : z_fi (z_mi 43) 29 = some (29, .invokestatic 85, 7, 233, 2, 0, 0) := rfl
theorem q43_32 : z_fi (z_mi 43) 32 = some (32, .istore_n 3, 0, 0, 0, 0, 0) := rfl
theorem q43_33 : z_fi (z_mi 43) 33 = some (33, .iinc 4 1, 0, 0, 0, 1, 0) := rfl
theorem q43_36 : z_fi (z_mi 43) 36 = some (36, .goto (-30), 0, 6, 0, 0, 0) := rfl
theorem q43_39 : z_fi (z_mi 43) 39 = some (39, .iconst 0, 0, 0, 0, 0, 0) := rfl
theorem q43_40 : z_fi (z_mi 43) 40 = some (40, .istore 4, 0, 0, 0, 0, 0) := rfl
theorem q43_42 : z_fi (z_mi 43) 42 = some (42, .iload 4, 0, 0, 0, 0, 0) := rfl
theorem q43_44 : z_fi (z_mi 43) 44 = some (44, .bipush 37, 0, 0, 0, 37, 0) := rfl
theorem q43_46 : z_fi (z_mi 43) 46 = some (46, .if_icmp .ge 53, 0, 99, 0, 0, 0) := rfl
theorem q43_49 : z_fi (z_mi 43) 49 = some (49, .iload_n 1, 0, 0, 0, 0, 0) := rfl
theorem q43_50 : z_fi (z_mi 43) 50 = some (50, .iload 4, 0, 0, 0, 0, 0) := rfl
theorem q43_52 : z_fi (z_mi 43) 52 = some (52, .iload_n 2, 0, 0, 0, 0, 0) := rfl
theorem q43_53 : z_fi (z_mi 43) 53 = some (53, .invokestatic 90, 1, 48, 3, 0, 0) := rfl
theorem q43_56 : z_fi (z_mi 43) 56 = some (56, .istore 5, 0, 0, 0, 0, 0) := rfl
theorem q43_58 : z_fi (z_mi 43) 58 = some (58, .iload 5, 0, 0, 0, 0, 0) := rfl
theorem q43_60 : z_fi (z_mi 43) 60 = some (60, .iconst 0, 0, 0, 0, 0, 0) := rfl
theorem q43_61 : z_fi (z_mi 43) 61 = some (61, .aload_n 0, 0, 0, 0, 0, 0) := rfl
theorem q43_62 : z_fi (z_mi 43) 62 = some (62, .getfield 13, 0, 2, 0, 0, 0) := rfl
theorem q43_65 : z_fi (z_mi 43) 65 = some (65, .arraylength, 0, 0, 0, 0, 0) := rfl
theorem q43_66 : z_fi (z_mi 43) 66 = some (66, .iconst 1, 0, 0, 0, 1, 0) := rfl
theorem q43_67 : z_fi (z_mi 43) 67 = some (67, .isub, 0, 0, 0, 0, 0) := rfl
theorem q43_68 : z_fi (z_mi 43) 68 = some (68, .invokestatic 93, 4, 99, 3, 0, 0) := rfl
theorem q43_71 : z_fi (z_mi 43) 71 = some (71, .ifCond .eq 22, 0, 93, 0, 0, 0) := rfl
theorem q43_74 : z_fi (z_mi 43) 74 = some (74, .aload_n 0, 0, 0, 0, 0, 0) := rfl
theorem q43_75 : z_fi (z_mi 43) 75 = some (75, .getfield 13, 0, 2, 0, 0, 0) := rfl
theorem q43_78 : z_fi (z_mi 43) 78 = some (78, .iload 5, 0, 0, 0, 0, 0) := rfl
theorem q43_80 : z_fi (z_mi 43) 80 = some (80, .iload_n 3, 0, 0, 0, 0, 0) := rfl
theorem q43_81 : z_fi (z_mi 43) 81 = some (81, .aload_n 0, 0, 0, 0, 0, 0) := rfl
theorem q43_82 : z_fi (z_mi 43) 82 = some (82, .iload_n 1, 0, 0, 0, 0, 0) := rfl
theorem q43_83 : z_fi (z_mi 43) 83 = some (83, .iload 4, 0, 0, 0, 0, 0) := rfl
theorem q43_85 : z_fi (z_mi 43) 85 = some (85, .iload_n 2, 0, 0, 0, 0, 0) := rfl
theorem q43_86 : z_fi (z_mi 43) 86 = some (86, .invokevirtual 82, 0, 50, 3, 0, 0) := rfl
theorem q43_89 : z_fi (z_mi 43) 89 = some (89, .invokestatic 85, 7, 233, 2, 0, 0) := rfl
theorem q43_92 : z_fi (z_mi 43) 92 = some (92, .iastore, 0, 0, 0, 0, 0) := rfl
theorem q43_93 : z_fi (z_mi 43) 93 = some (93, .iinc 4 1, 0, 0, 0, 1, 0) := rfl
theorem q43_96 : z_fi (z_mi 43) 96 = some (96, .goto (-54), 0, 42, 0, 0, 0) := rfl
theorem q43_99 : z_fi (z_mi 43) 99 = some (99, .return_, 0, 0, 0, 0, 0) := rfl
set_option maxRecDepth 20000 in
set_option maxHeartbeats 4000000 in
theorem t_Pl_weighStage_41 {xL : Nat} {xs : Nat → Int32} {ρ : Nat → Nat → Option Nat} (hρ : z_hR ρ) (d : Nat) (a1 : Int32) (a2 : Int32) (σ : zS) : ∀ q, f_Pl_weighStage_41 a1 a2 σ = some q → z_ec xL xs ρ (d + 4) 43 [.ref 41, .int a1, .int a2] σ (em_v q) := by
  refine j_of (W := [.ref 41, .int a1, .int a2, .null, .null, .null]) (fun L hL => ?_) ?_
  · subst hL; exact z_vl_0 _ 3 rfl
  · unfold f_Pl_weighStage_41
    refine j_ldcI (pc' := 2) q43_0 rfl rfl ?_
    refine j_istore3 (pc' := 3) q43_2 rfl (Nat.le_of_ble_eq_true rfl) rfl ?_
    refine j_iconst (pc' := 4) q43_3 rfl ?_
    refine j_istore4 (pc' := 6) q43_4 rfl (Nat.le_of_ble_eq_true rfl) rfl ?_
    refine j_forget (V' := [.ref 41, .int a1, .int a2, .int (1000000 : Int32), .int (1 : Int32), .null]) (z_le_s (z_le_s (z_le_s (z_le_s (z_le_s (z_le_n (z_le_nil))))))) ?_
    refine j_loopX (S := Int32 × Int32) (E := Int32) (fun e => e) 39 (fun s1 => [.ref 41, .int a1, .int a2, .int s1.1, .int s1.2, .null]) (fun s1 => σ) (fun b1 => [.ref 41, .int a1, .int a2, .int b1, .null, .null]) (fun b1 => σ) (fun b1 => ?_) (fun R1 hR1 hX1 s1 => ?_) ((1000000 : Int32), (1 : Int32))
    · show z_J _ _ _ _ _ _ _ _ _ _ _ _
      refine j_iconst (pc' := 40) q43_39 rfl ?_
      refine j_istore4 (pc' := 42) q43_40 rfl (Nat.le_of_ble_eq_true rfl) rfl ?_
      refine j_forget (V' := [.ref 41, .int a1, .int a2, .int b1, .int (0 : Int32), .null]) (z_le_s (z_le_s (z_le_s (z_le_s (z_le_s (z_le_n (z_le_nil))))))) ?_
      refine j_loopX (S := Int32 × zS) (E := zS) (fun e => e) 99 (fun s6 => [.ref 41, .int a1, .int a2, .int b1, .int s6.1, .null]) (fun s6 => s6.2) (fun b6 => [.null, .null, .null, .null, .null, .null]) (fun b6 => b6) (fun b6 => ?_) (fun R6 hR6 hX6 s6 => ?_) ((0 : Int32), σ)
      · show z_J _ _ _ _ _ _ _ _ _ _ _ _
        exact j_vret q43_99 rfl
      · show z_J _ _ _ _ _ _ _ _ _ _ _ _
        refine j_iload (pc' := 44) q43_42 rfl rfl ?_
        refine j_bipush (pc' := 46) q43_44 rfl ?_
        refine j_icmp_ge (pc' := 49) q43_46 rfl (fun c7 => ?_) (fun c7 => ?_)
        · exact j_exit (j_forget (z_le_n (z_le_n (z_le_n (z_le_n (z_le_n (z_le_n (z_le_nil))))))) (hX6 s6.2))
        · refine j_iload_n (pc' := 50) q43_49 rfl rfl ?_
          refine j_iload (pc' := 52) q43_50 rfl rfl ?_
          refine j_iload_n (pc' := 53) q43_52 rfl rfl ?_
          refine j_callS3_pi (d := d + 3) (pc' := 56) q43_53 (Or.inl rfl) (Nat.le_of_ble_eq_true rfl) (Nat.le_of_ble_eq_true rfl) rfl (t_Pl_placeOf hρ (d + 3) _ _ _ _) (fun r8 => ?_)
          refine j_istore5 (pc' := 58) q43_56 rfl (Nat.le_of_ble_eq_true rfl) rfl ?_
          refine j_iload (pc' := 60) q43_58 rfl rfl ?_
          refine j_iconst (pc' := 61) q43_60 rfl ?_
          refine j_aload_n (pc' := 62) q43_61 rfl (by decide) rfl ?_
          refine j_getr (k := 41) (q := 42) (pc' := 65) q43_62 rfl (hρ 41 0 42 rfl) rfl ?_
          refine j_alen (k := 42) (N := 777) (pc' := 66) q43_65 ⟨Nat.le_of_ble_eq_true rfl, by decide, rfl⟩ rfl ?_
          refine j_iconst (pc' := 67) q43_66 rfl ?_
          refine j_isub (pc' := 68) q43_67 rfl ?_
          refine j_callS3_pi (d := d + 3) (pc' := 71) q43_68 (Or.inr rfl) (Nat.le_of_ble_eq_true rfl) (Nat.le_of_ble_eq_true rfl) rfl (t_Y_isIn hρ (d + 3) _ _ _ _) (fun r9 => ?_)
          refine j_join (T := zS) 93 (fun t10 => [.ref 41, .int a1, .int a2, .int b1, .int s6.1, .null]) (fun t10 => []) (fun t10 => t10) (fun t10 => ?_) (fun j10 hj10 => ?_)
          · show z_J _ _ _ _ _ _ _ _ _ _ _ _
            refine j_iinc4 (pc' := 96) q43_93 rfl (Nat.le_of_ble_eq_true rfl) rfl ?_
            refine j_goto q43_96 rfl ?_
            exact j_again (j_forget (z_le_s (z_le_s (z_le_s (z_le_s (z_le_s (z_le_n (z_le_nil))))))) (hR6 ((s6.1 + (1 : Int32)), t10)))
          · show z_J _ _ _ _ _ _ _ _ _ _ _ _
            refine j_if_eq (pc' := 74) q43_71 rfl (fun c11 => ?_) (fun c11 => ?_)
            · refine j_forget (z_le_s (z_le_s (z_le_s (z_le_s (z_le_s (z_le_n (z_le_nil))))))) (hj10 s6.2)
            · refine j_aload_n (pc' := 75) q43_74 rfl (by decide) rfl ?_
              refine j_getr (k := 41) (q := 42) (pc' := 78) q43_75 rfl (hρ 41 0 42 rfl) rfl ?_
              refine j_iload (pc' := 80) q43_78 rfl rfl ?_
              refine j_iload_n (pc' := 81) q43_80 rfl rfl ?_
              refine j_aload_n (pc' := 82) q43_81 rfl (by decide) rfl ?_
              refine j_iload_n (pc' := 83) q43_82 rfl rfl ?_
              refine j_iload (pc' := 85) q43_83 rfl rfl ?_
              refine j_iload_n (pc' := 86) q43_85 rfl rfl ?_
              refine j_callV3_pi (d := d + 3) (pc' := 89) q43_86 rfl (Nat.le_of_ble_eq_true rfl) (Nat.le_of_ble_eq_true rfl) rfl (t_Pl_leastBehind_41 hρ (d + 0) _ _ _ _) (fun r12 => ?_)
              refine j_min (pc' := 92) q43_89 rfl (Nat.le_of_ble_eq_true rfl) rfl ?_
              refine j_if (fun hi13 => ?_) (fun _ => j_none)
              refine j_iast (k := 42) (N := 777) (pc' := 93) q43_92 rfl hi13 rfl ?_
              refine j_nameS (fun τ14 => ?_)
              refine j_forget (z_le_s (z_le_s (z_le_s (z_le_s (z_le_s (z_le_n (z_le_nil))))))) (hj10 τ14)
    · show z_J _ _ _ _ _ _ _ _ _ _ _ _
      refine j_iload (pc' := 8) q43_6 rfl rfl ?_
      refine j_bipush (pc' := 10) q43_8 rfl ?_
      refine j_icmp_ge (pc' := 13) q43_10 rfl (fun c2 => ?_) (fun c2 => ?_)
      · exact j_exit (j_forget (z_le_s (z_le_s (z_le_s (z_le_s (z_le_n (z_le_n (z_le_nil))))))) (hX1 s1.1))
      · refine j_iload_n (pc' := 14) q43_13 rfl rfl ?_
        refine j_aload_n (pc' := 15) q43_14 rfl (by decide) rfl ?_
        refine j_iload (pc' := 17) q43_15 rfl rfl ?_
        refine j_callV1_pi (d := d + 3) (pc' := 20) q43_17 rfl (Nat.le_of_ble_eq_true rfl) (Nat.le_of_ble_eq_true rfl) rfl (t_Pl_costOf_41 hρ (d + 1) _ _) (fun r3 => ?_)
        refine j_aload_n (pc' := 21) q43_20 rfl (by decide) rfl ?_
        refine j_iload_n (pc' := 22) q43_21 rfl rfl ?_
        refine j_iload (pc' := 24) q43_22 rfl rfl ?_
        refine j_iload_n (pc' := 25) q43_24 rfl rfl ?_
        refine j_callV3_pi (d := d + 3) (pc' := 28) q43_25 rfl (Nat.le_of_ble_eq_true rfl) (Nat.le_of_ble_eq_true rfl) rfl (t_Pl_leastBehind_41 hρ (d + 0) _ _ _ _) (fun r4 => ?_)
        refine j_iadd (pc' := 29) q43_28 rfl ?_
        refine j_min (pc' := 32) q43_29 rfl (Nat.le_of_ble_eq_true rfl) rfl ?_
        refine j_nameI (fun v5 => ?_)
        refine j_istore3 (pc' := 33) q43_32 rfl (Nat.le_of_ble_eq_true rfl) rfl ?_
        refine j_iinc4 (pc' := 36) q43_33 rfl (Nat.le_of_ble_eq_true rfl) rfl ?_
        refine j_goto q43_36 rfl ?_
        exact j_again (j_forget (z_le_s (z_le_s (z_le_s (z_le_s (z_le_s (z_le_n (z_le_nil))))))) (hR1 (v5, (s1.2 + (1 : Int32)))))
theorem q44_0 : z_fi (z_mi 44) 0 = some (0, .bipush 9, 0, 0, 0, 9, 0) := rfl
theorem q44_2 : z_fi (z_mi 44) 2 = some (2, .iload_n 0, 0, 0, 0, 0, 0) := rfl
theorem q44_3 : z_fi (z_mi 44) 3 = some (3, .imul, 0, 0, 0, 0, 0) := rfl
theorem q44_4 : z_fi (z_mi 44) 4 = some (4, .iload_n 1, 0, 0, 0, 0, 0) := rfl
theorem q44_5 : z_fi (z_mi 44) 5 = some (5, .iadd, 0, 0, 0, 0, 0) := rfl
theorem q44_6 : z_fi (z_mi 44) 6 = some (6, .ireturn, 0, 0, 0, 0, 0) := rfl
set_option maxRecDepth 20000 in
set_option maxHeartbeats 4000000 in
theorem t_Pl_lyingOf {xL : Nat} {xs : Nat → Int32} {ρ : Nat → Nat → Option Nat} (hρ : z_hR ρ) (d : Nat) (a0 : Int32) (a1 : Int32) (σ : zS) : ∀ q, f_Pl_lyingOf a0 a1 σ = some q → z_ec xL xs ρ (d + 0) 44 [.int a0, .int a1] σ (em_pi σ q) := by
  refine j_of (W := [.int a0, .int a1]) (fun L hL => ?_) ?_
  · subst hL; exact z_vl_0 _ 0 rfl
  · unfold f_Pl_lyingOf
    refine j_bipush (pc' := 2) q44_0 rfl ?_
    refine j_iload_n (pc' := 3) q44_2 rfl rfl ?_
    refine j_imul (pc' := 4) q44_3 rfl ?_
    refine j_iload_n (pc' := 5) q44_4 rfl rfl ?_
    refine j_iadd (pc' := 6) q44_5 rfl ?_
    exact j_piret q44_6 rfl
theorem q42_0 : z_fi (z_mi 42) 0 = some (0, .aload_n 1, 0, 0, 0, 0, 0) := rfl
theorem q42_1 : z_fi (z_mi 42) 1 = some (1, .getfield 20, 0, 0, 9, 0, 0) := rfl
theorem q42_4 : z_fi (z_mi 42) 4 = some (4, .getfield 26, 0, 4, 1, 0, 0) := rfl
theorem q42_7 : z_fi (z_mi 42) 7 = some (7, .iconst 0, 0, 0, 0, 0, 0) := rfl
theorem q42_8 : z_fi (z_mi 42) 8 = some (8, .aload_n 0, 0, 0, 0, 0, 0) := rfl
theorem q42_9 : z_fi (z_mi 42) 9 = some (9, .getfield 17, 0, 2, 1, 0, 0) := rfl
theorem q42_12 : z_fi (z_mi 42) 12 = some (12, .iconst 0, 0, 0, 0, 0, 0) := rfl
theorem q42_13 : z_fi (z_mi 42) 13 = some (13, .iconst 4, 0, 0, 0, 4, 0) := rfl
theorem q42_14 : z_fi (z_mi 42) 14 = some (14, .invokestatic 29, 6, 0, 5, 0, 0) := rfl
theorem q42_17 : z_fi (z_mi 42) 17 = some (17, .aload_n 0, 0, 0, 0, 0, 0) := rfl
theorem q42_18 : z_fi (z_mi 42) 18 = some (18, .aload_n 1, 0, 0, 0, 0, 0) := rfl
theorem q42_19 : z_fi (z_mi 42) 19 = some (19, .getfield 35, 0, 0, 4, 0, 0) := rfl
theorem q42_22 : z_fi (z_mi 42) 22 = some (22, .iload_n 2, 0, 0, 0, 0, 0) := rfl
theorem q42_23 : z_fi (z_mi 42) 23 = some (23, .iaload, 0, 0, 0, 0, 0) := rfl
theorem q42_24 : z_fi (z_mi 42) 24 = some (24, .putfield 38, 0, 2, 2, 0, 0) := rfl
theorem q42_27 : z_fi (z_mi 42) 27 = some (27, .aload_n 0, 0, 0, 0, 0, 0) := rfl
theorem q42_28 : z_fi (z_mi 42) 28 = some (28, .aload_n 1, 0, 0, 0, 0, 0) := rfl
theorem q42_29 : z_fi (z_mi 42) 29 = some (29, .getfield 41, 0, 0, 5, 0, 0) := rfl
theorem q42_32 : z_fi (z_mi 42) 32 = some (32, .iload_n 2, 0, 0, 0, 0, 0) := rfl
theorem q42_33 : z_fi (z_mi 42) 33 = some (33, .iaload, 0, 0, 0, 0, 0) := rfl
theorem q42_34 : z_fi (z_mi 42) 34 = some (34, .putfield 44, 0, 2, 4, 0, 0) := rfl
theorem q42_37 : z_fi (z_mi 42) 37 = some (37, .aload_n 0, 0, 0, 0, 0, 0) := rfl
theorem q42_38 : z_fi (z_mi 42) 38 = some (38, .aload_n 1, 0, 0, 0, 0, 0) := rfl
theorem q42_39 : z_fi (z_mi 42) 39 = some (39, .getfield 47, 0, 0, 2, 0, 0) := rfl
theorem q42_42 : z_fi (z_mi 42) 42 = some (42, .iload_n 2, 0, 0, 0, 0, 0) := rfl
theorem q42_43 : z_fi (z_mi 42) 43 = some (43, .iaload, 0, 0, 0, 0, 0) := rfl
theorem q42_44 : z_fi (z_mi 42) 44 = some (44, .iconst 4, 0, 0, 0, 4, 0) := rfl
theorem q42_45 : z_fi (z_mi 42) 45 = some (45, .if_icmp .ne 7, 0, 52, 0, 0, 0) := rfl
theorem q42_48 : z_fi (z_mi 42) 48 = some (48, .iconst 0, 0, 0, 0, 0, 0) := rfl
theorem q42_49 : z_fi (z_mi 42) 49 = some (49, .goto 18, 0, 67, 0, 0, 0) := rfl
theorem q42_52 : z_fi (z_mi 42) 52 = some (52, .aload_n 1, 0, 0, 0, 0, 0) := rfl
theorem q42_53 : z_fi (z_mi 42) 53 = some (53, .getfield 47, 0, 0, 2, 0, 0) := rfl
theorem q42_56 : z_fi (z_mi 42) 56 = some (56, .iload_n 2, 0, 0, 0, 0, 0) := rfl
theorem q42_57 : z_fi (z_mi 42) 57 = some (57, .iaload, 0, 0, 0, 0, 0) := rfl
theorem q42_58 : z_fi (z_mi 42) 58 = some (58, .aload_n 1, 0, 0, 0, 0, 0) := rfl
theorem q42_59 : z_fi (z_mi 42) 59 = some (59, .getfield 50, 0, 0, 3, 0, 0) := rfl
theorem q42_62 : z_fi (z_mi 42) 62 = some (62, .iload_n 2, 0, 0, 0, 0, 0) := rfl
theorem q42_63 : z_fi (z_mi 42) 63 = some (63, .iaload, 0, 0, 0, 0, 0) := rfl
theorem q42_64 : z_fi (z_mi 42) 64 = some (64, .invokestatic 53, 1, 44, 2, 0, 0) := rfl
theorem q42_67 : z_fi (z_mi 42) 67 = some (67, .putfield 57, 0, 2, 3, 0, 0) := rfl
theorem q42_70 : z_fi (z_mi 42) 70 = some (70, .aload_n 0, 0, 0, 0, 0, 0) := rfl
theorem q42_71 : z_fi (z_mi 42) 71 = some (71, .getfield 13, 0, 2, 0, 0, 0) := rfl
theorem q42_74 : z_fi (z_mi 42) 74 = some (74, .ldc 60, 0, 0, 0, 1000000, 0) := rfl
theorem q42_76 : z_fi (z_mi 42) 76 = some (76, .invokestatic 61, 1, 240, 2, 0, 0) := rfl
theorem q42_79 : z_fi (z_mi 42) 79 = some (79, .iload_n 3, 0, 0, 0, 0, 0) := rfl
theorem q42_80 : z_fi (z_mi 42) 80 = some (80, .iconst 1, 0, 0, 0, 1, 0) := rfl
theorem q42_81 : z_fi (z_mi 42) 81 = some (81, .isub, 0, 0, 0, 0, 0) := rfl
theorem q42_82 : z_fi (z_mi 42) 82 = some (82, .istore 4, 0, 0, 0, 0, 0) := rfl
theorem q42_84 : z_fi (z_mi 42) 84 = some (84, .iload 4, 0, 0, 0, 0, 0) := rfl
theorem q42_86 : z_fi (z_mi 42) 86 = some (86, .ifCond .lt 32, 0, 118, 0, 0, 0) := rfl
theorem q42_89 : z_fi (z_mi 42) 89 = some (89, .iconst 0, 0, 0, 0, 0, 0) := rfl
theorem q42_90 : z_fi (z_mi 42) 90 = some (90, .istore 5, 0, 0, 0, 0, 0) := rfl
theorem q42_92 : z_fi (z_mi 42) 92 = some (92, .iload 5, 0, 0, 0, 0, 0) := rfl
theorem q42_94 : z_fi (z_mi 42) 94 = some (94, .iconst 3, 0, 0, 0, 3, 0) := rfl
theorem q42_95 : z_fi (z_mi 42) 95 = some (95, .if_icmp .ge 17, 0, 112, 0, 0, 0) := rfl
theorem q42_98 : z_fi (z_mi 42) 98 = some (98, .aload_n 0, 0, 0, 0, 0, 0) := rfl
theorem q42_99 : z_fi (z_mi 42) 99 = some (99, .iload 4, 0, 0, 0, 0, 0) := rfl
theorem q42_101 : z_fi (z_mi 42) 101 = some (101, .iload 5, 0, 0, 0, 0, 0) := rfl
theorem q42_103 : z_fi (z_mi 42) 103 = some (103, .invokevirtual 67, 0, 43, 2, 0, 0) := rfl
theorem q42_106 : z_fi (z_mi 42) 106 = some (106, .iinc 5 1, 0, 0, 0, 1, 0) := rfl
theorem q42_109 : z_fi (z_mi 42) 109 = some (109, .goto (-17), 0, 92, 0, 0, 0) := rfl
set_option maxRecDepth 8000 in
theorem q42_112 : z_fi (z_mi 42) 112 = some (112, .iinc 4 (-1), 0, 0, 0, (-1), 0) := rfl
set_option maxRecDepth 8000 in
theorem q42_115 : z_fi (z_mi 42) 115 = some (115, .goto (-31), 0, 84, 0, 0, 0) := rfl
set_option maxRecDepth 8000 in
theorem q42_118 : z_fi (z_mi 42) 118 = some (118, .aload_n 0, 0, 0, 0, 0, 0) := rfl
set_option maxRecDepth 8000 in
theorem q42_119 : z_fi (z_mi 42) 119 = some (119, .aload_n 0, 0, 0, 0, 0, 0) := rfl
set_option maxRecDepth 8000 in
theorem q42_120 : z_fi (z_mi 42) 120 = some (120, .iconst 0, 0, 0, 0, 0, 0) := rfl
set_option maxRecDepth 8000 in
theorem q42_121 : z_fi (z_mi 42) 121 = some (121, .aload_n 0, 0, 0, 0, 0, 0) := rfl
set_option maxRecDepth 8000 in
theorem q42_122 : z_fi (z_mi 42) 122 = some (122, .getfield 57, 0, 2, 3, 0, 0) := rfl
set_option maxRecDepth 8000 in
theorem q42_125 : z_fi (z_mi 42) 125 = some (125, .aload_n 0, 0, 0, 0, 0, 0) := rfl
set_option maxRecDepth 8000 in
theorem q42_126 : z_fi (z_mi 42) 126 = some (126, .getfield 44, 0, 2, 4, 0, 0) := rfl
set_option maxRecDepth 8000 in
theorem q42_129 : z_fi (z_mi 42) 129 = some (129, .invokevirtual 71, 0, 49, 3, 0, 0) := rfl
set_option maxRecDepth 8000 in
theorem q42_132 : z_fi (z_mi 42) 132 = some (132, .putfield 75, 0, 2, 5, 0, 0) := rfl
set_option maxRecDepth 8000 in
theorem q42_135 : z_fi (z_mi 42) 135 = some (135, .return_, 0, 0, 0, 0, 0) := rfl
set_option maxRecDepth 20000 in
set_option maxHeartbeats 4000000 in
theorem t_Pl_weigh_41_1 {xL : Nat} {xs : Nat → Int32} {ρ : Nat → Nat → Option Nat} (hρ : z_hR ρ) (d : Nat) (a2 : Int32) (a3 : Int32) (σ : zS) : ∀ q, f_Pl_weigh_41_1 a2 a3 σ = some q → z_ec xL xs ρ (d + 5) 42 [.ref 41, .ref 1, .int a2, .int a3] σ (em_v q) := by
  refine j_of (W := [.ref 41, .ref 1, .int a2, .int a3, .null, .null]) (fun L hL => ?_) ?_
  · subst hL; exact z_vl_0 _ 2 rfl
  · unfold f_Pl_weigh_41_1
    refine j_aload_n (pc' := 1) q42_0 rfl (by decide) rfl ?_
    refine j_getr (k := 1) (q := 11) (pc' := 4) q42_1 rfl (hρ 1 9 11 rfl) rfl ?_
    refine j_getr (k := 11) (q := 13) (pc' := 7) q42_4 rfl (hρ 11 1 13 rfl) rfl ?_
    refine j_iconst (pc' := 8) q42_7 rfl ?_
    refine j_aload_n (pc' := 9) q42_8 rfl (by decide) rfl ?_
    refine j_getr (k := 41) (q := 43) (pc' := 12) q42_9 rfl (hρ 41 1 43 rfl) rfl ?_
    refine j_iconst (pc' := 13) q42_12 rfl ?_
    refine j_iconst (pc' := 14) q42_13 rfl ?_
    refine j_acopy (ks := 13) (kd := 43) (pc' := 17) q42_14 rfl (by decide) (Nat.le_of_ble_eq_true rfl) rfl ?_
    refine j_nameS (fun τ1 => ?_)
    refine j_aload_n (pc' := 18) q42_17 rfl (by decide) rfl ?_
    refine j_aload_n (pc' := 19) q42_18 rfl (by decide) rfl ?_
    refine j_getr (k := 1) (q := 4) (pc' := 22) q42_19 rfl (hρ 1 4 4 rfl) rfl ?_
    refine j_iload_n (pc' := 23) q42_22 rfl rfl ?_
    refine j_if (fun hi2 => ?_) (fun _ => j_none)
    refine j_iald (k := 4) (N := 16) (pc' := 24) q42_23 rfl hi2 rfl ?_
    refine j_putf (k := 41) (pc' := 27) q42_24 rfl rfl ?_
    refine j_nameS (fun τ3 => ?_)
    refine j_aload_n (pc' := 28) q42_27 rfl (by decide) rfl ?_
    refine j_aload_n (pc' := 29) q42_28 rfl (by decide) rfl ?_
    refine j_getr (k := 1) (q := 5) (pc' := 32) q42_29 rfl (hρ 1 5 5 rfl) rfl ?_
    refine j_iload_n (pc' := 33) q42_32 rfl rfl ?_
    refine j_if (fun hi4 => ?_) (fun _ => j_none)
    refine j_iald (k := 5) (N := 16) (pc' := 34) q42_33 rfl hi4 rfl ?_
    refine j_putf (k := 41) (pc' := 37) q42_34 rfl rfl ?_
    refine j_nameS (fun τ5 => ?_)
    refine j_aload_n (pc' := 38) q42_37 rfl (by decide) rfl ?_
    refine j_aload_n (pc' := 39) q42_38 rfl (by decide) rfl ?_
    refine j_getr (k := 1) (q := 2) (pc' := 42) q42_39 rfl (hρ 1 2 2 rfl) rfl ?_
    refine j_iload_n (pc' := 43) q42_42 rfl rfl ?_
    refine j_if (fun hi6 => ?_) (fun _ => j_none)
    refine j_iald (k := 2) (N := 16) (pc' := 44) q42_43 rfl hi6 rfl ?_
    refine j_iconst (pc' := 45) q42_44 rfl ?_
    refine j_join (T := Int32) 67 (fun t7 => [.ref 41, .null, .null, .int a3, .null, .null]) (fun t7 => [.int t7, .ref 41]) (fun t7 => τ5) (fun t7 => ?_) (fun j7 hj7 => ?_)
    · show z_J _ _ _ _ _ _ _ _ _ _ _ _
      refine j_putf (k := 41) (pc' := 70) q42_67 rfl rfl ?_
      refine j_nameS (fun τ8 => ?_)
      refine j_aload_n (pc' := 71) q42_70 rfl (by decide) rfl ?_
      refine j_getr (k := 41) (q := 42) (pc' := 74) q42_71 rfl (hρ 41 0 42 rfl) rfl ?_
      refine j_ldcI (pc' := 76) q42_74 rfl rfl ?_
      refine j_callS2_v (d := d + 4) (pc' := 79) q42_76 (Or.inl rfl) (Nat.le_of_ble_eq_true rfl) (Nat.le_of_ble_eq_true rfl) rfl (t_JA_fill_42 hρ (d + 4) _ _) (fun r9 => ?_)
      refine j_iload_n (pc' := 80) q42_79 rfl rfl ?_
      refine j_iconst (pc' := 81) q42_80 rfl ?_
      refine j_isub (pc' := 82) q42_81 rfl ?_
      refine j_istore4 (pc' := 84) q42_82 rfl (Nat.le_of_ble_eq_true rfl) rfl ?_
      refine j_forget (V' := [.ref 41, .null, .null, .null, .int (a3 - (1 : Int32)), .null]) (z_le_s (z_le_n (z_le_n (z_le_n (z_le_s (z_le_n (z_le_nil))))))) ?_
      refine j_loopX (S := Int32 × zS) (E := zS) (fun e => e) 118 (fun s10 => [.ref 41, .null, .null, .null, .int s10.1, .null]) (fun s10 => s10.2) (fun b10 => [.ref 41, .null, .null, .null, .null, .null]) (fun b10 => b10) (fun b10 => ?_) (fun R10 hR10 hX10 s10 => ?_) ((a3 - (1 : Int32)), r9)
      · show z_J _ _ _ _ _ _ _ _ _ _ _ _
        refine j_aload_n (pc' := 119) q42_118 rfl (by decide) rfl ?_
        refine j_aload_n (pc' := 120) q42_119 rfl (by decide) rfl ?_
        refine j_iconst (pc' := 121) q42_120 rfl ?_
        refine j_aload_n (pc' := 122) q42_121 rfl (by decide) rfl ?_
        refine j_getf (k := 41) (pc' := 125) q42_122 rfl rfl ?_
        refine j_aload_n (pc' := 126) q42_125 rfl (by decide) rfl ?_
        refine j_getf (k := 41) (pc' := 129) q42_126 rfl rfl ?_
        refine j_callV3_pi (d := d + 4) (pc' := 132) q42_129 rfl (Nat.le_of_ble_eq_true rfl) (Nat.le_of_ble_eq_true rfl) rfl (t_Pl_leastAt_41 hρ (d + 3) _ _ _ _) (fun r15 => ?_)
        refine j_putf (k := 41) (pc' := 135) q42_132 rfl rfl ?_
        refine j_nameS (fun τ16 => ?_)
        exact j_vret q42_135 rfl
      · show z_J _ _ _ _ _ _ _ _ _ _ _ _
        refine j_iload (pc' := 86) q42_84 rfl rfl ?_
        refine j_if_lt (pc' := 89) q42_86 rfl (fun c11 => ?_) (fun c11 => ?_)
        · exact j_exit (j_forget (z_le_s (z_le_n (z_le_n (z_le_n (z_le_n (z_le_n (z_le_nil))))))) (hX10 s10.2))
        · refine j_iconst (pc' := 90) q42_89 rfl ?_
          refine j_istore5 (pc' := 92) q42_90 rfl (Nat.le_of_ble_eq_true rfl) rfl ?_
          refine j_forget (V' := [.ref 41, .null, .null, .null, .int s10.1, .int (0 : Int32)]) (z_le_s (z_le_n (z_le_n (z_le_n (z_le_s (z_le_s (z_le_nil))))))) ?_
          refine j_loopX (S := Int32 × zS) (E := zS) (fun e => e) 112 (fun s12 => [.ref 41, .null, .null, .null, .int s10.1, .int s12.1]) (fun s12 => s12.2) (fun b12 => [.ref 41, .null, .null, .null, .int s10.1, .null]) (fun b12 => b12) (fun b12 => ?_) (fun R12 hR12 hX12 s12 => ?_) ((0 : Int32), s10.2)
          · show z_J _ _ _ _ _ _ _ _ _ _ _ _
            refine j_iinc4 (pc' := 115) q42_112 rfl (Nat.le_of_ble_eq_true rfl) rfl ?_
            refine j_goto q42_115 rfl ?_
            exact j_again (j_forget (z_le_s (z_le_n (z_le_n (z_le_n (z_le_s (z_le_n (z_le_nil))))))) (hR10 ((s10.1 + (-1 : Int32)), b12)))
          · show z_J _ _ _ _ _ _ _ _ _ _ _ _
            refine j_iload (pc' := 94) q42_92 rfl rfl ?_
            refine j_iconst (pc' := 95) q42_94 rfl ?_
            refine j_icmp_ge (pc' := 98) q42_95 rfl (fun c13 => ?_) (fun c13 => ?_)
            · exact j_exit (j_forget (z_le_s (z_le_n (z_le_n (z_le_n (z_le_s (z_le_n (z_le_nil))))))) (hX12 s12.2))
            · refine j_aload_n (pc' := 99) q42_98 rfl (by decide) rfl ?_
              refine j_iload (pc' := 101) q42_99 rfl rfl ?_
              refine j_iload (pc' := 103) q42_101 rfl rfl ?_
              refine j_callV2_v (d := d + 4) (pc' := 106) q42_103 rfl (Nat.le_of_ble_eq_true rfl) (Nat.le_of_ble_eq_true rfl) rfl (t_Pl_weighStage_41 hρ (d + 0) _ _ _) (fun r14 => ?_)
              refine j_iinc5 (pc' := 109) q42_106 rfl (Nat.le_of_ble_eq_true rfl) rfl ?_
              refine j_goto q42_109 rfl ?_
              exact j_again (j_forget (z_le_s (z_le_n (z_le_n (z_le_n (z_le_s (z_le_s (z_le_nil))))))) (hR12 ((s12.1 + (1 : Int32)), r14)))
    · show z_J _ _ _ _ _ _ _ _ _ _ _ _
      refine j_icmp_ne (pc' := 48) q42_45 rfl (fun c17 => ?_) (fun c17 => ?_)
      · refine j_iconst (pc' := 49) q42_48 rfl ?_
        refine j_goto q42_49 rfl ?_
        refine j_forget (z_le_s (z_le_n (z_le_n (z_le_s (z_le_n (z_le_n (z_le_nil))))))) (hj7 (0 : Int32))
      · refine j_aload_n (pc' := 53) q42_52 rfl (by decide) rfl ?_
        refine j_getr (k := 1) (q := 2) (pc' := 56) q42_53 rfl (hρ 1 2 2 rfl) rfl ?_
        refine j_iload_n (pc' := 57) q42_56 rfl rfl ?_
        refine j_if (fun hi18 => ?_) (fun _ => j_none)
        refine j_iald (k := 2) (N := 16) (pc' := 58) q42_57 rfl hi18 rfl ?_
        refine j_aload_n (pc' := 59) q42_58 rfl (by decide) rfl ?_
        refine j_getr (k := 1) (q := 3) (pc' := 62) q42_59 rfl (hρ 1 3 3 rfl) rfl ?_
        refine j_iload_n (pc' := 63) q42_62 rfl rfl ?_
        refine j_if (fun hi19 => ?_) (fun _ => j_none)
        refine j_iald (k := 3) (N := 16) (pc' := 64) q42_63 rfl hi19 rfl ?_
        refine j_callS2_pi (d := d + 4) (pc' := 67) q42_64 (Or.inl rfl) (Nat.le_of_ble_eq_true rfl) (Nat.le_of_ble_eq_true rfl) rfl (t_Pl_lyingOf hρ (d + 4) _ _ _) (fun r20 => ?_)
        refine j_forget (z_le_s (z_le_n (z_le_n (z_le_s (z_le_n (z_le_n (z_le_nil))))))) (hj7 r20)
theorem q53_0 : z_fi (z_mi 53) 0 = some (0, .aload_n 0, 0, 0, 0, 0, 0) := rfl
theorem q53_1 : z_fi (z_mi 53) 1 = some (1, .iload_n 1, 0, 0, 0, 0, 0) := rfl
theorem q53_2 : z_fi (z_mi 53) 2 = some (2, .iload_n 2, 0, 0, 0, 0, 0) := rfl
theorem q53_3 : z_fi (z_mi 53) 3 = some (3, .iload_n 3, 0, 0, 0, 0, 0) := rfl
theorem q53_4 : z_fi (z_mi 53) 4 = some (4, .invokevirtual 71, 0, 49, 3, 0, 0) := rfl
theorem q53_7 : z_fi (z_mi 53) 7 = some (7, .istore 4, 0, 0, 0, 0, 0) := rfl
theorem q53_9 : z_fi (z_mi 53) 9 = some (9, .aload_n 0, 0, 0, 0, 0, 0) := rfl
theorem q53_10 : z_fi (z_mi 53) 10 = some (10, .iload_n 1, 0, 0, 0, 0, 0) := rfl
theorem q53_11 : z_fi (z_mi 53) 11 = some (11, .iload_n 2, 0, 0, 0, 0, 0) := rfl
theorem q53_12 : z_fi (z_mi 53) 12 = some (12, .iload_n 3, 0, 0, 0, 0, 0) := rfl
theorem q53_13 : z_fi (z_mi 53) 13 = some (13, .invokevirtual 82, 0, 50, 3, 0, 0) := rfl
theorem q53_16 : z_fi (z_mi 53) 16 = some (16, .iload 4, 0, 0, 0, 0, 0) := rfl
theorem q53_18 : z_fi (z_mi 53) 18 = some (18, .if_icmp .ne 5, 0, 23, 0, 0, 0) := rfl
theorem q53_21 : z_fi (z_mi 53) 21 = some (21, .iconst 0, 0, 0, 0, 0, 0) := rfl
theorem q53_22 : z_fi (z_mi 53) 22 = some (22, .ireturn, 0, 0, 0, 0, 0) := rfl
theorem q53_23 : z_fi (z_mi 53) 23 = some (23, .iconst 1, 0, 0, 0, 1, 0) := rfl
theorem q53_24 : z_fi (z_mi 53) 24 = some (24, .istore 5, 0, 0, 0, 0, 0) := rfl
theorem q53_26 : z_fi (z_mi 53) 26 = some (26, .iload 5, 0, 0, 0, 0, 0) := rfl
theorem q53_28 : z_fi (z_mi 53) 28 = some (28, .bipush 37, 0, 0, 0, 37, 0) := rfl
theorem q53_30 : z_fi (z_mi 53) 30 = some (30, .if_icmp .ge 32, 0, 62, 0, 0, 0) := rfl
theorem q53_33 : z_fi (z_mi 53) 33 = some (33, .aload_n 0, 0, 0, 0, 0, 0) := rfl
theorem q53_34 : z_fi (z_mi 53) 34 = some (34, .iload 5, 0, 0, 0, 0, 0) := rfl
theorem q53_36 : z_fi (z_mi 53) 36 = some (36, .invokevirtual 78, 0, 47, 1, 0, 0) := rfl
theorem q53_39 : z_fi (z_mi 53) 39 = some (39, .aload_n 0, 0, 0, 0, 0, 0) := rfl
theorem q53_40 : z_fi (z_mi 53) 40 = some (40, .iload_n 1, 0, 0, 0, 0, 0) := rfl
theorem q53_41 : z_fi (z_mi 53) 41 = some (41, .iload 5, 0, 0, 0, 0, 0) := rfl
theorem q53_43 : z_fi (z_mi 53) 43 = some (43, .iload_n 3, 0, 0, 0, 0, 0) := rfl
theorem q53_44 : z_fi (z_mi 53) 44 = some (44, .invokevirtual 82, 0, 50, 3, 0, 0) := rfl
theorem q53_47 : z_fi (z_mi 53) 47 = some (47, .iadd, 0, 0, 0, 0, 0) := rfl
theorem q53_48 : z_fi (z_mi 53) 48 = some (48, .iload 4, 0, 0, 0, 0, 0) := rfl
theorem q53_50 : z_fi (z_mi 53) 50 = some (50, .if_icmp .ne 6, 0, 56, 0, 0, 0) := rfl
theorem q53_53 : z_fi (z_mi 53) 53 = some (53, .iload 5, 0, 0, 0, 0, 0) := rfl
theorem q53_55 : z_fi (z_mi 53) 55 = some (55, .ireturn, 0, 0, 0, 0, 0) := rfl
theorem q53_56 : z_fi (z_mi 53) 56 = some (56, .iinc 5 1, 0, 0, 0, 1, 0) := rfl
theorem q53_59 : z_fi (z_mi 53) 59 = some (59, .goto (-33), 0, 26, 0, 0, 0) := rfl
theorem q53_62 : z_fi (z_mi 53) 62 = some (62, .iconst 0, 0, 0, 0, 0, 0) := rfl
theorem q53_63 : z_fi (z_mi 53) 63 = some (63, .ireturn, 0, 0, 0, 0, 0) := rfl
set_option maxRecDepth 20000 in
set_option maxHeartbeats 4000000 in
theorem t_Pl_bestAt_41 {xL : Nat} {xs : Nat → Int32} {ρ : Nat → Nat → Option Nat} (hρ : z_hR ρ) (d : Nat) (a1 : Int32) (a2 : Int32) (a3 : Int32) (σ : zS) : ∀ q, f_Pl_bestAt_41 a1 a2 a3 σ = some q → z_ec xL xs ρ (d + 4) 53 [.ref 41, .int a1, .int a2, .int a3] σ (em_pi σ q) := by
  refine j_of (W := [.ref 41, .int a1, .int a2, .int a3, .null, .null]) (fun L hL => ?_) ?_
  · subst hL; exact z_vl_0 _ 2 rfl
  · unfold f_Pl_bestAt_41
    refine j_aload_n (pc' := 1) q53_0 rfl (by decide) rfl ?_
    refine j_iload_n (pc' := 2) q53_1 rfl rfl ?_
    refine j_iload_n (pc' := 3) q53_2 rfl rfl ?_
    refine j_iload_n (pc' := 4) q53_3 rfl rfl ?_
    refine j_callV3_pi (d := d + 3) (pc' := 7) q53_4 rfl (Nat.le_of_ble_eq_true rfl) (Nat.le_of_ble_eq_true rfl) rfl (t_Pl_leastAt_41 hρ (d + 2) _ _ _ _) (fun r1 => ?_)
    refine j_istore4 (pc' := 9) q53_7 rfl (Nat.le_of_ble_eq_true rfl) rfl ?_
    refine j_aload_n (pc' := 10) q53_9 rfl (by decide) rfl ?_
    refine j_iload_n (pc' := 11) q53_10 rfl rfl ?_
    refine j_iload_n (pc' := 12) q53_11 rfl rfl ?_
    refine j_iload_n (pc' := 13) q53_12 rfl rfl ?_
    refine j_callV3_pi (d := d + 3) (pc' := 16) q53_13 rfl (Nat.le_of_ble_eq_true rfl) (Nat.le_of_ble_eq_true rfl) rfl (t_Pl_leastBehind_41 hρ (d + 0) _ _ _ _) (fun r2 => ?_)
    refine j_iload (pc' := 18) q53_16 rfl rfl ?_
    refine j_icmp_ne (pc' := 21) q53_18 rfl (fun c3 => ?_) (fun c3 => ?_)
    · refine j_iconst (pc' := 22) q53_21 rfl ?_
      exact j_piret q53_22 rfl
    · refine j_iconst (pc' := 24) q53_23 rfl ?_
      refine j_istore5 (pc' := 26) q53_24 rfl (Nat.le_of_ble_eq_true rfl) rfl ?_
      refine j_forget (V' := [.ref 41, .int a1, .null, .int a3, .int r1, .int (1 : Int32)]) (z_le_s (z_le_s (z_le_n (z_le_s (z_le_s (z_le_s (z_le_nil))))))) ?_
      refine j_loopX (S := Int32) (E := Unit) Sum.inl 62 (fun s4 => [.ref 41, .int a1, .null, .int a3, .int r1, .int s4]) (fun s4 => σ) (fun b4 => [.null, .null, .null, .null, .null, .null]) (fun b4 => σ) (fun b4 => ?_) (fun R4 hR4 hX4 s4 => ?_) (1 : Int32)
      · show z_J _ _ _ _ _ _ _ _ _ _ _ _
        refine j_iconst (pc' := 63) q53_62 rfl ?_
        exact j_piret q53_63 rfl
      · show z_J _ _ _ _ _ _ _ _ _ _ _ _
        refine j_iload (pc' := 28) q53_26 rfl rfl ?_
        refine j_bipush (pc' := 30) q53_28 rfl ?_
        refine j_icmp_ge (pc' := 33) q53_30 rfl (fun c5 => ?_) (fun c5 => ?_)
        · exact j_exit (j_forget (z_le_n (z_le_n (z_le_n (z_le_n (z_le_n (z_le_n (z_le_nil))))))) (hX4 ()))
        · refine j_aload_n (pc' := 34) q53_33 rfl (by decide) rfl ?_
          refine j_iload (pc' := 36) q53_34 rfl rfl ?_
          refine j_callV1_pi (d := d + 3) (pc' := 39) q53_36 rfl (Nat.le_of_ble_eq_true rfl) (Nat.le_of_ble_eq_true rfl) rfl (t_Pl_costOf_41 hρ (d + 1) _ _) (fun r6 => ?_)
          refine j_aload_n (pc' := 40) q53_39 rfl (by decide) rfl ?_
          refine j_iload_n (pc' := 41) q53_40 rfl rfl ?_
          refine j_iload (pc' := 43) q53_41 rfl rfl ?_
          refine j_iload_n (pc' := 44) q53_43 rfl rfl ?_
          refine j_callV3_pi (d := d + 3) (pc' := 47) q53_44 rfl (Nat.le_of_ble_eq_true rfl) (Nat.le_of_ble_eq_true rfl) rfl (t_Pl_leastBehind_41 hρ (d + 0) _ _ _ _) (fun r7 => ?_)
          refine j_iadd (pc' := 48) q53_47 rfl ?_
          refine j_iload (pc' := 50) q53_48 rfl rfl ?_
          refine j_icmp_ne (pc' := 53) q53_50 rfl (fun c8 => ?_) (fun c8 => ?_)
          · refine j_iload (pc' := 55) q53_53 rfl rfl ?_
            refine j_exit ?_
            exact j_piret q53_55 rfl
          · refine j_iinc5 (pc' := 59) q53_56 rfl (Nat.le_of_ble_eq_true rfl) rfl ?_
            refine j_goto q53_59 rfl ?_
            exact j_again (j_forget (z_le_s (z_le_s (z_le_n (z_le_s (z_le_s (z_le_s (z_le_nil))))))) (hR4 (s4 + (1 : Int32))))
theorem q52_0 : z_fi (z_mi 52) 0 = some (0, .aload_n 0, 0, 0, 0, 0, 0) := rfl
theorem q52_1 : z_fi (z_mi 52) 1 = some (1, .getfield 57, 0, 2, 3, 0, 0) := rfl
theorem q52_4 : z_fi (z_mi 52) 4 = some (4, .istore_n 2, 0, 0, 0, 0, 0) := rfl
theorem q52_5 : z_fi (z_mi 52) 5 = some (5, .aload_n 0, 0, 0, 0, 0, 0) := rfl
theorem q52_6 : z_fi (z_mi 52) 6 = some (6, .getfield 44, 0, 2, 4, 0, 0) := rfl
theorem q52_9 : z_fi (z_mi 52) 9 = some (9, .istore_n 3, 0, 0, 0, 0, 0) := rfl
theorem q52_10 : z_fi (z_mi 52) 10 = some (10, .iconst 0, 0, 0, 0, 0, 0) := rfl
theorem q52_11 : z_fi (z_mi 52) 11 = some (11, .istore 4, 0, 0, 0, 0, 0) := rfl
theorem q52_13 : z_fi (z_mi 52) 13 = some (13, .iload 4, 0, 0, 0, 0, 0) := rfl
theorem q52_15 : z_fi (z_mi 52) 15 = some (15, .iload_n 1, 0, 0, 0, 0, 0) := rfl
theorem q52_16 : z_fi (z_mi 52) 16 = some (16, .if_icmp .gt 86, 0, 102, 0, 0, 0) := rfl
theorem q52_19 : z_fi (z_mi 52) 19 = some (19, .iload_n 3, 0, 0, 0, 0, 0) := rfl
theorem q52_20 : z_fi (z_mi 52) 20 = some (20, .iconst 3, 0, 0, 0, 3, 0) := rfl
theorem q52_21 : z_fi (z_mi 52) 21 = some (21, .if_icmp .ge 81, 0, 102, 0, 0, 0) := rfl
theorem q52_24 : z_fi (z_mi 52) 24 = some (24, .aload_n 0, 0, 0, 0, 0, 0) := rfl
theorem q52_25 : z_fi (z_mi 52) 25 = some (25, .iload 4, 0, 0, 0, 0, 0) := rfl
theorem q52_27 : z_fi (z_mi 52) 27 = some (27, .iload_n 2, 0, 0, 0, 0, 0) := rfl
theorem q52_28 : z_fi (z_mi 52) 28 = some (28, .iload_n 3, 0, 0, 0, 0, 0) := rfl
theorem q52_29 : z_fi (z_mi 52) 29 = some (29, .invokevirtual 113, 0, 53, 3, 0, 0) := rfl
theorem q52_32 : z_fi (z_mi 52) 32 = some (32, .istore 5, 0, 0, 0, 0, 0) := rfl
theorem q52_34 : z_fi (z_mi 52) 34 = some (34, .iload 4, 0, 0, 0, 0, 0) := rfl
theorem q52_36 : z_fi (z_mi 52) 36 = some (36, .iload_n 1, 0, 0, 0, 0, 0) := rfl
theorem q52_37 : z_fi (z_mi 52) 37 = some (37, .if_icmp .ne 29, 0, 66, 0, 0, 0) := rfl
theorem q52_40 : z_fi (z_mi 52) 40 = some (40, .iload 5, 0, 0, 0, 0, 0) := rfl
theorem q52_42 : z_fi (z_mi 52) 42 = some (42, .ifCond .ne 7, 0, 49, 0, 0, 0) := rfl
theorem q52_45 : z_fi (z_mi 52) 45 = some (45, .iconst 0, 0, 0, 0, 0, 0) := rfl
theorem q52_46 : z_fi (z_mi 52) 46 = some (46, .goto 19, 0, 65, 0, 0, 0) := rfl
theorem q52_49 : z_fi (z_mi 52) 49 = some (49, .bipush 10, 0, 0, 0, 10, 0) := rfl
theorem q52_51 : z_fi (z_mi 52) 51 = some (51, .iload 5, 0, 0, 0, 0, 0) := rfl
theorem q52_53 : z_fi (z_mi 52) 53 = some (53, .invokestatic 97, 1, 45, 1, 0, 0) := rfl
theorem q52_56 : z_fi (z_mi 52) 56 = some (56, .iconst 1, 0, 0, 0, 1, 0) := rfl
theorem q52_57 : z_fi (z_mi 52) 57 = some (57, .iadd, 0, 0, 0, 0, 0) := rfl
theorem q52_58 : z_fi (z_mi 52) 58 = some (58, .imul, 0, 0, 0, 0, 0) := rfl
theorem q52_59 : z_fi (z_mi 52) 59 = some (59, .iload 5, 0, 0, 0, 0, 0) := rfl
theorem q52_61 : z_fi (z_mi 52) 61 = some (61, .invokestatic 104, 1, 46, 1, 0, 0) := rfl
theorem q52_64 : z_fi (z_mi 52) 64 = some (64, .iadd, 0, 0, 0, 0, 0) := rfl
theorem q52_65 : z_fi (z_mi 52) 65 = some (65, .ireturn, 0, 0, 0, 0, 0) := rfl
theorem q52_66 : z_fi (z_mi 52) 66 = some (66, .iload 5, 0, 0, 0, 0, 0) := rfl
theorem q52_68 : z_fi (z_mi 52) 68 = some (68, .ifCond .ne 7, 0, 75, 0, 0, 0) := rfl
theorem q52_71 : z_fi (z_mi 52) 71 = some (71, .iload_n 2, 0, 0, 0, 0, 0) := rfl
theorem q52_72 : z_fi (z_mi 52) 72 = some (72, .goto 5, 0, 77, 0, 0, 0) := rfl
theorem q52_75 : z_fi (z_mi 52) 75 = some (75, .iload 5, 0, 0, 0, 0, 0) := rfl
theorem q52_77 : z_fi (z_mi 52) 77 = some (77, .istore_n 2, 0, 0, 0, 0, 0) := rfl
theorem q52_78 : z_fi (z_mi 52) 78 = some (78, .aload_n 0, 0, 0, 0, 0, 0) := rfl
theorem q52_79 : z_fi (z_mi 52) 79 = some (79, .getfield 38, 0, 2, 2, 0, 0) := rfl
theorem q52_82 : z_fi (z_mi 52) 82 = some (82, .iload_n 3, 0, 0, 0, 0, 0) := rfl
theorem q52_83 : z_fi (z_mi 52) 83 = some (83, .iload_n 2, 0, 0, 0, 0, 0) := rfl
theorem q52_84 : z_fi (z_mi 52) 84 = some (84, .invokestatic 97, 1, 45, 1, 0, 0) := rfl
theorem q52_87 : z_fi (z_mi 52) 87 = some (87, .invokestatic 107, 1, 3, 3, 0, 0) := rfl
theorem q52_90 : z_fi (z_mi 52) 90 = some (90, .istore_n 3, 0, 0, 0, 0, 0) := rfl
theorem q52_91 : z_fi (z_mi 52) 91 = some (91, .iload_n 2, 0, 0, 0, 0, 0) := rfl
theorem q52_92 : z_fi (z_mi 52) 92 = some (92, .invokestatic 110, 1, 51, 1, 0, 0) := rfl
theorem q52_95 : z_fi (z_mi 52) 95 = some (95, .istore_n 2, 0, 0, 0, 0, 0) := rfl
theorem q52_96 : z_fi (z_mi 52) 96 = some (96, .iinc 4 1, 0, 0, 0, 1, 0) := rfl
theorem q52_99 : z_fi (z_mi 52) 99 = some (99, .goto (-86), 0, 13, 0, 0, 0) := rfl
theorem q52_102 : z_fi (z_mi 52) 102 = some (102, .iconst 0, 0, 0, 0, 0, 0) := rfl
theorem q52_103 : z_fi (z_mi 52) 103 = some (103, .ireturn, 0, 0, 0, 0, 0) := rfl
set_option maxRecDepth 20000 in
set_option maxHeartbeats 4000000 in
theorem t_Pl_laidAheadOf_41 {xL : Nat} {xs : Nat → Int32} {ρ : Nat → Nat → Option Nat} (hρ : z_hR ρ) (d : Nat) (a1 : Int32) (σ : zS) : ∀ q, f_Pl_laidAheadOf_41 a1 σ = some q → z_ec xL xs ρ (d + 5) 52 [.ref 41, .int a1] σ (em_pi σ q) := by
  refine j_of (W := [.ref 41, .int a1, .null, .null, .null, .null]) (fun L hL => ?_) ?_
  · subst hL; exact z_vl_0 _ 4 rfl
  · unfold f_Pl_laidAheadOf_41
    refine j_aload_n (pc' := 1) q52_0 rfl (by decide) rfl ?_
    refine j_getf (k := 41) (pc' := 4) q52_1 rfl rfl ?_
    refine j_istore2 (pc' := 5) q52_4 rfl (Nat.le_of_ble_eq_true rfl) rfl ?_
    refine j_aload_n (pc' := 6) q52_5 rfl (by decide) rfl ?_
    refine j_getf (k := 41) (pc' := 9) q52_6 rfl rfl ?_
    refine j_istore3 (pc' := 10) q52_9 rfl (Nat.le_of_ble_eq_true rfl) rfl ?_
    refine j_iconst (pc' := 11) q52_10 rfl ?_
    refine j_istore4 (pc' := 13) q52_11 rfl (Nat.le_of_ble_eq_true rfl) rfl ?_
    refine j_forget (V' := [.ref 41, .int a1, .int (σ 41 3), .int (σ 41 4), .int (0 : Int32), .null]) (z_le_s (z_le_s (z_le_s (z_le_s (z_le_s (z_le_n (z_le_nil))))))) ?_
    refine j_loopX (S := Int32 × Int32 × Int32) (E := Int32) Sum.inl 40 (fun s1 => [.ref 41, .int a1, .int s1.1, .int s1.2.1, .int s1.2.2, .null]) (fun s1 => σ) (fun b1 => [.null, .null, .null, .null, .null, .int b1]) (fun b1 => σ) (fun b1 => ?_) (fun R1 hR1 hX1 s1 => ?_) ((σ 41 3), (σ 41 4), (0 : Int32))
    · show z_J _ _ _ _ _ _ _ _ _ _ _ _
      refine j_iload (pc' := 42) q52_40 rfl rfl ?_
      refine j_if_ne (pc' := 45) q52_42 rfl (fun c11 => ?_) (fun c11 => ?_)
      · refine j_iconst (pc' := 46) q52_45 rfl ?_
        refine j_goto q52_46 rfl ?_
        exact j_piret q52_65 rfl
      · refine j_bipush (pc' := 51) q52_49 rfl ?_
        refine j_iload (pc' := 53) q52_51 rfl rfl ?_
        refine j_callS1_pi (d := d + 4) (pc' := 56) q52_53 (Or.inl rfl) (Nat.le_of_ble_eq_true rfl) (Nat.le_of_ble_eq_true rfl) rfl (t_Pl_seasonOf hρ (d + 4) _ _) (fun r12 => ?_)
        refine j_iconst (pc' := 57) q52_56 rfl ?_
        refine j_iadd (pc' := 58) q52_57 rfl ?_
        refine j_imul (pc' := 59) q52_58 rfl ?_
        refine j_iload (pc' := 61) q52_59 rfl rfl ?_
        refine j_callS1_pi (d := d + 4) (pc' := 64) q52_61 (Or.inl rfl) (Nat.le_of_ble_eq_true rfl) (Nat.le_of_ble_eq_true rfl) rfl (t_Pl_yardsOf hρ (d + 4) _ _) (fun r13 => ?_)
        refine j_iadd (pc' := 65) q52_64 rfl ?_
        exact j_piret q52_65 rfl
    · show z_J _ _ _ _ _ _ _ _ _ _ _ _
      refine j_iload (pc' := 15) q52_13 rfl rfl ?_
      refine j_iload_n (pc' := 16) q52_15 rfl rfl ?_
      refine j_icmp_gt (pc' := 19) q52_16 rfl (fun c2 => ?_) (fun c2 => ?_)
      · refine j_iconst (pc' := 103) q52_102 rfl ?_
        refine j_exit ?_
        exact j_piret q52_103 rfl
      · refine j_iload_n (pc' := 20) q52_19 rfl rfl ?_
        refine j_iconst (pc' := 21) q52_20 rfl ?_
        refine j_icmp_ge (pc' := 24) q52_21 rfl (fun c3 => ?_) (fun c3 => ?_)
        · refine j_iconst (pc' := 103) q52_102 rfl ?_
          refine j_exit ?_
          exact j_piret q52_103 rfl
        · refine j_aload_n (pc' := 25) q52_24 rfl (by decide) rfl ?_
          refine j_iload (pc' := 27) q52_25 rfl rfl ?_
          refine j_iload_n (pc' := 28) q52_27 rfl rfl ?_
          refine j_iload_n (pc' := 29) q52_28 rfl rfl ?_
          refine j_callV3_pi (d := d + 4) (pc' := 32) q52_29 rfl (Nat.le_of_ble_eq_true rfl) (Nat.le_of_ble_eq_true rfl) rfl (t_Pl_bestAt_41 hρ (d + 0) _ _ _ _) (fun r4 => ?_)
          refine j_istore5 (pc' := 34) q52_32 rfl (Nat.le_of_ble_eq_true rfl) rfl ?_
          refine j_iload (pc' := 36) q52_34 rfl rfl ?_
          refine j_iload_n (pc' := 37) q52_36 rfl rfl ?_
          refine j_icmp_ne (pc' := 40) q52_37 rfl (fun c5 => ?_) (fun c5 => ?_)
          · exact j_exit (j_forget (z_le_n (z_le_n (z_le_n (z_le_n (z_le_n (z_le_s (z_le_nil))))))) (hX1 r4))
          · refine j_iload (pc' := 68) q52_66 rfl rfl ?_
            refine j_join (T := Int32) 77 (fun t6 => [.ref 41, .int a1, .null, .int s1.2.1, .int s1.2.2, .null]) (fun t6 => [.int t6]) (fun t6 => σ) (fun t6 => ?_) (fun j6 hj6 => ?_)
            · show z_J _ _ _ _ _ _ _ _ _ _ _ _
              refine j_istore2 (pc' := 78) q52_77 rfl (Nat.le_of_ble_eq_true rfl) rfl ?_
              refine j_aload_n (pc' := 79) q52_78 rfl (by decide) rfl ?_
              refine j_getf (k := 41) (pc' := 82) q52_79 rfl rfl ?_
              refine j_iload_n (pc' := 83) q52_82 rfl rfl ?_
              refine j_iload_n (pc' := 84) q52_83 rfl rfl ?_
              refine j_callS1_pi (d := d + 4) (pc' := 87) q52_84 (Or.inl rfl) (Nat.le_of_ble_eq_true rfl) (Nat.le_of_ble_eq_true rfl) rfl (t_Pl_seasonOf hρ (d + 4) _ _) (fun r7 => ?_)
              refine j_callS3_pi (d := d + 4) (pc' := 90) q52_87 (Or.inl rfl) (Nat.le_of_ble_eq_true rfl) (Nat.le_of_ble_eq_true rfl) rfl (t_Cr_behind hρ (d + 2) _ _ _ _) (fun r8 => ?_)
              refine j_istore3 (pc' := 91) q52_90 rfl (Nat.le_of_ble_eq_true rfl) rfl ?_
              refine j_iload_n (pc' := 92) q52_91 rfl rfl ?_
              refine j_callS1_pi (d := d + 4) (pc' := 95) q52_92 (Or.inl rfl) (Nat.le_of_ble_eq_true rfl) (Nat.le_of_ble_eq_true rfl) rfl (t_Pl_lessOne hρ (d + 3) _ _) (fun r9 => ?_)
              refine j_istore2 (pc' := 96) q52_95 rfl (Nat.le_of_ble_eq_true rfl) rfl ?_
              refine j_iinc4 (pc' := 99) q52_96 rfl (Nat.le_of_ble_eq_true rfl) rfl ?_
              refine j_goto q52_99 rfl ?_
              exact j_again (j_forget (z_le_s (z_le_s (z_le_s (z_le_s (z_le_s (z_le_n (z_le_nil))))))) (hR1 (r9, r8, (s1.2.2 + (1 : Int32)))))
            · show z_J _ _ _ _ _ _ _ _ _ _ _ _
              refine j_if_ne (pc' := 71) q52_68 rfl (fun c10 => ?_) (fun c10 => ?_)
              · refine j_iload_n (pc' := 72) q52_71 rfl rfl ?_
                refine j_goto q52_72 rfl ?_
                refine j_forget (z_le_s (z_le_s (z_le_n (z_le_s (z_le_s (z_le_n (z_le_nil))))))) (hj6 s1.1)
              · refine j_iload (pc' := 77) q52_75 rfl rfl ?_
                refine j_forget (z_le_s (z_le_s (z_le_n (z_le_s (z_le_s (z_le_n (z_le_nil))))))) (hj6 r4)
theorem q128_0 : z_fi (z_mi 128) 0 = some (0, .aload_n 0, 0, 0, 0, 0, 0) := rfl
theorem q128_1 : z_fi (z_mi 128) 1 = some (1, .getfield 10, 0, 9, 0, 0, 0) := rfl
theorem q128_4 : z_fi (z_mi 128) 4 = some (4, .iload_n 1, 0, 0, 0, 0, 0) := rfl
theorem q128_5 : z_fi (z_mi 128) 5 = some (5, .invokevirtual 165, 0, 8, 1, 0, 0) := rfl
theorem q128_8 : z_fi (z_mi 128) 8 = some (8, .ifCond .eq 30, 0, 38, 0, 0, 0) := rfl
theorem q128_11 : z_fi (z_mi 128) 11 = some (11, .iload_n 2, 0, 0, 0, 0, 0) := rfl
theorem q128_12 : z_fi (z_mi 128) 12 = some (12, .iconst 1, 0, 0, 0, 1, 0) := rfl
theorem q128_13 : z_fi (z_mi 128) 13 = some (13, .bipush 6, 0, 0, 0, 6, 0) := rfl
theorem q128_15 : z_fi (z_mi 128) 15 = some (15, .invokestatic 60, 1, 99, 3, 0, 0) := rfl
theorem q128_18 : z_fi (z_mi 128) 18 = some (18, .ifCond .eq 20, 0, 38, 0, 0, 0) := rfl
theorem q128_21 : z_fi (z_mi 128) 21 = some (21, .iload_n 3, 0, 0, 0, 0, 0) := rfl
theorem q128_22 : z_fi (z_mi 128) 22 = some (22, .ifCond .eq 18, 0, 40, 0, 0, 0) := rfl
theorem q128_25 : z_fi (z_mi 128) 25 = some (25, .iload_n 3, 0, 0, 0, 0, 0) := rfl
theorem q128_26 : z_fi (z_mi 128) 26 = some (26, .bipush 10, 0, 0, 0, 10, 0) := rfl
theorem q128_28 : z_fi (z_mi 128) 28 = some (28, .bipush 9, 0, 0, 0, 9, 0) := rfl
theorem q128_30 : z_fi (z_mi 128) 30 = some (30, .iload_n 2, 0, 0, 0, 0, 0) := rfl
theorem q128_31 : z_fi (z_mi 128) 31 = some (31, .iadd, 0, 0, 0, 0, 0) := rfl
theorem q128_32 : z_fi (z_mi 128) 32 = some (32, .invokestatic 60, 1, 99, 3, 0, 0) := rfl
theorem q128_35 : z_fi (z_mi 128) 35 = some (35, .ifCond .ne 5, 0, 40, 0, 0, 0) := rfl
theorem q128_38 : z_fi (z_mi 128) 38 = some (38, .iconst (-1), 0, 0, 0, (-1), 0) := rfl
theorem q128_39 : z_fi (z_mi 128) 39 = some (39, .ireturn, 0, 0, 0, 0, 0) := rfl
theorem q128_40 : z_fi (z_mi 128) 40 = some (40, .aload_n 0, 0, 0, 0, 0, 0) := rfl
theorem q128_41 : z_fi (z_mi 128) 41 = some (41, .getfield 10, 0, 9, 0, 0, 0) := rfl
theorem q128_44 : z_fi (z_mi 128) 44 = some (44, .getfield 178, 0, 0, 4, 0, 0) := rfl
theorem q128_47 : z_fi (z_mi 128) 47 = some (47, .iload_n 1, 0, 0, 0, 0, 0) := rfl
theorem q128_48 : z_fi (z_mi 128) 48 = some (48, .iaload, 0, 0, 0, 0, 0) := rfl
theorem q128_49 : z_fi (z_mi 128) 49 = some (49, .bipush (-4), 0, 0, 0, (-4), 0) := rfl
theorem q128_51 : z_fi (z_mi 128) 51 = some (51, .if_icmp .ne 6, 0, 57, 0, 0, 0) := rfl
theorem q128_54 : z_fi (z_mi 128) 54 = some (54, .bipush (-2), 0, 0, 0, (-2), 0) := rfl
theorem q128_56 : z_fi (z_mi 128) 56 = some (56, .ireturn, 0, 0, 0, 0, 0) := rfl
theorem q128_57 : z_fi (z_mi 128) 57 = some (57, .aload_n 0, 0, 0, 0, 0, 0) := rfl
theorem q128_58 : z_fi (z_mi 128) 58 = some (58, .getfield 48, 0, 9, 6, 0, 0) := rfl
theorem q128_61 : z_fi (z_mi 128) 61 = some (61, .aload_n 0, 0, 0, 0, 0, 0) := rfl
theorem q128_62 : z_fi (z_mi 128) 62 = some (62, .getfield 10, 0, 9, 0, 0, 0) := rfl
theorem q128_65 : z_fi (z_mi 128) 65 = some (65, .iload_n 1, 0, 0, 0, 0, 0) := rfl
theorem q128_66 : z_fi (z_mi 128) 66 = some (66, .iload_n 2, 0, 0, 0, 0, 0) := rfl
theorem q128_67 : z_fi (z_mi 128) 67 = some (67, .invokevirtual 215, 0, 42, 3, 0, 0) := rfl
theorem q128_70 : z_fi (z_mi 128) 70 = some (70, .aload_n 0, 0, 0, 0, 0, 0) := rfl
theorem q128_71 : z_fi (z_mi 128) 71 = some (71, .getfield 48, 0, 9, 6, 0, 0) := rfl
theorem q128_74 : z_fi (z_mi 128) 74 = some (74, .getfield 219, 0, 2, 5, 0, 0) := rfl
theorem q128_77 : z_fi (z_mi 128) 77 = some (77, .ldc 222, 0, 0, 0, 1000000, 0) := rfl
theorem q128_79 : z_fi (z_mi 128) 79 = some (79, .if_icmp .lt 6, 0, 85, 0, 0, 0) := rfl
theorem q128_82 : z_fi (z_mi 128) 82 = some (82, .bipush (-4), 0, 0, 0, (-4), 0) := rfl
theorem q128_84 : z_fi (z_mi 128) 84 = some (84, .ireturn, 0, 0, 0, 0, 0) := rfl
theorem q128_85 : z_fi (z_mi 128) 85 = some (85, .iload_n 3, 0, 0, 0, 0, 0) := rfl
theorem q128_86 : z_fi (z_mi 128) 86 = some (86, .ifCond .ne 13, 0, 99, 0, 0, 0) := rfl
theorem q128_89 : z_fi (z_mi 128) 89 = some (89, .aload_n 0, 0, 0, 0, 0, 0) := rfl
theorem q128_90 : z_fi (z_mi 128) 90 = some (90, .getfield 48, 0, 9, 6, 0, 0) := rfl
theorem q128_93 : z_fi (z_mi 128) 93 = some (93, .getfield 219, 0, 2, 5, 0, 0) := rfl
theorem q128_96 : z_fi (z_mi 128) 96 = some (96, .goto 14, 0, 110, 0, 0, 0) := rfl
theorem q128_99 : z_fi (z_mi 128) 99 = some (99, .aload_n 0, 0, 0, 0, 0, 0) := rfl
theorem q128_100 : z_fi (z_mi 128) 100 = some (100, .getfield 48, 0, 9, 6, 0, 0) := rfl
theorem q128_103 : z_fi (z_mi 128) 103 = some (103, .iload_n 3, 0, 0, 0, 0, 0) := rfl
theorem q128_104 : z_fi (z_mi 128) 104 = some (104, .bipush 10, 0, 0, 0, 10, 0) := rfl
theorem q128_106 : z_fi (z_mi 128) 106 = some (106, .isub, 0, 0, 0, 0, 0) := rfl
theorem q128_107 : z_fi (z_mi 128) 107 = some (107, .invokevirtual 223, 0, 52, 1, 0, 0) := rfl
theorem q128_110 : z_fi (z_mi 128) 110 = some (110, .ireturn, 0, 0, 0, 0, 0) := rfl
set_option maxRecDepth 20000 in
set_option maxHeartbeats 4000000 in
theorem t_Y_plan {xL : Nat} {xs : Nat → Int32} {ρ : Nat → Nat → Option Nat} (hρ : z_hR ρ) (d : Nat) (a1 : Int32) (a2 : Int32) (a3 : Int32) (σ : zS) : ∀ q, f_Y_plan a1 a2 a3 σ = some q → z_ec xL xs ρ (d + 6) 128 [.ref 0, .int a1, .int a2, .int a3] σ (em_i q) := by
  refine j_of (W := [.ref 0, .int a1, .int a2, .int a3]) (fun L hL => ?_) ?_
  · subst hL; exact z_vl_0 _ 0 rfl
  · unfold f_Y_plan
    refine j_aload_n (pc' := 1) q128_0 rfl (by decide) rfl ?_
    refine j_getr (k := 0) (q := 1) (pc' := 4) q128_1 rfl (hρ 0 0 1 rfl) rfl ?_
    refine j_iload_n (pc' := 5) q128_4 rfl rfl ?_
    refine j_callV1_pi (d := d + 5) (pc' := 8) q128_5 rfl (Nat.le_of_ble_eq_true rfl) (Nat.le_of_ble_eq_true rfl) rfl (t_G_hasCell_1 hρ (d + 4) _ _) (fun r1 => ?_)
    refine j_if_eq (pc' := 11) q128_8 rfl (fun c2 => ?_) (fun c2 => ?_)
    · refine j_iconst (pc' := 39) q128_38 rfl ?_
      exact j_iret q128_39 rfl
    · refine j_iload_n (pc' := 12) q128_11 rfl rfl ?_
      refine j_iconst (pc' := 13) q128_12 rfl ?_
      refine j_bipush (pc' := 15) q128_13 rfl ?_
      refine j_callS3_pi (d := d + 5) (pc' := 18) q128_15 (Or.inl rfl) (Nat.le_of_ble_eq_true rfl) (Nat.le_of_ble_eq_true rfl) rfl (t_Y_isIn hρ (d + 5) _ _ _ _) (fun r3 => ?_)
      refine j_if_eq (pc' := 21) q128_18 rfl (fun c4 => ?_) (fun c4 => ?_)
      · refine j_iconst (pc' := 39) q128_38 rfl ?_
        exact j_iret q128_39 rfl
      · refine j_iload_n (pc' := 22) q128_21 rfl rfl ?_
        refine j_join (T := Unit) 40 (fun t5 => [.ref 0, .int a1, .int a2, .int a3]) (fun t5 => []) (fun t5 => σ) (fun t5 => ?_) (fun j5 hj5 => ?_)
        · show z_J _ _ _ _ _ _ _ _ _ _ _ _
          refine j_aload_n (pc' := 41) q128_40 rfl (by decide) rfl ?_
          refine j_getr (k := 0) (q := 1) (pc' := 44) q128_41 rfl (hρ 0 0 1 rfl) rfl ?_
          refine j_getr (k := 1) (q := 4) (pc' := 47) q128_44 rfl (hρ 1 4 4 rfl) rfl ?_
          refine j_iload_n (pc' := 48) q128_47 rfl rfl ?_
          refine j_if (fun hi6 => ?_) (fun _ => j_none)
          refine j_iald (k := 4) (N := 16) (pc' := 49) q128_48 rfl hi6 rfl ?_
          refine j_bipush (pc' := 51) q128_49 rfl ?_
          refine j_icmp_ne (pc' := 54) q128_51 rfl (fun c7 => ?_) (fun c7 => ?_)
          · refine j_bipush (pc' := 56) q128_54 rfl ?_
            exact j_iret q128_56 rfl
          · refine j_aload_n (pc' := 58) q128_57 rfl (by decide) rfl ?_
            refine j_getr (k := 0) (q := 41) (pc' := 61) q128_58 rfl (hρ 0 6 41 rfl) rfl ?_
            refine j_aload_n (pc' := 62) q128_61 rfl (by decide) rfl ?_
            refine j_getr (k := 0) (q := 1) (pc' := 65) q128_62 rfl (hρ 0 0 1 rfl) rfl ?_
            refine j_iload_n (pc' := 66) q128_65 rfl rfl ?_
            refine j_iload_n (pc' := 67) q128_66 rfl rfl ?_
            refine j_callV3_v (d := d + 5) (pc' := 70) q128_67 rfl (Nat.le_of_ble_eq_true rfl) (Nat.le_of_ble_eq_true rfl) rfl (t_Pl_weigh_41_1 hρ (d + 0) _ _ _) (fun r8 => ?_)
            refine j_aload_n (pc' := 71) q128_70 rfl (by decide) rfl ?_
            refine j_getr (k := 0) (q := 41) (pc' := 74) q128_71 rfl (hρ 0 6 41 rfl) rfl ?_
            refine j_getf (k := 41) (pc' := 77) q128_74 rfl rfl ?_
            refine j_ldcI (pc' := 79) q128_77 rfl rfl ?_
            refine j_icmp_lt (pc' := 82) q128_79 rfl (fun c9 => ?_) (fun c9 => ?_)
            · refine j_iload_n (pc' := 86) q128_85 rfl rfl ?_
              refine j_if_ne (pc' := 89) q128_86 rfl (fun c10 => ?_) (fun c10 => ?_)
              · refine j_aload_n (pc' := 90) q128_89 rfl (by decide) rfl ?_
                refine j_getr (k := 0) (q := 41) (pc' := 93) q128_90 rfl (hρ 0 6 41 rfl) rfl ?_
                refine j_getf (k := 41) (pc' := 96) q128_93 rfl rfl ?_
                refine j_goto q128_96 rfl ?_
                exact j_iret q128_110 rfl
              · refine j_aload_n (pc' := 100) q128_99 rfl (by decide) rfl ?_
                refine j_getr (k := 0) (q := 41) (pc' := 103) q128_100 rfl (hρ 0 6 41 rfl) rfl ?_
                refine j_iload_n (pc' := 104) q128_103 rfl rfl ?_
                refine j_bipush (pc' := 106) q128_104 rfl ?_
                refine j_isub (pc' := 107) q128_106 rfl ?_
                refine j_callV1_pi (d := d + 5) (pc' := 110) q128_107 rfl (Nat.le_of_ble_eq_true rfl) (Nat.le_of_ble_eq_true rfl) rfl (t_Pl_laidAheadOf_41 hρ (d + 0) _ _) (fun r11 => ?_)
                exact j_iret q128_110 rfl
            · refine j_bipush (pc' := 84) q128_82 rfl ?_
              exact j_iret q128_84 rfl
        · show z_J _ _ _ _ _ _ _ _ _ _ _ _
          refine j_if_eq (pc' := 25) q128_22 rfl (fun c12 => ?_) (fun c12 => ?_)
          · refine j_forget (z_le_s (z_le_s (z_le_s (z_le_s (z_le_nil))))) (hj5 ())
          · refine j_iload_n (pc' := 26) q128_25 rfl rfl ?_
            refine j_bipush (pc' := 28) q128_26 rfl ?_
            refine j_bipush (pc' := 30) q128_28 rfl ?_
            refine j_iload_n (pc' := 31) q128_30 rfl rfl ?_
            refine j_iadd (pc' := 32) q128_31 rfl ?_
            refine j_callS3_pi (d := d + 5) (pc' := 35) q128_32 (Or.inl rfl) (Nat.le_of_ble_eq_true rfl) (Nat.le_of_ble_eq_true rfl) rfl (t_Y_isIn hρ (d + 5) _ _ _ _) (fun r13 => ?_)
            refine j_if_ne (pc' := 38) q128_35 rfl (fun c14 => ?_) (fun c14 => ?_)
            · refine j_iconst (pc' := 39) q128_38 rfl ?_
              exact j_iret q128_39 rfl
            · refine j_forget (z_le_s (z_le_s (z_le_s (z_le_s (z_le_nil))))) (hj5 ())
set_option maxRecDepth 8000 in
theorem q207_0 : z_fi (z_mi 207) 0 = some (0, .iload_n 0, 0, 0, 0, 0, 0) := rfl
set_option maxRecDepth 8000 in
theorem q207_1 : z_fi (z_mi 207) 1 = some (1, .ifCond .eq 24, 0, 25, 0, 0, 0) := rfl
set_option maxRecDepth 8000 in
theorem q207_4 : z_fi (z_mi 207) 4 = some (4, .iload_n 0, 0, 0, 0, 0, 0) := rfl
set_option maxRecDepth 8000 in
theorem q207_5 : z_fi (z_mi 207) 5 = some (5, .i2l, 0, 0, 0, 0, 0) := rfl
set_option maxRecDepth 8000 in
theorem q207_6 : z_fi (z_mi 207) 6 = some (6, .ldc2_w 241, 0, 0, 0, 0, 11) := rfl
set_option maxRecDepth 8000 in
theorem q207_9 : z_fi (z_mi 207) 9 = some (9, .ldc2_w 243, 0, 0, 0, 0, 49) := rfl
set_option maxRecDepth 8000 in
theorem q207_12 : z_fi (z_mi 207) 12 = some (12, .invokestatic 62, 1, 149, 3, 0, 0) := rfl
set_option maxRecDepth 8000 in
theorem q207_15 : z_fi (z_mi 207) 15 = some (15, .ifCond .eq 14, 0, 29, 0, 0, 0) := rfl
set_option maxRecDepth 8000 in
theorem q207_18 : z_fi (z_mi 207) 18 = some (18, .iload_n 0, 0, 0, 0, 0, 0) := rfl
set_option maxRecDepth 8000 in
theorem q207_19 : z_fi (z_mi 207) 19 = some (19, .bipush 10, 0, 0, 0, 10, 0) := rfl
set_option maxRecDepth 8000 in
theorem q207_21 : z_fi (z_mi 207) 21 = some (21, .irem, 0, 0, 0, 0, 0) := rfl
set_option maxRecDepth 8000 in
theorem q207_22 : z_fi (z_mi 207) 22 = some (22, .ifCond .le 7, 0, 29, 0, 0, 0) := rfl
set_option maxRecDepth 8000 in
theorem q207_25 : z_fi (z_mi 207) 25 = some (25, .iconst 1, 0, 0, 0, 1, 0) := rfl
set_option maxRecDepth 8000 in
theorem q207_26 : z_fi (z_mi 207) 26 = some (26, .goto 4, 0, 30, 0, 0, 0) := rfl
set_option maxRecDepth 8000 in
theorem q207_29 : z_fi (z_mi 207) 29 = some (29, .iconst 0, 0, 0, 0, 0, 0) := rfl
set_option maxRecDepth 8000 in
theorem q207_30 : z_fi (z_mi 207) 30 = some (30, .ireturn, 0, 0, 0, 0, 0) := rfl
set_option maxRecDepth 20000 in
set_option maxHeartbeats 4000000 in
theorem t_M_isChoice {xL : Nat} {xs : Nat → Int32} {ρ : Nat → Nat → Option Nat} (hρ : z_hR ρ) (d : Nat) (a0 : Int32) (σ : zS) : ∀ q, f_M_isChoice a0 σ = some q → z_ec xL xs ρ (d + 1) 207 [.int a0] σ (em_pi σ q) := by
  refine j_of (W := [.int a0]) (fun L hL => ?_) ?_
  · subst hL; exact z_vl_0 _ 0 rfl
  · unfold f_M_isChoice
    refine j_iload_n (pc' := 1) q207_0 rfl rfl ?_
    refine j_join (T := Unit) 25 (fun t1 => [.null]) (fun t1 => []) (fun t1 => σ) (fun t1 => ?_) (fun j1 hj1 => ?_)
    · show z_J _ _ _ _ _ _ _ _ _ _ _ _
      refine j_iconst (pc' := 26) q207_25 rfl ?_
      refine j_goto q207_26 rfl ?_
      exact j_pzret q207_30 rfl (Or.inr rfl)
    · show z_J _ _ _ _ _ _ _ _ _ _ _ _
      refine j_if_eq (pc' := 4) q207_1 rfl (fun c2 => ?_) (fun c2 => ?_)
      · refine j_forget (z_le_n (z_le_nil)) (hj1 ())
      · refine j_iload_n (pc' := 5) q207_4 rfl rfl ?_
        refine j_i2l (pc' := 6) q207_5 rfl ?_
        refine j_ldc2 (pc' := 9) q207_6 rfl ?_
        refine j_ldc2 (pc' := 12) q207_9 rfl ?_
        refine j_callS3_pi (d := d + 0) (pc' := 15) q207_12 (Or.inl rfl) (Nat.le_of_ble_eq_true rfl) (Nat.le_of_ble_eq_true rfl) rfl (t_M_in hρ (d + 0) _ _ _ _) (fun r3 => ?_)
        refine j_if_eq (pc' := 18) q207_15 rfl (fun c4 => ?_) (fun c4 => ?_)
        · refine j_iconst (pc' := 30) q207_29 rfl ?_
          exact j_pzret q207_30 rfl (Or.inl rfl)
        · refine j_iload_n (pc' := 19) q207_18 rfl rfl ?_
          refine j_bipush (pc' := 21) q207_19 rfl ?_
          refine j_irem (pc' := 22) q207_21 (by decide) rfl ?_
          refine j_if_le (pc' := 25) q207_22 rfl (fun c5 => ?_) (fun c5 => ?_)
          · refine j_iconst (pc' := 30) q207_29 rfl ?_
            exact j_pzret q207_30 rfl (Or.inl rfl)
          · refine j_forget (z_le_n (z_le_nil)) (hj1 ())
set_option maxRecDepth 8000 in
theorem q205_0 : z_fi (z_mi 205) 0 = some (0, .sipush 150, 0, 0, 0, 150, 0) := rfl
set_option maxRecDepth 8000 in
theorem q205_3 : z_fi (z_mi 205) 3 = some (3, .iload_n 0, 0, 0, 0, 0, 0) := rfl
set_option maxRecDepth 8000 in
theorem q205_4 : z_fi (z_mi 205) 4 = some (4, .imul, 0, 0, 0, 0, 0) := rfl
set_option maxRecDepth 8000 in
theorem q205_5 : z_fi (z_mi 205) 5 = some (5, .bipush 30, 0, 0, 0, 30, 0) := rfl
set_option maxRecDepth 8000 in
theorem q205_7 : z_fi (z_mi 205) 7 = some (7, .iload_n 2, 0, 0, 0, 0, 0) := rfl
set_option maxRecDepth 8000 in
theorem q205_8 : z_fi (z_mi 205) 8 = some (8, .ifCond .ne 7, 0, 15, 0, 0, 0) := rfl
set_option maxRecDepth 8000 in
theorem q205_11 : z_fi (z_mi 205) 11 = some (11, .iconst 4, 0, 0, 0, 4, 0) := rfl
set_option maxRecDepth 8000 in
theorem q205_12 : z_fi (z_mi 205) 12 = some (12, .goto 4, 0, 16, 0, 0, 0) := rfl
set_option maxRecDepth 8000 in
theorem q205_15 : z_fi (z_mi 205) 15 = some (15, .iload_n 1, 0, 0, 0, 0, 0) := rfl
set_option maxRecDepth 8000 in
theorem q205_16 : z_fi (z_mi 205) 16 = some (16, .imul, 0, 0, 0, 0, 0) := rfl
set_option maxRecDepth 8000 in
theorem q205_17 : z_fi (z_mi 205) 17 = some (17, .iadd, 0, 0, 0, 0, 0) := rfl
set_option maxRecDepth 8000 in
theorem q205_18 : z_fi (z_mi 205) 18 = some (18, .iconst 3, 0, 0, 0, 3, 0) := rfl
set_option maxRecDepth 8000 in
theorem q205_19 : z_fi (z_mi 205) 19 = some (19, .iload_n 2, 0, 0, 0, 0, 0) := rfl
set_option maxRecDepth 8000 in
theorem q205_20 : z_fi (z_mi 205) 20 = some (20, .imul, 0, 0, 0, 0, 0) := rfl
set_option maxRecDepth 8000 in
theorem q205_21 : z_fi (z_mi 205) 21 = some (21, .iadd, 0, 0, 0, 0, 0) := rfl
set_option maxRecDepth 8000 in
theorem q205_22 : z_fi (z_mi 205) 22 = some (22, .iload_n 3, 0, 0, 0, 0, 0) := rfl
set_option maxRecDepth 8000 in
theorem q205_23 : z_fi (z_mi 205) 23 = some (23, .iadd, 0, 0, 0, 0, 0) := rfl
set_option maxRecDepth 8000 in
theorem q205_24 : z_fi (z_mi 205) 24 = some (24, .ireturn, 0, 0, 0, 0, 0) := rfl
set_option maxRecDepth 20000 in
set_option maxHeartbeats 4000000 in
theorem t_M_at {xL : Nat} {xs : Nat → Int32} {ρ : Nat → Nat → Option Nat} (hρ : z_hR ρ) (d : Nat) (a0 : Int32) (a1 : Int32) (a2 : Int32) (a3 : Int32) (σ : zS) : ∀ q, f_M_at a0 a1 a2 a3 σ = some q → z_ec xL xs ρ (d + 0) 205 [.int a0, .int a1, .int a2, .int a3] σ (em_pi σ q) := by
  refine j_of (W := [.int a0, .int a1, .int a2, .int a3]) (fun L hL => ?_) ?_
  · subst hL; exact z_vl_0 _ 0 rfl
  · unfold f_M_at
    refine j_sipush (pc' := 3) q205_0 rfl ?_
    refine j_iload_n (pc' := 4) q205_3 rfl rfl ?_
    refine j_imul (pc' := 5) q205_4 rfl ?_
    refine j_bipush (pc' := 7) q205_5 rfl ?_
    refine j_iload_n (pc' := 8) q205_7 rfl rfl ?_
    refine j_join (T := Int32 × Int32 × Int32) 16 (fun t1 => [.null, .null, .int a2, .int a3]) (fun t1 => [.int t1.1, .int t1.2.1, .int t1.2.2]) (fun t1 => σ) (fun t1 => ?_) (fun j1 hj1 => ?_)
    · show z_J _ _ _ _ _ _ _ _ _ _ _ _
      refine j_imul (pc' := 17) q205_16 rfl ?_
      refine j_iadd (pc' := 18) q205_17 rfl ?_
      refine j_iconst (pc' := 19) q205_18 rfl ?_
      refine j_iload_n (pc' := 20) q205_19 rfl rfl ?_
      refine j_imul (pc' := 21) q205_20 rfl ?_
      refine j_iadd (pc' := 22) q205_21 rfl ?_
      refine j_iload_n (pc' := 23) q205_22 rfl rfl ?_
      refine j_iadd (pc' := 24) q205_23 rfl ?_
      exact j_piret q205_24 rfl
    · show z_J _ _ _ _ _ _ _ _ _ _ _ _
      refine j_if_ne (pc' := 11) q205_8 rfl (fun c2 => ?_) (fun c2 => ?_)
      · refine j_iconst (pc' := 12) q205_11 rfl ?_
        refine j_goto q205_12 rfl ?_
        refine j_forget (z_le_n (z_le_n (z_le_s (z_le_s (z_le_nil))))) (hj1 ((4 : Int32), (30 : Int32), ((150 : Int32) * a0)))
      · refine j_iload_n (pc' := 16) q205_15 rfl rfl ?_
        refine j_forget (z_le_n (z_le_n (z_le_s (z_le_s (z_le_nil))))) (hj1 (a1, (30 : Int32), ((150 : Int32) * a0)))
set_option maxRecDepth 8000 in
theorem q206_0 : z_fi (z_mi 206) 0 = some (0, .iload 7, 0, 0, 0, 0, 0) := rfl
set_option maxRecDepth 8000 in
theorem q206_2 : z_fi (z_mi 206) 2 = some (2, .ifCond .ne 8, 0, 10, 0, 0, 0) := rfl
set_option maxRecDepth 8000 in
theorem q206_5 : z_fi (z_mi 206) 5 = some (5, .iload 4, 0, 0, 0, 0, 0) := rfl
set_option maxRecDepth 8000 in
theorem q206_7 : z_fi (z_mi 206) 7 = some (7, .goto 10, 0, 17, 0, 0, 0) := rfl
set_option maxRecDepth 8000 in
theorem q206_10 : z_fi (z_mi 206) 10 = some (10, .iload 7, 0, 0, 0, 0, 0) := rfl
set_option maxRecDepth 8000 in
theorem q206_12 : z_fi (z_mi 206) 12 = some (12, .bipush 10, 0, 0, 0, 10, 0) := rfl
set_option maxRecDepth 8000 in
theorem q206_14 : z_fi (z_mi 206) 14 = some (14, .idiv, 0, 0, 0, 0, 0) := rfl
set_option maxRecDepth 8000 in
theorem q206_15 : z_fi (z_mi 206) 15 = some (15, .iconst 1, 0, 0, 0, 1, 0) := rfl
set_option maxRecDepth 8000 in
theorem q206_16 : z_fi (z_mi 206) 16 = some (16, .isub, 0, 0, 0, 0, 0) := rfl
set_option maxRecDepth 8000 in
theorem q206_17 : z_fi (z_mi 206) 17 = some (17, .istore 8, 0, 0, 0, 0, 0) := rfl
set_option maxRecDepth 8000 in
theorem q206_19 : z_fi (z_mi 206) 19 = some (19, .iload 7, 0, 0, 0, 0, 0) := rfl
set_option maxRecDepth 8000 in
theorem q206_21 : z_fi (z_mi 206) 21 = some (21, .ifCond .ne 8, 0, 29, 0, 0, 0) := rfl
set_option maxRecDepth 8000 in
theorem q206_24 : z_fi (z_mi 206) 24 = some (24, .iload 5, 0, 0, 0, 0, 0) := rfl
set_option maxRecDepth 8000 in
theorem q206_26 : z_fi (z_mi 206) 26 = some (26, .goto 8, 0, 34, 0, 0, 0) := rfl
set_option maxRecDepth 8000 in
theorem q206_29 : z_fi (z_mi 206) 29 = some (29, .iload 7, 0, 0, 0, 0, 0) := rfl
set_option maxRecDepth 8000 in
theorem q206_31 : z_fi (z_mi 206) 31 = some (31, .bipush 10, 0, 0, 0, 10, 0) := rfl
set_option maxRecDepth 8000 in
theorem q206_33 : z_fi (z_mi 206) 33 = some (33, .irem, 0, 0, 0, 0, 0) := rfl
set_option maxRecDepth 8000 in
theorem q206_34 : z_fi (z_mi 206) 34 = some (34, .istore 9, 0, 0, 0, 0, 0) := rfl
set_option maxRecDepth 8000 in
theorem q206_36 : z_fi (z_mi 206) 36 = some (36, .iload 7, 0, 0, 0, 0, 0) := rfl
set_option maxRecDepth 8000 in
theorem q206_38 : z_fi (z_mi 206) 38 = some (38, .ifCond .ne 7, 0, 45, 0, 0, 0) := rfl
set_option maxRecDepth 8000 in
theorem q206_41 : z_fi (z_mi 206) 41 = some (41, .iconst 0, 0, 0, 0, 0, 0) := rfl
set_option maxRecDepth 8000 in
theorem q206_42 : z_fi (z_mi 206) 42 = some (42, .goto 22, 0, 64, 0, 0, 0) := rfl
set_option maxRecDepth 8000 in
theorem q206_45 : z_fi (z_mi 206) 45 = some (45, .iload 9, 0, 0, 0, 0, 0) := rfl
set_option maxRecDepth 8000 in
theorem q206_47 : z_fi (z_mi 206) 47 = some (47, .aload_n 0, 0, 0, 0, 0, 0) := rfl
set_option maxRecDepth 8000 in
theorem q206_48 : z_fi (z_mi 206) 48 = some (48, .getfield 7, 0, 10, 0, 0, 0) := rfl
set_option maxRecDepth 8000 in
theorem q206_51 : z_fi (z_mi 206) 51 = some (51, .bipush 96, 0, 0, 0, 96, 0) := rfl
set_option maxRecDepth 8000 in
theorem q206_53 : z_fi (z_mi 206) 53 = some (53, .iconst 2, 0, 0, 0, 2, 0) := rfl
set_option maxRecDepth 8000 in
theorem q206_54 : z_fi (z_mi 206) 54 = some (54, .iload 8, 0, 0, 0, 0, 0) := rfl
set_option maxRecDepth 8000 in
theorem q206_56 : z_fi (z_mi 206) 56 = some (56, .imul, 0, 0, 0, 0, 0) := rfl
set_option maxRecDepth 8000 in
theorem q206_57 : z_fi (z_mi 206) 57 = some (57, .iadd, 0, 0, 0, 0, 0) := rfl
set_option maxRecDepth 8000 in
theorem q206_58 : z_fi (z_mi 206) 58 = some (58, .iconst 1, 0, 0, 0, 1, 0) := rfl
set_option maxRecDepth 8000 in
theorem q206_59 : z_fi (z_mi 206) 59 = some (59, .iadd, 0, 0, 0, 0, 0) := rfl
set_option maxRecDepth 8000 in
theorem q206_60 : z_fi (z_mi 206) 60 = some (60, .iaload, 0, 0, 0, 0, 0) := rfl
set_option maxRecDepth 8000 in
theorem q206_61 : z_fi (z_mi 206) 61 = some (61, .iconst 1, 0, 0, 0, 1, 0) := rfl
set_option maxRecDepth 8000 in
theorem q206_62 : z_fi (z_mi 206) 62 = some (62, .iadd, 0, 0, 0, 0, 0) := rfl
set_option maxRecDepth 8000 in
theorem q206_63 : z_fi (z_mi 206) 63 = some (63, .imul, 0, 0, 0, 0, 0) := rfl
set_option maxRecDepth 8000 in
theorem q206_64 : z_fi (z_mi 206) 64 = some (64, .istore 10, 0, 0, 0, 0, 0) := rfl
set_option maxRecDepth 8000 in
theorem q206_66 : z_fi (z_mi 206) 66 = some (66, .aload_n 0, 0, 0, 0, 0, 0) := rfl
set_option maxRecDepth 8000 in
theorem q206_67 : z_fi (z_mi 206) 67 = some (67, .iload_n 1, 0, 0, 0, 0, 0) := rfl
set_option maxRecDepth 8000 in
theorem q206_68 : z_fi (z_mi 206) 68 = some (68, .iload 6, 0, 0, 0, 0, 0) := rfl
set_option maxRecDepth 8000 in
theorem q206_70 : z_fi (z_mi 206) 70 = some (70, .iload 9, 0, 0, 0, 0, 0) := rfl
set_option maxRecDepth 8000 in
theorem q206_72 : z_fi (z_mi 206) 72 = some (72, .ifCond .ne 7, 0, 79, 0, 0, 0) := rfl
set_option maxRecDepth 8000 in
theorem q206_75 : z_fi (z_mi 206) 75 = some (75, .iconst 4, 0, 0, 0, 4, 0) := rfl
set_option maxRecDepth 8000 in
theorem q206_76 : z_fi (z_mi 206) 76 = some (76, .goto 5, 0, 81, 0, 0, 0) := rfl
set_option maxRecDepth 8000 in
theorem q206_79 : z_fi (z_mi 206) 79 = some (79, .iload 8, 0, 0, 0, 0, 0) := rfl
set_option maxRecDepth 8000 in
theorem q206_81 : z_fi (z_mi 206) 81 = some (81, .invokevirtual 209, 0, 192, 3, 0, 0) := rfl
set_option maxRecDepth 8000 in
theorem q206_84 : z_fi (z_mi 206) 84 = some (84, .istore 11, 0, 0, 0, 0, 0) := rfl
set_option maxRecDepth 8000 in
theorem q206_86 : z_fi (z_mi 206) 86 = some (86, .iload 11, 0, 0, 0, 0, 0) := rfl
set_option maxRecDepth 8000 in
theorem q206_88 : z_fi (z_mi 206) 88 = some (88, .iconst 3, 0, 0, 0, 3, 0) := rfl
set_option maxRecDepth 8000 in
theorem q206_89 : z_fi (z_mi 206) 89 = some (89, .if_icmp .ne 6, 0, 95, 0, 0, 0) := rfl
set_option maxRecDepth 8000 in
theorem q206_92 : z_fi (z_mi 206) 92 = some (92, .iload 10, 0, 0, 0, 0, 0) := rfl
set_option maxRecDepth 8000 in
theorem q206_94 : z_fi (z_mi 206) 94 = some (94, .ireturn, 0, 0, 0, 0, 0) := rfl
set_option maxRecDepth 8000 in
theorem q206_95 : z_fi (z_mi 206) 95 = some (95, .iload 11, 0, 0, 0, 0, 0) := rfl
set_option maxRecDepth 8000 in
theorem q206_97 : z_fi (z_mi 206) 97 = some (97, .iconst 4, 0, 0, 0, 4, 0) := rfl
set_option maxRecDepth 8000 in
theorem q206_98 : z_fi (z_mi 206) 98 = some (98, .if_icmp .eq 10, 0, 108, 0, 0, 0) := rfl
set_option maxRecDepth 8000 in
theorem q206_101 : z_fi (z_mi 206) 101 = some (101, .iload_n 2, 0, 0, 0, 0, 0) := rfl
set_option maxRecDepth 8000 in
theorem q206_102 : z_fi (z_mi 206) 102 = some (102, .iconst 1, 0, 0, 0, 1, 0) := rfl
set_option maxRecDepth 8000 in
theorem q206_103 : z_fi (z_mi 206) 103 = some (103, .iadd, 0, 0, 0, 0, 0) := rfl
set_option maxRecDepth 8000 in
theorem q206_104 : z_fi (z_mi 206) 104 = some (104, .iload_n 3, 0, 0, 0, 0, 0) := rfl
set_option maxRecDepth 8000 in
theorem q206_105 : z_fi (z_mi 206) 105 = some (105, .if_icmp .ne 8, 0, 113, 0, 0, 0) := rfl
set_option maxRecDepth 8000 in
theorem q206_108 : z_fi (z_mi 206) 108 = some (108, .ldc 236, 0, 0, 0, 100000, 0) := rfl
set_option maxRecDepth 8000 in
theorem q206_110 : z_fi (z_mi 206) 110 = some (110, .goto 34, 0, 144, 0, 0, 0) := rfl
set_option maxRecDepth 8000 in
theorem q206_113 : z_fi (z_mi 206) 113 = some (113, .iload 10, 0, 0, 0, 0, 0) := rfl
set_option maxRecDepth 8000 in
theorem q206_115 : z_fi (z_mi 206) 115 = some (115, .aload_n 0, 0, 0, 0, 0, 0) := rfl
set_option maxRecDepth 8000 in
theorem q206_116 : z_fi (z_mi 206) 116 = some (116, .getfield 41, 0, 10, 24, 0, 0) := rfl
set_option maxRecDepth 8000 in
theorem q206_119 : z_fi (z_mi 206) 119 = some (119, .iload_n 2, 0, 0, 0, 0, 0) := rfl
set_option maxRecDepth 8000 in
theorem q206_120 : z_fi (z_mi 206) 120 = some (120, .iconst 1, 0, 0, 0, 1, 0) := rfl
set_option maxRecDepth 8000 in
theorem q206_121 : z_fi (z_mi 206) 121 = some (121, .iadd, 0, 0, 0, 0, 0) := rfl
set_option maxRecDepth 8000 in
theorem q206_122 : z_fi (z_mi 206) 122 = some (122, .iload 8, 0, 0, 0, 0, 0) := rfl
set_option maxRecDepth 8000 in
theorem q206_124 : z_fi (z_mi 206) 124 = some (124, .iload 9, 0, 0, 0, 0, 0) := rfl
set_option maxRecDepth 8000 in
theorem q206_126 : z_fi (z_mi 206) 126 = some (126, .ifCond .ne 7, 0, 133, 0, 0, 0) := rfl
set_option maxRecDepth 8000 in
theorem q206_129 : z_fi (z_mi 206) 129 = some (129, .iconst 0, 0, 0, 0, 0, 0) := rfl
set_option maxRecDepth 8000 in
theorem q206_130 : z_fi (z_mi 206) 130 = some (130, .goto 7, 0, 137, 0, 0, 0) := rfl
set_option maxRecDepth 8000 in
theorem q206_133 : z_fi (z_mi 206) 133 = some (133, .iload 9, 0, 0, 0, 0, 0) := rfl
set_option maxRecDepth 8000 in
theorem q206_135 : z_fi (z_mi 206) 135 = some (135, .iconst 1, 0, 0, 0, 1, 0) := rfl
set_option maxRecDepth 8000 in
theorem q206_136 : z_fi (z_mi 206) 136 = some (136, .isub, 0, 0, 0, 0, 0) := rfl
set_option maxRecDepth 8000 in
theorem q206_137 : z_fi (z_mi 206) 137 = some (137, .iload 11, 0, 0, 0, 0, 0) := rfl
set_option maxRecDepth 8000 in
theorem q206_139 : z_fi (z_mi 206) 139 = some (139, .invokestatic 237, 1, 205, 4, 0, 0) := rfl
set_option maxRecDepth 8000 in
theorem q206_142 : z_fi (z_mi 206) 142 = some (142, .iaload, 0, 0, 0, 0, 0) := rfl
set_option maxRecDepth 8000 in
theorem q206_143 : z_fi (z_mi 206) 143 = some (143, .iadd, 0, 0, 0, 0, 0) := rfl
set_option maxRecDepth 8000 in
theorem q206_144 : z_fi (z_mi 206) 144 = some (144, .ireturn, 0, 0, 0, 0, 0) := rfl
set_option maxRecDepth 20000 in
set_option maxHeartbeats 4000000 in
theorem t_M_costBy {xL : Nat} {xs : Nat → Int32} {ρ : Nat → Nat → Option Nat} (hρ : z_hR ρ) (d : Nat) (a1 : Int32) (a2 : Int32) (a3 : Int32) (a4 : Int32) (a5 : Int32) (a6 : Int32) (a7 : Int32) (σ : zS) : ∀ q, f_M_costBy a1 a2 a3 a4 a5 a6 a7 σ = some q → z_ec xL xs ρ (d + 1) 206 [.ref 90, .int a1, .int a2, .int a3, .int a4, .int a5, .int a6, .int a7] σ (em_pi σ q) := by
  refine j_of (W := [.ref 90, .int a1, .int a2, .int a3, .int a4, .int a5, .int a6, .int a7, .null, .null, .null, .null]) (fun L hL => ?_) ?_
  · subst hL; exact z_vl_0 _ 4 rfl
  · unfold f_M_costBy
    refine j_iload (pc' := 2) q206_0 rfl rfl ?_
    refine j_join (T := Int32) 17 (fun t1 => [.ref 90, .int a1, .int a2, .int a3, .null, .int a5, .int a6, .int a7, .null, .null, .null, .null]) (fun t1 => [.int t1]) (fun t1 => σ) (fun t1 => ?_) (fun j1 hj1 => ?_)
    · show z_J _ _ _ _ _ _ _ _ _ _ _ _
      refine j_istore8 (pc' := 19) q206_17 rfl (Nat.le_of_ble_eq_true rfl) rfl ?_
      refine j_iload (pc' := 21) q206_19 rfl rfl ?_
      refine j_join (T := Int32) 34 (fun t2 => [.ref 90, .int a1, .int a2, .int a3, .null, .null, .int a6, .int a7, .int t1, .null, .null, .null]) (fun t2 => [.int t2]) (fun t2 => σ) (fun t2 => ?_) (fun j2 hj2 => ?_)
      · show z_J _ _ _ _ _ _ _ _ _ _ _ _
        refine j_istore9 (pc' := 36) q206_34 rfl (Nat.le_of_ble_eq_true rfl) rfl ?_
        refine j_iload (pc' := 38) q206_36 rfl rfl ?_
        refine j_join (T := Int32) 64 (fun t3 => [.ref 90, .int a1, .int a2, .int a3, .null, .null, .int a6, .null, .int t1, .int t2, .null, .null]) (fun t3 => [.int t3]) (fun t3 => σ) (fun t3 => ?_) (fun j3 hj3 => ?_)
        · show z_J _ _ _ _ _ _ _ _ _ _ _ _
          refine j_istore10 (pc' := 66) q206_64 rfl (Nat.le_of_ble_eq_true rfl) rfl ?_
          refine j_aload_n (pc' := 67) q206_66 rfl (by decide) rfl ?_
          refine j_iload_n (pc' := 68) q206_67 rfl rfl ?_
          refine j_iload (pc' := 70) q206_68 rfl rfl ?_
          refine j_iload (pc' := 72) q206_70 rfl rfl ?_
          refine j_join (T := Int32 × Int32 × Int32) 81 (fun t4 => [.ref 90, .null, .int a2, .int a3, .null, .null, .null, .null, .int t1, .int t2, .int t3, .null]) (fun t4 => [.int t4.1, .int t4.2.1, .int t4.2.2, .ref 90]) (fun t4 => σ) (fun t4 => ?_) (fun j4 hj4 => ?_)
          · show z_J _ _ _ _ _ _ _ _ _ _ _ _
            refine j_callV3_pi (d := d + 0) (pc' := 84) q206_81 rfl (Nat.le_of_ble_eq_true rfl) (Nat.le_of_ble_eq_true rfl) rfl (t_M_stageBy hρ (d + 0) _ _ _ _) (fun r5 => ?_)
            refine j_istore11 (pc' := 86) q206_84 rfl (Nat.le_of_ble_eq_true rfl) rfl ?_
            refine j_iload (pc' := 88) q206_86 rfl rfl ?_
            refine j_iconst (pc' := 89) q206_88 rfl ?_
            refine j_icmp_ne (pc' := 92) q206_89 rfl (fun c6 => ?_) (fun c6 => ?_)
            · refine j_iload (pc' := 94) q206_92 rfl rfl ?_
              exact j_piret q206_94 rfl
            · refine j_iload (pc' := 97) q206_95 rfl rfl ?_
              refine j_iconst (pc' := 98) q206_97 rfl ?_
              refine j_join (T := Unit) 108 (fun t7 => [.null, .null, .null, .null, .null, .null, .null, .null, .null, .null, .null, .null]) (fun t7 => []) (fun t7 => σ) (fun t7 => ?_) (fun j7 hj7 => ?_)
              · show z_J _ _ _ _ _ _ _ _ _ _ _ _
                refine j_ldcI (pc' := 110) q206_108 rfl rfl ?_
                refine j_goto q206_110 rfl ?_
                exact j_piret q206_144 rfl
              · show z_J _ _ _ _ _ _ _ _ _ _ _ _
                refine j_icmp_eq (pc' := 101) q206_98 rfl (fun c8 => ?_) (fun c8 => ?_)
                · refine j_forget (z_le_n (z_le_n (z_le_n (z_le_n (z_le_n (z_le_n (z_le_n (z_le_n (z_le_n (z_le_n (z_le_n (z_le_n (z_le_nil))))))))))))) (hj7 ())
                · refine j_iload_n (pc' := 102) q206_101 rfl rfl ?_
                  refine j_iconst (pc' := 103) q206_102 rfl ?_
                  refine j_iadd (pc' := 104) q206_103 rfl ?_
                  refine j_iload_n (pc' := 105) q206_104 rfl rfl ?_
                  refine j_icmp_ne (pc' := 108) q206_105 rfl (fun c9 => ?_) (fun c9 => ?_)
                  · refine j_forget (z_le_n (z_le_n (z_le_n (z_le_n (z_le_n (z_le_n (z_le_n (z_le_n (z_le_n (z_le_n (z_le_n (z_le_n (z_le_nil))))))))))))) (hj7 ())
                  · refine j_iload (pc' := 115) q206_113 rfl rfl ?_
                    refine j_aload_n (pc' := 116) q206_115 rfl (by decide) rfl ?_
                    refine j_getr (k := 90) (q := 99) (pc' := 119) q206_116 rfl (hρ 90 24 99 rfl) rfl ?_
                    refine j_iload_n (pc' := 120) q206_119 rfl rfl ?_
                    refine j_iconst (pc' := 121) q206_120 rfl ?_
                    refine j_iadd (pc' := 122) q206_121 rfl ?_
                    refine j_iload (pc' := 124) q206_122 rfl rfl ?_
                    refine j_iload (pc' := 126) q206_124 rfl rfl ?_
                    refine j_join (T := Int32 × Int32 × Int32 × Int32) 137 (fun t10 => [.null, .null, .null, .null, .null, .null, .null, .null, .null, .null, .null, .int r5]) (fun t10 => [.int t10.1, .int t10.2.1, .int t10.2.2.1, .ref 99, .int t10.2.2.2]) (fun t10 => σ) (fun t10 => ?_) (fun j10 hj10 => ?_)
                    · show z_J _ _ _ _ _ _ _ _ _ _ _ _
                      refine j_iload (pc' := 139) q206_137 rfl rfl ?_
                      refine j_callS4_pi (d := d + 0) (pc' := 142) q206_139 (Or.inl rfl) (Nat.le_of_ble_eq_true rfl) (Nat.le_of_ble_eq_true rfl) rfl (t_M_at hρ (d + 0) _ _ _ _ _) (fun r11 => ?_)
                      refine j_if (fun hi12 => ?_) (fun _ => j_none)
                      refine j_iald (k := 99) (N := 1050) (pc' := 143) q206_142 rfl hi12 rfl ?_
                      refine j_iadd (pc' := 144) q206_143 rfl ?_
                      exact j_piret q206_144 rfl
                    · show z_J _ _ _ _ _ _ _ _ _ _ _ _
                      refine j_if_ne (pc' := 129) q206_126 rfl (fun c13 => ?_) (fun c13 => ?_)
                      · refine j_iconst (pc' := 130) q206_129 rfl ?_
                        refine j_goto q206_130 rfl ?_
                        refine j_forget (z_le_n (z_le_n (z_le_n (z_le_n (z_le_n (z_le_n (z_le_n (z_le_n (z_le_n (z_le_n (z_le_n (z_le_s (z_le_nil))))))))))))) (hj10 ((0 : Int32), t1, (a2 + (1 : Int32)), t3))
                      · refine j_iload (pc' := 135) q206_133 rfl rfl ?_
                        refine j_iconst (pc' := 136) q206_135 rfl ?_
                        refine j_isub (pc' := 137) q206_136 rfl ?_
                        refine j_forget (z_le_n (z_le_n (z_le_n (z_le_n (z_le_n (z_le_n (z_le_n (z_le_n (z_le_n (z_le_n (z_le_n (z_le_s (z_le_nil))))))))))))) (hj10 ((t2 - (1 : Int32)), t1, (a2 + (1 : Int32)), t3))
          · show z_J _ _ _ _ _ _ _ _ _ _ _ _
            refine j_if_ne (pc' := 75) q206_72 rfl (fun c14 => ?_) (fun c14 => ?_)
            · refine j_iconst (pc' := 76) q206_75 rfl ?_
              refine j_goto q206_76 rfl ?_
              refine j_forget (z_le_s (z_le_n (z_le_s (z_le_s (z_le_n (z_le_n (z_le_n (z_le_n (z_le_s (z_le_s (z_le_s (z_le_n (z_le_nil))))))))))))) (hj4 ((4 : Int32), a6, a1))
            · refine j_iload (pc' := 81) q206_79 rfl rfl ?_
              refine j_forget (z_le_s (z_le_n (z_le_s (z_le_s (z_le_n (z_le_n (z_le_n (z_le_n (z_le_s (z_le_s (z_le_s (z_le_n (z_le_nil))))))))))))) (hj4 (t1, a6, a1))
        · show z_J _ _ _ _ _ _ _ _ _ _ _ _
          refine j_if_ne (pc' := 41) q206_38 rfl (fun c15 => ?_) (fun c15 => ?_)
          · refine j_iconst (pc' := 42) q206_41 rfl ?_
            refine j_goto q206_42 rfl ?_
            refine j_forget (z_le_s (z_le_s (z_le_s (z_le_s (z_le_n (z_le_n (z_le_s (z_le_n (z_le_s (z_le_s (z_le_n (z_le_n (z_le_nil))))))))))))) (hj3 (0 : Int32))
          · refine j_iload (pc' := 47) q206_45 rfl rfl ?_
            refine j_aload_n (pc' := 48) q206_47 rfl (by decide) rfl ?_
            refine j_getr (k := 90) (q := 91) (pc' := 51) q206_48 rfl (hρ 90 0 91 rfl) rfl ?_
            refine j_bipush (pc' := 53) q206_51 rfl ?_
            refine j_iconst (pc' := 54) q206_53 rfl ?_
            refine j_iload (pc' := 56) q206_54 rfl rfl ?_
            refine j_imul (pc' := 57) q206_56 rfl ?_
            refine j_iadd (pc' := 58) q206_57 rfl ?_
            refine j_iconst (pc' := 59) q206_58 rfl ?_
            refine j_iadd (pc' := 60) q206_59 rfl ?_
            refine j_if (fun hi16 => ?_) (fun _ => j_none)
            refine j_iald (k := 91) (N := 550) (pc' := 61) q206_60 rfl hi16 rfl ?_
            refine j_iconst (pc' := 62) q206_61 rfl ?_
            refine j_iadd (pc' := 63) q206_62 rfl ?_
            refine j_imul (pc' := 64) q206_63 rfl ?_
            refine j_forget (z_le_s (z_le_s (z_le_s (z_le_s (z_le_n (z_le_n (z_le_s (z_le_n (z_le_s (z_le_s (z_le_n (z_le_n (z_le_nil))))))))))))) (hj3 (t2 * ((σ 91 (((96 : Int32) + ((2 : Int32) * t1)) + (1 : Int32)).toNatClampNeg) + (1 : Int32))))
      · show z_J _ _ _ _ _ _ _ _ _ _ _ _
        refine j_if_ne (pc' := 24) q206_21 rfl (fun c17 => ?_) (fun c17 => ?_)
        · refine j_iload (pc' := 26) q206_24 rfl rfl ?_
          refine j_goto q206_26 rfl ?_
          refine j_forget (z_le_s (z_le_s (z_le_s (z_le_s (z_le_n (z_le_n (z_le_s (z_le_s (z_le_s (z_le_n (z_le_n (z_le_n (z_le_nil))))))))))))) (hj2 a5)
        · refine j_iload (pc' := 31) q206_29 rfl rfl ?_
          refine j_bipush (pc' := 33) q206_31 rfl ?_
          refine j_irem (pc' := 34) q206_33 (by decide) rfl ?_
          refine j_forget (z_le_s (z_le_s (z_le_s (z_le_s (z_le_n (z_le_n (z_le_s (z_le_s (z_le_s (z_le_n (z_le_n (z_le_n (z_le_nil))))))))))))) (hj2 (a7 - a7 / (10 : Int32) * (10 : Int32)))
    · show z_J _ _ _ _ _ _ _ _ _ _ _ _
      refine j_if_ne (pc' := 5) q206_2 rfl (fun c18 => ?_) (fun c18 => ?_)
      · refine j_iload (pc' := 7) q206_5 rfl rfl ?_
        refine j_goto q206_7 rfl ?_
        refine j_forget (z_le_s (z_le_s (z_le_s (z_le_s (z_le_n (z_le_s (z_le_s (z_le_s (z_le_n (z_le_n (z_le_n (z_le_n (z_le_nil))))))))))))) (hj1 a4)
      · refine j_iload (pc' := 12) q206_10 rfl rfl ?_
        refine j_bipush (pc' := 14) q206_12 rfl ?_
        refine j_idiv (pc' := 15) q206_14 (by decide) rfl ?_
        refine j_iconst (pc' := 16) q206_15 rfl ?_
        refine j_isub (pc' := 17) q206_16 rfl ?_
        refine j_forget (z_le_s (z_le_s (z_le_s (z_le_s (z_le_n (z_le_s (z_le_s (z_le_s (z_le_n (z_le_n (z_le_n (z_le_n (z_le_nil))))))))))))) (hj1 ((a7 / (10 : Int32)) - (1 : Int32)))
