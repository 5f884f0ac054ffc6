/-! the abstract machine runs as the functions say, by wip/whole/gen_fun.py -/
theorem q99_0 : z_fi (z_mi 99) 0 = some (0, .iload_n 0, 0, 0, 0, 0, 0) := rfl
theorem q99_1 : z_fi (z_mi 99) 1 = some (1, .iload_n 1, 0, 0, 0, 0, 0) := rfl
theorem q99_2 : z_fi (z_mi 99) 2 = some (2, .if_icmp .lt 12, 0, 14, 0, 0, 0) := rfl
theorem q99_5 : z_fi (z_mi 99) 5 = some (5, .iload_n 0, 0, 0, 0, 0, 0) := rfl
theorem q99_6 : z_fi (z_mi 99) 6 = some (6, .iload_n 2, 0, 0, 0, 0, 0) := rfl
theorem q99_7 : z_fi (z_mi 99) 7 = some (7, .if_icmp .gt 7, 0, 14, 0, 0, 0) := rfl
theorem q99_10 : z_fi (z_mi 99) 10 = some (10, .iconst 1, 0, 0, 0, 1, 0) := rfl
theorem q99_11 : z_fi (z_mi 99) 11 = some (11, .goto 4, 0, 15, 0, 0, 0) := rfl
theorem q99_14 : z_fi (z_mi 99) 14 = some (14, .iconst 0, 0, 0, 0, 0, 0) := rfl
theorem q99_15 : z_fi (z_mi 99) 15 = some (15, .ireturn, 0, 0, 0, 0, 0) := rfl
set_option maxRecDepth 20000 in
set_option maxHeartbeats 4000000 in
theorem t_Y_isIn {xL : Nat} {xs : Nat → Int32} {ρ : Nat → Nat → Option Nat} (hρ : z_hR ρ) (d : Nat) (a0 : Int32) (a1 : Int32) (a2 : Int32) (σ : zS) : ∀ q, f_Y_isIn a0 a1 a2 σ = some q → z_ec xL xs ρ (d + 0) 99 [.int a0, .int a1, .int a2] σ (em_pi σ q) := by
  refine j_of (W := [.int a0, .int a1, .int a2]) (fun L hL => ?_) ?_
  · subst hL; exact z_vl_0 _ 0 rfl
  · unfold f_Y_isIn
    refine j_iload_n (pc' := 1) q99_0 rfl rfl ?_
    refine j_iload_n (pc' := 2) q99_1 rfl rfl ?_
    refine j_icmp_lt (pc' := 5) q99_2 rfl (fun c1 => ?_) (fun c1 => ?_)
    · refine j_iconst (pc' := 15) q99_14 rfl ?_
      exact j_pzret q99_15 rfl (Or.inl rfl)
    · refine j_iload_n (pc' := 6) q99_5 rfl rfl ?_
      refine j_iload_n (pc' := 7) q99_6 rfl rfl ?_
      refine j_icmp_gt (pc' := 10) q99_7 rfl (fun c2 => ?_) (fun c2 => ?_)
      · refine j_iconst (pc' := 15) q99_14 rfl ?_
        exact j_pzret q99_15 rfl (Or.inl rfl)
      · refine j_iconst (pc' := 11) q99_10 rfl ?_
        refine j_goto q99_11 rfl ?_
        exact j_pzret q99_15 rfl (Or.inr rfl)
theorem q75_0 : z_fi (z_mi 75) 0 = some (0, .aload_n 0, 0, 0, 0, 0, 0) := rfl
theorem q75_1 : z_fi (z_mi 75) 1 = some (1, .getfield 15, 0, 6, 1, 0, 0) := rfl
theorem q75_4 : z_fi (z_mi 75) 4 = some (4, .sipush 160, 0, 0, 0, 160, 0) := rfl
theorem q75_7 : z_fi (z_mi 75) 7 = some (7, .if_icmp .lt 5, 0, 12, 0, 0, 0) := rfl
theorem q75_10 : z_fi (z_mi 75) 10 = some (10, .iconst 0, 0, 0, 0, 0, 0) := rfl
theorem q75_11 : z_fi (z_mi 75) 11 = some (11, .ireturn, 0, 0, 0, 0, 0) := rfl
theorem q75_12 : z_fi (z_mi 75) 12 = some (12, .aload_n 0, 0, 0, 0, 0, 0) := rfl
theorem q75_13 : z_fi (z_mi 75) 13 = some (13, .getfield 11, 0, 6, 0, 0, 0) := rfl
theorem q75_16 : z_fi (z_mi 75) 16 = some (16, .aload_n 0, 0, 0, 0, 0, 0) := rfl
theorem q75_17 : z_fi (z_mi 75) 17 = some (17, .getfield 15, 0, 6, 1, 0, 0) := rfl
theorem q75_20 : z_fi (z_mi 75) 20 = some (20, .iload_n 1, 0, 0, 0, 0, 0) := rfl
theorem q75_21 : z_fi (z_mi 75) 21 = some (21, .i2b, 0, 0, 0, 0, 0) := rfl
theorem q75_22 : z_fi (z_mi 75) 22 = some (22, .bastore, 0, 0, 0, 0, 0) := rfl
theorem q75_23 : z_fi (z_mi 75) 23 = some (23, .aload_n 0, 0, 0, 0, 0, 0) := rfl
theorem q75_24 : z_fi (z_mi 75) 24 = some (24, .dup, 0, 0, 0, 0, 0) := rfl
theorem q75_25 : z_fi (z_mi 75) 25 = some (25, .getfield 15, 0, 6, 1, 0, 0) := rfl
theorem q75_28 : z_fi (z_mi 75) 28 = some (28, .iconst 1, 0, 0, 0, 1, 0) := rfl
theorem q75_29 : z_fi (z_mi 75) 29 = some (29, .iadd, 0, 0, 0, 0, 0) := rfl
theorem q75_30 : z_fi (z_mi 75) 30 = some (30, .putfield 15, 0, 6, 1, 0, 0) := rfl
theorem q75_33 : z_fi (z_mi 75) 33 = some (33, .iconst 1, 0, 0, 0, 1, 0) := rfl
theorem q75_34 : z_fi (z_mi 75) 34 = some (34, .ireturn, 0, 0, 0, 0, 0) := rfl
set_option maxRecDepth 20000 in
set_option maxHeartbeats 4000000 in
theorem t_Tp_add_35 {xL : Nat} {xs : Nat → Int32} {ρ : Nat → Nat → Option Nat} (hρ : z_hR ρ) (d : Nat) (a1 : Int32) (σ : zS) : ∀ q, f_Tp_add_35 a1 σ = some q → z_ec xL xs ρ (d + 0) 75 [.ref 35, .int a1] σ (em_i q) := by
  refine j_of (W := [.ref 35, .int a1]) (fun L hL => ?_) ?_
  · subst hL; exact z_vl_0 _ 0 rfl
  · unfold f_Tp_add_35
    refine j_aload_n (pc' := 1) q75_0 rfl (by decide) rfl ?_
    refine j_getf (k := 35) (pc' := 4) q75_1 rfl rfl ?_
    refine j_sipush (pc' := 7) q75_4 rfl ?_
    refine j_icmp_lt (pc' := 10) q75_7 rfl (fun c1 => ?_) (fun c1 => ?_)
    · refine j_aload_n (pc' := 13) q75_12 rfl (by decide) rfl ?_
      refine j_getr (k := 35) (q := 36) (pc' := 16) q75_13 rfl (hρ 35 0 36 rfl) rfl ?_
      refine j_aload_n (pc' := 17) q75_16 rfl (by decide) rfl ?_
      refine j_getf (k := 35) (pc' := 20) q75_17 rfl rfl ?_
      refine j_iload_n (pc' := 21) q75_20 rfl rfl ?_
      refine j_i2b (pc' := 22) q75_21 rfl ?_
      refine j_if (fun hi2 => ?_) (fun _ => j_none)
      refine j_bast (k := 36) (N := 160) (pc' := 23) q75_22 rfl hi2 rfl ?_
      refine j_nameS (fun τ3 => ?_)
      refine j_aload_n (pc' := 24) q75_23 rfl (by decide) rfl ?_
      refine j_dup (pc' := 25) q75_24 rfl rfl ?_
      refine j_getf (k := 35) (pc' := 28) q75_25 rfl rfl ?_
      refine j_iconst (pc' := 29) q75_28 rfl ?_
      refine j_iadd (pc' := 30) q75_29 rfl ?_
      refine j_putf (k := 35) (pc' := 33) q75_30 rfl rfl ?_
      refine j_nameS (fun τ4 => ?_)
      refine j_iconst (pc' := 34) q75_33 rfl ?_
      exact j_zret q75_34 rfl (Or.inr rfl)
    · refine j_iconst (pc' := 11) q75_10 rfl ?_
      exact j_zret q75_11 rfl (Or.inl rfl)
theorem q101_0 : z_fi (z_mi 101) 0 = some (0, .iload_n 1, 0, 0, 0, 0, 0) := rfl
theorem q101_1 : z_fi (z_mi 101) 1 = some (1, .iconst 0, 0, 0, 0, 0, 0) := rfl
theorem q101_2 : z_fi (z_mi 101) 2 = some (2, .bipush 127, 0, 0, 0, 127, 0) := rfl
theorem q101_4 : z_fi (z_mi 101) 4 = some (4, .invokestatic 60, 1, 99, 3, 0, 0) := rfl
theorem q101_7 : z_fi (z_mi 101) 7 = some (7, .ifCond .ne 5, 0, 12, 0, 0, 0) := rfl
theorem q101_10 : z_fi (z_mi 101) 10 = some (10, .iconst (-1), 0, 0, 0, (-1), 0) := rfl
theorem q101_11 : z_fi (z_mi 101) 11 = some (11, .ireturn, 0, 0, 0, 0, 0) := rfl
theorem q101_12 : z_fi (z_mi 101) 12 = some (12, .aload_n 0, 0, 0, 0, 0, 0) := rfl
theorem q101_13 : z_fi (z_mi 101) 13 = some (13, .getfield 32, 0, 9, 4, 0, 0) := rfl
theorem q101_16 : z_fi (z_mi 101) 16 = some (16, .iload_n 1, 0, 0, 0, 0, 0) := rfl
theorem q101_17 : z_fi (z_mi 101) 17 = some (17, .invokevirtual 64, 0, 75, 1, 0, 0) := rfl
theorem q101_20 : z_fi (z_mi 101) 20 = some (20, .ifCond .eq 13, 0, 33, 0, 0, 0) := rfl
theorem q101_23 : z_fi (z_mi 101) 23 = some (23, .aload_n 0, 0, 0, 0, 0, 0) := rfl
theorem q101_24 : z_fi (z_mi 101) 24 = some (24, .getfield 32, 0, 9, 4, 0, 0) := rfl
theorem q101_27 : z_fi (z_mi 101) 27 = some (27, .getfield 68, 0, 6, 1, 0, 0) := rfl
theorem q101_30 : z_fi (z_mi 101) 30 = some (30, .goto 5, 0, 35, 0, 0, 0) := rfl
theorem q101_33 : z_fi (z_mi 101) 33 = some (33, .bipush (-3), 0, 0, 0, (-3), 0) := rfl
theorem q101_35 : z_fi (z_mi 101) 35 = some (35, .ireturn, 0, 0, 0, 0, 0) := rfl
set_option maxRecDepth 20000 in
set_option maxHeartbeats 4000000 in
theorem t_Y_feed {xL : Nat} {xs : Nat → Int32} {ρ : Nat → Nat → Option Nat} (hρ : z_hR ρ) (d : Nat) (a1 : Int32) (σ : zS) : ∀ q, f_Y_feed a1 σ = some q → z_ec xL xs ρ (d + 1) 101 [.ref 0, .int a1] σ (em_i q) := by
  refine j_of (W := [.ref 0, .int a1]) (fun L hL => ?_) ?_
  · subst hL; exact z_vl_0 _ 0 rfl
  · unfold f_Y_feed
    refine j_iload_n (pc' := 1) q101_0 rfl rfl ?_
    refine j_iconst (pc' := 2) q101_1 rfl ?_
    refine j_bipush (pc' := 4) q101_2 rfl ?_
    refine j_callS3_pi (d := d + 0) (pc' := 7) q101_4 (Or.inl rfl) (Nat.le_of_ble_eq_true rfl) (Nat.le_of_ble_eq_true rfl) rfl (t_Y_isIn hρ (d + 0) _ _ _ _) (fun r1 => ?_)
    refine j_if_ne (pc' := 10) q101_7 rfl (fun c2 => ?_) (fun c2 => ?_)
    · refine j_iconst (pc' := 11) q101_10 rfl ?_
      exact j_iret q101_11 rfl
    · refine j_aload_n (pc' := 13) q101_12 rfl (by decide) rfl ?_
      refine j_getr (k := 0) (q := 35) (pc' := 16) q101_13 rfl (hρ 0 4 35 rfl) rfl ?_
      refine j_iload_n (pc' := 17) q101_16 rfl rfl ?_
      refine j_callV1_i (d := d + 0) (pc' := 20) q101_17 rfl (Nat.le_of_ble_eq_true rfl) (Nat.le_of_ble_eq_true rfl) rfl (t_Tp_add_35 hρ (d + 0) _ _) (fun r3 => ?_)
      refine j_if_eq (pc' := 23) q101_20 rfl (fun c4 => ?_) (fun c4 => ?_)
      · refine j_bipush (pc' := 35) q101_33 rfl ?_
        exact j_iret q101_35 rfl
      · refine j_aload_n (pc' := 24) q101_23 rfl (by decide) rfl ?_
        refine j_getr (k := 0) (q := 35) (pc' := 27) q101_24 rfl (hρ 0 4 35 rfl) rfl ?_
        refine j_getf (k := 35) (pc' := 30) q101_27 rfl rfl ?_
        refine j_goto q101_30 rfl ?_
        exact j_iret q101_35 rfl
theorem q149_0 : z_fi (z_mi 149) 0 = some (0, .lload_n 0, 0, 0, 0, 0, 0) := rfl
theorem q149_1 : z_fi (z_mi 149) 1 = some (1, .lload_n 2, 0, 0, 0, 0, 0) := rfl
theorem q149_2 : z_fi (z_mi 149) 2 = some (2, .lcmp, 0, 0, 0, 0, 0) := rfl
theorem q149_3 : z_fi (z_mi 149) 3 = some (3, .ifCond .lt 14, 0, 17, 0, 0, 0) := rfl
theorem q149_6 : z_fi (z_mi 149) 6 = some (6, .lload_n 0, 0, 0, 0, 0, 0) := rfl
theorem q149_7 : z_fi (z_mi 149) 7 = some (7, .lload 4, 0, 0, 0, 0, 0) := rfl
theorem q149_9 : z_fi (z_mi 149) 9 = some (9, .lcmp, 0, 0, 0, 0, 0) := rfl
theorem q149_10 : z_fi (z_mi 149) 10 = some (10, .ifCond .gt 7, 0, 17, 0, 0, 0) := rfl
theorem q149_13 : z_fi (z_mi 149) 13 = some (13, .iconst 1, 0, 0, 0, 1, 0) := rfl
theorem q149_14 : z_fi (z_mi 149) 14 = some (14, .goto 4, 0, 18, 0, 0, 0) := rfl
theorem q149_17 : z_fi (z_mi 149) 17 = some (17, .iconst 0, 0, 0, 0, 0, 0) := rfl
theorem q149_18 : z_fi (z_mi 149) 18 = some (18, .ireturn, 0, 0, 0, 0, 0) := rfl
set_option maxRecDepth 20000 in
set_option maxHeartbeats 4000000 in
theorem t_M_in {xL : Nat} {xs : Nat → Int32} {ρ : Nat → Nat → Option Nat} (hρ : z_hR ρ) (d : Nat) (a0 : Int64) (a1 : Int64) (a2 : Int64) (σ : zS) : ∀ q, f_M_in a0 a1 a2 σ = some q → z_ec xL xs ρ (d + 0) 149 [.long a0, .long a1, .long a2] σ (em_pi σ q) := by
  refine j_of (W := [.long a0, .null, .long a1, .null, .long a2, .null]) (fun L hL => ?_) ?_
  · subst hL; exact z_vl_0 _ 0 rfl
  · unfold f_M_in
    refine j_lload_n (pc' := 1) q149_0 rfl rfl ?_
    refine j_lload_n (pc' := 2) q149_1 rfl rfl ?_
    refine j_lcmp (pc' := 3) q149_2 rfl ?_
    refine j_if_lt (pc' := 6) q149_3 rfl (fun c1 => ?_) (fun c1 => ?_)
    · refine j_iconst (pc' := 18) q149_17 rfl ?_
      exact j_pzret q149_18 rfl (Or.inl rfl)
    · refine j_lload_n (pc' := 7) q149_6 rfl rfl ?_
      refine j_lload (pc' := 9) q149_7 rfl rfl ?_
      refine j_lcmp (pc' := 10) q149_9 rfl ?_
      refine j_if_gt (pc' := 13) q149_10 rfl (fun c2 => ?_) (fun c2 => ?_)
      · refine j_iconst (pc' := 18) q149_17 rfl ?_
        exact j_pzret q149_18 rfl (Or.inl rfl)
      · refine j_iconst (pc' := 14) q149_13 rfl ?_
        refine j_goto q149_14 rfl ?_
        exact j_pzret q149_18 rfl (Or.inr rfl)
theorem q150_0 : z_fi (z_mi 150) 0 = some (0, .iload_n 1, 0, 0, 0, 0, 0) := rfl
theorem q150_1 : z_fi (z_mi 150) 1 = some (1, .i2l, 0, 0, 0, 0, 0) := rfl
theorem q150_2 : z_fi (z_mi 150) 2 = some (2, .lconst 0, 0, 0, 0, 0, 0) := rfl
theorem q150_3 : z_fi (z_mi 150) 3 = some (3, .ldc2_w 60, 0, 0, 0, 0, 127) := rfl
theorem q150_6 : z_fi (z_mi 150) 6 = some (6, .invokestatic 62, 1, 149, 3, 0, 0) := rfl
theorem q150_9 : z_fi (z_mi 150) 9 = some (9, .ifCond .ne 5, 0, 14, 0, 0, 0) := rfl
theorem q150_12 : z_fi (z_mi 150) 12 = some (12, .iconst (-1), 0, 0, 0, (-1), 0) := rfl
theorem q150_13 : z_fi (z_mi 150) 13 = some (13, .ireturn, 0, 0, 0, 0, 0) := rfl
theorem q150_14 : z_fi (z_mi 150) 14 = some (14, .aload_n 0, 0, 0, 0, 0, 0) := rfl
theorem q150_15 : z_fi (z_mi 150) 15 = some (15, .getfield 66, 0, 10, 13, 0, 0) := rfl
theorem q150_18 : z_fi (z_mi 150) 18 = some (18, .sipush 160, 0, 0, 0, 160, 0) := rfl
theorem q150_21 : z_fi (z_mi 150) 21 = some (21, .if_icmp .ne 6, 0, 27, 0, 0, 0) := rfl
theorem q150_24 : z_fi (z_mi 150) 24 = some (24, .bipush (-3), 0, 0, 0, (-3), 0) := rfl
theorem q150_26 : z_fi (z_mi 150) 26 = some (26, .ireturn, 0, 0, 0, 0, 0) := rfl
theorem q150_27 : z_fi (z_mi 150) 27 = some (27, .aload_n 0, 0, 0, 0, 0, 0) := rfl
theorem q150_28 : z_fi (z_mi 150) 28 = some (28, .getfield 29, 0, 10, 12, 0, 0) := rfl
theorem q150_31 : z_fi (z_mi 150) 31 = some (31, .aload_n 0, 0, 0, 0, 0, 0) := rfl
theorem q150_32 : z_fi (z_mi 150) 32 = some (32, .getfield 66, 0, 10, 13, 0, 0) := rfl
theorem q150_35 : z_fi (z_mi 150) 35 = some (35, .iload_n 1, 0, 0, 0, 0, 0) := rfl
theorem q150_36 : z_fi (z_mi 150) 36 = some (36, .iastore, 0, 0, 0, 0, 0) := rfl
theorem q150_37 : z_fi (z_mi 150) 37 = some (37, .aload_n 0, 0, 0, 0, 0, 0) := rfl
theorem q150_38 : z_fi (z_mi 150) 38 = some (38, .dup, 0, 0, 0, 0, 0) := rfl
theorem q150_39 : z_fi (z_mi 150) 39 = some (39, .getfield 66, 0, 10, 13, 0, 0) := rfl
theorem q150_42 : z_fi (z_mi 150) 42 = some (42, .iconst 1, 0, 0, 0, 1, 0) := rfl
theorem q150_43 : z_fi (z_mi 150) 43 = some (43, .iadd, 0, 0, 0, 0, 0) := rfl
theorem q150_44 : z_fi (z_mi 150) 44 = some (44, .putfield 66, 0, 10, 13, 0, 0) := rfl
theorem q150_47 : z_fi (z_mi 150) 47 = some (47, .aload_n 0, 0, 0, 0, 0, 0) := rfl
theorem q150_48 : z_fi (z_mi 150) 48 = some (48, .getfield 66, 0, 10, 13, 0, 0) := rfl
theorem q150_51 : z_fi (z_mi 150) 51 = some (51, .ireturn, 0, 0, 0, 0, 0) := rfl
set_option maxRecDepth 20000 in
set_option maxHeartbeats 4000000 in
theorem t_M_feed {xL : Nat} {xs : Nat → Int32} {ρ : Nat → Nat → Option Nat} (hρ : z_hR ρ) (d : Nat) (a1 : Int32) (σ : zS) : ∀ q, f_M_feed a1 σ = some q → z_ec xL xs ρ (d + 1) 150 [.ref 90, .int a1] σ (em_i q) := by
  refine j_of (W := [.ref 90, .int a1]) (fun L hL => ?_) ?_
  · subst hL; exact z_vl_0 _ 0 rfl
  · unfold f_M_feed
    refine j_iload_n (pc' := 1) q150_0 rfl rfl ?_
    refine j_i2l (pc' := 2) q150_1 rfl ?_
    refine j_lconst (pc' := 3) q150_2 rfl ?_
    refine j_ldc2 (pc' := 6) q150_3 rfl ?_
    refine j_callS3_pi (d := d + 0) (pc' := 9) q150_6 (Or.inl rfl) (Nat.le_of_ble_eq_true rfl) (Nat.le_of_ble_eq_true rfl) rfl (t_M_in hρ (d + 0) _ _ _ _) (fun r1 => ?_)
    refine j_if_ne (pc' := 12) q150_9 rfl (fun c2 => ?_) (fun c2 => ?_)
    · refine j_iconst (pc' := 13) q150_12 rfl ?_
      exact j_iret q150_13 rfl
    · refine j_aload_n (pc' := 15) q150_14 rfl (by decide) rfl ?_
      refine j_getf (k := 90) (pc' := 18) q150_15 rfl rfl ?_
      refine j_sipush (pc' := 21) q150_18 rfl ?_
      refine j_icmp_ne (pc' := 24) q150_21 rfl (fun c3 => ?_) (fun c3 => ?_)
      · refine j_bipush (pc' := 26) q150_24 rfl ?_
        exact j_iret q150_26 rfl
      · refine j_aload_n (pc' := 28) q150_27 rfl (by decide) rfl ?_
        refine j_getr (k := 90) (q := 95) (pc' := 31) q150_28 rfl (hρ 90 12 95 rfl) rfl ?_
        refine j_aload_n (pc' := 32) q150_31 rfl (by decide) rfl ?_
        refine j_getf (k := 90) (pc' := 35) q150_32 rfl rfl ?_
        refine j_iload_n (pc' := 36) q150_35 rfl rfl ?_
        refine j_if (fun hi4 => ?_) (fun _ => j_none)
        refine j_iast (k := 95) (N := 160) (pc' := 37) q150_36 rfl hi4 rfl ?_
        refine j_nameS (fun τ5 => ?_)
        refine j_aload_n (pc' := 38) q150_37 rfl (by decide) rfl ?_
        refine j_dup (pc' := 39) q150_38 rfl rfl ?_
        refine j_getf (k := 90) (pc' := 42) q150_39 rfl rfl ?_
        refine j_iconst (pc' := 43) q150_42 rfl ?_
        refine j_iadd (pc' := 44) q150_43 rfl ?_
        refine j_putf (k := 90) (pc' := 47) q150_44 rfl rfl ?_
        refine j_nameS (fun τ6 => ?_)
        refine j_aload_n (pc' := 48) q150_47 rfl (by decide) rfl ?_
        refine j_getf (k := 90) (pc' := 51) q150_48 rfl rfl ?_
        exact j_iret q150_51 rfl
theorem q102_0 : z_fi (z_mi 102) 0 = some (0, .aload_n 0, 0, 0, 0, 0, 0) := rfl
theorem q102_1 : z_fi (z_mi 102) 1 = some (1, .getfield 32, 0, 9, 4, 0, 0) := rfl
theorem q102_4 : z_fi (z_mi 102) 4 = some (4, .getfield 68, 0, 6, 1, 0, 0) := rfl
theorem q102_7 : z_fi (z_mi 102) 7 = some (7, .istore_n 2, 0, 0, 0, 0, 0) := rfl
theorem q102_8 : z_fi (z_mi 102) 8 = some (8, .iload_n 1, 0, 0, 0, 0, 0) := rfl
theorem q102_9 : z_fi (z_mi 102) 9 = some (9, .iconst 0, 0, 0, 0, 0, 0) := rfl
theorem q102_10 : z_fi (z_mi 102) 10 = some (10, .iload_n 2, 0, 0, 0, 0, 0) := rfl
theorem q102_11 : z_fi (z_mi 102) 11 = some (11, .invokestatic 60, 1, 99, 3, 0, 0) := rfl
theorem q102_14 : z_fi (z_mi 102) 14 = some (14, .ifCond .ne 5, 0, 19, 0, 0, 0) := rfl
theorem q102_17 : z_fi (z_mi 102) 17 = some (17, .iconst (-1), 0, 0, 0, (-1), 0) := rfl
theorem q102_18 : z_fi (z_mi 102) 18 = some (18, .ireturn, 0, 0, 0, 0, 0) := rfl
theorem q102_19 : z_fi (z_mi 102) 19 = some (19, .aload_n 0, 0, 0, 0, 0, 0) := rfl
theorem q102_20 : z_fi (z_mi 102) 20 = some (20, .getfield 32, 0, 9, 4, 0, 0) := rfl
theorem q102_23 : z_fi (z_mi 102) 23 = some (23, .iload_n 1, 0, 0, 0, 0, 0) := rfl
theorem q102_24 : z_fi (z_mi 102) 24 = some (24, .putfield 68, 0, 6, 1, 0, 0) := rfl
theorem q102_27 : z_fi (z_mi 102) 27 = some (27, .iload_n 2, 0, 0, 0, 0, 0) := rfl
theorem q102_28 : z_fi (z_mi 102) 28 = some (28, .ireturn, 0, 0, 0, 0, 0) := rfl
set_option maxRecDepth 20000 in
set_option maxHeartbeats 4000000 in
theorem t_Y_end {xL : Nat} {xs : Nat → Int32} {ρ : Nat → Nat → Option Nat} (hρ : z_hR ρ) (d : Nat) (a1 : Int32) (σ : zS) : ∀ q, f_Y_end a1 σ = some q → z_ec xL xs ρ (d + 1) 102 [.ref 0, .int a1] σ (em_i q) := by
  refine j_of (W := [.ref 0, .int a1, .null]) (fun L hL => ?_) ?_
  · subst hL; exact z_vl_0 _ 1 rfl
  · unfold f_Y_end
    refine j_aload_n (pc' := 1) q102_0 rfl (by decide) rfl ?_
    refine j_getr (k := 0) (q := 35) (pc' := 4) q102_1 rfl (hρ 0 4 35 rfl) rfl ?_
    refine j_getf (k := 35) (pc' := 7) q102_4 rfl rfl ?_
    refine j_istore2 (pc' := 8) q102_7 rfl (Nat.le_of_ble_eq_true rfl) rfl ?_
    refine j_iload_n (pc' := 9) q102_8 rfl rfl ?_
    refine j_iconst (pc' := 10) q102_9 rfl ?_
    refine j_iload_n (pc' := 11) q102_10 rfl rfl ?_
    refine j_callS3_pi (d := d + 0) (pc' := 14) q102_11 (Or.inl rfl) (Nat.le_of_ble_eq_true rfl) (Nat.le_of_ble_eq_true rfl) rfl (t_Y_isIn hρ (d + 0) _ _ _ _) (fun r1 => ?_)
    refine j_if_ne (pc' := 17) q102_14 rfl (fun c2 => ?_) (fun c2 => ?_)
    · refine j_iconst (pc' := 18) q102_17 rfl ?_
      exact j_iret q102_18 rfl
    · refine j_aload_n (pc' := 20) q102_19 rfl (by decide) rfl ?_
      refine j_getr (k := 0) (q := 35) (pc' := 23) q102_20 rfl (hρ 0 4 35 rfl) rfl ?_
      refine j_iload_n (pc' := 24) q102_23 rfl rfl ?_
      refine j_putf (k := 35) (pc' := 27) q102_24 rfl rfl ?_
      refine j_nameS (fun τ3 => ?_)
      refine j_iload_n (pc' := 28) q102_27 rfl rfl ?_
      exact j_iret q102_28 rfl
theorem q151_0 : z_fi (z_mi 151) 0 = some (0, .iload_n 1, 0, 0, 0, 0, 0) := rfl
theorem q151_1 : z_fi (z_mi 151) 1 = some (1, .i2l, 0, 0, 0, 0, 0) := rfl
theorem q151_2 : z_fi (z_mi 151) 2 = some (2, .lconst 0, 0, 0, 0, 0, 0) := rfl
theorem q151_3 : z_fi (z_mi 151) 3 = some (3, .aload_n 0, 0, 0, 0, 0, 0) := rfl
theorem q151_4 : z_fi (z_mi 151) 4 = some (4, .getfield 66, 0, 10, 13, 0, 0) := rfl
theorem q151_7 : z_fi (z_mi 151) 7 = some (7, .i2l, 0, 0, 0, 0, 0) := rfl
theorem q151_8 : z_fi (z_mi 151) 8 = some (8, .invokestatic 62, 1, 149, 3, 0, 0) := rfl
theorem q151_11 : z_fi (z_mi 151) 11 = some (11, .ifCond .ne 5, 0, 16, 0, 0, 0) := rfl
theorem q151_14 : z_fi (z_mi 151) 14 = some (14, .iconst (-1), 0, 0, 0, (-1), 0) := rfl
theorem q151_15 : z_fi (z_mi 151) 15 = some (15, .ireturn, 0, 0, 0, 0, 0) := rfl
theorem q151_16 : z_fi (z_mi 151) 16 = some (16, .aload_n 0, 0, 0, 0, 0, 0) := rfl
theorem q151_17 : z_fi (z_mi 151) 17 = some (17, .getfield 66, 0, 10, 13, 0, 0) := rfl
theorem q151_20 : z_fi (z_mi 151) 20 = some (20, .istore_n 2, 0, 0, 0, 0, 0) := rfl
theorem q151_21 : z_fi (z_mi 151) 21 = some (21, .aload_n 0, 0, 0, 0, 0, 0) := rfl
theorem q151_22 : z_fi (z_mi 151) 22 = some (22, .iload_n 1, 0, 0, 0, 0, 0) := rfl
theorem q151_23 : z_fi (z_mi 151) 23 = some (23, .putfield 66, 0, 10, 13, 0, 0) := rfl
theorem q151_26 : z_fi (z_mi 151) 26 = some (26, .iload_n 2, 0, 0, 0, 0, 0) := rfl
theorem q151_27 : z_fi (z_mi 151) 27 = some (27, .ireturn, 0, 0, 0, 0, 0) := rfl
set_option maxRecDepth 20000 in
set_option maxHeartbeats 4000000 in
theorem t_M_end {xL : Nat} {xs : Nat → Int32} {ρ : Nat → Nat → Option Nat} (hρ : z_hR ρ) (d : Nat) (a1 : Int32) (σ : zS) : ∀ q, f_M_end a1 σ = some q → z_ec xL xs ρ (d + 1) 151 [.ref 90, .int a1] σ (em_i q) := by
  refine j_of (W := [.ref 90, .int a1, .null]) (fun L hL => ?_) ?_
  · subst hL; exact z_vl_0 _ 1 rfl
  · unfold f_M_end
    refine j_iload_n (pc' := 1) q151_0 rfl rfl ?_
    refine j_i2l (pc' := 2) q151_1 rfl ?_
    refine j_lconst (pc' := 3) q151_2 rfl ?_
    refine j_aload_n (pc' := 4) q151_3 rfl (by decide) rfl ?_
    refine j_getf (k := 90) (pc' := 7) q151_4 rfl rfl ?_
    refine j_i2l (pc' := 8) q151_7 rfl ?_
    refine j_callS3_pi (d := d + 0) (pc' := 11) q151_8 (Or.inl rfl) (Nat.le_of_ble_eq_true rfl) (Nat.le_of_ble_eq_true rfl) rfl (t_M_in hρ (d + 0) _ _ _ _) (fun r1 => ?_)
    refine j_if_ne (pc' := 14) q151_11 rfl (fun c2 => ?_) (fun c2 => ?_)
    · refine j_iconst (pc' := 15) q151_14 rfl ?_
      exact j_iret q151_15 rfl
    · refine j_aload_n (pc' := 17) q151_16 rfl (by decide) rfl ?_
      refine j_getf (k := 90) (pc' := 20) q151_17 rfl rfl ?_
      refine j_istore2 (pc' := 21) q151_20 rfl (Nat.le_of_ble_eq_true rfl) rfl ?_
      refine j_aload_n (pc' := 22) q151_21 rfl (by decide) rfl ?_
      refine j_iload_n (pc' := 23) q151_22 rfl rfl ?_
      refine j_putf (k := 90) (pc' := 26) q151_23 rfl rfl ?_
      refine j_nameS (fun τ3 => ?_)
      refine j_iload_n (pc' := 27) q151_26 rfl rfl ?_
      exact j_iret q151_27 rfl
set_option maxRecDepth 8000 in
theorem q240_0 : z_fi (z_mi 240) 0 = some (0, .iconst 0, 0, 0, 0, 0, 0) := rfl
set_option maxRecDepth 8000 in
theorem q240_1 : z_fi (z_mi 240) 1 = some (1, .istore_n 2, 0, 0, 0, 0, 0) := rfl
set_option maxRecDepth 8000 in
theorem q240_2 : z_fi (z_mi 240) 2 = some (2, .aload_n 0, 0, 0, 0, 0, 0) := rfl
set_option maxRecDepth 8000 in
theorem q240_3 : z_fi (z_mi 240) 3 = some (3, .arraylength, 0, 0, 0, 0, 0) := rfl
set_option maxRecDepth 8000 in
theorem q240_4 : z_fi (z_mi 240) 4 = some (4, .istore_n 3, 0, 0, 0, 0, 0) := rfl
set_option maxRecDepth 8000 in
theorem q240_5 : z_fi (z_mi 240) 5 = some (5, .iload_n 2, 0, 0, 0, 0, 0) := rfl
set_option maxRecDepth 8000 in
theorem q240_6 : z_fi (z_mi 240) 6 = some (6, .iload_n 3, 0, 0, 0, 0, 0) := rfl
set_option maxRecDepth 8000 in
theorem q240_7 : z_fi (z_mi 240) 7 = some (7, .if_icmp .ge 13, 0, 20, 0, 0, 0) := rfl
set_option maxRecDepth 8000 in
theorem q240_10 : z_fi (z_mi 240) 10 = some (10, .aload_n 0, 0, 0, 0, 0, 0) := rfl
set_option maxRecDepth 8000 in
theorem q240_11 : z_fi (z_mi 240) 11 = some (11, .iload_n 2, 0, 0, 0, 0, 0) := rfl
set_option maxRecDepth 8000 in
theorem q240_12 : z_fi (z_mi 240) 12 = some (12, .iload_n 1, 0, 0, 0, 0, 0) := rfl
set_option maxRecDepth 8000 in
theorem q240_13 : z_fi (z_mi 240) 13 = some (13, .iastore, 0, 0, 0, 0, 0) := rfl
set_option maxRecDepth 8000 in
theorem q240_14 : z_fi (z_mi 240) 14 = some (14, .iinc 2 1, 0, 0, 0, 1, 0) := rfl
set_option maxRecDepth 8000 in
theorem q240_17 : z_fi (z_mi 240) 17 = some (17, .goto (-12), 0, 5, 0, 0, 0) := rfl
set_option maxRecDepth 8000 in
theorem q240_20 : z_fi (z_mi 240) 20 = some (20, .return_, 0, 0, 0, 0, 0) := rfl
set_option maxRecDepth 20000 in
set_option maxHeartbeats 4000000 in
theorem t_JA_fill_18 {xL : Nat} {xs : Nat → Int32} {ρ : Nat → Nat → Option Nat} (hρ : z_hR ρ) (d : Nat) (a1 : Int32) (σ : zS) : ∀ q, f_JA_fill_18 a1 σ = some q → z_ec xL xs ρ (d + 0) 240 [.ref 18, .int a1] σ (em_v q) := by
  refine j_of (W := [.ref 18, .int a1, .null, .null]) (fun L hL => ?_) ?_
  · subst hL; exact z_vl_0 _ 2 rfl
  · unfold f_JA_fill_18
    refine j_iconst (pc' := 1) q240_0 rfl ?_
    refine j_istore2 (pc' := 2) q240_1 rfl (Nat.le_of_ble_eq_true rfl) rfl ?_
    refine j_aload_n (pc' := 3) q240_2 rfl (by decide) rfl ?_
    refine j_alen (k := 18) (N := 16) (pc' := 4) q240_3 ⟨Nat.le_of_ble_eq_true rfl, by decide, rfl⟩ rfl ?_
    refine j_istore3 (pc' := 5) q240_4 rfl (Nat.le_of_ble_eq_true rfl) rfl ?_
    refine j_forget (V' := [.ref 18, .int a1, .int (0 : Int32), .int (16 : Int32)]) (z_le_s (z_le_s (z_le_s (z_le_s (z_le_nil))))) ?_
    refine j_loopX (S := Int32 × zS) (E := zS) (fun e => e) 20 (fun s1 => [.ref 18, .int a1, .int s1.1, .int (16 : Int32)]) (fun s1 => s1.2) (fun b1 => [.null, .null, .null, .null]) (fun b1 => b1) (fun b1 => ?_) (fun R1 hR1 hX1 s1 => ?_) ((0 : Int32), σ)
    · show z_J _ _ _ _ _ _ _ _ _ _ _ _
      exact j_vret q240_20 rfl
    · show z_J _ _ _ _ _ _ _ _ _ _ _ _
      refine j_iload_n (pc' := 6) q240_5 rfl rfl ?_
      refine j_iload_n (pc' := 7) q240_6 rfl rfl ?_
      refine j_icmp_ge (pc' := 10) q240_7 rfl (fun c2 => ?_) (fun c2 => ?_)
      · exact j_exit (j_forget (z_le_n (z_le_n (z_le_n (z_le_n (z_le_nil))))) (hX1 s1.2))
      · refine j_aload_n (pc' := 11) q240_10 rfl (by decide) rfl ?_
        refine j_iload_n (pc' := 12) q240_11 rfl rfl ?_
        refine j_iload_n (pc' := 13) q240_12 rfl rfl ?_
        refine j_if (fun hi3 => ?_) (fun _ => j_none)
        refine j_iast (k := 18) (N := 16) (pc' := 14) q240_13 rfl hi3 rfl ?_
        refine j_nameS (fun τ4 => ?_)
        refine j_iinc2 (pc' := 17) q240_14 rfl (Nat.le_of_ble_eq_true rfl) rfl ?_
        refine j_goto q240_17 rfl ?_
        exact j_again (j_forget (z_le_s (z_le_s (z_le_s (z_le_s (z_le_nil))))) (hR1 ((s1.1 + (1 : Int32)), τ4)))
set_option maxRecDepth 20000 in
set_option maxHeartbeats 4000000 in
theorem t_JA_fill_19 {xL : Nat} {xs : Nat → Int32} {ρ : Nat → Nat → Option Nat} (hρ : z_hR ρ) (d : Nat) (a1 : Int32) (σ : zS) : ∀ q, f_JA_fill_19 a1 σ = some q → z_ec xL xs ρ (d + 0) 240 [.ref 19, .int a1] σ (em_v q) := by
  refine j_of (W := [.ref 19, .int a1, .null, .null]) (fun L hL => ?_) ?_
  · subst hL; exact z_vl_0 _ 2 rfl
  · unfold f_JA_fill_19
    refine j_iconst (pc' := 1) q240_0 rfl ?_
    refine j_istore2 (pc' := 2) q240_1 rfl (Nat.le_of_ble_eq_true rfl) rfl ?_
    refine j_aload_n (pc' := 3) q240_2 rfl (by decide) rfl ?_
    refine j_alen (k := 19) (N := 16) (pc' := 4) q240_3 ⟨Nat.le_of_ble_eq_true rfl, by decide, rfl⟩ rfl ?_
    refine j_istore3 (pc' := 5) q240_4 rfl (Nat.le_of_ble_eq_true rfl) rfl ?_
    refine j_forget (V' := [.ref 19, .int a1, .int (0 : Int32), .int (16 : Int32)]) (z_le_s (z_le_s (z_le_s (z_le_s (z_le_nil))))) ?_
    refine j_loopX (S := Int32 × zS) (E := zS) (fun e => e) 20 (fun s1 => [.ref 19, .int a1, .int s1.1, .int (16 : Int32)]) (fun s1 => s1.2) (fun b1 => [.null, .null, .null, .null]) (fun b1 => b1) (fun b1 => ?_) (fun R1 hR1 hX1 s1 => ?_) ((0 : Int32), σ)
    · show z_J _ _ _ _ _ _ _ _ _ _ _ _
      exact j_vret q240_20 rfl
    · show z_J _ _ _ _ _ _ _ _ _ _ _ _
      refine j_iload_n (pc' := 6) q240_5 rfl rfl ?_
      refine j_iload_n (pc' := 7) q240_6 rfl rfl ?_
      refine j_icmp_ge (pc' := 10) q240_7 rfl (fun c2 => ?_) (fun c2 => ?_)
      · exact j_exit (j_forget (z_le_n (z_le_n (z_le_n (z_le_n (z_le_nil))))) (hX1 s1.2))
      · refine j_aload_n (pc' := 11) q240_10 rfl (by decide) rfl ?_
        refine j_iload_n (pc' := 12) q240_11 rfl rfl ?_
        refine j_iload_n (pc' := 13) q240_12 rfl rfl ?_
        refine j_if (fun hi3 => ?_) (fun _ => j_none)
        refine j_iast (k := 19) (N := 16) (pc' := 14) q240_13 rfl hi3 rfl ?_
        refine j_nameS (fun τ4 => ?_)
        refine j_iinc2 (pc' := 17) q240_14 rfl (Nat.le_of_ble_eq_true rfl) rfl ?_
        refine j_goto q240_17 rfl ?_
        exact j_again (j_forget (z_le_s (z_le_s (z_le_s (z_le_s (z_le_nil))))) (hR1 ((s1.1 + (1 : Int32)), τ4)))
set_option maxRecDepth 20000 in
set_option maxHeartbeats 4000000 in
theorem t_JA_fill_20 {xL : Nat} {xs : Nat → Int32} {ρ : Nat → Nat → Option Nat} (hρ : z_hR ρ) (d : Nat) (a1 : Int32) (σ : zS) : ∀ q, f_JA_fill_20 a1 σ = some q → z_ec xL xs ρ (d + 0) 240 [.ref 20, .int a1] σ (em_v q) := by
  refine j_of (W := [.ref 20, .int a1, .null, .null]) (fun L hL => ?_) ?_
  · subst hL; exact z_vl_0 _ 2 rfl
  · unfold f_JA_fill_20
    refine j_iconst (pc' := 1) q240_0 rfl ?_
    refine j_istore2 (pc' := 2) q240_1 rfl (Nat.le_of_ble_eq_true rfl) rfl ?_
    refine j_aload_n (pc' := 3) q240_2 rfl (by decide) rfl ?_
    refine j_alen (k := 20) (N := 16) (pc' := 4) q240_3 ⟨Nat.le_of_ble_eq_true rfl, by decide, rfl⟩ rfl ?_
    refine j_istore3 (pc' := 5) q240_4 rfl (Nat.le_of_ble_eq_true rfl) rfl ?_
    refine j_forget (V' := [.ref 20, .int a1, .int (0 : Int32), .int (16 : Int32)]) (z_le_s (z_le_s (z_le_s (z_le_s (z_le_nil))))) ?_
    refine j_loopX (S := Int32 × zS) (E := zS) (fun e => e) 20 (fun s1 => [.ref 20, .int a1, .int s1.1, .int (16 : Int32)]) (fun s1 => s1.2) (fun b1 => [.null, .null, .null, .null]) (fun b1 => b1) (fun b1 => ?_) (fun R1 hR1 hX1 s1 => ?_) ((0 : Int32), σ)
    · show z_J _ _ _ _ _ _ _ _ _ _ _ _
      exact j_vret q240_20 rfl
    · show z_J _ _ _ _ _ _ _ _ _ _ _ _
      refine j_iload_n (pc' := 6) q240_5 rfl rfl ?_
      refine j_iload_n (pc' := 7) q240_6 rfl rfl ?_
      refine j_icmp_ge (pc' := 10) q240_7 rfl (fun c2 => ?_) (fun c2 => ?_)
      · exact j_exit (j_forget (z_le_n (z_le_n (z_le_n (z_le_n (z_le_nil))))) (hX1 s1.2))
      · refine j_aload_n (pc' := 11) q240_10 rfl (by decide) rfl ?_
        refine j_iload_n (pc' := 12) q240_11 rfl rfl ?_
        refine j_iload_n (pc' := 13) q240_12 rfl rfl ?_
        refine j_if (fun hi3 => ?_) (fun _ => j_none)
        refine j_iast (k := 20) (N := 16) (pc' := 14) q240_13 rfl hi3 rfl ?_
        refine j_nameS (fun τ4 => ?_)
        refine j_iinc2 (pc' := 17) q240_14 rfl (Nat.le_of_ble_eq_true rfl) rfl ?_
        refine j_goto q240_17 rfl ?_
        exact j_again (j_forget (z_le_s (z_le_s (z_le_s (z_le_s (z_le_nil))))) (hR1 ((s1.1 + (1 : Int32)), τ4)))
set_option maxRecDepth 20000 in
set_option maxHeartbeats 4000000 in
theorem t_JA_fill_21 {xL : Nat} {xs : Nat → Int32} {ρ : Nat → Nat → Option Nat} (hρ : z_hR ρ) (d : Nat) (a1 : Int32) (σ : zS) : ∀ q, f_JA_fill_21 a1 σ = some q → z_ec xL xs ρ (d + 0) 240 [.ref 21, .int a1] σ (em_v q) := by
  refine j_of (W := [.ref 21, .int a1, .null, .null]) (fun L hL => ?_) ?_
  · subst hL; exact z_vl_0 _ 2 rfl
  · unfold f_JA_fill_21
    refine j_iconst (pc' := 1) q240_0 rfl ?_
    refine j_istore2 (pc' := 2) q240_1 rfl (Nat.le_of_ble_eq_true rfl) rfl ?_
    refine j_aload_n (pc' := 3) q240_2 rfl (by decide) rfl ?_
    refine j_alen (k := 21) (N := 16) (pc' := 4) q240_3 ⟨Nat.le_of_ble_eq_true rfl, by decide, rfl⟩ rfl ?_
    refine j_istore3 (pc' := 5) q240_4 rfl (Nat.le_of_ble_eq_true rfl) rfl ?_
    refine j_forget (V' := [.ref 21, .int a1, .int (0 : Int32), .int (16 : Int32)]) (z_le_s (z_le_s (z_le_s (z_le_s (z_le_nil))))) ?_
    refine j_loopX (S := Int32 × zS) (E := zS) (fun e => e) 20 (fun s1 => [.ref 21, .int a1, .int s1.1, .int (16 : Int32)]) (fun s1 => s1.2) (fun b1 => [.null, .null, .null, .null]) (fun b1 => b1) (fun b1 => ?_) (fun R1 hR1 hX1 s1 => ?_) ((0 : Int32), σ)
    · show z_J _ _ _ _ _ _ _ _ _ _ _ _
      exact j_vret q240_20 rfl
    · show z_J _ _ _ _ _ _ _ _ _ _ _ _
      refine j_iload_n (pc' := 6) q240_5 rfl rfl ?_
      refine j_iload_n (pc' := 7) q240_6 rfl rfl ?_
      refine j_icmp_ge (pc' := 10) q240_7 rfl (fun c2 => ?_) (fun c2 => ?_)
      · exact j_exit (j_forget (z_le_n (z_le_n (z_le_n (z_le_n (z_le_nil))))) (hX1 s1.2))
      · refine j_aload_n (pc' := 11) q240_10 rfl (by decide) rfl ?_
        refine j_iload_n (pc' := 12) q240_11 rfl rfl ?_
        refine j_iload_n (pc' := 13) q240_12 rfl rfl ?_
        refine j_if (fun hi3 => ?_) (fun _ => j_none)
        refine j_iast (k := 21) (N := 16) (pc' := 14) q240_13 rfl hi3 rfl ?_
        refine j_nameS (fun τ4 => ?_)
        refine j_iinc2 (pc' := 17) q240_14 rfl (Nat.le_of_ble_eq_true rfl) rfl ?_
        refine j_goto q240_17 rfl ?_
        exact j_again (j_forget (z_le_s (z_le_s (z_le_s (z_le_s (z_le_nil))))) (hR1 ((s1.1 + (1 : Int32)), τ4)))
set_option maxRecDepth 20000 in
set_option maxHeartbeats 4000000 in
theorem t_JA_fill_22 {xL : Nat} {xs : Nat → Int32} {ρ : Nat → Nat → Option Nat} (hρ : z_hR ρ) (d : Nat) (a1 : Int32) (σ : zS) : ∀ q, f_JA_fill_22 a1 σ = some q → z_ec xL xs ρ (d + 0) 240 [.ref 22, .int a1] σ (em_v q) := by
  refine j_of (W := [.ref 22, .int a1, .null, .null]) (fun L hL => ?_) ?_
  · subst hL; exact z_vl_0 _ 2 rfl
  · unfold f_JA_fill_22
    refine j_iconst (pc' := 1) q240_0 rfl ?_
    refine j_istore2 (pc' := 2) q240_1 rfl (Nat.le_of_ble_eq_true rfl) rfl ?_
    refine j_aload_n (pc' := 3) q240_2 rfl (by decide) rfl ?_
    refine j_alen (k := 22) (N := 16) (pc' := 4) q240_3 ⟨Nat.le_of_ble_eq_true rfl, by decide, rfl⟩ rfl ?_
    refine j_istore3 (pc' := 5) q240_4 rfl (Nat.le_of_ble_eq_true rfl) rfl ?_
    refine j_forget (V' := [.ref 22, .int a1, .int (0 : Int32), .int (16 : Int32)]) (z_le_s (z_le_s (z_le_s (z_le_s (z_le_nil))))) ?_
    refine j_loopX (S := Int32 × zS) (E := zS) (fun e => e) 20 (fun s1 => [.ref 22, .int a1, .int s1.1, .int (16 : Int32)]) (fun s1 => s1.2) (fun b1 => [.null, .null, .null, .null]) (fun b1 => b1) (fun b1 => ?_) (fun R1 hR1 hX1 s1 => ?_) ((0 : Int32), σ)
    · show z_J _ _ _ _ _ _ _ _ _ _ _ _
      exact j_vret q240_20 rfl
    · show z_J _ _ _ _ _ _ _ _ _ _ _ _
      refine j_iload_n (pc' := 6) q240_5 rfl rfl ?_
      refine j_iload_n (pc' := 7) q240_6 rfl rfl ?_
      refine j_icmp_ge (pc' := 10) q240_7 rfl (fun c2 => ?_) (fun c2 => ?_)
      · exact j_exit (j_forget (z_le_n (z_le_n (z_le_n (z_le_n (z_le_nil))))) (hX1 s1.2))
      · refine j_aload_n (pc' := 11) q240_10 rfl (by decide) rfl ?_
        refine j_iload_n (pc' := 12) q240_11 rfl rfl ?_
        refine j_iload_n (pc' := 13) q240_12 rfl rfl ?_
        refine j_if (fun hi3 => ?_) (fun _ => j_none)
        refine j_iast (k := 22) (N := 16) (pc' := 14) q240_13 rfl hi3 rfl ?_
        refine j_nameS (fun τ4 => ?_)
        refine j_iinc2 (pc' := 17) q240_14 rfl (Nat.le_of_ble_eq_true rfl) rfl ?_
        refine j_goto q240_17 rfl ?_
        exact j_again (j_forget (z_le_s (z_le_s (z_le_s (z_le_s (z_le_nil))))) (hR1 ((s1.1 + (1 : Int32)), τ4)))
set_option maxRecDepth 20000 in
set_option maxHeartbeats 4000000 in
theorem t_JA_fill_28 {xL : Nat} {xs : Nat → Int32} {ρ : Nat → Nat → Option Nat} (hρ : z_hR ρ) (d : Nat) (a1 : Int32) (σ : zS) : ∀ q, f_JA_fill_28 a1 σ = some q → z_ec xL xs ρ (d + 0) 240 [.ref 28, .int a1] σ (em_v q) := by
  refine j_of (W := [.ref 28, .int a1, .null, .null]) (fun L hL => ?_) ?_
  · subst hL; exact z_vl_0 _ 2 rfl
  · unfold f_JA_fill_28
    refine j_iconst (pc' := 1) q240_0 rfl ?_
    refine j_istore2 (pc' := 2) q240_1 rfl (Nat.le_of_ble_eq_true rfl) rfl ?_
    refine j_aload_n (pc' := 3) q240_2 rfl (by decide) rfl ?_
    refine j_alen (k := 28) (N := 4) (pc' := 4) q240_3 ⟨Nat.le_of_ble_eq_true rfl, by decide, rfl⟩ rfl ?_
    refine j_istore3 (pc' := 5) q240_4 rfl (Nat.le_of_ble_eq_true rfl) rfl ?_
    refine j_forget (V' := [.ref 28, .int a1, .int (0 : Int32), .int (4 : Int32)]) (z_le_s (z_le_s (z_le_s (z_le_s (z_le_nil))))) ?_
    refine j_loopX (S := Int32 × zS) (E := zS) (fun e => e) 20 (fun s1 => [.ref 28, .int a1, .int s1.1, .int (4 : Int32)]) (fun s1 => s1.2) (fun b1 => [.null, .null, .null, .null]) (fun b1 => b1) (fun b1 => ?_) (fun R1 hR1 hX1 s1 => ?_) ((0 : Int32), σ)
    · show z_J _ _ _ _ _ _ _ _ _ _ _ _
      exact j_vret q240_20 rfl
    · show z_J _ _ _ _ _ _ _ _ _ _ _ _
      refine j_iload_n (pc' := 6) q240_5 rfl rfl ?_
      refine j_iload_n (pc' := 7) q240_6 rfl rfl ?_
      refine j_icmp_ge (pc' := 10) q240_7 rfl (fun c2 => ?_) (fun c2 => ?_)
      · exact j_exit (j_forget (z_le_n (z_le_n (z_le_n (z_le_n (z_le_nil))))) (hX1 s1.2))
      · refine j_aload_n (pc' := 11) q240_10 rfl (by decide) rfl ?_
        refine j_iload_n (pc' := 12) q240_11 rfl rfl ?_
        refine j_iload_n (pc' := 13) q240_12 rfl rfl ?_
        refine j_if (fun hi3 => ?_) (fun _ => j_none)
        refine j_iast (k := 28) (N := 4) (pc' := 14) q240_13 rfl hi3 rfl ?_
        refine j_nameS (fun τ4 => ?_)
        refine j_iinc2 (pc' := 17) q240_14 rfl (Nat.le_of_ble_eq_true rfl) rfl ?_
        refine j_goto q240_17 rfl ?_
        exact j_again (j_forget (z_le_s (z_le_s (z_le_s (z_le_s (z_le_nil))))) (hR1 ((s1.1 + (1 : Int32)), τ4)))
set_option maxRecDepth 20000 in
set_option maxHeartbeats 4000000 in
theorem t_JA_fill_29 {xL : Nat} {xs : Nat → Int32} {ρ : Nat → Nat → Option Nat} (hρ : z_hR ρ) (d : Nat) (a1 : Int32) (σ : zS) : ∀ q, f_JA_fill_29 a1 σ = some q → z_ec xL xs ρ (d + 0) 240 [.ref 29, .int a1] σ (em_v q) := by
  refine j_of (W := [.ref 29, .int a1, .null, .null]) (fun L hL => ?_) ?_
  · subst hL; exact z_vl_0 _ 2 rfl
  · unfold f_JA_fill_29
    refine j_iconst (pc' := 1) q240_0 rfl ?_
    refine j_istore2 (pc' := 2) q240_1 rfl (Nat.le_of_ble_eq_true rfl) rfl ?_
    refine j_aload_n (pc' := 3) q240_2 rfl (by decide) rfl ?_
    refine j_alen (k := 29) (N := 4) (pc' := 4) q240_3 ⟨Nat.le_of_ble_eq_true rfl, by decide, rfl⟩ rfl ?_
    refine j_istore3 (pc' := 5) q240_4 rfl (Nat.le_of_ble_eq_true rfl) rfl ?_
    refine j_forget (V' := [.ref 29, .int a1, .int (0 : Int32), .int (4 : Int32)]) (z_le_s (z_le_s (z_le_s (z_le_s (z_le_nil))))) ?_
    refine j_loopX (S := Int32 × zS) (E := zS) (fun e => e) 20 (fun s1 => [.ref 29, .int a1, .int s1.1, .int (4 : Int32)]) (fun s1 => s1.2) (fun b1 => [.null, .null, .null, .null]) (fun b1 => b1) (fun b1 => ?_) (fun R1 hR1 hX1 s1 => ?_) ((0 : Int32), σ)
    · show z_J _ _ _ _ _ _ _ _ _ _ _ _
      exact j_vret q240_20 rfl
    · show z_J _ _ _ _ _ _ _ _ _ _ _ _
      refine j_iload_n (pc' := 6) q240_5 rfl rfl ?_
      refine j_iload_n (pc' := 7) q240_6 rfl rfl ?_
      refine j_icmp_ge (pc' := 10) q240_7 rfl (fun c2 => ?_) (fun c2 => ?_)
      · exact j_exit (j_forget (z_le_n (z_le_n (z_le_n (z_le_n (z_le_nil))))) (hX1 s1.2))
      · refine j_aload_n (pc' := 11) q240_10 rfl (by decide) rfl ?_
        refine j_iload_n (pc' := 12) q240_11 rfl rfl ?_
        refine j_iload_n (pc' := 13) q240_12 rfl rfl ?_
        refine j_if (fun hi3 => ?_) (fun _ => j_none)
        refine j_iast (k := 29) (N := 4) (pc' := 14) q240_13 rfl hi3 rfl ?_
        refine j_nameS (fun τ4 => ?_)
        refine j_iinc2 (pc' := 17) q240_14 rfl (Nat.le_of_ble_eq_true rfl) rfl ?_
        refine j_goto q240_17 rfl ?_
        exact j_again (j_forget (z_le_s (z_le_s (z_le_s (z_le_s (z_le_nil))))) (hR1 ((s1.1 + (1 : Int32)), τ4)))
theorem q61_0 : z_fi (z_mi 61) 0 = some (0, .aload_n 0, 0, 0, 0, 0, 0) := rfl
theorem q61_1 : z_fi (z_mi 61) 1 = some (1, .getfield 9, 0, 4, 0, 0, 0) := rfl
theorem q61_4 : z_fi (z_mi 61) 4 = some (4, .iconst 0, 0, 0, 0, 0, 0) := rfl
theorem q61_5 : z_fi (z_mi 61) 5 = some (5, .invokestatic 18, 1, 240, 2, 0, 0) := rfl
theorem q61_8 : z_fi (z_mi 61) 8 = some (8, .aload_n 0, 0, 0, 0, 0, 0) := rfl
theorem q61_9 : z_fi (z_mi 61) 9 = some (9, .getfield 15, 0, 4, 1, 0, 0) := rfl
theorem q61_12 : z_fi (z_mi 61) 12 = some (12, .iconst 1, 0, 0, 0, 1, 0) := rfl
theorem q61_13 : z_fi (z_mi 61) 13 = some (13, .invokestatic 18, 1, 240, 2, 0, 0) := rfl
theorem q61_16 : z_fi (z_mi 61) 16 = some (16, .aload_n 0, 0, 0, 0, 0, 0) := rfl
theorem q61_17 : z_fi (z_mi 61) 17 = some (17, .iconst 0, 0, 0, 0, 0, 0) := rfl
theorem q61_18 : z_fi (z_mi 61) 18 = some (18, .putfield 24, 0, 4, 2, 0, 0) := rfl
theorem q61_21 : z_fi (z_mi 61) 21 = some (21, .return_, 0, 0, 0, 0, 0) := rfl
set_option maxRecDepth 20000 in
set_option maxHeartbeats 4000000 in
theorem t_Sp_clear_27 {xL : Nat} {xs : Nat → Int32} {ρ : Nat → Nat → Option Nat} (hρ : z_hR ρ) (d : Nat)  (σ : zS) : ∀ q, f_Sp_clear_27  σ = some q → z_ec xL xs ρ (d + 1) 61 [.ref 27] σ (em_v q) := by
  refine j_of (W := [.ref 27]) (fun L hL => ?_) ?_
  · subst hL; exact z_vl_0 _ 0 rfl
  · unfold f_Sp_clear_27
    refine j_aload_n (pc' := 1) q61_0 rfl (by decide) rfl ?_
    refine j_getr (k := 27) (q := 28) (pc' := 4) q61_1 rfl (hρ 27 0 28 rfl) rfl ?_
    refine j_iconst (pc' := 5) q61_4 rfl ?_
    refine j_callS2_v (d := d + 0) (pc' := 8) q61_5 (Or.inl rfl) (Nat.le_of_ble_eq_true rfl) (Nat.le_of_ble_eq_true rfl) rfl (t_JA_fill_28 hρ (d + 0) _ _) (fun r1 => ?_)
    refine j_aload_n (pc' := 9) q61_8 rfl (by decide) rfl ?_
    refine j_getr (k := 27) (q := 29) (pc' := 12) q61_9 rfl (hρ 27 1 29 rfl) rfl ?_
    refine j_iconst (pc' := 13) q61_12 rfl ?_
    refine j_callS2_v (d := d + 0) (pc' := 16) q61_13 (Or.inl rfl) (Nat.le_of_ble_eq_true rfl) (Nat.le_of_ble_eq_true rfl) rfl (t_JA_fill_29 hρ (d + 0) _ _) (fun r2 => ?_)
    refine j_aload_n (pc' := 17) q61_16 rfl (by decide) rfl ?_
    refine j_iconst (pc' := 18) q61_17 rfl ?_
    refine j_putf (k := 27) (pc' := 21) q61_18 rfl rfl ?_
    refine j_nameS (fun τ3 => ?_)
    exact j_vret q61_21 rfl
set_option maxRecDepth 20000 in
set_option maxHeartbeats 4000000 in
theorem t_JA_fill_30 {xL : Nat} {xs : Nat → Int32} {ρ : Nat → Nat → Option Nat} (hρ : z_hR ρ) (d : Nat) (a1 : Int32) (σ : zS) : ∀ q, f_JA_fill_30 a1 σ = some q → z_ec xL xs ρ (d + 0) 240 [.ref 30, .int a1] σ (em_v q) := by
  refine j_of (W := [.ref 30, .int a1, .null, .null]) (fun L hL => ?_) ?_
  · subst hL; exact z_vl_0 _ 2 rfl
  · unfold f_JA_fill_30
    refine j_iconst (pc' := 1) q240_0 rfl ?_
    refine j_istore2 (pc' := 2) q240_1 rfl (Nat.le_of_ble_eq_true rfl) rfl ?_
    refine j_aload_n (pc' := 3) q240_2 rfl (by decide) rfl ?_
    refine j_alen (k := 30) (N := 3) (pc' := 4) q240_3 ⟨Nat.le_of_ble_eq_true rfl, by decide, rfl⟩ rfl ?_
    refine j_istore3 (pc' := 5) q240_4 rfl (Nat.le_of_ble_eq_true rfl) rfl ?_
    refine j_forget (V' := [.ref 30, .int a1, .int (0 : Int32), .int (3 : Int32)]) (z_le_s (z_le_s (z_le_s (z_le_s (z_le_nil))))) ?_
    refine j_loopX (S := Int32 × zS) (E := zS) (fun e => e) 20 (fun s1 => [.ref 30, .int a1, .int s1.1, .int (3 : Int32)]) (fun s1 => s1.2) (fun b1 => [.null, .null, .null, .null]) (fun b1 => b1) (fun b1 => ?_) (fun R1 hR1 hX1 s1 => ?_) ((0 : Int32), σ)
    · show z_J _ _ _ _ _ _ _ _ _ _ _ _
      exact j_vret q240_20 rfl
    · show z_J _ _ _ _ _ _ _ _ _ _ _ _
      refine j_iload_n (pc' := 6) q240_5 rfl rfl ?_
      refine j_iload_n (pc' := 7) q240_6 rfl rfl ?_
      refine j_icmp_ge (pc' := 10) q240_7 rfl (fun c2 => ?_) (fun c2 => ?_)
      · exact j_exit (j_forget (z_le_n (z_le_n (z_le_n (z_le_n (z_le_nil))))) (hX1 s1.2))
      · refine j_aload_n (pc' := 11) q240_10 rfl (by decide) rfl ?_
        refine j_iload_n (pc' := 12) q240_11 rfl rfl ?_
        refine j_iload_n (pc' := 13) q240_12 rfl rfl ?_
        refine j_if (fun hi3 => ?_) (fun _ => j_none)
        refine j_iast (k := 30) (N := 3) (pc' := 14) q240_13 rfl hi3 rfl ?_
        refine j_nameS (fun τ4 => ?_)
        refine j_iinc2 (pc' := 17) q240_14 rfl (Nat.le_of_ble_eq_true rfl) rfl ?_
        refine j_goto q240_17 rfl ?_
        exact j_again (j_forget (z_le_s (z_le_s (z_le_s (z_le_s (z_le_nil))))) (hR1 ((s1.1 + (1 : Int32)), τ4)))
theorem q5_0 : z_fi (z_mi 5) 0 = some (0, .aload_n 0, 0, 0, 0, 0, 0) := rfl
theorem q5_1 : z_fi (z_mi 5) 1 = some (1, .iconst 2, 0, 0, 0, 2, 0) := rfl
theorem q5_2 : z_fi (z_mi 5) 2 = some (2, .putfield 53, 0, 0, 0, 0, 0) := rfl
theorem q5_5 : z_fi (z_mi 5) 5 = some (5, .aload_n 0, 0, 0, 0, 0, 0) := rfl
theorem q5_6 : z_fi (z_mi 5) 6 = some (6, .iconst 2, 0, 0, 0, 2, 0) := rfl
theorem q5_7 : z_fi (z_mi 5) 7 = some (7, .putfield 57, 0, 0, 1, 0, 0) := rfl
theorem q5_10 : z_fi (z_mi 5) 10 = some (10, .aload_n 0, 0, 0, 0, 0, 0) := rfl
theorem q5_11 : z_fi (z_mi 5) 11 = some (11, .getfield 9, 0, 0, 2, 0, 0) := rfl
theorem q5_14 : z_fi (z_mi 5) 14 = some (14, .iconst 4, 0, 0, 0, 4, 0) := rfl
theorem q5_15 : z_fi (z_mi 5) 15 = some (15, .invokestatic 60, 1, 240, 2, 0, 0) := rfl
theorem q5_18 : z_fi (z_mi 5) 18 = some (18, .aload_n 0, 0, 0, 0, 0, 0) := rfl
theorem q5_19 : z_fi (z_mi 5) 19 = some (19, .getfield 15, 0, 0, 3, 0, 0) := rfl
theorem q5_22 : z_fi (z_mi 5) 22 = some (22, .iconst 0, 0, 0, 0, 0, 0) := rfl
theorem q5_23 : z_fi (z_mi 5) 23 = some (23, .invokestatic 60, 1, 240, 2, 0, 0) := rfl
theorem q5_26 : z_fi (z_mi 5) 26 = some (26, .aload_n 0, 0, 0, 0, 0, 0) := rfl
theorem q5_27 : z_fi (z_mi 5) 27 = some (27, .getfield 18, 0, 0, 4, 0, 0) := rfl
theorem q5_30 : z_fi (z_mi 5) 30 = some (30, .bipush (-4), 0, 0, 0, (-4), 0) := rfl
theorem q5_32 : z_fi (z_mi 5) 32 = some (32, .invokestatic 60, 1, 240, 2, 0, 0) := rfl
theorem q5_35 : z_fi (z_mi 5) 35 = some (35, .aload_n 0, 0, 0, 0, 0, 0) := rfl
theorem q5_36 : z_fi (z_mi 5) 36 = some (36, .getfield 21, 0, 0, 5, 0, 0) := rfl
theorem q5_39 : z_fi (z_mi 5) 39 = some (39, .iconst 0, 0, 0, 0, 0, 0) := rfl
theorem q5_40 : z_fi (z_mi 5) 40 = some (40, .invokestatic 60, 1, 240, 2, 0, 0) := rfl
theorem q5_43 : z_fi (z_mi 5) 43 = some (43, .aload_n 0, 0, 0, 0, 0, 0) := rfl
theorem q5_44 : z_fi (z_mi 5) 44 = some (44, .getfield 24, 0, 0, 6, 0, 0) := rfl
theorem q5_47 : z_fi (z_mi 5) 47 = some (47, .iconst 0, 0, 0, 0, 0, 0) := rfl
theorem q5_48 : z_fi (z_mi 5) 48 = some (48, .invokestatic 60, 1, 240, 2, 0, 0) := rfl
theorem q5_51 : z_fi (z_mi 5) 51 = some (51, .aload_n 0, 0, 0, 0, 0, 0) := rfl
theorem q5_52 : z_fi (z_mi 5) 52 = some (52, .iconst 0, 0, 0, 0, 0, 0) := rfl
theorem q5_53 : z_fi (z_mi 5) 53 = some (53, .putfield 66, 0, 0, 7, 0, 0) := rfl
theorem q5_56 : z_fi (z_mi 5) 56 = some (56, .aload_n 0, 0, 0, 0, 0, 0) := rfl
theorem q5_57 : z_fi (z_mi 5) 57 = some (57, .getfield 30, 0, 0, 8, 0, 0) := rfl
theorem q5_60 : z_fi (z_mi 5) 60 = some (60, .iconst 0, 0, 0, 0, 0, 0) := rfl
theorem q5_61 : z_fi (z_mi 5) 61 = some (61, .putfield 69, 0, 1, 3, 0, 0) := rfl
theorem q5_64 : z_fi (z_mi 5) 64 = some (64, .aload_n 0, 0, 0, 0, 0, 0) := rfl
theorem q5_65 : z_fi (z_mi 5) 65 = some (65, .getfield 37, 0, 0, 9, 0, 0) := rfl
theorem q5_68 : z_fi (z_mi 5) 68 = some (68, .invokevirtual 72, 0, 61, 0, 0, 0) := rfl
theorem q5_71 : z_fi (z_mi 5) 71 = some (71, .aload_n 0, 0, 0, 0, 0, 0) := rfl
theorem q5_72 : z_fi (z_mi 5) 72 = some (72, .iconst 0, 0, 0, 0, 0, 0) := rfl
theorem q5_73 : z_fi (z_mi 5) 73 = some (73, .putfield 73, 0, 0, 10, 0, 0) := rfl
theorem q5_76 : z_fi (z_mi 5) 76 = some (76, .aload_n 0, 0, 0, 0, 0, 0) := rfl
theorem q5_77 : z_fi (z_mi 5) 77 = some (77, .getfield 41, 0, 0, 11, 0, 0) := rfl
theorem q5_80 : z_fi (z_mi 5) 80 = some (80, .iconst 0, 0, 0, 0, 0, 0) := rfl
theorem q5_81 : z_fi (z_mi 5) 81 = some (81, .invokestatic 60, 1, 240, 2, 0, 0) := rfl
theorem q5_84 : z_fi (z_mi 5) 84 = some (84, .aload_n 0, 0, 0, 0, 0, 0) := rfl
theorem q5_85 : z_fi (z_mi 5) 85 = some (85, .iconst 0, 0, 0, 0, 0, 0) := rfl
theorem q5_86 : z_fi (z_mi 5) 86 = some (86, .putfield 76, 0, 0, 12, 0, 0) := rfl
theorem q5_89 : z_fi (z_mi 5) 89 = some (89, .aload_n 0, 0, 0, 0, 0, 0) := rfl
theorem q5_90 : z_fi (z_mi 5) 90 = some (90, .iconst 0, 0, 0, 0, 0, 0) := rfl
theorem q5_91 : z_fi (z_mi 5) 91 = some (91, .putfield 79, 0, 0, 13, 0, 0) := rfl
theorem q5_94 : z_fi (z_mi 5) 94 = some (94, .return_, 0, 0, 0, 0, 0) := rfl
set_option maxRecDepth 20000 in
set_option maxHeartbeats 4000000 in
theorem t_G_clear_17 {xL : Nat} {xs : Nat → Int32} {ρ : Nat → Nat → Option Nat} (hρ : z_hR ρ) (d : Nat)  (σ : zS) : ∀ q, f_G_clear_17  σ = some q → z_ec xL xs ρ (d + 2) 5 [.ref 17] σ (em_v q) := by
  refine j_of (W := [.ref 17]) (fun L hL => ?_) ?_
  · subst hL; exact z_vl_0 _ 0 rfl
  · unfold f_G_clear_17
    refine j_aload_n (pc' := 1) q5_0 rfl (by decide) rfl ?_
    refine j_iconst (pc' := 2) q5_1 rfl ?_
    refine j_putf (k := 17) (pc' := 5) q5_2 rfl rfl ?_
    refine j_nameS (fun τ1 => ?_)
    refine j_aload_n (pc' := 6) q5_5 rfl (by decide) rfl ?_
    refine j_iconst (pc' := 7) q5_6 rfl ?_
    refine j_putf (k := 17) (pc' := 10) q5_7 rfl rfl ?_
    refine j_nameS (fun τ2 => ?_)
    refine j_aload_n (pc' := 11) q5_10 rfl (by decide) rfl ?_
    refine j_getr (k := 17) (q := 18) (pc' := 14) q5_11 rfl (hρ 17 2 18 rfl) rfl ?_
    refine j_iconst (pc' := 15) q5_14 rfl ?_
    refine j_callS2_v (d := d + 1) (pc' := 18) q5_15 (Or.inl rfl) (Nat.le_of_ble_eq_true rfl) (Nat.le_of_ble_eq_true rfl) rfl (t_JA_fill_18 hρ (d + 1) _ _) (fun r3 => ?_)
    refine j_aload_n (pc' := 19) q5_18 rfl (by decide) rfl ?_
    refine j_getr (k := 17) (q := 19) (pc' := 22) q5_19 rfl (hρ 17 3 19 rfl) rfl ?_
    refine j_iconst (pc' := 23) q5_22 rfl ?_
    refine j_callS2_v (d := d + 1) (pc' := 26) q5_23 (Or.inl rfl) (Nat.le_of_ble_eq_true rfl) (Nat.le_of_ble_eq_true rfl) rfl (t_JA_fill_19 hρ (d + 1) _ _) (fun r4 => ?_)
    refine j_aload_n (pc' := 27) q5_26 rfl (by decide) rfl ?_
    refine j_getr (k := 17) (q := 20) (pc' := 30) q5_27 rfl (hρ 17 4 20 rfl) rfl ?_
    refine j_bipush (pc' := 32) q5_30 rfl ?_
    refine j_callS2_v (d := d + 1) (pc' := 35) q5_32 (Or.inl rfl) (Nat.le_of_ble_eq_true rfl) (Nat.le_of_ble_eq_true rfl) rfl (t_JA_fill_20 hρ (d + 1) _ _) (fun r5 => ?_)
    refine j_aload_n (pc' := 36) q5_35 rfl (by decide) rfl ?_
    refine j_getr (k := 17) (q := 21) (pc' := 39) q5_36 rfl (hρ 17 5 21 rfl) rfl ?_
    refine j_iconst (pc' := 40) q5_39 rfl ?_
    refine j_callS2_v (d := d + 1) (pc' := 43) q5_40 (Or.inl rfl) (Nat.le_of_ble_eq_true rfl) (Nat.le_of_ble_eq_true rfl) rfl (t_JA_fill_21 hρ (d + 1) _ _) (fun r6 => ?_)
    refine j_aload_n (pc' := 44) q5_43 rfl (by decide) rfl ?_
    refine j_getr (k := 17) (q := 22) (pc' := 47) q5_44 rfl (hρ 17 6 22 rfl) rfl ?_
    refine j_iconst (pc' := 48) q5_47 rfl ?_
    refine j_callS2_v (d := d + 1) (pc' := 51) q5_48 (Or.inl rfl) (Nat.le_of_ble_eq_true rfl) (Nat.le_of_ble_eq_true rfl) rfl (t_JA_fill_22 hρ (d + 1) _ _) (fun r7 => ?_)
    refine j_aload_n (pc' := 52) q5_51 rfl (by decide) rfl ?_
    refine j_iconst (pc' := 53) q5_52 rfl ?_
    refine j_putf (k := 17) (pc' := 56) q5_53 rfl rfl ?_
    refine j_nameS (fun τ8 => ?_)
    refine j_aload_n (pc' := 57) q5_56 rfl (by decide) rfl ?_
    refine j_getr (k := 17) (q := 23) (pc' := 60) q5_57 rfl (hρ 17 8 23 rfl) rfl ?_
    refine j_iconst (pc' := 61) q5_60 rfl ?_
    refine j_putf (k := 23) (pc' := 64) q5_61 rfl rfl ?_
    refine j_nameS (fun τ9 => ?_)
    refine j_aload_n (pc' := 65) q5_64 rfl (by decide) rfl ?_
    refine j_getr (k := 17) (q := 27) (pc' := 68) q5_65 rfl (hρ 17 9 27 rfl) rfl ?_
    refine j_callV0_v (d := d + 1) (pc' := 71) q5_68 rfl (Nat.le_of_ble_eq_true rfl) (Nat.le_of_ble_eq_true rfl) rfl (t_Sp_clear_27 hρ (d + 0) _) (fun r10 => ?_)
    refine j_aload_n (pc' := 72) q5_71 rfl (by decide) rfl ?_
    refine j_iconst (pc' := 73) q5_72 rfl ?_
    refine j_putf (k := 17) (pc' := 76) q5_73 rfl rfl ?_
    refine j_nameS (fun τ11 => ?_)
    refine j_aload_n (pc' := 77) q5_76 rfl (by decide) rfl ?_
    refine j_getr (k := 17) (q := 30) (pc' := 80) q5_77 rfl (hρ 17 11 30 rfl) rfl ?_
    refine j_iconst (pc' := 81) q5_80 rfl ?_
    refine j_callS2_v (d := d + 1) (pc' := 84) q5_81 (Or.inl rfl) (Nat.le_of_ble_eq_true rfl) (Nat.le_of_ble_eq_true rfl) rfl (t_JA_fill_30 hρ (d + 1) _ _) (fun r12 => ?_)
    refine j_aload_n (pc' := 85) q5_84 rfl (by decide) rfl ?_
    refine j_iconst (pc' := 86) q5_85 rfl ?_
    refine j_putf (k := 17) (pc' := 89) q5_86 rfl rfl ?_
    refine j_nameS (fun τ13 => ?_)
    refine j_aload_n (pc' := 90) q5_89 rfl (by decide) rfl ?_
    refine j_iconst (pc' := 91) q5_90 rfl ?_
    refine j_putf (k := 17) (pc' := 94) q5_91 rfl rfl ?_
    refine j_nameS (fun τ14 => ?_)
    exact j_vret q5_94 rfl
theorem q93_0 : z_fi (z_mi 93) 0 = some (0, .aload_n 0, 0, 0, 0, 0, 0) := rfl
theorem q93_1 : z_fi (z_mi 93) 1 = some (1, .iconst 0, 0, 0, 0, 0, 0) := rfl
theorem q93_2 : z_fi (z_mi 93) 2 = some (2, .putfield 13, 0, 8, 4, 0, 0) := rfl
theorem q93_5 : z_fi (z_mi 93) 5 = some (5, .return_, 0, 0, 0, 0, 0) := rfl
set_option maxRecDepth 20000 in
set_option maxHeartbeats 4000000 in
theorem t_Tk_begin_40 {xL : Nat} {xs : Nat → Int32} {ρ : Nat → Nat → Option Nat} (hρ : z_hR ρ) (d : Nat)  (σ : zS) : ∀ q, f_Tk_begin_40  σ = some q → z_ec xL xs ρ (d + 0) 93 [.ref 40] σ (em_v q) := by
  refine j_of (W := [.ref 40]) (fun L hL => ?_) ?_
  · subst hL; exact z_vl_0 _ 0 rfl
  · unfold f_Tk_begin_40
    refine j_aload_n (pc' := 1) q93_0 rfl (by decide) rfl ?_
    refine j_iconst (pc' := 2) q93_1 rfl ?_
    refine j_putf (k := 40) (pc' := 5) q93_2 rfl rfl ?_
    refine j_nameS (fun τ1 => ?_)
    exact j_vret q93_5 rfl
set_option maxRecDepth 20000 in
set_option maxHeartbeats 4000000 in
theorem t_JA_fill_38 {xL : Nat} {xs : Nat → Int32} {ρ : Nat → Nat → Option Nat} (hρ : z_hR ρ) (d : Nat) (a1 : Int32) (σ : zS) : ∀ q, f_JA_fill_38 a1 σ = some q → z_ec xL xs ρ (d + 0) 240 [.ref 38, .int a1] σ (em_v q) := by
  refine j_of (W := [.ref 38, .int a1, .null, .null]) (fun L hL => ?_) ?_
  · subst hL; exact z_vl_0 _ 2 rfl
  · unfold f_JA_fill_38
    refine j_iconst (pc' := 1) q240_0 rfl ?_
    refine j_istore2 (pc' := 2) q240_1 rfl (Nat.le_of_ble_eq_true rfl) rfl ?_
    refine j_aload_n (pc' := 3) q240_2 rfl (by decide) rfl ?_
    refine j_alen (k := 38) (N := 8) (pc' := 4) q240_3 ⟨Nat.le_of_ble_eq_true rfl, by decide, rfl⟩ rfl ?_
    refine j_istore3 (pc' := 5) q240_4 rfl (Nat.le_of_ble_eq_true rfl) rfl ?_
    refine j_forget (V' := [.ref 38, .int a1, .int (0 : Int32), .int (8 : Int32)]) (z_le_s (z_le_s (z_le_s (z_le_s (z_le_nil))))) ?_
    refine j_loopX (S := Int32 × zS) (E := zS) (fun e => e) 20 (fun s1 => [.ref 38, .int a1, .int s1.1, .int (8 : Int32)]) (fun s1 => s1.2) (fun b1 => [.null, .null, .null, .null]) (fun b1 => b1) (fun b1 => ?_) (fun R1 hR1 hX1 s1 => ?_) ((0 : Int32), σ)
    · show z_J _ _ _ _ _ _ _ _ _ _ _ _
      exact j_vret q240_20 rfl
    · show z_J _ _ _ _ _ _ _ _ _ _ _ _
      refine j_iload_n (pc' := 6) q240_5 rfl rfl ?_
      refine j_iload_n (pc' := 7) q240_6 rfl rfl ?_
      refine j_icmp_ge (pc' := 10) q240_7 rfl (fun c2 => ?_) (fun c2 => ?_)
      · exact j_exit (j_forget (z_le_n (z_le_n (z_le_n (z_le_n (z_le_nil))))) (hX1 s1.2))
      · refine j_aload_n (pc' := 11) q240_10 rfl (by decide) rfl ?_
        refine j_iload_n (pc' := 12) q240_11 rfl rfl ?_
        refine j_iload_n (pc' := 13) q240_12 rfl rfl ?_
        refine j_if (fun hi3 => ?_) (fun _ => j_none)
        refine j_iast (k := 38) (N := 8) (pc' := 14) q240_13 rfl hi3 rfl ?_
        refine j_nameS (fun τ4 => ?_)
        refine j_iinc2 (pc' := 17) q240_14 rfl (Nat.le_of_ble_eq_true rfl) rfl ?_
        refine j_goto q240_17 rfl ?_
        exact j_again (j_forget (z_le_s (z_le_s (z_le_s (z_le_s (z_le_nil))))) (hR1 ((s1.1 + (1 : Int32)), τ4)))
theorem q76_0 : z_fi (z_mi 76) 0 = some (0, .iload_n 1, 0, 0, 0, 0, 0) := rfl
theorem q76_1 : z_fi (z_mi 76) 1 = some (1, .ifCond .lt 27, 0, 28, 0, 0, 0) := rfl
theorem q76_4 : z_fi (z_mi 76) 4 = some (4, .iload_n 1, 0, 0, 0, 0, 0) := rfl
theorem q76_5 : z_fi (z_mi 76) 5 = some (5, .aload_n 0, 0, 0, 0, 0, 0) := rfl
theorem q76_6 : z_fi (z_mi 76) 6 = some (6, .getfield 15, 0, 6, 1, 0, 0) := rfl
theorem q76_9 : z_fi (z_mi 76) 9 = some (9, .if_icmp .ge 19, 0, 28, 0, 0, 0) := rfl
theorem q76_12 : z_fi (z_mi 76) 12 = some (12, .iload_n 1, 0, 0, 0, 0, 0) := rfl
theorem q76_13 : z_fi (z_mi 76) 13 = some (13, .sipush 160, 0, 0, 0, 160, 0) := rfl
theorem q76_16 : z_fi (z_mi 76) 16 = some (16, .if_icmp .ge 12, 0, 28, 0, 0, 0) := rfl
theorem q76_19 : z_fi (z_mi 76) 19 = some (19, .aload_n 0, 0, 0, 0, 0, 0) := rfl
theorem q76_20 : z_fi (z_mi 76) 20 = some (20, .getfield 11, 0, 6, 0, 0, 0) := rfl
theorem q76_23 : z_fi (z_mi 76) 23 = some (23, .iload_n 1, 0, 0, 0, 0, 0) := rfl
theorem q76_24 : z_fi (z_mi 76) 24 = some (24, .baload, 0, 0, 0, 0, 0) := rfl
theorem q76_25 : z_fi (z_mi 76) 25 = some (25, .goto 5, 0, 30, 0, 0, 0) := rfl
theorem q76_28 : z_fi (z_mi 76) 28 = some (28, .bipush (-4), 0, 0, 0, (-4), 0) := rfl
theorem q76_30 : z_fi (z_mi 76) 30 = some (30, .ireturn, 0, 0, 0, 0, 0) := rfl
set_option maxRecDepth 20000 in
set_option maxHeartbeats 4000000 in
theorem t_Tp_at_35 {xL : Nat} {xs : Nat → Int32} {ρ : Nat → Nat → Option Nat} (hρ : z_hR ρ) (d : Nat) (a1 : Int32) (σ : zS) : ∀ q, f_Tp_at_35 a1 σ = some q → z_ec xL xs ρ (d + 0) 76 [.ref 35, .int a1] σ (em_pi σ q) := by
  refine j_of (W := [.ref 35, .int a1]) (fun L hL => ?_) ?_
  · subst hL; exact z_vl_0 _ 0 rfl
  · unfold f_Tp_at_35
    refine j_iload_n (pc' := 1) q76_0 rfl rfl ?_
    refine j_if_lt (pc' := 4) q76_1 rfl (fun c1 => ?_) (fun c1 => ?_)
    · refine j_bipush (pc' := 30) q76_28 rfl ?_
      exact j_piret q76_30 rfl
    · refine j_iload_n (pc' := 5) q76_4 rfl rfl ?_
      refine j_aload_n (pc' := 6) q76_5 rfl (by decide) rfl ?_
      refine j_getf (k := 35) (pc' := 9) q76_6 rfl rfl ?_
      refine j_icmp_ge (pc' := 12) q76_9 rfl (fun c2 => ?_) (fun c2 => ?_)
      · refine j_bipush (pc' := 30) q76_28 rfl ?_
        exact j_piret q76_30 rfl
      · refine j_iload_n (pc' := 13) q76_12 rfl rfl ?_
        refine j_sipush (pc' := 16) q76_13 rfl ?_
        refine j_icmp_ge (pc' := 19) q76_16 rfl (fun c3 => ?_) (fun c3 => ?_)
        · refine j_bipush (pc' := 30) q76_28 rfl ?_
          exact j_piret q76_30 rfl
        · refine j_aload_n (pc' := 20) q76_19 rfl (by decide) rfl ?_
          refine j_getr (k := 35) (q := 36) (pc' := 23) q76_20 rfl (hρ 35 0 36 rfl) rfl ?_
          refine j_iload_n (pc' := 24) q76_23 rfl rfl ?_
          refine j_if (fun hi4 => ?_) (fun _ => j_none)
          refine j_bald (k := 36) (N := 160) (pc' := 25) q76_24 (Or.inl rfl) hi4 rfl ?_
          refine j_goto q76_25 rfl ?_
          exact j_piret q76_30 rfl
theorem q96_0 : z_fi (z_mi 96) 0 = some (0, .iload_n 3, 0, 0, 0, 0, 0) := rfl
theorem q96_1 : z_fi (z_mi 96) 1 = some (1, .istore 4, 0, 0, 0, 0, 0) := rfl
theorem q96_3 : z_fi (z_mi 96) 3 = some (3, .iload 4, 0, 0, 0, 0, 0) := rfl
theorem q96_5 : z_fi (z_mi 96) 5 = some (5, .aload_n 0, 0, 0, 0, 0, 0) := rfl
theorem q96_6 : z_fi (z_mi 96) 6 = some (6, .getfield 7, 0, 8, 0, 0, 0) := rfl
theorem q96_9 : z_fi (z_mi 96) 9 = some (9, .getfield 30, 0, 6, 1, 0, 0) := rfl
theorem q96_12 : z_fi (z_mi 96) 12 = some (12, .if_icmp .ge 26, 0, 38, 0, 0, 0) := rfl
theorem q96_15 : z_fi (z_mi 96) 15 = some (15, .aload_n 0, 0, 0, 0, 0, 0) := rfl
theorem q96_16 : z_fi (z_mi 96) 16 = some (16, .getfield 7, 0, 8, 0, 0, 0) := rfl
theorem q96_19 : z_fi (z_mi 96) 19 = some (19, .iload 4, 0, 0, 0, 0, 0) := rfl
theorem q96_21 : z_fi (z_mi 96) 21 = some (21, .invokevirtual 24, 0, 76, 1, 0, 0) := rfl
theorem q96_24 : z_fi (z_mi 96) 24 = some (24, .iload_n 1, 0, 0, 0, 0, 0) := rfl
theorem q96_25 : z_fi (z_mi 96) 25 = some (25, .iload_n 2, 0, 0, 0, 0, 0) := rfl
theorem q96_26 : z_fi (z_mi 96) 26 = some (26, .invokestatic 36, 4, 99, 3, 0, 0) := rfl
theorem q96_29 : z_fi (z_mi 96) 29 = some (29, .ifCond .eq 9, 0, 38, 0, 0, 0) := rfl
theorem q96_32 : z_fi (z_mi 96) 32 = some (32, .iinc 4 1, 0, 0, 0, 1, 0) := rfl
theorem q96_35 : z_fi (z_mi 96) 35 = some (35, .goto (-32), 0, 3, 0, 0, 0) := rfl
theorem q96_38 : z_fi (z_mi 96) 38 = some (38, .iload 4, 0, 0, 0, 0, 0) := rfl
theorem q96_40 : z_fi (z_mi 96) 40 = some (40, .ireturn, 0, 0, 0, 0, 0) := rfl
set_option maxRecDepth 20000 in
set_option maxHeartbeats 4000000 in
theorem t_Tk_behindAll_40 {xL : Nat} {xs : Nat → Int32} {ρ : Nat → Nat → Option Nat} (hρ : z_hR ρ) (d : Nat) (a1 : Int32) (a2 : Int32) (a3 : Int32) (σ : zS) : ∀ q, f_Tk_behindAll_40 a1 a2 a3 σ = some q → z_ec xL xs ρ (d + 1) 96 [.ref 40, .int a1, .int a2, .int a3] σ (em_pi σ q) := by
  refine j_of (W := [.ref 40, .int a1, .int a2, .int a3, .null]) (fun L hL => ?_) ?_
  · subst hL; exact z_vl_0 _ 1 rfl
  · unfold f_Tk_behindAll_40
    refine j_iload_n (pc' := 1) q96_0 rfl rfl ?_
    refine j_istore4 (pc' := 3) q96_1 rfl (Nat.le_of_ble_eq_true rfl) rfl ?_
    refine j_forget (V' := [.ref 40, .int a1, .int a2, .null, .int a3]) (z_le_s (z_le_s (z_le_s (z_le_n (z_le_s (z_le_nil)))))) ?_
    refine j_loopX (S := Int32) (E := Int32) (fun e => e) 38 (fun s1 => [.ref 40, .int a1, .int a2, .null, .int s1]) (fun s1 => σ) (fun b1 => [.null, .null, .null, .null, .int b1]) (fun b1 => σ) (fun b1 => ?_) (fun R1 hR1 hX1 s1 => ?_) a3
    · show z_J _ _ _ _ _ _ _ _ _ _ _ _
      refine j_iload (pc' := 40) q96_38 rfl rfl ?_
      exact j_piret q96_40 rfl
    · show z_J _ _ _ _ _ _ _ _ _ _ _ _
      refine j_iload (pc' := 5) q96_3 rfl rfl ?_
      refine j_aload_n (pc' := 6) q96_5 rfl (by decide) rfl ?_
      refine j_getr (k := 40) (q := 35) (pc' := 9) q96_6 rfl (hρ 40 0 35 rfl) rfl ?_
      refine j_getf (k := 35) (pc' := 12) q96_9 rfl rfl ?_
      refine j_icmp_ge (pc' := 15) q96_12 rfl (fun c2 => ?_) (fun c2 => ?_)
      · exact j_exit (j_forget (z_le_n (z_le_n (z_le_n (z_le_n (z_le_s (z_le_nil)))))) (hX1 s1))
      · refine j_aload_n (pc' := 16) q96_15 rfl (by decide) rfl ?_
        refine j_getr (k := 40) (q := 35) (pc' := 19) q96_16 rfl (hρ 40 0 35 rfl) rfl ?_
        refine j_iload (pc' := 21) q96_19 rfl rfl ?_
        refine j_callV1_pi (d := d + 0) (pc' := 24) q96_21 rfl (Nat.le_of_ble_eq_true rfl) (Nat.le_of_ble_eq_true rfl) rfl (t_Tp_at_35 hρ (d + 0) _ _) (fun r3 => ?_)
        refine j_iload_n (pc' := 25) q96_24 rfl rfl ?_
        refine j_iload_n (pc' := 26) q96_25 rfl rfl ?_
        refine j_callS3_pi (d := d + 0) (pc' := 29) q96_26 (Or.inr rfl) (Nat.le_of_ble_eq_true rfl) (Nat.le_of_ble_eq_true rfl) rfl (t_Y_isIn hρ (d + 0) _ _ _ _) (fun r4 => ?_)
        refine j_if_eq (pc' := 32) q96_29 rfl (fun c5 => ?_) (fun c5 => ?_)
        · exact j_exit (j_forget (z_le_n (z_le_n (z_le_n (z_le_n (z_le_s (z_le_nil)))))) (hX1 s1))
        · refine j_iinc4 (pc' := 35) q96_32 rfl (Nat.le_of_ble_eq_true rfl) rfl ?_
          refine j_goto q96_35 rfl ?_
          exact j_again (j_forget (z_le_s (z_le_s (z_le_s (z_le_n (z_le_s (z_le_nil)))))) (hR1 (s1 + (1 : Int32))))
theorem q95_0 : z_fi (z_mi 95) 0 = some (0, .iconst 0, 0, 0, 0, 0, 0) := rfl
theorem q95_1 : z_fi (z_mi 95) 1 = some (1, .istore_n 1, 0, 0, 0, 0, 0) := rfl
theorem q95_2 : z_fi (z_mi 95) 2 = some (2, .aload_n 0, 0, 0, 0, 0, 0) := rfl
theorem q95_3 : z_fi (z_mi 95) 3 = some (3, .getfield 21, 0, 8, 2, 0, 0) := rfl
theorem q95_6 : z_fi (z_mi 95) 6 = some (6, .istore_n 2, 0, 0, 0, 0, 0) := rfl
theorem q95_7 : z_fi (z_mi 95) 7 = some (7, .iload_n 2, 0, 0, 0, 0, 0) := rfl
theorem q95_8 : z_fi (z_mi 95) 8 = some (8, .aload_n 0, 0, 0, 0, 0, 0) := rfl
theorem q95_9 : z_fi (z_mi 95) 9 = some (9, .getfield 13, 0, 8, 4, 0, 0) := rfl
theorem q95_12 : z_fi (z_mi 95) 12 = some (12, .if_icmp .ge 26, 0, 38, 0, 0, 0) := rfl
theorem q95_15 : z_fi (z_mi 95) 15 = some (15, .bipush 10, 0, 0, 0, 10, 0) := rfl
theorem q95_17 : z_fi (z_mi 95) 17 = some (17, .iload_n 1, 0, 0, 0, 0, 0) := rfl
theorem q95_18 : z_fi (z_mi 95) 18 = some (18, .imul, 0, 0, 0, 0, 0) := rfl
theorem q95_19 : z_fi (z_mi 95) 19 = some (19, .aload_n 0, 0, 0, 0, 0, 0) := rfl
theorem q95_20 : z_fi (z_mi 95) 20 = some (20, .getfield 7, 0, 8, 0, 0, 0) := rfl
theorem q95_23 : z_fi (z_mi 95) 23 = some (23, .iload_n 2, 0, 0, 0, 0, 0) := rfl
theorem q95_24 : z_fi (z_mi 95) 24 = some (24, .invokevirtual 24, 0, 76, 1, 0, 0) := rfl
theorem q95_27 : z_fi (z_mi 95) 27 = some (27, .iadd, 0, 0, 0, 0, 0) := rfl
theorem q95_28 : z_fi (z_mi 95) 28 = some (28, .bipush 48, 0, 0, 0, 48, 0) := rfl
theorem q95_30 : z_fi (z_mi 95) 30 = some (30, .isub, 0, 0, 0, 0, 0) := rfl
theorem q95_31 : z_fi (z_mi 95) 31 = some (31, .istore_n 1, 0, 0, 0, 0, 0) := rfl
theorem q95_32 : z_fi (z_mi 95) 32 = some (32, .iinc 2 1, 0, 0, 0, 1, 0) := rfl
theorem q95_35 : z_fi (z_mi 95) 35 = some (35, .goto (-28), 0, 7, 0, 0, 0) := rfl
theorem q95_38 : z_fi (z_mi 95) 38 = some (38, .iload_n 1, 0, 0, 0, 0, 0) := rfl
theorem q95_39 : z_fi (z_mi 95) 39 = some (39, .ireturn, 0, 0, 0, 0, 0) := rfl
set_option maxRecDepth 20000 in
set_option maxHeartbeats 4000000 in
theorem t_Tk_numberHere_40 {xL : Nat} {xs : Nat → Int32} {ρ : Nat → Nat → Option Nat} (hρ : z_hR ρ) (d : Nat)  (σ : zS) : ∀ q, f_Tk_numberHere_40  σ = some q → z_ec xL xs ρ (d + 1) 95 [.ref 40] σ (em_pi σ q) := by
  refine j_of (W := [.ref 40, .null, .null]) (fun L hL => ?_) ?_
  · subst hL; exact z_vl_0 _ 2 rfl
  · unfold f_Tk_numberHere_40
    refine j_iconst (pc' := 1) q95_0 rfl ?_
    refine j_istore1 (pc' := 2) q95_1 rfl (Nat.le_of_ble_eq_true rfl) rfl ?_
    refine j_aload_n (pc' := 3) q95_2 rfl (by decide) rfl ?_
    refine j_getf (k := 40) (pc' := 6) q95_3 rfl rfl ?_
    refine j_istore2 (pc' := 7) q95_6 rfl (Nat.le_of_ble_eq_true rfl) rfl ?_
    refine j_forget (V' := [.ref 40, .int (0 : Int32), .int (σ 40 2)]) (z_le_s (z_le_s (z_le_s (z_le_nil)))) ?_
    refine j_loopX (S := Int32 × Int32) (E := Int32) (fun e => e) 38 (fun s1 => [.ref 40, .int s1.1, .int s1.2]) (fun s1 => σ) (fun b1 => [.null, .int b1, .null]) (fun b1 => σ) (fun b1 => ?_) (fun R1 hR1 hX1 s1 => ?_) ((0 : Int32), (σ 40 2))
    · show z_J _ _ _ _ _ _ _ _ _ _ _ _
      refine j_iload_n (pc' := 39) q95_38 rfl rfl ?_
      exact j_piret q95_39 rfl
    · show z_J _ _ _ _ _ _ _ _ _ _ _ _
      refine j_iload_n (pc' := 8) q95_7 rfl rfl ?_
      refine j_aload_n (pc' := 9) q95_8 rfl (by decide) rfl ?_
      refine j_getf (k := 40) (pc' := 12) q95_9 rfl rfl ?_
      refine j_icmp_ge (pc' := 15) q95_12 rfl (fun c2 => ?_) (fun c2 => ?_)
      · exact j_exit (j_forget (z_le_n (z_le_s (z_le_n (z_le_nil)))) (hX1 s1.1))
      · refine j_bipush (pc' := 17) q95_15 rfl ?_
        refine j_iload_n (pc' := 18) q95_17 rfl rfl ?_
        refine j_imul (pc' := 19) q95_18 rfl ?_
        refine j_aload_n (pc' := 20) q95_19 rfl (by decide) rfl ?_
        refine j_getr (k := 40) (q := 35) (pc' := 23) q95_20 rfl (hρ 40 0 35 rfl) rfl ?_
        refine j_iload_n (pc' := 24) q95_23 rfl rfl ?_
        refine j_callV1_pi (d := d + 0) (pc' := 27) q95_24 rfl (Nat.le_of_ble_eq_true rfl) (Nat.le_of_ble_eq_true rfl) rfl (t_Tp_at_35 hρ (d + 0) _ _) (fun r3 => ?_)
        refine j_iadd (pc' := 28) q95_27 rfl ?_
        refine j_bipush (pc' := 30) q95_28 rfl ?_
        refine j_isub (pc' := 31) q95_30 rfl ?_
        refine j_nameI (fun v4 => ?_)
        refine j_istore1 (pc' := 32) q95_31 rfl (Nat.le_of_ble_eq_true rfl) rfl ?_
        refine j_iinc2 (pc' := 35) q95_32 rfl (Nat.le_of_ble_eq_true rfl) rfl ?_
        refine j_goto q95_35 rfl ?_
        exact j_again (j_forget (z_le_s (z_le_s (z_le_s (z_le_nil)))) (hR1 (v4, (s1.2 + (1 : Int32)))))
theorem q94_0 : z_fi (z_mi 94) 0 = some (0, .aload_n 0, 0, 0, 0, 0, 0) := rfl
theorem q94_1 : z_fi (z_mi 94) 1 = some (1, .aload_n 0, 0, 0, 0, 0, 0) := rfl
theorem q94_2 : z_fi (z_mi 94) 2 = some (2, .bipush 32, 0, 0, 0, 32, 0) := rfl
theorem q94_4 : z_fi (z_mi 94) 4 = some (4, .bipush 32, 0, 0, 0, 32, 0) := rfl
theorem q94_6 : z_fi (z_mi 94) 6 = some (6, .aload_n 0, 0, 0, 0, 0, 0) := rfl
theorem q94_7 : z_fi (z_mi 94) 7 = some (7, .getfield 13, 0, 8, 4, 0, 0) := rfl
theorem q94_10 : z_fi (z_mi 94) 10 = some (10, .invokevirtual 17, 0, 96, 3, 0, 0) := rfl
theorem q94_13 : z_fi (z_mi 94) 13 = some (13, .putfield 21, 0, 8, 2, 0, 0) := rfl
theorem q94_16 : z_fi (z_mi 94) 16 = some (16, .aload_n 0, 0, 0, 0, 0, 0) := rfl
theorem q94_17 : z_fi (z_mi 94) 17 = some (17, .aload_n 0, 0, 0, 0, 0, 0) := rfl
theorem q94_18 : z_fi (z_mi 94) 18 = some (18, .getfield 21, 0, 8, 2, 0, 0) := rfl
theorem q94_21 : z_fi (z_mi 94) 21 = some (21, .iconst 1, 0, 0, 0, 1, 0) := rfl
theorem q94_22 : z_fi (z_mi 94) 22 = some (22, .iadd, 0, 0, 0, 0, 0) := rfl
theorem q94_23 : z_fi (z_mi 94) 23 = some (23, .putfield 13, 0, 8, 4, 0, 0) := rfl
theorem q94_26 : z_fi (z_mi 94) 26 = some (26, .aload_n 0, 0, 0, 0, 0, 0) := rfl
theorem q94_27 : z_fi (z_mi 94) 27 = some (27, .getfield 7, 0, 8, 0, 0, 0) := rfl
theorem q94_30 : z_fi (z_mi 94) 30 = some (30, .aload_n 0, 0, 0, 0, 0, 0) := rfl
theorem q94_31 : z_fi (z_mi 94) 31 = some (31, .getfield 21, 0, 8, 2, 0, 0) := rfl
theorem q94_34 : z_fi (z_mi 94) 34 = some (34, .invokevirtual 24, 0, 76, 1, 0, 0) := rfl
theorem q94_37 : z_fi (z_mi 94) 37 = some (37, .istore_n 1, 0, 0, 0, 0, 0) := rfl
theorem q94_38 : z_fi (z_mi 94) 38 = some (38, .aload_n 0, 0, 0, 0, 0, 0) := rfl
theorem q94_39 : z_fi (z_mi 94) 39 = some (39, .getfield 21, 0, 8, 2, 0, 0) := rfl
theorem q94_42 : z_fi (z_mi 94) 42 = some (42, .aload_n 0, 0, 0, 0, 0, 0) := rfl
theorem q94_43 : z_fi (z_mi 94) 43 = some (43, .getfield 7, 0, 8, 0, 0, 0) := rfl
theorem q94_46 : z_fi (z_mi 94) 46 = some (46, .getfield 30, 0, 6, 1, 0, 0) := rfl
theorem q94_49 : z_fi (z_mi 94) 49 = some (49, .if_icmp .lt 19, 0, 68, 0, 0, 0) := rfl
theorem q94_52 : z_fi (z_mi 94) 52 = some (52, .aload_n 0, 0, 0, 0, 0, 0) := rfl
theorem q94_53 : z_fi (z_mi 94) 53 = some (53, .iconst 0, 0, 0, 0, 0, 0) := rfl
theorem q94_54 : z_fi (z_mi 94) 54 = some (54, .putfield 33, 0, 8, 1, 0, 0) := rfl
theorem q94_57 : z_fi (z_mi 94) 57 = some (57, .aload_n 0, 0, 0, 0, 0, 0) := rfl
theorem q94_58 : z_fi (z_mi 94) 58 = some (58, .aload_n 0, 0, 0, 0, 0, 0) := rfl
theorem q94_59 : z_fi (z_mi 94) 59 = some (59, .getfield 21, 0, 8, 2, 0, 0) := rfl
theorem q94_62 : z_fi (z_mi 94) 62 = some (62, .putfield 13, 0, 8, 4, 0, 0) := rfl
theorem q94_65 : z_fi (z_mi 94) 65 = some (65, .goto 129, 0, 194, 0, 0, 0) := rfl
theorem q94_68 : z_fi (z_mi 94) 68 = some (68, .iload_n 1, 0, 0, 0, 0, 0) := rfl
theorem q94_69 : z_fi (z_mi 94) 69 = some (69, .bipush 59, 0, 0, 0, 59, 0) := rfl
theorem q94_71 : z_fi (z_mi 94) 71 = some (71, .if_icmp .ne 11, 0, 82, 0, 0, 0) := rfl
theorem q94_74 : z_fi (z_mi 94) 74 = some (74, .aload_n 0, 0, 0, 0, 0, 0) := rfl
theorem q94_75 : z_fi (z_mi 94) 75 = some (75, .iconst 3, 0, 0, 0, 3, 0) := rfl
theorem q94_76 : z_fi (z_mi 94) 76 = some (76, .putfield 33, 0, 8, 1, 0, 0) := rfl
theorem q94_79 : z_fi (z_mi 94) 79 = some (79, .goto 115, 0, 194, 0, 0, 0) := rfl
theorem q94_82 : z_fi (z_mi 94) 82 = some (82, .iload_n 1, 0, 0, 0, 0, 0) := rfl
theorem q94_83 : z_fi (z_mi 94) 83 = some (83, .bipush 97, 0, 0, 0, 97, 0) := rfl
theorem q94_85 : z_fi (z_mi 94) 85 = some (85, .bipush 122, 0, 0, 0, 122, 0) := rfl
theorem q94_87 : z_fi (z_mi 94) 87 = some (87, .invokestatic 36, 4, 99, 3, 0, 0) := rfl
theorem q94_90 : z_fi (z_mi 94) 90 = some (90, .ifCond .eq 27, 0, 117, 0, 0, 0) := rfl
theorem q94_93 : z_fi (z_mi 94) 93 = some (93, .aload_n 0, 0, 0, 0, 0, 0) := rfl
theorem q94_94 : z_fi (z_mi 94) 94 = some (94, .iconst 1, 0, 0, 0, 1, 0) := rfl
theorem q94_95 : z_fi (z_mi 94) 95 = some (95, .putfield 33, 0, 8, 1, 0, 0) := rfl
theorem q94_98 : z_fi (z_mi 94) 98 = some (98, .aload_n 0, 0, 0, 0, 0, 0) := rfl
theorem q94_99 : z_fi (z_mi 94) 99 = some (99, .aload_n 0, 0, 0, 0, 0, 0) := rfl
theorem q94_100 : z_fi (z_mi 94) 100 = some (100, .bipush 97, 0, 0, 0, 97, 0) := rfl
theorem q94_102 : z_fi (z_mi 94) 102 = some (102, .bipush 122, 0, 0, 0, 122, 0) := rfl
theorem q94_104 : z_fi (z_mi 94) 104 = some (104, .aload_n 0, 0, 0, 0, 0, 0) := rfl
theorem q94_105 : z_fi (z_mi 94) 105 = some (105, .getfield 21, 0, 8, 2, 0, 0) := rfl
theorem q94_108 : z_fi (z_mi 94) 108 = some (108, .invokevirtual 17, 0, 96, 3, 0, 0) := rfl
theorem q94_111 : z_fi (z_mi 94) 111 = some (111, .putfield 13, 0, 8, 4, 0, 0) := rfl
theorem q94_114 : z_fi (z_mi 94) 114 = some (114, .goto 80, 0, 194, 0, 0, 0) := rfl
theorem q94_117 : z_fi (z_mi 94) 117 = some (117, .iload_n 1, 0, 0, 0, 0, 0) := rfl
theorem q94_118 : z_fi (z_mi 94) 118 = some (118, .bipush 48, 0, 0, 0, 48, 0) := rfl
theorem q94_120 : z_fi (z_mi 94) 120 = some (120, .bipush 57, 0, 0, 0, 57, 0) := rfl
set_option maxRecDepth 8000 in
theorem q94_122 : z_fi (z_mi 94) 122 = some (122, .invokestatic 36, 4, 99, 3, 0, 0) := rfl
set_option maxRecDepth 8000 in
theorem q94_125 : z_fi (z_mi 94) 125 = some (125, .ifCond .eq 64, 0, 189, 0, 0, 0) := rfl
set_option maxRecDepth 8000 in
theorem q94_128 : z_fi (z_mi 94) 128 = some (128, .aload_n 0, 0, 0, 0, 0, 0) := rfl
set_option maxRecDepth 8000 in
theorem q94_129 : z_fi (z_mi 94) 129 = some (129, .aload_n 0, 0, 0, 0, 0, 0) := rfl
set_option maxRecDepth 8000 in
theorem q94_130 : z_fi (z_mi 94) 130 = some (130, .bipush 48, 0, 0, 0, 48, 0) := rfl
set_option maxRecDepth 8000 in
theorem q94_132 : z_fi (z_mi 94) 132 = some (132, .bipush 57, 0, 0, 0, 57, 0) := rfl
set_option maxRecDepth 8000 in
theorem q94_134 : z_fi (z_mi 94) 134 = some (134, .aload_n 0, 0, 0, 0, 0, 0) := rfl
set_option maxRecDepth 8000 in
theorem q94_135 : z_fi (z_mi 94) 135 = some (135, .getfield 21, 0, 8, 2, 0, 0) := rfl
set_option maxRecDepth 8000 in
theorem q94_138 : z_fi (z_mi 94) 138 = some (138, .invokevirtual 17, 0, 96, 3, 0, 0) := rfl
set_option maxRecDepth 8000 in
theorem q94_141 : z_fi (z_mi 94) 141 = some (141, .putfield 13, 0, 8, 4, 0, 0) := rfl
set_option maxRecDepth 8000 in
theorem q94_144 : z_fi (z_mi 94) 144 = some (144, .aload_n 0, 0, 0, 0, 0, 0) := rfl
set_option maxRecDepth 8000 in
theorem q94_145 : z_fi (z_mi 94) 145 = some (145, .aload_n 0, 0, 0, 0, 0, 0) := rfl
set_option maxRecDepth 8000 in
theorem q94_146 : z_fi (z_mi 94) 146 = some (146, .getfield 13, 0, 8, 4, 0, 0) := rfl
set_option maxRecDepth 8000 in
theorem q94_149 : z_fi (z_mi 94) 149 = some (149, .aload_n 0, 0, 0, 0, 0, 0) := rfl
set_option maxRecDepth 8000 in
theorem q94_150 : z_fi (z_mi 94) 150 = some (150, .getfield 21, 0, 8, 2, 0, 0) := rfl
set_option maxRecDepth 8000 in
theorem q94_153 : z_fi (z_mi 94) 153 = some (153, .isub, 0, 0, 0, 0, 0) := rfl
set_option maxRecDepth 8000 in
theorem q94_154 : z_fi (z_mi 94) 154 = some (154, .iconst 2, 0, 0, 0, 2, 0) := rfl
set_option maxRecDepth 8000 in
theorem q94_155 : z_fi (z_mi 94) 155 = some (155, .if_icmp .le 7, 0, 162, 0, 0, 0) := rfl
set_option maxRecDepth 8000 in
theorem q94_158 : z_fi (z_mi 94) 158 = some (158, .iconst 4, 0, 0, 0, 4, 0) := rfl
set_option maxRecDepth 8000 in
theorem q94_159 : z_fi (z_mi 94) 159 = some (159, .goto 4, 0, 163, 0, 0, 0) := rfl
set_option maxRecDepth 8000 in
theorem q94_162 : z_fi (z_mi 94) 162 = some (162, .iconst 2, 0, 0, 0, 2, 0) := rfl
set_option maxRecDepth 8000 in
theorem q94_163 : z_fi (z_mi 94) 163 = some (163, .putfield 33, 0, 8, 1, 0, 0) := rfl
set_option maxRecDepth 8000 in
theorem q94_166 : z_fi (z_mi 94) 166 = some (166, .aload_n 0, 0, 0, 0, 0, 0) := rfl
set_option maxRecDepth 8000 in
theorem q94_167 : z_fi (z_mi 94) 167 = some (167, .aload_n 0, 0, 0, 0, 0, 0) := rfl
set_option maxRecDepth 8000 in
theorem q94_168 : z_fi (z_mi 94) 168 = some (168, .getfield 33, 0, 8, 1, 0, 0) := rfl
set_option maxRecDepth 8000 in
theorem q94_171 : z_fi (z_mi 94) 171 = some (171, .iconst 2, 0, 0, 0, 2, 0) := rfl
set_option maxRecDepth 8000 in
theorem q94_172 : z_fi (z_mi 94) 172 = some (172, .if_icmp .ne 10, 0, 182, 0, 0, 0) := rfl
set_option maxRecDepth 8000 in
theorem q94_175 : z_fi (z_mi 94) 175 = some (175, .aload_n 0, 0, 0, 0, 0, 0) := rfl
set_option maxRecDepth 8000 in
theorem q94_176 : z_fi (z_mi 94) 176 = some (176, .invokevirtual 42, 0, 95, 0, 0, 0) := rfl
set_option maxRecDepth 8000 in
theorem q94_179 : z_fi (z_mi 94) 179 = some (179, .goto 4, 0, 183, 0, 0, 0) := rfl
set_option maxRecDepth 8000 in
theorem q94_182 : z_fi (z_mi 94) 182 = some (182, .iconst 0, 0, 0, 0, 0, 0) := rfl
set_option maxRecDepth 8000 in
theorem q94_183 : z_fi (z_mi 94) 183 = some (183, .putfield 46, 0, 8, 3, 0, 0) := rfl
set_option maxRecDepth 8000 in
theorem q94_186 : z_fi (z_mi 94) 186 = some (186, .goto 8, 0, 194, 0, 0, 0) := rfl
set_option maxRecDepth 8000 in
theorem q94_189 : z_fi (z_mi 94) 189 = some (189, .aload_n 0, 0, 0, 0, 0, 0) := rfl
set_option maxRecDepth 8000 in
theorem q94_190 : z_fi (z_mi 94) 190 = some (190, .iconst 4, 0, 0, 0, 4, 0) := rfl
set_option maxRecDepth 8000 in
theorem q94_191 : z_fi (z_mi 94) 191 = some (191, .putfield 33, 0, 8, 1, 0, 0) := rfl
set_option maxRecDepth 8000 in
theorem q94_194 : z_fi (z_mi 94) 194 = some (194, .return_, 0, 0, 0, 0, 0) := rfl
set_option maxRecDepth 20000 in
set_option maxHeartbeats 4000000 in
theorem t_Tk_move_40 {xL : Nat} {xs : Nat → Int32} {ρ : Nat → Nat → Option Nat} (hρ : z_hR ρ) (d : Nat)  (σ : zS) : ∀ q, f_Tk_move_40  σ = some q → z_ec xL xs ρ (d + 2) 94 [.ref 40] σ (em_v q) := by
  refine j_of (W := [.ref 40, .null]) (fun L hL => ?_) ?_
  · subst hL; exact z_vl_0 _ 1 rfl
  · unfold f_Tk_move_40
    refine j_aload_n (pc' := 1) q94_0 rfl (by decide) rfl ?_
    refine j_aload_n (pc' := 2) q94_1 rfl (by decide) rfl ?_
    refine j_bipush (pc' := 4) q94_2 rfl ?_
    refine j_bipush (pc' := 6) q94_4 rfl ?_
    refine j_aload_n (pc' := 7) q94_6 rfl (by decide) rfl ?_
    refine j_getf (k := 40) (pc' := 10) q94_7 rfl rfl ?_
    refine j_callV3_pi (d := d + 1) (pc' := 13) q94_10 rfl (Nat.le_of_ble_eq_true rfl) (Nat.le_of_ble_eq_true rfl) rfl (t_Tk_behindAll_40 hρ (d + 0) _ _ _ _) (fun r1 => ?_)
    refine j_putf (k := 40) (pc' := 16) q94_13 rfl rfl ?_
    refine j_nameS (fun τ2 => ?_)
    refine j_aload_n (pc' := 17) q94_16 rfl (by decide) rfl ?_
    refine j_aload_n (pc' := 18) q94_17 rfl (by decide) rfl ?_
    refine j_getf (k := 40) (pc' := 21) q94_18 rfl rfl ?_
    refine j_iconst (pc' := 22) q94_21 rfl ?_
    refine j_iadd (pc' := 23) q94_22 rfl ?_
    refine j_putf (k := 40) (pc' := 26) q94_23 rfl rfl ?_
    refine j_nameS (fun τ3 => ?_)
    refine j_aload_n (pc' := 27) q94_26 rfl (by decide) rfl ?_
    refine j_getr (k := 40) (q := 35) (pc' := 30) q94_27 rfl (hρ 40 0 35 rfl) rfl ?_
    refine j_aload_n (pc' := 31) q94_30 rfl (by decide) rfl ?_
    refine j_getf (k := 40) (pc' := 34) q94_31 rfl rfl ?_
    refine j_callV1_pi (d := d + 1) (pc' := 37) q94_34 rfl (Nat.le_of_ble_eq_true rfl) (Nat.le_of_ble_eq_true rfl) rfl (t_Tp_at_35 hρ (d + 1) _ _) (fun r4 => ?_)
    refine j_istore1 (pc' := 38) q94_37 rfl (Nat.le_of_ble_eq_true rfl) rfl ?_
    refine j_aload_n (pc' := 39) q94_38 rfl (by decide) rfl ?_
    refine j_getf (k := 40) (pc' := 42) q94_39 rfl rfl ?_
    refine j_aload_n (pc' := 43) q94_42 rfl (by decide) rfl ?_
    refine j_getr (k := 40) (q := 35) (pc' := 46) q94_43 rfl (hρ 40 0 35 rfl) rfl ?_
    refine j_getf (k := 35) (pc' := 49) q94_46 rfl rfl ?_
    refine j_icmp_lt (pc' := 52) q94_49 rfl (fun c5 => ?_) (fun c5 => ?_)
    · refine j_iload_n (pc' := 69) q94_68 rfl rfl ?_
      refine j_bipush (pc' := 71) q94_69 rfl ?_
      refine j_icmp_ne (pc' := 74) q94_71 rfl (fun c6 => ?_) (fun c6 => ?_)
      · refine j_aload_n (pc' := 75) q94_74 rfl (by decide) rfl ?_
        refine j_iconst (pc' := 76) q94_75 rfl ?_
        refine j_putf (k := 40) (pc' := 79) q94_76 rfl rfl ?_
        refine j_nameS (fun τ7 => ?_)
        refine j_goto q94_79 rfl ?_
        exact j_vret q94_194 rfl
      · refine j_iload_n (pc' := 83) q94_82 rfl rfl ?_
        refine j_bipush (pc' := 85) q94_83 rfl ?_
        refine j_bipush (pc' := 87) q94_85 rfl ?_
        refine j_callS3_pi (d := d + 1) (pc' := 90) q94_87 (Or.inr rfl) (Nat.le_of_ble_eq_true rfl) (Nat.le_of_ble_eq_true rfl) rfl (t_Y_isIn hρ (d + 1) _ _ _ _) (fun r8 => ?_)
        refine j_if_eq (pc' := 93) q94_90 rfl (fun c9 => ?_) (fun c9 => ?_)
        · refine j_iload_n (pc' := 118) q94_117 rfl rfl ?_
          refine j_bipush (pc' := 120) q94_118 rfl ?_
          refine j_bipush (pc' := 122) q94_120 rfl ?_
          refine j_callS3_pi (d := d + 1) (pc' := 125) q94_122 (Or.inr rfl) (Nat.le_of_ble_eq_true rfl) (Nat.le_of_ble_eq_true rfl) rfl (t_Y_isIn hρ (d + 1) _ _ _ _) (fun r10 => ?_)
          refine j_if_eq (pc' := 128) q94_125 rfl (fun c11 => ?_) (fun c11 => ?_)
          · refine j_aload_n (pc' := 190) q94_189 rfl (by decide) rfl ?_
            refine j_iconst (pc' := 191) q94_190 rfl ?_
            refine j_putf (k := 40) (pc' := 194) q94_191 rfl rfl ?_
            refine j_nameS (fun τ12 => ?_)
            exact j_vret q94_194 rfl
          · refine j_aload_n (pc' := 129) q94_128 rfl (by decide) rfl ?_
            refine j_aload_n (pc' := 130) q94_129 rfl (by decide) rfl ?_
            refine j_bipush (pc' := 132) q94_130 rfl ?_
            refine j_bipush (pc' := 134) q94_132 rfl ?_
            refine j_aload_n (pc' := 135) q94_134 rfl (by decide) rfl ?_
            refine j_getf (k := 40) (pc' := 138) q94_135 rfl rfl ?_
            refine j_callV3_pi (d := d + 1) (pc' := 141) q94_138 rfl (Nat.le_of_ble_eq_true rfl) (Nat.le_of_ble_eq_true rfl) rfl (t_Tk_behindAll_40 hρ (d + 0) _ _ _ _) (fun r13 => ?_)
            refine j_putf (k := 40) (pc' := 144) q94_141 rfl rfl ?_
            refine j_nameS (fun τ14 => ?_)
            refine j_aload_n (pc' := 145) q94_144 rfl (by decide) rfl ?_
            refine j_aload_n (pc' := 146) q94_145 rfl (by decide) rfl ?_
            refine j_getf (k := 40) (pc' := 149) q94_146 rfl rfl ?_
            refine j_aload_n (pc' := 150) q94_149 rfl (by decide) rfl ?_
            refine j_getf (k := 40) (pc' := 153) q94_150 rfl rfl ?_
            refine j_isub (pc' := 154) q94_153 rfl ?_
            refine j_iconst (pc' := 155) q94_154 rfl ?_
            refine j_join (T := Int32) 163 (fun t15 => [.ref 40, .null]) (fun t15 => [.int t15, .ref 40]) (fun t15 => τ14) (fun t15 => ?_) (fun j15 hj15 => ?_)
            · show z_J _ _ _ _ _ _ _ _ _ _ _ _
              refine j_putf (k := 40) (pc' := 166) q94_163 rfl rfl ?_
              refine j_nameS (fun τ16 => ?_)
              refine j_aload_n (pc' := 167) q94_166 rfl (by decide) rfl ?_
              refine j_aload_n (pc' := 168) q94_167 rfl (by decide) rfl ?_
              refine j_getf (k := 40) (pc' := 171) q94_168 rfl rfl ?_
              refine j_iconst (pc' := 172) q94_171 rfl ?_
              refine j_join (T := Int32) 183 (fun t17 => [.null, .null]) (fun t17 => [.int t17, .ref 40]) (fun t17 => τ16) (fun t17 => ?_) (fun j17 hj17 => ?_)
              · show z_J _ _ _ _ _ _ _ _ _ _ _ _
                refine j_putf (k := 40) (pc' := 186) q94_183 rfl rfl ?_
                refine j_nameS (fun τ18 => ?_)
                refine j_goto q94_186 rfl ?_
                exact j_vret q94_194 rfl
              · show z_J _ _ _ _ _ _ _ _ _ _ _ _
                refine j_icmp_ne (pc' := 175) q94_172 rfl (fun c19 => ?_) (fun c19 => ?_)
                · refine j_aload_n (pc' := 176) q94_175 rfl (by decide) rfl ?_
                  refine j_callV0_pi (d := d + 1) (pc' := 179) q94_176 rfl (Nat.le_of_ble_eq_true rfl) (Nat.le_of_ble_eq_true rfl) rfl (t_Tk_numberHere_40 hρ (d + 0) _) (fun r20 => ?_)
                  refine j_goto q94_179 rfl ?_
                  refine j_forget (z_le_n (z_le_n (z_le_nil))) (hj17 r20)
                · refine j_iconst (pc' := 183) q94_182 rfl ?_
                  refine j_forget (z_le_n (z_le_n (z_le_nil))) (hj17 (0 : Int32))
            · show z_J _ _ _ _ _ _ _ _ _ _ _ _
              refine j_icmp_le (pc' := 158) q94_155 rfl (fun c21 => ?_) (fun c21 => ?_)
              · refine j_iconst (pc' := 163) q94_162 rfl ?_
                refine j_forget (z_le_s (z_le_n (z_le_nil))) (hj15 (2 : Int32))
              · refine j_iconst (pc' := 159) q94_158 rfl ?_
                refine j_goto q94_159 rfl ?_
                refine j_forget (z_le_s (z_le_n (z_le_nil))) (hj15 (4 : Int32))
        · refine j_aload_n (pc' := 94) q94_93 rfl (by decide) rfl ?_
          refine j_iconst (pc' := 95) q94_94 rfl ?_
          refine j_putf (k := 40) (pc' := 98) q94_95 rfl rfl ?_
          refine j_nameS (fun τ22 => ?_)
          refine j_aload_n (pc' := 99) q94_98 rfl (by decide) rfl ?_
          refine j_aload_n (pc' := 100) q94_99 rfl (by decide) rfl ?_
          refine j_bipush (pc' := 102) q94_100 rfl ?_
          refine j_bipush (pc' := 104) q94_102 rfl ?_
          refine j_aload_n (pc' := 105) q94_104 rfl (by decide) rfl ?_
          refine j_getf (k := 40) (pc' := 108) q94_105 rfl rfl ?_
          refine j_callV3_pi (d := d + 1) (pc' := 111) q94_108 rfl (Nat.le_of_ble_eq_true rfl) (Nat.le_of_ble_eq_true rfl) rfl (t_Tk_behindAll_40 hρ (d + 0) _ _ _ _) (fun r23 => ?_)
          refine j_putf (k := 40) (pc' := 114) q94_111 rfl rfl ?_
          refine j_nameS (fun τ24 => ?_)
          refine j_goto q94_114 rfl ?_
          exact j_vret q94_194 rfl
    · refine j_aload_n (pc' := 53) q94_52 rfl (by decide) rfl ?_
      refine j_iconst (pc' := 54) q94_53 rfl ?_
      refine j_putf (k := 40) (pc' := 57) q94_54 rfl rfl ?_
      refine j_nameS (fun τ25 => ?_)
      refine j_aload_n (pc' := 58) q94_57 rfl (by decide) rfl ?_
      refine j_aload_n (pc' := 59) q94_58 rfl (by decide) rfl ?_
      refine j_getf (k := 40) (pc' := 62) q94_59 rfl rfl ?_
      refine j_putf (k := 40) (pc' := 65) q94_62 rfl rfl ?_
      refine j_nameS (fun τ26 => ?_)
      refine j_goto q94_65 rfl ?_
      exact j_vret q94_194 rfl
theorem q82_0 : z_fi (z_mi 82) 0 = some (0, .iload_n 0, 0, 0, 0, 0, 0) := rfl
theorem q82_1 : z_fi (z_mi 82) 1 = some (1, .tableswitch 64 0 6 #[43, 46, 49, 52, 55, 58, 61], 43, 0, 0, 0, 0) := rfl
theorem q82_44 : z_fi (z_mi 82) 44 = some (44, .ldc 110, 1, 0, 0, 0, 0) := rfl
theorem q82_46 : z_fi (z_mi 82) 46 = some (46, .areturn, 0, 0, 0, 0, 0) := rfl
theorem q82_47 : z_fi (z_mi 82) 47 = some (47, .ldc 112, 1, 1, 0, 0, 0) := rfl
theorem q82_49 : z_fi (z_mi 82) 49 = some (49, .areturn, 0, 0, 0, 0, 0) := rfl
theorem q82_50 : z_fi (z_mi 82) 50 = some (50, .ldc 114, 1, 2, 0, 0, 0) := rfl
theorem q82_52 : z_fi (z_mi 82) 52 = some (52, .areturn, 0, 0, 0, 0, 0) := rfl
theorem q82_53 : z_fi (z_mi 82) 53 = some (53, .ldc 116, 1, 3, 0, 0, 0) := rfl
theorem q82_55 : z_fi (z_mi 82) 55 = some (55, .areturn, 0, 0, 0, 0, 0) := rfl
theorem q82_56 : z_fi (z_mi 82) 56 = some (56, .ldc 118, 1, 4, 0, 0, 0) := rfl
theorem q82_58 : z_fi (z_mi 82) 58 = some (58, .areturn, 0, 0, 0, 0, 0) := rfl
theorem q82_59 : z_fi (z_mi 82) 59 = some (59, .ldc 120, 1, 5, 0, 0, 0) := rfl
theorem q82_61 : z_fi (z_mi 82) 61 = some (61, .areturn, 0, 0, 0, 0, 0) := rfl
theorem q82_62 : z_fi (z_mi 82) 62 = some (62, .ldc 122, 1, 6, 0, 0, 0) := rfl
theorem q82_64 : z_fi (z_mi 82) 64 = some (64, .areturn, 0, 0, 0, 0, 0) := rfl
theorem q82_65 : z_fi (z_mi 82) 65 = some (65, .ldc 124, 1, 7, 0, 0, 0) := rfl
theorem q82_67 : z_fi (z_mi 82) 67 = some (67, .areturn, 0, 0, 0, 0, 0) := rfl
set_option maxRecDepth 20000 in
set_option maxHeartbeats 4000000 in
theorem t_Tr_lineName {xL : Nat} {xs : Nat → Int32} {ρ : Nat → Nat → Option Nat} (hρ : z_hR ρ) (d : Nat) (a0 : Int32) (σ : zS) : ∀ q, f_Tr_lineName a0 σ = some q → z_ec xL xs ρ (d + 0) 82 [.int a0] σ (em_pr σ q) := by
  refine j_of (W := [.int a0]) (fun L hL => ?_) ?_
  · subst hL; exact z_vl_0 _ 0 rfl
  · unfold f_Tr_lineName
    refine j_iload_n (pc' := 1) q82_0 rfl rfl ?_
    refine j_if (fun c1 => ?_) (fun c1 => ?_)
    · refine j_tin (pc' := 44) (j := 0) (off := 43) q82_1 c1 (Nat.le_of_ble_eq_true rfl) (by decide) rfl (by decide) ?_
      refine j_ldcS (pc' := 46) q82_44 (by decide) rfl ?_
      exact j_paret q82_46 rfl (by decide)
    refine j_if (fun c2 => ?_) (fun c2 => ?_)
    · refine j_tin (pc' := 47) (j := 1) (off := 46) q82_1 c2 (Nat.le_of_ble_eq_true rfl) (by decide) rfl (by decide) ?_
      refine j_ldcS (pc' := 49) q82_47 (by decide) rfl ?_
      exact j_paret q82_49 rfl (by decide)
    refine j_if (fun c3 => ?_) (fun c3 => ?_)
    · refine j_tin (pc' := 50) (j := 2) (off := 49) q82_1 c3 (Nat.le_of_ble_eq_true rfl) (by decide) rfl (by decide) ?_
      refine j_ldcS (pc' := 52) q82_50 (by decide) rfl ?_
      exact j_paret q82_52 rfl (by decide)
    refine j_if (fun c4 => ?_) (fun c4 => ?_)
    · refine j_tin (pc' := 53) (j := 3) (off := 52) q82_1 c4 (Nat.le_of_ble_eq_true rfl) (by decide) rfl (by decide) ?_
      refine j_ldcS (pc' := 55) q82_53 (by decide) rfl ?_
      exact j_paret q82_55 rfl (by decide)
    refine j_if (fun c5 => ?_) (fun c5 => ?_)
    · refine j_tin (pc' := 56) (j := 4) (off := 55) q82_1 c5 (Nat.le_of_ble_eq_true rfl) (by decide) rfl (by decide) ?_
      refine j_ldcS (pc' := 58) q82_56 (by decide) rfl ?_
      exact j_paret q82_58 rfl (by decide)
    refine j_if (fun c6 => ?_) (fun c6 => ?_)
    · refine j_tin (pc' := 59) (j := 5) (off := 58) q82_1 c6 (Nat.le_of_ble_eq_true rfl) (by decide) rfl (by decide) ?_
      refine j_ldcS (pc' := 61) q82_59 (by decide) rfl ?_
      exact j_paret q82_61 rfl (by decide)
    refine j_if (fun c7 => ?_) (fun c7 => ?_)
    · refine j_tin (pc' := 62) (j := 6) (off := 61) q82_1 c7 (Nat.le_of_ble_eq_true rfl) (by decide) rfl (by decide) ?_
      refine j_ldcS (pc' := 64) q82_62 (by decide) rfl ?_
      exact j_paret q82_64 rfl (by decide)
    refine j_tdef (pc' := 65) 7 q82_1 rfl (by decide) (z_noS (z_noS (z_noS (z_noS (z_noS (z_noS (z_noS (z_no0) c1) c2) c3) c4) c5) c6) c7) (by decide) ?_
    refine j_ldcS (pc' := 67) q82_65 (by decide) rfl ?_
    exact j_paret q82_67 rfl (by decide)
set_option maxRecDepth 8000 in
theorem q236_0 : z_fi (z_mi 236) 0 = some (0, .getstatic 38, 1, 0, 0, 1, 0) := rfl
set_option maxRecDepth 8000 in
theorem q236_3 : z_fi (z_mi 236) 3 = some (3, .ifCond .eq 10, 0, 13, 0, 0, 0) := rfl
set_option maxRecDepth 8000 in
theorem q236_6 : z_fi (z_mi 236) 6 = some (6, .aload_n 0, 0, 0, 0, 0, 0) := rfl
set_option maxRecDepth 8000 in
theorem q236_7 : z_fi (z_mi 236) 7 = some (7, .getfield 15, 0, 17, 1, 0, 0) := rfl
set_option maxRecDepth 8000 in
theorem q236_10 : z_fi (z_mi 236) 10 = some (10, .goto 4, 0, 14, 0, 0, 0) := rfl
set_option maxRecDepth 8000 in
theorem q236_13 : z_fi (z_mi 236) 13 = some (13, .iconst 1, 0, 0, 0, 1, 0) := rfl
set_option maxRecDepth 8000 in
theorem q236_14 : z_fi (z_mi 236) 14 = some (14, .ireturn, 0, 0, 0, 0, 0) := rfl
set_option maxRecDepth 20000 in
set_option maxHeartbeats 4000000 in
theorem t_JS_coder {xL : Nat} {xs : Nat → Int32} {ρ : Nat → Nat → Option Nat} (hρ : z_hR ρ) (d : Nat) (a0 : Nat) (σ : zS) (h4_a0 : ¬ a0 = 4001) : ∀ q, f_JS_coder a0 σ = some q → z_ec xL xs ρ (d + 0) 236 [.ref a0] σ (em_pi σ q) := by
  refine j_of (W := [.ref a0]) (fun L hL => ?_) ?_
  · subst hL; exact z_vl_0 _ 0 rfl
  · unfold f_JS_coder
    refine j_gstI (pc' := 3) q236_0 rfl rfl ?_
    refine j_if_eq (pc' := 6) q236_3 rfl (fun c1 => ?_) (fun c1 => ?_)
    · refine j_iconst (pc' := 14) q236_13 rfl ?_
      exact j_pbret q236_14 rfl rfl
    · refine j_aload_n (pc' := 7) q236_6 rfl (h4_a0) rfl ?_
      refine j_if (fun hs2 => ?_) (fun _ => j_none)
      refine j_gets (k := a0) (pc' := 10) q236_7 rfl hs2 rfl ?_
      refine j_goto q236_10 rfl ?_
      exact j_pbret q236_14 rfl rfl
set_option maxRecDepth 8000 in
theorem q234_0 : z_fi (z_mi 234) 0 = some (0, .aload_n 0, 0, 0, 0, 0, 0) := rfl
set_option maxRecDepth 8000 in
theorem q234_1 : z_fi (z_mi 234) 1 = some (1, .getfield 9, 0, 17, 0, 0, 0) := rfl
set_option maxRecDepth 8000 in
theorem q234_4 : z_fi (z_mi 234) 4 = some (4, .arraylength, 0, 0, 0, 0, 0) := rfl
set_option maxRecDepth 8000 in
theorem q234_5 : z_fi (z_mi 234) 5 = some (5, .aload_n 0, 0, 0, 0, 0, 0) := rfl
set_option maxRecDepth 8000 in
theorem q234_6 : z_fi (z_mi 234) 6 = some (6, .invokevirtual 335, 0, 236, 0, 0, 0) := rfl
set_option maxRecDepth 8000 in
theorem q234_9 : z_fi (z_mi 234) 9 = some (9, .ishr, 0, 0, 0, 0, 0) := rfl
set_option maxRecDepth 8000 in
theorem q234_10 : z_fi (z_mi 234) 10 = some (10, .ireturn, 0, 0, 0, 0, 0) := rfl
set_option maxRecDepth 20000 in
set_option maxHeartbeats 4000000 in
theorem t_JS_length {xL : Nat} {xs : Nat → Int32} {ρ : Nat → Nat → Option Nat} (hρ : z_hR ρ) (d : Nat) (a0 : Nat) (σ : zS) (h4_a0 : ¬ a0 = 4001) : ∀ q, f_JS_length a0 σ = some q → z_ec xL xs ρ (d + 1) 234 [.ref a0] σ (em_pi σ q) := by
  refine j_of (W := [.ref a0]) (fun L hL => ?_) ?_
  · subst hL; exact z_vl_0 _ 0 rfl
  · unfold f_JS_length
    refine j_aload_n (pc' := 1) q234_0 rfl (h4_a0) rfl ?_
    refine j_if (fun hs1 => ?_) (fun _ => j_none)
    refine j_gets (k := a0) (pc' := 4) q234_1 rfl hs1 rfl ?_
    refine j_if (fun hl2 => ?_) (fun _ => j_none)
    refine j_slen (k := (a0 + 1000)) (pc' := 5) q234_4 hl2 rfl ?_
    refine j_aload_n (pc' := 6) q234_5 rfl (h4_a0) rfl ?_
    refine j_if (fun hs4 => ?_) (fun _ => j_none)
    refine j_callV0_pi (d := d + 0) (pc' := 9) q234_6 (z_rc_s rfl hs4) (Nat.le_of_ble_eq_true rfl) (Nat.le_of_ble_eq_true rfl) rfl (t_JS_coder hρ (d + 0) _ _ (h4_a0)) (fun r3 => ?_)
    refine j_ishr (pc' := 10) q234_9 rfl ?_
    exact j_piret q234_10 rfl
set_option maxRecDepth 8000 in
theorem q237_0 : z_fi (z_mi 237) 0 = some (0, .getstatic 38, 1, 0, 0, 1, 0) := rfl
set_option maxRecDepth 8000 in
theorem q237_3 : z_fi (z_mi 237) 3 = some (3, .ifCond .eq 14, 0, 17, 0, 0, 0) := rfl
set_option maxRecDepth 8000 in
theorem q237_6 : z_fi (z_mi 237) 6 = some (6, .aload_n 0, 0, 0, 0, 0, 0) := rfl
set_option maxRecDepth 8000 in
theorem q237_7 : z_fi (z_mi 237) 7 = some (7, .getfield 15, 0, 17, 1, 0, 0) := rfl
set_option maxRecDepth 8000 in
theorem q237_10 : z_fi (z_mi 237) 10 = some (10, .ifCond .ne 7, 0, 17, 0, 0, 0) := rfl
set_option maxRecDepth 8000 in
theorem q237_13 : z_fi (z_mi 237) 13 = some (13, .iconst 1, 0, 0, 0, 1, 0) := rfl
set_option maxRecDepth 8000 in
theorem q237_14 : z_fi (z_mi 237) 14 = some (14, .goto 4, 0, 18, 0, 0, 0) := rfl
set_option maxRecDepth 8000 in
theorem q237_17 : z_fi (z_mi 237) 17 = some (17, .iconst 0, 0, 0, 0, 0, 0) := rfl
set_option maxRecDepth 8000 in
theorem q237_18 : z_fi (z_mi 237) 18 = some (18, .ireturn, 0, 0, 0, 0, 0) := rfl
set_option maxRecDepth 20000 in
set_option maxHeartbeats 4000000 in
theorem t_JS_isLatin1 {xL : Nat} {xs : Nat → Int32} {ρ : Nat → Nat → Option Nat} (hρ : z_hR ρ) (d : Nat) (a0 : Nat) (σ : zS) (h4_a0 : ¬ a0 = 4001) : ∀ q, f_JS_isLatin1 a0 σ = some q → z_ec xL xs ρ (d + 0) 237 [.ref a0] σ (em_pi σ q) := by
  refine j_of (W := [.ref a0]) (fun L hL => ?_) ?_
  · subst hL; exact z_vl_0 _ 0 rfl
  · unfold f_JS_isLatin1
    refine j_gstI (pc' := 3) q237_0 rfl rfl ?_
    refine j_if_eq (pc' := 6) q237_3 rfl (fun c1 => ?_) (fun c1 => ?_)
    · refine j_iconst (pc' := 18) q237_17 rfl ?_
      exact j_pzret q237_18 rfl (Or.inl rfl)
    · refine j_aload_n (pc' := 7) q237_6 rfl (h4_a0) rfl ?_
      refine j_if (fun hs2 => ?_) (fun _ => j_none)
      refine j_gets (k := a0) (pc' := 10) q237_7 rfl hs2 rfl ?_
      refine j_if_ne (pc' := 13) q237_10 rfl (fun c3 => ?_) (fun c3 => ?_)
      · refine j_iconst (pc' := 14) q237_13 rfl ?_
        refine j_goto q237_14 rfl ?_
        exact j_pzret q237_18 rfl (Or.inr rfl)
      · refine j_iconst (pc' := 18) q237_17 rfl ?_
        exact j_pzret q237_18 rfl (Or.inl rfl)
set_option maxRecDepth 8000 in
theorem q241_0 : z_fi (z_mi 241) 0 = some (0, .iload_n 0, 0, 0, 0, 0, 0) := rfl
set_option maxRecDepth 8000 in
theorem q241_1 : z_fi (z_mi 241) 1 = some (1, .ifCond .lt 8, 0, 9, 0, 0, 0) := rfl
set_option maxRecDepth 8000 in
theorem q241_4 : z_fi (z_mi 241) 4 = some (4, .iload_n 0, 0, 0, 0, 0, 0) := rfl
set_option maxRecDepth 8000 in
theorem q241_5 : z_fi (z_mi 241) 5 = some (5, .iload_n 1, 0, 0, 0, 0, 0) := rfl
set_option maxRecDepth 8000 in
theorem q241_6 : z_fi (z_mi 241) 6 = some (6, .if_icmp .lt 10, 0, 16, 0, 0, 0) := rfl
set_option maxRecDepth 8000 in
theorem q241_16 : z_fi (z_mi 241) 16 = some (16, .iload_n 0, 0, 0, 0, 0, 0) := rfl
set_option maxRecDepth 8000 in
theorem q241_17 : z_fi (z_mi 241) 17 = some (17, .ireturn, 0, 0, 0, 0, 0) := rfl
set_option maxRecDepth 20000 in
set_option maxHeartbeats 4000000 in
theorem t_JP_checkIndex_4001 {xL : Nat} {xs : Nat → Int32} {ρ : Nat → Nat → Option Nat} (hρ : z_hR ρ) (d : Nat) (a0 : Int32) (a1 : Int32) (σ : zS) : ∀ q, f_JP_checkIndex_4001 a0 a1 σ = some q → z_ec xL xs ρ (d + 0) 241 [.int a0, .int a1, .ref 4001] σ (em_pi σ q) := by
  refine j_of (W := [.int a0, .int a1, .ref 4001]) (fun L hL => ?_) ?_
  · subst hL; exact z_vl_0 _ 0 rfl
  · unfold f_JP_checkIndex_4001
    refine j_iload_n (pc' := 1) q241_0 rfl rfl ?_
    refine j_join (T := Unit) 9 (fun t1 => [.int a0, .int a1, .ref 4001]) (fun t1 => []) (fun t1 => σ) (fun t1 => ?_) (fun j1 hj1 => ?_)
    · show z_J _ _ _ _ _ _ _ _ _ _ _ _
      exact j_none
    · show z_J _ _ _ _ _ _ _ _ _ _ _ _
      refine j_if_lt (pc' := 4) q241_1 rfl (fun c2 => ?_) (fun c2 => ?_)
      · exact j_none
      · refine j_iload_n (pc' := 5) q241_4 rfl rfl ?_
        refine j_iload_n (pc' := 6) q241_5 rfl rfl ?_
        refine j_icmp_lt (pc' := 9) q241_6 rfl (fun c3 => ?_) (fun c3 => ?_)
        · refine j_iload_n (pc' := 17) q241_16 rfl rfl ?_
          exact j_piret q241_17 rfl
        · exact j_none
set_option maxRecDepth 8000 in
theorem q238_0 : z_fi (z_mi 238) 0 = some (0, .iload_n 0, 0, 0, 0, 0, 0) := rfl
set_option maxRecDepth 8000 in
theorem q238_1 : z_fi (z_mi 238) 1 = some (1, .iload_n 1, 0, 0, 0, 0, 0) := rfl
set_option maxRecDepth 8000 in
theorem q238_2 : z_fi (z_mi 238) 2 = some (2, .getstatic 1053, 2, 0, 0, 0, 0) := rfl
set_option maxRecDepth 8000 in
theorem q238_5 : z_fi (z_mi 238) 5 = some (5, .invokestatic 1059, 1, 241, 3, 0, 0) := rfl
set_option maxRecDepth 8000 in
theorem q238_8 : z_fi (z_mi 238) 8 = some (8, .pop, 0, 0, 0, 0, 0) := rfl
set_option maxRecDepth 8000 in
theorem q238_9 : z_fi (z_mi 238) 9 = some (9, .return_, 0, 0, 0, 0, 0) := rfl
set_option maxRecDepth 20000 in
set_option maxHeartbeats 4000000 in
theorem t_JS_checkIndex {xL : Nat} {xs : Nat → Int32} {ρ : Nat → Nat → Option Nat} (hρ : z_hR ρ) (d : Nat) (a0 : Int32) (a1 : Int32) (σ : zS) : ∀ q, f_JS_checkIndex a0 a1 σ = some q → z_ec xL xs ρ (d + 1) 238 [.int a0, .int a1] σ (em_pv σ q) := by
  refine j_of (W := [.int a0, .int a1]) (fun L hL => ?_) ?_
  · subst hL; exact z_vl_0 _ 0 rfl
  · unfold f_JS_checkIndex
    refine j_iload_n (pc' := 1) q238_0 rfl rfl ?_
    refine j_iload_n (pc' := 2) q238_1 rfl rfl ?_
    refine j_gstF (pc' := 5) q238_2 rfl rfl ?_
    refine j_callS3_pi (d := d + 0) (pc' := 8) q238_5 (Or.inl rfl) (Nat.le_of_ble_eq_true rfl) (Nat.le_of_ble_eq_true rfl) rfl (t_JP_checkIndex_4001 hρ (d + 0) _ _ _) (fun r1 => ?_)
    refine j_pop (pc' := 9) q238_8 rfl rfl ?_
    exact j_pvret q238_9 rfl
set_option maxRecDepth 8000 in
theorem q239_0 : z_fi (z_mi 239) 0 = some (0, .iload_n 1, 0, 0, 0, 0, 0) := rfl
set_option maxRecDepth 8000 in
theorem q239_1 : z_fi (z_mi 239) 1 = some (1, .aload_n 0, 0, 0, 0, 0, 0) := rfl
set_option maxRecDepth 8000 in
theorem q239_2 : z_fi (z_mi 239) 2 = some (2, .arraylength, 0, 0, 0, 0, 0) := rfl
set_option maxRecDepth 8000 in
theorem q239_3 : z_fi (z_mi 239) 3 = some (3, .invokestatic 9, 1, 238, 2, 0, 0) := rfl
set_option maxRecDepth 8000 in
theorem q239_6 : z_fi (z_mi 239) 6 = some (6, .aload_n 0, 0, 0, 0, 0, 0) := rfl
set_option maxRecDepth 8000 in
theorem q239_7 : z_fi (z_mi 239) 7 = some (7, .iload_n 1, 0, 0, 0, 0, 0) := rfl
set_option maxRecDepth 8000 in
theorem q239_8 : z_fi (z_mi 239) 8 = some (8, .baload, 0, 0, 0, 0, 0) := rfl
set_option maxRecDepth 8000 in
theorem q239_9 : z_fi (z_mi 239) 9 = some (9, .sipush 255, 0, 0, 0, 255, 0) := rfl
set_option maxRecDepth 8000 in
theorem q239_12 : z_fi (z_mi 239) 12 = some (12, .iand, 0, 0, 0, 0, 0) := rfl
set_option maxRecDepth 8000 in
theorem q239_13 : z_fi (z_mi 239) 13 = some (13, .i2c, 0, 0, 0, 0, 0) := rfl
set_option maxRecDepth 8000 in
theorem q239_14 : z_fi (z_mi 239) 14 = some (14, .ireturn, 0, 0, 0, 0, 0) := rfl
set_option maxRecDepth 20000 in
set_option maxHeartbeats 4000000 in
theorem t_JL_charAt {xL : Nat} {xs : Nat → Int32} {ρ : Nat → Nat → Option Nat} (hρ : z_hR ρ) (d : Nat) (a0 : Nat) (a1 : Int32) (σ : zS) (h4_a0 : ¬ a0 = 4001) : ∀ q, f_JL_charAt a0 a1 σ = some q → z_ec xL xs ρ (d + 2) 239 [.ref a0, .int a1] σ (em_pi σ q) := by
  refine j_of (W := [.ref a0, .int a1]) (fun L hL => ?_) ?_
  · subst hL; exact z_vl_0 _ 0 rfl
  · unfold f_JL_charAt
    refine j_iload_n (pc' := 1) q239_0 rfl rfl ?_
    refine j_aload_n (pc' := 2) q239_1 rfl (h4_a0) rfl ?_
    refine j_if (fun hl1 => ?_) (fun _ => j_none)
    refine j_slen (k := a0) (pc' := 3) q239_2 hl1 rfl ?_
    refine j_callS2_pv (d := d + 1) (pc' := 6) q239_3 (Or.inl rfl) (Nat.le_of_ble_eq_true rfl) (Nat.le_of_ble_eq_true rfl) rfl (t_JS_checkIndex hρ (d + 0) _ _ _) (fun r2 => ?_)
    refine j_aload_n (pc' := 7) q239_6 rfl (h4_a0) rfl ?_
    refine j_iload_n (pc' := 8) q239_7 rfl rfl ?_
    refine j_if (fun hl3 => ?_) (fun _ => j_none)
    refine j_sald (k := a0) (pc' := 9) q239_8 ⟨hl3.1.1, hl3.1.2, rfl⟩ hl3.2 rfl ?_
    refine j_sipush (pc' := 12) q239_9 rfl ?_
    refine j_iand (pc' := 13) q239_12 rfl ?_
    refine j_i2c (pc' := 14) q239_13 rfl ?_
    exact j_pcret q239_14 rfl (pk_nc _)
set_option maxRecDepth 8000 in
theorem q235_0 : z_fi (z_mi 235) 0 = some (0, .aload_n 0, 0, 0, 0, 0, 0) := rfl
set_option maxRecDepth 8000 in
theorem q235_1 : z_fi (z_mi 235) 1 = some (1, .invokevirtual 492, 0, 237, 0, 0, 0) := rfl
set_option maxRecDepth 8000 in
theorem q235_4 : z_fi (z_mi 235) 4 = some (4, .ifCond .eq 12, 0, 16, 0, 0, 0) := rfl
set_option maxRecDepth 8000 in
theorem q235_7 : z_fi (z_mi 235) 7 = some (7, .aload_n 0, 0, 0, 0, 0, 0) := rfl
set_option maxRecDepth 8000 in
theorem q235_8 : z_fi (z_mi 235) 8 = some (8, .getfield 9, 0, 17, 0, 0, 0) := rfl
set_option maxRecDepth 8000 in
theorem q235_11 : z_fi (z_mi 235) 11 = some (11, .iload_n 1, 0, 0, 0, 0, 0) := rfl
set_option maxRecDepth 8000 in
theorem q235_12 : z_fi (z_mi 235) 12 = some (12, .invokestatic 495, 1, 239, 2, 0, 0) := rfl
set_option maxRecDepth 8000 in
theorem q235_15 : z_fi (z_mi 235) 15 = some (15, .ireturn, 0, 0, 0, 0, 0) := rfl
set_option maxRecDepth 20000 in
set_option maxHeartbeats 4000000 in
theorem t_JS_charAt {xL : Nat} {xs : Nat → Int32} {ρ : Nat → Nat → Option Nat} (hρ : z_hR ρ) (d : Nat) (a0 : Nat) (a1 : Int32) (σ : zS) (h4_a0 : ¬ a0 = 4001) : ∀ q, f_JS_charAt a0 a1 σ = some q → z_ec xL xs ρ (d + 3) 235 [.ref a0, .int a1] σ (em_pi σ q) := by
  refine j_of (W := [.ref a0, .int a1]) (fun L hL => ?_) ?_
  · subst hL; exact z_vl_0 _ 0 rfl
  · unfold f_JS_charAt
    refine j_aload_n (pc' := 1) q235_0 rfl (h4_a0) rfl ?_
    refine j_if (fun hs2 => ?_) (fun _ => j_none)
    refine j_callV0_pi (d := d + 2) (pc' := 4) q235_1 (z_rc_s rfl hs2) (Nat.le_of_ble_eq_true rfl) (Nat.le_of_ble_eq_true rfl) rfl (t_JS_isLatin1 hρ (d + 2) _ _ (h4_a0)) (fun r1 => ?_)
    refine j_if_eq (pc' := 7) q235_4 rfl (fun c3 => ?_) (fun c3 => ?_)
    · exact j_none
    · refine j_aload_n (pc' := 8) q235_7 rfl (h4_a0) rfl ?_
      refine j_if (fun hs4 => ?_) (fun _ => j_none)
      refine j_gets (k := a0) (pc' := 11) q235_8 rfl hs4 rfl ?_
      refine j_iload_n (pc' := 12) q235_11 rfl rfl ?_
      refine j_callS2_pi (d := d + 2) (pc' := 15) q235_12 (Or.inl rfl) (Nat.le_of_ble_eq_true rfl) (Nat.le_of_ble_eq_true rfl) rfl (t_JL_charAt hρ (d + 0) _ _ _ (by omega)) (fun r5 => ?_)
      refine j_if (fun hb6 => ?_) (fun _ => j_none)
      exact j_pcret q235_15 rfl hb6
theorem q97_0 : z_fi (z_mi 97) 0 = some (0, .aload_n 0, 0, 0, 0, 0, 0) := rfl
theorem q97_1 : z_fi (z_mi 97) 1 = some (1, .getfield 33, 0, 8, 1, 0, 0) := rfl
theorem q97_4 : z_fi (z_mi 97) 4 = some (4, .iconst 1, 0, 0, 0, 1, 0) := rfl
theorem q97_5 : z_fi (z_mi 97) 5 = some (5, .if_icmp .ne 19, 0, 24, 0, 0, 0) := rfl
theorem q97_8 : z_fi (z_mi 97) 8 = some (8, .aload_n 0, 0, 0, 0, 0, 0) := rfl
theorem q97_9 : z_fi (z_mi 97) 9 = some (9, .getfield 13, 0, 8, 4, 0, 0) := rfl
theorem q97_12 : z_fi (z_mi 97) 12 = some (12, .aload_n 0, 0, 0, 0, 0, 0) := rfl
theorem q97_13 : z_fi (z_mi 97) 13 = some (13, .getfield 21, 0, 8, 2, 0, 0) := rfl
theorem q97_16 : z_fi (z_mi 97) 16 = some (16, .isub, 0, 0, 0, 0, 0) := rfl
theorem q97_17 : z_fi (z_mi 97) 17 = some (17, .aload_n 1, 0, 0, 0, 0, 0) := rfl
theorem q97_18 : z_fi (z_mi 97) 18 = some (18, .invokevirtual 49, 0, 234, 0, 0, 0) := rfl
theorem q97_21 : z_fi (z_mi 97) 21 = some (21, .if_icmp .eq 5, 0, 26, 0, 0, 0) := rfl
theorem q97_24 : z_fi (z_mi 97) 24 = some (24, .iconst 0, 0, 0, 0, 0, 0) := rfl
theorem q97_25 : z_fi (z_mi 97) 25 = some (25, .ireturn, 0, 0, 0, 0, 0) := rfl
theorem q97_26 : z_fi (z_mi 97) 26 = some (26, .iconst 0, 0, 0, 0, 0, 0) := rfl
theorem q97_27 : z_fi (z_mi 97) 27 = some (27, .istore_n 2, 0, 0, 0, 0, 0) := rfl
theorem q97_28 : z_fi (z_mi 97) 28 = some (28, .iload_n 2, 0, 0, 0, 0, 0) := rfl
theorem q97_29 : z_fi (z_mi 97) 29 = some (29, .aload_n 1, 0, 0, 0, 0, 0) := rfl
theorem q97_30 : z_fi (z_mi 97) 30 = some (30, .invokevirtual 49, 0, 234, 0, 0, 0) := rfl
theorem q97_33 : z_fi (z_mi 97) 33 = some (33, .if_icmp .ge 32, 0, 65, 0, 0, 0) := rfl
theorem q97_36 : z_fi (z_mi 97) 36 = some (36, .aload_n 0, 0, 0, 0, 0, 0) := rfl
theorem q97_37 : z_fi (z_mi 97) 37 = some (37, .getfield 7, 0, 8, 0, 0, 0) := rfl
theorem q97_40 : z_fi (z_mi 97) 40 = some (40, .aload_n 0, 0, 0, 0, 0, 0) := rfl
theorem q97_41 : z_fi (z_mi 97) 41 = some (41, .getfield 21, 0, 8, 2, 0, 0) := rfl
theorem q97_44 : z_fi (z_mi 97) 44 = some (44, .iload_n 2, 0, 0, 0, 0, 0) := rfl
theorem q97_45 : z_fi (z_mi 97) 45 = some (45, .iadd, 0, 0, 0, 0, 0) := rfl
theorem q97_46 : z_fi (z_mi 97) 46 = some (46, .invokevirtual 24, 0, 76, 1, 0, 0) := rfl
theorem q97_49 : z_fi (z_mi 97) 49 = some (49, .aload_n 1, 0, 0, 0, 0, 0) := rfl
theorem q97_50 : z_fi (z_mi 97) 50 = some (50, .iload_n 2, 0, 0, 0, 0, 0) := rfl
theorem q97_51 : z_fi (z_mi 97) 51 = some (51, .invokevirtual 53, 0, 235, 1, 0, 0) := rfl
theorem q97_54 : z_fi (z_mi 97) 54 = some (54, .if_icmp .eq 5, 0, 59, 0, 0, 0) := rfl
theorem q97_57 : z_fi (z_mi 97) 57 = some (57, .iconst 0, 0, 0, 0, 0, 0) := rfl
theorem q97_58 : z_fi (z_mi 97) 58 = some (58, .ireturn, 0, 0, 0, 0, 0) := rfl
theorem q97_59 : z_fi (z_mi 97) 59 = some (59, .iinc 2 1, 0, 0, 0, 1, 0) := rfl
theorem q97_62 : z_fi (z_mi 97) 62 = some (62, .goto (-34), 0, 28, 0, 0, 0) := rfl
theorem q97_65 : z_fi (z_mi 97) 65 = some (65, .iconst 1, 0, 0, 0, 1, 0) := rfl
theorem q97_66 : z_fi (z_mi 97) 66 = some (66, .ireturn, 0, 0, 0, 0, 0) := rfl
set_option maxRecDepth 20000 in
set_option maxHeartbeats 4000000 in
theorem t_Tk_isName_40 {xL : Nat} {xs : Nat → Int32} {ρ : Nat → Nat → Option Nat} (hρ : z_hR ρ) (d : Nat) (a1 : Nat) (σ : zS) (h4_a1 : ¬ a1 = 4001) : ∀ q, f_Tk_isName_40 a1 σ = some q → z_ec xL xs ρ (d + 4) 97 [.ref 40, .ref a1] σ (em_pi σ q) := by
  refine j_of (W := [.ref 40, .ref a1, .null]) (fun L hL => ?_) ?_
  · subst hL; exact z_vl_0 _ 1 rfl
  · unfold f_Tk_isName_40
    refine j_aload_n (pc' := 1) q97_0 rfl (by decide) rfl ?_
    refine j_getf (k := 40) (pc' := 4) q97_1 rfl rfl ?_
    refine j_iconst (pc' := 5) q97_4 rfl ?_
    refine j_icmp_ne (pc' := 8) q97_5 rfl (fun c1 => ?_) (fun c1 => ?_)
    · refine j_aload_n (pc' := 9) q97_8 rfl (by decide) rfl ?_
      refine j_getf (k := 40) (pc' := 12) q97_9 rfl rfl ?_
      refine j_aload_n (pc' := 13) q97_12 rfl (by decide) rfl ?_
      refine j_getf (k := 40) (pc' := 16) q97_13 rfl rfl ?_
      refine j_isub (pc' := 17) q97_16 rfl ?_
      refine j_aload_n (pc' := 18) q97_17 rfl (h4_a1) rfl ?_
      refine j_if (fun hs3 => ?_) (fun _ => j_none)
      refine j_callV0_pi (d := d + 3) (pc' := 21) q97_18 (z_rc_s rfl hs3) (Nat.le_of_ble_eq_true rfl) (Nat.le_of_ble_eq_true rfl) rfl (t_JS_length hρ (d + 2) _ _ (h4_a1)) (fun r2 => ?_)
      refine j_icmp_eq (pc' := 24) q97_21 rfl (fun c4 => ?_) (fun c4 => ?_)
      · refine j_iconst (pc' := 27) q97_26 rfl ?_
        refine j_istore2 (pc' := 28) q97_27 rfl (Nat.le_of_ble_eq_true rfl) rfl ?_
        refine j_forget (V' := [.ref 40, .ref a1, .int (0 : Int32)]) (z_le_s (z_le_s (z_le_s (z_le_nil)))) ?_
        refine j_loopX (S := Int32) (E := Unit) Sum.inl 65 (fun s5 => [.ref 40, .ref a1, .int s5]) (fun s5 => σ) (fun b5 => [.null, .null, .null]) (fun b5 => σ) (fun b5 => ?_) (fun R5 hR5 hX5 s5 => ?_) (0 : Int32)
        · show z_J _ _ _ _ _ _ _ _ _ _ _ _
          refine j_iconst (pc' := 66) q97_65 rfl ?_
          exact j_pzret q97_66 rfl (Or.inr rfl)
        · show z_J _ _ _ _ _ _ _ _ _ _ _ _
          refine j_iload_n (pc' := 29) q97_28 rfl rfl ?_
          refine j_aload_n (pc' := 30) q97_29 rfl (h4_a1) rfl ?_
          refine j_if (fun hs7 => ?_) (fun _ => j_none)
          refine j_callV0_pi (d := d + 3) (pc' := 33) q97_30 (z_rc_s rfl hs7) (Nat.le_of_ble_eq_true rfl) (Nat.le_of_ble_eq_true rfl) rfl (t_JS_length hρ (d + 2) _ _ (h4_a1)) (fun r6 => ?_)
          refine j_icmp_ge (pc' := 36) q97_33 rfl (fun c8 => ?_) (fun c8 => ?_)
          · exact j_exit (j_forget (z_le_n (z_le_n (z_le_n (z_le_nil)))) (hX5 ()))
          · refine j_aload_n (pc' := 37) q97_36 rfl (by decide) rfl ?_
            refine j_getr (k := 40) (q := 35) (pc' := 40) q97_37 rfl (hρ 40 0 35 rfl) rfl ?_
            refine j_aload_n (pc' := 41) q97_40 rfl (by decide) rfl ?_
            refine j_getf (k := 40) (pc' := 44) q97_41 rfl rfl ?_
            refine j_iload_n (pc' := 45) q97_44 rfl rfl ?_
            refine j_iadd (pc' := 46) q97_45 rfl ?_
            refine j_callV1_pi (d := d + 3) (pc' := 49) q97_46 rfl (Nat.le_of_ble_eq_true rfl) (Nat.le_of_ble_eq_true rfl) rfl (t_Tp_at_35 hρ (d + 3) _ _) (fun r9 => ?_)
            refine j_aload_n (pc' := 50) q97_49 rfl (h4_a1) rfl ?_
            refine j_iload_n (pc' := 51) q97_50 rfl rfl ?_
            refine j_if (fun hs11 => ?_) (fun _ => j_none)
            refine j_callV1_pi (d := d + 3) (pc' := 54) q97_51 (z_rc_s rfl hs11) (Nat.le_of_ble_eq_true rfl) (Nat.le_of_ble_eq_true rfl) rfl (t_JS_charAt hρ (d + 0) _ _ _ (h4_a1)) (fun r10 => ?_)
            refine j_icmp_eq (pc' := 57) q97_54 rfl (fun c12 => ?_) (fun c12 => ?_)
            · refine j_iinc2 (pc' := 62) q97_59 rfl (Nat.le_of_ble_eq_true rfl) rfl ?_
              refine j_goto q97_62 rfl ?_
              exact j_again (j_forget (z_le_s (z_le_s (z_le_s (z_le_nil)))) (hR5 (s5 + (1 : Int32))))
            · refine j_iconst (pc' := 58) q97_57 rfl ?_
              refine j_exit ?_
              exact j_pzret q97_58 rfl (Or.inl rfl)
      · refine j_iconst (pc' := 25) q97_24 rfl ?_
        exact j_pzret q97_25 rfl (Or.inl rfl)
    · refine j_iconst (pc' := 25) q97_24 rfl ?_
      exact j_pzret q97_25 rfl (Or.inl rfl)
theorem q81_0 : z_fi (z_mi 81) 0 = some (0, .iconst 0, 0, 0, 0, 0, 0) := rfl
theorem q81_1 : z_fi (z_mi 81) 1 = some (1, .istore_n 1, 0, 0, 0, 0, 0) := rfl
theorem q81_2 : z_fi (z_mi 81) 2 = some (2, .iload_n 1, 0, 0, 0, 0, 0) := rfl
theorem q81_3 : z_fi (z_mi 81) 3 = some (3, .bipush 8, 0, 0, 0, 8, 0) := rfl
theorem q81_5 : z_fi (z_mi 81) 5 = some (5, .if_icmp .ge 25, 0, 30, 0, 0, 0) := rfl
theorem q81_8 : z_fi (z_mi 81) 8 = some (8, .aload_n 0, 0, 0, 0, 0, 0) := rfl
theorem q81_9 : z_fi (z_mi 81) 9 = some (9, .getfield 31, 0, 7, 1, 0, 0) := rfl
theorem q81_12 : z_fi (z_mi 81) 12 = some (12, .iload_n 1, 0, 0, 0, 0, 0) := rfl
theorem q81_13 : z_fi (z_mi 81) 13 = some (13, .invokestatic 102, 1, 82, 1, 0, 0) := rfl
theorem q81_16 : z_fi (z_mi 81) 16 = some (16, .invokevirtual 106, 0, 97, 1, 0, 0) := rfl
theorem q81_19 : z_fi (z_mi 81) 19 = some (19, .ifCond .eq 5, 0, 24, 0, 0, 0) := rfl
theorem q81_22 : z_fi (z_mi 81) 22 = some (22, .iload_n 1, 0, 0, 0, 0, 0) := rfl
theorem q81_23 : z_fi (z_mi 81) 23 = some (23, .ireturn, 0, 0, 0, 0, 0) := rfl
theorem q81_24 : z_fi (z_mi 81) 24 = some (24, .iinc 1 1, 0, 0, 0, 1, 0) := rfl
theorem q81_27 : z_fi (z_mi 81) 27 = some (27, .goto (-25), 0, 2, 0, 0, 0) := rfl
theorem q81_30 : z_fi (z_mi 81) 30 = some (30, .bipush (-4), 0, 0, 0, (-4), 0) := rfl
theorem q81_32 : z_fi (z_mi 81) 32 = some (32, .ireturn, 0, 0, 0, 0, 0) := rfl
set_option maxRecDepth 20000 in
set_option maxHeartbeats 4000000 in
theorem t_Tr_lineNamed_37 {xL : Nat} {xs : Nat → Int32} {ρ : Nat → Nat → Option Nat} (hρ : z_hR ρ) (d : Nat)  (σ : zS) : ∀ q, f_Tr_lineNamed_37  σ = some q → z_ec xL xs ρ (d + 5) 81 [.ref 37] σ (em_pi σ q) := by
  refine j_of (W := [.ref 37, .null]) (fun L hL => ?_) ?_
  · subst hL; exact z_vl_0 _ 1 rfl
  · unfold f_Tr_lineNamed_37
    refine j_iconst (pc' := 1) q81_0 rfl ?_
    refine j_istore1 (pc' := 2) q81_1 rfl (Nat.le_of_ble_eq_true rfl) rfl ?_
    refine j_forget (V' := [.ref 37, .int (0 : Int32)]) (z_le_s (z_le_s (z_le_nil))) ?_
    refine j_loopX (S := Int32) (E := Unit) Sum.inl 30 (fun s1 => [.ref 37, .int s1]) (fun s1 => σ) (fun b1 => [.null, .null]) (fun b1 => σ) (fun b1 => ?_) (fun R1 hR1 hX1 s1 => ?_) (0 : Int32)
    · show z_J _ _ _ _ _ _ _ _ _ _ _ _
      refine j_bipush (pc' := 32) q81_30 rfl ?_
      exact j_piret q81_32 rfl
    · show z_J _ _ _ _ _ _ _ _ _ _ _ _
      refine j_iload_n (pc' := 3) q81_2 rfl rfl ?_
      refine j_bipush (pc' := 5) q81_3 rfl ?_
      refine j_icmp_ge (pc' := 8) q81_5 rfl (fun c2 => ?_) (fun c2 => ?_)
      · exact j_exit (j_forget (z_le_n (z_le_n (z_le_nil))) (hX1 ()))
      · refine j_aload_n (pc' := 9) q81_8 rfl (by decide) rfl ?_
        refine j_getr (k := 37) (q := 40) (pc' := 12) q81_9 rfl (hρ 37 1 40 rfl) rfl ?_
        refine j_iload_n (pc' := 13) q81_12 rfl rfl ?_
        refine j_callS1_pr (d := d + 4) (pc' := 16) q81_13 (Or.inl rfl) (Nat.le_of_ble_eq_true rfl) (Nat.le_of_ble_eq_true rfl) rfl (t_Tr_lineName hρ (d + 4) _ _) (fun r3 => ?_)
        refine j_if (fun hs4 => ?_) (fun _ => j_none)
        refine j_callV1_pi (d := d + 4) (pc' := 19) q81_16 rfl (Nat.le_of_ble_eq_true rfl) (Nat.le_of_ble_eq_true rfl) rfl (t_Tk_isName_40 hρ (d + 0) _ _ (by have := hs4.1; have := hs4.2; omega)) (fun r5 => ?_)
        refine j_if_eq (pc' := 22) q81_19 rfl (fun c6 => ?_) (fun c6 => ?_)
        · refine j_iinc1 (pc' := 27) q81_24 rfl (Nat.le_of_ble_eq_true rfl) rfl ?_
          refine j_goto q81_27 rfl ?_
          exact j_again (j_forget (z_le_s (z_le_s (z_le_nil))) (hR1 (s1 + (1 : Int32))))
        · refine j_iload_n (pc' := 23) q81_22 rfl rfl ?_
          refine j_exit ?_
          exact j_piret q81_23 rfl
theorem q86_0 : z_fi (z_mi 86) 0 = some (0, .iload_n 1, 0, 0, 0, 0, 0) := rfl
theorem q86_1 : z_fi (z_mi 86) 1 = some (1, .iconst 0, 0, 0, 0, 0, 0) := rfl
theorem q86_2 : z_fi (z_mi 86) 2 = some (2, .bipush 7, 0, 0, 0, 7, 0) := rfl
theorem q86_4 : z_fi (z_mi 86) 4 = some (4, .invokestatic 141, 4, 99, 3, 0, 0) := rfl
theorem q86_7 : z_fi (z_mi 86) 7 = some (7, .ifCond .eq 20, 0, 27, 0, 0, 0) := rfl
theorem q86_10 : z_fi (z_mi 86) 10 = some (10, .aload_n 0, 0, 0, 0, 0, 0) := rfl
theorem q86_11 : z_fi (z_mi 86) 11 = some (11, .getfield 11, 0, 7, 3, 0, 0) := rfl
theorem q86_14 : z_fi (z_mi 86) 14 = some (14, .iload_n 1, 0, 0, 0, 0, 0) := rfl
theorem q86_15 : z_fi (z_mi 86) 15 = some (15, .iaload, 0, 0, 0, 0, 0) := rfl
theorem q86_16 : z_fi (z_mi 86) 16 = some (16, .iload_n 2, 0, 0, 0, 0, 0) := rfl
theorem q86_17 : z_fi (z_mi 86) 17 = some (17, .iushr, 0, 0, 0, 0, 0) := rfl
theorem q86_18 : z_fi (z_mi 86) 18 = some (18, .iconst 1, 0, 0, 0, 1, 0) := rfl
theorem q86_19 : z_fi (z_mi 86) 19 = some (19, .iand, 0, 0, 0, 0, 0) := rfl
theorem q86_20 : z_fi (z_mi 86) 20 = some (20, .ifCond .eq 7, 0, 27, 0, 0, 0) := rfl
theorem q86_23 : z_fi (z_mi 86) 23 = some (23, .iconst 1, 0, 0, 0, 1, 0) := rfl
theorem q86_24 : z_fi (z_mi 86) 24 = some (24, .goto 4, 0, 28, 0, 0, 0) := rfl
theorem q86_27 : z_fi (z_mi 86) 27 = some (27, .iconst 0, 0, 0, 0, 0, 0) := rfl
theorem q86_28 : z_fi (z_mi 86) 28 = some (28, .ireturn, 0, 0, 0, 0, 0) := rfl
set_option maxRecDepth 20000 in
set_option maxHeartbeats 4000000 in
theorem t_Tr_isTold_37 {xL : Nat} {xs : Nat → Int32} {ρ : Nat → Nat → Option Nat} (hρ : z_hR ρ) (d : Nat) (a1 : Int32) (a2 : Int32) (σ : zS) : ∀ q, f_Tr_isTold_37 a1 a2 σ = some q → z_ec xL xs ρ (d + 1) 86 [.ref 37, .int a1, .int a2] σ (em_pi σ q) := by
  refine j_of (W := [.ref 37, .int a1, .int a2]) (fun L hL => ?_) ?_
  · subst hL; exact z_vl_0 _ 0 rfl
  · unfold f_Tr_isTold_37
    refine j_iload_n (pc' := 1) q86_0 rfl rfl ?_
    refine j_iconst (pc' := 2) q86_1 rfl ?_
    refine j_bipush (pc' := 4) q86_2 rfl ?_
    refine j_callS3_pi (d := d + 0) (pc' := 7) q86_4 (Or.inr rfl) (Nat.le_of_ble_eq_true rfl) (Nat.le_of_ble_eq_true rfl) rfl (t_Y_isIn hρ (d + 0) _ _ _ _) (fun r1 => ?_)
    refine j_if_eq (pc' := 10) q86_7 rfl (fun c2 => ?_) (fun c2 => ?_)
    · refine j_iconst (pc' := 28) q86_27 rfl ?_
      exact j_pzret q86_28 rfl (Or.inl rfl)
    · refine j_aload_n (pc' := 11) q86_10 rfl (by decide) rfl ?_
      refine j_getr (k := 37) (q := 38) (pc' := 14) q86_11 rfl (hρ 37 3 38 rfl) rfl ?_
      refine j_iload_n (pc' := 15) q86_14 rfl rfl ?_
      refine j_if (fun hi3 => ?_) (fun _ => j_none)
      refine j_iald (k := 38) (N := 8) (pc' := 16) q86_15 rfl hi3 rfl ?_
      refine j_iload_n (pc' := 17) q86_16 rfl rfl ?_
      refine j_iushr (pc' := 18) q86_17 rfl ?_
      refine j_iconst (pc' := 19) q86_18 rfl ?_
      refine j_iand (pc' := 20) q86_19 rfl ?_
      refine j_if_eq (pc' := 23) q86_20 rfl (fun c4 => ?_) (fun c4 => ?_)
      · refine j_iconst (pc' := 28) q86_27 rfl ?_
        exact j_pzret q86_28 rfl (Or.inl rfl)
      · refine j_iconst (pc' := 24) q86_23 rfl ?_
        refine j_goto q86_24 rfl ?_
        exact j_pzret q86_28 rfl (Or.inr rfl)
theorem q85_0 : z_fi (z_mi 85) 0 = some (0, .aload_n 0, 0, 0, 0, 0, 0) := rfl
theorem q85_1 : z_fi (z_mi 85) 1 = some (1, .getfield 31, 0, 7, 1, 0, 0) := rfl
theorem q85_4 : z_fi (z_mi 85) 4 = some (4, .getfield 71, 0, 8, 1, 0, 0) := rfl
theorem q85_7 : z_fi (z_mi 85) 7 = some (7, .iconst 4, 0, 0, 0, 4, 0) := rfl
theorem q85_8 : z_fi (z_mi 85) 8 = some (8, .if_icmp .ne 5, 0, 13, 0, 0, 0) := rfl
theorem q85_11 : z_fi (z_mi 85) 11 = some (11, .iconst 1, 0, 0, 0, 1, 0) := rfl
theorem q85_12 : z_fi (z_mi 85) 12 = some (12, .ireturn, 0, 0, 0, 0, 0) := rfl
theorem q85_13 : z_fi (z_mi 85) 13 = some (13, .iload_n 1, 0, 0, 0, 0, 0) := rfl
theorem q85_14 : z_fi (z_mi 85) 14 = some (14, .iconst 0, 0, 0, 0, 0, 0) := rfl
theorem q85_15 : z_fi (z_mi 85) 15 = some (15, .bipush 7, 0, 0, 0, 7, 0) := rfl
theorem q85_17 : z_fi (z_mi 85) 17 = some (17, .invokestatic 141, 4, 99, 3, 0, 0) := rfl
theorem q85_20 : z_fi (z_mi 85) 20 = some (20, .ifCond .ne 5, 0, 25, 0, 0, 0) := rfl
theorem q85_23 : z_fi (z_mi 85) 23 = some (23, .iconst 2, 0, 0, 0, 2, 0) := rfl
theorem q85_24 : z_fi (z_mi 85) 24 = some (24, .ireturn, 0, 0, 0, 0, 0) := rfl
theorem q85_25 : z_fi (z_mi 85) 25 = some (25, .iload_n 1, 0, 0, 0, 0, 0) := rfl
theorem q85_26 : z_fi (z_mi 85) 26 = some (26, .ifCond .eq 9, 0, 35, 0, 0, 0) := rfl
theorem q85_29 : z_fi (z_mi 85) 29 = some (29, .iload_n 1, 0, 0, 0, 0, 0) := rfl
theorem q85_30 : z_fi (z_mi 85) 30 = some (30, .bipush 7, 0, 0, 0, 7, 0) := rfl
theorem q85_32 : z_fi (z_mi 85) 32 = some (32, .if_icmp .ne 14, 0, 46, 0, 0, 0) := rfl
theorem q85_35 : z_fi (z_mi 85) 35 = some (35, .aload_n 0, 0, 0, 0, 0, 0) := rfl
theorem q85_36 : z_fi (z_mi 85) 36 = some (36, .iload_n 1, 0, 0, 0, 0, 0) := rfl
theorem q85_37 : z_fi (z_mi 85) 37 = some (37, .iconst 0, 0, 0, 0, 0, 0) := rfl
theorem q85_38 : z_fi (z_mi 85) 38 = some (38, .invokevirtual 145, 0, 86, 2, 0, 0) := rfl
theorem q85_41 : z_fi (z_mi 85) 41 = some (41, .ifCond .eq 5, 0, 46, 0, 0, 0) := rfl
theorem q85_44 : z_fi (z_mi 85) 44 = some (44, .iconst 4, 0, 0, 0, 4, 0) := rfl
theorem q85_45 : z_fi (z_mi 85) 45 = some (45, .ireturn, 0, 0, 0, 0, 0) := rfl
theorem q85_46 : z_fi (z_mi 85) 46 = some (46, .iload_n 1, 0, 0, 0, 0, 0) := rfl
theorem q85_47 : z_fi (z_mi 85) 47 = some (47, .iconst 5, 0, 0, 0, 5, 0) := rfl
theorem q85_48 : z_fi (z_mi 85) 48 = some (48, .if_icmp .ne 21, 0, 69, 0, 0, 0) := rfl
theorem q85_51 : z_fi (z_mi 85) 51 = some (51, .aload_n 0, 0, 0, 0, 0, 0) := rfl
theorem q85_52 : z_fi (z_mi 85) 52 = some (52, .getfield 22, 0, 7, 2, 0, 0) := rfl
theorem q85_55 : z_fi (z_mi 85) 55 = some (55, .getfield 149, 0, 0, 8, 0, 0) := rfl
theorem q85_58 : z_fi (z_mi 85) 58 = some (58, .getfield 153, 0, 1, 3, 0, 0) := rfl
theorem q85_61 : z_fi (z_mi 85) 61 = some (61, .iconst 5, 0, 0, 0, 5, 0) := rfl
theorem q85_62 : z_fi (z_mi 85) 62 = some (62, .if_icmp .lt 7, 0, 69, 0, 0, 0) := rfl
theorem q85_65 : z_fi (z_mi 85) 65 = some (65, .iconst 5, 0, 0, 0, 5, 0) := rfl
theorem q85_66 : z_fi (z_mi 85) 66 = some (66, .goto 4, 0, 70, 0, 0, 0) := rfl
theorem q85_69 : z_fi (z_mi 85) 69 = some (69, .iconst 0, 0, 0, 0, 0, 0) := rfl
theorem q85_70 : z_fi (z_mi 85) 70 = some (70, .ireturn, 0, 0, 0, 0, 0) := rfl
set_option maxRecDepth 20000 in
set_option maxHeartbeats 4000000 in
theorem t_Tr_nameFault_37 {xL : Nat} {xs : Nat → Int32} {ρ : Nat → Nat → Option Nat} (hρ : z_hR ρ) (d : Nat) (a1 : Int32) (σ : zS) : ∀ q, f_Tr_nameFault_37 a1 σ = some q → z_ec xL xs ρ (d + 2) 85 [.ref 37, .int a1] σ (em_pi σ q) := by
  refine j_of (W := [.ref 37, .int a1]) (fun L hL => ?_) ?_
  · subst hL; exact z_vl_0 _ 0 rfl
  · unfold f_Tr_nameFault_37
    refine j_aload_n (pc' := 1) q85_0 rfl (by decide) rfl ?_
    refine j_getr (k := 37) (q := 40) (pc' := 4) q85_1 rfl (hρ 37 1 40 rfl) rfl ?_
    refine j_getf (k := 40) (pc' := 7) q85_4 rfl rfl ?_
    refine j_iconst (pc' := 8) q85_7 rfl ?_
    refine j_icmp_ne (pc' := 11) q85_8 rfl (fun c1 => ?_) (fun c1 => ?_)
    · refine j_iconst (pc' := 12) q85_11 rfl ?_
      exact j_piret q85_12 rfl
    · refine j_iload_n (pc' := 14) q85_13 rfl rfl ?_
      refine j_iconst (pc' := 15) q85_14 rfl ?_
      refine j_bipush (pc' := 17) q85_15 rfl ?_
      refine j_callS3_pi (d := d + 1) (pc' := 20) q85_17 (Or.inr rfl) (Nat.le_of_ble_eq_true rfl) (Nat.le_of_ble_eq_true rfl) rfl (t_Y_isIn hρ (d + 1) _ _ _ _) (fun r2 => ?_)
      refine j_if_ne (pc' := 23) q85_20 rfl (fun c3 => ?_) (fun c3 => ?_)
      · refine j_iconst (pc' := 24) q85_23 rfl ?_
        exact j_piret q85_24 rfl
      · refine j_iload_n (pc' := 26) q85_25 rfl rfl ?_
        refine j_join (T := Unit) 46 (fun t4 => [.ref 37, .int a1]) (fun t4 => []) (fun t4 => σ) (fun t4 => ?_) (fun j4 hj4 => ?_)
        · show z_J _ _ _ _ _ _ _ _ _ _ _ _
          refine j_iload_n (pc' := 47) q85_46 rfl rfl ?_
          refine j_iconst (pc' := 48) q85_47 rfl ?_
          refine j_icmp_ne (pc' := 51) q85_48 rfl (fun c5 => ?_) (fun c5 => ?_)
          · refine j_aload_n (pc' := 52) q85_51 rfl (by decide) rfl ?_
            refine j_getr (k := 37) (q := 17) (pc' := 55) q85_52 rfl (hρ 37 2 17 rfl) rfl ?_
            refine j_getr (k := 17) (q := 23) (pc' := 58) q85_55 rfl (hρ 17 8 23 rfl) rfl ?_
            refine j_getf (k := 23) (pc' := 61) q85_58 rfl rfl ?_
            refine j_iconst (pc' := 62) q85_61 rfl ?_
            refine j_icmp_lt (pc' := 65) q85_62 rfl (fun c6 => ?_) (fun c6 => ?_)
            · refine j_iconst (pc' := 70) q85_69 rfl ?_
              exact j_piret q85_70 rfl
            · refine j_iconst (pc' := 66) q85_65 rfl ?_
              refine j_goto q85_66 rfl ?_
              exact j_piret q85_70 rfl
          · refine j_iconst (pc' := 70) q85_69 rfl ?_
            exact j_piret q85_70 rfl
        · show z_J _ _ _ _ _ _ _ _ _ _ _ _
          refine j_join (T := Unit) 35 (fun t7 => [.ref 37, .int a1]) (fun t7 => []) (fun t7 => σ) (fun t7 => ?_) (fun j7 hj7 => ?_)
          · show z_J _ _ _ _ _ _ _ _ _ _ _ _
            refine j_aload_n (pc' := 36) q85_35 rfl (by decide) rfl ?_
            refine j_iload_n (pc' := 37) q85_36 rfl rfl ?_
            refine j_iconst (pc' := 38) q85_37 rfl ?_
            refine j_callV2_pi (d := d + 1) (pc' := 41) q85_38 rfl (Nat.le_of_ble_eq_true rfl) (Nat.le_of_ble_eq_true rfl) rfl (t_Tr_isTold_37 hρ (d + 0) _ _ _) (fun r8 => ?_)
            refine j_if_eq (pc' := 44) q85_41 rfl (fun c9 => ?_) (fun c9 => ?_)
            · refine j_forget (z_le_s (z_le_s (z_le_nil))) (hj4 ())
            · refine j_iconst (pc' := 45) q85_44 rfl ?_
              exact j_piret q85_45 rfl
          · show z_J _ _ _ _ _ _ _ _ _ _ _ _
            refine j_if_eq (pc' := 29) q85_26 rfl (fun c10 => ?_) (fun c10 => ?_)
            · refine j_forget (z_le_s (z_le_s (z_le_nil))) (hj7 ())
            · refine j_iload_n (pc' := 30) q85_29 rfl rfl ?_
              refine j_bipush (pc' := 32) q85_30 rfl ?_
              refine j_icmp_ne (pc' := 35) q85_32 rfl (fun c11 => ?_) (fun c11 => ?_)
              · refine j_forget (z_le_s (z_le_s (z_le_nil))) (hj7 ())
              · refine j_forget (z_le_s (z_le_s (z_le_nil))) (hj4 ())
theorem q88_0 : z_fi (z_mi 88) 0 = some (0, .aload_n 0, 0, 0, 0, 0, 0) := rfl
theorem q88_1 : z_fi (z_mi 88) 1 = some (1, .getfield 31, 0, 7, 1, 0, 0) := rfl
theorem q88_4 : z_fi (z_mi 88) 4 = some (4, .getfield 71, 0, 8, 1, 0, 0) := rfl
theorem q88_7 : z_fi (z_mi 88) 7 = some (7, .iconst 4, 0, 0, 0, 4, 0) := rfl
theorem q88_8 : z_fi (z_mi 88) 8 = some (8, .if_icmp .ne 5, 0, 13, 0, 0, 0) := rfl
theorem q88_11 : z_fi (z_mi 88) 11 = some (11, .iconst 1, 0, 0, 0, 1, 0) := rfl
theorem q88_12 : z_fi (z_mi 88) 12 = some (12, .ireturn, 0, 0, 0, 0, 0) := rfl
theorem q88_13 : z_fi (z_mi 88) 13 = some (13, .iconst 3, 0, 0, 0, 3, 0) := rfl
theorem q88_14 : z_fi (z_mi 88) 14 = some (14, .iload_n 1, 0, 0, 0, 0, 0) := rfl
theorem q88_15 : z_fi (z_mi 88) 15 = some (15, .imul, 0, 0, 0, 0, 0) := rfl
theorem q88_16 : z_fi (z_mi 88) 16 = some (16, .iload_n 2, 0, 0, 0, 0, 0) := rfl
theorem q88_17 : z_fi (z_mi 88) 17 = some (17, .iadd, 0, 0, 0, 0, 0) := rfl
theorem q88_18 : z_fi (z_mi 88) 18 = some (18, .istore 4, 0, 0, 0, 0, 0) := rfl
theorem q88_20 : z_fi (z_mi 88) 20 = some (20, .iload_n 3, 0, 0, 0, 0, 0) := rfl
theorem q88_21 : z_fi (z_mi 88) 21 = some (21, .bipush (-4), 0, 0, 0, (-4), 0) := rfl
theorem q88_23 : z_fi (z_mi 88) 23 = some (23, .if_icmp .eq 27, 0, 50, 0, 0, 0) := rfl
theorem q88_26 : z_fi (z_mi 88) 26 = some (26, .iload 4, 0, 0, 0, 0, 0) := rfl
theorem q88_28 : z_fi (z_mi 88) 28 = some (28, .iconst 0, 0, 0, 0, 0, 0) := rfl
theorem q88_29 : z_fi (z_mi 88) 29 = some (29, .getstatic 167, 0, 3, 0, 0, 0) := rfl
theorem q88_32 : z_fi (z_mi 88) 32 = some (32, .arraylength, 0, 0, 0, 0, 0) := rfl
theorem q88_33 : z_fi (z_mi 88) 33 = some (33, .iconst 1, 0, 0, 0, 1, 0) := rfl
theorem q88_34 : z_fi (z_mi 88) 34 = some (34, .isub, 0, 0, 0, 0, 0) := rfl
theorem q88_35 : z_fi (z_mi 88) 35 = some (35, .invokestatic 141, 4, 99, 3, 0, 0) := rfl
theorem q88_38 : z_fi (z_mi 88) 38 = some (38, .ifCond .eq 12, 0, 50, 0, 0, 0) := rfl
theorem q88_41 : z_fi (z_mi 88) 41 = some (41, .iload 4, 0, 0, 0, 0, 0) := rfl
theorem q88_43 : z_fi (z_mi 88) 43 = some (43, .getstatic 170, 0, 2, 0, 0, 0) := rfl
theorem q88_46 : z_fi (z_mi 88) 46 = some (46, .arraylength, 0, 0, 0, 0, 0) := rfl
theorem q88_47 : z_fi (z_mi 88) 47 = some (47, .if_icmp .lt 5, 0, 52, 0, 0, 0) := rfl
theorem q88_50 : z_fi (z_mi 88) 50 = some (50, .iconst 2, 0, 0, 0, 2, 0) := rfl
theorem q88_51 : z_fi (z_mi 88) 51 = some (51, .ireturn, 0, 0, 0, 0, 0) := rfl
theorem q88_52 : z_fi (z_mi 88) 52 = some (52, .iload_n 3, 0, 0, 0, 0, 0) := rfl
theorem q88_53 : z_fi (z_mi 88) 53 = some (53, .getstatic 170, 0, 2, 0, 0, 0) := rfl
theorem q88_56 : z_fi (z_mi 88) 56 = some (56, .iload 4, 0, 0, 0, 0, 0) := rfl
theorem q88_58 : z_fi (z_mi 88) 58 = some (58, .iaload, 0, 0, 0, 0, 0) := rfl
theorem q88_59 : z_fi (z_mi 88) 59 = some (59, .getstatic 167, 0, 3, 0, 0, 0) := rfl
theorem q88_62 : z_fi (z_mi 88) 62 = some (62, .iload 4, 0, 0, 0, 0, 0) := rfl
theorem q88_64 : z_fi (z_mi 88) 64 = some (64, .iaload, 0, 0, 0, 0, 0) := rfl
theorem q88_65 : z_fi (z_mi 88) 65 = some (65, .invokestatic 141, 4, 99, 3, 0, 0) := rfl
theorem q88_68 : z_fi (z_mi 88) 68 = some (68, .ifCond .ne 5, 0, 73, 0, 0, 0) := rfl
theorem q88_71 : z_fi (z_mi 88) 71 = some (71, .iconst 3, 0, 0, 0, 3, 0) := rfl
theorem q88_72 : z_fi (z_mi 88) 72 = some (72, .ireturn, 0, 0, 0, 0, 0) := rfl
theorem q88_73 : z_fi (z_mi 88) 73 = some (73, .iload_n 2, 0, 0, 0, 0, 0) := rfl
theorem q88_74 : z_fi (z_mi 88) 74 = some (74, .ifCond .ne 22, 0, 96, 0, 0, 0) := rfl
theorem q88_77 : z_fi (z_mi 88) 77 = some (77, .iload_n 1, 0, 0, 0, 0, 0) := rfl
theorem q88_78 : z_fi (z_mi 88) 78 = some (78, .ifCond .eq 18, 0, 96, 0, 0, 0) := rfl
theorem q88_81 : z_fi (z_mi 88) 81 = some (81, .iload_n 1, 0, 0, 0, 0, 0) := rfl
theorem q88_82 : z_fi (z_mi 88) 82 = some (82, .bipush 7, 0, 0, 0, 7, 0) := rfl
theorem q88_84 : z_fi (z_mi 88) 84 = some (84, .if_icmp .eq 12, 0, 96, 0, 0, 0) := rfl
theorem q88_87 : z_fi (z_mi 88) 87 = some (87, .iload_n 1, 0, 0, 0, 0, 0) := rfl
theorem q88_88 : z_fi (z_mi 88) 88 = some (88, .iconst 5, 0, 0, 0, 5, 0) := rfl
theorem q88_89 : z_fi (z_mi 88) 89 = some (89, .if_icmp .eq 7, 0, 96, 0, 0, 0) := rfl
theorem q88_92 : z_fi (z_mi 88) 92 = some (92, .iconst 1, 0, 0, 0, 1, 0) := rfl
theorem q88_93 : z_fi (z_mi 88) 93 = some (93, .goto 4, 0, 97, 0, 0, 0) := rfl
theorem q88_96 : z_fi (z_mi 88) 96 = some (96, .iconst 0, 0, 0, 0, 0, 0) := rfl
theorem q88_97 : z_fi (z_mi 88) 97 = some (97, .istore 5, 0, 0, 0, 0, 0) := rfl
theorem q88_99 : z_fi (z_mi 88) 99 = some (99, .iload_n 1, 0, 0, 0, 0, 0) := rfl
theorem q88_100 : z_fi (z_mi 88) 100 = some (100, .iconst 5, 0, 0, 0, 5, 0) := rfl
theorem q88_101 : z_fi (z_mi 88) 101 = some (101, .if_icmp .ne 22, 0, 123, 0, 0, 0) := rfl
theorem q88_104 : z_fi (z_mi 88) 104 = some (104, .iload_n 2, 0, 0, 0, 0, 0) := rfl
theorem q88_105 : z_fi (z_mi 88) 105 = some (105, .iconst 1, 0, 0, 0, 1, 0) := rfl
theorem q88_106 : z_fi (z_mi 88) 106 = some (106, .if_icmp .ne 17, 0, 123, 0, 0, 0) := rfl
set_option maxRecDepth 8000 in
theorem q88_109 : z_fi (z_mi 88) 109 = some (109, .iload_n 3, 0, 0, 0, 0, 0) := rfl
set_option maxRecDepth 8000 in
theorem q88_110 : z_fi (z_mi 88) 110 = some (110, .aload_n 0, 0, 0, 0, 0, 0) := rfl
set_option maxRecDepth 8000 in
theorem q88_111 : z_fi (z_mi 88) 111 = some (111, .getfield 15, 0, 7, 4, 0, 0) := rfl
set_option maxRecDepth 8000 in
theorem q88_114 : z_fi (z_mi 88) 114 = some (114, .iconst 0, 0, 0, 0, 0, 0) := rfl
set_option maxRecDepth 8000 in
theorem q88_115 : z_fi (z_mi 88) 115 = some (115, .iaload, 0, 0, 0, 0, 0) := rfl
set_option maxRecDepth 8000 in
theorem q88_116 : z_fi (z_mi 88) 116 = some (116, .if_icmp .ne 7, 0, 123, 0, 0, 0) := rfl
set_option maxRecDepth 8000 in
theorem q88_119 : z_fi (z_mi 88) 119 = some (119, .iconst 1, 0, 0, 0, 1, 0) := rfl
set_option maxRecDepth 8000 in
theorem q88_120 : z_fi (z_mi 88) 120 = some (120, .goto 4, 0, 124, 0, 0, 0) := rfl
set_option maxRecDepth 8000 in
theorem q88_123 : z_fi (z_mi 88) 123 = some (123, .iconst 0, 0, 0, 0, 0, 0) := rfl
set_option maxRecDepth 8000 in
theorem q88_124 : z_fi (z_mi 88) 124 = some (124, .istore 6, 0, 0, 0, 0, 0) := rfl
set_option maxRecDepth 8000 in
theorem q88_126 : z_fi (z_mi 88) 126 = some (126, .iload 5, 0, 0, 0, 0, 0) := rfl
set_option maxRecDepth 8000 in
theorem q88_128 : z_fi (z_mi 88) 128 = some (128, .ifCond .eq 12, 0, 140, 0, 0, 0) := rfl
set_option maxRecDepth 8000 in
theorem q88_131 : z_fi (z_mi 88) 131 = some (131, .aload_n 0, 0, 0, 0, 0, 0) := rfl
set_option maxRecDepth 8000 in
theorem q88_132 : z_fi (z_mi 88) 132 = some (132, .iload_n 1, 0, 0, 0, 0, 0) := rfl
set_option maxRecDepth 8000 in
theorem q88_133 : z_fi (z_mi 88) 133 = some (133, .iload_n 3, 0, 0, 0, 0, 0) := rfl
set_option maxRecDepth 8000 in
theorem q88_134 : z_fi (z_mi 88) 134 = some (134, .invokevirtual 145, 0, 86, 2, 0, 0) := rfl
set_option maxRecDepth 8000 in
theorem q88_137 : z_fi (z_mi 88) 137 = some (137, .ifCond .ne 8, 0, 145, 0, 0, 0) := rfl
set_option maxRecDepth 8000 in
theorem q88_140 : z_fi (z_mi 88) 140 = some (140, .iload 6, 0, 0, 0, 0, 0) := rfl
set_option maxRecDepth 8000 in
theorem q88_142 : z_fi (z_mi 88) 142 = some (142, .ifCond .eq 7, 0, 149, 0, 0, 0) := rfl
set_option maxRecDepth 8000 in
theorem q88_145 : z_fi (z_mi 88) 145 = some (145, .iconst 4, 0, 0, 0, 4, 0) := rfl
set_option maxRecDepth 8000 in
theorem q88_146 : z_fi (z_mi 88) 146 = some (146, .goto 4, 0, 150, 0, 0, 0) := rfl
set_option maxRecDepth 8000 in
theorem q88_149 : z_fi (z_mi 88) 149 = some (149, .iconst 0, 0, 0, 0, 0, 0) := rfl
set_option maxRecDepth 8000 in
theorem q88_150 : z_fi (z_mi 88) 150 = some (150, .ireturn, 0, 0, 0, 0, 0) := rfl
set_option maxRecDepth 20000 in
set_option maxHeartbeats 4000000 in
theorem t_Tr_fieldFault_37 {xL : Nat} {xs : Nat → Int32} {ρ : Nat → Nat → Option Nat} (hρ : z_hR ρ) (d : Nat) (a1 : Int32) (a2 : Int32) (a3 : Int32) (σ : zS) : ∀ q, f_Tr_fieldFault_37 a1 a2 a3 σ = some q → z_ec xL xs ρ (d + 2) 88 [.ref 37, .int a1, .int a2, .int a3] σ (em_pi σ q) := by
  refine j_of (W := [.ref 37, .int a1, .int a2, .int a3, .null, .null, .null]) (fun L hL => ?_) ?_
  · subst hL; exact z_vl_0 _ 3 rfl
  · unfold f_Tr_fieldFault_37
    refine j_aload_n (pc' := 1) q88_0 rfl (by decide) rfl ?_
    refine j_getr (k := 37) (q := 40) (pc' := 4) q88_1 rfl (hρ 37 1 40 rfl) rfl ?_
    refine j_getf (k := 40) (pc' := 7) q88_4 rfl rfl ?_
    refine j_iconst (pc' := 8) q88_7 rfl ?_
    refine j_icmp_ne (pc' := 11) q88_8 rfl (fun c1 => ?_) (fun c1 => ?_)
    · refine j_iconst (pc' := 12) q88_11 rfl ?_
      exact j_piret q88_12 rfl
    · refine j_iconst (pc' := 14) q88_13 rfl ?_
      refine j_iload_n (pc' := 15) q88_14 rfl rfl ?_
      refine j_imul (pc' := 16) q88_15 rfl ?_
      refine j_iload_n (pc' := 17) q88_16 rfl rfl ?_
      refine j_iadd (pc' := 18) q88_17 rfl ?_
      refine j_istore4 (pc' := 20) q88_18 rfl (Nat.le_of_ble_eq_true rfl) rfl ?_
      refine j_iload_n (pc' := 21) q88_20 rfl rfl ?_
      refine j_bipush (pc' := 23) q88_21 rfl ?_
      refine j_icmp_eq (pc' := 26) q88_23 rfl (fun c2 => ?_) (fun c2 => ?_)
      · refine j_iconst (pc' := 51) q88_50 rfl ?_
        exact j_piret q88_51 rfl
      · refine j_iload (pc' := 28) q88_26 rfl rfl ?_
        refine j_iconst (pc' := 29) q88_28 rfl ?_
        refine j_gstA (pc' := 32) q88_29 rfl rfl ?_
        refine j_tlen (k := 1003) (N := 24) (pc' := 33) q88_32 ⟨Nat.le_of_ble_eq_true rfl, Nat.le_of_ble_eq_true rfl, rfl⟩ rfl ?_
        refine j_iconst (pc' := 34) q88_33 rfl ?_
        refine j_isub (pc' := 35) q88_34 rfl ?_
        refine j_callS3_pi (d := d + 1) (pc' := 38) q88_35 (Or.inr rfl) (Nat.le_of_ble_eq_true rfl) (Nat.le_of_ble_eq_true rfl) rfl (t_Y_isIn hρ (d + 1) _ _ _ _) (fun r3 => ?_)
        refine j_if_eq (pc' := 41) q88_38 rfl (fun c4 => ?_) (fun c4 => ?_)
        · refine j_iconst (pc' := 51) q88_50 rfl ?_
          exact j_piret q88_51 rfl
        · refine j_iload (pc' := 43) q88_41 rfl rfl ?_
          refine j_gstA (pc' := 46) q88_43 rfl rfl ?_
          refine j_tlen (k := 1002) (N := 24) (pc' := 47) q88_46 ⟨Nat.le_of_ble_eq_true rfl, Nat.le_of_ble_eq_true rfl, rfl⟩ rfl ?_
          refine j_icmp_lt (pc' := 50) q88_47 rfl (fun c5 => ?_) (fun c5 => ?_)
          · refine j_iload_n (pc' := 53) q88_52 rfl rfl ?_
            refine j_gstA (pc' := 56) q88_53 rfl rfl ?_
            refine j_iload (pc' := 58) q88_56 rfl rfl ?_
            refine j_if (fun hi6 => ?_) (fun _ => j_none)
            refine j_tald (k := 1002) (N := 24) (pc' := 59) q88_58 ⟨Nat.le_of_ble_eq_true rfl, Nat.le_of_ble_eq_true rfl, rfl⟩ hi6 rfl ?_
            refine j_gstA (pc' := 62) q88_59 rfl rfl ?_
            refine j_iload (pc' := 64) q88_62 rfl rfl ?_
            refine j_if (fun hi7 => ?_) (fun _ => j_none)
            refine j_tald (k := 1003) (N := 24) (pc' := 65) q88_64 ⟨Nat.le_of_ble_eq_true rfl, Nat.le_of_ble_eq_true rfl, rfl⟩ hi7 rfl ?_
            refine j_callS3_pi (d := d + 1) (pc' := 68) q88_65 (Or.inr rfl) (Nat.le_of_ble_eq_true rfl) (Nat.le_of_ble_eq_true rfl) rfl (t_Y_isIn hρ (d + 1) _ _ _ _) (fun r8 => ?_)
            refine j_if_ne (pc' := 71) q88_68 rfl (fun c9 => ?_) (fun c9 => ?_)
            · refine j_iconst (pc' := 72) q88_71 rfl ?_
              exact j_piret q88_72 rfl
            · refine j_iload_n (pc' := 74) q88_73 rfl rfl ?_
              refine j_join (T := Int32) 97 (fun t10 => [.ref 37, .int a1, .int a2, .int a3, .null, .null, .null]) (fun t10 => [.int t10]) (fun t10 => σ) (fun t10 => ?_) (fun j10 hj10 => ?_)
              · show z_J _ _ _ _ _ _ _ _ _ _ _ _
                refine j_istore5 (pc' := 99) q88_97 rfl (Nat.le_of_ble_eq_true rfl) rfl ?_
                refine j_iload_n (pc' := 100) q88_99 rfl rfl ?_
                refine j_iconst (pc' := 101) q88_100 rfl ?_
                refine j_join (T := Int32) 124 (fun t11 => [.ref 37, .int a1, .null, .int a3, .null, .int t10, .null]) (fun t11 => [.int t11]) (fun t11 => σ) (fun t11 => ?_) (fun j11 hj11 => ?_)
                · show z_J _ _ _ _ _ _ _ _ _ _ _ _
                  refine j_istore6 (pc' := 126) q88_124 rfl (Nat.le_of_ble_eq_true rfl) rfl ?_
                  refine j_iload (pc' := 128) q88_126 rfl rfl ?_
                  refine j_join (T := Unit) 145 (fun t12 => [.null, .null, .null, .null, .null, .null, .null]) (fun t12 => []) (fun t12 => σ) (fun t12 => ?_) (fun j12 hj12 => ?_)
                  · show z_J _ _ _ _ _ _ _ _ _ _ _ _
                    refine j_iconst (pc' := 146) q88_145 rfl ?_
                    refine j_goto q88_146 rfl ?_
                    exact j_piret q88_150 rfl
                  · show z_J _ _ _ _ _ _ _ _ _ _ _ _
                    refine j_join (T := Unit) 140 (fun t13 => [.null, .null, .null, .null, .null, .null, .int t11]) (fun t13 => []) (fun t13 => σ) (fun t13 => ?_) (fun j13 hj13 => ?_)
                    · show z_J _ _ _ _ _ _ _ _ _ _ _ _
                      refine j_iload (pc' := 142) q88_140 rfl rfl ?_
                      refine j_if_eq (pc' := 145) q88_142 rfl (fun c14 => ?_) (fun c14 => ?_)
                      · refine j_iconst (pc' := 150) q88_149 rfl ?_
                        exact j_piret q88_150 rfl
                      · refine j_forget (z_le_n (z_le_n (z_le_n (z_le_n (z_le_n (z_le_n (z_le_n (z_le_nil)))))))) (hj12 ())
                    · show z_J _ _ _ _ _ _ _ _ _ _ _ _
                      refine j_if_eq (pc' := 131) q88_128 rfl (fun c15 => ?_) (fun c15 => ?_)
                      · refine j_forget (z_le_n (z_le_n (z_le_n (z_le_n (z_le_n (z_le_n (z_le_s (z_le_nil)))))))) (hj13 ())
                      · refine j_aload_n (pc' := 132) q88_131 rfl (by decide) rfl ?_
                        refine j_iload_n (pc' := 133) q88_132 rfl rfl ?_
                        refine j_iload_n (pc' := 134) q88_133 rfl rfl ?_
                        refine j_callV2_pi (d := d + 1) (pc' := 137) q88_134 rfl (Nat.le_of_ble_eq_true rfl) (Nat.le_of_ble_eq_true rfl) rfl (t_Tr_isTold_37 hρ (d + 0) _ _ _) (fun r16 => ?_)
                        refine j_if_ne (pc' := 140) q88_137 rfl (fun c17 => ?_) (fun c17 => ?_)
                        · refine j_forget (z_le_n (z_le_n (z_le_n (z_le_n (z_le_n (z_le_n (z_le_s (z_le_nil)))))))) (hj13 ())
                        · refine j_forget (z_le_n (z_le_n (z_le_n (z_le_n (z_le_n (z_le_n (z_le_n (z_le_nil)))))))) (hj12 ())
                · show z_J _ _ _ _ _ _ _ _ _ _ _ _
                  refine j_join (T := Unit) 123 (fun t18 => [.ref 37, .int a1, .null, .int a3, .null, .int t10, .null]) (fun t18 => []) (fun t18 => σ) (fun t18 => ?_) (fun j18 hj18 => ?_)
                  · show z_J _ _ _ _ _ _ _ _ _ _ _ _
                    refine j_iconst (pc' := 124) q88_123 rfl ?_
                    refine j_forget (z_le_s (z_le_s (z_le_n (z_le_s (z_le_n (z_le_s (z_le_n (z_le_nil)))))))) (hj11 (0 : Int32))
                  · show z_J _ _ _ _ _ _ _ _ _ _ _ _
                    refine j_icmp_ne (pc' := 104) q88_101 rfl (fun c19 => ?_) (fun c19 => ?_)
                    · refine j_iload_n (pc' := 105) q88_104 rfl rfl ?_
                      refine j_iconst (pc' := 106) q88_105 rfl ?_
                      refine j_icmp_ne (pc' := 109) q88_106 rfl (fun c20 => ?_) (fun c20 => ?_)
                      · refine j_iload_n (pc' := 110) q88_109 rfl rfl ?_
                        refine j_aload_n (pc' := 111) q88_110 rfl (by decide) rfl ?_
                        refine j_getr (k := 37) (q := 39) (pc' := 114) q88_111 rfl (hρ 37 4 39 rfl) rfl ?_
                        refine j_iconst (pc' := 115) q88_114 rfl ?_
                        refine j_iald (k := 39) (N := 3) (pc' := 116) q88_115 rfl (by decide) rfl ?_
                        refine j_icmp_ne (pc' := 119) q88_116 rfl (fun c21 => ?_) (fun c21 => ?_)
                        · refine j_iconst (pc' := 120) q88_119 rfl ?_
                          refine j_goto q88_120 rfl ?_
                          refine j_forget (z_le_s (z_le_s (z_le_n (z_le_s (z_le_n (z_le_s (z_le_n (z_le_nil)))))))) (hj11 (1 : Int32))
                        · refine j_forget (z_le_s (z_le_s (z_le_n (z_le_s (z_le_n (z_le_s (z_le_n (z_le_nil)))))))) (hj18 ())
                      · refine j_forget (z_le_s (z_le_s (z_le_n (z_le_s (z_le_n (z_le_s (z_le_n (z_le_nil)))))))) (hj18 ())
                    · refine j_forget (z_le_s (z_le_s (z_le_n (z_le_s (z_le_n (z_le_s (z_le_n (z_le_nil)))))))) (hj18 ())
              · show z_J _ _ _ _ _ _ _ _ _ _ _ _
                refine j_join (T := Unit) 96 (fun t22 => [.ref 37, .int a1, .int a2, .int a3, .null, .null, .null]) (fun t22 => []) (fun t22 => σ) (fun t22 => ?_) (fun j22 hj22 => ?_)
                · show z_J _ _ _ _ _ _ _ _ _ _ _ _
                  refine j_iconst (pc' := 97) q88_96 rfl ?_
                  refine j_forget (z_le_s (z_le_s (z_le_s (z_le_s (z_le_n (z_le_n (z_le_n (z_le_nil)))))))) (hj10 (0 : Int32))
                · show z_J _ _ _ _ _ _ _ _ _ _ _ _
                  refine j_if_ne (pc' := 77) q88_74 rfl (fun c23 => ?_) (fun c23 => ?_)
                  · refine j_iload_n (pc' := 78) q88_77 rfl rfl ?_
                    refine j_if_eq (pc' := 81) q88_78 rfl (fun c24 => ?_) (fun c24 => ?_)
                    · refine j_forget (z_le_s (z_le_s (z_le_s (z_le_s (z_le_n (z_le_n (z_le_n (z_le_nil)))))))) (hj22 ())
                    · refine j_iload_n (pc' := 82) q88_81 rfl rfl ?_
                      refine j_bipush (pc' := 84) q88_82 rfl ?_
                      refine j_icmp_eq (pc' := 87) q88_84 rfl (fun c25 => ?_) (fun c25 => ?_)
                      · refine j_forget (z_le_s (z_le_s (z_le_s (z_le_s (z_le_n (z_le_n (z_le_n (z_le_nil)))))))) (hj22 ())
                      · refine j_iload_n (pc' := 88) q88_87 rfl rfl ?_
                        refine j_iconst (pc' := 89) q88_88 rfl ?_
                        refine j_icmp_eq (pc' := 92) q88_89 rfl (fun c26 => ?_) (fun c26 => ?_)
                        · refine j_forget (z_le_s (z_le_s (z_le_s (z_le_s (z_le_n (z_le_n (z_le_n (z_le_nil)))))))) (hj22 ())
                        · refine j_iconst (pc' := 93) q88_92 rfl ?_
                          refine j_goto q88_93 rfl ?_
                          refine j_forget (z_le_s (z_le_s (z_le_s (z_le_s (z_le_n (z_le_n (z_le_n (z_le_nil)))))))) (hj10 (1 : Int32))
                  · refine j_forget (z_le_s (z_le_s (z_le_s (z_le_s (z_le_n (z_le_n (z_le_n (z_le_nil)))))))) (hj22 ())
          · refine j_iconst (pc' := 51) q88_50 rfl ?_
            exact j_piret q88_51 rfl
theorem q79_0 : z_fi (z_mi 79) 0 = some (0, .aload_n 0, 0, 0, 0, 0, 0) := rfl
theorem q79_1 : z_fi (z_mi 79) 1 = some (1, .iload_n 1, 0, 0, 0, 0, 0) := rfl
theorem q79_2 : z_fi (z_mi 79) 2 = some (2, .putfield 53, 0, 7, 6, 0, 0) := rfl
theorem q79_5 : z_fi (z_mi 79) 5 = some (5, .aload_n 0, 0, 0, 0, 0, 0) := rfl
theorem q79_6 : z_fi (z_mi 79) 6 = some (6, .iload_n 2, 0, 0, 0, 0, 0) := rfl
theorem q79_7 : z_fi (z_mi 79) 7 = some (7, .putfield 56, 0, 7, 7, 0, 0) := rfl
theorem q79_10 : z_fi (z_mi 79) 10 = some (10, .return_, 0, 0, 0, 0, 0) := rfl
set_option maxRecDepth 20000 in
set_option maxHeartbeats 4000000 in
theorem t_Tr_fail_37 {xL : Nat} {xs : Nat → Int32} {ρ : Nat → Nat → Option Nat} (hρ : z_hR ρ) (d : Nat) (a1 : Int32) (a2 : Int32) (σ : zS) : ∀ q, f_Tr_fail_37 a1 a2 σ = some q → z_ec xL xs ρ (d + 0) 79 [.ref 37, .int a1, .int a2] σ (em_v q) := by
  refine j_of (W := [.ref 37, .int a1, .int a2]) (fun L hL => ?_) ?_
  · subst hL; exact z_vl_0 _ 0 rfl
  · unfold f_Tr_fail_37
    refine j_aload_n (pc' := 1) q79_0 rfl (by decide) rfl ?_
    refine j_iload_n (pc' := 2) q79_1 rfl rfl ?_
    refine j_putf (k := 37) (pc' := 5) q79_2 rfl rfl ?_
    refine j_nameS (fun τ1 => ?_)
    refine j_aload_n (pc' := 6) q79_5 rfl (by decide) rfl ?_
    refine j_iload_n (pc' := 7) q79_6 rfl rfl ?_
    refine j_putf (k := 37) (pc' := 10) q79_7 rfl rfl ?_
    refine j_nameS (fun τ2 => ?_)
    exact j_vret q79_10 rfl
theorem q84_0 : z_fi (z_mi 84) 0 = some (0, .iload_n 0, 0, 0, 0, 0, 0) := rfl
theorem q84_1 : z_fi (z_mi 84) 1 = some (1, .tableswitch 43 0 3 #[31, 34, 37, 40], 31, 0, 0, 0, 0) := rfl
theorem q84_32 : z_fi (z_mi 84) 32 = some (32, .ldc 131, 1, 8, 0, 0, 0) := rfl
theorem q84_34 : z_fi (z_mi 84) 34 = some (34, .areturn, 0, 0, 0, 0, 0) := rfl
theorem q84_35 : z_fi (z_mi 84) 35 = some (35, .ldc 133, 1, 9, 0, 0, 0) := rfl
theorem q84_37 : z_fi (z_mi 84) 37 = some (37, .areturn, 0, 0, 0, 0, 0) := rfl
theorem q84_38 : z_fi (z_mi 84) 38 = some (38, .ldc 135, 1, 10, 0, 0, 0) := rfl
theorem q84_40 : z_fi (z_mi 84) 40 = some (40, .areturn, 0, 0, 0, 0, 0) := rfl
theorem q84_41 : z_fi (z_mi 84) 41 = some (41, .ldc 137, 1, 11, 0, 0, 0) := rfl
theorem q84_43 : z_fi (z_mi 84) 43 = some (43, .areturn, 0, 0, 0, 0, 0) := rfl
theorem q84_44 : z_fi (z_mi 84) 44 = some (44, .ldc 139, 1, 12, 0, 0, 0) := rfl
theorem q84_46 : z_fi (z_mi 84) 46 = some (46, .areturn, 0, 0, 0, 0, 0) := rfl
set_option maxRecDepth 20000 in
set_option maxHeartbeats 4000000 in
theorem t_Tr_cropName {xL : Nat} {xs : Nat → Int32} {ρ : Nat → Nat → Option Nat} (hρ : z_hR ρ) (d : Nat) (a0 : Int32) (σ : zS) : ∀ q, f_Tr_cropName a0 σ = some q → z_ec xL xs ρ (d + 0) 84 [.int a0] σ (em_pr σ q) := by
  refine j_of (W := [.int a0]) (fun L hL => ?_) ?_
  · subst hL; exact z_vl_0 _ 0 rfl
  · unfold f_Tr_cropName
    refine j_iload_n (pc' := 1) q84_0 rfl rfl ?_
    refine j_if (fun c1 => ?_) (fun c1 => ?_)
    · refine j_tin (pc' := 32) (j := 0) (off := 31) q84_1 c1 (Nat.le_of_ble_eq_true rfl) (by decide) rfl (by decide) ?_
      refine j_ldcS (pc' := 34) q84_32 (by decide) rfl ?_
      exact j_paret q84_34 rfl (by decide)
    refine j_if (fun c2 => ?_) (fun c2 => ?_)
    · refine j_tin (pc' := 35) (j := 1) (off := 34) q84_1 c2 (Nat.le_of_ble_eq_true rfl) (by decide) rfl (by decide) ?_
      refine j_ldcS (pc' := 37) q84_35 (by decide) rfl ?_
      exact j_paret q84_37 rfl (by decide)
    refine j_if (fun c3 => ?_) (fun c3 => ?_)
    · refine j_tin (pc' := 38) (j := 2) (off := 37) q84_1 c3 (Nat.le_of_ble_eq_true rfl) (by decide) rfl (by decide) ?_
      refine j_ldcS (pc' := 40) q84_38 (by decide) rfl ?_
      exact j_paret q84_40 rfl (by decide)
    refine j_if (fun c4 => ?_) (fun c4 => ?_)
    · refine j_tin (pc' := 41) (j := 3) (off := 40) q84_1 c4 (Nat.le_of_ble_eq_true rfl) (by decide) rfl (by decide) ?_
      refine j_ldcS (pc' := 43) q84_41 (by decide) rfl ?_
      exact j_paret q84_43 rfl (by decide)
    refine j_tdef (pc' := 44) 4 q84_1 rfl (by decide) (z_noS (z_noS (z_noS (z_noS (z_no0) c1) c2) c3) c4) (by decide) ?_
    refine j_ldcS (pc' := 46) q84_44 (by decide) rfl ?_
    exact j_paret q84_46 rfl (by decide)
theorem q83_0 : z_fi (z_mi 83) 0 = some (0, .iconst 0, 0, 0, 0, 0, 0) := rfl
theorem q83_1 : z_fi (z_mi 83) 1 = some (1, .istore_n 1, 0, 0, 0, 0, 0) := rfl
theorem q83_2 : z_fi (z_mi 83) 2 = some (2, .iload_n 1, 0, 0, 0, 0, 0) := rfl
theorem q83_3 : z_fi (z_mi 83) 3 = some (3, .iconst 5, 0, 0, 0, 5, 0) := rfl
theorem q83_4 : z_fi (z_mi 83) 4 = some (4, .if_icmp .ge 25, 0, 29, 0, 0, 0) := rfl
theorem q83_7 : z_fi (z_mi 83) 7 = some (7, .aload_n 0, 0, 0, 0, 0, 0) := rfl
theorem q83_8 : z_fi (z_mi 83) 8 = some (8, .getfield 31, 0, 7, 1, 0, 0) := rfl
theorem q83_11 : z_fi (z_mi 83) 11 = some (11, .iload_n 1, 0, 0, 0, 0, 0) := rfl
theorem q83_12 : z_fi (z_mi 83) 12 = some (12, .invokestatic 128, 1, 84, 1, 0, 0) := rfl
theorem q83_15 : z_fi (z_mi 83) 15 = some (15, .invokevirtual 106, 0, 97, 1, 0, 0) := rfl
theorem q83_18 : z_fi (z_mi 83) 18 = some (18, .ifCond .eq 5, 0, 23, 0, 0, 0) := rfl
theorem q83_21 : z_fi (z_mi 83) 21 = some (21, .iload_n 1, 0, 0, 0, 0, 0) := rfl
theorem q83_22 : z_fi (z_mi 83) 22 = some (22, .ireturn, 0, 0, 0, 0, 0) := rfl
theorem q83_23 : z_fi (z_mi 83) 23 = some (23, .iinc 1 1, 0, 0, 0, 1, 0) := rfl
theorem q83_26 : z_fi (z_mi 83) 26 = some (26, .goto (-24), 0, 2, 0, 0, 0) := rfl
theorem q83_29 : z_fi (z_mi 83) 29 = some (29, .bipush (-4), 0, 0, 0, (-4), 0) := rfl
theorem q83_31 : z_fi (z_mi 83) 31 = some (31, .ireturn, 0, 0, 0, 0, 0) := rfl
set_option maxRecDepth 20000 in
set_option maxHeartbeats 4000000 in
theorem t_Tr_cropNamed_37 {xL : Nat} {xs : Nat → Int32} {ρ : Nat → Nat → Option Nat} (hρ : z_hR ρ) (d : Nat)  (σ : zS) : ∀ q, f_Tr_cropNamed_37  σ = some q → z_ec xL xs ρ (d + 5) 83 [.ref 37] σ (em_pi σ q) := by
  refine j_of (W := [.ref 37, .null]) (fun L hL => ?_) ?_
  · subst hL; exact z_vl_0 _ 1 rfl
  · unfold f_Tr_cropNamed_37
    refine j_iconst (pc' := 1) q83_0 rfl ?_
    refine j_istore1 (pc' := 2) q83_1 rfl (Nat.le_of_ble_eq_true rfl) rfl ?_
    refine j_forget (V' := [.ref 37, .int (0 : Int32)]) (z_le_s (z_le_s (z_le_nil))) ?_
    refine j_loopX (S := Int32) (E := Unit) Sum.inl 29 (fun s1 => [.ref 37, .int s1]) (fun s1 => σ) (fun b1 => [.null, .null]) (fun b1 => σ) (fun b1 => ?_) (fun R1 hR1 hX1 s1 => ?_) (0 : Int32)
    · show z_J _ _ _ _ _ _ _ _ _ _ _ _
      refine j_bipush (pc' := 31) q83_29 rfl ?_
      exact j_piret q83_31 rfl
    · show z_J _ _ _ _ _ _ _ _ _ _ _ _
      refine j_iload_n (pc' := 3) q83_2 rfl rfl ?_
      refine j_iconst (pc' := 4) q83_3 rfl ?_
      refine j_icmp_ge (pc' := 7) q83_4 rfl (fun c2 => ?_) (fun c2 => ?_)
      · exact j_exit (j_forget (z_le_n (z_le_n (z_le_nil))) (hX1 ()))
      · refine j_aload_n (pc' := 8) q83_7 rfl (by decide) rfl ?_
        refine j_getr (k := 37) (q := 40) (pc' := 11) q83_8 rfl (hρ 37 1 40 rfl) rfl ?_
        refine j_iload_n (pc' := 12) q83_11 rfl rfl ?_
        refine j_callS1_pr (d := d + 4) (pc' := 15) q83_12 (Or.inl rfl) (Nat.le_of_ble_eq_true rfl) (Nat.le_of_ble_eq_true rfl) rfl (t_Tr_cropName hρ (d + 4) _ _) (fun r3 => ?_)
        refine j_if (fun hs4 => ?_) (fun _ => j_none)
        refine j_callV1_pi (d := d + 4) (pc' := 18) q83_15 rfl (Nat.le_of_ble_eq_true rfl) (Nat.le_of_ble_eq_true rfl) rfl (t_Tk_isName_40 hρ (d + 0) _ _ (by have := hs4.1; have := hs4.2; omega)) (fun r5 => ?_)
        refine j_if_eq (pc' := 21) q83_18 rfl (fun c6 => ?_) (fun c6 => ?_)
        · refine j_iinc1 (pc' := 26) q83_23 rfl (Nat.le_of_ble_eq_true rfl) rfl ?_
          refine j_goto q83_26 rfl ?_
          exact j_again (j_forget (z_le_s (z_le_s (z_le_nil))) (hR1 (s1 + (1 : Int32))))
        · refine j_iload_n (pc' := 22) q83_21 rfl rfl ?_
          refine j_exit ?_
          exact j_piret q83_22 rfl
theorem q87_0 : z_fi (z_mi 87) 0 = some (0, .aload_n 0, 0, 0, 0, 0, 0) := rfl
theorem q87_1 : z_fi (z_mi 87) 1 = some (1, .getfield 31, 0, 7, 1, 0, 0) := rfl
theorem q87_4 : z_fi (z_mi 87) 4 = some (4, .invokevirtual 68, 0, 94, 0, 0, 0) := rfl
theorem q87_7 : z_fi (z_mi 87) 7 = some (7, .bipush (-4), 0, 0, 0, (-4), 0) := rfl
theorem q87_9 : z_fi (z_mi 87) 9 = some (9, .istore_n 3, 0, 0, 0, 0, 0) := rfl
theorem q87_10 : z_fi (z_mi 87) 10 = some (10, .iload_n 1, 0, 0, 0, 0, 0) := rfl
theorem q87_11 : z_fi (z_mi 87) 11 = some (11, .iconst 2, 0, 0, 0, 2, 0) := rfl
theorem q87_12 : z_fi (z_mi 87) 12 = some (12, .if_icmp .ne 16, 0, 28, 0, 0, 0) := rfl
theorem q87_15 : z_fi (z_mi 87) 15 = some (15, .iload_n 2, 0, 0, 0, 0, 0) := rfl
theorem q87_16 : z_fi (z_mi 87) 16 = some (16, .iconst 1, 0, 0, 0, 1, 0) := rfl
theorem q87_17 : z_fi (z_mi 87) 17 = some (17, .if_icmp .ne 11, 0, 28, 0, 0, 0) := rfl
theorem q87_20 : z_fi (z_mi 87) 20 = some (20, .aload_n 0, 0, 0, 0, 0, 0) := rfl
theorem q87_21 : z_fi (z_mi 87) 21 = some (21, .invokevirtual 157, 0, 83, 0, 0, 0) := rfl
theorem q87_24 : z_fi (z_mi 87) 24 = some (24, .istore_n 3, 0, 0, 0, 0, 0) := rfl
theorem q87_25 : z_fi (z_mi 87) 25 = some (25, .goto 22, 0, 47, 0, 0, 0) := rfl
theorem q87_28 : z_fi (z_mi 87) 28 = some (28, .aload_n 0, 0, 0, 0, 0, 0) := rfl
theorem q87_29 : z_fi (z_mi 87) 29 = some (29, .getfield 31, 0, 7, 1, 0, 0) := rfl
theorem q87_32 : z_fi (z_mi 87) 32 = some (32, .getfield 71, 0, 8, 1, 0, 0) := rfl
theorem q87_35 : z_fi (z_mi 87) 35 = some (35, .iconst 2, 0, 0, 0, 2, 0) := rfl
theorem q87_36 : z_fi (z_mi 87) 36 = some (36, .if_icmp .ne 11, 0, 47, 0, 0, 0) := rfl
theorem q87_39 : z_fi (z_mi 87) 39 = some (39, .aload_n 0, 0, 0, 0, 0, 0) := rfl
theorem q87_40 : z_fi (z_mi 87) 40 = some (40, .getfield 31, 0, 7, 1, 0, 0) := rfl
theorem q87_43 : z_fi (z_mi 87) 43 = some (43, .getfield 160, 0, 8, 3, 0, 0) := rfl
theorem q87_46 : z_fi (z_mi 87) 46 = some (46, .istore_n 3, 0, 0, 0, 0, 0) := rfl
theorem q87_47 : z_fi (z_mi 87) 47 = some (47, .aload_n 0, 0, 0, 0, 0, 0) := rfl
theorem q87_48 : z_fi (z_mi 87) 48 = some (48, .iload_n 1, 0, 0, 0, 0, 0) := rfl
theorem q87_49 : z_fi (z_mi 87) 49 = some (49, .iload_n 2, 0, 0, 0, 0, 0) := rfl
theorem q87_50 : z_fi (z_mi 87) 50 = some (50, .iload_n 3, 0, 0, 0, 0, 0) := rfl
theorem q87_51 : z_fi (z_mi 87) 51 = some (51, .invokevirtual 163, 0, 88, 3, 0, 0) := rfl
theorem q87_54 : z_fi (z_mi 87) 54 = some (54, .istore 4, 0, 0, 0, 0, 0) := rfl
theorem q87_56 : z_fi (z_mi 87) 56 = some (56, .iload 4, 0, 0, 0, 0, 0) := rfl
theorem q87_58 : z_fi (z_mi 87) 58 = some (58, .ifCond .eq 19, 0, 77, 0, 0, 0) := rfl
theorem q87_61 : z_fi (z_mi 87) 61 = some (61, .aload_n 0, 0, 0, 0, 0, 0) := rfl
theorem q87_62 : z_fi (z_mi 87) 62 = some (62, .iload 4, 0, 0, 0, 0, 0) := rfl
theorem q87_64 : z_fi (z_mi 87) 64 = some (64, .aload_n 0, 0, 0, 0, 0, 0) := rfl
theorem q87_65 : z_fi (z_mi 87) 65 = some (65, .getfield 31, 0, 7, 1, 0, 0) := rfl
theorem q87_68 : z_fi (z_mi 87) 68 = some (68, .getfield 82, 0, 8, 2, 0, 0) := rfl
theorem q87_71 : z_fi (z_mi 87) 71 = some (71, .invokevirtual 85, 0, 79, 2, 0, 0) := rfl
theorem q87_74 : z_fi (z_mi 87) 74 = some (74, .goto 19, 0, 93, 0, 0, 0) := rfl
theorem q87_77 : z_fi (z_mi 87) 77 = some (77, .iload_n 2, 0, 0, 0, 0, 0) := rfl
theorem q87_78 : z_fi (z_mi 87) 78 = some (78, .iconst 0, 0, 0, 0, 0, 0) := rfl
theorem q87_79 : z_fi (z_mi 87) 79 = some (79, .iconst 2, 0, 0, 0, 2, 0) := rfl
theorem q87_80 : z_fi (z_mi 87) 80 = some (80, .invokestatic 141, 4, 99, 3, 0, 0) := rfl
theorem q87_83 : z_fi (z_mi 87) 83 = some (83, .ifCond .eq 10, 0, 93, 0, 0, 0) := rfl
theorem q87_86 : z_fi (z_mi 87) 86 = some (86, .aload_n 0, 0, 0, 0, 0, 0) := rfl
theorem q87_87 : z_fi (z_mi 87) 87 = some (87, .getfield 15, 0, 7, 4, 0, 0) := rfl
theorem q87_90 : z_fi (z_mi 87) 90 = some (90, .iload_n 2, 0, 0, 0, 0, 0) := rfl
theorem q87_91 : z_fi (z_mi 87) 91 = some (91, .iload_n 3, 0, 0, 0, 0, 0) := rfl
theorem q87_92 : z_fi (z_mi 87) 92 = some (92, .iastore, 0, 0, 0, 0, 0) := rfl
theorem q87_93 : z_fi (z_mi 87) 93 = some (93, .return_, 0, 0, 0, 0, 0) := rfl
set_option maxRecDepth 20000 in
set_option maxHeartbeats 4000000 in
theorem t_Tr_readField_37 {xL : Nat} {xs : Nat → Int32} {ρ : Nat → Nat → Option Nat} (hρ : z_hR ρ) (d : Nat) (a1 : Int32) (a2 : Int32) (σ : zS) : ∀ q, f_Tr_readField_37 a1 a2 σ = some q → z_ec xL xs ρ (d + 6) 87 [.ref 37, .int a1, .int a2] σ (em_v q) := by
  refine j_of (W := [.ref 37, .int a1, .int a2, .null, .null]) (fun L hL => ?_) ?_
  · subst hL; exact z_vl_0 _ 2 rfl
  · unfold f_Tr_readField_37
    refine j_aload_n (pc' := 1) q87_0 rfl (by decide) rfl ?_
    refine j_getr (k := 37) (q := 40) (pc' := 4) q87_1 rfl (hρ 37 1 40 rfl) rfl ?_
    refine j_callV0_v (d := d + 5) (pc' := 7) q87_4 rfl (Nat.le_of_ble_eq_true rfl) (Nat.le_of_ble_eq_true rfl) rfl (t_Tk_move_40 hρ (d + 3) _) (fun r1 => ?_)
    refine j_bipush (pc' := 9) q87_7 rfl ?_
    refine j_istore3 (pc' := 10) q87_9 rfl (Nat.le_of_ble_eq_true rfl) rfl ?_
    refine j_iload_n (pc' := 11) q87_10 rfl rfl ?_
    refine j_iconst (pc' := 12) q87_11 rfl ?_
    refine j_join (T := Int32) 47 (fun t2 => [.ref 37, .int a1, .int a2, .int t2, .null]) (fun t2 => []) (fun t2 => r1) (fun t2 => ?_) (fun j2 hj2 => ?_)
    · show z_J _ _ _ _ _ _ _ _ _ _ _ _
      refine j_aload_n (pc' := 48) q87_47 rfl (by decide) rfl ?_
      refine j_iload_n (pc' := 49) q87_48 rfl rfl ?_
      refine j_iload_n (pc' := 50) q87_49 rfl rfl ?_
      refine j_iload_n (pc' := 51) q87_50 rfl rfl ?_
      refine j_callV3_pi (d := d + 5) (pc' := 54) q87_51 rfl (Nat.le_of_ble_eq_true rfl) (Nat.le_of_ble_eq_true rfl) rfl (t_Tr_fieldFault_37 hρ (d + 3) _ _ _ _) (fun r3 => ?_)
      refine j_istore4 (pc' := 56) q87_54 rfl (Nat.le_of_ble_eq_true rfl) rfl ?_
      refine j_iload (pc' := 58) q87_56 rfl rfl ?_
      refine j_if_eq (pc' := 61) q87_58 rfl (fun c4 => ?_) (fun c4 => ?_)
      · refine j_iload_n (pc' := 78) q87_77 rfl rfl ?_
        refine j_iconst (pc' := 79) q87_78 rfl ?_
        refine j_iconst (pc' := 80) q87_79 rfl ?_
        refine j_callS3_pi (d := d + 5) (pc' := 83) q87_80 (Or.inr rfl) (Nat.le_of_ble_eq_true rfl) (Nat.le_of_ble_eq_true rfl) rfl (t_Y_isIn hρ (d + 5) _ _ _ _) (fun r5 => ?_)
        refine j_if_eq (pc' := 86) q87_83 rfl (fun c6 => ?_) (fun c6 => ?_)
        · exact j_vret q87_93 rfl
        · refine j_aload_n (pc' := 87) q87_86 rfl (by decide) rfl ?_
          refine j_getr (k := 37) (q := 39) (pc' := 90) q87_87 rfl (hρ 37 4 39 rfl) rfl ?_
          refine j_iload_n (pc' := 91) q87_90 rfl rfl ?_
          refine j_iload_n (pc' := 92) q87_91 rfl rfl ?_
          refine j_if (fun hi7 => ?_) (fun _ => j_none)
          refine j_iast (k := 39) (N := 3) (pc' := 93) q87_92 rfl hi7 rfl ?_
          refine j_nameS (fun τ8 => ?_)
          exact j_vret q87_93 rfl
      · refine j_aload_n (pc' := 62) q87_61 rfl (by decide) rfl ?_
        refine j_iload (pc' := 64) q87_62 rfl rfl ?_
        refine j_aload_n (pc' := 65) q87_64 rfl (by decide) rfl ?_
        refine j_getr (k := 37) (q := 40) (pc' := 68) q87_65 rfl (hρ 37 1 40 rfl) rfl ?_
        refine j_getf (k := 40) (pc' := 71) q87_68 rfl rfl ?_
        refine j_callV2_v (d := d + 5) (pc' := 74) q87_71 rfl (Nat.le_of_ble_eq_true rfl) (Nat.le_of_ble_eq_true rfl) rfl (t_Tr_fail_37 hρ (d + 5) _ _ _) (fun r9 => ?_)
        refine j_goto q87_74 rfl ?_
        exact j_vret q87_93 rfl
    · show z_J _ _ _ _ _ _ _ _ _ _ _ _
      refine j_join (T := Unit) 28 (fun t10 => [.ref 37, .int a1, .int a2, .int (-4 : Int32), .null]) (fun t10 => []) (fun t10 => r1) (fun t10 => ?_) (fun j10 hj10 => ?_)
      · show z_J _ _ _ _ _ _ _ _ _ _ _ _
        refine j_aload_n (pc' := 29) q87_28 rfl (by decide) rfl ?_
        refine j_getr (k := 37) (q := 40) (pc' := 32) q87_29 rfl (hρ 37 1 40 rfl) rfl ?_
        refine j_getf (k := 40) (pc' := 35) q87_32 rfl rfl ?_
        refine j_iconst (pc' := 36) q87_35 rfl ?_
        refine j_icmp_ne (pc' := 39) q87_36 rfl (fun c11 => ?_) (fun c11 => ?_)
        · refine j_aload_n (pc' := 40) q87_39 rfl (by decide) rfl ?_
          refine j_getr (k := 37) (q := 40) (pc' := 43) q87_40 rfl (hρ 37 1 40 rfl) rfl ?_
          refine j_getf (k := 40) (pc' := 46) q87_43 rfl rfl ?_
          refine j_istore3 (pc' := 47) q87_46 rfl (Nat.le_of_ble_eq_true rfl) rfl ?_
          refine j_forget (z_le_s (z_le_s (z_le_s (z_le_s (z_le_n (z_le_nil)))))) (hj2 (r1 40 3))
        · refine j_forget (z_le_s (z_le_s (z_le_s (z_le_s (z_le_n (z_le_nil)))))) (hj2 (-4 : Int32))
      · show z_J _ _ _ _ _ _ _ _ _ _ _ _
        refine j_icmp_ne (pc' := 15) q87_12 rfl (fun c12 => ?_) (fun c12 => ?_)
        · refine j_iload_n (pc' := 16) q87_15 rfl rfl ?_
          refine j_iconst (pc' := 17) q87_16 rfl ?_
          refine j_icmp_ne (pc' := 20) q87_17 rfl (fun c13 => ?_) (fun c13 => ?_)
          · refine j_aload_n (pc' := 21) q87_20 rfl (by decide) rfl ?_
            refine j_callV0_pi (d := d + 5) (pc' := 24) q87_21 rfl (Nat.le_of_ble_eq_true rfl) (Nat.le_of_ble_eq_true rfl) rfl (t_Tr_cropNamed_37 hρ (d + 0) _) (fun r14 => ?_)
            refine j_istore3 (pc' := 25) q87_24 rfl (Nat.le_of_ble_eq_true rfl) rfl ?_
            refine j_goto q87_25 rfl ?_
            refine j_forget (z_le_s (z_le_s (z_le_s (z_le_s (z_le_n (z_le_nil)))))) (hj2 r14)
          · refine j_forget (z_le_s (z_le_s (z_le_s (z_le_s (z_le_n (z_le_nil)))))) (hj10 ())
        · refine j_forget (z_le_s (z_le_s (z_le_s (z_le_s (z_le_n (z_le_nil)))))) (hj10 ())
theorem q14_0 : z_fi (z_mi 14) 0 = some (0, .iload_n 1, 0, 0, 0, 0, 0) := rfl
theorem q14_1 : z_fi (z_mi 14) 1 = some (1, .iconst 0, 0, 0, 0, 0, 0) := rfl
theorem q14_2 : z_fi (z_mi 14) 2 = some (2, .bipush 15, 0, 0, 0, 15, 0) := rfl
theorem q14_4 : z_fi (z_mi 14) 4 = some (4, .invokestatic 106, 4, 99, 3, 0, 0) := rfl
theorem q14_7 : z_fi (z_mi 14) 7 = some (7, .ifCond .eq 17, 0, 24, 0, 0, 0) := rfl
theorem q14_10 : z_fi (z_mi 14) 10 = some (10, .aload_n 0, 0, 0, 0, 0, 0) := rfl
theorem q14_11 : z_fi (z_mi 14) 11 = some (11, .getfield 9, 0, 0, 2, 0, 0) := rfl
theorem q14_14 : z_fi (z_mi 14) 14 = some (14, .iload_n 1, 0, 0, 0, 0, 0) := rfl
theorem q14_15 : z_fi (z_mi 14) 15 = some (15, .iload_n 2, 0, 0, 0, 0, 0) := rfl
theorem q14_16 : z_fi (z_mi 14) 16 = some (16, .iastore, 0, 0, 0, 0, 0) := rfl
theorem q14_17 : z_fi (z_mi 14) 17 = some (17, .aload_n 0, 0, 0, 0, 0, 0) := rfl
theorem q14_18 : z_fi (z_mi 14) 18 = some (18, .getfield 15, 0, 0, 3, 0, 0) := rfl
theorem q14_21 : z_fi (z_mi 14) 21 = some (21, .iload_n 1, 0, 0, 0, 0, 0) := rfl
theorem q14_22 : z_fi (z_mi 14) 22 = some (22, .iload_n 3, 0, 0, 0, 0, 0) := rfl
theorem q14_23 : z_fi (z_mi 14) 23 = some (23, .iastore, 0, 0, 0, 0, 0) := rfl
theorem q14_24 : z_fi (z_mi 14) 24 = some (24, .return_, 0, 0, 0, 0, 0) := rfl
set_option maxRecDepth 20000 in
set_option maxHeartbeats 4000000 in
theorem t_G_set_17 {xL : Nat} {xs : Nat → Int32} {ρ : Nat → Nat → Option Nat} (hρ : z_hR ρ) (d : Nat) (a1 : Int32) (a2 : Int32) (a3 : Int32) (σ : zS) : ∀ q, f_G_set_17 a1 a2 a3 σ = some q → z_ec xL xs ρ (d + 1) 14 [.ref 17, .int a1, .int a2, .int a3] σ (em_v q) := by
  refine j_of (W := [.ref 17, .int a1, .int a2, .int a3]) (fun L hL => ?_) ?_
  · subst hL; exact z_vl_0 _ 0 rfl
  · unfold f_G_set_17
    refine j_iload_n (pc' := 1) q14_0 rfl rfl ?_
    refine j_iconst (pc' := 2) q14_1 rfl ?_
    refine j_bipush (pc' := 4) q14_2 rfl ?_
    refine j_callS3_pi (d := d + 0) (pc' := 7) q14_4 (Or.inr rfl) (Nat.le_of_ble_eq_true rfl) (Nat.le_of_ble_eq_true rfl) rfl (t_Y_isIn hρ (d + 0) _ _ _ _) (fun r1 => ?_)
    refine j_if_eq (pc' := 10) q14_7 rfl (fun c2 => ?_) (fun c2 => ?_)
    · exact j_vret q14_24 rfl
    · refine j_aload_n (pc' := 11) q14_10 rfl (by decide) rfl ?_
      refine j_getr (k := 17) (q := 18) (pc' := 14) q14_11 rfl (hρ 17 2 18 rfl) rfl ?_
      refine j_iload_n (pc' := 15) q14_14 rfl rfl ?_
      refine j_iload_n (pc' := 16) q14_15 rfl rfl ?_
      refine j_if (fun hi3 => ?_) (fun _ => j_none)
      refine j_iast (k := 18) (N := 16) (pc' := 17) q14_16 rfl hi3 rfl ?_
      refine j_nameS (fun τ4 => ?_)
      refine j_aload_n (pc' := 18) q14_17 rfl (by decide) rfl ?_
      refine j_getr (k := 17) (q := 19) (pc' := 21) q14_18 rfl (hρ 17 3 19 rfl) rfl ?_
      refine j_iload_n (pc' := 22) q14_21 rfl rfl ?_
      refine j_iload_n (pc' := 23) q14_22 rfl rfl ?_
      refine j_if (fun hi5 => ?_) (fun _ => j_none)
      refine j_iast (k := 19) (N := 16) (pc' := 24) q14_23 rfl hi5 rfl ?_
      refine j_nameS (fun τ6 => ?_)
      exact j_vret q14_24 rfl
theorem q16_0 : z_fi (z_mi 16) 0 = some (0, .iload_n 1, 0, 0, 0, 0, 0) := rfl
theorem q16_1 : z_fi (z_mi 16) 1 = some (1, .iconst 0, 0, 0, 0, 0, 0) := rfl
theorem q16_2 : z_fi (z_mi 16) 2 = some (2, .bipush 15, 0, 0, 0, 15, 0) := rfl
theorem q16_4 : z_fi (z_mi 16) 4 = some (4, .invokestatic 106, 4, 99, 3, 0, 0) := rfl
theorem q16_7 : z_fi (z_mi 16) 7 = some (7, .ifCond .eq 17, 0, 24, 0, 0, 0) := rfl
theorem q16_10 : z_fi (z_mi 16) 10 = some (10, .aload_n 0, 0, 0, 0, 0, 0) := rfl
theorem q16_11 : z_fi (z_mi 16) 11 = some (11, .getfield 18, 0, 0, 4, 0, 0) := rfl
theorem q16_14 : z_fi (z_mi 16) 14 = some (14, .iload_n 1, 0, 0, 0, 0, 0) := rfl
theorem q16_15 : z_fi (z_mi 16) 15 = some (15, .iload_n 2, 0, 0, 0, 0, 0) := rfl
theorem q16_16 : z_fi (z_mi 16) 16 = some (16, .iastore, 0, 0, 0, 0, 0) := rfl
theorem q16_17 : z_fi (z_mi 16) 17 = some (17, .aload_n 0, 0, 0, 0, 0, 0) := rfl
theorem q16_18 : z_fi (z_mi 16) 18 = some (18, .getfield 21, 0, 0, 5, 0, 0) := rfl
theorem q16_21 : z_fi (z_mi 16) 21 = some (21, .iload_n 1, 0, 0, 0, 0, 0) := rfl
theorem q16_22 : z_fi (z_mi 16) 22 = some (22, .iconst 0, 0, 0, 0, 0, 0) := rfl
theorem q16_23 : z_fi (z_mi 16) 23 = some (23, .iastore, 0, 0, 0, 0, 0) := rfl
theorem q16_24 : z_fi (z_mi 16) 24 = some (24, .return_, 0, 0, 0, 0, 0) := rfl
set_option maxRecDepth 20000 in
set_option maxHeartbeats 4000000 in
theorem t_G_setCrop_17 {xL : Nat} {xs : Nat → Int32} {ρ : Nat → Nat → Option Nat} (hρ : z_hR ρ) (d : Nat) (a1 : Int32) (a2 : Int32) (σ : zS) : ∀ q, f_G_setCrop_17 a1 a2 σ = some q → z_ec xL xs ρ (d + 1) 16 [.ref 17, .int a1, .int a2] σ (em_v q) := by
  refine j_of (W := [.ref 17, .int a1, .int a2]) (fun L hL => ?_) ?_
  · subst hL; exact z_vl_0 _ 0 rfl
  · unfold f_G_setCrop_17
    refine j_iload_n (pc' := 1) q16_0 rfl rfl ?_
    refine j_iconst (pc' := 2) q16_1 rfl ?_
    refine j_bipush (pc' := 4) q16_2 rfl ?_
    refine j_callS3_pi (d := d + 0) (pc' := 7) q16_4 (Or.inr rfl) (Nat.le_of_ble_eq_true rfl) (Nat.le_of_ble_eq_true rfl) rfl (t_Y_isIn hρ (d + 0) _ _ _ _) (fun r1 => ?_)
    refine j_if_eq (pc' := 10) q16_7 rfl (fun c2 => ?_) (fun c2 => ?_)
    · exact j_vret q16_24 rfl
    · refine j_aload_n (pc' := 11) q16_10 rfl (by decide) rfl ?_
      refine j_getr (k := 17) (q := 20) (pc' := 14) q16_11 rfl (hρ 17 4 20 rfl) rfl ?_
      refine j_iload_n (pc' := 15) q16_14 rfl rfl ?_
      refine j_iload_n (pc' := 16) q16_15 rfl rfl ?_
      refine j_if (fun hi3 => ?_) (fun _ => j_none)
      refine j_iast (k := 20) (N := 16) (pc' := 17) q16_16 rfl hi3 rfl ?_
      refine j_nameS (fun τ4 => ?_)
      refine j_aload_n (pc' := 18) q16_17 rfl (by decide) rfl ?_
      refine j_getr (k := 17) (q := 21) (pc' := 21) q16_18 rfl (hρ 17 5 21 rfl) rfl ?_
      refine j_iload_n (pc' := 22) q16_21 rfl rfl ?_
      refine j_iconst (pc' := 23) q16_22 rfl ?_
      refine j_if (fun hi5 => ?_) (fun _ => j_none)
      refine j_iast (k := 21) (N := 16) (pc' := 24) q16_23 rfl hi5 rfl ?_
      refine j_nameS (fun τ6 => ?_)
      exact j_vret q16_24 rfl
theorem q17_0 : z_fi (z_mi 17) 0 = some (0, .iload_n 1, 0, 0, 0, 0, 0) := rfl
theorem q17_1 : z_fi (z_mi 17) 1 = some (1, .iconst 0, 0, 0, 0, 0, 0) := rfl
theorem q17_2 : z_fi (z_mi 17) 2 = some (2, .bipush 15, 0, 0, 0, 15, 0) := rfl
theorem q17_4 : z_fi (z_mi 17) 4 = some (4, .invokestatic 106, 4, 99, 3, 0, 0) := rfl
theorem q17_7 : z_fi (z_mi 17) 7 = some (7, .ifCond .eq 10, 0, 17, 0, 0, 0) := rfl
theorem q17_10 : z_fi (z_mi 17) 10 = some (10, .aload_n 0, 0, 0, 0, 0, 0) := rfl
theorem q17_11 : z_fi (z_mi 17) 11 = some (11, .getfield 24, 0, 0, 6, 0, 0) := rfl
theorem q17_14 : z_fi (z_mi 17) 14 = some (14, .iload_n 1, 0, 0, 0, 0, 0) := rfl
theorem q17_15 : z_fi (z_mi 17) 15 = some (15, .iload_n 2, 0, 0, 0, 0, 0) := rfl
theorem q17_16 : z_fi (z_mi 17) 16 = some (16, .iastore, 0, 0, 0, 0, 0) := rfl
theorem q17_17 : z_fi (z_mi 17) 17 = some (17, .return_, 0, 0, 0, 0, 0) := rfl
set_option maxRecDepth 20000 in
set_option maxHeartbeats 4000000 in
theorem t_G_setOwner_17 {xL : Nat} {xs : Nat → Int32} {ρ : Nat → Nat → Option Nat} (hρ : z_hR ρ) (d : Nat) (a1 : Int32) (a2 : Int32) (σ : zS) : ∀ q, f_G_setOwner_17 a1 a2 σ = some q → z_ec xL xs ρ (d + 1) 17 [.ref 17, .int a1, .int a2] σ (em_v q) := by
  refine j_of (W := [.ref 17, .int a1, .int a2]) (fun L hL => ?_) ?_
  · subst hL; exact z_vl_0 _ 0 rfl
  · unfold f_G_setOwner_17
    refine j_iload_n (pc' := 1) q17_0 rfl rfl ?_
    refine j_iconst (pc' := 2) q17_1 rfl ?_
    refine j_bipush (pc' := 4) q17_2 rfl ?_
    refine j_callS3_pi (d := d + 0) (pc' := 7) q17_4 (Or.inr rfl) (Nat.le_of_ble_eq_true rfl) (Nat.le_of_ble_eq_true rfl) rfl (t_Y_isIn hρ (d + 0) _ _ _ _) (fun r1 => ?_)
    refine j_if_eq (pc' := 10) q17_7 rfl (fun c2 => ?_) (fun c2 => ?_)
    · exact j_vret q17_17 rfl
    · refine j_aload_n (pc' := 11) q17_10 rfl (by decide) rfl ?_
      refine j_getr (k := 17) (q := 22) (pc' := 14) q17_11 rfl (hρ 17 6 22 rfl) rfl ?_
      refine j_iload_n (pc' := 15) q17_14 rfl rfl ?_
      refine j_iload_n (pc' := 16) q17_15 rfl rfl ?_
      refine j_if (fun hi3 => ?_) (fun _ => j_none)
      refine j_iast (k := 22) (N := 16) (pc' := 17) q17_16 rfl hi3 rfl ?_
      refine j_nameS (fun τ4 => ?_)
      exact j_vret q17_17 rfl
theorem q12_0 : z_fi (z_mi 12) 0 = some (0, .aload_n 0, 0, 0, 0, 0, 0) := rfl
theorem q12_1 : z_fi (z_mi 12) 1 = some (1, .iload_n 2, 0, 0, 0, 0, 0) := rfl
theorem q12_2 : z_fi (z_mi 12) 2 = some (2, .ifCond .eq 14, 0, 16, 0, 0, 0) := rfl
theorem q12_5 : z_fi (z_mi 12) 5 = some (5, .aload_n 0, 0, 0, 0, 0, 0) := rfl
theorem q12_6 : z_fi (z_mi 12) 6 = some (6, .getfield 66, 0, 0, 7, 0, 0) := rfl
theorem q12_9 : z_fi (z_mi 12) 9 = some (9, .iconst 1, 0, 0, 0, 1, 0) := rfl
theorem q12_10 : z_fi (z_mi 12) 10 = some (10, .iload_n 1, 0, 0, 0, 0, 0) := rfl
theorem q12_11 : z_fi (z_mi 12) 11 = some (11, .ishl, 0, 0, 0, 0, 0) := rfl
theorem q12_12 : z_fi (z_mi 12) 12 = some (12, .ior, 0, 0, 0, 0, 0) := rfl
theorem q12_13 : z_fi (z_mi 12) 13 = some (13, .goto 13, 0, 26, 0, 0, 0) := rfl
theorem q12_16 : z_fi (z_mi 12) 16 = some (16, .aload_n 0, 0, 0, 0, 0, 0) := rfl
theorem q12_17 : z_fi (z_mi 12) 17 = some (17, .getfield 66, 0, 0, 7, 0, 0) := rfl
theorem q12_20 : z_fi (z_mi 12) 20 = some (20, .iconst 1, 0, 0, 0, 1, 0) := rfl
theorem q12_21 : z_fi (z_mi 12) 21 = some (21, .iload_n 1, 0, 0, 0, 0, 0) := rfl
theorem q12_22 : z_fi (z_mi 12) 22 = some (22, .ishl, 0, 0, 0, 0, 0) := rfl
theorem q12_23 : z_fi (z_mi 12) 23 = some (23, .iconst (-1), 0, 0, 0, (-1), 0) := rfl
theorem q12_24 : z_fi (z_mi 12) 24 = some (24, .ixor, 0, 0, 0, 0, 0) := rfl
theorem q12_25 : z_fi (z_mi 12) 25 = some (25, .iand, 0, 0, 0, 0, 0) := rfl
theorem q12_26 : z_fi (z_mi 12) 26 = some (26, .putfield 66, 0, 0, 7, 0, 0) := rfl
theorem q12_29 : z_fi (z_mi 12) 29 = some (29, .return_, 0, 0, 0, 0, 0) := rfl
set_option maxRecDepth 20000 in
set_option maxHeartbeats 4000000 in
theorem t_G_setWall_17 {xL : Nat} {xs : Nat → Int32} {ρ : Nat → Nat → Option Nat} (hρ : z_hR ρ) (d : Nat) (a1 : Int32) (a2 : Int32) (σ : zS) : ∀ q, f_G_setWall_17 a1 a2 σ = some q → z_ec xL xs ρ (d + 0) 12 [.ref 17, .int a1, .int a2] σ (em_v q) := by
  refine j_of (W := [.ref 17, .int a1, .int a2]) (fun L hL => ?_) ?_
  · subst hL; exact z_vl_0 _ 0 rfl
  · unfold f_G_setWall_17
    refine j_aload_n (pc' := 1) q12_0 rfl (by decide) rfl ?_
    refine j_iload_n (pc' := 2) q12_1 rfl rfl ?_
    refine j_join (T := Int32) 26 (fun t1 => [.null, .null, .null]) (fun t1 => [.int t1, .ref 17]) (fun t1 => σ) (fun t1 => ?_) (fun j1 hj1 => ?_)
    · show z_J _ _ _ _ _ _ _ _ _ _ _ _
      refine j_putf (k := 17) (pc' := 29) q12_26 rfl rfl ?_
      refine j_nameS (fun τ2 => ?_)
      exact j_vret q12_29 rfl
    · show z_J _ _ _ _ _ _ _ _ _ _ _ _
      refine j_if_eq (pc' := 5) q12_2 rfl (fun c3 => ?_) (fun c3 => ?_)
      · refine j_aload_n (pc' := 17) q12_16 rfl (by decide) rfl ?_
        refine j_getf (k := 17) (pc' := 20) q12_17 rfl rfl ?_
        refine j_iconst (pc' := 21) q12_20 rfl ?_
        refine j_iload_n (pc' := 22) q12_21 rfl rfl ?_
        refine j_ishl (pc' := 23) q12_22 rfl ?_
        refine j_iconst (pc' := 24) q12_23 rfl ?_
        refine j_ixor (pc' := 25) q12_24 rfl ?_
        refine j_iand (pc' := 26) q12_25 rfl ?_
        refine j_forget (z_le_n (z_le_n (z_le_n (z_le_nil)))) (hj1 ((σ 17 7) &&& (((1 : Int32) <<< (a1 &&& 31)) ^^^ (-1 : Int32))))
      · refine j_aload_n (pc' := 6) q12_5 rfl (by decide) rfl ?_
        refine j_getf (k := 17) (pc' := 9) q12_6 rfl rfl ?_
        refine j_iconst (pc' := 10) q12_9 rfl ?_
        refine j_iload_n (pc' := 11) q12_10 rfl rfl ?_
        refine j_ishl (pc' := 12) q12_11 rfl ?_
        refine j_ior (pc' := 13) q12_12 rfl ?_
        refine j_goto q12_13 rfl ?_
        refine j_forget (z_le_n (z_le_n (z_le_n (z_le_nil)))) (hj1 ((σ 17 7) ||| ((1 : Int32) <<< (a1 &&& 31))))
theorem q36_0 : z_fi (z_mi 36) 0 = some (0, .aload_n 0, 0, 0, 0, 0, 0) := rfl
theorem q36_1 : z_fi (z_mi 36) 1 = some (1, .getfield 21, 0, 1, 3, 0, 0) := rfl
theorem q36_4 : z_fi (z_mi 36) 4 = some (4, .iconst 5, 0, 0, 0, 5, 0) := rfl
theorem q36_5 : z_fi (z_mi 36) 5 = some (5, .if_icmp .ge 43, 0, 48, 0, 0, 0) := rfl
theorem q36_8 : z_fi (z_mi 36) 8 = some (8, .aload_n 0, 0, 0, 0, 0, 0) := rfl
theorem q36_9 : z_fi (z_mi 36) 9 = some (9, .getfield 9, 0, 1, 0, 0, 0) := rfl
theorem q36_12 : z_fi (z_mi 36) 12 = some (12, .aload_n 0, 0, 0, 0, 0, 0) := rfl
theorem q36_13 : z_fi (z_mi 36) 13 = some (13, .getfield 21, 0, 1, 3, 0, 0) := rfl
theorem q36_16 : z_fi (z_mi 36) 16 = some (16, .iload_n 1, 0, 0, 0, 0, 0) := rfl
theorem q36_17 : z_fi (z_mi 36) 17 = some (17, .iastore, 0, 0, 0, 0, 0) := rfl
theorem q36_18 : z_fi (z_mi 36) 18 = some (18, .aload_n 0, 0, 0, 0, 0, 0) := rfl
theorem q36_19 : z_fi (z_mi 36) 19 = some (19, .getfield 15, 0, 1, 1, 0, 0) := rfl
theorem q36_22 : z_fi (z_mi 36) 22 = some (22, .aload_n 0, 0, 0, 0, 0, 0) := rfl
theorem q36_23 : z_fi (z_mi 36) 23 = some (23, .getfield 21, 0, 1, 3, 0, 0) := rfl
theorem q36_26 : z_fi (z_mi 36) 26 = some (26, .iload_n 2, 0, 0, 0, 0, 0) := rfl
theorem q36_27 : z_fi (z_mi 36) 27 = some (27, .iastore, 0, 0, 0, 0, 0) := rfl
theorem q36_28 : z_fi (z_mi 36) 28 = some (28, .aload_n 0, 0, 0, 0, 0, 0) := rfl
theorem q36_29 : z_fi (z_mi 36) 29 = some (29, .getfield 18, 0, 1, 2, 0, 0) := rfl
theorem q36_32 : z_fi (z_mi 36) 32 = some (32, .aload_n 0, 0, 0, 0, 0, 0) := rfl
theorem q36_33 : z_fi (z_mi 36) 33 = some (33, .getfield 21, 0, 1, 3, 0, 0) := rfl
theorem q36_36 : z_fi (z_mi 36) 36 = some (36, .iload_n 3, 0, 0, 0, 0, 0) := rfl
theorem q36_37 : z_fi (z_mi 36) 37 = some (37, .iastore, 0, 0, 0, 0, 0) := rfl
theorem q36_38 : z_fi (z_mi 36) 38 = some (38, .aload_n 0, 0, 0, 0, 0, 0) := rfl
theorem q36_39 : z_fi (z_mi 36) 39 = some (39, .dup, 0, 0, 0, 0, 0) := rfl
theorem q36_40 : z_fi (z_mi 36) 40 = some (40, .getfield 21, 0, 1, 3, 0, 0) := rfl
theorem q36_43 : z_fi (z_mi 36) 43 = some (43, .iconst 1, 0, 0, 0, 1, 0) := rfl
theorem q36_44 : z_fi (z_mi 36) 44 = some (44, .iadd, 0, 0, 0, 0, 0) := rfl
theorem q36_45 : z_fi (z_mi 36) 45 = some (45, .putfield 21, 0, 1, 3, 0, 0) := rfl
theorem q36_48 : z_fi (z_mi 36) 48 = some (48, .return_, 0, 0, 0, 0, 0) := rfl
set_option maxRecDepth 20000 in
set_option maxHeartbeats 4000000 in
theorem t_Lw_add_23 {xL : Nat} {xs : Nat → Int32} {ρ : Nat → Nat → Option Nat} (hρ : z_hR ρ) (d : Nat) (a1 : Int32) (a2 : Int32) (a3 : Int32) (σ : zS) : ∀ q, f_Lw_add_23 a1 a2 a3 σ = some q → z_ec xL xs ρ (d + 0) 36 [.ref 23, .int a1, .int a2, .int a3] σ (em_v q) := by
  refine j_of (W := [.ref 23, .int a1, .int a2, .int a3]) (fun L hL => ?_) ?_
  · subst hL; exact z_vl_0 _ 0 rfl
  · unfold f_Lw_add_23
    refine j_aload_n (pc' := 1) q36_0 rfl (by decide) rfl ?_
    refine j_getf (k := 23) (pc' := 4) q36_1 rfl rfl ?_
    refine j_iconst (pc' := 5) q36_4 rfl ?_
    refine j_icmp_ge (pc' := 8) q36_5 rfl (fun c1 => ?_) (fun c1 => ?_)
    · exact j_vret q36_48 rfl
    · refine j_aload_n (pc' := 9) q36_8 rfl (by decide) rfl ?_
      refine j_getr (k := 23) (q := 24) (pc' := 12) q36_9 rfl (hρ 23 0 24 rfl) rfl ?_
      refine j_aload_n (pc' := 13) q36_12 rfl (by decide) rfl ?_
      refine j_getf (k := 23) (pc' := 16) q36_13 rfl rfl ?_
      refine j_iload_n (pc' := 17) q36_16 rfl rfl ?_
      refine j_if (fun hi2 => ?_) (fun _ => j_none)
      refine j_iast (k := 24) (N := 5) (pc' := 18) q36_17 rfl hi2 rfl ?_
      refine j_nameS (fun τ3 => ?_)
      refine j_aload_n (pc' := 19) q36_18 rfl (by decide) rfl ?_
      refine j_getr (k := 23) (q := 25) (pc' := 22) q36_19 rfl (hρ 23 1 25 rfl) rfl ?_
      refine j_aload_n (pc' := 23) q36_22 rfl (by decide) rfl ?_
      refine j_getf (k := 23) (pc' := 26) q36_23 rfl rfl ?_
      refine j_iload_n (pc' := 27) q36_26 rfl rfl ?_
      refine j_if (fun hi4 => ?_) (fun _ => j_none)
      refine j_iast (k := 25) (N := 5) (pc' := 28) q36_27 rfl hi4 rfl ?_
      refine j_nameS (fun τ5 => ?_)
      refine j_aload_n (pc' := 29) q36_28 rfl (by decide) rfl ?_
      refine j_getr (k := 23) (q := 26) (pc' := 32) q36_29 rfl (hρ 23 2 26 rfl) rfl ?_
      refine j_aload_n (pc' := 33) q36_32 rfl (by decide) rfl ?_
      refine j_getf (k := 23) (pc' := 36) q36_33 rfl rfl ?_
      refine j_iload_n (pc' := 37) q36_36 rfl rfl ?_
      refine j_if (fun hi6 => ?_) (fun _ => j_none)
      refine j_iast (k := 26) (N := 5) (pc' := 38) q36_37 rfl hi6 rfl ?_
      refine j_nameS (fun τ7 => ?_)
      refine j_aload_n (pc' := 39) q36_38 rfl (by decide) rfl ?_
      refine j_dup (pc' := 40) q36_39 rfl rfl ?_
      refine j_getf (k := 23) (pc' := 43) q36_40 rfl rfl ?_
      refine j_iconst (pc' := 44) q36_43 rfl ?_
      refine j_iadd (pc' := 45) q36_44 rfl ?_
      refine j_putf (k := 23) (pc' := 48) q36_45 rfl rfl ?_
      refine j_nameS (fun τ8 => ?_)
      exact j_vret q36_48 rfl
theorem q100_0 : z_fi (z_mi 100) 0 = some (0, .iload_n 0, 0, 0, 0, 0, 0) := rfl
theorem q100_1 : z_fi (z_mi 100) 1 = some (1, .iconst 0, 0, 0, 0, 0, 0) := rfl
theorem q100_2 : z_fi (z_mi 100) 2 = some (2, .iconst 3, 0, 0, 0, 3, 0) := rfl
theorem q100_3 : z_fi (z_mi 100) 3 = some (3, .invokestatic 60, 1, 99, 3, 0, 0) := rfl
theorem q100_6 : z_fi (z_mi 100) 6 = some (6, .ireturn, 0, 0, 0, 0, 0) := rfl
set_option maxRecDepth 20000 in
set_option maxHeartbeats 4000000 in
theorem t_Y_isSeason {xL : Nat} {xs : Nat → Int32} {ρ : Nat → Nat → Option Nat} (hρ : z_hR ρ) (d : Nat) (a0 : Int32) (σ : zS) : ∀ q, f_Y_isSeason a0 σ = some q → z_ec xL xs ρ (d + 1) 100 [.int a0] σ (em_pi σ q) := by
  refine j_of (W := [.int a0]) (fun L hL => ?_) ?_
  · subst hL; exact z_vl_0 _ 0 rfl
  · unfold f_Y_isSeason
    refine j_iload_n (pc' := 1) q100_0 rfl rfl ?_
    refine j_iconst (pc' := 2) q100_1 rfl ?_
    refine j_iconst (pc' := 3) q100_2 rfl ?_
    refine j_callS3_pi (d := d + 0) (pc' := 6) q100_3 (Or.inl rfl) (Nat.le_of_ble_eq_true rfl) (Nat.le_of_ble_eq_true rfl) rfl (t_Y_isIn hρ (d + 0) _ _ _ _) (fun r1 => ?_)
    refine j_if (fun hb2 => ?_) (fun _ => j_none)
    exact j_pzret q100_6 rfl hb2
theorem q62_0 : z_fi (z_mi 62) 0 = some (0, .iload_n 1, 0, 0, 0, 0, 0) := rfl
theorem q62_1 : z_fi (z_mi 62) 1 = some (1, .invokestatic 28, 4, 100, 1, 0, 0) := rfl
theorem q62_4 : z_fi (z_mi 62) 4 = some (4, .ifCond .eq 17, 0, 21, 0, 0, 0) := rfl
theorem q62_7 : z_fi (z_mi 62) 7 = some (7, .aload_n 0, 0, 0, 0, 0, 0) := rfl
theorem q62_8 : z_fi (z_mi 62) 8 = some (8, .getfield 9, 0, 4, 0, 0, 0) := rfl
theorem q62_11 : z_fi (z_mi 62) 11 = some (11, .iload_n 1, 0, 0, 0, 0, 0) := rfl
theorem q62_12 : z_fi (z_mi 62) 12 = some (12, .iload_n 2, 0, 0, 0, 0, 0) := rfl
theorem q62_13 : z_fi (z_mi 62) 13 = some (13, .iastore, 0, 0, 0, 0, 0) := rfl
theorem q62_14 : z_fi (z_mi 62) 14 = some (14, .aload_n 0, 0, 0, 0, 0, 0) := rfl
theorem q62_15 : z_fi (z_mi 62) 15 = some (15, .getfield 15, 0, 4, 1, 0, 0) := rfl
theorem q62_18 : z_fi (z_mi 62) 18 = some (18, .iload_n 1, 0, 0, 0, 0, 0) := rfl
theorem q62_19 : z_fi (z_mi 62) 19 = some (19, .iload_n 3, 0, 0, 0, 0, 0) := rfl
theorem q62_20 : z_fi (z_mi 62) 20 = some (20, .iastore, 0, 0, 0, 0, 0) := rfl
theorem q62_21 : z_fi (z_mi 62) 21 = some (21, .return_, 0, 0, 0, 0, 0) := rfl
set_option maxRecDepth 20000 in
set_option maxHeartbeats 4000000 in
theorem t_Sp_offer_27 {xL : Nat} {xs : Nat → Int32} {ρ : Nat → Nat → Option Nat} (hρ : z_hR ρ) (d : Nat) (a1 : Int32) (a2 : Int32) (a3 : Int32) (σ : zS) : ∀ q, f_Sp_offer_27 a1 a2 a3 σ = some q → z_ec xL xs ρ (d + 2) 62 [.ref 27, .int a1, .int a2, .int a3] σ (em_v q) := by
  refine j_of (W := [.ref 27, .int a1, .int a2, .int a3]) (fun L hL => ?_) ?_
  · subst hL; exact z_vl_0 _ 0 rfl
  · unfold f_Sp_offer_27
    refine j_iload_n (pc' := 1) q62_0 rfl rfl ?_
    refine j_callS1_pi (d := d + 1) (pc' := 4) q62_1 (Or.inr rfl) (Nat.le_of_ble_eq_true rfl) (Nat.le_of_ble_eq_true rfl) rfl (t_Y_isSeason hρ (d + 0) _ _) (fun r1 => ?_)
    refine j_if_eq (pc' := 7) q62_4 rfl (fun c2 => ?_) (fun c2 => ?_)
    · exact j_vret q62_21 rfl
    · refine j_aload_n (pc' := 8) q62_7 rfl (by decide) rfl ?_
      refine j_getr (k := 27) (q := 28) (pc' := 11) q62_8 rfl (hρ 27 0 28 rfl) rfl ?_
      refine j_iload_n (pc' := 12) q62_11 rfl rfl ?_
      refine j_iload_n (pc' := 13) q62_12 rfl rfl ?_
      refine j_if (fun hi3 => ?_) (fun _ => j_none)
      refine j_iast (k := 28) (N := 4) (pc' := 14) q62_13 rfl hi3 rfl ?_
      refine j_nameS (fun τ4 => ?_)
      refine j_aload_n (pc' := 15) q62_14 rfl (by decide) rfl ?_
      refine j_getr (k := 27) (q := 29) (pc' := 18) q62_15 rfl (hρ 27 1 29 rfl) rfl ?_
      refine j_iload_n (pc' := 19) q62_18 rfl rfl ?_
      refine j_iload_n (pc' := 20) q62_19 rfl rfl ?_
      refine j_if (fun hi5 => ?_) (fun _ => j_none)
      refine j_iast (k := 29) (N := 4) (pc' := 21) q62_20 rfl hi5 rfl ?_
      refine j_nameS (fun τ6 => ?_)
      exact j_vret q62_21 rfl
