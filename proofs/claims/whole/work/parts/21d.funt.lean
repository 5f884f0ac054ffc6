/-! the abstract machine runs as the functions say, by wip/whole/gen_fun.py -/
theorem q180_0 : z_fi (z_mi 180) 0 = some (0, .aload_n 0, 0, 0, 0, 0, 0) := rfl
theorem q180_1 : z_fi (z_mi 180) 1 = some (1, .iload_n 1, 0, 0, 0, 0, 0) := rfl
theorem q180_2 : z_fi (z_mi 180) 2 = some (2, .iload_n 2, 0, 0, 0, 0, 0) := rfl
theorem q180_3 : z_fi (z_mi 180) 3 = some (3, .iload_n 3, 0, 0, 0, 0, 0) := rfl
theorem q180_4 : z_fi (z_mi 180) 4 = some (4, .invokevirtual 191, 0, 179, 3, 0, 0) := rfl
theorem q180_7 : z_fi (z_mi 180) 7 = some (7, .ireturn, 0, 0, 0, 0, 0) := rfl
set_option maxRecDepth 20000 in
set_option maxHeartbeats 4000000 in
theorem t_M_lay {xL : Nat} {xs : Nat → Int32} {ρ : Nat → Nat → Option Nat} (hρ : z_hR ρ) (d : Nat) (a1 : Int32) (a2 : Int32) (a3 : Int32) (σ : zS) : ∀ q, f_M_lay a1 a2 a3 σ = some q → z_ec xL xs ρ (d + 3) 180 [.ref 90, .int a1, .int a2, .int a3] σ (em_i q) := by
  refine j_of (W := [.ref 90, .int a1, .int a2, .int a3]) (fun L hL => ?_) ?_
  · subst hL; exact z_vl_0 _ 0 rfl
  · unfold f_M_lay
    refine j_aload_n (pc' := 1) q180_0 rfl (by decide) rfl ?_
    refine j_iload_n (pc' := 2) q180_1 rfl rfl ?_
    refine j_iload_n (pc' := 3) q180_2 rfl rfl ?_
    refine j_iload_n (pc' := 4) q180_3 rfl rfl ?_
    refine j_callV3_i (d := d + 2) (pc' := 7) q180_4 rfl (Nat.le_of_ble_eq_true rfl) (Nat.le_of_ble_eq_true rfl) rfl (t_M_buys hρ (d + 0) _ _ _ _) (fun r1 => ?_)
    exact j_iret q180_7 rfl
theorem q15_0 : z_fi (z_mi 15) 0 = some (0, .aload_n 0, 0, 0, 0, 0, 0) := rfl
theorem q15_1 : z_fi (z_mi 15) 1 = some (1, .iload_n 1, 0, 0, 0, 0, 0) := rfl
theorem q15_2 : z_fi (z_mi 15) 2 = some (2, .iconst 4, 0, 0, 0, 4, 0) := rfl
theorem q15_3 : z_fi (z_mi 15) 3 = some (3, .iconst 0, 0, 0, 0, 0, 0) := rfl
theorem q15_4 : z_fi (z_mi 15) 4 = some (4, .invokevirtual 110, 0, 14, 3, 0, 0) := rfl
theorem q15_7 : z_fi (z_mi 15) 7 = some (7, .return_, 0, 0, 0, 0, 0) := rfl
set_option maxRecDepth 20000 in
set_option maxHeartbeats 4000000 in
theorem t_G_setBare_1 {xL : Nat} {xs : Nat → Int32} {ρ : Nat → Nat → Option Nat} (hρ : z_hR ρ) (d : Nat) (a1 : Int32) (σ : zS) : ∀ q, f_G_setBare_1 a1 σ = some q → z_ec xL xs ρ (d + 2) 15 [.ref 1, .int a1] σ (em_v q) := by
  refine j_of (W := [.ref 1, .int a1]) (fun L hL => ?_) ?_
  · subst hL; exact z_vl_0 _ 0 rfl
  · unfold f_G_setBare_1
    refine j_aload_n (pc' := 1) q15_0 rfl (by decide) rfl ?_
    refine j_iload_n (pc' := 2) q15_1 rfl rfl ?_
    refine j_iconst (pc' := 3) q15_2 rfl ?_
    refine j_iconst (pc' := 4) q15_3 rfl ?_
    refine j_callV3_v (d := d + 1) (pc' := 7) q15_4 rfl (Nat.le_of_ble_eq_true rfl) (Nat.le_of_ble_eq_true rfl) rfl (t_G_set_1 hρ (d + 0) _ _ _ _) (fun r1 => ?_)
    exact j_vret q15_7 rfl
theorem q112_0 : z_fi (z_mi 112) 0 = some (0, .aload_n 0, 0, 0, 0, 0, 0) := rfl
theorem q112_1 : z_fi (z_mi 112) 1 = some (1, .getfield 10, 0, 9, 0, 0, 0) := rfl
theorem q112_4 : z_fi (z_mi 112) 4 = some (4, .iload_n 1, 0, 0, 0, 0, 0) := rfl
theorem q112_5 : z_fi (z_mi 112) 5 = some (5, .invokevirtual 165, 0, 8, 1, 0, 0) := rfl
theorem q112_8 : z_fi (z_mi 112) 8 = some (8, .ifCond .ne 5, 0, 13, 0, 0, 0) := rfl
theorem q112_11 : z_fi (z_mi 112) 11 = some (11, .iconst (-1), 0, 0, 0, (-1), 0) := rfl
theorem q112_12 : z_fi (z_mi 112) 12 = some (12, .ireturn, 0, 0, 0, 0, 0) := rfl
theorem q112_13 : z_fi (z_mi 112) 13 = some (13, .aload_n 0, 0, 0, 0, 0, 0) := rfl
theorem q112_14 : z_fi (z_mi 112) 14 = some (14, .getfield 10, 0, 9, 0, 0, 0) := rfl
theorem q112_17 : z_fi (z_mi 112) 17 = some (17, .getfield 168, 0, 0, 3, 0, 0) := rfl
theorem q112_20 : z_fi (z_mi 112) 20 = some (20, .iload_n 1, 0, 0, 0, 0, 0) := rfl
theorem q112_21 : z_fi (z_mi 112) 21 = some (21, .iaload, 0, 0, 0, 0, 0) := rfl
theorem q112_22 : z_fi (z_mi 112) 22 = some (22, .istore_n 2, 0, 0, 0, 0, 0) := rfl
theorem q112_23 : z_fi (z_mi 112) 23 = some (23, .aload_n 0, 0, 0, 0, 0, 0) := rfl
theorem q112_24 : z_fi (z_mi 112) 24 = some (24, .getfield 10, 0, 9, 0, 0, 0) := rfl
theorem q112_27 : z_fi (z_mi 112) 27 = some (27, .iload_n 1, 0, 0, 0, 0, 0) := rfl
theorem q112_28 : z_fi (z_mi 112) 28 = some (28, .invokevirtual 169, 0, 15, 1, 0, 0) := rfl
theorem q112_31 : z_fi (z_mi 112) 31 = some (31, .iload_n 2, 0, 0, 0, 0, 0) := rfl
theorem q112_32 : z_fi (z_mi 112) 32 = some (32, .ireturn, 0, 0, 0, 0, 0) := rfl
set_option maxRecDepth 20000 in
set_option maxHeartbeats 4000000 in
theorem t_Y_bare {xL : Nat} {xs : Nat → Int32} {ρ : Nat → Nat → Option Nat} (hρ : z_hR ρ) (d : Nat) (a1 : Int32) (σ : zS) : ∀ q, f_Y_bare a1 σ = some q → z_ec xL xs ρ (d + 3) 112 [.ref 0, .int a1] σ (em_i q) := by
  refine j_of (W := [.ref 0, .int a1, .null]) (fun L hL => ?_) ?_
  · subst hL; exact z_vl_0 _ 1 rfl
  · unfold f_Y_bare
    refine j_aload_n (pc' := 1) q112_0 rfl (by decide) rfl ?_
    refine j_getr (k := 0) (q := 1) (pc' := 4) q112_1 rfl (hρ 0 0 1 rfl) rfl ?_
    refine j_iload_n (pc' := 5) q112_4 rfl rfl ?_
    refine j_callV1_pi (d := d + 2) (pc' := 8) q112_5 rfl (Nat.le_of_ble_eq_true rfl) (Nat.le_of_ble_eq_true rfl) rfl (t_G_hasCell_1 hρ (d + 1) _ _) (fun r1 => ?_)
    refine j_if_ne (pc' := 11) q112_8 rfl (fun c2 => ?_) (fun c2 => ?_)
    · refine j_iconst (pc' := 12) q112_11 rfl ?_
      exact j_iret q112_12 rfl
    · refine j_aload_n (pc' := 14) q112_13 rfl (by decide) rfl ?_
      refine j_getr (k := 0) (q := 1) (pc' := 17) q112_14 rfl (hρ 0 0 1 rfl) rfl ?_
      refine j_getr (k := 1) (q := 3) (pc' := 20) q112_17 rfl (hρ 1 3 3 rfl) rfl ?_
      refine j_iload_n (pc' := 21) q112_20 rfl rfl ?_
      refine j_if (fun hi3 => ?_) (fun _ => j_none)
      refine j_iald (k := 3) (N := 16) (pc' := 22) q112_21 rfl hi3 rfl ?_
      refine j_istore2 (pc' := 23) q112_22 rfl (Nat.le_of_ble_eq_true rfl) rfl ?_
      refine j_aload_n (pc' := 24) q112_23 rfl (by decide) rfl ?_
      refine j_getr (k := 0) (q := 1) (pc' := 27) q112_24 rfl (hρ 0 0 1 rfl) rfl ?_
      refine j_iload_n (pc' := 28) q112_27 rfl rfl ?_
      refine j_callV1_v (d := d + 2) (pc' := 31) q112_28 rfl (Nat.le_of_ble_eq_true rfl) (Nat.le_of_ble_eq_true rfl) rfl (t_G_setBare_1 hρ (d + 0) _ _) (fun r4 => ?_)
      refine j_iload_n (pc' := 32) q112_31 rfl rfl ?_
      exact j_iret q112_32 rfl
theorem q177_0 : z_fi (z_mi 177) 0 = some (0, .iload_n 1, 0, 0, 0, 0, 0) := rfl
theorem q177_1 : z_fi (z_mi 177) 1 = some (1, .ifCond .ne 5, 0, 6, 0, 0, 0) := rfl
theorem q177_4 : z_fi (z_mi 177) 4 = some (4, .iconst (-1), 0, 0, 0, (-1), 0) := rfl
theorem q177_5 : z_fi (z_mi 177) 5 = some (5, .ireturn, 0, 0, 0, 0, 0) := rfl
theorem q177_6 : z_fi (z_mi 177) 6 = some (6, .aload_n 0, 0, 0, 0, 0, 0) := rfl
theorem q177_7 : z_fi (z_mi 177) 7 = some (7, .getfield 7, 0, 10, 0, 0, 0) := rfl
theorem q177_10 : z_fi (z_mi 177) 10 = some (10, .iload_n 2, 0, 0, 0, 0, 0) := rfl
theorem q177_11 : z_fi (z_mi 177) 11 = some (11, .iaload, 0, 0, 0, 0, 0) := rfl
theorem q177_12 : z_fi (z_mi 177) 12 = some (12, .istore 4, 0, 0, 0, 0, 0) := rfl
theorem q177_14 : z_fi (z_mi 177) 14 = some (14, .aload_n 0, 0, 0, 0, 0, 0) := rfl
theorem q177_15 : z_fi (z_mi 177) 15 = some (15, .getfield 7, 0, 10, 0, 0, 0) := rfl
theorem q177_18 : z_fi (z_mi 177) 18 = some (18, .iload_n 2, 0, 0, 0, 0, 0) := rfl
theorem q177_19 : z_fi (z_mi 177) 19 = some (19, .iload_n 3, 0, 0, 0, 0, 0) := rfl
theorem q177_20 : z_fi (z_mi 177) 20 = some (20, .iastore, 0, 0, 0, 0, 0) := rfl
theorem q177_21 : z_fi (z_mi 177) 21 = some (21, .iload 4, 0, 0, 0, 0, 0) := rfl
theorem q177_23 : z_fi (z_mi 177) 23 = some (23, .ireturn, 0, 0, 0, 0, 0) := rfl
set_option maxRecDepth 20000 in
set_option maxHeartbeats 4000000 in
theorem t_M_sets {xL : Nat} {xs : Nat → Int32} {ρ : Nat → Nat → Option Nat} (hρ : z_hR ρ) (d : Nat) (a1 : Int32) (a2 : Int32) (a3 : Int32) (σ : zS) : ∀ q, f_M_sets a1 a2 a3 σ = some q → z_ec xL xs ρ (d + 0) 177 [.ref 90, .int a1, .int a2, .int a3] σ (em_i q) := by
  refine j_of (W := [.ref 90, .int a1, .int a2, .int a3, .null]) (fun L hL => ?_) ?_
  · subst hL; exact z_vl_0 _ 1 rfl
  · unfold f_M_sets
    refine j_iload_n (pc' := 1) q177_0 rfl rfl ?_
    refine j_if_ne (pc' := 4) q177_1 rfl (fun c1 => ?_) (fun c1 => ?_)
    · refine j_iconst (pc' := 5) q177_4 rfl ?_
      exact j_iret q177_5 rfl
    · refine j_aload_n (pc' := 7) q177_6 rfl (by decide) rfl ?_
      refine j_getr (k := 90) (q := 91) (pc' := 10) q177_7 rfl (hρ 90 0 91 rfl) rfl ?_
      refine j_iload_n (pc' := 11) q177_10 rfl rfl ?_
      refine j_if (fun hi2 => ?_) (fun _ => j_none)
      refine j_iald (k := 91) (N := 550) (pc' := 12) q177_11 rfl hi2 rfl ?_
      refine j_istore4 (pc' := 14) q177_12 rfl (Nat.le_of_ble_eq_true rfl) rfl ?_
      refine j_aload_n (pc' := 15) q177_14 rfl (by decide) rfl ?_
      refine j_getr (k := 90) (q := 91) (pc' := 18) q177_15 rfl (hρ 90 0 91 rfl) rfl ?_
      refine j_iload_n (pc' := 19) q177_18 rfl rfl ?_
      refine j_iload_n (pc' := 20) q177_19 rfl rfl ?_
      refine j_if (fun hi3 => ?_) (fun _ => j_none)
      refine j_iast (k := 91) (N := 550) (pc' := 21) q177_20 rfl hi3 rfl ?_
      refine j_nameS (fun τ4 => ?_)
      refine j_iload (pc' := 23) q177_21 rfl rfl ?_
      exact j_iret q177_23 rfl
theorem q181_0 : z_fi (z_mi 181) 0 = some (0, .aload_n 0, 0, 0, 0, 0, 0) := rfl
theorem q181_1 : z_fi (z_mi 181) 1 = some (1, .aload_n 0, 0, 0, 0, 0, 0) := rfl
theorem q181_2 : z_fi (z_mi 181) 2 = some (2, .iload_n 1, 0, 0, 0, 0, 0) := rfl
theorem q181_3 : z_fi (z_mi 181) 3 = some (3, .invokevirtual 165, 0, 164, 1, 0, 0) := rfl
theorem q181_6 : z_fi (z_mi 181) 6 = some (6, .iconst 5, 0, 0, 0, 5, 0) := rfl
theorem q181_7 : z_fi (z_mi 181) 7 = some (7, .iload_n 1, 0, 0, 0, 0, 0) := rfl
theorem q181_8 : z_fi (z_mi 181) 8 = some (8, .imul, 0, 0, 0, 0, 0) := rfl
theorem q181_9 : z_fi (z_mi 181) 9 = some (9, .iconst 1, 0, 0, 0, 1, 0) := rfl
theorem q181_10 : z_fi (z_mi 181) 10 = some (10, .iadd, 0, 0, 0, 0, 0) := rfl
theorem q181_11 : z_fi (z_mi 181) 11 = some (11, .iconst 0, 0, 0, 0, 0, 0) := rfl
theorem q181_12 : z_fi (z_mi 181) 12 = some (12, .invokevirtual 194, 0, 177, 3, 0, 0) := rfl
theorem q181_15 : z_fi (z_mi 181) 15 = some (15, .ireturn, 0, 0, 0, 0, 0) := rfl
set_option maxRecDepth 20000 in
set_option maxHeartbeats 4000000 in
theorem t_M_bare {xL : Nat} {xs : Nat → Int32} {ρ : Nat → Nat → Option Nat} (hρ : z_hR ρ) (d : Nat) (a1 : Int32) (σ : zS) : ∀ q, f_M_bare a1 σ = some q → z_ec xL xs ρ (d + 2) 181 [.ref 90, .int a1] σ (em_i q) := by
  refine j_of (W := [.ref 90, .int a1]) (fun L hL => ?_) ?_
  · subst hL; exact z_vl_0 _ 0 rfl
  · unfold f_M_bare
    refine j_aload_n (pc' := 1) q181_0 rfl (by decide) rfl ?_
    refine j_aload_n (pc' := 2) q181_1 rfl (by decide) rfl ?_
    refine j_iload_n (pc' := 3) q181_2 rfl rfl ?_
    refine j_callV1_pi (d := d + 1) (pc' := 6) q181_3 rfl (Nat.le_of_ble_eq_true rfl) (Nat.le_of_ble_eq_true rfl) rfl (t_M_isCell hρ (d + 0) _ _) (fun r1 => ?_)
    refine j_iconst (pc' := 7) q181_6 rfl ?_
    refine j_iload_n (pc' := 8) q181_7 rfl rfl ?_
    refine j_imul (pc' := 9) q181_8 rfl ?_
    refine j_iconst (pc' := 10) q181_9 rfl ?_
    refine j_iadd (pc' := 11) q181_10 rfl ?_
    refine j_iconst (pc' := 12) q181_11 rfl ?_
    refine j_callV3_i (d := d + 1) (pc' := 15) q181_12 rfl (Nat.le_of_ble_eq_true rfl) (Nat.le_of_ble_eq_true rfl) rfl (t_M_sets hρ (d + 1) _ _ _ _) (fun r2 => ?_)
    exact j_iret q181_15 rfl
set_option maxRecDepth 20000 in
set_option maxHeartbeats 4000000 in
theorem t_G_setCrop_1 {xL : Nat} {xs : Nat → Int32} {ρ : Nat → Nat → Option Nat} (hρ : z_hR ρ) (d : Nat) (a1 : Int32) (a2 : Int32) (σ : zS) : ∀ q, f_G_setCrop_1 a1 a2 σ = some q → z_ec xL xs ρ (d + 1) 16 [.ref 1, .int a1, .int a2] σ (em_v q) := by
  refine j_of (W := [.ref 1, .int a1, .int a2]) (fun L hL => ?_) ?_
  · subst hL; exact z_vl_0 _ 0 rfl
  · unfold f_G_setCrop_1
    refine j_iload_n (pc' := 1) q16_0 rfl rfl ?_
    refine j_iconst (pc' := 2) q16_1 rfl ?_
    refine j_bipush (pc' := 4) q16_2 rfl ?_
    refine j_callS3_pi (d := d + 0) (pc' := 7) q16_4 (Or.inr rfl) (Nat.le_of_ble_eq_true rfl) (Nat.le_of_ble_eq_true rfl) rfl (t_Y_isIn hρ (d + 0) _ _ _ _) (fun r1 => ?_)
    refine j_if_eq (pc' := 10) q16_7 rfl (fun c2 => ?_) (fun c2 => ?_)
    · exact j_vret q16_24 rfl
    · refine j_aload_n (pc' := 11) q16_10 rfl (by decide) rfl ?_
      refine j_getr (k := 1) (q := 4) (pc' := 14) q16_11 rfl (hρ 1 4 4 rfl) rfl ?_
      refine j_iload_n (pc' := 15) q16_14 rfl rfl ?_
      refine j_iload_n (pc' := 16) q16_15 rfl rfl ?_
      refine j_if (fun hi3 => ?_) (fun _ => j_none)
      refine j_iast (k := 4) (N := 16) (pc' := 17) q16_16 rfl hi3 rfl ?_
      refine j_nameS (fun τ4 => ?_)
      refine j_aload_n (pc' := 18) q16_17 rfl (by decide) rfl ?_
      refine j_getr (k := 1) (q := 5) (pc' := 21) q16_18 rfl (hρ 1 5 5 rfl) rfl ?_
      refine j_iload_n (pc' := 22) q16_21 rfl rfl ?_
      refine j_iconst (pc' := 23) q16_22 rfl ?_
      refine j_if (fun hi5 => ?_) (fun _ => j_none)
      refine j_iast (k := 5) (N := 16) (pc' := 24) q16_23 rfl hi5 rfl ?_
      refine j_nameS (fun τ6 => ?_)
      exact j_vret q16_24 rfl
theorem q1_0 : z_fi (z_mi 1) 0 = some (0, .iload_n 0, 0, 0, 0, 0, 0) := rfl
theorem q1_1 : z_fi (z_mi 1) 1 = some (1, .iconst 0, 0, 0, 0, 0, 0) := rfl
theorem q1_2 : z_fi (z_mi 1) 2 = some (2, .iconst 4, 0, 0, 0, 4, 0) := rfl
theorem q1_3 : z_fi (z_mi 1) 3 = some (3, .invokestatic 9, 4, 99, 3, 0, 0) := rfl
theorem q1_6 : z_fi (z_mi 1) 6 = some (6, .ireturn, 0, 0, 0, 0, 0) := rfl
set_option maxRecDepth 20000 in
set_option maxHeartbeats 4000000 in
theorem t_Cr_isKind {xL : Nat} {xs : Nat → Int32} {ρ : Nat → Nat → Option Nat} (hρ : z_hR ρ) (d : Nat) (a0 : Int32) (σ : zS) : ∀ q, f_Cr_isKind a0 σ = some q → z_ec xL xs ρ (d + 1) 1 [.int a0] σ (em_pi σ q) := by
  refine j_of (W := [.int a0]) (fun L hL => ?_) ?_
  · subst hL; exact z_vl_0 _ 0 rfl
  · unfold f_Cr_isKind
    refine j_iload_n (pc' := 1) q1_0 rfl rfl ?_
    refine j_iconst (pc' := 2) q1_1 rfl ?_
    refine j_iconst (pc' := 3) q1_2 rfl ?_
    refine j_callS3_pi (d := d + 0) (pc' := 6) q1_3 (Or.inr rfl) (Nat.le_of_ble_eq_true rfl) (Nat.le_of_ble_eq_true rfl) rfl (t_Y_isIn hρ (d + 0) _ _ _ _) (fun r1 => ?_)
    refine j_if (fun hb2 => ?_) (fun _ => j_none)
    exact j_pzret q1_6 rfl hb2
theorem q113_0 : z_fi (z_mi 113) 0 = some (0, .aload_n 0, 0, 0, 0, 0, 0) := rfl
theorem q113_1 : z_fi (z_mi 113) 1 = some (1, .getfield 10, 0, 9, 0, 0, 0) := rfl
theorem q113_4 : z_fi (z_mi 113) 4 = some (4, .iload_n 1, 0, 0, 0, 0, 0) := rfl
theorem q113_5 : z_fi (z_mi 113) 5 = some (5, .invokevirtual 165, 0, 8, 1, 0, 0) := rfl
theorem q113_8 : z_fi (z_mi 113) 8 = some (8, .ifCond .eq 16, 0, 24, 0, 0, 0) := rfl
theorem q113_11 : z_fi (z_mi 113) 11 = some (11, .iload_n 2, 0, 0, 0, 0, 0) := rfl
theorem q113_12 : z_fi (z_mi 113) 12 = some (12, .bipush (-4), 0, 0, 0, (-4), 0) := rfl
theorem q113_14 : z_fi (z_mi 113) 14 = some (14, .if_icmp .eq 12, 0, 26, 0, 0, 0) := rfl
theorem q113_17 : z_fi (z_mi 113) 17 = some (17, .iload_n 2, 0, 0, 0, 0, 0) := rfl
theorem q113_18 : z_fi (z_mi 113) 18 = some (18, .invokestatic 173, 1, 1, 1, 0, 0) := rfl
theorem q113_21 : z_fi (z_mi 113) 21 = some (21, .ifCond .ne 5, 0, 26, 0, 0, 0) := rfl
theorem q113_24 : z_fi (z_mi 113) 24 = some (24, .iconst (-1), 0, 0, 0, (-1), 0) := rfl
theorem q113_25 : z_fi (z_mi 113) 25 = some (25, .ireturn, 0, 0, 0, 0, 0) := rfl
theorem q113_26 : z_fi (z_mi 113) 26 = some (26, .aload_n 0, 0, 0, 0, 0, 0) := rfl
theorem q113_27 : z_fi (z_mi 113) 27 = some (27, .getfield 10, 0, 9, 0, 0, 0) := rfl
theorem q113_30 : z_fi (z_mi 113) 30 = some (30, .getfield 178, 0, 0, 4, 0, 0) := rfl
theorem q113_33 : z_fi (z_mi 113) 33 = some (33, .iload_n 1, 0, 0, 0, 0, 0) := rfl
theorem q113_34 : z_fi (z_mi 113) 34 = some (34, .iaload, 0, 0, 0, 0, 0) := rfl
theorem q113_35 : z_fi (z_mi 113) 35 = some (35, .istore_n 3, 0, 0, 0, 0, 0) := rfl
theorem q113_36 : z_fi (z_mi 113) 36 = some (36, .aload_n 0, 0, 0, 0, 0, 0) := rfl
theorem q113_37 : z_fi (z_mi 113) 37 = some (37, .getfield 10, 0, 9, 0, 0, 0) := rfl
theorem q113_40 : z_fi (z_mi 113) 40 = some (40, .iload_n 1, 0, 0, 0, 0, 0) := rfl
theorem q113_41 : z_fi (z_mi 113) 41 = some (41, .iload_n 2, 0, 0, 0, 0, 0) := rfl
theorem q113_42 : z_fi (z_mi 113) 42 = some (42, .invokevirtual 181, 0, 16, 2, 0, 0) := rfl
theorem q113_45 : z_fi (z_mi 113) 45 = some (45, .iload_n 3, 0, 0, 0, 0, 0) := rfl
theorem q113_46 : z_fi (z_mi 113) 46 = some (46, .ireturn, 0, 0, 0, 0, 0) := rfl
set_option maxRecDepth 20000 in
set_option maxHeartbeats 4000000 in
theorem t_Y_sow {xL : Nat} {xs : Nat → Int32} {ρ : Nat → Nat → Option Nat} (hρ : z_hR ρ) (d : Nat) (a1 : Int32) (a2 : Int32) (σ : zS) : ∀ q, f_Y_sow a1 a2 σ = some q → z_ec xL xs ρ (d + 2) 113 [.ref 0, .int a1, .int a2] σ (em_i q) := by
  refine j_of (W := [.ref 0, .int a1, .int a2, .null]) (fun L hL => ?_) ?_
  · subst hL; exact z_vl_0 _ 1 rfl
  · unfold f_Y_sow
    refine j_aload_n (pc' := 1) q113_0 rfl (by decide) rfl ?_
    refine j_getr (k := 0) (q := 1) (pc' := 4) q113_1 rfl (hρ 0 0 1 rfl) rfl ?_
    refine j_iload_n (pc' := 5) q113_4 rfl rfl ?_
    refine j_callV1_pi (d := d + 1) (pc' := 8) q113_5 rfl (Nat.le_of_ble_eq_true rfl) (Nat.le_of_ble_eq_true rfl) rfl (t_G_hasCell_1 hρ (d + 0) _ _) (fun r1 => ?_)
    refine j_if_eq (pc' := 11) q113_8 rfl (fun c2 => ?_) (fun c2 => ?_)
    · refine j_iconst (pc' := 25) q113_24 rfl ?_
      exact j_iret q113_25 rfl
    · refine j_iload_n (pc' := 12) q113_11 rfl rfl ?_
      refine j_bipush (pc' := 14) q113_12 rfl ?_
      refine j_join (T := Unit) 26 (fun t3 => [.ref 0, .int a1, .int a2, .null]) (fun t3 => []) (fun t3 => σ) (fun t3 => ?_) (fun j3 hj3 => ?_)
      · show z_J _ _ _ _ _ _ _ _ _ _ _ _
        refine j_aload_n (pc' := 27) q113_26 rfl (by decide) rfl ?_
        refine j_getr (k := 0) (q := 1) (pc' := 30) q113_27 rfl (hρ 0 0 1 rfl) rfl ?_
        refine j_getr (k := 1) (q := 4) (pc' := 33) q113_30 rfl (hρ 1 4 4 rfl) rfl ?_
        refine j_iload_n (pc' := 34) q113_33 rfl rfl ?_
        refine j_if (fun hi4 => ?_) (fun _ => j_none)
        refine j_iald (k := 4) (N := 16) (pc' := 35) q113_34 rfl hi4 rfl ?_
        refine j_istore3 (pc' := 36) q113_35 rfl (Nat.le_of_ble_eq_true rfl) rfl ?_
        refine j_aload_n (pc' := 37) q113_36 rfl (by decide) rfl ?_
        refine j_getr (k := 0) (q := 1) (pc' := 40) q113_37 rfl (hρ 0 0 1 rfl) rfl ?_
        refine j_iload_n (pc' := 41) q113_40 rfl rfl ?_
        refine j_iload_n (pc' := 42) q113_41 rfl rfl ?_
        refine j_callV2_v (d := d + 1) (pc' := 45) q113_42 rfl (Nat.le_of_ble_eq_true rfl) (Nat.le_of_ble_eq_true rfl) rfl (t_G_setCrop_1 hρ (d + 0) _ _ _) (fun r5 => ?_)
        refine j_iload_n (pc' := 46) q113_45 rfl rfl ?_
        exact j_iret q113_46 rfl
      · show z_J _ _ _ _ _ _ _ _ _ _ _ _
        refine j_icmp_eq (pc' := 17) q113_14 rfl (fun c6 => ?_) (fun c6 => ?_)
        · refine j_forget (z_le_s (z_le_s (z_le_s (z_le_n (z_le_nil))))) (hj3 ())
        · refine j_iload_n (pc' := 18) q113_17 rfl rfl ?_
          refine j_callS1_pi (d := d + 1) (pc' := 21) q113_18 (Or.inl rfl) (Nat.le_of_ble_eq_true rfl) (Nat.le_of_ble_eq_true rfl) rfl (t_Cr_isKind hρ (d + 0) _ _) (fun r7 => ?_)
          refine j_if_ne (pc' := 24) q113_21 rfl (fun c8 => ?_) (fun c8 => ?_)
          · refine j_iconst (pc' := 25) q113_24 rfl ?_
            exact j_iret q113_25 rfl
          · refine j_forget (z_le_s (z_le_s (z_le_s (z_le_n (z_le_nil))))) (hj3 ())
theorem q182_0 : z_fi (z_mi 182) 0 = some (0, .aload_n 0, 0, 0, 0, 0, 0) := rfl
theorem q182_1 : z_fi (z_mi 182) 1 = some (1, .iload_n 1, 0, 0, 0, 0, 0) := rfl
theorem q182_2 : z_fi (z_mi 182) 2 = some (2, .invokevirtual 165, 0, 164, 1, 0, 0) := rfl
theorem q182_5 : z_fi (z_mi 182) 5 = some (5, .ifCond .eq 21, 0, 26, 0, 0, 0) := rfl
theorem q182_8 : z_fi (z_mi 182) 8 = some (8, .iload_n 2, 0, 0, 0, 0, 0) := rfl
theorem q182_9 : z_fi (z_mi 182) 9 = some (9, .bipush (-4), 0, 0, 0, (-4), 0) := rfl
theorem q182_11 : z_fi (z_mi 182) 11 = some (11, .if_icmp .eq 17, 0, 28, 0, 0, 0) := rfl
theorem q182_14 : z_fi (z_mi 182) 14 = some (14, .iload_n 2, 0, 0, 0, 0, 0) := rfl
theorem q182_15 : z_fi (z_mi 182) 15 = some (15, .i2l, 0, 0, 0, 0, 0) := rfl
theorem q182_16 : z_fi (z_mi 182) 16 = some (16, .lconst 0, 0, 0, 0, 0, 0) := rfl
theorem q182_17 : z_fi (z_mi 182) 17 = some (17, .ldc2_w 169, 0, 0, 0, 0, 4) := rfl
theorem q182_20 : z_fi (z_mi 182) 20 = some (20, .invokestatic 62, 1, 149, 3, 0, 0) := rfl
theorem q182_23 : z_fi (z_mi 182) 23 = some (23, .ifCond .ne 5, 0, 28, 0, 0, 0) := rfl
theorem q182_26 : z_fi (z_mi 182) 26 = some (26, .iconst (-1), 0, 0, 0, (-1), 0) := rfl
theorem q182_27 : z_fi (z_mi 182) 27 = some (27, .ireturn, 0, 0, 0, 0, 0) := rfl
theorem q182_28 : z_fi (z_mi 182) 28 = some (28, .aload_n 0, 0, 0, 0, 0, 0) := rfl
theorem q182_29 : z_fi (z_mi 182) 29 = some (29, .iconst 0, 0, 0, 0, 0, 0) := rfl
theorem q182_30 : z_fi (z_mi 182) 30 = some (30, .iload_n 1, 0, 0, 0, 0, 0) := rfl
theorem q182_31 : z_fi (z_mi 182) 31 = some (31, .invokevirtual 162, 0, 170, 2, 0, 0) := rfl
theorem q182_34 : z_fi (z_mi 182) 34 = some (34, .istore_n 3, 0, 0, 0, 0, 0) := rfl
theorem q182_35 : z_fi (z_mi 182) 35 = some (35, .aload_n 0, 0, 0, 0, 0, 0) := rfl
theorem q182_36 : z_fi (z_mi 182) 36 = some (36, .getfield 7, 0, 10, 0, 0, 0) := rfl
theorem q182_39 : z_fi (z_mi 182) 39 = some (39, .iconst 5, 0, 0, 0, 5, 0) := rfl
theorem q182_40 : z_fi (z_mi 182) 40 = some (40, .iload_n 1, 0, 0, 0, 0, 0) := rfl
theorem q182_41 : z_fi (z_mi 182) 41 = some (41, .imul, 0, 0, 0, 0, 0) := rfl
theorem q182_42 : z_fi (z_mi 182) 42 = some (42, .iconst 2, 0, 0, 0, 2, 0) := rfl
theorem q182_43 : z_fi (z_mi 182) 43 = some (43, .iadd, 0, 0, 0, 0, 0) := rfl
theorem q182_44 : z_fi (z_mi 182) 44 = some (44, .iload_n 2, 0, 0, 0, 0, 0) := rfl
theorem q182_45 : z_fi (z_mi 182) 45 = some (45, .bipush (-4), 0, 0, 0, (-4), 0) := rfl
theorem q182_47 : z_fi (z_mi 182) 47 = some (47, .if_icmp .ne 7, 0, 54, 0, 0, 0) := rfl
theorem q182_50 : z_fi (z_mi 182) 50 = some (50, .iconst 0, 0, 0, 0, 0, 0) := rfl
theorem q182_51 : z_fi (z_mi 182) 51 = some (51, .goto 6, 0, 57, 0, 0, 0) := rfl
theorem q182_54 : z_fi (z_mi 182) 54 = some (54, .iload_n 2, 0, 0, 0, 0, 0) := rfl
theorem q182_55 : z_fi (z_mi 182) 55 = some (55, .iconst 1, 0, 0, 0, 1, 0) := rfl
theorem q182_56 : z_fi (z_mi 182) 56 = some (56, .iadd, 0, 0, 0, 0, 0) := rfl
theorem q182_57 : z_fi (z_mi 182) 57 = some (57, .iastore, 0, 0, 0, 0, 0) := rfl
theorem q182_58 : z_fi (z_mi 182) 58 = some (58, .aload_n 0, 0, 0, 0, 0, 0) := rfl
theorem q182_59 : z_fi (z_mi 182) 59 = some (59, .getfield 7, 0, 10, 0, 0, 0) := rfl
theorem q182_62 : z_fi (z_mi 182) 62 = some (62, .iconst 5, 0, 0, 0, 5, 0) := rfl
theorem q182_63 : z_fi (z_mi 182) 63 = some (63, .iload_n 1, 0, 0, 0, 0, 0) := rfl
theorem q182_64 : z_fi (z_mi 182) 64 = some (64, .imul, 0, 0, 0, 0, 0) := rfl
theorem q182_65 : z_fi (z_mi 182) 65 = some (65, .iconst 3, 0, 0, 0, 3, 0) := rfl
theorem q182_66 : z_fi (z_mi 182) 66 = some (66, .iadd, 0, 0, 0, 0, 0) := rfl
theorem q182_67 : z_fi (z_mi 182) 67 = some (67, .iconst 0, 0, 0, 0, 0, 0) := rfl
theorem q182_68 : z_fi (z_mi 182) 68 = some (68, .iastore, 0, 0, 0, 0, 0) := rfl
theorem q182_69 : z_fi (z_mi 182) 69 = some (69, .iload_n 3, 0, 0, 0, 0, 0) := rfl
theorem q182_70 : z_fi (z_mi 182) 70 = some (70, .ireturn, 0, 0, 0, 0, 0) := rfl
set_option maxRecDepth 20000 in
set_option maxHeartbeats 4000000 in
theorem t_M_sow {xL : Nat} {xs : Nat → Int32} {ρ : Nat → Nat → Option Nat} (hρ : z_hR ρ) (d : Nat) (a1 : Int32) (a2 : Int32) (σ : zS) : ∀ q, f_M_sow a1 a2 σ = some q → z_ec xL xs ρ (d + 2) 182 [.ref 90, .int a1, .int a2] σ (em_i q) := by
  refine j_of (W := [.ref 90, .int a1, .int a2, .null]) (fun L hL => ?_) ?_
  · subst hL; exact z_vl_0 _ 1 rfl
  · unfold f_M_sow
    refine j_aload_n (pc' := 1) q182_0 rfl (by decide) rfl ?_
    refine j_iload_n (pc' := 2) q182_1 rfl rfl ?_
    refine j_callV1_pi (d := d + 1) (pc' := 5) q182_2 rfl (Nat.le_of_ble_eq_true rfl) (Nat.le_of_ble_eq_true rfl) rfl (t_M_isCell hρ (d + 0) _ _) (fun r1 => ?_)
    refine j_if_eq (pc' := 8) q182_5 rfl (fun c2 => ?_) (fun c2 => ?_)
    · refine j_iconst (pc' := 27) q182_26 rfl ?_
      exact j_iret q182_27 rfl
    · refine j_iload_n (pc' := 9) q182_8 rfl rfl ?_
      refine j_bipush (pc' := 11) q182_9 rfl ?_
      refine j_join (T := Unit) 28 (fun t3 => [.ref 90, .int a1, .int a2, .null]) (fun t3 => []) (fun t3 => σ) (fun t3 => ?_) (fun j3 hj3 => ?_)
      · show z_J _ _ _ _ _ _ _ _ _ _ _ _
        refine j_aload_n (pc' := 29) q182_28 rfl (by decide) rfl ?_
        refine j_iconst (pc' := 30) q182_29 rfl ?_
        refine j_iload_n (pc' := 31) q182_30 rfl rfl ?_
        refine j_callV2_pi (d := d + 1) (pc' := 34) q182_31 rfl (Nat.le_of_ble_eq_true rfl) (Nat.le_of_ble_eq_true rfl) rfl (t_M_cropIn hρ (d + 1) _ _ _) (fun r4 => ?_)
        refine j_istore3 (pc' := 35) q182_34 rfl (Nat.le_of_ble_eq_true rfl) rfl ?_
        refine j_aload_n (pc' := 36) q182_35 rfl (by decide) rfl ?_
        refine j_getr (k := 90) (q := 91) (pc' := 39) q182_36 rfl (hρ 90 0 91 rfl) rfl ?_
        refine j_iconst (pc' := 40) q182_39 rfl ?_
        refine j_iload_n (pc' := 41) q182_40 rfl rfl ?_
        refine j_imul (pc' := 42) q182_41 rfl ?_
        refine j_iconst (pc' := 43) q182_42 rfl ?_
        refine j_iadd (pc' := 44) q182_43 rfl ?_
        refine j_iload_n (pc' := 45) q182_44 rfl rfl ?_
        refine j_bipush (pc' := 47) q182_45 rfl ?_
        refine j_join (T := Int32 × Int32) 57 (fun t5 => [.ref 90, .int a1, .null, .int r4]) (fun t5 => [.int t5.1, .int t5.2, .ref 91]) (fun t5 => σ) (fun t5 => ?_) (fun j5 hj5 => ?_)
        · show z_J _ _ _ _ _ _ _ _ _ _ _ _
          refine j_if (fun hi6 => ?_) (fun _ => j_none)
          refine j_iast (k := 91) (N := 550) (pc' := 58) q182_57 rfl hi6 rfl ?_
          refine j_nameS (fun τ7 => ?_)
          refine j_aload_n (pc' := 59) q182_58 rfl (by decide) rfl ?_
          refine j_getr (k := 90) (q := 91) (pc' := 62) q182_59 rfl (hρ 90 0 91 rfl) rfl ?_
          refine j_iconst (pc' := 63) q182_62 rfl ?_
          refine j_iload_n (pc' := 64) q182_63 rfl rfl ?_
          refine j_imul (pc' := 65) q182_64 rfl ?_
          refine j_iconst (pc' := 66) q182_65 rfl ?_
          refine j_iadd (pc' := 67) q182_66 rfl ?_
          refine j_iconst (pc' := 68) q182_67 rfl ?_
          refine j_if (fun hi8 => ?_) (fun _ => j_none)
          refine j_iast (k := 91) (N := 550) (pc' := 69) q182_68 rfl hi8 rfl ?_
          refine j_nameS (fun τ9 => ?_)
          refine j_iload_n (pc' := 70) q182_69 rfl rfl ?_
          exact j_iret q182_70 rfl
        · show z_J _ _ _ _ _ _ _ _ _ _ _ _
          refine j_icmp_ne (pc' := 50) q182_47 rfl (fun c10 => ?_) (fun c10 => ?_)
          · refine j_iconst (pc' := 51) q182_50 rfl ?_
            refine j_goto q182_51 rfl ?_
            refine j_forget (z_le_s (z_le_s (z_le_n (z_le_s (z_le_nil))))) (hj5 ((0 : Int32), (((5 : Int32) * a1) + (2 : Int32))))
          · refine j_iload_n (pc' := 55) q182_54 rfl rfl ?_
            refine j_iconst (pc' := 56) q182_55 rfl ?_
            refine j_iadd (pc' := 57) q182_56 rfl ?_
            refine j_forget (z_le_s (z_le_s (z_le_n (z_le_s (z_le_nil))))) (hj5 ((a2 + (1 : Int32)), (((5 : Int32) * a1) + (2 : Int32))))
      · show z_J _ _ _ _ _ _ _ _ _ _ _ _
        refine j_icmp_eq (pc' := 14) q182_11 rfl (fun c11 => ?_) (fun c11 => ?_)
        · refine j_forget (z_le_s (z_le_s (z_le_s (z_le_n (z_le_nil))))) (hj3 ())
        · refine j_iload_n (pc' := 15) q182_14 rfl rfl ?_
          refine j_i2l (pc' := 16) q182_15 rfl ?_
          refine j_lconst (pc' := 17) q182_16 rfl ?_
          refine j_ldc2 (pc' := 20) q182_17 rfl ?_
          refine j_callS3_pi (d := d + 1) (pc' := 23) q182_20 (Or.inl rfl) (Nat.le_of_ble_eq_true rfl) (Nat.le_of_ble_eq_true rfl) rfl (t_M_in hρ (d + 1) _ _ _ _) (fun r12 => ?_)
          refine j_if_ne (pc' := 26) q182_23 rfl (fun c13 => ?_) (fun c13 => ?_)
          · refine j_iconst (pc' := 27) q182_26 rfl ?_
            exact j_iret q182_27 rfl
          · refine j_forget (z_le_s (z_le_s (z_le_s (z_le_n (z_le_nil))))) (hj3 ())
theorem q114_0 : z_fi (z_mi 114) 0 = some (0, .aload_n 0, 0, 0, 0, 0, 0) := rfl
theorem q114_1 : z_fi (z_mi 114) 1 = some (1, .getfield 10, 0, 9, 0, 0, 0) := rfl
theorem q114_4 : z_fi (z_mi 114) 4 = some (4, .iload_n 1, 0, 0, 0, 0, 0) := rfl
theorem q114_5 : z_fi (z_mi 114) 5 = some (5, .invokevirtual 165, 0, 8, 1, 0, 0) := rfl
theorem q114_8 : z_fi (z_mi 114) 8 = some (8, .ifCond .eq 12, 0, 20, 0, 0, 0) := rfl
theorem q114_11 : z_fi (z_mi 114) 11 = some (11, .iload_n 2, 0, 0, 0, 0, 0) := rfl
theorem q114_12 : z_fi (z_mi 114) 12 = some (12, .iconst 0, 0, 0, 0, 0, 0) := rfl
theorem q114_13 : z_fi (z_mi 114) 13 = some (13, .iconst 2, 0, 0, 0, 2, 0) := rfl
theorem q114_14 : z_fi (z_mi 114) 14 = some (14, .invokestatic 60, 1, 99, 3, 0, 0) := rfl
theorem q114_17 : z_fi (z_mi 114) 17 = some (17, .ifCond .ne 5, 0, 22, 0, 0, 0) := rfl
theorem q114_20 : z_fi (z_mi 114) 20 = some (20, .iconst (-1), 0, 0, 0, (-1), 0) := rfl
theorem q114_21 : z_fi (z_mi 114) 21 = some (21, .ireturn, 0, 0, 0, 0, 0) := rfl
theorem q114_22 : z_fi (z_mi 114) 22 = some (22, .aload_n 0, 0, 0, 0, 0, 0) := rfl
theorem q114_23 : z_fi (z_mi 114) 23 = some (23, .getfield 10, 0, 9, 0, 0, 0) := rfl
theorem q114_26 : z_fi (z_mi 114) 26 = some (26, .getfield 185, 0, 0, 6, 0, 0) := rfl
theorem q114_29 : z_fi (z_mi 114) 29 = some (29, .iload_n 1, 0, 0, 0, 0, 0) := rfl
theorem q114_30 : z_fi (z_mi 114) 30 = some (30, .iaload, 0, 0, 0, 0, 0) := rfl
theorem q114_31 : z_fi (z_mi 114) 31 = some (31, .istore_n 3, 0, 0, 0, 0, 0) := rfl
theorem q114_32 : z_fi (z_mi 114) 32 = some (32, .aload_n 0, 0, 0, 0, 0, 0) := rfl
theorem q114_33 : z_fi (z_mi 114) 33 = some (33, .getfield 10, 0, 9, 0, 0, 0) := rfl
theorem q114_36 : z_fi (z_mi 114) 36 = some (36, .getfield 185, 0, 0, 6, 0, 0) := rfl
theorem q114_39 : z_fi (z_mi 114) 39 = some (39, .iload_n 1, 0, 0, 0, 0, 0) := rfl
theorem q114_40 : z_fi (z_mi 114) 40 = some (40, .iload_n 2, 0, 0, 0, 0, 0) := rfl
theorem q114_41 : z_fi (z_mi 114) 41 = some (41, .iastore, 0, 0, 0, 0, 0) := rfl
theorem q114_42 : z_fi (z_mi 114) 42 = some (42, .iload_n 3, 0, 0, 0, 0, 0) := rfl
theorem q114_43 : z_fi (z_mi 114) 43 = some (43, .ireturn, 0, 0, 0, 0, 0) := rfl
set_option maxRecDepth 20000 in
set_option maxHeartbeats 4000000 in
theorem t_Y_own {xL : Nat} {xs : Nat → Int32} {ρ : Nat → Nat → Option Nat} (hρ : z_hR ρ) (d : Nat) (a1 : Int32) (a2 : Int32) (σ : zS) : ∀ q, f_Y_own a1 a2 σ = some q → z_ec xL xs ρ (d + 2) 114 [.ref 0, .int a1, .int a2] σ (em_i q) := by
  refine j_of (W := [.ref 0, .int a1, .int a2, .null]) (fun L hL => ?_) ?_
  · subst hL; exact z_vl_0 _ 1 rfl
  · unfold f_Y_own
    refine j_aload_n (pc' := 1) q114_0 rfl (by decide) rfl ?_
    refine j_getr (k := 0) (q := 1) (pc' := 4) q114_1 rfl (hρ 0 0 1 rfl) rfl ?_
    refine j_iload_n (pc' := 5) q114_4 rfl rfl ?_
    refine j_callV1_pi (d := d + 1) (pc' := 8) q114_5 rfl (Nat.le_of_ble_eq_true rfl) (Nat.le_of_ble_eq_true rfl) rfl (t_G_hasCell_1 hρ (d + 0) _ _) (fun r1 => ?_)
    refine j_if_eq (pc' := 11) q114_8 rfl (fun c2 => ?_) (fun c2 => ?_)
    · refine j_iconst (pc' := 21) q114_20 rfl ?_
      exact j_iret q114_21 rfl
    · refine j_iload_n (pc' := 12) q114_11 rfl rfl ?_
      refine j_iconst (pc' := 13) q114_12 rfl ?_
      refine j_iconst (pc' := 14) q114_13 rfl ?_
      refine j_callS3_pi (d := d + 1) (pc' := 17) q114_14 (Or.inl rfl) (Nat.le_of_ble_eq_true rfl) (Nat.le_of_ble_eq_true rfl) rfl (t_Y_isIn hρ (d + 1) _ _ _ _) (fun r3 => ?_)
      refine j_if_ne (pc' := 20) q114_17 rfl (fun c4 => ?_) (fun c4 => ?_)
      · refine j_iconst (pc' := 21) q114_20 rfl ?_
        exact j_iret q114_21 rfl
      · refine j_aload_n (pc' := 23) q114_22 rfl (by decide) rfl ?_
        refine j_getr (k := 0) (q := 1) (pc' := 26) q114_23 rfl (hρ 0 0 1 rfl) rfl ?_
        refine j_getr (k := 1) (q := 6) (pc' := 29) q114_26 rfl (hρ 1 6 6 rfl) rfl ?_
        refine j_iload_n (pc' := 30) q114_29 rfl rfl ?_
        refine j_if (fun hi5 => ?_) (fun _ => j_none)
        refine j_iald (k := 6) (N := 16) (pc' := 31) q114_30 rfl hi5 rfl ?_
        refine j_istore3 (pc' := 32) q114_31 rfl (Nat.le_of_ble_eq_true rfl) rfl ?_
        refine j_aload_n (pc' := 33) q114_32 rfl (by decide) rfl ?_
        refine j_getr (k := 0) (q := 1) (pc' := 36) q114_33 rfl (hρ 0 0 1 rfl) rfl ?_
        refine j_getr (k := 1) (q := 6) (pc' := 39) q114_36 rfl (hρ 1 6 6 rfl) rfl ?_
        refine j_iload_n (pc' := 40) q114_39 rfl rfl ?_
        refine j_iload_n (pc' := 41) q114_40 rfl rfl ?_
        refine j_if (fun hi6 => ?_) (fun _ => j_none)
        refine j_iast (k := 6) (N := 16) (pc' := 42) q114_41 rfl hi6 rfl ?_
        refine j_nameS (fun τ7 => ?_)
        refine j_iload_n (pc' := 43) q114_42 rfl rfl ?_
        exact j_iret q114_43 rfl
theorem q183_0 : z_fi (z_mi 183) 0 = some (0, .aload_n 0, 0, 0, 0, 0, 0) := rfl
theorem q183_1 : z_fi (z_mi 183) 1 = some (1, .aload_n 0, 0, 0, 0, 0, 0) := rfl
theorem q183_2 : z_fi (z_mi 183) 2 = some (2, .iload_n 1, 0, 0, 0, 0, 0) := rfl
theorem q183_3 : z_fi (z_mi 183) 3 = some (3, .invokevirtual 165, 0, 164, 1, 0, 0) := rfl
theorem q183_6 : z_fi (z_mi 183) 6 = some (6, .ifCond .eq 19, 0, 25, 0, 0, 0) := rfl
theorem q183_9 : z_fi (z_mi 183) 9 = some (9, .iload_n 2, 0, 0, 0, 0, 0) := rfl
theorem q183_10 : z_fi (z_mi 183) 10 = some (10, .i2l, 0, 0, 0, 0, 0) := rfl
theorem q183_11 : z_fi (z_mi 183) 11 = some (11, .lconst 0, 0, 0, 0, 0, 0) := rfl
theorem q183_12 : z_fi (z_mi 183) 12 = some (12, .ldc2_w 183, 0, 0, 0, 0, 2) := rfl
theorem q183_15 : z_fi (z_mi 183) 15 = some (15, .invokestatic 62, 1, 149, 3, 0, 0) := rfl
theorem q183_18 : z_fi (z_mi 183) 18 = some (18, .ifCond .eq 7, 0, 25, 0, 0, 0) := rfl
theorem q183_21 : z_fi (z_mi 183) 21 = some (21, .iconst 1, 0, 0, 0, 1, 0) := rfl
theorem q183_22 : z_fi (z_mi 183) 22 = some (22, .goto 4, 0, 26, 0, 0, 0) := rfl
theorem q183_25 : z_fi (z_mi 183) 25 = some (25, .iconst 0, 0, 0, 0, 0, 0) := rfl
theorem q183_26 : z_fi (z_mi 183) 26 = some (26, .iconst 5, 0, 0, 0, 5, 0) := rfl
theorem q183_27 : z_fi (z_mi 183) 27 = some (27, .iload_n 1, 0, 0, 0, 0, 0) := rfl
theorem q183_28 : z_fi (z_mi 183) 28 = some (28, .imul, 0, 0, 0, 0, 0) := rfl
theorem q183_29 : z_fi (z_mi 183) 29 = some (29, .iconst 4, 0, 0, 0, 4, 0) := rfl
theorem q183_30 : z_fi (z_mi 183) 30 = some (30, .iadd, 0, 0, 0, 0, 0) := rfl
theorem q183_31 : z_fi (z_mi 183) 31 = some (31, .iload_n 2, 0, 0, 0, 0, 0) := rfl
theorem q183_32 : z_fi (z_mi 183) 32 = some (32, .invokevirtual 194, 0, 177, 3, 0, 0) := rfl
theorem q183_35 : z_fi (z_mi 183) 35 = some (35, .ireturn, 0, 0, 0, 0, 0) := rfl
set_option maxRecDepth 20000 in
set_option maxHeartbeats 4000000 in
theorem t_M_own {xL : Nat} {xs : Nat → Int32} {ρ : Nat → Nat → Option Nat} (hρ : z_hR ρ) (d : Nat) (a1 : Int32) (a2 : Int32) (σ : zS) : ∀ q, f_M_own a1 a2 σ = some q → z_ec xL xs ρ (d + 2) 183 [.ref 90, .int a1, .int a2] σ (em_i q) := by
  refine j_of (W := [.ref 90, .int a1, .int a2]) (fun L hL => ?_) ?_
  · subst hL; exact z_vl_0 _ 0 rfl
  · unfold f_M_own
    refine j_aload_n (pc' := 1) q183_0 rfl (by decide) rfl ?_
    refine j_aload_n (pc' := 2) q183_1 rfl (by decide) rfl ?_
    refine j_iload_n (pc' := 3) q183_2 rfl rfl ?_
    refine j_callV1_pi (d := d + 1) (pc' := 6) q183_3 rfl (Nat.le_of_ble_eq_true rfl) (Nat.le_of_ble_eq_true rfl) rfl (t_M_isCell hρ (d + 0) _ _) (fun r1 => ?_)
    refine j_join (T := Int32) 26 (fun t2 => [.null, .int a1, .int a2]) (fun t2 => [.int t2, .ref 90]) (fun t2 => σ) (fun t2 => ?_) (fun j2 hj2 => ?_)
    · show z_J _ _ _ _ _ _ _ _ _ _ _ _
      refine j_iconst (pc' := 27) q183_26 rfl ?_
      refine j_iload_n (pc' := 28) q183_27 rfl rfl ?_
      refine j_imul (pc' := 29) q183_28 rfl ?_
      refine j_iconst (pc' := 30) q183_29 rfl ?_
      refine j_iadd (pc' := 31) q183_30 rfl ?_
      refine j_iload_n (pc' := 32) q183_31 rfl rfl ?_
      refine j_callV3_i (d := d + 1) (pc' := 35) q183_32 rfl (Nat.le_of_ble_eq_true rfl) (Nat.le_of_ble_eq_true rfl) rfl (t_M_sets hρ (d + 1) _ _ _ _) (fun r3 => ?_)
      exact j_iret q183_35 rfl
    · show z_J _ _ _ _ _ _ _ _ _ _ _ _
      refine j_join (T := Unit) 25 (fun t4 => [.null, .int a1, .int a2]) (fun t4 => [.ref 90]) (fun t4 => σ) (fun t4 => ?_) (fun j4 hj4 => ?_)
      · show z_J _ _ _ _ _ _ _ _ _ _ _ _
        refine j_iconst (pc' := 26) q183_25 rfl ?_
        refine j_forget (z_le_n (z_le_s (z_le_s (z_le_nil)))) (hj2 (0 : Int32))
      · show z_J _ _ _ _ _ _ _ _ _ _ _ _
        refine j_if_eq (pc' := 9) q183_6 rfl (fun c5 => ?_) (fun c5 => ?_)
        · refine j_forget (z_le_n (z_le_s (z_le_s (z_le_nil)))) (hj4 ())
        · refine j_iload_n (pc' := 10) q183_9 rfl rfl ?_
          refine j_i2l (pc' := 11) q183_10 rfl ?_
          refine j_lconst (pc' := 12) q183_11 rfl ?_
          refine j_ldc2 (pc' := 15) q183_12 rfl ?_
          refine j_callS3_pi (d := d + 1) (pc' := 18) q183_15 (Or.inl rfl) (Nat.le_of_ble_eq_true rfl) (Nat.le_of_ble_eq_true rfl) rfl (t_M_in hρ (d + 1) _ _ _ _) (fun r6 => ?_)
          refine j_if_eq (pc' := 21) q183_18 rfl (fun c7 => ?_) (fun c7 => ?_)
          · refine j_forget (z_le_n (z_le_s (z_le_s (z_le_nil)))) (hj4 ())
          · refine j_iconst (pc' := 22) q183_21 rfl ?_
            refine j_goto q183_22 rfl ?_
            refine j_forget (z_le_n (z_le_s (z_le_s (z_le_nil)))) (hj2 (1 : Int32))
set_option maxRecDepth 20000 in
set_option maxHeartbeats 4000000 in
theorem t_G_setWall_1 {xL : Nat} {xs : Nat → Int32} {ρ : Nat → Nat → Option Nat} (hρ : z_hR ρ) (d : Nat) (a1 : Int32) (a2 : Int32) (σ : zS) : ∀ q, f_G_setWall_1 a1 a2 σ = some q → z_ec xL xs ρ (d + 0) 12 [.ref 1, .int a1, .int a2] σ (em_v q) := by
  refine j_of (W := [.ref 1, .int a1, .int a2]) (fun L hL => ?_) ?_
  · subst hL; exact z_vl_0 _ 0 rfl
  · unfold f_G_setWall_1
    refine j_aload_n (pc' := 1) q12_0 rfl (by decide) rfl ?_
    refine j_iload_n (pc' := 2) q12_1 rfl rfl ?_
    refine j_join (T := Int32) 26 (fun t1 => [.null, .null, .null]) (fun t1 => [.int t1, .ref 1]) (fun t1 => σ) (fun t1 => ?_) (fun j1 hj1 => ?_)
    · show z_J _ _ _ _ _ _ _ _ _ _ _ _
      refine j_putf (k := 1) (pc' := 29) q12_26 rfl rfl ?_
      refine j_nameS (fun τ2 => ?_)
      exact j_vret q12_29 rfl
    · show z_J _ _ _ _ _ _ _ _ _ _ _ _
      refine j_if_eq (pc' := 5) q12_2 rfl (fun c3 => ?_) (fun c3 => ?_)
      · refine j_aload_n (pc' := 17) q12_16 rfl (by decide) rfl ?_
        refine j_getf (k := 1) (pc' := 20) q12_17 rfl rfl ?_
        refine j_iconst (pc' := 21) q12_20 rfl ?_
        refine j_iload_n (pc' := 22) q12_21 rfl rfl ?_
        refine j_ishl (pc' := 23) q12_22 rfl ?_
        refine j_iconst (pc' := 24) q12_23 rfl ?_
        refine j_ixor (pc' := 25) q12_24 rfl ?_
        refine j_iand (pc' := 26) q12_25 rfl ?_
        refine j_forget (z_le_n (z_le_n (z_le_n (z_le_nil)))) (hj1 ((σ 1 7) &&& (((1 : Int32) <<< (a1 &&& 31)) ^^^ (-1 : Int32))))
      · refine j_aload_n (pc' := 6) q12_5 rfl (by decide) rfl ?_
        refine j_getf (k := 1) (pc' := 9) q12_6 rfl rfl ?_
        refine j_iconst (pc' := 10) q12_9 rfl ?_
        refine j_iload_n (pc' := 11) q12_10 rfl rfl ?_
        refine j_ishl (pc' := 12) q12_11 rfl ?_
        refine j_ior (pc' := 13) q12_12 rfl ?_
        refine j_goto q12_13 rfl ?_
        refine j_forget (z_le_n (z_le_n (z_le_n (z_le_nil)))) (hj1 ((σ 1 7) ||| ((1 : Int32) <<< (a1 &&& 31))))
theorem q115_0 : z_fi (z_mi 115) 0 = some (0, .aload_n 0, 0, 0, 0, 0, 0) := rfl
theorem q115_1 : z_fi (z_mi 115) 1 = some (1, .getfield 10, 0, 9, 0, 0, 0) := rfl
theorem q115_4 : z_fi (z_mi 115) 4 = some (4, .iload_n 1, 0, 0, 0, 0, 0) := rfl
theorem q115_5 : z_fi (z_mi 115) 5 = some (5, .invokevirtual 130, 0, 10, 1, 0, 0) := rfl
theorem q115_8 : z_fi (z_mi 115) 8 = some (8, .ifCond .ne 5, 0, 13, 0, 0, 0) := rfl
theorem q115_11 : z_fi (z_mi 115) 11 = some (11, .iconst (-1), 0, 0, 0, (-1), 0) := rfl
theorem q115_12 : z_fi (z_mi 115) 12 = some (12, .ireturn, 0, 0, 0, 0, 0) := rfl
theorem q115_13 : z_fi (z_mi 115) 13 = some (13, .aload_n 0, 0, 0, 0, 0, 0) := rfl
theorem q115_14 : z_fi (z_mi 115) 14 = some (14, .getfield 10, 0, 9, 0, 0, 0) := rfl
theorem q115_17 : z_fi (z_mi 115) 17 = some (17, .iload_n 1, 0, 0, 0, 0, 0) := rfl
theorem q115_18 : z_fi (z_mi 115) 18 = some (18, .invokevirtual 133, 0, 11, 1, 0, 0) := rfl
theorem q115_21 : z_fi (z_mi 115) 21 = some (21, .ifCond .eq 7, 0, 28, 0, 0, 0) := rfl
theorem q115_24 : z_fi (z_mi 115) 24 = some (24, .iconst 0, 0, 0, 0, 0, 0) := rfl
theorem q115_25 : z_fi (z_mi 115) 25 = some (25, .goto 4, 0, 29, 0, 0, 0) := rfl
theorem q115_28 : z_fi (z_mi 115) 28 = some (28, .iconst 1, 0, 0, 0, 1, 0) := rfl
theorem q115_29 : z_fi (z_mi 115) 29 = some (29, .istore_n 3, 0, 0, 0, 0, 0) := rfl
theorem q115_30 : z_fi (z_mi 115) 30 = some (30, .aload_n 0, 0, 0, 0, 0, 0) := rfl
theorem q115_31 : z_fi (z_mi 115) 31 = some (31, .getfield 10, 0, 9, 0, 0, 0) := rfl
theorem q115_34 : z_fi (z_mi 115) 34 = some (34, .iload_n 1, 0, 0, 0, 0, 0) := rfl
theorem q115_35 : z_fi (z_mi 115) 35 = some (35, .iload_n 2, 0, 0, 0, 0, 0) := rfl
theorem q115_36 : z_fi (z_mi 115) 36 = some (36, .invokevirtual 188, 0, 12, 2, 0, 0) := rfl
theorem q115_39 : z_fi (z_mi 115) 39 = some (39, .iload_n 3, 0, 0, 0, 0, 0) := rfl
theorem q115_40 : z_fi (z_mi 115) 40 = some (40, .ireturn, 0, 0, 0, 0, 0) := rfl
set_option maxRecDepth 20000 in
set_option maxHeartbeats 4000000 in
theorem t_Y_wall {xL : Nat} {xs : Nat → Int32} {ρ : Nat → Nat → Option Nat} (hρ : z_hR ρ) (d : Nat) (a1 : Int32) (a2 : Int32) (σ : zS) : ∀ q, f_Y_wall a1 a2 σ = some q → z_ec xL xs ρ (d + 3) 115 [.ref 0, .int a1, .int a2] σ (em_i q) := by
  refine j_of (W := [.ref 0, .int a1, .int a2, .null]) (fun L hL => ?_) ?_
  · subst hL; exact z_vl_0 _ 1 rfl
  · unfold f_Y_wall
    refine j_aload_n (pc' := 1) q115_0 rfl (by decide) rfl ?_
    refine j_getr (k := 0) (q := 1) (pc' := 4) q115_1 rfl (hρ 0 0 1 rfl) rfl ?_
    refine j_iload_n (pc' := 5) q115_4 rfl rfl ?_
    refine j_callV1_pi (d := d + 2) (pc' := 8) q115_5 rfl (Nat.le_of_ble_eq_true rfl) (Nat.le_of_ble_eq_true rfl) rfl (t_G_hasEdge_1 hρ (d + 0) _ _) (fun r1 => ?_)
    refine j_if_ne (pc' := 11) q115_8 rfl (fun c2 => ?_) (fun c2 => ?_)
    · refine j_iconst (pc' := 12) q115_11 rfl ?_
      exact j_iret q115_12 rfl
    · refine j_aload_n (pc' := 14) q115_13 rfl (by decide) rfl ?_
      refine j_getr (k := 0) (q := 1) (pc' := 17) q115_14 rfl (hρ 0 0 1 rfl) rfl ?_
      refine j_iload_n (pc' := 18) q115_17 rfl rfl ?_
      refine j_callV1_pi (d := d + 2) (pc' := 21) q115_18 rfl (Nat.le_of_ble_eq_true rfl) (Nat.le_of_ble_eq_true rfl) rfl (t_G_isOpen_1 hρ (d + 2) _ _) (fun r3 => ?_)
      refine j_join (T := Int32) 29 (fun t4 => [.ref 0, .int a1, .int a2, .null]) (fun t4 => [.int t4]) (fun t4 => σ) (fun t4 => ?_) (fun j4 hj4 => ?_)
      · show z_J _ _ _ _ _ _ _ _ _ _ _ _
        refine j_istore3 (pc' := 30) q115_29 rfl (Nat.le_of_ble_eq_true rfl) rfl ?_
        refine j_aload_n (pc' := 31) q115_30 rfl (by decide) rfl ?_
        refine j_getr (k := 0) (q := 1) (pc' := 34) q115_31 rfl (hρ 0 0 1 rfl) rfl ?_
        refine j_iload_n (pc' := 35) q115_34 rfl rfl ?_
        refine j_iload_n (pc' := 36) q115_35 rfl rfl ?_
        refine j_callV2_v (d := d + 2) (pc' := 39) q115_36 rfl (Nat.le_of_ble_eq_true rfl) (Nat.le_of_ble_eq_true rfl) rfl (t_G_setWall_1 hρ (d + 2) _ _ _) (fun r5 => ?_)
        refine j_iload_n (pc' := 40) q115_39 rfl rfl ?_
        exact j_iret q115_40 rfl
      · show z_J _ _ _ _ _ _ _ _ _ _ _ _
        refine j_if_eq (pc' := 24) q115_21 rfl (fun c6 => ?_) (fun c6 => ?_)
        · refine j_iconst (pc' := 29) q115_28 rfl ?_
          refine j_forget (z_le_s (z_le_s (z_le_s (z_le_n (z_le_nil))))) (hj4 (1 : Int32))
        · refine j_iconst (pc' := 25) q115_24 rfl ?_
          refine j_goto q115_25 rfl ?_
          refine j_forget (z_le_s (z_le_s (z_le_s (z_le_n (z_le_nil))))) (hj4 (0 : Int32))
theorem q184_0 : z_fi (z_mi 184) 0 = some (0, .aload_n 0, 0, 0, 0, 0, 0) := rfl
theorem q184_1 : z_fi (z_mi 184) 1 = some (1, .iload_n 1, 0, 0, 0, 0, 0) := rfl
theorem q184_2 : z_fi (z_mi 184) 2 = some (2, .invokevirtual 174, 0, 165, 1, 0, 0) := rfl
theorem q184_5 : z_fi (z_mi 184) 5 = some (5, .ifCond .ne 5, 0, 10, 0, 0, 0) := rfl
theorem q184_8 : z_fi (z_mi 184) 8 = some (8, .iconst (-1), 0, 0, 0, (-1), 0) := rfl
theorem q184_9 : z_fi (z_mi 184) 9 = some (9, .ireturn, 0, 0, 0, 0, 0) := rfl
theorem q184_10 : z_fi (z_mi 184) 10 = some (10, .aload_n 0, 0, 0, 0, 0, 0) := rfl
theorem q184_11 : z_fi (z_mi 184) 11 = some (11, .getfield 7, 0, 10, 0, 0, 0) := rfl
theorem q184_14 : z_fi (z_mi 184) 14 = some (14, .bipush 80, 0, 0, 0, 80, 0) := rfl
theorem q184_16 : z_fi (z_mi 184) 16 = some (16, .iaload, 0, 0, 0, 0, 0) := rfl
theorem q184_17 : z_fi (z_mi 184) 17 = some (17, .iload_n 1, 0, 0, 0, 0, 0) := rfl
theorem q184_18 : z_fi (z_mi 184) 18 = some (18, .ishr, 0, 0, 0, 0, 0) := rfl
theorem q184_19 : z_fi (z_mi 184) 19 = some (19, .iconst 1, 0, 0, 0, 1, 0) := rfl
theorem q184_20 : z_fi (z_mi 184) 20 = some (20, .iand, 0, 0, 0, 0, 0) := rfl
theorem q184_21 : z_fi (z_mi 184) 21 = some (21, .istore_n 3, 0, 0, 0, 0, 0) := rfl
theorem q184_22 : z_fi (z_mi 184) 22 = some (22, .aload_n 0, 0, 0, 0, 0, 0) := rfl
theorem q184_23 : z_fi (z_mi 184) 23 = some (23, .getfield 7, 0, 10, 0, 0, 0) := rfl
theorem q184_26 : z_fi (z_mi 184) 26 = some (26, .bipush 80, 0, 0, 0, 80, 0) := rfl
theorem q184_28 : z_fi (z_mi 184) 28 = some (28, .aload_n 0, 0, 0, 0, 0, 0) := rfl
theorem q184_29 : z_fi (z_mi 184) 29 = some (29, .getfield 7, 0, 10, 0, 0, 0) := rfl
theorem q184_32 : z_fi (z_mi 184) 32 = some (32, .bipush 80, 0, 0, 0, 80, 0) := rfl
theorem q184_34 : z_fi (z_mi 184) 34 = some (34, .iaload, 0, 0, 0, 0, 0) := rfl
theorem q184_35 : z_fi (z_mi 184) 35 = some (35, .iconst 1, 0, 0, 0, 1, 0) := rfl
theorem q184_36 : z_fi (z_mi 184) 36 = some (36, .iload_n 1, 0, 0, 0, 0, 0) := rfl
theorem q184_37 : z_fi (z_mi 184) 37 = some (37, .ishl, 0, 0, 0, 0, 0) := rfl
theorem q184_38 : z_fi (z_mi 184) 38 = some (38, .iconst (-1), 0, 0, 0, (-1), 0) := rfl
theorem q184_39 : z_fi (z_mi 184) 39 = some (39, .ixor, 0, 0, 0, 0, 0) := rfl
theorem q184_40 : z_fi (z_mi 184) 40 = some (40, .iand, 0, 0, 0, 0, 0) := rfl
theorem q184_41 : z_fi (z_mi 184) 41 = some (41, .iload_n 2, 0, 0, 0, 0, 0) := rfl
theorem q184_42 : z_fi (z_mi 184) 42 = some (42, .ifCond .eq 9, 0, 51, 0, 0, 0) := rfl
theorem q184_45 : z_fi (z_mi 184) 45 = some (45, .iconst 1, 0, 0, 0, 1, 0) := rfl
theorem q184_46 : z_fi (z_mi 184) 46 = some (46, .iload_n 1, 0, 0, 0, 0, 0) := rfl
theorem q184_47 : z_fi (z_mi 184) 47 = some (47, .ishl, 0, 0, 0, 0, 0) := rfl
theorem q184_48 : z_fi (z_mi 184) 48 = some (48, .goto 4, 0, 52, 0, 0, 0) := rfl
theorem q184_51 : z_fi (z_mi 184) 51 = some (51, .iconst 0, 0, 0, 0, 0, 0) := rfl
theorem q184_52 : z_fi (z_mi 184) 52 = some (52, .ior, 0, 0, 0, 0, 0) := rfl
theorem q184_53 : z_fi (z_mi 184) 53 = some (53, .iastore, 0, 0, 0, 0, 0) := rfl
theorem q184_54 : z_fi (z_mi 184) 54 = some (54, .iload_n 3, 0, 0, 0, 0, 0) := rfl
theorem q184_55 : z_fi (z_mi 184) 55 = some (55, .ireturn, 0, 0, 0, 0, 0) := rfl
set_option maxRecDepth 20000 in
set_option maxHeartbeats 4000000 in
theorem t_M_wall {xL : Nat} {xs : Nat → Int32} {ρ : Nat → Nat → Option Nat} (hρ : z_hR ρ) (d : Nat) (a1 : Int32) (a2 : Int32) (σ : zS) : ∀ q, f_M_wall a1 a2 σ = some q → z_ec xL xs ρ (d + 2) 184 [.ref 90, .int a1, .int a2] σ (em_i q) := by
  refine j_of (W := [.ref 90, .int a1, .int a2, .null]) (fun L hL => ?_) ?_
  · subst hL; exact z_vl_0 _ 1 rfl
  · unfold f_M_wall
    refine j_aload_n (pc' := 1) q184_0 rfl (by decide) rfl ?_
    refine j_iload_n (pc' := 2) q184_1 rfl rfl ?_
    refine j_callV1_pi (d := d + 1) (pc' := 5) q184_2 rfl (Nat.le_of_ble_eq_true rfl) (Nat.le_of_ble_eq_true rfl) rfl (t_M_isEdge hρ (d + 0) _ _) (fun r1 => ?_)
    refine j_if_ne (pc' := 8) q184_5 rfl (fun c2 => ?_) (fun c2 => ?_)
    · refine j_iconst (pc' := 9) q184_8 rfl ?_
      exact j_iret q184_9 rfl
    · refine j_aload_n (pc' := 11) q184_10 rfl (by decide) rfl ?_
      refine j_getr (k := 90) (q := 91) (pc' := 14) q184_11 rfl (hρ 90 0 91 rfl) rfl ?_
      refine j_bipush (pc' := 16) q184_14 rfl ?_
      refine j_iald (k := 91) (N := 550) (pc' := 17) q184_16 rfl (by decide) rfl ?_
      refine j_iload_n (pc' := 18) q184_17 rfl rfl ?_
      refine j_ishr (pc' := 19) q184_18 rfl ?_
      refine j_iconst (pc' := 20) q184_19 rfl ?_
      refine j_iand (pc' := 21) q184_20 rfl ?_
      refine j_nameI (fun v3 => ?_)
      refine j_istore3 (pc' := 22) q184_21 rfl (Nat.le_of_ble_eq_true rfl) rfl ?_
      refine j_aload_n (pc' := 23) q184_22 rfl (by decide) rfl ?_
      refine j_getr (k := 90) (q := 91) (pc' := 26) q184_23 rfl (hρ 90 0 91 rfl) rfl ?_
      refine j_bipush (pc' := 28) q184_26 rfl ?_
      refine j_aload_n (pc' := 29) q184_28 rfl (by decide) rfl ?_
      refine j_getr (k := 90) (q := 91) (pc' := 32) q184_29 rfl (hρ 90 0 91 rfl) rfl ?_
      refine j_bipush (pc' := 34) q184_32 rfl ?_
      refine j_iald (k := 91) (N := 550) (pc' := 35) q184_34 rfl (by decide) rfl ?_
      refine j_iconst (pc' := 36) q184_35 rfl ?_
      refine j_iload_n (pc' := 37) q184_36 rfl rfl ?_
      refine j_ishl (pc' := 38) q184_37 rfl ?_
      refine j_iconst (pc' := 39) q184_38 rfl ?_
      refine j_ixor (pc' := 40) q184_39 rfl ?_
      refine j_iand (pc' := 41) q184_40 rfl ?_
      refine j_iload_n (pc' := 42) q184_41 rfl rfl ?_
      refine j_join (T := Int32 × Int32 × Int32) 52 (fun t4 => [.null, .null, .null, .int v3]) (fun t4 => [.int t4.1, .int t4.2.1, .int t4.2.2, .ref 91]) (fun t4 => σ) (fun t4 => ?_) (fun j4 hj4 => ?_)
      · show z_J _ _ _ _ _ _ _ _ _ _ _ _
        refine j_ior (pc' := 53) q184_52 rfl ?_
        refine j_if (fun hi5 => ?_) (fun _ => j_none)
        refine j_iast (k := 91) (N := 550) (pc' := 54) q184_53 rfl hi5 rfl ?_
        refine j_nameS (fun τ6 => ?_)
        refine j_iload_n (pc' := 55) q184_54 rfl rfl ?_
        exact j_iret q184_55 rfl
      · show z_J _ _ _ _ _ _ _ _ _ _ _ _
        refine j_if_eq (pc' := 45) q184_42 rfl (fun c7 => ?_) (fun c7 => ?_)
        · refine j_iconst (pc' := 52) q184_51 rfl ?_
          refine j_forget (z_le_n (z_le_n (z_le_n (z_le_s (z_le_nil))))) (hj4 ((0 : Int32), ((σ 91 (80 : Int32).toNatClampNeg) &&& (((1 : Int32) <<< (a1 &&& 31)) ^^^ (-1 : Int32))), (80 : Int32)))
        · refine j_iconst (pc' := 46) q184_45 rfl ?_
          refine j_iload_n (pc' := 47) q184_46 rfl rfl ?_
          refine j_ishl (pc' := 48) q184_47 rfl ?_
          refine j_goto q184_48 rfl ?_
          refine j_forget (z_le_n (z_le_n (z_le_n (z_le_s (z_le_nil))))) (hj4 (((1 : Int32) <<< (a1 &&& 31)), ((σ 91 (80 : Int32).toNatClampNeg) &&& (((1 : Int32) <<< (a1 &&& 31)) ^^^ (-1 : Int32))), (80 : Int32)))
theorem q116_0 : z_fi (z_mi 116) 0 = some (0, .iload_n 1, 0, 0, 0, 0, 0) := rfl
theorem q116_1 : z_fi (z_mi 116) 1 = some (1, .invokestatic 136, 1, 100, 1, 0, 0) := rfl
theorem q116_4 : z_fi (z_mi 116) 4 = some (4, .ifCond .eq 13, 0, 17, 0, 0, 0) := rfl
theorem q116_7 : z_fi (z_mi 116) 7 = some (7, .iload_n 2, 0, 0, 0, 0, 0) := rfl
theorem q116_8 : z_fi (z_mi 116) 8 = some (8, .iconst 0, 0, 0, 0, 0, 0) := rfl
theorem q116_9 : z_fi (z_mi 116) 9 = some (9, .bipush 99, 0, 0, 0, 99, 0) := rfl
theorem q116_11 : z_fi (z_mi 116) 11 = some (11, .invokestatic 60, 1, 99, 3, 0, 0) := rfl
theorem q116_14 : z_fi (z_mi 116) 14 = some (14, .ifCond .ne 5, 0, 19, 0, 0, 0) := rfl
theorem q116_17 : z_fi (z_mi 116) 17 = some (17, .iconst (-1), 0, 0, 0, (-1), 0) := rfl
theorem q116_18 : z_fi (z_mi 116) 18 = some (18, .ireturn, 0, 0, 0, 0, 0) := rfl
theorem q116_19 : z_fi (z_mi 116) 19 = some (19, .aload_n 0, 0, 0, 0, 0, 0) := rfl
theorem q116_20 : z_fi (z_mi 116) 20 = some (20, .getfield 10, 0, 9, 0, 0, 0) := rfl
theorem q116_23 : z_fi (z_mi 116) 23 = some (23, .getfield 111, 0, 0, 9, 0, 0) := rfl
theorem q116_26 : z_fi (z_mi 116) 26 = some (26, .getfield 139, 0, 4, 0, 0, 0) := rfl
theorem q116_29 : z_fi (z_mi 116) 29 = some (29, .iload_n 1, 0, 0, 0, 0, 0) := rfl
theorem q116_30 : z_fi (z_mi 116) 30 = some (30, .iaload, 0, 0, 0, 0, 0) := rfl
theorem q116_31 : z_fi (z_mi 116) 31 = some (31, .istore_n 3, 0, 0, 0, 0, 0) := rfl
theorem q116_32 : z_fi (z_mi 116) 32 = some (32, .aload_n 0, 0, 0, 0, 0, 0) := rfl
theorem q116_33 : z_fi (z_mi 116) 33 = some (33, .getfield 10, 0, 9, 0, 0, 0) := rfl
theorem q116_36 : z_fi (z_mi 116) 36 = some (36, .getfield 111, 0, 0, 9, 0, 0) := rfl
theorem q116_39 : z_fi (z_mi 116) 39 = some (39, .getfield 139, 0, 4, 0, 0, 0) := rfl
theorem q116_42 : z_fi (z_mi 116) 42 = some (42, .iload_n 1, 0, 0, 0, 0, 0) := rfl
theorem q116_43 : z_fi (z_mi 116) 43 = some (43, .iload_n 2, 0, 0, 0, 0, 0) := rfl
theorem q116_44 : z_fi (z_mi 116) 44 = some (44, .iastore, 0, 0, 0, 0, 0) := rfl
theorem q116_45 : z_fi (z_mi 116) 45 = some (45, .iload_n 3, 0, 0, 0, 0, 0) := rfl
theorem q116_46 : z_fi (z_mi 116) 46 = some (46, .ireturn, 0, 0, 0, 0, 0) := rfl
set_option maxRecDepth 20000 in
set_option maxHeartbeats 4000000 in
theorem t_Y_store {xL : Nat} {xs : Nat → Int32} {ρ : Nat → Nat → Option Nat} (hρ : z_hR ρ) (d : Nat) (a1 : Int32) (a2 : Int32) (σ : zS) : ∀ q, f_Y_store a1 a2 σ = some q → z_ec xL xs ρ (d + 2) 116 [.ref 0, .int a1, .int a2] σ (em_i q) := by
  refine j_of (W := [.ref 0, .int a1, .int a2, .null]) (fun L hL => ?_) ?_
  · subst hL; exact z_vl_0 _ 1 rfl
  · unfold f_Y_store
    refine j_iload_n (pc' := 1) q116_0 rfl rfl ?_
    refine j_callS1_pi (d := d + 1) (pc' := 4) q116_1 (Or.inl rfl) (Nat.le_of_ble_eq_true rfl) (Nat.le_of_ble_eq_true rfl) rfl (t_Y_isSeason hρ (d + 0) _ _) (fun r1 => ?_)
    refine j_if_eq (pc' := 7) q116_4 rfl (fun c2 => ?_) (fun c2 => ?_)
    · refine j_iconst (pc' := 18) q116_17 rfl ?_
      exact j_iret q116_18 rfl
    · refine j_iload_n (pc' := 8) q116_7 rfl rfl ?_
      refine j_iconst (pc' := 9) q116_8 rfl ?_
      refine j_bipush (pc' := 11) q116_9 rfl ?_
      refine j_callS3_pi (d := d + 1) (pc' := 14) q116_11 (Or.inl rfl) (Nat.le_of_ble_eq_true rfl) (Nat.le_of_ble_eq_true rfl) rfl (t_Y_isIn hρ (d + 1) _ _ _ _) (fun r3 => ?_)
      refine j_if_ne (pc' := 17) q116_14 rfl (fun c4 => ?_) (fun c4 => ?_)
      · refine j_iconst (pc' := 18) q116_17 rfl ?_
        exact j_iret q116_18 rfl
      · refine j_aload_n (pc' := 20) q116_19 rfl (by decide) rfl ?_
        refine j_getr (k := 0) (q := 1) (pc' := 23) q116_20 rfl (hρ 0 0 1 rfl) rfl ?_
        refine j_getr (k := 1) (q := 11) (pc' := 26) q116_23 rfl (hρ 1 9 11 rfl) rfl ?_
        refine j_getr (k := 11) (q := 12) (pc' := 29) q116_26 rfl (hρ 11 0 12 rfl) rfl ?_
        refine j_iload_n (pc' := 30) q116_29 rfl rfl ?_
        refine j_if (fun hi5 => ?_) (fun _ => j_none)
        refine j_iald (k := 12) (N := 4) (pc' := 31) q116_30 rfl hi5 rfl ?_
        refine j_istore3 (pc' := 32) q116_31 rfl (Nat.le_of_ble_eq_true rfl) rfl ?_
        refine j_aload_n (pc' := 33) q116_32 rfl (by decide) rfl ?_
        refine j_getr (k := 0) (q := 1) (pc' := 36) q116_33 rfl (hρ 0 0 1 rfl) rfl ?_
        refine j_getr (k := 1) (q := 11) (pc' := 39) q116_36 rfl (hρ 1 9 11 rfl) rfl ?_
        refine j_getr (k := 11) (q := 12) (pc' := 42) q116_39 rfl (hρ 11 0 12 rfl) rfl ?_
        refine j_iload_n (pc' := 43) q116_42 rfl rfl ?_
        refine j_iload_n (pc' := 44) q116_43 rfl rfl ?_
        refine j_if (fun hi6 => ?_) (fun _ => j_none)
        refine j_iast (k := 12) (N := 4) (pc' := 45) q116_44 rfl hi6 rfl ?_
        refine j_nameS (fun τ7 => ?_)
        refine j_iload_n (pc' := 46) q116_45 rfl rfl ?_
        exact j_iret q116_46 rfl
theorem q185_0 : z_fi (z_mi 185) 0 = some (0, .aload_n 0, 0, 0, 0, 0, 0) := rfl
theorem q185_1 : z_fi (z_mi 185) 1 = some (1, .iload_n 1, 0, 0, 0, 0, 0) := rfl
theorem q185_2 : z_fi (z_mi 185) 2 = some (2, .invokestatic 177, 1, 167, 1, 0, 0) := rfl
theorem q185_5 : z_fi (z_mi 185) 5 = some (5, .ifCond .eq 19, 0, 24, 0, 0, 0) := rfl
theorem q185_8 : z_fi (z_mi 185) 8 = some (8, .iload_n 2, 0, 0, 0, 0, 0) := rfl
theorem q185_9 : z_fi (z_mi 185) 9 = some (9, .i2l, 0, 0, 0, 0, 0) := rfl
theorem q185_10 : z_fi (z_mi 185) 10 = some (10, .lconst 0, 0, 0, 0, 0, 0) := rfl
theorem q185_11 : z_fi (z_mi 185) 11 = some (11, .ldc2_w 198, 0, 0, 0, 0, 99) := rfl
theorem q185_14 : z_fi (z_mi 185) 14 = some (14, .invokestatic 62, 1, 149, 3, 0, 0) := rfl
theorem q185_17 : z_fi (z_mi 185) 17 = some (17, .ifCond .eq 7, 0, 24, 0, 0, 0) := rfl
theorem q185_20 : z_fi (z_mi 185) 20 = some (20, .iconst 1, 0, 0, 0, 1, 0) := rfl
theorem q185_21 : z_fi (z_mi 185) 21 = some (21, .goto 4, 0, 25, 0, 0, 0) := rfl
theorem q185_24 : z_fi (z_mi 185) 24 = some (24, .iconst 0, 0, 0, 0, 0, 0) := rfl
theorem q185_25 : z_fi (z_mi 185) 25 = some (25, .bipush 96, 0, 0, 0, 96, 0) := rfl
theorem q185_27 : z_fi (z_mi 185) 27 = some (27, .iconst 2, 0, 0, 0, 2, 0) := rfl
theorem q185_28 : z_fi (z_mi 185) 28 = some (28, .iload_n 1, 0, 0, 0, 0, 0) := rfl
theorem q185_29 : z_fi (z_mi 185) 29 = some (29, .imul, 0, 0, 0, 0, 0) := rfl
theorem q185_30 : z_fi (z_mi 185) 30 = some (30, .iadd, 0, 0, 0, 0, 0) := rfl
theorem q185_31 : z_fi (z_mi 185) 31 = some (31, .iload_n 2, 0, 0, 0, 0, 0) := rfl
theorem q185_32 : z_fi (z_mi 185) 32 = some (32, .invokevirtual 194, 0, 177, 3, 0, 0) := rfl
theorem q185_35 : z_fi (z_mi 185) 35 = some (35, .ireturn, 0, 0, 0, 0, 0) := rfl
set_option maxRecDepth 20000 in
set_option maxHeartbeats 4000000 in
theorem t_M_store {xL : Nat} {xs : Nat → Int32} {ρ : Nat → Nat → Option Nat} (hρ : z_hR ρ) (d : Nat) (a1 : Int32) (a2 : Int32) (σ : zS) : ∀ q, f_M_store a1 a2 σ = some q → z_ec xL xs ρ (d + 2) 185 [.ref 90, .int a1, .int a2] σ (em_i q) := by
  refine j_of (W := [.ref 90, .int a1, .int a2]) (fun L hL => ?_) ?_
  · subst hL; exact z_vl_0 _ 0 rfl
  · unfold f_M_store
    refine j_aload_n (pc' := 1) q185_0 rfl (by decide) rfl ?_
    refine j_iload_n (pc' := 2) q185_1 rfl rfl ?_
    refine j_callS1_pi (d := d + 1) (pc' := 5) q185_2 (Or.inl rfl) (Nat.le_of_ble_eq_true rfl) (Nat.le_of_ble_eq_true rfl) rfl (t_M_isSeason hρ (d + 0) _ _) (fun r1 => ?_)
    refine j_join (T := Int32) 25 (fun t2 => [.null, .int a1, .int a2]) (fun t2 => [.int t2, .ref 90]) (fun t2 => σ) (fun t2 => ?_) (fun j2 hj2 => ?_)
    · show z_J _ _ _ _ _ _ _ _ _ _ _ _
      refine j_bipush (pc' := 27) q185_25 rfl ?_
      refine j_iconst (pc' := 28) q185_27 rfl ?_
      refine j_iload_n (pc' := 29) q185_28 rfl rfl ?_
      refine j_imul (pc' := 30) q185_29 rfl ?_
      refine j_iadd (pc' := 31) q185_30 rfl ?_
      refine j_iload_n (pc' := 32) q185_31 rfl rfl ?_
      refine j_callV3_i (d := d + 1) (pc' := 35) q185_32 rfl (Nat.le_of_ble_eq_true rfl) (Nat.le_of_ble_eq_true rfl) rfl (t_M_sets hρ (d + 1) _ _ _ _) (fun r3 => ?_)
      exact j_iret q185_35 rfl
    · show z_J _ _ _ _ _ _ _ _ _ _ _ _
      refine j_join (T := Unit) 24 (fun t4 => [.null, .int a1, .int a2]) (fun t4 => [.ref 90]) (fun t4 => σ) (fun t4 => ?_) (fun j4 hj4 => ?_)
      · show z_J _ _ _ _ _ _ _ _ _ _ _ _
        refine j_iconst (pc' := 25) q185_24 rfl ?_
        refine j_forget (z_le_n (z_le_s (z_le_s (z_le_nil)))) (hj2 (0 : Int32))
      · show z_J _ _ _ _ _ _ _ _ _ _ _ _
        refine j_if_eq (pc' := 8) q185_5 rfl (fun c5 => ?_) (fun c5 => ?_)
        · refine j_forget (z_le_n (z_le_s (z_le_s (z_le_nil)))) (hj4 ())
        · refine j_iload_n (pc' := 9) q185_8 rfl rfl ?_
          refine j_i2l (pc' := 10) q185_9 rfl ?_
          refine j_lconst (pc' := 11) q185_10 rfl ?_
          refine j_ldc2 (pc' := 14) q185_11 rfl ?_
          refine j_callS3_pi (d := d + 1) (pc' := 17) q185_14 (Or.inl rfl) (Nat.le_of_ble_eq_true rfl) (Nat.le_of_ble_eq_true rfl) rfl (t_M_in hρ (d + 1) _ _ _ _) (fun r6 => ?_)
          refine j_if_eq (pc' := 20) q185_17 rfl (fun c7 => ?_) (fun c7 => ?_)
          · refine j_forget (z_le_n (z_le_s (z_le_s (z_le_nil)))) (hj4 ())
          · refine j_iconst (pc' := 21) q185_20 rfl ?_
            refine j_goto q185_21 rfl ?_
            refine j_forget (z_le_n (z_le_s (z_le_s (z_le_nil)))) (hj2 (1 : Int32))
theorem q117_0 : z_fi (z_mi 117) 0 = some (0, .iload_n 1, 0, 0, 0, 0, 0) := rfl
theorem q117_1 : z_fi (z_mi 117) 1 = some (1, .invokestatic 136, 1, 100, 1, 0, 0) := rfl
theorem q117_4 : z_fi (z_mi 117) 4 = some (4, .ifCond .eq 13, 0, 17, 0, 0, 0) := rfl
theorem q117_7 : z_fi (z_mi 117) 7 = some (7, .iload_n 2, 0, 0, 0, 0, 0) := rfl
theorem q117_8 : z_fi (z_mi 117) 8 = some (8, .iconst 1, 0, 0, 0, 1, 0) := rfl
theorem q117_9 : z_fi (z_mi 117) 9 = some (9, .bipush 9, 0, 0, 0, 9, 0) := rfl
theorem q117_11 : z_fi (z_mi 117) 11 = some (11, .invokestatic 60, 1, 99, 3, 0, 0) := rfl
theorem q117_14 : z_fi (z_mi 117) 14 = some (14, .ifCond .ne 5, 0, 19, 0, 0, 0) := rfl
theorem q117_17 : z_fi (z_mi 117) 17 = some (17, .iconst (-1), 0, 0, 0, (-1), 0) := rfl
theorem q117_18 : z_fi (z_mi 117) 18 = some (18, .ireturn, 0, 0, 0, 0, 0) := rfl
theorem q117_19 : z_fi (z_mi 117) 19 = some (19, .aload_n 0, 0, 0, 0, 0, 0) := rfl
theorem q117_20 : z_fi (z_mi 117) 20 = some (20, .getfield 10, 0, 9, 0, 0, 0) := rfl
theorem q117_23 : z_fi (z_mi 117) 23 = some (23, .getfield 111, 0, 0, 9, 0, 0) := rfl
theorem q117_26 : z_fi (z_mi 117) 26 = some (26, .getfield 143, 0, 4, 1, 0, 0) := rfl
theorem q117_29 : z_fi (z_mi 117) 29 = some (29, .iload_n 1, 0, 0, 0, 0, 0) := rfl
theorem q117_30 : z_fi (z_mi 117) 30 = some (30, .iaload, 0, 0, 0, 0, 0) := rfl
theorem q117_31 : z_fi (z_mi 117) 31 = some (31, .istore_n 3, 0, 0, 0, 0, 0) := rfl
theorem q117_32 : z_fi (z_mi 117) 32 = some (32, .aload_n 0, 0, 0, 0, 0, 0) := rfl
theorem q117_33 : z_fi (z_mi 117) 33 = some (33, .getfield 10, 0, 9, 0, 0, 0) := rfl
theorem q117_36 : z_fi (z_mi 117) 36 = some (36, .getfield 111, 0, 0, 9, 0, 0) := rfl
theorem q117_39 : z_fi (z_mi 117) 39 = some (39, .getfield 143, 0, 4, 1, 0, 0) := rfl
theorem q117_42 : z_fi (z_mi 117) 42 = some (42, .iload_n 1, 0, 0, 0, 0, 0) := rfl
theorem q117_43 : z_fi (z_mi 117) 43 = some (43, .iload_n 2, 0, 0, 0, 0, 0) := rfl
theorem q117_44 : z_fi (z_mi 117) 44 = some (44, .iastore, 0, 0, 0, 0, 0) := rfl
theorem q117_45 : z_fi (z_mi 117) 45 = some (45, .iload_n 3, 0, 0, 0, 0, 0) := rfl
theorem q117_46 : z_fi (z_mi 117) 46 = some (46, .ireturn, 0, 0, 0, 0, 0) := rfl
set_option maxRecDepth 20000 in
set_option maxHeartbeats 4000000 in
theorem t_Y_price {xL : Nat} {xs : Nat → Int32} {ρ : Nat → Nat → Option Nat} (hρ : z_hR ρ) (d : Nat) (a1 : Int32) (a2 : Int32) (σ : zS) : ∀ q, f_Y_price a1 a2 σ = some q → z_ec xL xs ρ (d + 2) 117 [.ref 0, .int a1, .int a2] σ (em_i q) := by
  refine j_of (W := [.ref 0, .int a1, .int a2, .null]) (fun L hL => ?_) ?_
  · subst hL; exact z_vl_0 _ 1 rfl
  · unfold f_Y_price
    refine j_iload_n (pc' := 1) q117_0 rfl rfl ?_
    refine j_callS1_pi (d := d + 1) (pc' := 4) q117_1 (Or.inl rfl) (Nat.le_of_ble_eq_true rfl) (Nat.le_of_ble_eq_true rfl) rfl (t_Y_isSeason hρ (d + 0) _ _) (fun r1 => ?_)
    refine j_if_eq (pc' := 7) q117_4 rfl (fun c2 => ?_) (fun c2 => ?_)
    · refine j_iconst (pc' := 18) q117_17 rfl ?_
      exact j_iret q117_18 rfl
    · refine j_iload_n (pc' := 8) q117_7 rfl rfl ?_
      refine j_iconst (pc' := 9) q117_8 rfl ?_
      refine j_bipush (pc' := 11) q117_9 rfl ?_
      refine j_callS3_pi (d := d + 1) (pc' := 14) q117_11 (Or.inl rfl) (Nat.le_of_ble_eq_true rfl) (Nat.le_of_ble_eq_true rfl) rfl (t_Y_isIn hρ (d + 1) _ _ _ _) (fun r3 => ?_)
      refine j_if_ne (pc' := 17) q117_14 rfl (fun c4 => ?_) (fun c4 => ?_)
      · refine j_iconst (pc' := 18) q117_17 rfl ?_
        exact j_iret q117_18 rfl
      · refine j_aload_n (pc' := 20) q117_19 rfl (by decide) rfl ?_
        refine j_getr (k := 0) (q := 1) (pc' := 23) q117_20 rfl (hρ 0 0 1 rfl) rfl ?_
        refine j_getr (k := 1) (q := 11) (pc' := 26) q117_23 rfl (hρ 1 9 11 rfl) rfl ?_
        refine j_getr (k := 11) (q := 13) (pc' := 29) q117_26 rfl (hρ 11 1 13 rfl) rfl ?_
        refine j_iload_n (pc' := 30) q117_29 rfl rfl ?_
        refine j_if (fun hi5 => ?_) (fun _ => j_none)
        refine j_iald (k := 13) (N := 4) (pc' := 31) q117_30 rfl hi5 rfl ?_
        refine j_istore3 (pc' := 32) q117_31 rfl (Nat.le_of_ble_eq_true rfl) rfl ?_
        refine j_aload_n (pc' := 33) q117_32 rfl (by decide) rfl ?_
        refine j_getr (k := 0) (q := 1) (pc' := 36) q117_33 rfl (hρ 0 0 1 rfl) rfl ?_
        refine j_getr (k := 1) (q := 11) (pc' := 39) q117_36 rfl (hρ 1 9 11 rfl) rfl ?_
        refine j_getr (k := 11) (q := 13) (pc' := 42) q117_39 rfl (hρ 11 1 13 rfl) rfl ?_
        refine j_iload_n (pc' := 43) q117_42 rfl rfl ?_
        refine j_iload_n (pc' := 44) q117_43 rfl rfl ?_
        refine j_if (fun hi6 => ?_) (fun _ => j_none)
        refine j_iast (k := 13) (N := 4) (pc' := 45) q117_44 rfl hi6 rfl ?_
        refine j_nameS (fun τ7 => ?_)
        refine j_iload_n (pc' := 46) q117_45 rfl rfl ?_
        exact j_iret q117_46 rfl
theorem q186_0 : z_fi (z_mi 186) 0 = some (0, .iload_n 1, 0, 0, 0, 0, 0) := rfl
theorem q186_1 : z_fi (z_mi 186) 1 = some (1, .invokestatic 177, 1, 167, 1, 0, 0) := rfl
theorem q186_4 : z_fi (z_mi 186) 4 = some (4, .ifCond .eq 36, 0, 40, 0, 0, 0) := rfl
theorem q186_7 : z_fi (z_mi 186) 7 = some (7, .iload_n 2, 0, 0, 0, 0, 0) := rfl
theorem q186_8 : z_fi (z_mi 186) 8 = some (8, .i2l, 0, 0, 0, 0, 0) := rfl
theorem q186_9 : z_fi (z_mi 186) 9 = some (9, .lconst 1, 0, 0, 0, 0, 1) := rfl
theorem q186_10 : z_fi (z_mi 186) 10 = some (10, .ldc2_w 185, 0, 0, 0, 0, 9) := rfl
theorem q186_13 : z_fi (z_mi 186) 13 = some (13, .invokestatic 62, 1, 149, 3, 0, 0) := rfl
theorem q186_16 : z_fi (z_mi 186) 16 = some (16, .ifCond .eq 24, 0, 40, 0, 0, 0) := rfl
theorem q186_19 : z_fi (z_mi 186) 19 = some (19, .iconst 1, 0, 0, 0, 1, 0) := rfl
theorem q186_20 : z_fi (z_mi 186) 20 = some (20, .aload_n 0, 0, 0, 0, 0, 0) := rfl
theorem q186_21 : z_fi (z_mi 186) 21 = some (21, .iconst 1, 0, 0, 0, 1, 0) := rfl
theorem q186_22 : z_fi (z_mi 186) 22 = some (22, .bipush 96, 0, 0, 0, 96, 0) := rfl
theorem q186_24 : z_fi (z_mi 186) 24 = some (24, .iconst 2, 0, 0, 0, 2, 0) := rfl
theorem q186_25 : z_fi (z_mi 186) 25 = some (25, .iload_n 1, 0, 0, 0, 0, 0) := rfl
theorem q186_26 : z_fi (z_mi 186) 26 = some (26, .imul, 0, 0, 0, 0, 0) := rfl
theorem q186_27 : z_fi (z_mi 186) 27 = some (27, .iadd, 0, 0, 0, 0, 0) := rfl
theorem q186_28 : z_fi (z_mi 186) 28 = some (28, .iconst 1, 0, 0, 0, 1, 0) := rfl
theorem q186_29 : z_fi (z_mi 186) 29 = some (29, .iadd, 0, 0, 0, 0, 0) := rfl
theorem q186_30 : z_fi (z_mi 186) 30 = some (30, .iload_n 2, 0, 0, 0, 0, 0) := rfl
theorem q186_31 : z_fi (z_mi 186) 31 = some (31, .iconst 1, 0, 0, 0, 1, 0) := rfl
theorem q186_32 : z_fi (z_mi 186) 32 = some (32, .isub, 0, 0, 0, 0, 0) := rfl
theorem q186_33 : z_fi (z_mi 186) 33 = some (33, .invokevirtual 194, 0, 177, 3, 0, 0) := rfl
theorem q186_36 : z_fi (z_mi 186) 36 = some (36, .iadd, 0, 0, 0, 0, 0) := rfl
theorem q186_37 : z_fi (z_mi 186) 37 = some (37, .goto 4, 0, 41, 0, 0, 0) := rfl
theorem q186_40 : z_fi (z_mi 186) 40 = some (40, .iconst (-1), 0, 0, 0, (-1), 0) := rfl
theorem q186_41 : z_fi (z_mi 186) 41 = some (41, .ireturn, 0, 0, 0, 0, 0) := rfl
set_option maxRecDepth 20000 in
set_option maxHeartbeats 4000000 in
theorem t_M_price {xL : Nat} {xs : Nat → Int32} {ρ : Nat → Nat → Option Nat} (hρ : z_hR ρ) (d : Nat) (a1 : Int32) (a2 : Int32) (σ : zS) : ∀ q, f_M_price a1 a2 σ = some q → z_ec xL xs ρ (d + 2) 186 [.ref 90, .int a1, .int a2] σ (em_i q) := by
  refine j_of (W := [.ref 90, .int a1, .int a2]) (fun L hL => ?_) ?_
  · subst hL; exact z_vl_0 _ 0 rfl
  · unfold f_M_price
    refine j_iload_n (pc' := 1) q186_0 rfl rfl ?_
    refine j_callS1_pi (d := d + 1) (pc' := 4) q186_1 (Or.inl rfl) (Nat.le_of_ble_eq_true rfl) (Nat.le_of_ble_eq_true rfl) rfl (t_M_isSeason hρ (d + 0) _ _) (fun r1 => ?_)
    refine j_if_eq (pc' := 7) q186_4 rfl (fun c2 => ?_) (fun c2 => ?_)
    · refine j_iconst (pc' := 41) q186_40 rfl ?_
      exact j_iret q186_41 rfl
    · refine j_iload_n (pc' := 8) q186_7 rfl rfl ?_
      refine j_i2l (pc' := 9) q186_8 rfl ?_
      refine j_lconst (pc' := 10) q186_9 rfl ?_
      refine j_ldc2 (pc' := 13) q186_10 rfl ?_
      refine j_callS3_pi (d := d + 1) (pc' := 16) q186_13 (Or.inl rfl) (Nat.le_of_ble_eq_true rfl) (Nat.le_of_ble_eq_true rfl) rfl (t_M_in hρ (d + 1) _ _ _ _) (fun r3 => ?_)
      refine j_if_eq (pc' := 19) q186_16 rfl (fun c4 => ?_) (fun c4 => ?_)
      · refine j_iconst (pc' := 41) q186_40 rfl ?_
        exact j_iret q186_41 rfl
      · refine j_iconst (pc' := 20) q186_19 rfl ?_
        refine j_aload_n (pc' := 21) q186_20 rfl (by decide) rfl ?_
        refine j_iconst (pc' := 22) q186_21 rfl ?_
        refine j_bipush (pc' := 24) q186_22 rfl ?_
        refine j_iconst (pc' := 25) q186_24 rfl ?_
        refine j_iload_n (pc' := 26) q186_25 rfl rfl ?_
        refine j_imul (pc' := 27) q186_26 rfl ?_
        refine j_iadd (pc' := 28) q186_27 rfl ?_
        refine j_iconst (pc' := 29) q186_28 rfl ?_
        refine j_iadd (pc' := 30) q186_29 rfl ?_
        refine j_iload_n (pc' := 31) q186_30 rfl rfl ?_
        refine j_iconst (pc' := 32) q186_31 rfl ?_
        refine j_isub (pc' := 33) q186_32 rfl ?_
        refine j_callV3_i (d := d + 1) (pc' := 36) q186_33 rfl (Nat.le_of_ble_eq_true rfl) (Nat.le_of_ble_eq_true rfl) rfl (t_M_sets hρ (d + 1) _ _ _ _) (fun r5 => ?_)
        refine j_iadd (pc' := 37) q186_36 rfl ?_
        refine j_goto q186_37 rfl ?_
        exact j_iret q186_41 rfl
theorem q118_0 : z_fi (z_mi 118) 0 = some (0, .iload_n 1, 0, 0, 0, 0, 0) := rfl
theorem q118_1 : z_fi (z_mi 118) 1 = some (1, .iconst 0, 0, 0, 0, 0, 0) := rfl
theorem q118_2 : z_fi (z_mi 118) 2 = some (2, .sipush 999, 0, 0, 0, 999, 0) := rfl
theorem q118_5 : z_fi (z_mi 118) 5 = some (5, .invokestatic 60, 1, 99, 3, 0, 0) := rfl
theorem q118_8 : z_fi (z_mi 118) 8 = some (8, .ifCond .ne 5, 0, 13, 0, 0, 0) := rfl
theorem q118_11 : z_fi (z_mi 118) 11 = some (11, .iconst (-1), 0, 0, 0, (-1), 0) := rfl
theorem q118_12 : z_fi (z_mi 118) 12 = some (12, .ireturn, 0, 0, 0, 0, 0) := rfl
theorem q118_13 : z_fi (z_mi 118) 13 = some (13, .aload_n 0, 0, 0, 0, 0, 0) := rfl
theorem q118_14 : z_fi (z_mi 118) 14 = some (14, .getfield 10, 0, 9, 0, 0, 0) := rfl
theorem q118_17 : z_fi (z_mi 118) 17 = some (17, .getfield 111, 0, 0, 9, 0, 0) := rfl
theorem q118_20 : z_fi (z_mi 118) 20 = some (20, .getfield 115, 0, 4, 2, 0, 0) := rfl
theorem q118_23 : z_fi (z_mi 118) 23 = some (23, .istore_n 2, 0, 0, 0, 0, 0) := rfl
theorem q118_24 : z_fi (z_mi 118) 24 = some (24, .aload_n 0, 0, 0, 0, 0, 0) := rfl
theorem q118_25 : z_fi (z_mi 118) 25 = some (25, .getfield 10, 0, 9, 0, 0, 0) := rfl
theorem q118_28 : z_fi (z_mi 118) 28 = some (28, .getfield 111, 0, 0, 9, 0, 0) := rfl
theorem q118_31 : z_fi (z_mi 118) 31 = some (31, .iload_n 1, 0, 0, 0, 0, 0) := rfl
theorem q118_32 : z_fi (z_mi 118) 32 = some (32, .putfield 115, 0, 4, 2, 0, 0) := rfl
theorem q118_35 : z_fi (z_mi 118) 35 = some (35, .iload_n 2, 0, 0, 0, 0, 0) := rfl
theorem q118_36 : z_fi (z_mi 118) 36 = some (36, .ireturn, 0, 0, 0, 0, 0) := rfl
set_option maxRecDepth 20000 in
set_option maxHeartbeats 4000000 in
theorem t_Y_fund {xL : Nat} {xs : Nat → Int32} {ρ : Nat → Nat → Option Nat} (hρ : z_hR ρ) (d : Nat) (a1 : Int32) (σ : zS) : ∀ q, f_Y_fund a1 σ = some q → z_ec xL xs ρ (d + 1) 118 [.ref 0, .int a1] σ (em_i q) := by
  refine j_of (W := [.ref 0, .int a1, .null]) (fun L hL => ?_) ?_
  · subst hL; exact z_vl_0 _ 1 rfl
  · unfold f_Y_fund
    refine j_iload_n (pc' := 1) q118_0 rfl rfl ?_
    refine j_iconst (pc' := 2) q118_1 rfl ?_
    refine j_sipush (pc' := 5) q118_2 rfl ?_
    refine j_callS3_pi (d := d + 0) (pc' := 8) q118_5 (Or.inl rfl) (Nat.le_of_ble_eq_true rfl) (Nat.le_of_ble_eq_true rfl) rfl (t_Y_isIn hρ (d + 0) _ _ _ _) (fun r1 => ?_)
    refine j_if_ne (pc' := 11) q118_8 rfl (fun c2 => ?_) (fun c2 => ?_)
    · refine j_iconst (pc' := 12) q118_11 rfl ?_
      exact j_iret q118_12 rfl
    · refine j_aload_n (pc' := 14) q118_13 rfl (by decide) rfl ?_
      refine j_getr (k := 0) (q := 1) (pc' := 17) q118_14 rfl (hρ 0 0 1 rfl) rfl ?_
      refine j_getr (k := 1) (q := 11) (pc' := 20) q118_17 rfl (hρ 1 9 11 rfl) rfl ?_
      refine j_getf (k := 11) (pc' := 23) q118_20 rfl rfl ?_
      refine j_istore2 (pc' := 24) q118_23 rfl (Nat.le_of_ble_eq_true rfl) rfl ?_
      refine j_aload_n (pc' := 25) q118_24 rfl (by decide) rfl ?_
      refine j_getr (k := 0) (q := 1) (pc' := 28) q118_25 rfl (hρ 0 0 1 rfl) rfl ?_
      refine j_getr (k := 1) (q := 11) (pc' := 31) q118_28 rfl (hρ 1 9 11 rfl) rfl ?_
      refine j_iload_n (pc' := 32) q118_31 rfl rfl ?_
      refine j_putf (k := 11) (pc' := 35) q118_32 rfl rfl ?_
      refine j_nameS (fun τ3 => ?_)
      refine j_iload_n (pc' := 36) q118_35 rfl rfl ?_
      exact j_iret q118_36 rfl
theorem q187_0 : z_fi (z_mi 187) 0 = some (0, .aload_n 0, 0, 0, 0, 0, 0) := rfl
theorem q187_1 : z_fi (z_mi 187) 1 = some (1, .iload_n 1, 0, 0, 0, 0, 0) := rfl
theorem q187_2 : z_fi (z_mi 187) 2 = some (2, .i2l, 0, 0, 0, 0, 0) := rfl
theorem q187_3 : z_fi (z_mi 187) 3 = some (3, .lconst 0, 0, 0, 0, 0, 0) := rfl
theorem q187_4 : z_fi (z_mi 187) 4 = some (4, .ldc2_w 200, 0, 0, 0, 0, 999) := rfl
theorem q187_7 : z_fi (z_mi 187) 7 = some (7, .invokestatic 62, 1, 149, 3, 0, 0) := rfl
theorem q187_10 : z_fi (z_mi 187) 10 = some (10, .bipush 104, 0, 0, 0, 104, 0) := rfl
theorem q187_12 : z_fi (z_mi 187) 12 = some (12, .iload_n 1, 0, 0, 0, 0, 0) := rfl
theorem q187_13 : z_fi (z_mi 187) 13 = some (13, .invokevirtual 194, 0, 177, 3, 0, 0) := rfl
theorem q187_16 : z_fi (z_mi 187) 16 = some (16, .ireturn, 0, 0, 0, 0, 0) := rfl
set_option maxRecDepth 20000 in
set_option maxHeartbeats 4000000 in
theorem t_M_fund {xL : Nat} {xs : Nat → Int32} {ρ : Nat → Nat → Option Nat} (hρ : z_hR ρ) (d : Nat) (a1 : Int32) (σ : zS) : ∀ q, f_M_fund a1 σ = some q → z_ec xL xs ρ (d + 1) 187 [.ref 90, .int a1] σ (em_i q) := by
  refine j_of (W := [.ref 90, .int a1]) (fun L hL => ?_) ?_
  · subst hL; exact z_vl_0 _ 0 rfl
  · unfold f_M_fund
    refine j_aload_n (pc' := 1) q187_0 rfl (by decide) rfl ?_
    refine j_iload_n (pc' := 2) q187_1 rfl rfl ?_
    refine j_i2l (pc' := 3) q187_2 rfl ?_
    refine j_lconst (pc' := 4) q187_3 rfl ?_
    refine j_ldc2 (pc' := 7) q187_4 rfl ?_
    refine j_callS3_pi (d := d + 0) (pc' := 10) q187_7 (Or.inl rfl) (Nat.le_of_ble_eq_true rfl) (Nat.le_of_ble_eq_true rfl) rfl (t_M_in hρ (d + 0) _ _ _ _) (fun r1 => ?_)
    refine j_bipush (pc' := 12) q187_10 rfl ?_
    refine j_iload_n (pc' := 13) q187_12 rfl rfl ?_
    refine j_callV3_i (d := d + 0) (pc' := 16) q187_13 rfl (Nat.le_of_ble_eq_true rfl) (Nat.le_of_ble_eq_true rfl) rfl (t_M_sets hρ (d + 0) _ _ _ _) (fun r2 => ?_)
    exact j_iret q187_16 rfl
theorem q119_0 : z_fi (z_mi 119) 0 = some (0, .aload_n 0, 0, 0, 0, 0, 0) := rfl
theorem q119_1 : z_fi (z_mi 119) 1 = some (1, .getfield 10, 0, 9, 0, 0, 0) := rfl
theorem q119_4 : z_fi (z_mi 119) 4 = some (4, .getfield 104, 0, 0, 8, 0, 0) := rfl
theorem q119_7 : z_fi (z_mi 119) 7 = some (7, .iload_n 1, 0, 0, 0, 0, 0) := rfl
theorem q119_8 : z_fi (z_mi 119) 8 = some (8, .invokevirtual 146, 0, 35, 1, 0, 0) := rfl
theorem q119_11 : z_fi (z_mi 119) 11 = some (11, .ifCond .eq 12, 0, 23, 0, 0, 0) := rfl
theorem q119_14 : z_fi (z_mi 119) 14 = some (14, .iload_n 2, 0, 0, 0, 0, 0) := rfl
theorem q119_15 : z_fi (z_mi 119) 15 = some (15, .iconst 1, 0, 0, 0, 1, 0) := rfl
theorem q119_16 : z_fi (z_mi 119) 16 = some (16, .iconst 4, 0, 0, 0, 4, 0) := rfl
theorem q119_17 : z_fi (z_mi 119) 17 = some (17, .invokestatic 60, 1, 99, 3, 0, 0) := rfl
theorem q119_20 : z_fi (z_mi 119) 20 = some (20, .ifCond .ne 5, 0, 25, 0, 0, 0) := rfl
theorem q119_23 : z_fi (z_mi 119) 23 = some (23, .iconst (-1), 0, 0, 0, (-1), 0) := rfl
theorem q119_24 : z_fi (z_mi 119) 24 = some (24, .ireturn, 0, 0, 0, 0, 0) := rfl
theorem q119_25 : z_fi (z_mi 119) 25 = some (25, .aload_n 0, 0, 0, 0, 0, 0) := rfl
theorem q119_26 : z_fi (z_mi 119) 26 = some (26, .getfield 10, 0, 9, 0, 0, 0) := rfl
theorem q119_29 : z_fi (z_mi 119) 29 = some (29, .getfield 104, 0, 0, 8, 0, 0) := rfl
theorem q119_32 : z_fi (z_mi 119) 32 = some (32, .getfield 155, 0, 1, 2, 0, 0) := rfl
theorem q119_35 : z_fi (z_mi 119) 35 = some (35, .iload_n 1, 0, 0, 0, 0, 0) := rfl
theorem q119_36 : z_fi (z_mi 119) 36 = some (36, .iaload, 0, 0, 0, 0, 0) := rfl
theorem q119_37 : z_fi (z_mi 119) 37 = some (37, .istore_n 3, 0, 0, 0, 0, 0) := rfl
theorem q119_38 : z_fi (z_mi 119) 38 = some (38, .aload_n 0, 0, 0, 0, 0, 0) := rfl
theorem q119_39 : z_fi (z_mi 119) 39 = some (39, .getfield 10, 0, 9, 0, 0, 0) := rfl
theorem q119_42 : z_fi (z_mi 119) 42 = some (42, .getfield 104, 0, 0, 8, 0, 0) := rfl
theorem q119_45 : z_fi (z_mi 119) 45 = some (45, .getfield 155, 0, 1, 2, 0, 0) := rfl
theorem q119_48 : z_fi (z_mi 119) 48 = some (48, .iload_n 1, 0, 0, 0, 0, 0) := rfl
theorem q119_49 : z_fi (z_mi 119) 49 = some (49, .iload_n 2, 0, 0, 0, 0, 0) := rfl
theorem q119_50 : z_fi (z_mi 119) 50 = some (50, .iastore, 0, 0, 0, 0, 0) := rfl
theorem q119_51 : z_fi (z_mi 119) 51 = some (51, .iload_n 3, 0, 0, 0, 0, 0) := rfl
theorem q119_52 : z_fi (z_mi 119) 52 = some (52, .ireturn, 0, 0, 0, 0, 0) := rfl
set_option maxRecDepth 20000 in
set_option maxHeartbeats 4000000 in
theorem t_Y_bite {xL : Nat} {xs : Nat → Int32} {ρ : Nat → Nat → Option Nat} (hρ : z_hR ρ) (d : Nat) (a1 : Int32) (a2 : Int32) (σ : zS) : ∀ q, f_Y_bite a1 a2 σ = some q → z_ec xL xs ρ (d + 1) 119 [.ref 0, .int a1, .int a2] σ (em_i q) := by
  refine j_of (W := [.ref 0, .int a1, .int a2, .null]) (fun L hL => ?_) ?_
  · subst hL; exact z_vl_0 _ 1 rfl
  · unfold f_Y_bite
    refine j_aload_n (pc' := 1) q119_0 rfl (by decide) rfl ?_
    refine j_getr (k := 0) (q := 1) (pc' := 4) q119_1 rfl (hρ 0 0 1 rfl) rfl ?_
    refine j_getr (k := 1) (q := 7) (pc' := 7) q119_4 rfl (hρ 1 8 7 rfl) rfl ?_
    refine j_iload_n (pc' := 8) q119_7 rfl rfl ?_
    refine j_callV1_pi (d := d + 0) (pc' := 11) q119_8 rfl (Nat.le_of_ble_eq_true rfl) (Nat.le_of_ble_eq_true rfl) rfl (t_Lw_has_7 hρ (d + 0) _ _) (fun r1 => ?_)
    refine j_if_eq (pc' := 14) q119_11 rfl (fun c2 => ?_) (fun c2 => ?_)
    · refine j_iconst (pc' := 24) q119_23 rfl ?_
      exact j_iret q119_24 rfl
    · refine j_iload_n (pc' := 15) q119_14 rfl rfl ?_
      refine j_iconst (pc' := 16) q119_15 rfl ?_
      refine j_iconst (pc' := 17) q119_16 rfl ?_
      refine j_callS3_pi (d := d + 0) (pc' := 20) q119_17 (Or.inl rfl) (Nat.le_of_ble_eq_true rfl) (Nat.le_of_ble_eq_true rfl) rfl (t_Y_isIn hρ (d + 0) _ _ _ _) (fun r3 => ?_)
      refine j_if_ne (pc' := 23) q119_20 rfl (fun c4 => ?_) (fun c4 => ?_)
      · refine j_iconst (pc' := 24) q119_23 rfl ?_
        exact j_iret q119_24 rfl
      · refine j_aload_n (pc' := 26) q119_25 rfl (by decide) rfl ?_
        refine j_getr (k := 0) (q := 1) (pc' := 29) q119_26 rfl (hρ 0 0 1 rfl) rfl ?_
        refine j_getr (k := 1) (q := 7) (pc' := 32) q119_29 rfl (hρ 1 8 7 rfl) rfl ?_
        refine j_getr (k := 7) (q := 10) (pc' := 35) q119_32 rfl (hρ 7 2 10 rfl) rfl ?_
        refine j_iload_n (pc' := 36) q119_35 rfl rfl ?_
        refine j_if (fun hi5 => ?_) (fun _ => j_none)
        refine j_iald (k := 10) (N := 5) (pc' := 37) q119_36 rfl hi5 rfl ?_
        refine j_istore3 (pc' := 38) q119_37 rfl (Nat.le_of_ble_eq_true rfl) rfl ?_
        refine j_aload_n (pc' := 39) q119_38 rfl (by decide) rfl ?_
        refine j_getr (k := 0) (q := 1) (pc' := 42) q119_39 rfl (hρ 0 0 1 rfl) rfl ?_
        refine j_getr (k := 1) (q := 7) (pc' := 45) q119_42 rfl (hρ 1 8 7 rfl) rfl ?_
        refine j_getr (k := 7) (q := 10) (pc' := 48) q119_45 rfl (hρ 7 2 10 rfl) rfl ?_
        refine j_iload_n (pc' := 49) q119_48 rfl rfl ?_
        refine j_iload_n (pc' := 50) q119_49 rfl rfl ?_
        refine j_if (fun hi6 => ?_) (fun _ => j_none)
        refine j_iast (k := 10) (N := 5) (pc' := 51) q119_50 rfl hi6 rfl ?_
        refine j_nameS (fun τ7 => ?_)
        refine j_iload_n (pc' := 52) q119_51 rfl rfl ?_
        exact j_iret q119_52 rfl
theorem q188_0 : z_fi (z_mi 188) 0 = some (0, .aload_n 0, 0, 0, 0, 0, 0) := rfl
theorem q188_1 : z_fi (z_mi 188) 1 = some (1, .aload_n 0, 0, 0, 0, 0, 0) := rfl
theorem q188_2 : z_fi (z_mi 188) 2 = some (2, .iload_n 1, 0, 0, 0, 0, 0) := rfl
theorem q188_3 : z_fi (z_mi 188) 3 = some (3, .invokevirtual 180, 0, 166, 1, 0, 0) := rfl
theorem q188_6 : z_fi (z_mi 188) 6 = some (6, .ifCond .eq 19, 0, 25, 0, 0, 0) := rfl
theorem q188_9 : z_fi (z_mi 188) 9 = some (9, .iload_n 2, 0, 0, 0, 0, 0) := rfl
theorem q188_10 : z_fi (z_mi 188) 10 = some (10, .i2l, 0, 0, 0, 0, 0) := rfl
theorem q188_11 : z_fi (z_mi 188) 11 = some (11, .lconst 1, 0, 0, 0, 0, 1) := rfl
theorem q188_12 : z_fi (z_mi 188) 12 = some (12, .ldc2_w 169, 0, 0, 0, 0, 4) := rfl
theorem q188_15 : z_fi (z_mi 188) 15 = some (15, .invokestatic 62, 1, 149, 3, 0, 0) := rfl
theorem q188_18 : z_fi (z_mi 188) 18 = some (18, .ifCond .eq 7, 0, 25, 0, 0, 0) := rfl
theorem q188_21 : z_fi (z_mi 188) 21 = some (21, .iconst 1, 0, 0, 0, 1, 0) := rfl
theorem q188_22 : z_fi (z_mi 188) 22 = some (22, .goto 4, 0, 26, 0, 0, 0) := rfl
theorem q188_25 : z_fi (z_mi 188) 25 = some (25, .iconst 0, 0, 0, 0, 0, 0) := rfl
theorem q188_26 : z_fi (z_mi 188) 26 = some (26, .bipush 81, 0, 0, 0, 81, 0) := rfl
theorem q188_28 : z_fi (z_mi 188) 28 = some (28, .iconst 3, 0, 0, 0, 3, 0) := rfl
theorem q188_29 : z_fi (z_mi 188) 29 = some (29, .iload_n 1, 0, 0, 0, 0, 0) := rfl
theorem q188_30 : z_fi (z_mi 188) 30 = some (30, .imul, 0, 0, 0, 0, 0) := rfl
theorem q188_31 : z_fi (z_mi 188) 31 = some (31, .iadd, 0, 0, 0, 0, 0) := rfl
theorem q188_32 : z_fi (z_mi 188) 32 = some (32, .iconst 2, 0, 0, 0, 2, 0) := rfl
theorem q188_33 : z_fi (z_mi 188) 33 = some (33, .iadd, 0, 0, 0, 0, 0) := rfl
theorem q188_34 : z_fi (z_mi 188) 34 = some (34, .iload_n 2, 0, 0, 0, 0, 0) := rfl
theorem q188_35 : z_fi (z_mi 188) 35 = some (35, .invokevirtual 194, 0, 177, 3, 0, 0) := rfl
theorem q188_38 : z_fi (z_mi 188) 38 = some (38, .ireturn, 0, 0, 0, 0, 0) := rfl
set_option maxRecDepth 20000 in
set_option maxHeartbeats 4000000 in
theorem t_M_bite {xL : Nat} {xs : Nat → Int32} {ρ : Nat → Nat → Option Nat} (hρ : z_hR ρ) (d : Nat) (a1 : Int32) (a2 : Int32) (σ : zS) : ∀ q, f_M_bite a1 a2 σ = some q → z_ec xL xs ρ (d + 2) 188 [.ref 90, .int a1, .int a2] σ (em_i q) := by
  refine j_of (W := [.ref 90, .int a1, .int a2]) (fun L hL => ?_) ?_
  · subst hL; exact z_vl_0 _ 0 rfl
  · unfold f_M_bite
    refine j_aload_n (pc' := 1) q188_0 rfl (by decide) rfl ?_
    refine j_aload_n (pc' := 2) q188_1 rfl (by decide) rfl ?_
    refine j_iload_n (pc' := 3) q188_2 rfl rfl ?_
    refine j_callV1_pi (d := d + 1) (pc' := 6) q188_3 rfl (Nat.le_of_ble_eq_true rfl) (Nat.le_of_ble_eq_true rfl) rfl (t_M_isRule hρ (d + 0) _ _) (fun r1 => ?_)
    refine j_join (T := Int32) 26 (fun t2 => [.null, .int a1, .int a2]) (fun t2 => [.int t2, .ref 90]) (fun t2 => σ) (fun t2 => ?_) (fun j2 hj2 => ?_)
    · show z_J _ _ _ _ _ _ _ _ _ _ _ _
      refine j_bipush (pc' := 28) q188_26 rfl ?_
      refine j_iconst (pc' := 29) q188_28 rfl ?_
      refine j_iload_n (pc' := 30) q188_29 rfl rfl ?_
      refine j_imul (pc' := 31) q188_30 rfl ?_
      refine j_iadd (pc' := 32) q188_31 rfl ?_
      refine j_iconst (pc' := 33) q188_32 rfl ?_
      refine j_iadd (pc' := 34) q188_33 rfl ?_
      refine j_iload_n (pc' := 35) q188_34 rfl rfl ?_
      refine j_callV3_i (d := d + 1) (pc' := 38) q188_35 rfl (Nat.le_of_ble_eq_true rfl) (Nat.le_of_ble_eq_true rfl) rfl (t_M_sets hρ (d + 1) _ _ _ _) (fun r3 => ?_)
      exact j_iret q188_38 rfl
    · show z_J _ _ _ _ _ _ _ _ _ _ _ _
      refine j_join (T := Unit) 25 (fun t4 => [.null, .int a1, .int a2]) (fun t4 => [.ref 90]) (fun t4 => σ) (fun t4 => ?_) (fun j4 hj4 => ?_)
      · show z_J _ _ _ _ _ _ _ _ _ _ _ _
        refine j_iconst (pc' := 26) q188_25 rfl ?_
        refine j_forget (z_le_n (z_le_s (z_le_s (z_le_nil)))) (hj2 (0 : Int32))
      · show z_J _ _ _ _ _ _ _ _ _ _ _ _
        refine j_if_eq (pc' := 9) q188_6 rfl (fun c5 => ?_) (fun c5 => ?_)
        · refine j_forget (z_le_n (z_le_s (z_le_s (z_le_nil)))) (hj4 ())
        · refine j_iload_n (pc' := 10) q188_9 rfl rfl ?_
          refine j_i2l (pc' := 11) q188_10 rfl ?_
          refine j_lconst (pc' := 12) q188_11 rfl ?_
          refine j_ldc2 (pc' := 15) q188_12 rfl ?_
          refine j_callS3_pi (d := d + 1) (pc' := 18) q188_15 (Or.inl rfl) (Nat.le_of_ble_eq_true rfl) (Nat.le_of_ble_eq_true rfl) rfl (t_M_in hρ (d + 1) _ _ _ _) (fun r6 => ?_)
          refine j_if_eq (pc' := 21) q188_18 rfl (fun c7 => ?_) (fun c7 => ?_)
          · refine j_forget (z_le_n (z_le_s (z_le_s (z_le_nil)))) (hj4 ())
          · refine j_iconst (pc' := 22) q188_21 rfl ?_
            refine j_goto q188_22 rfl ?_
            refine j_forget (z_le_n (z_le_s (z_le_s (z_le_nil)))) (hj2 (1 : Int32))
theorem q30_0 : z_fi (z_mi 30) 0 = some (0, .iconst 0, 0, 0, 0, 0, 0) := rfl
theorem q30_1 : z_fi (z_mi 30) 1 = some (1, .istore_n 1, 0, 0, 0, 0, 0) := rfl
theorem q30_2 : z_fi (z_mi 30) 2 = some (2, .iconst 0, 0, 0, 0, 0, 0) := rfl
theorem q30_3 : z_fi (z_mi 30) 3 = some (3, .istore_n 2, 0, 0, 0, 0, 0) := rfl
theorem q30_4 : z_fi (z_mi 30) 4 = some (4, .iload_n 2, 0, 0, 0, 0, 0) := rfl
theorem q30_5 : z_fi (z_mi 30) 5 = some (5, .iconst 3, 0, 0, 0, 3, 0) := rfl
theorem q30_6 : z_fi (z_mi 30) 6 = some (6, .if_icmp .ge 18, 0, 24, 0, 0, 0) := rfl
theorem q30_9 : z_fi (z_mi 30) 9 = some (9, .iload_n 1, 0, 0, 0, 0, 0) := rfl
theorem q30_10 : z_fi (z_mi 30) 10 = some (10, .aload_n 0, 0, 0, 0, 0, 0) := rfl
theorem q30_11 : z_fi (z_mi 30) 11 = some (11, .getfield 41, 0, 0, 11, 0, 0) := rfl
theorem q30_14 : z_fi (z_mi 30) 14 = some (14, .iload_n 2, 0, 0, 0, 0, 0) := rfl
theorem q30_15 : z_fi (z_mi 30) 15 = some (15, .iaload, 0, 0, 0, 0, 0) := rfl
theorem q30_16 : z_fi (z_mi 30) 16 = some (16, .iadd, 0, 0, 0, 0, 0) := rfl
theorem q30_17 : z_fi (z_mi 30) 17 = some (17, .istore_n 1, 0, 0, 0, 0, 0) := rfl
theorem q30_18 : z_fi (z_mi 30) 18 = some (18, .iinc 2 1, 0, 0, 0, 1, 0) := rfl
theorem q30_21 : z_fi (z_mi 30) 21 = some (21, .goto (-17), 0, 4, 0, 0, 0) := rfl
theorem q30_24 : z_fi (z_mi 30) 24 = some (24, .iload_n 1, 0, 0, 0, 0, 0) := rfl
theorem q30_25 : z_fi (z_mi 30) 25 = some (25, .ireturn, 0, 0, 0, 0, 0) := rfl
set_option maxRecDepth 20000 in
set_option maxHeartbeats 4000000 in
theorem t_G_ripeOfAll_1 {xL : Nat} {xs : Nat → Int32} {ρ : Nat → Nat → Option Nat} (hρ : z_hR ρ) (d : Nat)  (σ : zS) : ∀ q, f_G_ripeOfAll_1  σ = some q → z_ec xL xs ρ (d + 0) 30 [.ref 1] σ (em_pi σ q) := by
  refine j_of (W := [.ref 1, .null, .null]) (fun L hL => ?_) ?_
  · subst hL; exact z_vl_0 _ 2 rfl
  · unfold f_G_ripeOfAll_1
    refine j_iconst (pc' := 1) q30_0 rfl ?_
    refine j_istore1 (pc' := 2) q30_1 rfl (Nat.le_of_ble_eq_true rfl) rfl ?_
    refine j_iconst (pc' := 3) q30_2 rfl ?_
    refine j_istore2 (pc' := 4) q30_3 rfl (Nat.le_of_ble_eq_true rfl) rfl ?_
    refine j_forget (V' := [.ref 1, .int (0 : Int32), .int (0 : Int32)]) (z_le_s (z_le_s (z_le_s (z_le_nil)))) ?_
    refine j_loopX (S := Int32 × Int32) (E := Int32) (fun e => e) 24 (fun s1 => [.ref 1, .int s1.1, .int s1.2]) (fun s1 => σ) (fun b1 => [.null, .int b1, .null]) (fun b1 => σ) (fun b1 => ?_) (fun R1 hR1 hX1 s1 => ?_) ((0 : Int32), (0 : Int32))
    · show z_J _ _ _ _ _ _ _ _ _ _ _ _
      refine j_iload_n (pc' := 25) q30_24 rfl rfl ?_
      exact j_piret q30_25 rfl
    · show z_J _ _ _ _ _ _ _ _ _ _ _ _
      refine j_iload_n (pc' := 5) q30_4 rfl rfl ?_
      refine j_iconst (pc' := 6) q30_5 rfl ?_
      refine j_icmp_ge (pc' := 9) q30_6 rfl (fun c2 => ?_) (fun c2 => ?_)
      · exact j_exit (j_forget (z_le_n (z_le_s (z_le_n (z_le_nil)))) (hX1 s1.1))
      · refine j_iload_n (pc' := 10) q30_9 rfl rfl ?_
        refine j_aload_n (pc' := 11) q30_10 rfl (by decide) rfl ?_
        refine j_getr (k := 1) (q := 14) (pc' := 14) q30_11 rfl (hρ 1 11 14 rfl) rfl ?_
        refine j_iload_n (pc' := 15) q30_14 rfl rfl ?_
        refine j_if (fun hi3 => ?_) (fun _ => j_none)
        refine j_iald (k := 14) (N := 3) (pc' := 16) q30_15 rfl hi3 rfl ?_
        refine j_iadd (pc' := 17) q30_16 rfl ?_
        refine j_nameI (fun v4 => ?_)
        refine j_istore1 (pc' := 18) q30_17 rfl (Nat.le_of_ble_eq_true rfl) rfl ?_
        refine j_iinc2 (pc' := 21) q30_18 rfl (Nat.le_of_ble_eq_true rfl) rfl ?_
        refine j_goto q30_21 rfl ?_
        exact j_again (j_forget (z_le_s (z_le_s (z_le_s (z_le_nil)))) (hR1 (v4, (s1.2 + (1 : Int32)))))
set_option maxRecDepth 20000 in
set_option maxHeartbeats 4000000 in
theorem t_JA_fill_15 {xL : Nat} {xs : Nat → Int32} {ρ : Nat → Nat → Option Nat} (hρ : z_hR ρ) (d : Nat) (a1 : Int32) (σ : zS) : ∀ q, f_JA_fill_15 a1 σ = some q → z_ec xL xs ρ (d + 0) 240 [.ref 15, .int a1] σ (em_v q) := by
  refine j_of (W := [.ref 15, .int a1, .null, .null]) (fun L hL => ?_) ?_
  · subst hL; exact z_vl_0 _ 2 rfl
  · unfold f_JA_fill_15
    refine j_iconst (pc' := 1) q240_0 rfl ?_
    refine j_istore2 (pc' := 2) q240_1 rfl (Nat.le_of_ble_eq_true rfl) rfl ?_
    refine j_aload_n (pc' := 3) q240_2 rfl (by decide) rfl ?_
    refine j_alen (k := 15) (N := 5) (pc' := 4) q240_3 ⟨Nat.le_of_ble_eq_true rfl, by decide, rfl⟩ rfl ?_
    refine j_istore3 (pc' := 5) q240_4 rfl (Nat.le_of_ble_eq_true rfl) rfl ?_
    refine j_forget (V' := [.ref 15, .int a1, .int (0 : Int32), .int (5 : Int32)]) (z_le_s (z_le_s (z_le_s (z_le_s (z_le_nil))))) ?_
    refine j_loopX (S := Int32 × zS) (E := zS) (fun e => e) 20 (fun s1 => [.ref 15, .int a1, .int s1.1, .int (5 : Int32)]) (fun s1 => s1.2) (fun b1 => [.null, .null, .null, .null]) (fun b1 => b1) (fun b1 => ?_) (fun R1 hR1 hX1 s1 => ?_) ((0 : Int32), σ)
    · show z_J _ _ _ _ _ _ _ _ _ _ _ _
      exact j_vret q240_20 rfl
    · show z_J _ _ _ _ _ _ _ _ _ _ _ _
      refine j_iload_n (pc' := 6) q240_5 rfl rfl ?_
      refine j_iload_n (pc' := 7) q240_6 rfl rfl ?_
      refine j_icmp_ge (pc' := 10) q240_7 rfl (fun c2 => ?_) (fun c2 => ?_)
      · exact j_exit (j_forget (z_le_n (z_le_n (z_le_n (z_le_n (z_le_nil))))) (hX1 s1.2))
      · refine j_aload_n (pc' := 11) q240_10 rfl (by decide) rfl ?_
        refine j_iload_n (pc' := 12) q240_11 rfl rfl ?_
        refine j_iload_n (pc' := 13) q240_12 rfl rfl ?_
        refine j_if (fun hi3 => ?_) (fun _ => j_none)
        refine j_iast (k := 15) (N := 5) (pc' := 14) q240_13 rfl hi3 rfl ?_
        refine j_nameS (fun τ4 => ?_)
        refine j_iinc2 (pc' := 17) q240_14 rfl (Nat.le_of_ble_eq_true rfl) rfl ?_
        refine j_goto q240_17 rfl ?_
        exact j_again (j_forget (z_le_s (z_le_s (z_le_s (z_le_s (z_le_nil))))) (hR1 ((s1.1 + (1 : Int32)), τ4)))
theorem q21_0 : z_fi (z_mi 21) 0 = some (0, .aload_n 0, 0, 0, 0, 0, 0) := rfl
theorem q21_1 : z_fi (z_mi 21) 1 = some (1, .getfield 44, 0, 0, 14, 0, 0) := rfl
theorem q21_4 : z_fi (z_mi 21) 4 = some (4, .iconst 0, 0, 0, 0, 0, 0) := rfl
theorem q21_5 : z_fi (z_mi 21) 5 = some (5, .invokestatic 60, 1, 240, 2, 0, 0) := rfl
theorem q21_8 : z_fi (z_mi 21) 8 = some (8, .iconst 0, 0, 0, 0, 0, 0) := rfl
theorem q21_9 : z_fi (z_mi 21) 9 = some (9, .istore_n 1, 0, 0, 0, 0, 0) := rfl
theorem q21_10 : z_fi (z_mi 21) 10 = some (10, .iload_n 1, 0, 0, 0, 0, 0) := rfl
theorem q21_11 : z_fi (z_mi 21) 11 = some (11, .aload_n 0, 0, 0, 0, 0, 0) := rfl
theorem q21_12 : z_fi (z_mi 21) 12 = some (12, .invokevirtual 95, 0, 7, 0, 0, 0) := rfl
theorem q21_15 : z_fi (z_mi 21) 15 = some (15, .if_icmp .ge 40, 0, 55, 0, 0, 0) := rfl
theorem q21_18 : z_fi (z_mi 21) 18 = some (18, .aload_n 0, 0, 0, 0, 0, 0) := rfl
theorem q21_19 : z_fi (z_mi 21) 19 = some (19, .getfield 9, 0, 0, 2, 0, 0) := rfl
theorem q21_22 : z_fi (z_mi 21) 22 = some (22, .iload_n 1, 0, 0, 0, 0, 0) := rfl
theorem q21_23 : z_fi (z_mi 21) 23 = some (23, .iaload, 0, 0, 0, 0, 0) := rfl
theorem q21_24 : z_fi (z_mi 21) 24 = some (24, .iconst 0, 0, 0, 0, 0, 0) := rfl
theorem q21_25 : z_fi (z_mi 21) 25 = some (25, .iconst 4, 0, 0, 0, 4, 0) := rfl
theorem q21_26 : z_fi (z_mi 21) 26 = some (26, .invokestatic 106, 4, 99, 3, 0, 0) := rfl
theorem q21_29 : z_fi (z_mi 21) 29 = some (29, .ifCond .eq 20, 0, 49, 0, 0, 0) := rfl
theorem q21_32 : z_fi (z_mi 21) 32 = some (32, .aload_n 0, 0, 0, 0, 0, 0) := rfl
theorem q21_33 : z_fi (z_mi 21) 33 = some (33, .getfield 44, 0, 0, 14, 0, 0) := rfl
theorem q21_36 : z_fi (z_mi 21) 36 = some (36, .aload_n 0, 0, 0, 0, 0, 0) := rfl
theorem q21_37 : z_fi (z_mi 21) 37 = some (37, .getfield 9, 0, 0, 2, 0, 0) := rfl
theorem q21_40 : z_fi (z_mi 21) 40 = some (40, .iload_n 1, 0, 0, 0, 0, 0) := rfl
theorem q21_41 : z_fi (z_mi 21) 41 = some (41, .iaload, 0, 0, 0, 0, 0) := rfl
theorem q21_42 : z_fi (z_mi 21) 42 = some (42, .dup2, 0, 0, 0, 0, 0) := rfl
theorem q21_43 : z_fi (z_mi 21) 43 = some (43, .iaload, 0, 0, 0, 0, 0) := rfl
theorem q21_44 : z_fi (z_mi 21) 44 = some (44, .iconst 1, 0, 0, 0, 1, 0) := rfl
theorem q21_45 : z_fi (z_mi 21) 45 = some (45, .iload_n 1, 0, 0, 0, 0, 0) := rfl
theorem q21_46 : z_fi (z_mi 21) 46 = some (46, .ishl, 0, 0, 0, 0, 0) := rfl
theorem q21_47 : z_fi (z_mi 21) 47 = some (47, .ior, 0, 0, 0, 0, 0) := rfl
theorem q21_48 : z_fi (z_mi 21) 48 = some (48, .iastore, 0, 0, 0, 0, 0) := rfl
theorem q21_49 : z_fi (z_mi 21) 49 = some (49, .iinc 1 1, 0, 0, 0, 1, 0) := rfl
theorem q21_52 : z_fi (z_mi 21) 52 = some (52, .goto (-42), 0, 10, 0, 0, 0) := rfl
theorem q21_55 : z_fi (z_mi 21) 55 = some (55, .return_, 0, 0, 0, 0, 0) := rfl
set_option maxRecDepth 20000 in
set_option maxHeartbeats 4000000 in
theorem t_G_notePlaces_1 {xL : Nat} {xs : Nat → Int32} {ρ : Nat → Nat → Option Nat} (hρ : z_hR ρ) (d : Nat)  (σ : zS) : ∀ q, f_G_notePlaces_1  σ = some q → z_ec xL xs ρ (d + 1) 21 [.ref 1] σ (em_v q) := by
  refine j_of (W := [.ref 1, .null]) (fun L hL => ?_) ?_
  · subst hL; exact z_vl_0 _ 1 rfl
  · unfold f_G_notePlaces_1
    refine j_aload_n (pc' := 1) q21_0 rfl (by decide) rfl ?_
    refine j_getr (k := 1) (q := 15) (pc' := 4) q21_1 rfl (hρ 1 14 15 rfl) rfl ?_
    refine j_iconst (pc' := 5) q21_4 rfl ?_
    refine j_callS2_v (d := d + 0) (pc' := 8) q21_5 (Or.inl rfl) (Nat.le_of_ble_eq_true rfl) (Nat.le_of_ble_eq_true rfl) rfl (t_JA_fill_15 hρ (d + 0) _ _) (fun r1 => ?_)
    refine j_iconst (pc' := 9) q21_8 rfl ?_
    refine j_istore1 (pc' := 10) q21_9 rfl (Nat.le_of_ble_eq_true rfl) rfl ?_
    refine j_forget (V' := [.ref 1, .int (0 : Int32)]) (z_le_s (z_le_s (z_le_nil))) ?_
    refine j_loopX (S := Int32 × zS) (E := zS) (fun e => e) 55 (fun s2 => [.ref 1, .int s2.1]) (fun s2 => s2.2) (fun b2 => [.null, .null]) (fun b2 => b2) (fun b2 => ?_) (fun R2 hR2 hX2 s2 => ?_) ((0 : Int32), r1)
    · show z_J _ _ _ _ _ _ _ _ _ _ _ _
      exact j_vret q21_55 rfl
    · show z_J _ _ _ _ _ _ _ _ _ _ _ _
      refine j_iload_n (pc' := 11) q21_10 rfl rfl ?_
      refine j_aload_n (pc' := 12) q21_11 rfl (by decide) rfl ?_
      refine j_callV0_pi (d := d + 0) (pc' := 15) q21_12 rfl (Nat.le_of_ble_eq_true rfl) (Nat.le_of_ble_eq_true rfl) rfl (t_G_cells_1 hρ (d + 0) _) (fun r3 => ?_)
      refine j_icmp_ge (pc' := 18) q21_15 rfl (fun c4 => ?_) (fun c4 => ?_)
      · exact j_exit (j_forget (z_le_n (z_le_n (z_le_nil))) (hX2 s2.2))
      · refine j_aload_n (pc' := 19) q21_18 rfl (by decide) rfl ?_
        refine j_getr (k := 1) (q := 2) (pc' := 22) q21_19 rfl (hρ 1 2 2 rfl) rfl ?_
        refine j_iload_n (pc' := 23) q21_22 rfl rfl ?_
        refine j_if (fun hi5 => ?_) (fun _ => j_none)
        refine j_iald (k := 2) (N := 16) (pc' := 24) q21_23 rfl hi5 rfl ?_
        refine j_iconst (pc' := 25) q21_24 rfl ?_
        refine j_iconst (pc' := 26) q21_25 rfl ?_
        refine j_callS3_pi (d := d + 0) (pc' := 29) q21_26 (Or.inr rfl) (Nat.le_of_ble_eq_true rfl) (Nat.le_of_ble_eq_true rfl) rfl (t_Y_isIn hρ (d + 0) _ _ _ _) (fun r6 => ?_)
        refine j_join (T := zS) 49 (fun t7 => [.ref 1, .int s2.1]) (fun t7 => []) (fun t7 => t7) (fun t7 => ?_) (fun j7 hj7 => ?_)
        · show z_J _ _ _ _ _ _ _ _ _ _ _ _
          refine j_iinc1 (pc' := 52) q21_49 rfl (Nat.le_of_ble_eq_true rfl) rfl ?_
          refine j_goto q21_52 rfl ?_
          exact j_again (j_forget (z_le_s (z_le_s (z_le_nil))) (hR2 ((s2.1 + (1 : Int32)), t7)))
        · show z_J _ _ _ _ _ _ _ _ _ _ _ _
          refine j_if_eq (pc' := 32) q21_29 rfl (fun c8 => ?_) (fun c8 => ?_)
          · refine j_forget (z_le_s (z_le_s (z_le_nil))) (hj7 s2.2)
          · refine j_aload_n (pc' := 33) q21_32 rfl (by decide) rfl ?_
            refine j_getr (k := 1) (q := 15) (pc' := 36) q21_33 rfl (hρ 1 14 15 rfl) rfl ?_
            refine j_aload_n (pc' := 37) q21_36 rfl (by decide) rfl ?_
            refine j_getr (k := 1) (q := 2) (pc' := 40) q21_37 rfl (hρ 1 2 2 rfl) rfl ?_
            refine j_iload_n (pc' := 41) q21_40 rfl rfl ?_
            refine j_if (fun hi9 => ?_) (fun _ => j_none)
            refine j_iald (k := 2) (N := 16) (pc' := 42) q21_41 rfl hi9 rfl ?_
            refine j_dup2 (pc' := 43) q21_42 ⟨rfl, rfl⟩ rfl ?_
            refine j_if (fun hi10 => ?_) (fun _ => j_none)
            refine j_iald (k := 15) (N := 5) (pc' := 44) q21_43 rfl hi10 rfl ?_
            refine j_iconst (pc' := 45) q21_44 rfl ?_
            refine j_iload_n (pc' := 46) q21_45 rfl rfl ?_
            refine j_ishl (pc' := 47) q21_46 rfl ?_
            refine j_ior (pc' := 48) q21_47 rfl ?_
            refine j_if (fun hi11 => ?_) (fun _ => j_none)
            refine j_iast (k := 15) (N := 5) (pc' := 49) q21_48 rfl hi11 rfl ?_
            refine j_nameS (fun τ12 => ?_)
            refine j_forget (z_le_s (z_le_s (z_le_nil))) (hj7 τ12)
theorem q24_0 : z_fi (z_mi 24) 0 = some (0, .iconst 0, 0, 0, 0, 0, 0) := rfl
theorem q24_1 : z_fi (z_mi 24) 1 = some (1, .istore_n 2, 0, 0, 0, 0, 0) := rfl
theorem q24_2 : z_fi (z_mi 24) 2 = some (2, .aload_n 0, 0, 0, 0, 0, 0) := rfl
theorem q24_3 : z_fi (z_mi 24) 3 = some (3, .iload_n 1, 0, 0, 0, 0, 0) := rfl
theorem q24_4 : z_fi (z_mi 24) 4 = some (4, .invokevirtual 103, 0, 9, 1, 0, 0) := rfl
theorem q24_7 : z_fi (z_mi 24) 7 = some (7, .ifCond .eq 21, 0, 28, 0, 0, 0) := rfl
theorem q24_10 : z_fi (z_mi 24) 10 = some (10, .aload_n 0, 0, 0, 0, 0, 0) := rfl
theorem q24_11 : z_fi (z_mi 24) 11 = some (11, .iconst 2, 0, 0, 0, 2, 0) := rfl
theorem q24_12 : z_fi (z_mi 24) 12 = some (12, .iload_n 1, 0, 0, 0, 0, 0) := rfl
theorem q24_13 : z_fi (z_mi 24) 13 = some (13, .imul, 0, 0, 0, 0, 0) := rfl
theorem q24_14 : z_fi (z_mi 24) 14 = some (14, .invokevirtual 173, 0, 11, 1, 0, 0) := rfl
theorem q24_17 : z_fi (z_mi 24) 17 = some (17, .ifCond .eq 11, 0, 28, 0, 0, 0) := rfl
theorem q24_20 : z_fi (z_mi 24) 20 = some (20, .iload_n 2, 0, 0, 0, 0, 0) := rfl
theorem q24_21 : z_fi (z_mi 24) 21 = some (21, .iconst 1, 0, 0, 0, 1, 0) := rfl
theorem q24_22 : z_fi (z_mi 24) 22 = some (22, .iload_n 1, 0, 0, 0, 0, 0) := rfl
theorem q24_23 : z_fi (z_mi 24) 23 = some (23, .iconst 1, 0, 0, 0, 1, 0) := rfl
theorem q24_24 : z_fi (z_mi 24) 24 = some (24, .iadd, 0, 0, 0, 0, 0) := rfl
theorem q24_25 : z_fi (z_mi 24) 25 = some (25, .ishl, 0, 0, 0, 0, 0) := rfl
theorem q24_26 : z_fi (z_mi 24) 26 = some (26, .ior, 0, 0, 0, 0, 0) := rfl
theorem q24_27 : z_fi (z_mi 24) 27 = some (27, .istore_n 2, 0, 0, 0, 0, 0) := rfl
theorem q24_28 : z_fi (z_mi 24) 28 = some (28, .iload_n 1, 0, 0, 0, 0, 0) := rfl
theorem q24_29 : z_fi (z_mi 24) 29 = some (29, .ifCond .le 33, 0, 62, 0, 0, 0) := rfl
theorem q24_32 : z_fi (z_mi 24) 32 = some (32, .aload_n 0, 0, 0, 0, 0, 0) := rfl
theorem q24_33 : z_fi (z_mi 24) 33 = some (33, .iload_n 1, 0, 0, 0, 0, 0) := rfl
theorem q24_34 : z_fi (z_mi 24) 34 = some (34, .iconst 1, 0, 0, 0, 1, 0) := rfl
theorem q24_35 : z_fi (z_mi 24) 35 = some (35, .isub, 0, 0, 0, 0, 0) := rfl
theorem q24_36 : z_fi (z_mi 24) 36 = some (36, .invokevirtual 103, 0, 9, 1, 0, 0) := rfl
theorem q24_39 : z_fi (z_mi 24) 39 = some (39, .ifCond .eq 23, 0, 62, 0, 0, 0) := rfl
theorem q24_42 : z_fi (z_mi 24) 42 = some (42, .aload_n 0, 0, 0, 0, 0, 0) := rfl
theorem q24_43 : z_fi (z_mi 24) 43 = some (43, .iconst 2, 0, 0, 0, 2, 0) := rfl
theorem q24_44 : z_fi (z_mi 24) 44 = some (44, .iload_n 1, 0, 0, 0, 0, 0) := rfl
theorem q24_45 : z_fi (z_mi 24) 45 = some (45, .imul, 0, 0, 0, 0, 0) := rfl
theorem q24_46 : z_fi (z_mi 24) 46 = some (46, .iconst 2, 0, 0, 0, 2, 0) := rfl
theorem q24_47 : z_fi (z_mi 24) 47 = some (47, .isub, 0, 0, 0, 0, 0) := rfl
theorem q24_48 : z_fi (z_mi 24) 48 = some (48, .invokevirtual 173, 0, 11, 1, 0, 0) := rfl
theorem q24_51 : z_fi (z_mi 24) 51 = some (51, .ifCond .eq 11, 0, 62, 0, 0, 0) := rfl
theorem q24_54 : z_fi (z_mi 24) 54 = some (54, .iload_n 2, 0, 0, 0, 0, 0) := rfl
theorem q24_55 : z_fi (z_mi 24) 55 = some (55, .iconst 1, 0, 0, 0, 1, 0) := rfl
theorem q24_56 : z_fi (z_mi 24) 56 = some (56, .iload_n 1, 0, 0, 0, 0, 0) := rfl
theorem q24_57 : z_fi (z_mi 24) 57 = some (57, .iconst 1, 0, 0, 0, 1, 0) := rfl
theorem q24_58 : z_fi (z_mi 24) 58 = some (58, .isub, 0, 0, 0, 0, 0) := rfl
theorem q24_59 : z_fi (z_mi 24) 59 = some (59, .ishl, 0, 0, 0, 0, 0) := rfl
theorem q24_60 : z_fi (z_mi 24) 60 = some (60, .ior, 0, 0, 0, 0, 0) := rfl
theorem q24_61 : z_fi (z_mi 24) 61 = some (61, .istore_n 2, 0, 0, 0, 0, 0) := rfl
theorem q24_62 : z_fi (z_mi 24) 62 = some (62, .aload_n 0, 0, 0, 0, 0, 0) := rfl
theorem q24_63 : z_fi (z_mi 24) 63 = some (63, .iload_n 1, 0, 0, 0, 0, 0) := rfl
theorem q24_64 : z_fi (z_mi 24) 64 = some (64, .aload_n 0, 0, 0, 0, 0, 0) := rfl
theorem q24_65 : z_fi (z_mi 24) 65 = some (65, .getfield 53, 0, 0, 0, 0, 0) := rfl
theorem q24_68 : z_fi (z_mi 24) 68 = some (68, .iadd, 0, 0, 0, 0, 0) := rfl
theorem q24_69 : z_fi (z_mi 24) 69 = some (69, .invokevirtual 99, 0, 8, 1, 0, 0) := rfl
theorem q24_72 : z_fi (z_mi 24) 72 = some (72, .ifCond .eq 26, 0, 98, 0, 0, 0) := rfl
theorem q24_75 : z_fi (z_mi 24) 75 = some (75, .aload_n 0, 0, 0, 0, 0, 0) := rfl
theorem q24_76 : z_fi (z_mi 24) 76 = some (76, .iconst 2, 0, 0, 0, 2, 0) := rfl
theorem q24_77 : z_fi (z_mi 24) 77 = some (77, .iload_n 1, 0, 0, 0, 0, 0) := rfl
theorem q24_78 : z_fi (z_mi 24) 78 = some (78, .imul, 0, 0, 0, 0, 0) := rfl
theorem q24_79 : z_fi (z_mi 24) 79 = some (79, .iconst 1, 0, 0, 0, 1, 0) := rfl
theorem q24_80 : z_fi (z_mi 24) 80 = some (80, .iadd, 0, 0, 0, 0, 0) := rfl
theorem q24_81 : z_fi (z_mi 24) 81 = some (81, .invokevirtual 173, 0, 11, 1, 0, 0) := rfl
theorem q24_84 : z_fi (z_mi 24) 84 = some (84, .ifCond .eq 14, 0, 98, 0, 0, 0) := rfl
theorem q24_87 : z_fi (z_mi 24) 87 = some (87, .iload_n 2, 0, 0, 0, 0, 0) := rfl
theorem q24_88 : z_fi (z_mi 24) 88 = some (88, .iconst 1, 0, 0, 0, 1, 0) := rfl
set_option maxRecDepth 8000 in
theorem q24_89 : z_fi (z_mi 24) 89 = some (89, .iload_n 1, 0, 0, 0, 0, 0) := rfl
set_option maxRecDepth 8000 in
theorem q24_90 : z_fi (z_mi 24) 90 = some (90, .aload_n 0, 0, 0, 0, 0, 0) := rfl
set_option maxRecDepth 8000 in
theorem q24_91 : z_fi (z_mi 24) 91 = some (91, .getfield 53, 0, 0, 0, 0, 0) := rfl
set_option maxRecDepth 8000 in
theorem q24_94 : z_fi (z_mi 24) 94 = some (94, .iadd, 0, 0, 0, 0, 0) := rfl
set_option maxRecDepth 8000 in
theorem q24_95 : z_fi (z_mi 24) 95 = some (95, .ishl, 0, 0, 0, 0, 0) := rfl
set_option maxRecDepth 8000 in
theorem q24_96 : z_fi (z_mi 24) 96 = some (96, .ior, 0, 0, 0, 0, 0) := rfl
set_option maxRecDepth 8000 in
theorem q24_97 : z_fi (z_mi 24) 97 = some (97, .istore_n 2, 0, 0, 0, 0, 0) := rfl
set_option maxRecDepth 8000 in
theorem q24_98 : z_fi (z_mi 24) 98 = some (98, .aload_n 0, 0, 0, 0, 0, 0) := rfl
set_option maxRecDepth 8000 in
theorem q24_99 : z_fi (z_mi 24) 99 = some (99, .iload_n 1, 0, 0, 0, 0, 0) := rfl
set_option maxRecDepth 8000 in
theorem q24_100 : z_fi (z_mi 24) 100 = some (100, .aload_n 0, 0, 0, 0, 0, 0) := rfl
set_option maxRecDepth 8000 in
theorem q24_101 : z_fi (z_mi 24) 101 = some (101, .getfield 53, 0, 0, 0, 0, 0) := rfl
set_option maxRecDepth 8000 in
theorem q24_104 : z_fi (z_mi 24) 104 = some (104, .isub, 0, 0, 0, 0, 0) := rfl
set_option maxRecDepth 8000 in
theorem q24_105 : z_fi (z_mi 24) 105 = some (105, .invokevirtual 99, 0, 8, 1, 0, 0) := rfl
set_option maxRecDepth 8000 in
theorem q24_108 : z_fi (z_mi 24) 108 = some (108, .ifCond .eq 31, 0, 139, 0, 0, 0) := rfl
set_option maxRecDepth 8000 in
theorem q24_111 : z_fi (z_mi 24) 111 = some (111, .aload_n 0, 0, 0, 0, 0, 0) := rfl
set_option maxRecDepth 8000 in
theorem q24_112 : z_fi (z_mi 24) 112 = some (112, .iconst 2, 0, 0, 0, 2, 0) := rfl
set_option maxRecDepth 8000 in
theorem q24_113 : z_fi (z_mi 24) 113 = some (113, .iload_n 1, 0, 0, 0, 0, 0) := rfl
set_option maxRecDepth 8000 in
theorem q24_114 : z_fi (z_mi 24) 114 = some (114, .aload_n 0, 0, 0, 0, 0, 0) := rfl
set_option maxRecDepth 8000 in
theorem q24_115 : z_fi (z_mi 24) 115 = some (115, .getfield 53, 0, 0, 0, 0, 0) := rfl
set_option maxRecDepth 8000 in
theorem q24_118 : z_fi (z_mi 24) 118 = some (118, .isub, 0, 0, 0, 0, 0) := rfl
set_option maxRecDepth 8000 in
theorem q24_119 : z_fi (z_mi 24) 119 = some (119, .imul, 0, 0, 0, 0, 0) := rfl
set_option maxRecDepth 8000 in
theorem q24_120 : z_fi (z_mi 24) 120 = some (120, .iconst 1, 0, 0, 0, 1, 0) := rfl
set_option maxRecDepth 8000 in
theorem q24_121 : z_fi (z_mi 24) 121 = some (121, .iadd, 0, 0, 0, 0, 0) := rfl
set_option maxRecDepth 8000 in
theorem q24_122 : z_fi (z_mi 24) 122 = some (122, .invokevirtual 173, 0, 11, 1, 0, 0) := rfl
set_option maxRecDepth 8000 in
theorem q24_125 : z_fi (z_mi 24) 125 = some (125, .ifCond .eq 14, 0, 139, 0, 0, 0) := rfl
set_option maxRecDepth 8000 in
theorem q24_128 : z_fi (z_mi 24) 128 = some (128, .iload_n 2, 0, 0, 0, 0, 0) := rfl
set_option maxRecDepth 8000 in
theorem q24_129 : z_fi (z_mi 24) 129 = some (129, .iconst 1, 0, 0, 0, 1, 0) := rfl
set_option maxRecDepth 8000 in
theorem q24_130 : z_fi (z_mi 24) 130 = some (130, .iload_n 1, 0, 0, 0, 0, 0) := rfl
set_option maxRecDepth 8000 in
theorem q24_131 : z_fi (z_mi 24) 131 = some (131, .aload_n 0, 0, 0, 0, 0, 0) := rfl
set_option maxRecDepth 8000 in
theorem q24_132 : z_fi (z_mi 24) 132 = some (132, .getfield 53, 0, 0, 0, 0, 0) := rfl
set_option maxRecDepth 8000 in
theorem q24_135 : z_fi (z_mi 24) 135 = some (135, .isub, 0, 0, 0, 0, 0) := rfl
set_option maxRecDepth 8000 in
theorem q24_136 : z_fi (z_mi 24) 136 = some (136, .ishl, 0, 0, 0, 0, 0) := rfl
set_option maxRecDepth 8000 in
theorem q24_137 : z_fi (z_mi 24) 137 = some (137, .ior, 0, 0, 0, 0, 0) := rfl
set_option maxRecDepth 8000 in
theorem q24_138 : z_fi (z_mi 24) 138 = some (138, .istore_n 2, 0, 0, 0, 0, 0) := rfl
set_option maxRecDepth 8000 in
theorem q24_139 : z_fi (z_mi 24) 139 = some (139, .iload_n 2, 0, 0, 0, 0, 0) := rfl
set_option maxRecDepth 8000 in
theorem q24_140 : z_fi (z_mi 24) 140 = some (140, .ireturn, 0, 0, 0, 0, 0) := rfl
set_option maxRecDepth 20000 in
set_option maxHeartbeats 4000000 in
theorem t_G_nextTo_1 {xL : Nat} {xs : Nat → Int32} {ρ : Nat → Nat → Option Nat} (hρ : z_hR ρ) (d : Nat) (a1 : Int32) (σ : zS) : ∀ q, f_G_nextTo_1 a1 σ = some q → z_ec xL xs ρ (d + 2) 24 [.ref 1, .int a1] σ (em_pi σ q) := by
  refine j_of (W := [.ref 1, .int a1, .null]) (fun L hL => ?_) ?_
  · subst hL; exact z_vl_0 _ 1 rfl
  · unfold f_G_nextTo_1
    refine j_iconst (pc' := 1) q24_0 rfl ?_
    refine j_istore2 (pc' := 2) q24_1 rfl (Nat.le_of_ble_eq_true rfl) rfl ?_
    refine j_aload_n (pc' := 3) q24_2 rfl (by decide) rfl ?_
    refine j_iload_n (pc' := 4) q24_3 rfl rfl ?_
    refine j_callV1_pi (d := d + 1) (pc' := 7) q24_4 rfl (Nat.le_of_ble_eq_true rfl) (Nat.le_of_ble_eq_true rfl) rfl (t_G_hasEast_1 hρ (d + 1) _ _) (fun r1 => ?_)
    refine j_join (T := Int32) 28 (fun t2 => [.ref 1, .int a1, .int t2]) (fun t2 => []) (fun t2 => σ) (fun t2 => ?_) (fun j2 hj2 => ?_)
    · show z_J _ _ _ _ _ _ _ _ _ _ _ _
      refine j_iload_n (pc' := 29) q24_28 rfl rfl ?_
      refine j_join (T := Int32) 62 (fun t3 => [.ref 1, .int a1, .int t3]) (fun t3 => []) (fun t3 => σ) (fun t3 => ?_) (fun j3 hj3 => ?_)
      · show z_J _ _ _ _ _ _ _ _ _ _ _ _
        refine j_aload_n (pc' := 63) q24_62 rfl (by decide) rfl ?_
        refine j_iload_n (pc' := 64) q24_63 rfl rfl ?_
        refine j_aload_n (pc' := 65) q24_64 rfl (by decide) rfl ?_
        refine j_getf (k := 1) (pc' := 68) q24_65 rfl rfl ?_
        refine j_iadd (pc' := 69) q24_68 rfl ?_
        refine j_callV1_pi (d := d + 1) (pc' := 72) q24_69 rfl (Nat.le_of_ble_eq_true rfl) (Nat.le_of_ble_eq_true rfl) rfl (t_G_hasCell_1 hρ (d + 0) _ _) (fun r4 => ?_)
        refine j_join (T := Int32) 98 (fun t5 => [.ref 1, .int a1, .int t5]) (fun t5 => []) (fun t5 => σ) (fun t5 => ?_) (fun j5 hj5 => ?_)
        · show z_J _ _ _ _ _ _ _ _ _ _ _ _
          refine j_aload_n (pc' := 99) q24_98 rfl (by decide) rfl ?_
          refine j_iload_n (pc' := 100) q24_99 rfl rfl ?_
          refine j_aload_n (pc' := 101) q24_100 rfl (by decide) rfl ?_
          refine j_getf (k := 1) (pc' := 104) q24_101 rfl rfl ?_
          refine j_isub (pc' := 105) q24_104 rfl ?_
          refine j_callV1_pi (d := d + 1) (pc' := 108) q24_105 rfl (Nat.le_of_ble_eq_true rfl) (Nat.le_of_ble_eq_true rfl) rfl (t_G_hasCell_1 hρ (d + 0) _ _) (fun r6 => ?_)
          refine j_if_eq (pc' := 111) q24_108 rfl (fun c7 => ?_) (fun c7 => ?_)
          · refine j_iload_n (pc' := 140) q24_139 rfl rfl ?_
            exact j_piret q24_140 rfl
          · refine j_aload_n (pc' := 112) q24_111 rfl (by decide) rfl ?_
            refine j_iconst (pc' := 113) q24_112 rfl ?_
            refine j_iload_n (pc' := 114) q24_113 rfl rfl ?_
            refine j_aload_n (pc' := 115) q24_114 rfl (by decide) rfl ?_
            refine j_getf (k := 1) (pc' := 118) q24_115 rfl rfl ?_
            refine j_isub (pc' := 119) q24_118 rfl ?_
            refine j_imul (pc' := 120) q24_119 rfl ?_
            refine j_iconst (pc' := 121) q24_120 rfl ?_
            refine j_iadd (pc' := 122) q24_121 rfl ?_
            refine j_callV1_pi (d := d + 1) (pc' := 125) q24_122 rfl (Nat.le_of_ble_eq_true rfl) (Nat.le_of_ble_eq_true rfl) rfl (t_G_isOpen_1 hρ (d + 1) _ _) (fun r8 => ?_)
            refine j_if_eq (pc' := 128) q24_125 rfl (fun c9 => ?_) (fun c9 => ?_)
            · refine j_iload_n (pc' := 140) q24_139 rfl rfl ?_
              exact j_piret q24_140 rfl
            · refine j_iload_n (pc' := 129) q24_128 rfl rfl ?_
              refine j_iconst (pc' := 130) q24_129 rfl ?_
              refine j_iload_n (pc' := 131) q24_130 rfl rfl ?_
              refine j_aload_n (pc' := 132) q24_131 rfl (by decide) rfl ?_
              refine j_getf (k := 1) (pc' := 135) q24_132 rfl rfl ?_
              refine j_isub (pc' := 136) q24_135 rfl ?_
              refine j_ishl (pc' := 137) q24_136 rfl ?_
              refine j_ior (pc' := 138) q24_137 rfl ?_
              refine j_nameI (fun v10 => ?_)
              refine j_istore2 (pc' := 139) q24_138 rfl (Nat.le_of_ble_eq_true rfl) rfl ?_
              refine j_iload_n (pc' := 140) q24_139 rfl rfl ?_
              exact j_piret q24_140 rfl
        · show z_J _ _ _ _ _ _ _ _ _ _ _ _
          refine j_if_eq (pc' := 75) q24_72 rfl (fun c11 => ?_) (fun c11 => ?_)
          · refine j_forget (z_le_s (z_le_s (z_le_s (z_le_nil)))) (hj5 t3)
          · refine j_aload_n (pc' := 76) q24_75 rfl (by decide) rfl ?_
            refine j_iconst (pc' := 77) q24_76 rfl ?_
            refine j_iload_n (pc' := 78) q24_77 rfl rfl ?_
            refine j_imul (pc' := 79) q24_78 rfl ?_
            refine j_iconst (pc' := 80) q24_79 rfl ?_
            refine j_iadd (pc' := 81) q24_80 rfl ?_
            refine j_callV1_pi (d := d + 1) (pc' := 84) q24_81 rfl (Nat.le_of_ble_eq_true rfl) (Nat.le_of_ble_eq_true rfl) rfl (t_G_isOpen_1 hρ (d + 1) _ _) (fun r12 => ?_)
            refine j_if_eq (pc' := 87) q24_84 rfl (fun c13 => ?_) (fun c13 => ?_)
            · refine j_forget (z_le_s (z_le_s (z_le_s (z_le_nil)))) (hj5 t3)
            · refine j_iload_n (pc' := 88) q24_87 rfl rfl ?_
              refine j_iconst (pc' := 89) q24_88 rfl ?_
              refine j_iload_n (pc' := 90) q24_89 rfl rfl ?_
              refine j_aload_n (pc' := 91) q24_90 rfl (by decide) rfl ?_
              refine j_getf (k := 1) (pc' := 94) q24_91 rfl rfl ?_
              refine j_iadd (pc' := 95) q24_94 rfl ?_
              refine j_ishl (pc' := 96) q24_95 rfl ?_
              refine j_ior (pc' := 97) q24_96 rfl ?_
              refine j_nameI (fun v14 => ?_)
              refine j_istore2 (pc' := 98) q24_97 rfl (Nat.le_of_ble_eq_true rfl) rfl ?_
              refine j_forget (z_le_s (z_le_s (z_le_s (z_le_nil)))) (hj5 v14)
      · show z_J _ _ _ _ _ _ _ _ _ _ _ _
        refine j_if_le (pc' := 32) q24_29 rfl (fun c15 => ?_) (fun c15 => ?_)
        · refine j_forget (z_le_s (z_le_s (z_le_s (z_le_nil)))) (hj3 t2)
        · refine j_aload_n (pc' := 33) q24_32 rfl (by decide) rfl ?_
          refine j_iload_n (pc' := 34) q24_33 rfl rfl ?_
          refine j_iconst (pc' := 35) q24_34 rfl ?_
          refine j_isub (pc' := 36) q24_35 rfl ?_
          refine j_callV1_pi (d := d + 1) (pc' := 39) q24_36 rfl (Nat.le_of_ble_eq_true rfl) (Nat.le_of_ble_eq_true rfl) rfl (t_G_hasEast_1 hρ (d + 1) _ _) (fun r16 => ?_)
          refine j_if_eq (pc' := 42) q24_39 rfl (fun c17 => ?_) (fun c17 => ?_)
          · refine j_forget (z_le_s (z_le_s (z_le_s (z_le_nil)))) (hj3 t2)
          · refine j_aload_n (pc' := 43) q24_42 rfl (by decide) rfl ?_
            refine j_iconst (pc' := 44) q24_43 rfl ?_
            refine j_iload_n (pc' := 45) q24_44 rfl rfl ?_
            refine j_imul (pc' := 46) q24_45 rfl ?_
            refine j_iconst (pc' := 47) q24_46 rfl ?_
            refine j_isub (pc' := 48) q24_47 rfl ?_
            refine j_callV1_pi (d := d + 1) (pc' := 51) q24_48 rfl (Nat.le_of_ble_eq_true rfl) (Nat.le_of_ble_eq_true rfl) rfl (t_G_isOpen_1 hρ (d + 1) _ _) (fun r18 => ?_)
            refine j_if_eq (pc' := 54) q24_51 rfl (fun c19 => ?_) (fun c19 => ?_)
            · refine j_forget (z_le_s (z_le_s (z_le_s (z_le_nil)))) (hj3 t2)
            · refine j_iload_n (pc' := 55) q24_54 rfl rfl ?_
              refine j_iconst (pc' := 56) q24_55 rfl ?_
              refine j_iload_n (pc' := 57) q24_56 rfl rfl ?_
              refine j_iconst (pc' := 58) q24_57 rfl ?_
              refine j_isub (pc' := 59) q24_58 rfl ?_
              refine j_ishl (pc' := 60) q24_59 rfl ?_
              refine j_ior (pc' := 61) q24_60 rfl ?_
              refine j_nameI (fun v20 => ?_)
              refine j_istore2 (pc' := 62) q24_61 rfl (Nat.le_of_ble_eq_true rfl) rfl ?_
              refine j_forget (z_le_s (z_le_s (z_le_s (z_le_nil)))) (hj3 v20)
    · show z_J _ _ _ _ _ _ _ _ _ _ _ _
      refine j_if_eq (pc' := 10) q24_7 rfl (fun c21 => ?_) (fun c21 => ?_)
      · refine j_forget (z_le_s (z_le_s (z_le_s (z_le_nil)))) (hj2 (0 : Int32))
      · refine j_aload_n (pc' := 11) q24_10 rfl (by decide) rfl ?_
        refine j_iconst (pc' := 12) q24_11 rfl ?_
        refine j_iload_n (pc' := 13) q24_12 rfl rfl ?_
        refine j_imul (pc' := 14) q24_13 rfl ?_
        refine j_callV1_pi (d := d + 1) (pc' := 17) q24_14 rfl (Nat.le_of_ble_eq_true rfl) (Nat.le_of_ble_eq_true rfl) rfl (t_G_isOpen_1 hρ (d + 1) _ _) (fun r22 => ?_)
        refine j_if_eq (pc' := 20) q24_17 rfl (fun c23 => ?_) (fun c23 => ?_)
        · refine j_forget (z_le_s (z_le_s (z_le_s (z_le_nil)))) (hj2 (0 : Int32))
        · refine j_iload_n (pc' := 21) q24_20 rfl rfl ?_
          refine j_iconst (pc' := 22) q24_21 rfl ?_
          refine j_iload_n (pc' := 23) q24_22 rfl rfl ?_
          refine j_iconst (pc' := 24) q24_23 rfl ?_
          refine j_iadd (pc' := 25) q24_24 rfl ?_
          refine j_ishl (pc' := 26) q24_25 rfl ?_
          refine j_ior (pc' := 27) q24_26 rfl ?_
          refine j_nameI (fun v24 => ?_)
          refine j_istore2 (pc' := 28) q24_27 rfl (Nat.le_of_ble_eq_true rfl) rfl ?_
          refine j_forget (z_le_s (z_le_s (z_le_s (z_le_nil)))) (hj2 v24)
set_option maxRecDepth 8000 in
theorem q231_0 : z_fi (z_mi 231) 0 = some (0, .iload_n 0, 0, 0, 0, 0, 0) := rfl
set_option maxRecDepth 8000 in
theorem q231_1 : z_fi (z_mi 231) 1 = some (1, .iload_n 0, 0, 0, 0, 0, 0) := rfl
set_option maxRecDepth 8000 in
theorem q231_2 : z_fi (z_mi 231) 2 = some (2, .iconst 1, 0, 0, 0, 1, 0) := rfl
set_option maxRecDepth 8000 in
theorem q231_3 : z_fi (z_mi 231) 3 = some (3, .iushr, 0, 0, 0, 0, 0) := rfl
set_option maxRecDepth 8000 in
theorem q231_4 : z_fi (z_mi 231) 4 = some (4, .ldc_w 265, 0, 0, 0, 1431655765, 0) := rfl
set_option maxRecDepth 8000 in
theorem q231_7 : z_fi (z_mi 231) 7 = some (7, .iand, 0, 0, 0, 0, 0) := rfl
set_option maxRecDepth 8000 in
theorem q231_8 : z_fi (z_mi 231) 8 = some (8, .isub, 0, 0, 0, 0, 0) := rfl
set_option maxRecDepth 8000 in
theorem q231_9 : z_fi (z_mi 231) 9 = some (9, .istore_n 0, 0, 0, 0, 0, 0) := rfl
set_option maxRecDepth 8000 in
theorem q231_10 : z_fi (z_mi 231) 10 = some (10, .iload_n 0, 0, 0, 0, 0, 0) := rfl
set_option maxRecDepth 8000 in
theorem q231_11 : z_fi (z_mi 231) 11 = some (11, .ldc_w 266, 0, 0, 0, 858993459, 0) := rfl
set_option maxRecDepth 8000 in
theorem q231_14 : z_fi (z_mi 231) 14 = some (14, .iand, 0, 0, 0, 0, 0) := rfl
set_option maxRecDepth 8000 in
theorem q231_15 : z_fi (z_mi 231) 15 = some (15, .iload_n 0, 0, 0, 0, 0, 0) := rfl
set_option maxRecDepth 8000 in
theorem q231_16 : z_fi (z_mi 231) 16 = some (16, .iconst 2, 0, 0, 0, 2, 0) := rfl
set_option maxRecDepth 8000 in
theorem q231_17 : z_fi (z_mi 231) 17 = some (17, .iushr, 0, 0, 0, 0, 0) := rfl
set_option maxRecDepth 8000 in
theorem q231_18 : z_fi (z_mi 231) 18 = some (18, .ldc_w 266, 0, 0, 0, 858993459, 0) := rfl
set_option maxRecDepth 8000 in
theorem q231_21 : z_fi (z_mi 231) 21 = some (21, .iand, 0, 0, 0, 0, 0) := rfl
set_option maxRecDepth 8000 in
theorem q231_22 : z_fi (z_mi 231) 22 = some (22, .iadd, 0, 0, 0, 0, 0) := rfl
set_option maxRecDepth 8000 in
theorem q231_23 : z_fi (z_mi 231) 23 = some (23, .istore_n 0, 0, 0, 0, 0, 0) := rfl
set_option maxRecDepth 8000 in
theorem q231_24 : z_fi (z_mi 231) 24 = some (24, .iload_n 0, 0, 0, 0, 0, 0) := rfl
set_option maxRecDepth 8000 in
theorem q231_25 : z_fi (z_mi 231) 25 = some (25, .iload_n 0, 0, 0, 0, 0, 0) := rfl
set_option maxRecDepth 8000 in
theorem q231_26 : z_fi (z_mi 231) 26 = some (26, .iconst 4, 0, 0, 0, 4, 0) := rfl
set_option maxRecDepth 8000 in
theorem q231_27 : z_fi (z_mi 231) 27 = some (27, .iushr, 0, 0, 0, 0, 0) := rfl
set_option maxRecDepth 8000 in
theorem q231_28 : z_fi (z_mi 231) 28 = some (28, .iadd, 0, 0, 0, 0, 0) := rfl
set_option maxRecDepth 8000 in
theorem q231_29 : z_fi (z_mi 231) 29 = some (29, .ldc_w 267, 0, 0, 0, 252645135, 0) := rfl
set_option maxRecDepth 8000 in
theorem q231_32 : z_fi (z_mi 231) 32 = some (32, .iand, 0, 0, 0, 0, 0) := rfl
set_option maxRecDepth 8000 in
theorem q231_33 : z_fi (z_mi 231) 33 = some (33, .istore_n 0, 0, 0, 0, 0, 0) := rfl
set_option maxRecDepth 8000 in
theorem q231_34 : z_fi (z_mi 231) 34 = some (34, .iload_n 0, 0, 0, 0, 0, 0) := rfl
set_option maxRecDepth 8000 in
theorem q231_35 : z_fi (z_mi 231) 35 = some (35, .iload_n 0, 0, 0, 0, 0, 0) := rfl
set_option maxRecDepth 8000 in
theorem q231_36 : z_fi (z_mi 231) 36 = some (36, .bipush 8, 0, 0, 0, 8, 0) := rfl
set_option maxRecDepth 8000 in
theorem q231_38 : z_fi (z_mi 231) 38 = some (38, .iushr, 0, 0, 0, 0, 0) := rfl
set_option maxRecDepth 8000 in
theorem q231_39 : z_fi (z_mi 231) 39 = some (39, .iadd, 0, 0, 0, 0, 0) := rfl
set_option maxRecDepth 8000 in
theorem q231_40 : z_fi (z_mi 231) 40 = some (40, .istore_n 0, 0, 0, 0, 0, 0) := rfl
set_option maxRecDepth 8000 in
theorem q231_41 : z_fi (z_mi 231) 41 = some (41, .iload_n 0, 0, 0, 0, 0, 0) := rfl
set_option maxRecDepth 8000 in
theorem q231_42 : z_fi (z_mi 231) 42 = some (42, .iload_n 0, 0, 0, 0, 0, 0) := rfl
set_option maxRecDepth 8000 in
theorem q231_43 : z_fi (z_mi 231) 43 = some (43, .bipush 16, 0, 0, 0, 16, 0) := rfl
set_option maxRecDepth 8000 in
theorem q231_45 : z_fi (z_mi 231) 45 = some (45, .iushr, 0, 0, 0, 0, 0) := rfl
set_option maxRecDepth 8000 in
theorem q231_46 : z_fi (z_mi 231) 46 = some (46, .iadd, 0, 0, 0, 0, 0) := rfl
set_option maxRecDepth 8000 in
theorem q231_47 : z_fi (z_mi 231) 47 = some (47, .istore_n 0, 0, 0, 0, 0, 0) := rfl
set_option maxRecDepth 8000 in
theorem q231_48 : z_fi (z_mi 231) 48 = some (48, .iload_n 0, 0, 0, 0, 0, 0) := rfl
set_option maxRecDepth 8000 in
theorem q231_49 : z_fi (z_mi 231) 49 = some (49, .bipush 63, 0, 0, 0, 63, 0) := rfl
set_option maxRecDepth 8000 in
theorem q231_51 : z_fi (z_mi 231) 51 = some (51, .iand, 0, 0, 0, 0, 0) := rfl
set_option maxRecDepth 8000 in
theorem q231_52 : z_fi (z_mi 231) 52 = some (52, .ireturn, 0, 0, 0, 0, 0) := rfl
set_option maxRecDepth 20000 in
set_option maxHeartbeats 4000000 in
theorem t_JI_bitCount {xL : Nat} {xs : Nat → Int32} {ρ : Nat → Nat → Option Nat} (hρ : z_hR ρ) (d : Nat) (a0 : Int32) (σ : zS) : ∀ q, f_JI_bitCount a0 σ = some q → z_ec xL xs ρ (d + 0) 231 [.int a0] σ (em_pi σ q) := by
  refine j_of (W := [.int a0]) (fun L hL => ?_) ?_
  · subst hL; exact z_vl_0 _ 0 rfl
  · unfold f_JI_bitCount
    refine j_iload_n (pc' := 1) q231_0 rfl rfl ?_
    refine j_iload_n (pc' := 2) q231_1 rfl rfl ?_
    refine j_iconst (pc' := 3) q231_2 rfl ?_
    refine j_iushr (pc' := 4) q231_3 rfl ?_
    refine j_ldcw (pc' := 7) q231_4 rfl ?_
    refine j_iand (pc' := 8) q231_7 rfl ?_
    refine j_isub (pc' := 9) q231_8 rfl ?_
    refine j_nameI (fun v1 => ?_)
    refine j_istore0 (pc' := 10) q231_9 (Nat.le_of_ble_eq_true rfl) rfl ?_
    refine j_iload_n (pc' := 11) q231_10 rfl rfl ?_
    refine j_ldcw (pc' := 14) q231_11 rfl ?_
    refine j_iand (pc' := 15) q231_14 rfl ?_
    refine j_iload_n (pc' := 16) q231_15 rfl rfl ?_
    refine j_iconst (pc' := 17) q231_16 rfl ?_
    refine j_iushr (pc' := 18) q231_17 rfl ?_
    refine j_ldcw (pc' := 21) q231_18 rfl ?_
    refine j_iand (pc' := 22) q231_21 rfl ?_
    refine j_iadd (pc' := 23) q231_22 rfl ?_
    refine j_nameI (fun v2 => ?_)
    refine j_istore0 (pc' := 24) q231_23 (Nat.le_of_ble_eq_true rfl) rfl ?_
    refine j_iload_n (pc' := 25) q231_24 rfl rfl ?_
    refine j_iload_n (pc' := 26) q231_25 rfl rfl ?_
    refine j_iconst (pc' := 27) q231_26 rfl ?_
    refine j_iushr (pc' := 28) q231_27 rfl ?_
    refine j_iadd (pc' := 29) q231_28 rfl ?_
    refine j_ldcw (pc' := 32) q231_29 rfl ?_
    refine j_iand (pc' := 33) q231_32 rfl ?_
    refine j_nameI (fun v3 => ?_)
    refine j_istore0 (pc' := 34) q231_33 (Nat.le_of_ble_eq_true rfl) rfl ?_
    refine j_iload_n (pc' := 35) q231_34 rfl rfl ?_
    refine j_iload_n (pc' := 36) q231_35 rfl rfl ?_
    refine j_bipush (pc' := 38) q231_36 rfl ?_
    refine j_iushr (pc' := 39) q231_38 rfl ?_
    refine j_iadd (pc' := 40) q231_39 rfl ?_
    refine j_nameI (fun v4 => ?_)
    refine j_istore0 (pc' := 41) q231_40 (Nat.le_of_ble_eq_true rfl) rfl ?_
    refine j_iload_n (pc' := 42) q231_41 rfl rfl ?_
    refine j_iload_n (pc' := 43) q231_42 rfl rfl ?_
    refine j_bipush (pc' := 45) q231_43 rfl ?_
    refine j_iushr (pc' := 46) q231_45 rfl ?_
    refine j_iadd (pc' := 47) q231_46 rfl ?_
    refine j_nameI (fun v5 => ?_)
    refine j_istore0 (pc' := 48) q231_47 (Nat.le_of_ble_eq_true rfl) rfl ?_
    refine j_iload_n (pc' := 49) q231_48 rfl rfl ?_
    refine j_bipush (pc' := 51) q231_49 rfl ?_
    refine j_iand (pc' := 52) q231_51 rfl ?_
    exact j_piret q231_52 rfl
theorem q23_0 : z_fi (z_mi 23) 0 = some (0, .aload_n 0, 0, 0, 0, 0, 0) := rfl
theorem q23_1 : z_fi (z_mi 23) 1 = some (1, .getfield 30, 0, 0, 8, 0, 0) := rfl
theorem q23_4 : z_fi (z_mi 23) 4 = some (4, .getfield 147, 0, 1, 0, 0, 0) := rfl
theorem q23_7 : z_fi (z_mi 23) 7 = some (7, .iload_n 1, 0, 0, 0, 0, 0) := rfl
theorem q23_8 : z_fi (z_mi 23) 8 = some (8, .iaload, 0, 0, 0, 0, 0) := rfl
theorem q23_9 : z_fi (z_mi 23) 9 = some (9, .istore_n 3, 0, 0, 0, 0, 0) := rfl
theorem q23_10 : z_fi (z_mi 23) 10 = some (10, .aload_n 0, 0, 0, 0, 0, 0) := rfl
theorem q23_11 : z_fi (z_mi 23) 11 = some (11, .getfield 30, 0, 0, 8, 0, 0) := rfl
theorem q23_14 : z_fi (z_mi 23) 14 = some (14, .getfield 159, 0, 1, 1, 0, 0) := rfl
theorem q23_17 : z_fi (z_mi 23) 17 = some (17, .iload_n 1, 0, 0, 0, 0, 0) := rfl
theorem q23_18 : z_fi (z_mi 23) 18 = some (18, .iaload, 0, 0, 0, 0, 0) := rfl
theorem q23_19 : z_fi (z_mi 23) 19 = some (19, .istore 4, 0, 0, 0, 0, 0) := rfl
theorem q23_21 : z_fi (z_mi 23) 21 = some (21, .iload_n 3, 0, 0, 0, 0, 0) := rfl
theorem q23_22 : z_fi (z_mi 23) 22 = some (22, .invokestatic 114, 4, 100, 1, 0, 0) := rfl
theorem q23_25 : z_fi (z_mi 23) 25 = some (25, .ifCond .eq 58, 0, 83, 0, 0, 0) := rfl
theorem q23_28 : z_fi (z_mi 23) 28 = some (28, .iload 4, 0, 0, 0, 0, 0) := rfl
theorem q23_30 : z_fi (z_mi 23) 30 = some (30, .iconst 0, 0, 0, 0, 0, 0) := rfl
theorem q23_31 : z_fi (z_mi 23) 31 = some (31, .iconst 4, 0, 0, 0, 4, 0) := rfl
theorem q23_32 : z_fi (z_mi 23) 32 = some (32, .invokestatic 106, 4, 99, 3, 0, 0) := rfl
theorem q23_35 : z_fi (z_mi 23) 35 = some (35, .ifCond .eq 48, 0, 83, 0, 0, 0) := rfl
theorem q23_38 : z_fi (z_mi 23) 38 = some (38, .aload_n 0, 0, 0, 0, 0, 0) := rfl
theorem q23_39 : z_fi (z_mi 23) 39 = some (39, .getfield 44, 0, 0, 14, 0, 0) := rfl
theorem q23_42 : z_fi (z_mi 23) 42 = some (42, .iload 4, 0, 0, 0, 0, 0) := rfl
theorem q23_44 : z_fi (z_mi 23) 44 = some (44, .iaload, 0, 0, 0, 0, 0) := rfl
theorem q23_45 : z_fi (z_mi 23) 45 = some (45, .iload_n 2, 0, 0, 0, 0, 0) := rfl
theorem q23_46 : z_fi (z_mi 23) 46 = some (46, .iushr, 0, 0, 0, 0, 0) := rfl
theorem q23_47 : z_fi (z_mi 23) 47 = some (47, .iconst 1, 0, 0, 0, 1, 0) := rfl
theorem q23_48 : z_fi (z_mi 23) 48 = some (48, .iand, 0, 0, 0, 0, 0) := rfl
theorem q23_49 : z_fi (z_mi 23) 49 = some (49, .ifCond .eq 34, 0, 83, 0, 0, 0) := rfl
theorem q23_52 : z_fi (z_mi 23) 52 = some (52, .aload_n 0, 0, 0, 0, 0, 0) := rfl
theorem q23_53 : z_fi (z_mi 23) 53 = some (53, .getfield 44, 0, 0, 14, 0, 0) := rfl
theorem q23_56 : z_fi (z_mi 23) 56 = some (56, .iload_n 3, 0, 0, 0, 0, 0) := rfl
theorem q23_57 : z_fi (z_mi 23) 57 = some (57, .iaload, 0, 0, 0, 0, 0) := rfl
theorem q23_58 : z_fi (z_mi 23) 58 = some (58, .aload_n 0, 0, 0, 0, 0, 0) := rfl
theorem q23_59 : z_fi (z_mi 23) 59 = some (59, .iload_n 2, 0, 0, 0, 0, 0) := rfl
theorem q23_60 : z_fi (z_mi 23) 60 = some (60, .invokevirtual 162, 0, 24, 1, 0, 0) := rfl
theorem q23_63 : z_fi (z_mi 23) 63 = some (63, .iand, 0, 0, 0, 0, 0) := rfl
theorem q23_64 : z_fi (z_mi 23) 64 = some (64, .invokestatic 165, 1, 231, 1, 0, 0) := rfl
theorem q23_67 : z_fi (z_mi 23) 67 = some (67, .aload_n 0, 0, 0, 0, 0, 0) := rfl
theorem q23_68 : z_fi (z_mi 23) 68 = some (68, .getfield 30, 0, 0, 8, 0, 0) := rfl
theorem q23_71 : z_fi (z_mi 23) 71 = some (71, .getfield 170, 0, 1, 2, 0, 0) := rfl
theorem q23_74 : z_fi (z_mi 23) 74 = some (74, .iload_n 1, 0, 0, 0, 0, 0) := rfl
theorem q23_75 : z_fi (z_mi 23) 75 = some (75, .iaload, 0, 0, 0, 0, 0) := rfl
theorem q23_76 : z_fi (z_mi 23) 76 = some (76, .if_icmp .lt 7, 0, 83, 0, 0, 0) := rfl
theorem q23_79 : z_fi (z_mi 23) 79 = some (79, .iconst 1, 0, 0, 0, 1, 0) := rfl
theorem q23_80 : z_fi (z_mi 23) 80 = some (80, .goto 4, 0, 84, 0, 0, 0) := rfl
theorem q23_83 : z_fi (z_mi 23) 83 = some (83, .iconst 0, 0, 0, 0, 0, 0) := rfl
theorem q23_84 : z_fi (z_mi 23) 84 = some (84, .ireturn, 0, 0, 0, 0, 0) := rfl
set_option maxRecDepth 20000 in
set_option maxHeartbeats 4000000 in
theorem t_G_fits_1 {xL : Nat} {xs : Nat → Int32} {ρ : Nat → Nat → Option Nat} (hρ : z_hR ρ) (d : Nat) (a1 : Int32) (a2 : Int32) (σ : zS) : ∀ q, f_G_fits_1 a1 a2 σ = some q → z_ec xL xs ρ (d + 3) 23 [.ref 1, .int a1, .int a2] σ (em_pi σ q) := by
  refine j_of (W := [.ref 1, .int a1, .int a2, .null, .null]) (fun L hL => ?_) ?_
  · subst hL; exact z_vl_0 _ 2 rfl
  · unfold f_G_fits_1
    refine j_aload_n (pc' := 1) q23_0 rfl (by decide) rfl ?_
    refine j_getr (k := 1) (q := 7) (pc' := 4) q23_1 rfl (hρ 1 8 7 rfl) rfl ?_
    refine j_getr (k := 7) (q := 8) (pc' := 7) q23_4 rfl (hρ 7 0 8 rfl) rfl ?_
    refine j_iload_n (pc' := 8) q23_7 rfl rfl ?_
    refine j_if (fun hi1 => ?_) (fun _ => j_none)
    refine j_iald (k := 8) (N := 5) (pc' := 9) q23_8 rfl hi1 rfl ?_
    refine j_istore3 (pc' := 10) q23_9 rfl (Nat.le_of_ble_eq_true rfl) rfl ?_
    refine j_aload_n (pc' := 11) q23_10 rfl (by decide) rfl ?_
    refine j_getr (k := 1) (q := 7) (pc' := 14) q23_11 rfl (hρ 1 8 7 rfl) rfl ?_
    refine j_getr (k := 7) (q := 9) (pc' := 17) q23_14 rfl (hρ 7 1 9 rfl) rfl ?_
    refine j_iload_n (pc' := 18) q23_17 rfl rfl ?_
    refine j_if (fun hi2 => ?_) (fun _ => j_none)
    refine j_iald (k := 9) (N := 5) (pc' := 19) q23_18 rfl hi2 rfl ?_
    refine j_istore4 (pc' := 21) q23_19 rfl (Nat.le_of_ble_eq_true rfl) rfl ?_
    refine j_iload_n (pc' := 22) q23_21 rfl rfl ?_
    refine j_callS1_pi (d := d + 2) (pc' := 25) q23_22 (Or.inr rfl) (Nat.le_of_ble_eq_true rfl) (Nat.le_of_ble_eq_true rfl) rfl (t_Y_isSeason hρ (d + 1) _ _) (fun r3 => ?_)
    refine j_if_eq (pc' := 28) q23_25 rfl (fun c4 => ?_) (fun c4 => ?_)
    · refine j_iconst (pc' := 84) q23_83 rfl ?_
      exact j_pzret q23_84 rfl (Or.inl rfl)
    · refine j_iload (pc' := 30) q23_28 rfl rfl ?_
      refine j_iconst (pc' := 31) q23_30 rfl ?_
      refine j_iconst (pc' := 32) q23_31 rfl ?_
      refine j_callS3_pi (d := d + 2) (pc' := 35) q23_32 (Or.inr rfl) (Nat.le_of_ble_eq_true rfl) (Nat.le_of_ble_eq_true rfl) rfl (t_Y_isIn hρ (d + 2) _ _ _ _) (fun r5 => ?_)
      refine j_if_eq (pc' := 38) q23_35 rfl (fun c6 => ?_) (fun c6 => ?_)
      · refine j_iconst (pc' := 84) q23_83 rfl ?_
        exact j_pzret q23_84 rfl (Or.inl rfl)
      · refine j_aload_n (pc' := 39) q23_38 rfl (by decide) rfl ?_
        refine j_getr (k := 1) (q := 15) (pc' := 42) q23_39 rfl (hρ 1 14 15 rfl) rfl ?_
        refine j_iload (pc' := 44) q23_42 rfl rfl ?_
        refine j_if (fun hi7 => ?_) (fun _ => j_none)
        refine j_iald (k := 15) (N := 5) (pc' := 45) q23_44 rfl hi7 rfl ?_
        refine j_iload_n (pc' := 46) q23_45 rfl rfl ?_
        refine j_iushr (pc' := 47) q23_46 rfl ?_
        refine j_iconst (pc' := 48) q23_47 rfl ?_
        refine j_iand (pc' := 49) q23_48 rfl ?_
        refine j_if_eq (pc' := 52) q23_49 rfl (fun c8 => ?_) (fun c8 => ?_)
        · refine j_iconst (pc' := 84) q23_83 rfl ?_
          exact j_pzret q23_84 rfl (Or.inl rfl)
        · refine j_aload_n (pc' := 53) q23_52 rfl (by decide) rfl ?_
          refine j_getr (k := 1) (q := 15) (pc' := 56) q23_53 rfl (hρ 1 14 15 rfl) rfl ?_
          refine j_iload_n (pc' := 57) q23_56 rfl rfl ?_
          refine j_if (fun hi9 => ?_) (fun _ => j_none)
          refine j_iald (k := 15) (N := 5) (pc' := 58) q23_57 rfl hi9 rfl ?_
          refine j_aload_n (pc' := 59) q23_58 rfl (by decide) rfl ?_
          refine j_iload_n (pc' := 60) q23_59 rfl rfl ?_
          refine j_callV1_pi (d := d + 2) (pc' := 63) q23_60 rfl (Nat.le_of_ble_eq_true rfl) (Nat.le_of_ble_eq_true rfl) rfl (t_G_nextTo_1 hρ (d + 0) _ _) (fun r10 => ?_)
          refine j_iand (pc' := 64) q23_63 rfl ?_
          refine j_callS1_pi (d := d + 2) (pc' := 67) q23_64 (Or.inl rfl) (Nat.le_of_ble_eq_true rfl) (Nat.le_of_ble_eq_true rfl) rfl (t_JI_bitCount hρ (d + 2) _ _) (fun r11 => ?_)
          refine j_aload_n (pc' := 68) q23_67 rfl (by decide) rfl ?_
          refine j_getr (k := 1) (q := 7) (pc' := 71) q23_68 rfl (hρ 1 8 7 rfl) rfl ?_
          refine j_getr (k := 7) (q := 10) (pc' := 74) q23_71 rfl (hρ 7 2 10 rfl) rfl ?_
          refine j_iload_n (pc' := 75) q23_74 rfl rfl ?_
          refine j_if (fun hi12 => ?_) (fun _ => j_none)
          refine j_iald (k := 10) (N := 5) (pc' := 76) q23_75 rfl hi12 rfl ?_
          refine j_icmp_lt (pc' := 79) q23_76 rfl (fun c13 => ?_) (fun c13 => ?_)
          · refine j_iconst (pc' := 84) q23_83 rfl ?_
            exact j_pzret q23_84 rfl (Or.inl rfl)
          · refine j_iconst (pc' := 80) q23_79 rfl ?_
            refine j_goto q23_80 rfl ?_
            exact j_pzret q23_84 rfl (Or.inr rfl)
theorem q22_0 : z_fi (z_mi 22) 0 = some (0, .iconst 0, 0, 0, 0, 0, 0) := rfl
theorem q22_1 : z_fi (z_mi 22) 1 = some (1, .istore_n 2, 0, 0, 0, 0, 0) := rfl
theorem q22_2 : z_fi (z_mi 22) 2 = some (2, .iload_n 2, 0, 0, 0, 0, 0) := rfl
theorem q22_3 : z_fi (z_mi 22) 3 = some (3, .aload_n 0, 0, 0, 0, 0, 0) := rfl
theorem q22_4 : z_fi (z_mi 22) 4 = some (4, .getfield 30, 0, 0, 8, 0, 0) := rfl
theorem q22_7 : z_fi (z_mi 22) 7 = some (7, .getfield 69, 0, 1, 3, 0, 0) := rfl
theorem q22_10 : z_fi (z_mi 22) 10 = some (10, .if_icmp .ge 25, 0, 35, 0, 0, 0) := rfl
theorem q22_13 : z_fi (z_mi 22) 13 = some (13, .iload_n 2, 0, 0, 0, 0, 0) := rfl
theorem q22_14 : z_fi (z_mi 22) 14 = some (14, .iconst 5, 0, 0, 0, 5, 0) := rfl
theorem q22_15 : z_fi (z_mi 22) 15 = some (15, .if_icmp .ge 20, 0, 35, 0, 0, 0) := rfl
theorem q22_18 : z_fi (z_mi 22) 18 = some (18, .aload_n 0, 0, 0, 0, 0, 0) := rfl
theorem q22_19 : z_fi (z_mi 22) 19 = some (19, .iload_n 2, 0, 0, 0, 0, 0) := rfl
theorem q22_20 : z_fi (z_mi 22) 20 = some (20, .iload_n 1, 0, 0, 0, 0, 0) := rfl
theorem q22_21 : z_fi (z_mi 22) 21 = some (21, .invokevirtual 156, 0, 23, 2, 0, 0) := rfl
theorem q22_24 : z_fi (z_mi 22) 24 = some (24, .ifCond .eq 5, 0, 29, 0, 0, 0) := rfl
theorem q22_27 : z_fi (z_mi 22) 27 = some (27, .iload_n 2, 0, 0, 0, 0, 0) := rfl
theorem q22_28 : z_fi (z_mi 22) 28 = some (28, .ireturn, 0, 0, 0, 0, 0) := rfl
theorem q22_29 : z_fi (z_mi 22) 29 = some (29, .iinc 2 1, 0, 0, 0, 1, 0) := rfl
theorem q22_32 : z_fi (z_mi 22) 32 = some (32, .goto (-30), 0, 2, 0, 0, 0) := rfl
theorem q22_35 : z_fi (z_mi 22) 35 = some (35, .bipush (-4), 0, 0, 0, (-4), 0) := rfl
theorem q22_37 : z_fi (z_mi 22) 37 = some (37, .ireturn, 0, 0, 0, 0, 0) := rfl
set_option maxRecDepth 20000 in
set_option maxHeartbeats 4000000 in
theorem t_G_firstFitting_1 {xL : Nat} {xs : Nat → Int32} {ρ : Nat → Nat → Option Nat} (hρ : z_hR ρ) (d : Nat) (a1 : Int32) (σ : zS) : ∀ q, f_G_firstFitting_1 a1 σ = some q → z_ec xL xs ρ (d + 4) 22 [.ref 1, .int a1] σ (em_pi σ q) := by
  refine j_of (W := [.ref 1, .int a1, .null]) (fun L hL => ?_) ?_
  · subst hL; exact z_vl_0 _ 1 rfl
  · unfold f_G_firstFitting_1
    refine j_iconst (pc' := 1) q22_0 rfl ?_
    refine j_istore2 (pc' := 2) q22_1 rfl (Nat.le_of_ble_eq_true rfl) rfl ?_
    refine j_forget (V' := [.ref 1, .int a1, .int (0 : Int32)]) (z_le_s (z_le_s (z_le_s (z_le_nil)))) ?_
    refine j_loopX (S := Int32) (E := Unit) Sum.inl 35 (fun s1 => [.ref 1, .int a1, .int s1]) (fun s1 => σ) (fun b1 => [.null, .null, .null]) (fun b1 => σ) (fun b1 => ?_) (fun R1 hR1 hX1 s1 => ?_) (0 : Int32)
    · show z_J _ _ _ _ _ _ _ _ _ _ _ _
      refine j_bipush (pc' := 37) q22_35 rfl ?_
      exact j_piret q22_37 rfl
    · show z_J _ _ _ _ _ _ _ _ _ _ _ _
      refine j_iload_n (pc' := 3) q22_2 rfl rfl ?_
      refine j_aload_n (pc' := 4) q22_3 rfl (by decide) rfl ?_
      refine j_getr (k := 1) (q := 7) (pc' := 7) q22_4 rfl (hρ 1 8 7 rfl) rfl ?_
      refine j_getf (k := 7) (pc' := 10) q22_7 rfl rfl ?_
      refine j_icmp_ge (pc' := 13) q22_10 rfl (fun c2 => ?_) (fun c2 => ?_)
      · exact j_exit (j_forget (z_le_n (z_le_n (z_le_n (z_le_nil)))) (hX1 ()))
      · refine j_iload_n (pc' := 14) q22_13 rfl rfl ?_
        refine j_iconst (pc' := 15) q22_14 rfl ?_
        refine j_icmp_ge (pc' := 18) q22_15 rfl (fun c3 => ?_) (fun c3 => ?_)
        · exact j_exit (j_forget (z_le_n (z_le_n (z_le_n (z_le_nil)))) (hX1 ()))
        · refine j_aload_n (pc' := 19) q22_18 rfl (by decide) rfl ?_
          refine j_iload_n (pc' := 20) q22_19 rfl rfl ?_
          refine j_iload_n (pc' := 21) q22_20 rfl rfl ?_
          refine j_callV2_pi (d := d + 3) (pc' := 24) q22_21 rfl (Nat.le_of_ble_eq_true rfl) (Nat.le_of_ble_eq_true rfl) rfl (t_G_fits_1 hρ (d + 0) _ _ _) (fun r4 => ?_)
          refine j_if_eq (pc' := 27) q22_24 rfl (fun c5 => ?_) (fun c5 => ?_)
          · refine j_iinc2 (pc' := 32) q22_29 rfl (Nat.le_of_ble_eq_true rfl) rfl ?_
            refine j_goto q22_32 rfl ?_
            exact j_again (j_forget (z_le_s (z_le_s (z_le_s (z_le_nil)))) (hR1 (s1 + (1 : Int32))))
          · refine j_iload_n (pc' := 28) q22_27 rfl rfl ?_
            refine j_exit ?_
            exact j_piret q22_28 rfl
theorem q20_0 : z_fi (z_mi 20) 0 = some (0, .aload_n 0, 0, 0, 0, 0, 0) := rfl
theorem q20_1 : z_fi (z_mi 20) 1 = some (1, .getfield 30, 0, 0, 8, 0, 0) := rfl
theorem q20_4 : z_fi (z_mi 20) 4 = some (4, .getfield 69, 0, 1, 3, 0, 0) := rfl
theorem q20_7 : z_fi (z_mi 20) 7 = some (7, .ifCond .ne 4, 0, 11, 0, 0, 0) := rfl
theorem q20_10 : z_fi (z_mi 20) 10 = some (10, .return_, 0, 0, 0, 0, 0) := rfl
theorem q20_11 : z_fi (z_mi 20) 11 = some (11, .aload_n 0, 0, 0, 0, 0, 0) := rfl
theorem q20_12 : z_fi (z_mi 20) 12 = some (12, .invokevirtual 137, 0, 21, 0, 0, 0) := rfl
theorem q20_15 : z_fi (z_mi 20) 15 = some (15, .iconst 0, 0, 0, 0, 0, 0) := rfl
theorem q20_16 : z_fi (z_mi 20) 16 = some (16, .istore_n 1, 0, 0, 0, 0, 0) := rfl
theorem q20_17 : z_fi (z_mi 20) 17 = some (17, .iload_n 1, 0, 0, 0, 0, 0) := rfl
theorem q20_18 : z_fi (z_mi 20) 18 = some (18, .aload_n 0, 0, 0, 0, 0, 0) := rfl
theorem q20_19 : z_fi (z_mi 20) 19 = some (19, .invokevirtual 95, 0, 7, 0, 0, 0) := rfl
theorem q20_22 : z_fi (z_mi 20) 22 = some (22, .if_icmp .ge 20, 0, 42, 0, 0, 0) := rfl
theorem q20_25 : z_fi (z_mi 20) 25 = some (25, .aload_n 0, 0, 0, 0, 0, 0) := rfl
theorem q20_26 : z_fi (z_mi 20) 26 = some (26, .getfield 47, 0, 0, 15, 0, 0) := rfl
theorem q20_29 : z_fi (z_mi 20) 29 = some (29, .iload_n 1, 0, 0, 0, 0, 0) := rfl
theorem q20_30 : z_fi (z_mi 20) 30 = some (30, .aload_n 0, 0, 0, 0, 0, 0) := rfl
theorem q20_31 : z_fi (z_mi 20) 31 = some (31, .iload_n 1, 0, 0, 0, 0, 0) := rfl
theorem q20_32 : z_fi (z_mi 20) 32 = some (32, .invokevirtual 140, 0, 22, 1, 0, 0) := rfl
theorem q20_35 : z_fi (z_mi 20) 35 = some (35, .iastore, 0, 0, 0, 0, 0) := rfl
theorem q20_36 : z_fi (z_mi 20) 36 = some (36, .iinc 1 1, 0, 0, 0, 1, 0) := rfl
theorem q20_39 : z_fi (z_mi 20) 39 = some (39, .goto (-22), 0, 17, 0, 0, 0) := rfl
theorem q20_42 : z_fi (z_mi 20) 42 = some (42, .iconst 0, 0, 0, 0, 0, 0) := rfl
theorem q20_43 : z_fi (z_mi 20) 43 = some (43, .istore_n 1, 0, 0, 0, 0, 0) := rfl
theorem q20_44 : z_fi (z_mi 20) 44 = some (44, .iload_n 1, 0, 0, 0, 0, 0) := rfl
theorem q20_45 : z_fi (z_mi 20) 45 = some (45, .aload_n 0, 0, 0, 0, 0, 0) := rfl
theorem q20_46 : z_fi (z_mi 20) 46 = some (46, .invokevirtual 95, 0, 7, 0, 0, 0) := rfl
theorem q20_49 : z_fi (z_mi 20) 49 = some (49, .if_icmp .ge 61, 0, 110, 0, 0, 0) := rfl
theorem q20_52 : z_fi (z_mi 20) 52 = some (52, .aload_n 0, 0, 0, 0, 0, 0) := rfl
theorem q20_53 : z_fi (z_mi 20) 53 = some (53, .getfield 30, 0, 0, 8, 0, 0) := rfl
theorem q20_56 : z_fi (z_mi 20) 56 = some (56, .aload_n 0, 0, 0, 0, 0, 0) := rfl
theorem q20_57 : z_fi (z_mi 20) 57 = some (57, .getfield 47, 0, 0, 15, 0, 0) := rfl
theorem q20_60 : z_fi (z_mi 20) 60 = some (60, .iload_n 1, 0, 0, 0, 0, 0) := rfl
theorem q20_61 : z_fi (z_mi 20) 61 = some (61, .iaload, 0, 0, 0, 0, 0) := rfl
theorem q20_62 : z_fi (z_mi 20) 62 = some (62, .invokevirtual 144, 0, 35, 1, 0, 0) := rfl
theorem q20_65 : z_fi (z_mi 20) 65 = some (65, .ifCond .eq 39, 0, 104, 0, 0, 0) := rfl
theorem q20_68 : z_fi (z_mi 20) 68 = some (68, .aload_n 0, 0, 0, 0, 0, 0) := rfl
theorem q20_69 : z_fi (z_mi 20) 69 = some (69, .getfield 9, 0, 0, 2, 0, 0) := rfl
theorem q20_72 : z_fi (z_mi 20) 72 = some (72, .iload_n 1, 0, 0, 0, 0, 0) := rfl
theorem q20_73 : z_fi (z_mi 20) 73 = some (73, .aload_n 0, 0, 0, 0, 0, 0) := rfl
theorem q20_74 : z_fi (z_mi 20) 74 = some (74, .getfield 30, 0, 0, 8, 0, 0) := rfl
theorem q20_77 : z_fi (z_mi 20) 77 = some (77, .getfield 147, 0, 1, 0, 0, 0) := rfl
theorem q20_80 : z_fi (z_mi 20) 80 = some (80, .aload_n 0, 0, 0, 0, 0, 0) := rfl
theorem q20_81 : z_fi (z_mi 20) 81 = some (81, .getfield 47, 0, 0, 15, 0, 0) := rfl
theorem q20_84 : z_fi (z_mi 20) 84 = some (84, .iload_n 1, 0, 0, 0, 0, 0) := rfl
theorem q20_85 : z_fi (z_mi 20) 85 = some (85, .iaload, 0, 0, 0, 0, 0) := rfl
theorem q20_86 : z_fi (z_mi 20) 86 = some (86, .iaload, 0, 0, 0, 0, 0) := rfl
theorem q20_87 : z_fi (z_mi 20) 87 = some (87, .iastore, 0, 0, 0, 0, 0) := rfl
theorem q20_88 : z_fi (z_mi 20) 88 = some (88, .aload_n 0, 0, 0, 0, 0, 0) := rfl
theorem q20_89 : z_fi (z_mi 20) 89 = some (89, .getfield 15, 0, 0, 3, 0, 0) := rfl
theorem q20_92 : z_fi (z_mi 20) 92 = some (92, .iload_n 1, 0, 0, 0, 0, 0) := rfl
theorem q20_93 : z_fi (z_mi 20) 93 = some (93, .aload_n 0, 0, 0, 0, 0, 0) := rfl
theorem q20_94 : z_fi (z_mi 20) 94 = some (94, .getfield 15, 0, 0, 3, 0, 0) := rfl
theorem q20_97 : z_fi (z_mi 20) 97 = some (97, .iload_n 1, 0, 0, 0, 0, 0) := rfl
theorem q20_98 : z_fi (z_mi 20) 98 = some (98, .iaload, 0, 0, 0, 0, 0) := rfl
theorem q20_99 : z_fi (z_mi 20) 99 = some (99, .iconst 1, 0, 0, 0, 1, 0) := rfl
theorem q20_100 : z_fi (z_mi 20) 100 = some (100, .invokestatic 150, 8, 232, 2, 0, 0) := rfl
theorem q20_103 : z_fi (z_mi 20) 103 = some (103, .iastore, 0, 0, 0, 0, 0) := rfl
theorem q20_104 : z_fi (z_mi 20) 104 = some (104, .iinc 1 1, 0, 0, 0, 1, 0) := rfl
theorem q20_107 : z_fi (z_mi 20) 107 = some (107, .goto (-63), 0, 44, 0, 0, 0) := rfl
theorem q20_110 : z_fi (z_mi 20) 110 = some (110, .return_, 0, 0, 0, 0, 0) := rfl
set_option maxRecDepth 20000 in
set_option maxHeartbeats 4000000 in
theorem t_G_spread_1 {xL : Nat} {xs : Nat → Int32} {ρ : Nat → Nat → Option Nat} (hρ : z_hR ρ) (d : Nat)  (σ : zS) : ∀ q, f_G_spread_1  σ = some q → z_ec xL xs ρ (d + 5) 20 [.ref 1] σ (em_v q) := by
  refine j_of (W := [.ref 1, .null]) (fun L hL => ?_) ?_
  · subst hL; exact z_vl_0 _ 1 rfl
  · unfold f_G_spread_1
    refine j_aload_n (pc' := 1) q20_0 rfl (by decide) rfl ?_
    refine j_getr (k := 1) (q := 7) (pc' := 4) q20_1 rfl (hρ 1 8 7 rfl) rfl ?_
    refine j_getf (k := 7) (pc' := 7) q20_4 rfl rfl ?_
    refine j_if_ne (pc' := 10) q20_7 rfl (fun c1 => ?_) (fun c1 => ?_)
    · exact j_vret q20_10 rfl
    · refine j_aload_n (pc' := 12) q20_11 rfl (by decide) rfl ?_
      refine j_callV0_v (d := d + 4) (pc' := 15) q20_12 rfl (Nat.le_of_ble_eq_true rfl) (Nat.le_of_ble_eq_true rfl) rfl (t_G_notePlaces_1 hρ (d + 3) _) (fun r2 => ?_)
      refine j_iconst (pc' := 16) q20_15 rfl ?_
      refine j_istore1 (pc' := 17) q20_16 rfl (Nat.le_of_ble_eq_true rfl) rfl ?_
      refine j_forget (V' := [.ref 1, .int (0 : Int32)]) (z_le_s (z_le_s (z_le_nil))) ?_
      refine j_loopX (S := Int32 × zS) (E := zS) (fun e => e) 42 (fun s3 => [.ref 1, .int s3.1]) (fun s3 => s3.2) (fun b3 => [.ref 1, .null]) (fun b3 => b3) (fun b3 => ?_) (fun R3 hR3 hX3 s3 => ?_) ((0 : Int32), r2)
      · show z_J _ _ _ _ _ _ _ _ _ _ _ _
        refine j_iconst (pc' := 43) q20_42 rfl ?_
        refine j_istore1 (pc' := 44) q20_43 rfl (Nat.le_of_ble_eq_true rfl) rfl ?_
        refine j_forget (V' := [.ref 1, .int (0 : Int32)]) (z_le_s (z_le_s (z_le_nil))) ?_
        refine j_loopX (S := Int32 × zS) (E := zS) (fun e => e) 110 (fun s9 => [.ref 1, .int s9.1]) (fun s9 => s9.2) (fun b9 => [.null, .null]) (fun b9 => b9) (fun b9 => ?_) (fun R9 hR9 hX9 s9 => ?_) ((0 : Int32), b3)
        · show z_J _ _ _ _ _ _ _ _ _ _ _ _
          exact j_vret q20_110 rfl
        · show z_J _ _ _ _ _ _ _ _ _ _ _ _
          refine j_iload_n (pc' := 45) q20_44 rfl rfl ?_
          refine j_aload_n (pc' := 46) q20_45 rfl (by decide) rfl ?_
          refine j_callV0_pi (d := d + 4) (pc' := 49) q20_46 rfl (Nat.le_of_ble_eq_true rfl) (Nat.le_of_ble_eq_true rfl) rfl (t_G_cells_1 hρ (d + 4) _) (fun r10 => ?_)
          refine j_icmp_ge (pc' := 52) q20_49 rfl (fun c11 => ?_) (fun c11 => ?_)
          · exact j_exit (j_forget (z_le_n (z_le_n (z_le_nil))) (hX9 s9.2))
          · refine j_aload_n (pc' := 53) q20_52 rfl (by decide) rfl ?_
            refine j_getr (k := 1) (q := 7) (pc' := 56) q20_53 rfl (hρ 1 8 7 rfl) rfl ?_
            refine j_aload_n (pc' := 57) q20_56 rfl (by decide) rfl ?_
            refine j_getr (k := 1) (q := 16) (pc' := 60) q20_57 rfl (hρ 1 15 16 rfl) rfl ?_
            refine j_iload_n (pc' := 61) q20_60 rfl rfl ?_
            refine j_if (fun hi12 => ?_) (fun _ => j_none)
            refine j_iald (k := 16) (N := 16) (pc' := 62) q20_61 rfl hi12 rfl ?_
            refine j_callV1_pi (d := d + 4) (pc' := 65) q20_62 rfl (Nat.le_of_ble_eq_true rfl) (Nat.le_of_ble_eq_true rfl) rfl (t_Lw_has_7 hρ (d + 4) _ _) (fun r13 => ?_)
            refine j_join (T := zS) 104 (fun t14 => [.ref 1, .int s9.1]) (fun t14 => []) (fun t14 => t14) (fun t14 => ?_) (fun j14 hj14 => ?_)
            · show z_J _ _ _ _ _ _ _ _ _ _ _ _
              refine j_iinc1 (pc' := 107) q20_104 rfl (Nat.le_of_ble_eq_true rfl) rfl ?_
              refine j_goto q20_107 rfl ?_
              exact j_again (j_forget (z_le_s (z_le_s (z_le_nil))) (hR9 ((s9.1 + (1 : Int32)), t14)))
            · show z_J _ _ _ _ _ _ _ _ _ _ _ _
              refine j_if_eq (pc' := 68) q20_65 rfl (fun c15 => ?_) (fun c15 => ?_)
              · refine j_forget (z_le_s (z_le_s (z_le_nil))) (hj14 s9.2)
              · refine j_aload_n (pc' := 69) q20_68 rfl (by decide) rfl ?_
                refine j_getr (k := 1) (q := 2) (pc' := 72) q20_69 rfl (hρ 1 2 2 rfl) rfl ?_
                refine j_iload_n (pc' := 73) q20_72 rfl rfl ?_
                refine j_aload_n (pc' := 74) q20_73 rfl (by decide) rfl ?_
                refine j_getr (k := 1) (q := 7) (pc' := 77) q20_74 rfl (hρ 1 8 7 rfl) rfl ?_
                refine j_getr (k := 7) (q := 8) (pc' := 80) q20_77 rfl (hρ 7 0 8 rfl) rfl ?_
                refine j_aload_n (pc' := 81) q20_80 rfl (by decide) rfl ?_
                refine j_getr (k := 1) (q := 16) (pc' := 84) q20_81 rfl (hρ 1 15 16 rfl) rfl ?_
                refine j_iload_n (pc' := 85) q20_84 rfl rfl ?_
                refine j_if (fun hi16 => ?_) (fun _ => j_none)
                refine j_iald (k := 16) (N := 16) (pc' := 86) q20_85 rfl hi16 rfl ?_
                refine j_if (fun hi17 => ?_) (fun _ => j_none)
                refine j_iald (k := 8) (N := 5) (pc' := 87) q20_86 rfl hi17 rfl ?_
                refine j_if (fun hi18 => ?_) (fun _ => j_none)
                refine j_iast (k := 2) (N := 16) (pc' := 88) q20_87 rfl hi18 rfl ?_
                refine j_nameS (fun τ19 => ?_)
                refine j_aload_n (pc' := 89) q20_88 rfl (by decide) rfl ?_
                refine j_getr (k := 1) (q := 3) (pc' := 92) q20_89 rfl (hρ 1 3 3 rfl) rfl ?_
                refine j_iload_n (pc' := 93) q20_92 rfl rfl ?_
                refine j_aload_n (pc' := 94) q20_93 rfl (by decide) rfl ?_
                refine j_getr (k := 1) (q := 3) (pc' := 97) q20_94 rfl (hρ 1 3 3 rfl) rfl ?_
                refine j_iload_n (pc' := 98) q20_97 rfl rfl ?_
                refine j_if (fun hi20 => ?_) (fun _ => j_none)
                refine j_iald (k := 3) (N := 16) (pc' := 99) q20_98 rfl hi20 rfl ?_
                refine j_iconst (pc' := 100) q20_99 rfl ?_
                refine j_max (pc' := 103) q20_100 rfl (Nat.le_of_ble_eq_true rfl) rfl ?_
                refine j_if (fun hi21 => ?_) (fun _ => j_none)
                refine j_iast (k := 3) (N := 16) (pc' := 104) q20_103 rfl hi21 rfl ?_
                refine j_nameS (fun τ22 => ?_)
                refine j_forget (z_le_s (z_le_s (z_le_nil))) (hj14 τ22)
      · show z_J _ _ _ _ _ _ _ _ _ _ _ _
        refine j_iload_n (pc' := 18) q20_17 rfl rfl ?_
        refine j_aload_n (pc' := 19) q20_18 rfl (by decide) rfl ?_
        refine j_callV0_pi (d := d + 4) (pc' := 22) q20_19 rfl (Nat.le_of_ble_eq_true rfl) (Nat.le_of_ble_eq_true rfl) rfl (t_G_cells_1 hρ (d + 4) _) (fun r4 => ?_)
        refine j_icmp_ge (pc' := 25) q20_22 rfl (fun c5 => ?_) (fun c5 => ?_)
        · exact j_exit (j_forget (z_le_s (z_le_n (z_le_nil))) (hX3 s3.2))
        · refine j_aload_n (pc' := 26) q20_25 rfl (by decide) rfl ?_
          refine j_getr (k := 1) (q := 16) (pc' := 29) q20_26 rfl (hρ 1 15 16 rfl) rfl ?_
          refine j_iload_n (pc' := 30) q20_29 rfl rfl ?_
          refine j_aload_n (pc' := 31) q20_30 rfl (by decide) rfl ?_
          refine j_iload_n (pc' := 32) q20_31 rfl rfl ?_
          refine j_callV1_pi (d := d + 4) (pc' := 35) q20_32 rfl (Nat.le_of_ble_eq_true rfl) (Nat.le_of_ble_eq_true rfl) rfl (t_G_firstFitting_1 hρ (d + 0) _ _) (fun r6 => ?_)
          refine j_if (fun hi7 => ?_) (fun _ => j_none)
          refine j_iast (k := 16) (N := 16) (pc' := 36) q20_35 rfl hi7 rfl ?_
          refine j_nameS (fun τ8 => ?_)
          refine j_iinc1 (pc' := 39) q20_36 rfl (Nat.le_of_ble_eq_true rfl) rfl ?_
          refine j_goto q20_39 rfl ?_
          exact j_again (j_forget (z_le_s (z_le_s (z_le_nil))) (hR3 ((s3.1 + (1 : Int32)), τ8)))
theorem q2_0 : z_fi (z_mi 2) 0 = some (0, .iconst 3, 0, 0, 0, 3, 0) := rfl
theorem q2_1 : z_fi (z_mi 2) 1 = some (1, .iload_n 0, 0, 0, 0, 0, 0) := rfl
theorem q2_2 : z_fi (z_mi 2) 2 = some (2, .imul, 0, 0, 0, 0, 0) := rfl
theorem q2_3 : z_fi (z_mi 2) 3 = some (3, .iload_n 1, 0, 0, 0, 0, 0) := rfl
theorem q2_4 : z_fi (z_mi 2) 4 = some (4, .iadd, 0, 0, 0, 0, 0) := rfl
theorem q2_5 : z_fi (z_mi 2) 5 = some (5, .istore_n 2, 0, 0, 0, 0, 0) := rfl
theorem q2_6 : z_fi (z_mi 2) 6 = some (6, .iload_n 1, 0, 0, 0, 0, 0) := rfl
theorem q2_7 : z_fi (z_mi 2) 7 = some (7, .iconst 0, 0, 0, 0, 0, 0) := rfl
theorem q2_8 : z_fi (z_mi 2) 8 = some (8, .iconst 2, 0, 0, 0, 2, 0) := rfl
theorem q2_9 : z_fi (z_mi 2) 9 = some (9, .invokestatic 9, 4, 99, 3, 0, 0) := rfl
theorem q2_12 : z_fi (z_mi 2) 12 = some (12, .ifCond .eq 25, 0, 37, 0, 0, 0) := rfl
theorem q2_15 : z_fi (z_mi 2) 15 = some (15, .iload_n 2, 0, 0, 0, 0, 0) := rfl
theorem q2_16 : z_fi (z_mi 2) 16 = some (16, .iconst 0, 0, 0, 0, 0, 0) := rfl
theorem q2_17 : z_fi (z_mi 2) 17 = some (17, .getstatic 15, 0, 0, 0, 0, 0) := rfl
theorem q2_20 : z_fi (z_mi 2) 20 = some (20, .arraylength, 0, 0, 0, 0, 0) := rfl
theorem q2_21 : z_fi (z_mi 2) 21 = some (21, .iconst 1, 0, 0, 0, 1, 0) := rfl
theorem q2_22 : z_fi (z_mi 2) 22 = some (22, .isub, 0, 0, 0, 0, 0) := rfl
theorem q2_23 : z_fi (z_mi 2) 23 = some (23, .invokestatic 9, 4, 99, 3, 0, 0) := rfl
theorem q2_26 : z_fi (z_mi 2) 26 = some (26, .ifCond .eq 11, 0, 37, 0, 0, 0) := rfl
theorem q2_29 : z_fi (z_mi 2) 29 = some (29, .getstatic 15, 0, 0, 0, 0, 0) := rfl
theorem q2_32 : z_fi (z_mi 2) 32 = some (32, .iload_n 2, 0, 0, 0, 0, 0) := rfl
theorem q2_33 : z_fi (z_mi 2) 33 = some (33, .iaload, 0, 0, 0, 0, 0) := rfl
theorem q2_34 : z_fi (z_mi 2) 34 = some (34, .goto 4, 0, 38, 0, 0, 0) := rfl
theorem q2_37 : z_fi (z_mi 2) 37 = some (37, .iconst (-1), 0, 0, 0, (-1), 0) := rfl
theorem q2_38 : z_fi (z_mi 2) 38 = some (38, .ireturn, 0, 0, 0, 0, 0) := rfl
set_option maxRecDepth 20000 in
set_option maxHeartbeats 4000000 in
theorem t_Cr_wanted {xL : Nat} {xs : Nat → Int32} {ρ : Nat → Nat → Option Nat} (hρ : z_hR ρ) (d : Nat) (a0 : Int32) (a1 : Int32) (σ : zS) : ∀ q, f_Cr_wanted a0 a1 σ = some q → z_ec xL xs ρ (d + 1) 2 [.int a0, .int a1] σ (em_pi σ q) := by
  refine j_of (W := [.int a0, .int a1, .null]) (fun L hL => ?_) ?_
  · subst hL; exact z_vl_0 _ 1 rfl
  · unfold f_Cr_wanted
    refine j_iconst (pc' := 1) q2_0 rfl ?_
    refine j_iload_n (pc' := 2) q2_1 rfl rfl ?_
    refine j_imul (pc' := 3) q2_2 rfl ?_
    refine j_iload_n (pc' := 4) q2_3 rfl rfl ?_
    refine j_iadd (pc' := 5) q2_4 rfl ?_
    refine j_istore2 (pc' := 6) q2_5 rfl (Nat.le_of_ble_eq_true rfl) rfl ?_
    refine j_iload_n (pc' := 7) q2_6 rfl rfl ?_
    refine j_iconst (pc' := 8) q2_7 rfl ?_
    refine j_iconst (pc' := 9) q2_8 rfl ?_
    refine j_callS3_pi (d := d + 0) (pc' := 12) q2_9 (Or.inr rfl) (Nat.le_of_ble_eq_true rfl) (Nat.le_of_ble_eq_true rfl) rfl (t_Y_isIn hρ (d + 0) _ _ _ _) (fun r1 => ?_)
    refine j_if_eq (pc' := 15) q2_12 rfl (fun c2 => ?_) (fun c2 => ?_)
    · refine j_iconst (pc' := 38) q2_37 rfl ?_
      exact j_piret q2_38 rfl
    · refine j_iload_n (pc' := 16) q2_15 rfl rfl ?_
      refine j_iconst (pc' := 17) q2_16 rfl ?_
      refine j_gstA (pc' := 20) q2_17 rfl rfl ?_
      refine j_tlen (k := 1000) (N := 15) (pc' := 21) q2_20 ⟨Nat.le_of_ble_eq_true rfl, Nat.le_of_ble_eq_true rfl, rfl⟩ rfl ?_
      refine j_iconst (pc' := 22) q2_21 rfl ?_
      refine j_isub (pc' := 23) q2_22 rfl ?_
      refine j_callS3_pi (d := d + 0) (pc' := 26) q2_23 (Or.inr rfl) (Nat.le_of_ble_eq_true rfl) (Nat.le_of_ble_eq_true rfl) rfl (t_Y_isIn hρ (d + 0) _ _ _ _) (fun r3 => ?_)
      refine j_if_eq (pc' := 29) q2_26 rfl (fun c4 => ?_) (fun c4 => ?_)
      · refine j_iconst (pc' := 38) q2_37 rfl ?_
        exact j_piret q2_38 rfl
      · refine j_gstA (pc' := 32) q2_29 rfl rfl ?_
        refine j_iload_n (pc' := 33) q2_32 rfl rfl ?_
        refine j_if (fun hi5 => ?_) (fun _ => j_none)
        refine j_tald (k := 1000) (N := 15) (pc' := 34) q2_33 ⟨Nat.le_of_ble_eq_true rfl, Nat.le_of_ble_eq_true rfl, rfl⟩ hi5 rfl ?_
        refine j_goto q2_34 rfl ?_
        exact j_piret q2_38 rfl
theorem q3_0 : z_fi (z_mi 3) 0 = some (0, .iload_n 2, 0, 0, 0, 0, 0) := rfl
theorem q3_1 : z_fi (z_mi 3) 1 = some (1, .iload_n 0, 0, 0, 0, 0, 0) := rfl
theorem q3_2 : z_fi (z_mi 3) 2 = some (2, .iload_n 1, 0, 0, 0, 0, 0) := rfl
theorem q3_3 : z_fi (z_mi 3) 3 = some (3, .invokestatic 19, 1, 2, 2, 0, 0) := rfl
theorem q3_6 : z_fi (z_mi 3) 6 = some (6, .if_icmp .ne 22, 0, 28, 0, 0, 0) := rfl
theorem q3_9 : z_fi (z_mi 3) 9 = some (9, .iload_n 0, 0, 0, 0, 0, 0) := rfl
theorem q3_10 : z_fi (z_mi 3) 10 = some (10, .iload_n 1, 0, 0, 0, 0, 0) := rfl
theorem q3_11 : z_fi (z_mi 3) 11 = some (11, .iconst 1, 0, 0, 0, 1, 0) := rfl
theorem q3_12 : z_fi (z_mi 3) 12 = some (12, .iadd, 0, 0, 0, 0, 0) := rfl
theorem q3_13 : z_fi (z_mi 3) 13 = some (13, .invokestatic 19, 1, 2, 2, 0, 0) := rfl
theorem q3_16 : z_fi (z_mi 3) 16 = some (16, .iconst (-1), 0, 0, 0, (-1), 0) := rfl
theorem q3_17 : z_fi (z_mi 3) 17 = some (17, .if_icmp .ne 7, 0, 24, 0, 0, 0) := rfl
theorem q3_20 : z_fi (z_mi 3) 20 = some (20, .iconst 3, 0, 0, 0, 3, 0) := rfl
theorem q3_21 : z_fi (z_mi 3) 21 = some (21, .goto 6, 0, 27, 0, 0, 0) := rfl
theorem q3_24 : z_fi (z_mi 3) 24 = some (24, .iload_n 1, 0, 0, 0, 0, 0) := rfl
theorem q3_25 : z_fi (z_mi 3) 25 = some (25, .iconst 1, 0, 0, 0, 1, 0) := rfl
theorem q3_26 : z_fi (z_mi 3) 26 = some (26, .iadd, 0, 0, 0, 0, 0) := rfl
theorem q3_27 : z_fi (z_mi 3) 27 = some (27, .ireturn, 0, 0, 0, 0, 0) := rfl
theorem q3_28 : z_fi (z_mi 3) 28 = some (28, .iload_n 1, 0, 0, 0, 0, 0) := rfl
theorem q3_29 : z_fi (z_mi 3) 29 = some (29, .ifCond .eq 14, 0, 43, 0, 0, 0) := rfl
theorem q3_32 : z_fi (z_mi 3) 32 = some (32, .iload_n 2, 0, 0, 0, 0, 0) := rfl
theorem q3_33 : z_fi (z_mi 3) 33 = some (33, .iload_n 0, 0, 0, 0, 0, 0) := rfl
theorem q3_34 : z_fi (z_mi 3) 34 = some (34, .iload_n 1, 0, 0, 0, 0, 0) := rfl
theorem q3_35 : z_fi (z_mi 3) 35 = some (35, .iconst 1, 0, 0, 0, 1, 0) := rfl
theorem q3_36 : z_fi (z_mi 3) 36 = some (36, .isub, 0, 0, 0, 0, 0) := rfl
theorem q3_37 : z_fi (z_mi 3) 37 = some (37, .invokestatic 19, 1, 2, 2, 0, 0) := rfl
theorem q3_40 : z_fi (z_mi 3) 40 = some (40, .if_icmp .ne 7, 0, 47, 0, 0, 0) := rfl
theorem q3_43 : z_fi (z_mi 3) 43 = some (43, .iload_n 1, 0, 0, 0, 0, 0) := rfl
theorem q3_44 : z_fi (z_mi 3) 44 = some (44, .goto 4, 0, 48, 0, 0, 0) := rfl
theorem q3_47 : z_fi (z_mi 3) 47 = some (47, .iconst 4, 0, 0, 0, 4, 0) := rfl
theorem q3_48 : z_fi (z_mi 3) 48 = some (48, .ireturn, 0, 0, 0, 0, 0) := rfl
set_option maxRecDepth 20000 in
set_option maxHeartbeats 4000000 in
theorem t_Cr_behind {xL : Nat} {xs : Nat → Int32} {ρ : Nat → Nat → Option Nat} (hρ : z_hR ρ) (d : Nat) (a0 : Int32) (a1 : Int32) (a2 : Int32) (σ : zS) : ∀ q, f_Cr_behind a0 a1 a2 σ = some q → z_ec xL xs ρ (d + 2) 3 [.int a0, .int a1, .int a2] σ (em_pi σ q) := by
  refine j_of (W := [.int a0, .int a1, .int a2]) (fun L hL => ?_) ?_
  · subst hL; exact z_vl_0 _ 0 rfl
  · unfold f_Cr_behind
    refine j_iload_n (pc' := 1) q3_0 rfl rfl ?_
    refine j_iload_n (pc' := 2) q3_1 rfl rfl ?_
    refine j_iload_n (pc' := 3) q3_2 rfl rfl ?_
    refine j_callS2_pi (d := d + 1) (pc' := 6) q3_3 (Or.inl rfl) (Nat.le_of_ble_eq_true rfl) (Nat.le_of_ble_eq_true rfl) rfl (t_Cr_wanted hρ (d + 0) _ _ _) (fun r1 => ?_)
    refine j_icmp_ne (pc' := 9) q3_6 rfl (fun c2 => ?_) (fun c2 => ?_)
    · refine j_iload_n (pc' := 10) q3_9 rfl rfl ?_
      refine j_iload_n (pc' := 11) q3_10 rfl rfl ?_
      refine j_iconst (pc' := 12) q3_11 rfl ?_
      refine j_iadd (pc' := 13) q3_12 rfl ?_
      refine j_callS2_pi (d := d + 1) (pc' := 16) q3_13 (Or.inl rfl) (Nat.le_of_ble_eq_true rfl) (Nat.le_of_ble_eq_true rfl) rfl (t_Cr_wanted hρ (d + 0) _ _ _) (fun r3 => ?_)
      refine j_iconst (pc' := 17) q3_16 rfl ?_
      refine j_icmp_ne (pc' := 20) q3_17 rfl (fun c4 => ?_) (fun c4 => ?_)
      · refine j_iconst (pc' := 21) q3_20 rfl ?_
        refine j_goto q3_21 rfl ?_
        exact j_piret q3_27 rfl
      · refine j_iload_n (pc' := 25) q3_24 rfl rfl ?_
        refine j_iconst (pc' := 26) q3_25 rfl ?_
        refine j_iadd (pc' := 27) q3_26 rfl ?_
        exact j_piret q3_27 rfl
    · refine j_iload_n (pc' := 29) q3_28 rfl rfl ?_
      refine j_join (T := Unit) 43 (fun t5 => [.null, .int a1, .null]) (fun t5 => []) (fun t5 => σ) (fun t5 => ?_) (fun j5 hj5 => ?_)
      · show z_J _ _ _ _ _ _ _ _ _ _ _ _
        refine j_iload_n (pc' := 44) q3_43 rfl rfl ?_
        refine j_goto q3_44 rfl ?_
        exact j_piret q3_48 rfl
      · show z_J _ _ _ _ _ _ _ _ _ _ _ _
        refine j_if_eq (pc' := 32) q3_29 rfl (fun c6 => ?_) (fun c6 => ?_)
        · refine j_forget (z_le_n (z_le_s (z_le_n (z_le_nil)))) (hj5 ())
        · refine j_iload_n (pc' := 33) q3_32 rfl rfl ?_
          refine j_iload_n (pc' := 34) q3_33 rfl rfl ?_
          refine j_iload_n (pc' := 35) q3_34 rfl rfl ?_
          refine j_iconst (pc' := 36) q3_35 rfl ?_
          refine j_isub (pc' := 37) q3_36 rfl ?_
          refine j_callS2_pi (d := d + 1) (pc' := 40) q3_37 (Or.inl rfl) (Nat.le_of_ble_eq_true rfl) (Nat.le_of_ble_eq_true rfl) rfl (t_Cr_wanted hρ (d + 0) _ _ _) (fun r7 => ?_)
          refine j_icmp_ne (pc' := 43) q3_40 rfl (fun c8 => ?_) (fun c8 => ?_)
          · refine j_forget (z_le_n (z_le_s (z_le_n (z_le_nil)))) (hj5 ())
          · refine j_iconst (pc' := 48) q3_47 rfl ?_
            exact j_piret q3_48 rfl
theorem q27_0 : z_fi (z_mi 27) 0 = some (0, .aload_n 0, 0, 0, 0, 0, 0) := rfl
theorem q27_1 : z_fi (z_mi 27) 1 = some (1, .getfield 18, 0, 0, 4, 0, 0) := rfl
theorem q27_4 : z_fi (z_mi 27) 4 = some (4, .iload_n 1, 0, 0, 0, 0, 0) := rfl
theorem q27_5 : z_fi (z_mi 27) 5 = some (5, .iaload, 0, 0, 0, 0, 0) := rfl
theorem q27_6 : z_fi (z_mi 27) 6 = some (6, .aload_n 0, 0, 0, 0, 0, 0) := rfl
theorem q27_7 : z_fi (z_mi 27) 7 = some (7, .getfield 21, 0, 0, 5, 0, 0) := rfl
theorem q27_10 : z_fi (z_mi 27) 10 = some (10, .iload_n 1, 0, 0, 0, 0, 0) := rfl
theorem q27_11 : z_fi (z_mi 27) 11 = some (11, .iaload, 0, 0, 0, 0, 0) := rfl
theorem q27_12 : z_fi (z_mi 27) 12 = some (12, .aload_n 0, 0, 0, 0, 0, 0) := rfl
theorem q27_13 : z_fi (z_mi 27) 13 = some (13, .getfield 9, 0, 0, 2, 0, 0) := rfl
theorem q27_16 : z_fi (z_mi 27) 16 = some (16, .iload_n 1, 0, 0, 0, 0, 0) := rfl
theorem q27_17 : z_fi (z_mi 27) 17 = some (17, .iaload, 0, 0, 0, 0, 0) := rfl
theorem q27_18 : z_fi (z_mi 27) 18 = some (18, .invokestatic 180, 1, 3, 3, 0, 0) := rfl
theorem q27_21 : z_fi (z_mi 27) 21 = some (21, .istore_n 2, 0, 0, 0, 0, 0) := rfl
theorem q27_22 : z_fi (z_mi 27) 22 = some (22, .iload_n 2, 0, 0, 0, 0, 0) := rfl
theorem q27_23 : z_fi (z_mi 27) 23 = some (23, .iconst 3, 0, 0, 0, 3, 0) := rfl
theorem q27_24 : z_fi (z_mi 27) 24 = some (24, .if_icmp .ne 54, 0, 78, 0, 0, 0) := rfl
theorem q27_27 : z_fi (z_mi 27) 27 = some (27, .aload_n 0, 0, 0, 0, 0, 0) := rfl
theorem q27_28 : z_fi (z_mi 27) 28 = some (28, .getfield 24, 0, 0, 6, 0, 0) := rfl
theorem q27_31 : z_fi (z_mi 27) 31 = some (31, .iload_n 1, 0, 0, 0, 0, 0) := rfl
theorem q27_32 : z_fi (z_mi 27) 32 = some (32, .iaload, 0, 0, 0, 0, 0) := rfl
theorem q27_33 : z_fi (z_mi 27) 33 = some (33, .iconst 0, 0, 0, 0, 0, 0) := rfl
theorem q27_34 : z_fi (z_mi 27) 34 = some (34, .iconst 2, 0, 0, 0, 2, 0) := rfl
theorem q27_35 : z_fi (z_mi 27) 35 = some (35, .invokestatic 106, 4, 99, 3, 0, 0) := rfl
theorem q27_38 : z_fi (z_mi 27) 38 = some (38, .ifCond .eq 18, 0, 56, 0, 0, 0) := rfl
theorem q27_41 : z_fi (z_mi 27) 41 = some (41, .aload_n 0, 0, 0, 0, 0, 0) := rfl
theorem q27_42 : z_fi (z_mi 27) 42 = some (42, .getfield 41, 0, 0, 11, 0, 0) := rfl
theorem q27_45 : z_fi (z_mi 27) 45 = some (45, .aload_n 0, 0, 0, 0, 0, 0) := rfl
theorem q27_46 : z_fi (z_mi 27) 46 = some (46, .getfield 24, 0, 0, 6, 0, 0) := rfl
theorem q27_49 : z_fi (z_mi 27) 49 = some (49, .iload_n 1, 0, 0, 0, 0, 0) := rfl
theorem q27_50 : z_fi (z_mi 27) 50 = some (50, .iaload, 0, 0, 0, 0, 0) := rfl
theorem q27_51 : z_fi (z_mi 27) 51 = some (51, .dup2, 0, 0, 0, 0, 0) := rfl
theorem q27_52 : z_fi (z_mi 27) 52 = some (52, .iaload, 0, 0, 0, 0, 0) := rfl
theorem q27_53 : z_fi (z_mi 27) 53 = some (53, .iconst 1, 0, 0, 0, 1, 0) := rfl
theorem q27_54 : z_fi (z_mi 27) 54 = some (54, .iadd, 0, 0, 0, 0, 0) := rfl
theorem q27_55 : z_fi (z_mi 27) 55 = some (55, .iastore, 0, 0, 0, 0, 0) := rfl
theorem q27_56 : z_fi (z_mi 27) 56 = some (56, .aload_n 0, 0, 0, 0, 0, 0) := rfl
theorem q27_57 : z_fi (z_mi 27) 57 = some (57, .dup, 0, 0, 0, 0, 0) := rfl
theorem q27_58 : z_fi (z_mi 27) 58 = some (58, .getfield 79, 0, 0, 13, 0, 0) := rfl
theorem q27_61 : z_fi (z_mi 27) 61 = some (61, .iconst 1, 0, 0, 0, 1, 0) := rfl
theorem q27_62 : z_fi (z_mi 27) 62 = some (62, .iload_n 1, 0, 0, 0, 0, 0) := rfl
theorem q27_63 : z_fi (z_mi 27) 63 = some (63, .ishl, 0, 0, 0, 0, 0) := rfl
theorem q27_64 : z_fi (z_mi 27) 64 = some (64, .ior, 0, 0, 0, 0, 0) := rfl
theorem q27_65 : z_fi (z_mi 27) 65 = some (65, .putfield 79, 0, 0, 13, 0, 0) := rfl
theorem q27_68 : z_fi (z_mi 27) 68 = some (68, .aload_n 0, 0, 0, 0, 0, 0) := rfl
theorem q27_69 : z_fi (z_mi 27) 69 = some (69, .iload_n 1, 0, 0, 0, 0, 0) := rfl
theorem q27_70 : z_fi (z_mi 27) 70 = some (70, .bipush (-4), 0, 0, 0, (-4), 0) := rfl
theorem q27_72 : z_fi (z_mi 27) 72 = some (72, .invokevirtual 186, 0, 16, 2, 0, 0) := rfl
theorem q27_75 : z_fi (z_mi 27) 75 = some (75, .goto 35, 0, 110, 0, 0, 0) := rfl
theorem q27_78 : z_fi (z_mi 27) 78 = some (78, .iload_n 2, 0, 0, 0, 0, 0) := rfl
theorem q27_79 : z_fi (z_mi 27) 79 = some (79, .iconst 4, 0, 0, 0, 4, 0) := rfl
theorem q27_80 : z_fi (z_mi 27) 80 = some (80, .if_icmp .ne 23, 0, 103, 0, 0, 0) := rfl
theorem q27_83 : z_fi (z_mi 27) 83 = some (83, .aload_n 0, 0, 0, 0, 0, 0) := rfl
theorem q27_84 : z_fi (z_mi 27) 84 = some (84, .dup, 0, 0, 0, 0, 0) := rfl
theorem q27_85 : z_fi (z_mi 27) 85 = some (85, .getfield 76, 0, 0, 12, 0, 0) := rfl
theorem q27_88 : z_fi (z_mi 27) 88 = some (88, .iconst 1, 0, 0, 0, 1, 0) := rfl
theorem q27_89 : z_fi (z_mi 27) 89 = some (89, .iadd, 0, 0, 0, 0, 0) := rfl
theorem q27_90 : z_fi (z_mi 27) 90 = some (90, .putfield 76, 0, 0, 12, 0, 0) := rfl
theorem q27_93 : z_fi (z_mi 27) 93 = some (93, .aload_n 0, 0, 0, 0, 0, 0) := rfl
theorem q27_94 : z_fi (z_mi 27) 94 = some (94, .iload_n 1, 0, 0, 0, 0, 0) := rfl
theorem q27_95 : z_fi (z_mi 27) 95 = some (95, .bipush (-4), 0, 0, 0, (-4), 0) := rfl
set_option maxRecDepth 8000 in
theorem q27_97 : z_fi (z_mi 27) 97 = some (97, .invokevirtual 186, 0, 16, 2, 0, 0) := rfl
set_option maxRecDepth 8000 in
theorem q27_100 : z_fi (z_mi 27) 100 = some (100, .goto 10, 0, 110, 0, 0, 0) := rfl
set_option maxRecDepth 8000 in
theorem q27_103 : z_fi (z_mi 27) 103 = some (103, .aload_n 0, 0, 0, 0, 0, 0) := rfl
set_option maxRecDepth 8000 in
theorem q27_104 : z_fi (z_mi 27) 104 = some (104, .getfield 21, 0, 0, 5, 0, 0) := rfl
set_option maxRecDepth 8000 in
theorem q27_107 : z_fi (z_mi 27) 107 = some (107, .iload_n 1, 0, 0, 0, 0, 0) := rfl
set_option maxRecDepth 8000 in
theorem q27_108 : z_fi (z_mi 27) 108 = some (108, .iload_n 2, 0, 0, 0, 0, 0) := rfl
set_option maxRecDepth 8000 in
theorem q27_109 : z_fi (z_mi 27) 109 = some (109, .iastore, 0, 0, 0, 0, 0) := rfl
set_option maxRecDepth 8000 in
theorem q27_110 : z_fi (z_mi 27) 110 = some (110, .return_, 0, 0, 0, 0, 0) := rfl
set_option maxRecDepth 20000 in
set_option maxHeartbeats 4000000 in
theorem t_G_growCrop_1 {xL : Nat} {xs : Nat → Int32} {ρ : Nat → Nat → Option Nat} (hρ : z_hR ρ) (d : Nat) (a1 : Int32) (σ : zS) : ∀ q, f_G_growCrop_1 a1 σ = some q → z_ec xL xs ρ (d + 3) 27 [.ref 1, .int a1] σ (em_v q) := by
  refine j_of (W := [.ref 1, .int a1, .null]) (fun L hL => ?_) ?_
  · subst hL; exact z_vl_0 _ 1 rfl
  · unfold f_G_growCrop_1
    refine j_aload_n (pc' := 1) q27_0 rfl (by decide) rfl ?_
    refine j_getr (k := 1) (q := 4) (pc' := 4) q27_1 rfl (hρ 1 4 4 rfl) rfl ?_
    refine j_iload_n (pc' := 5) q27_4 rfl rfl ?_
    refine j_if (fun hi1 => ?_) (fun _ => j_none)
    refine j_iald (k := 4) (N := 16) (pc' := 6) q27_5 rfl hi1 rfl ?_
    refine j_aload_n (pc' := 7) q27_6 rfl (by decide) rfl ?_
    refine j_getr (k := 1) (q := 5) (pc' := 10) q27_7 rfl (hρ 1 5 5 rfl) rfl ?_
    refine j_iload_n (pc' := 11) q27_10 rfl rfl ?_
    refine j_if (fun hi2 => ?_) (fun _ => j_none)
    refine j_iald (k := 5) (N := 16) (pc' := 12) q27_11 rfl hi2 rfl ?_
    refine j_aload_n (pc' := 13) q27_12 rfl (by decide) rfl ?_
    refine j_getr (k := 1) (q := 2) (pc' := 16) q27_13 rfl (hρ 1 2 2 rfl) rfl ?_
    refine j_iload_n (pc' := 17) q27_16 rfl rfl ?_
    refine j_if (fun hi3 => ?_) (fun _ => j_none)
    refine j_iald (k := 2) (N := 16) (pc' := 18) q27_17 rfl hi3 rfl ?_
    refine j_callS3_pi (d := d + 2) (pc' := 21) q27_18 (Or.inl rfl) (Nat.le_of_ble_eq_true rfl) (Nat.le_of_ble_eq_true rfl) rfl (t_Cr_behind hρ (d + 0) _ _ _ _) (fun r4 => ?_)
    refine j_istore2 (pc' := 22) q27_21 rfl (Nat.le_of_ble_eq_true rfl) rfl ?_
    refine j_iload_n (pc' := 23) q27_22 rfl rfl ?_
    refine j_iconst (pc' := 24) q27_23 rfl ?_
    refine j_icmp_ne (pc' := 27) q27_24 rfl (fun c5 => ?_) (fun c5 => ?_)
    · refine j_aload_n (pc' := 28) q27_27 rfl (by decide) rfl ?_
      refine j_getr (k := 1) (q := 6) (pc' := 31) q27_28 rfl (hρ 1 6 6 rfl) rfl ?_
      refine j_iload_n (pc' := 32) q27_31 rfl rfl ?_
      refine j_if (fun hi6 => ?_) (fun _ => j_none)
      refine j_iald (k := 6) (N := 16) (pc' := 33) q27_32 rfl hi6 rfl ?_
      refine j_iconst (pc' := 34) q27_33 rfl ?_
      refine j_iconst (pc' := 35) q27_34 rfl ?_
      refine j_callS3_pi (d := d + 2) (pc' := 38) q27_35 (Or.inr rfl) (Nat.le_of_ble_eq_true rfl) (Nat.le_of_ble_eq_true rfl) rfl (t_Y_isIn hρ (d + 2) _ _ _ _) (fun r7 => ?_)
      refine j_join (T := zS) 56 (fun t8 => [.ref 1, .int a1, .null]) (fun t8 => []) (fun t8 => t8) (fun t8 => ?_) (fun j8 hj8 => ?_)
      · show z_J _ _ _ _ _ _ _ _ _ _ _ _
        refine j_aload_n (pc' := 57) q27_56 rfl (by decide) rfl ?_
        refine j_dup (pc' := 58) q27_57 rfl rfl ?_
        refine j_getf (k := 1) (pc' := 61) q27_58 rfl rfl ?_
        refine j_iconst (pc' := 62) q27_61 rfl ?_
        refine j_iload_n (pc' := 63) q27_62 rfl rfl ?_
        refine j_ishl (pc' := 64) q27_63 rfl ?_
        refine j_ior (pc' := 65) q27_64 rfl ?_
        refine j_putf (k := 1) (pc' := 68) q27_65 rfl rfl ?_
        refine j_nameS (fun τ9 => ?_)
        refine j_aload_n (pc' := 69) q27_68 rfl (by decide) rfl ?_
        refine j_iload_n (pc' := 70) q27_69 rfl rfl ?_
        refine j_bipush (pc' := 72) q27_70 rfl ?_
        refine j_callV2_v (d := d + 2) (pc' := 75) q27_72 rfl (Nat.le_of_ble_eq_true rfl) (Nat.le_of_ble_eq_true rfl) rfl (t_G_setCrop_1 hρ (d + 1) _ _ _) (fun r10 => ?_)
        refine j_goto q27_75 rfl ?_
        exact j_vret q27_110 rfl
      · show z_J _ _ _ _ _ _ _ _ _ _ _ _
        refine j_if_eq (pc' := 41) q27_38 rfl (fun c11 => ?_) (fun c11 => ?_)
        · refine j_forget (z_le_s (z_le_s (z_le_n (z_le_nil)))) (hj8 σ)
        · refine j_aload_n (pc' := 42) q27_41 rfl (by decide) rfl ?_
          refine j_getr (k := 1) (q := 14) (pc' := 45) q27_42 rfl (hρ 1 11 14 rfl) rfl ?_
          refine j_aload_n (pc' := 46) q27_45 rfl (by decide) rfl ?_
          refine j_getr (k := 1) (q := 6) (pc' := 49) q27_46 rfl (hρ 1 6 6 rfl) rfl ?_
          refine j_iload_n (pc' := 50) q27_49 rfl rfl ?_
          refine j_if (fun hi12 => ?_) (fun _ => j_none)
          refine j_iald (k := 6) (N := 16) (pc' := 51) q27_50 rfl hi12 rfl ?_
          refine j_dup2 (pc' := 52) q27_51 ⟨rfl, rfl⟩ rfl ?_
          refine j_if (fun hi13 => ?_) (fun _ => j_none)
          refine j_iald (k := 14) (N := 3) (pc' := 53) q27_52 rfl hi13 rfl ?_
          refine j_iconst (pc' := 54) q27_53 rfl ?_
          refine j_iadd (pc' := 55) q27_54 rfl ?_
          refine j_if (fun hi14 => ?_) (fun _ => j_none)
          refine j_iast (k := 14) (N := 3) (pc' := 56) q27_55 rfl hi14 rfl ?_
          refine j_nameS (fun τ15 => ?_)
          refine j_forget (z_le_s (z_le_s (z_le_n (z_le_nil)))) (hj8 τ15)
    · refine j_iload_n (pc' := 79) q27_78 rfl rfl ?_
      refine j_iconst (pc' := 80) q27_79 rfl ?_
      refine j_icmp_ne (pc' := 83) q27_80 rfl (fun c16 => ?_) (fun c16 => ?_)
      · refine j_aload_n (pc' := 84) q27_83 rfl (by decide) rfl ?_
        refine j_dup (pc' := 85) q27_84 rfl rfl ?_
        refine j_getf (k := 1) (pc' := 88) q27_85 rfl rfl ?_
        refine j_iconst (pc' := 89) q27_88 rfl ?_
        refine j_iadd (pc' := 90) q27_89 rfl ?_
        refine j_putf (k := 1) (pc' := 93) q27_90 rfl rfl ?_
        refine j_nameS (fun τ17 => ?_)
        refine j_aload_n (pc' := 94) q27_93 rfl (by decide) rfl ?_
        refine j_iload_n (pc' := 95) q27_94 rfl rfl ?_
        refine j_bipush (pc' := 97) q27_95 rfl ?_
        refine j_callV2_v (d := d + 2) (pc' := 100) q27_97 rfl (Nat.le_of_ble_eq_true rfl) (Nat.le_of_ble_eq_true rfl) rfl (t_G_setCrop_1 hρ (d + 1) _ _ _) (fun r18 => ?_)
        refine j_goto q27_100 rfl ?_
        exact j_vret q27_110 rfl
      · refine j_aload_n (pc' := 104) q27_103 rfl (by decide) rfl ?_
        refine j_getr (k := 1) (q := 5) (pc' := 107) q27_104 rfl (hρ 1 5 5 rfl) rfl ?_
        refine j_iload_n (pc' := 108) q27_107 rfl rfl ?_
        refine j_iload_n (pc' := 109) q27_108 rfl rfl ?_
        refine j_if (fun hi19 => ?_) (fun _ => j_none)
        refine j_iast (k := 5) (N := 16) (pc' := 110) q27_109 rfl hi19 rfl ?_
        refine j_nameS (fun τ20 => ?_)
        exact j_vret q27_110 rfl
theorem q26_0 : z_fi (z_mi 26) 0 = some (0, .aload_n 0, 0, 0, 0, 0, 0) := rfl
theorem q26_1 : z_fi (z_mi 26) 1 = some (1, .iconst 0, 0, 0, 0, 0, 0) := rfl
theorem q26_2 : z_fi (z_mi 26) 2 = some (2, .putfield 79, 0, 0, 13, 0, 0) := rfl
theorem q26_5 : z_fi (z_mi 26) 5 = some (5, .iconst 0, 0, 0, 0, 0, 0) := rfl
theorem q26_6 : z_fi (z_mi 26) 6 = some (6, .istore_n 1, 0, 0, 0, 0, 0) := rfl
theorem q26_7 : z_fi (z_mi 26) 7 = some (7, .iload_n 1, 0, 0, 0, 0, 0) := rfl
theorem q26_8 : z_fi (z_mi 26) 8 = some (8, .aload_n 0, 0, 0, 0, 0, 0) := rfl
theorem q26_9 : z_fi (z_mi 26) 9 = some (9, .invokevirtual 95, 0, 7, 0, 0, 0) := rfl
theorem q26_12 : z_fi (z_mi 26) 12 = some (12, .if_icmp .ge 25, 0, 37, 0, 0, 0) := rfl
theorem q26_15 : z_fi (z_mi 26) 15 = some (15, .aload_n 0, 0, 0, 0, 0, 0) := rfl
theorem q26_16 : z_fi (z_mi 26) 16 = some (16, .getfield 18, 0, 0, 4, 0, 0) := rfl
theorem q26_19 : z_fi (z_mi 26) 19 = some (19, .iload_n 1, 0, 0, 0, 0, 0) := rfl
theorem q26_20 : z_fi (z_mi 26) 20 = some (20, .iaload, 0, 0, 0, 0, 0) := rfl
theorem q26_21 : z_fi (z_mi 26) 21 = some (21, .bipush (-4), 0, 0, 0, (-4), 0) := rfl
theorem q26_23 : z_fi (z_mi 26) 23 = some (23, .if_icmp .eq 8, 0, 31, 0, 0, 0) := rfl
theorem q26_26 : z_fi (z_mi 26) 26 = some (26, .aload_n 0, 0, 0, 0, 0, 0) := rfl
theorem q26_27 : z_fi (z_mi 26) 27 = some (27, .iload_n 1, 0, 0, 0, 0, 0) := rfl
theorem q26_28 : z_fi (z_mi 26) 28 = some (28, .invokevirtual 176, 0, 27, 1, 0, 0) := rfl
theorem q26_31 : z_fi (z_mi 26) 31 = some (31, .iinc 1 1, 0, 0, 0, 1, 0) := rfl
theorem q26_34 : z_fi (z_mi 26) 34 = some (34, .goto (-27), 0, 7, 0, 0, 0) := rfl
theorem q26_37 : z_fi (z_mi 26) 37 = some (37, .return_, 0, 0, 0, 0, 0) := rfl
set_option maxRecDepth 20000 in
set_option maxHeartbeats 4000000 in
theorem t_G_growCrops_1 {xL : Nat} {xs : Nat → Int32} {ρ : Nat → Nat → Option Nat} (hρ : z_hR ρ) (d : Nat)  (σ : zS) : ∀ q, f_G_growCrops_1  σ = some q → z_ec xL xs ρ (d + 4) 26 [.ref 1] σ (em_v q) := by
  refine j_of (W := [.ref 1, .null]) (fun L hL => ?_) ?_
  · subst hL; exact z_vl_0 _ 1 rfl
  · unfold f_G_growCrops_1
    refine j_aload_n (pc' := 1) q26_0 rfl (by decide) rfl ?_
    refine j_iconst (pc' := 2) q26_1 rfl ?_
    refine j_putf (k := 1) (pc' := 5) q26_2 rfl rfl ?_
    refine j_nameS (fun τ1 => ?_)
    refine j_iconst (pc' := 6) q26_5 rfl ?_
    refine j_istore1 (pc' := 7) q26_6 rfl (Nat.le_of_ble_eq_true rfl) rfl ?_
    refine j_forget (V' := [.ref 1, .int (0 : Int32)]) (z_le_s (z_le_s (z_le_nil))) ?_
    refine j_loopX (S := Int32 × zS) (E := zS) (fun e => e) 37 (fun s2 => [.ref 1, .int s2.1]) (fun s2 => s2.2) (fun b2 => [.null, .null]) (fun b2 => b2) (fun b2 => ?_) (fun R2 hR2 hX2 s2 => ?_) ((0 : Int32), τ1)
    · show z_J _ _ _ _ _ _ _ _ _ _ _ _
      exact j_vret q26_37 rfl
    · show z_J _ _ _ _ _ _ _ _ _ _ _ _
      refine j_iload_n (pc' := 8) q26_7 rfl rfl ?_
      refine j_aload_n (pc' := 9) q26_8 rfl (by decide) rfl ?_
      refine j_callV0_pi (d := d + 3) (pc' := 12) q26_9 rfl (Nat.le_of_ble_eq_true rfl) (Nat.le_of_ble_eq_true rfl) rfl (t_G_cells_1 hρ (d + 3) _) (fun r3 => ?_)
      refine j_icmp_ge (pc' := 15) q26_12 rfl (fun c4 => ?_) (fun c4 => ?_)
      · exact j_exit (j_forget (z_le_n (z_le_n (z_le_nil))) (hX2 s2.2))
      · refine j_aload_n (pc' := 16) q26_15 rfl (by decide) rfl ?_
        refine j_getr (k := 1) (q := 4) (pc' := 19) q26_16 rfl (hρ 1 4 4 rfl) rfl ?_
        refine j_iload_n (pc' := 20) q26_19 rfl rfl ?_
        refine j_if (fun hi5 => ?_) (fun _ => j_none)
        refine j_iald (k := 4) (N := 16) (pc' := 21) q26_20 rfl hi5 rfl ?_
        refine j_bipush (pc' := 23) q26_21 rfl ?_
        refine j_join (T := zS) 31 (fun t6 => [.ref 1, .int s2.1]) (fun t6 => []) (fun t6 => t6) (fun t6 => ?_) (fun j6 hj6 => ?_)
        · show z_J _ _ _ _ _ _ _ _ _ _ _ _
          refine j_iinc1 (pc' := 34) q26_31 rfl (Nat.le_of_ble_eq_true rfl) rfl ?_
          refine j_goto q26_34 rfl ?_
          exact j_again (j_forget (z_le_s (z_le_s (z_le_nil))) (hR2 ((s2.1 + (1 : Int32)), t6)))
        · show z_J _ _ _ _ _ _ _ _ _ _ _ _
          refine j_icmp_eq (pc' := 26) q26_23 rfl (fun c7 => ?_) (fun c7 => ?_)
          · refine j_forget (z_le_s (z_le_s (z_le_nil))) (hj6 s2.2)
          · refine j_aload_n (pc' := 27) q26_26 rfl (by decide) rfl ?_
            refine j_iload_n (pc' := 28) q26_27 rfl rfl ?_
            refine j_callV1_v (d := d + 3) (pc' := 31) q26_28 rfl (Nat.le_of_ble_eq_true rfl) (Nat.le_of_ble_eq_true rfl) rfl (t_G_growCrop_1 hρ (d + 0) _ _) (fun r8 => ?_)
            refine j_forget (z_le_s (z_le_s (z_le_nil))) (hj6 r8)
theorem q28_0 : z_fi (z_mi 28) 0 = some (0, .iconst 0, 0, 0, 0, 0, 0) := rfl
theorem q28_1 : z_fi (z_mi 28) 1 = some (1, .istore_n 1, 0, 0, 0, 0, 0) := rfl
theorem q28_2 : z_fi (z_mi 28) 2 = some (2, .iload_n 1, 0, 0, 0, 0, 0) := rfl
theorem q28_3 : z_fi (z_mi 28) 3 = some (3, .aload_n 0, 0, 0, 0, 0, 0) := rfl
theorem q28_4 : z_fi (z_mi 28) 4 = some (4, .invokevirtual 95, 0, 7, 0, 0, 0) := rfl
theorem q28_7 : z_fi (z_mi 28) 7 = some (7, .if_icmp .ge 37, 0, 44, 0, 0, 0) := rfl
theorem q28_10 : z_fi (z_mi 28) 10 = some (10, .aload_n 0, 0, 0, 0, 0, 0) := rfl
theorem q28_11 : z_fi (z_mi 28) 11 = some (11, .getfield 15, 0, 0, 3, 0, 0) := rfl
theorem q28_14 : z_fi (z_mi 28) 14 = some (14, .iload_n 1, 0, 0, 0, 0, 0) := rfl
theorem q28_15 : z_fi (z_mi 28) 15 = some (15, .iaload, 0, 0, 0, 0, 0) := rfl
theorem q28_16 : z_fi (z_mi 28) 16 = some (16, .iconst 1, 0, 0, 0, 1, 0) := rfl
theorem q28_17 : z_fi (z_mi 28) 17 = some (17, .if_icmp .le 16, 0, 33, 0, 0, 0) := rfl
theorem q28_20 : z_fi (z_mi 28) 20 = some (20, .aload_n 0, 0, 0, 0, 0, 0) := rfl
theorem q28_21 : z_fi (z_mi 28) 21 = some (21, .getfield 15, 0, 0, 3, 0, 0) := rfl
theorem q28_24 : z_fi (z_mi 28) 24 = some (24, .iload_n 1, 0, 0, 0, 0, 0) := rfl
theorem q28_25 : z_fi (z_mi 28) 25 = some (25, .dup2, 0, 0, 0, 0, 0) := rfl
theorem q28_26 : z_fi (z_mi 28) 26 = some (26, .iaload, 0, 0, 0, 0, 0) := rfl
theorem q28_27 : z_fi (z_mi 28) 27 = some (27, .iconst 1, 0, 0, 0, 1, 0) := rfl
theorem q28_28 : z_fi (z_mi 28) 28 = some (28, .isub, 0, 0, 0, 0, 0) := rfl
theorem q28_29 : z_fi (z_mi 28) 29 = some (29, .iastore, 0, 0, 0, 0, 0) := rfl
theorem q28_30 : z_fi (z_mi 28) 30 = some (30, .goto 8, 0, 38, 0, 0, 0) := rfl
theorem q28_33 : z_fi (z_mi 28) 33 = some (33, .aload_n 0, 0, 0, 0, 0, 0) := rfl
theorem q28_34 : z_fi (z_mi 28) 34 = some (34, .iload_n 1, 0, 0, 0, 0, 0) := rfl
theorem q28_35 : z_fi (z_mi 28) 35 = some (35, .invokevirtual 189, 0, 15, 1, 0, 0) := rfl
theorem q28_38 : z_fi (z_mi 28) 38 = some (38, .iinc 1 1, 0, 0, 0, 1, 0) := rfl
theorem q28_41 : z_fi (z_mi 28) 41 = some (41, .goto (-39), 0, 2, 0, 0, 0) := rfl
theorem q28_44 : z_fi (z_mi 28) 44 = some (44, .return_, 0, 0, 0, 0, 0) := rfl
set_option maxRecDepth 20000 in
set_option maxHeartbeats 4000000 in
theorem t_G_loseYards_1 {xL : Nat} {xs : Nat → Int32} {ρ : Nat → Nat → Option Nat} (hρ : z_hR ρ) (d : Nat)  (σ : zS) : ∀ q, f_G_loseYards_1  σ = some q → z_ec xL xs ρ (d + 3) 28 [.ref 1] σ (em_v q) := by
  refine j_of (W := [.ref 1, .null]) (fun L hL => ?_) ?_
  · subst hL; exact z_vl_0 _ 1 rfl
  · unfold f_G_loseYards_1
    refine j_iconst (pc' := 1) q28_0 rfl ?_
    refine j_istore1 (pc' := 2) q28_1 rfl (Nat.le_of_ble_eq_true rfl) rfl ?_
    refine j_forget (V' := [.ref 1, .int (0 : Int32)]) (z_le_s (z_le_s (z_le_nil))) ?_
    refine j_loopX (S := Int32 × zS) (E := zS) (fun e => e) 44 (fun s1 => [.ref 1, .int s1.1]) (fun s1 => s1.2) (fun b1 => [.null, .null]) (fun b1 => b1) (fun b1 => ?_) (fun R1 hR1 hX1 s1 => ?_) ((0 : Int32), σ)
    · show z_J _ _ _ _ _ _ _ _ _ _ _ _
      exact j_vret q28_44 rfl
    · show z_J _ _ _ _ _ _ _ _ _ _ _ _
      refine j_iload_n (pc' := 3) q28_2 rfl rfl ?_
      refine j_aload_n (pc' := 4) q28_3 rfl (by decide) rfl ?_
      refine j_callV0_pi (d := d + 2) (pc' := 7) q28_4 rfl (Nat.le_of_ble_eq_true rfl) (Nat.le_of_ble_eq_true rfl) rfl (t_G_cells_1 hρ (d + 2) _) (fun r2 => ?_)
      refine j_icmp_ge (pc' := 10) q28_7 rfl (fun c3 => ?_) (fun c3 => ?_)
      · exact j_exit (j_forget (z_le_n (z_le_n (z_le_nil))) (hX1 s1.2))
      · refine j_aload_n (pc' := 11) q28_10 rfl (by decide) rfl ?_
        refine j_getr (k := 1) (q := 3) (pc' := 14) q28_11 rfl (hρ 1 3 3 rfl) rfl ?_
        refine j_iload_n (pc' := 15) q28_14 rfl rfl ?_
        refine j_if (fun hi4 => ?_) (fun _ => j_none)
        refine j_iald (k := 3) (N := 16) (pc' := 16) q28_15 rfl hi4 rfl ?_
        refine j_iconst (pc' := 17) q28_16 rfl ?_
        refine j_join (T := zS) 38 (fun t5 => [.ref 1, .int s1.1]) (fun t5 => []) (fun t5 => t5) (fun t5 => ?_) (fun j5 hj5 => ?_)
        · show z_J _ _ _ _ _ _ _ _ _ _ _ _
          refine j_iinc1 (pc' := 41) q28_38 rfl (Nat.le_of_ble_eq_true rfl) rfl ?_
          refine j_goto q28_41 rfl ?_
          exact j_again (j_forget (z_le_s (z_le_s (z_le_nil))) (hR1 ((s1.1 + (1 : Int32)), t5)))
        · show z_J _ _ _ _ _ _ _ _ _ _ _ _
          refine j_icmp_le (pc' := 20) q28_17 rfl (fun c6 => ?_) (fun c6 => ?_)
          · refine j_aload_n (pc' := 34) q28_33 rfl (by decide) rfl ?_
            refine j_iload_n (pc' := 35) q28_34 rfl rfl ?_
            refine j_callV1_v (d := d + 2) (pc' := 38) q28_35 rfl (Nat.le_of_ble_eq_true rfl) (Nat.le_of_ble_eq_true rfl) rfl (t_G_setBare_1 hρ (d + 0) _ _) (fun r7 => ?_)
            refine j_forget (z_le_s (z_le_s (z_le_nil))) (hj5 r7)
          · refine j_aload_n (pc' := 21) q28_20 rfl (by decide) rfl ?_
            refine j_getr (k := 1) (q := 3) (pc' := 24) q28_21 rfl (hρ 1 3 3 rfl) rfl ?_
            refine j_iload_n (pc' := 25) q28_24 rfl rfl ?_
            refine j_dup2 (pc' := 26) q28_25 ⟨rfl, rfl⟩ rfl ?_
            refine j_if (fun hi8 => ?_) (fun _ => j_none)
            refine j_iald (k := 3) (N := 16) (pc' := 27) q28_26 rfl hi8 rfl ?_
            refine j_iconst (pc' := 28) q28_27 rfl ?_
            refine j_isub (pc' := 29) q28_28 rfl ?_
            refine j_if (fun hi9 => ?_) (fun _ => j_none)
            refine j_iast (k := 3) (N := 16) (pc' := 30) q28_29 rfl hi9 rfl ?_
            refine j_nameS (fun τ10 => ?_)
            refine j_goto q28_30 rfl ?_
            refine j_forget (z_le_s (z_le_s (z_le_nil))) (hj5 τ10)
theorem q19_0 : z_fi (z_mi 19) 0 = some (0, .iconst 0, 0, 0, 0, 0, 0) := rfl
theorem q19_1 : z_fi (z_mi 19) 1 = some (1, .istore_n 2, 0, 0, 0, 0, 0) := rfl
theorem q19_2 : z_fi (z_mi 19) 2 = some (2, .iload_n 2, 0, 0, 0, 0, 0) := rfl
theorem q19_3 : z_fi (z_mi 19) 3 = some (3, .iload_n 1, 0, 0, 0, 0, 0) := rfl
theorem q19_4 : z_fi (z_mi 19) 4 = some (4, .if_icmp .ge 31, 0, 35, 0, 0, 0) := rfl
theorem q19_7 : z_fi (z_mi 19) 7 = some (7, .aload_n 0, 0, 0, 0, 0, 0) := rfl
theorem q19_8 : z_fi (z_mi 19) 8 = some (8, .invokevirtual 128, 0, 20, 0, 0, 0) := rfl
theorem q19_11 : z_fi (z_mi 19) 11 = some (11, .aload_n 0, 0, 0, 0, 0, 0) := rfl
theorem q19_12 : z_fi (z_mi 19) 12 = some (12, .invokevirtual 131, 0, 26, 0, 0, 0) := rfl
theorem q19_15 : z_fi (z_mi 19) 15 = some (15, .aload_n 0, 0, 0, 0, 0, 0) := rfl
theorem q19_16 : z_fi (z_mi 19) 16 = some (16, .invokevirtual 134, 0, 28, 0, 0, 0) := rfl
theorem q19_19 : z_fi (z_mi 19) 19 = some (19, .aload_n 0, 0, 0, 0, 0, 0) := rfl
theorem q19_20 : z_fi (z_mi 19) 20 = some (20, .dup, 0, 0, 0, 0, 0) := rfl
theorem q19_21 : z_fi (z_mi 19) 21 = some (21, .getfield 73, 0, 0, 10, 0, 0) := rfl
theorem q19_24 : z_fi (z_mi 19) 24 = some (24, .iconst 1, 0, 0, 0, 1, 0) := rfl
theorem q19_25 : z_fi (z_mi 19) 25 = some (25, .iadd, 0, 0, 0, 0, 0) := rfl
theorem q19_26 : z_fi (z_mi 19) 26 = some (26, .putfield 73, 0, 0, 10, 0, 0) := rfl
theorem q19_29 : z_fi (z_mi 19) 29 = some (29, .iinc 2 1, 0, 0, 0, 1, 0) := rfl
theorem q19_32 : z_fi (z_mi 19) 32 = some (32, .goto (-30), 0, 2, 0, 0, 0) := rfl
theorem q19_35 : z_fi (z_mi 19) 35 = some (35, .return_, 0, 0, 0, 0, 0) := rfl
set_option maxRecDepth 20000 in
set_option maxHeartbeats 4000000 in
theorem t_G_goOn_1 {xL : Nat} {xs : Nat → Int32} {ρ : Nat → Nat → Option Nat} (hρ : z_hR ρ) (d : Nat) (a1 : Int32) (σ : zS) : ∀ q, f_G_goOn_1 a1 σ = some q → z_ec xL xs ρ (d + 6) 19 [.ref 1, .int a1] σ (em_v q) := by
  refine j_of (W := [.ref 1, .int a1, .null]) (fun L hL => ?_) ?_
  · subst hL; exact z_vl_0 _ 1 rfl
  · unfold f_G_goOn_1
    refine j_iconst (pc' := 1) q19_0 rfl ?_
    refine j_istore2 (pc' := 2) q19_1 rfl (Nat.le_of_ble_eq_true rfl) rfl ?_
    refine j_forget (V' := [.ref 1, .int a1, .int (0 : Int32)]) (z_le_s (z_le_s (z_le_s (z_le_nil)))) ?_
    refine j_loopX (S := Int32 × zS) (E := zS) (fun e => e) 35 (fun s1 => [.ref 1, .int a1, .int s1.1]) (fun s1 => s1.2) (fun b1 => [.null, .null, .null]) (fun b1 => b1) (fun b1 => ?_) (fun R1 hR1 hX1 s1 => ?_) ((0 : Int32), σ)
    · show z_J _ _ _ _ _ _ _ _ _ _ _ _
      exact j_vret q19_35 rfl
    · show z_J _ _ _ _ _ _ _ _ _ _ _ _
      refine j_iload_n (pc' := 3) q19_2 rfl rfl ?_
      refine j_iload_n (pc' := 4) q19_3 rfl rfl ?_
      refine j_icmp_ge (pc' := 7) q19_4 rfl (fun c2 => ?_) (fun c2 => ?_)
      · exact j_exit (j_forget (z_le_n (z_le_n (z_le_n (z_le_nil)))) (hX1 s1.2))
      · refine j_aload_n (pc' := 8) q19_7 rfl (by decide) rfl ?_
        refine j_callV0_v (d := d + 5) (pc' := 11) q19_8 rfl (Nat.le_of_ble_eq_true rfl) (Nat.le_of_ble_eq_true rfl) rfl (t_G_spread_1 hρ (d + 0) _) (fun r3 => ?_)
        refine j_aload_n (pc' := 12) q19_11 rfl (by decide) rfl ?_
        refine j_callV0_v (d := d + 5) (pc' := 15) q19_12 rfl (Nat.le_of_ble_eq_true rfl) (Nat.le_of_ble_eq_true rfl) rfl (t_G_growCrops_1 hρ (d + 1) _) (fun r4 => ?_)
        refine j_aload_n (pc' := 16) q19_15 rfl (by decide) rfl ?_
        refine j_callV0_v (d := d + 5) (pc' := 19) q19_16 rfl (Nat.le_of_ble_eq_true rfl) (Nat.le_of_ble_eq_true rfl) rfl (t_G_loseYards_1 hρ (d + 2) _) (fun r5 => ?_)
        refine j_aload_n (pc' := 20) q19_19 rfl (by decide) rfl ?_
        refine j_dup (pc' := 21) q19_20 rfl rfl ?_
        refine j_getf (k := 1) (pc' := 24) q19_21 rfl rfl ?_
        refine j_iconst (pc' := 25) q19_24 rfl ?_
        refine j_iadd (pc' := 26) q19_25 rfl ?_
        refine j_putf (k := 1) (pc' := 29) q19_26 rfl rfl ?_
        refine j_nameS (fun τ6 => ?_)
        refine j_iinc2 (pc' := 32) q19_29 rfl (Nat.le_of_ble_eq_true rfl) rfl ?_
        refine j_goto q19_32 rfl ?_
        exact j_again (j_forget (z_le_s (z_le_s (z_le_s (z_le_nil)))) (hR1 ((s1.1 + (1 : Int32)), τ6)))
