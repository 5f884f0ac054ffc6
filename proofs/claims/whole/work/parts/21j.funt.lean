/-! the abstract machine runs as the functions say, by wip/whole/gen_fun.py -/
set_option maxRecDepth 20000 in
set_option maxHeartbeats 4000000 in
theorem t_Sh_lowestBits_84 {xL : Nat} {xs : Nat → Int32} {ρ : Nat → Nat → Option Nat} (hρ : z_hR ρ) (d : Nat) (a1 : Int32) (σ : zS) : ∀ q, f_Sh_lowestBits_84 a1 σ = some q → z_ec xL xs ρ (d + 0) 57 [.ref 84, .int a1] σ (em_pi σ q) := by
  refine j_of (W := [.ref 84, .int a1]) (fun L hL => ?_) ?_
  · subst hL; exact z_vl_0 _ 0 rfl
  · unfold f_Sh_lowestBits_84
    refine j_aload_n (pc' := 1) q57_0 rfl (by decide) rfl ?_
    refine j_getf (k := 84) (pc' := 4) q57_1 rfl rfl ?_
    refine j_if_ne (pc' := 7) q57_4 rfl (fun c1 => ?_) (fun c1 => ?_)
    · refine j_iload_n (pc' := 8) q57_7 rfl rfl ?_
      refine j_i2b (pc' := 9) q57_8 rfl ?_
      exact j_piret q57_9 rfl
    · refine j_aload_n (pc' := 11) q57_10 rfl (by decide) rfl ?_
      refine j_getf (k := 84) (pc' := 14) q57_11 rfl rfl ?_
      refine j_iconst (pc' := 15) q57_14 rfl ?_
      refine j_icmp_ne (pc' := 18) q57_15 rfl (fun c2 => ?_) (fun c2 => ?_)
      · refine j_iload_n (pc' := 19) q57_18 rfl rfl ?_
        refine j_i2s (pc' := 20) q57_19 rfl ?_
        refine j_goto q57_20 rfl ?_
        exact j_piret q57_24 rfl
      · refine j_iload_n (pc' := 24) q57_23 rfl rfl ?_
        exact j_piret q57_24 rfl
set_option maxRecDepth 20000 in
set_option maxHeartbeats 4000000 in
theorem t_Sh_isThere_86 {xL : Nat} {xs : Nat → Int32} {ρ : Nat → Nat → Option Nat} (hρ : z_hR ρ) (d : Nat)  (σ : zS) : ∀ q, f_Sh_isThere_86  σ = some q → z_ec xL xs ρ (d + 0) 55 [.ref 86] σ (em_pi σ q) := by
  refine j_of (W := [.ref 86]) (fun L hL => ?_) ?_
  · subst hL; exact z_vl_0 _ 0 rfl
  · unfold f_Sh_isThere_86
    refine j_aload_n (pc' := 1) q55_0 rfl (by decide) rfl ?_
    refine j_getf (k := 86) (pc' := 4) q55_1 rfl rfl ?_
    refine j_bipush (pc' := 6) q55_4 rfl ?_
    refine j_icmp_eq (pc' := 9) q55_6 rfl (fun c1 => ?_) (fun c1 => ?_)
    · refine j_iconst (pc' := 14) q55_13 rfl ?_
      exact j_pzret q55_14 rfl (Or.inl rfl)
    · refine j_iconst (pc' := 10) q55_9 rfl ?_
      refine j_goto q55_10 rfl ?_
      exact j_pzret q55_14 rfl (Or.inr rfl)
set_option maxRecDepth 20000 in
set_option maxHeartbeats 4000000 in
theorem t_Sh_lowestBits_86 {xL : Nat} {xs : Nat → Int32} {ρ : Nat → Nat → Option Nat} (hρ : z_hR ρ) (d : Nat) (a1 : Int32) (σ : zS) : ∀ q, f_Sh_lowestBits_86 a1 σ = some q → z_ec xL xs ρ (d + 0) 57 [.ref 86, .int a1] σ (em_pi σ q) := by
  refine j_of (W := [.ref 86, .int a1]) (fun L hL => ?_) ?_
  · subst hL; exact z_vl_0 _ 0 rfl
  · unfold f_Sh_lowestBits_86
    refine j_aload_n (pc' := 1) q57_0 rfl (by decide) rfl ?_
    refine j_getf (k := 86) (pc' := 4) q57_1 rfl rfl ?_
    refine j_if_ne (pc' := 7) q57_4 rfl (fun c1 => ?_) (fun c1 => ?_)
    · refine j_iload_n (pc' := 8) q57_7 rfl rfl ?_
      refine j_i2b (pc' := 9) q57_8 rfl ?_
      exact j_piret q57_9 rfl
    · refine j_aload_n (pc' := 11) q57_10 rfl (by decide) rfl ?_
      refine j_getf (k := 86) (pc' := 14) q57_11 rfl rfl ?_
      refine j_iconst (pc' := 15) q57_14 rfl ?_
      refine j_icmp_ne (pc' := 18) q57_15 rfl (fun c2 => ?_) (fun c2 => ?_)
      · refine j_iload_n (pc' := 19) q57_18 rfl rfl ?_
        refine j_i2s (pc' := 20) q57_19 rfl ?_
        refine j_goto q57_20 rfl ?_
        exact j_piret q57_24 rfl
      · refine j_iload_n (pc' := 24) q57_23 rfl rfl ?_
        exact j_piret q57_24 rfl
set_option maxRecDepth 20000 in
set_option maxHeartbeats 4000000 in
theorem t_Sh_isThere_88 {xL : Nat} {xs : Nat → Int32} {ρ : Nat → Nat → Option Nat} (hρ : z_hR ρ) (d : Nat)  (σ : zS) : ∀ q, f_Sh_isThere_88  σ = some q → z_ec xL xs ρ (d + 0) 55 [.ref 88] σ (em_pi σ q) := by
  refine j_of (W := [.ref 88]) (fun L hL => ?_) ?_
  · subst hL; exact z_vl_0 _ 0 rfl
  · unfold f_Sh_isThere_88
    refine j_aload_n (pc' := 1) q55_0 rfl (by decide) rfl ?_
    refine j_getf (k := 88) (pc' := 4) q55_1 rfl rfl ?_
    refine j_bipush (pc' := 6) q55_4 rfl ?_
    refine j_icmp_eq (pc' := 9) q55_6 rfl (fun c1 => ?_) (fun c1 => ?_)
    · refine j_iconst (pc' := 14) q55_13 rfl ?_
      exact j_pzret q55_14 rfl (Or.inl rfl)
    · refine j_iconst (pc' := 10) q55_9 rfl ?_
      refine j_goto q55_10 rfl ?_
      exact j_pzret q55_14 rfl (Or.inr rfl)
set_option maxRecDepth 20000 in
set_option maxHeartbeats 4000000 in
theorem t_Sh_lowestBits_88 {xL : Nat} {xs : Nat → Int32} {ρ : Nat → Nat → Option Nat} (hρ : z_hR ρ) (d : Nat) (a1 : Int32) (σ : zS) : ∀ q, f_Sh_lowestBits_88 a1 σ = some q → z_ec xL xs ρ (d + 0) 57 [.ref 88, .int a1] σ (em_pi σ q) := by
  refine j_of (W := [.ref 88, .int a1]) (fun L hL => ?_) ?_
  · subst hL; exact z_vl_0 _ 0 rfl
  · unfold f_Sh_lowestBits_88
    refine j_aload_n (pc' := 1) q57_0 rfl (by decide) rfl ?_
    refine j_getf (k := 88) (pc' := 4) q57_1 rfl rfl ?_
    refine j_if_ne (pc' := 7) q57_4 rfl (fun c1 => ?_) (fun c1 => ?_)
    · refine j_iload_n (pc' := 8) q57_7 rfl rfl ?_
      refine j_i2b (pc' := 9) q57_8 rfl ?_
      exact j_piret q57_9 rfl
    · refine j_aload_n (pc' := 11) q57_10 rfl (by decide) rfl ?_
      refine j_getf (k := 88) (pc' := 14) q57_11 rfl rfl ?_
      refine j_iconst (pc' := 15) q57_14 rfl ?_
      refine j_icmp_ne (pc' := 18) q57_15 rfl (fun c2 => ?_) (fun c2 => ?_)
      · refine j_iload_n (pc' := 19) q57_18 rfl rfl ?_
        refine j_i2s (pc' := 20) q57_19 rfl ?_
        refine j_goto q57_20 rfl ?_
        exact j_piret q57_24 rfl
      · refine j_iload_n (pc' := 24) q57_23 rfl rfl ?_
        exact j_piret q57_24 rfl
theorem q144_0 : z_fi (z_mi 144) 0 = some (0, .iload_n 1, 0, 0, 0, 0, 0) := rfl
theorem q144_1 : z_fi (z_mi 144) 1 = some (1, .iconst 0, 0, 0, 0, 0, 0) := rfl
theorem q144_2 : z_fi (z_mi 144) 2 = some (2, .iconst 3, 0, 0, 0, 3, 0) := rfl
theorem q144_3 : z_fi (z_mi 144) 3 = some (3, .invokestatic 60, 1, 99, 3, 0, 0) := rfl
theorem q144_6 : z_fi (z_mi 144) 6 = some (6, .ifCond .ne 5, 0, 11, 0, 0, 0) := rfl
theorem q144_9 : z_fi (z_mi 144) 9 = some (9, .iconst (-1), 0, 0, 0, (-1), 0) := rfl
theorem q144_10 : z_fi (z_mi 144) 10 = some (10, .ireturn, 0, 0, 0, 0, 0) := rfl
theorem q144_11 : z_fi (z_mi 144) 11 = some (11, .aload_n 0, 0, 0, 0, 0, 0) := rfl
theorem q144_12 : z_fi (z_mi 144) 12 = some (12, .getfield 25, 0, 9, 3, 0, 0) := rfl
theorem q144_15 : z_fi (z_mi 144) 15 = some (15, .iload_n 1, 0, 0, 0, 0, 0) := rfl
theorem q144_16 : z_fi (z_mi 144) 16 = some (16, .aaload, 0, 0, 0, 0, 0) := rfl
theorem q144_17 : z_fi (z_mi 144) 17 = some (17, .astore 4, 0, 0, 0, 0, 0) := rfl
theorem q144_19 : z_fi (z_mi 144) 19 = some (19, .aload 4, 0, 0, 0, 0, 0) := rfl
theorem q144_21 : z_fi (z_mi 144) 21 = some (21, .invokevirtual 280, 0, 55, 0, 0, 0) := rfl
theorem q144_24 : z_fi (z_mi 144) 24 = some (24, .ifCond .ne 6, 0, 30, 0, 0, 0) := rfl
theorem q144_27 : z_fi (z_mi 144) 27 = some (27, .bipush (-11), 0, 0, 0, (-11), 0) := rfl
theorem q144_29 : z_fi (z_mi 144) 29 = some (29, .ireturn, 0, 0, 0, 0, 0) := rfl
theorem q144_30 : z_fi (z_mi 144) 30 = some (30, .iload_n 2, 0, 0, 0, 0, 0) := rfl
theorem q144_31 : z_fi (z_mi 144) 31 = some (31, .iconst 0, 0, 0, 0, 0, 0) := rfl
theorem q144_32 : z_fi (z_mi 144) 32 = some (32, .aload 4, 0, 0, 0, 0, 0) := rfl
theorem q144_34 : z_fi (z_mi 144) 34 = some (34, .getfield 283, 0, 3, 2, 0, 0) := rfl
theorem q144_37 : z_fi (z_mi 144) 37 = some (37, .iconst 1, 0, 0, 0, 1, 0) := rfl
theorem q144_38 : z_fi (z_mi 144) 38 = some (38, .isub, 0, 0, 0, 0, 0) := rfl
theorem q144_39 : z_fi (z_mi 144) 39 = some (39, .invokestatic 60, 1, 99, 3, 0, 0) := rfl
theorem q144_42 : z_fi (z_mi 144) 42 = some (42, .ifCond .ne 6, 0, 48, 0, 0, 0) := rfl
theorem q144_45 : z_fi (z_mi 144) 45 = some (45, .bipush (-12), 0, 0, 0, (-12), 0) := rfl
theorem q144_47 : z_fi (z_mi 144) 47 = some (47, .ireturn, 0, 0, 0, 0, 0) := rfl
theorem q144_48 : z_fi (z_mi 144) 48 = some (48, .aload 4, 0, 0, 0, 0, 0) := rfl
theorem q144_50 : z_fi (z_mi 144) 50 = some (50, .getfield 284, 0, 3, 0, 0, 0) := rfl
theorem q144_53 : z_fi (z_mi 144) 53 = some (53, .iload_n 2, 0, 0, 0, 0, 0) := rfl
theorem q144_54 : z_fi (z_mi 144) 54 = some (54, .aload 4, 0, 0, 0, 0, 0) := rfl
theorem q144_56 : z_fi (z_mi 144) 56 = some (56, .iload_n 3, 0, 0, 0, 0, 0) := rfl
theorem q144_57 : z_fi (z_mi 144) 57 = some (57, .invokevirtual 287, 0, 57, 1, 0, 0) := rfl
theorem q144_60 : z_fi (z_mi 144) 60 = some (60, .iastore, 0, 0, 0, 0, 0) := rfl
theorem q144_61 : z_fi (z_mi 144) 61 = some (61, .iconst 1, 0, 0, 0, 1, 0) := rfl
theorem q144_62 : z_fi (z_mi 144) 62 = some (62, .ireturn, 0, 0, 0, 0, 0) := rfl
set_option maxRecDepth 20000 in
set_option maxHeartbeats 4000000 in
theorem t_Y_put {xL : Nat} {xs : Nat → Int32} {ρ : Nat → Nat → Option Nat} (hρ : z_hR ρ) (d : Nat) (a1 : Int32) (a2 : Int32) (a3 : Int32) (σ : zS) : ∀ q, f_Y_put a1 a2 a3 σ = some q → z_ec xL xs ρ (d + 1) 144 [.ref 0, .int a1, .int a2, .int a3] σ (em_i q) := by
  refine j_of (W := [.ref 0, .int a1, .int a2, .int a3, .null]) (fun L hL => ?_) ?_
  · subst hL; exact z_vl_0 _ 1 rfl
  · unfold f_Y_put
    refine j_iload_n (pc' := 1) q144_0 rfl rfl ?_
    refine j_iconst (pc' := 2) q144_1 rfl ?_
    refine j_iconst (pc' := 3) q144_2 rfl ?_
    refine j_callS3_pi (d := d + 0) (pc' := 6) q144_3 (Or.inl rfl) (Nat.le_of_ble_eq_true rfl) (Nat.le_of_ble_eq_true rfl) rfl (t_Y_isIn hρ (d + 0) _ _ _ _) (fun r1 => ?_)
    refine j_if_ne (pc' := 9) q144_6 rfl (fun c2 => ?_) (fun c2 => ?_)
    · refine j_iconst (pc' := 10) q144_9 rfl ?_
      exact j_iret q144_10 rfl
    · refine j_aload_n (pc' := 12) q144_11 rfl (by decide) rfl ?_
      refine j_getr (k := 0) (q := 34) (pc' := 15) q144_12 rfl (hρ 0 3 34 rfl) rfl ?_
      refine j_iload_n (pc' := 16) q144_15 rfl rfl ?_
      refine j_asht (pc' := 17) hρ q144_16 rfl (fun _ => ?_) (fun _ => ?_) (fun _ => ?_) (fun _ => ?_)
      · refine j_astore4 (pc' := 19) q144_17 rfl (by decide) (Nat.le_of_ble_eq_true rfl) rfl ?_
        refine j_aload (pc' := 21) q144_19 rfl (by decide) rfl ?_
        refine j_callV0_pi (d := d + 0) (pc' := 24) q144_21 rfl (Nat.le_of_ble_eq_true rfl) (Nat.le_of_ble_eq_true rfl) rfl (t_Sh_isThere_82 hρ (d + 0) _) (fun r3 => ?_)
        refine j_if_ne (pc' := 27) q144_24 rfl (fun c4 => ?_) (fun c4 => ?_)
        · refine j_bipush (pc' := 29) q144_27 rfl ?_
          exact j_iret q144_29 rfl
        · refine j_iload_n (pc' := 31) q144_30 rfl rfl ?_
          refine j_iconst (pc' := 32) q144_31 rfl ?_
          refine j_aload (pc' := 34) q144_32 rfl (by decide) rfl ?_
          refine j_getf (k := 82) (pc' := 37) q144_34 rfl rfl ?_
          refine j_iconst (pc' := 38) q144_37 rfl ?_
          refine j_isub (pc' := 39) q144_38 rfl ?_
          refine j_callS3_pi (d := d + 0) (pc' := 42) q144_39 (Or.inl rfl) (Nat.le_of_ble_eq_true rfl) (Nat.le_of_ble_eq_true rfl) rfl (t_Y_isIn hρ (d + 0) _ _ _ _) (fun r5 => ?_)
          refine j_if_ne (pc' := 45) q144_42 rfl (fun c6 => ?_) (fun c6 => ?_)
          · refine j_bipush (pc' := 47) q144_45 rfl ?_
            exact j_iret q144_47 rfl
          · refine j_aload (pc' := 50) q144_48 rfl (by decide) rfl ?_
            refine j_getr (k := 82) (q := 83) (pc' := 53) q144_50 rfl (hρ 82 0 83 rfl) rfl ?_
            refine j_iload_n (pc' := 54) q144_53 rfl rfl ?_
            refine j_aload (pc' := 56) q144_54 rfl (by decide) rfl ?_
            refine j_iload_n (pc' := 57) q144_56 rfl rfl ?_
            refine j_callV1_pi (d := d + 0) (pc' := 60) q144_57 rfl (Nat.le_of_ble_eq_true rfl) (Nat.le_of_ble_eq_true rfl) rfl (t_Sh_lowestBits_82 hρ (d + 0) _ _) (fun r7 => ?_)
            refine j_if (fun hi8 => ?_) (fun _ => j_none)
            refine j_iast (k := 83) (N := 40) (pc' := 61) q144_60 rfl hi8 rfl ?_
            refine j_nameS (fun τ9 => ?_)
            refine j_iconst (pc' := 62) q144_61 rfl ?_
            exact j_iret q144_62 rfl
      · refine j_astore4 (pc' := 19) q144_17 rfl (by decide) (Nat.le_of_ble_eq_true rfl) rfl ?_
        refine j_aload (pc' := 21) q144_19 rfl (by decide) rfl ?_
        refine j_callV0_pi (d := d + 0) (pc' := 24) q144_21 rfl (Nat.le_of_ble_eq_true rfl) (Nat.le_of_ble_eq_true rfl) rfl (t_Sh_isThere_84 hρ (d + 0) _) (fun r10 => ?_)
        refine j_if_ne (pc' := 27) q144_24 rfl (fun c11 => ?_) (fun c11 => ?_)
        · refine j_bipush (pc' := 29) q144_27 rfl ?_
          exact j_iret q144_29 rfl
        · refine j_iload_n (pc' := 31) q144_30 rfl rfl ?_
          refine j_iconst (pc' := 32) q144_31 rfl ?_
          refine j_aload (pc' := 34) q144_32 rfl (by decide) rfl ?_
          refine j_getf (k := 84) (pc' := 37) q144_34 rfl rfl ?_
          refine j_iconst (pc' := 38) q144_37 rfl ?_
          refine j_isub (pc' := 39) q144_38 rfl ?_
          refine j_callS3_pi (d := d + 0) (pc' := 42) q144_39 (Or.inl rfl) (Nat.le_of_ble_eq_true rfl) (Nat.le_of_ble_eq_true rfl) rfl (t_Y_isIn hρ (d + 0) _ _ _ _) (fun r12 => ?_)
          refine j_if_ne (pc' := 45) q144_42 rfl (fun c13 => ?_) (fun c13 => ?_)
          · refine j_bipush (pc' := 47) q144_45 rfl ?_
            exact j_iret q144_47 rfl
          · refine j_aload (pc' := 50) q144_48 rfl (by decide) rfl ?_
            refine j_getr (k := 84) (q := 85) (pc' := 53) q144_50 rfl (hρ 84 0 85 rfl) rfl ?_
            refine j_iload_n (pc' := 54) q144_53 rfl rfl ?_
            refine j_aload (pc' := 56) q144_54 rfl (by decide) rfl ?_
            refine j_iload_n (pc' := 57) q144_56 rfl rfl ?_
            refine j_callV1_pi (d := d + 0) (pc' := 60) q144_57 rfl (Nat.le_of_ble_eq_true rfl) (Nat.le_of_ble_eq_true rfl) rfl (t_Sh_lowestBits_84 hρ (d + 0) _ _) (fun r14 => ?_)
            refine j_if (fun hi15 => ?_) (fun _ => j_none)
            refine j_iast (k := 85) (N := 40) (pc' := 61) q144_60 rfl hi15 rfl ?_
            refine j_nameS (fun τ16 => ?_)
            refine j_iconst (pc' := 62) q144_61 rfl ?_
            exact j_iret q144_62 rfl
      · refine j_astore4 (pc' := 19) q144_17 rfl (by decide) (Nat.le_of_ble_eq_true rfl) rfl ?_
        refine j_aload (pc' := 21) q144_19 rfl (by decide) rfl ?_
        refine j_callV0_pi (d := d + 0) (pc' := 24) q144_21 rfl (Nat.le_of_ble_eq_true rfl) (Nat.le_of_ble_eq_true rfl) rfl (t_Sh_isThere_86 hρ (d + 0) _) (fun r17 => ?_)
        refine j_if_ne (pc' := 27) q144_24 rfl (fun c18 => ?_) (fun c18 => ?_)
        · refine j_bipush (pc' := 29) q144_27 rfl ?_
          exact j_iret q144_29 rfl
        · refine j_iload_n (pc' := 31) q144_30 rfl rfl ?_
          refine j_iconst (pc' := 32) q144_31 rfl ?_
          refine j_aload (pc' := 34) q144_32 rfl (by decide) rfl ?_
          refine j_getf (k := 86) (pc' := 37) q144_34 rfl rfl ?_
          refine j_iconst (pc' := 38) q144_37 rfl ?_
          refine j_isub (pc' := 39) q144_38 rfl ?_
          refine j_callS3_pi (d := d + 0) (pc' := 42) q144_39 (Or.inl rfl) (Nat.le_of_ble_eq_true rfl) (Nat.le_of_ble_eq_true rfl) rfl (t_Y_isIn hρ (d + 0) _ _ _ _) (fun r19 => ?_)
          refine j_if_ne (pc' := 45) q144_42 rfl (fun c20 => ?_) (fun c20 => ?_)
          · refine j_bipush (pc' := 47) q144_45 rfl ?_
            exact j_iret q144_47 rfl
          · refine j_aload (pc' := 50) q144_48 rfl (by decide) rfl ?_
            refine j_getr (k := 86) (q := 87) (pc' := 53) q144_50 rfl (hρ 86 0 87 rfl) rfl ?_
            refine j_iload_n (pc' := 54) q144_53 rfl rfl ?_
            refine j_aload (pc' := 56) q144_54 rfl (by decide) rfl ?_
            refine j_iload_n (pc' := 57) q144_56 rfl rfl ?_
            refine j_callV1_pi (d := d + 0) (pc' := 60) q144_57 rfl (Nat.le_of_ble_eq_true rfl) (Nat.le_of_ble_eq_true rfl) rfl (t_Sh_lowestBits_86 hρ (d + 0) _ _) (fun r21 => ?_)
            refine j_if (fun hi22 => ?_) (fun _ => j_none)
            refine j_iast (k := 87) (N := 40) (pc' := 61) q144_60 rfl hi22 rfl ?_
            refine j_nameS (fun τ23 => ?_)
            refine j_iconst (pc' := 62) q144_61 rfl ?_
            exact j_iret q144_62 rfl
      · refine j_astore4 (pc' := 19) q144_17 rfl (by decide) (Nat.le_of_ble_eq_true rfl) rfl ?_
        refine j_aload (pc' := 21) q144_19 rfl (by decide) rfl ?_
        refine j_callV0_pi (d := d + 0) (pc' := 24) q144_21 rfl (Nat.le_of_ble_eq_true rfl) (Nat.le_of_ble_eq_true rfl) rfl (t_Sh_isThere_88 hρ (d + 0) _) (fun r24 => ?_)
        refine j_if_ne (pc' := 27) q144_24 rfl (fun c25 => ?_) (fun c25 => ?_)
        · refine j_bipush (pc' := 29) q144_27 rfl ?_
          exact j_iret q144_29 rfl
        · refine j_iload_n (pc' := 31) q144_30 rfl rfl ?_
          refine j_iconst (pc' := 32) q144_31 rfl ?_
          refine j_aload (pc' := 34) q144_32 rfl (by decide) rfl ?_
          refine j_getf (k := 88) (pc' := 37) q144_34 rfl rfl ?_
          refine j_iconst (pc' := 38) q144_37 rfl ?_
          refine j_isub (pc' := 39) q144_38 rfl ?_
          refine j_callS3_pi (d := d + 0) (pc' := 42) q144_39 (Or.inl rfl) (Nat.le_of_ble_eq_true rfl) (Nat.le_of_ble_eq_true rfl) rfl (t_Y_isIn hρ (d + 0) _ _ _ _) (fun r26 => ?_)
          refine j_if_ne (pc' := 45) q144_42 rfl (fun c27 => ?_) (fun c27 => ?_)
          · refine j_bipush (pc' := 47) q144_45 rfl ?_
            exact j_iret q144_47 rfl
          · refine j_aload (pc' := 50) q144_48 rfl (by decide) rfl ?_
            refine j_getr (k := 88) (q := 89) (pc' := 53) q144_50 rfl (hρ 88 0 89 rfl) rfl ?_
            refine j_iload_n (pc' := 54) q144_53 rfl rfl ?_
            refine j_aload (pc' := 56) q144_54 rfl (by decide) rfl ?_
            refine j_iload_n (pc' := 57) q144_56 rfl rfl ?_
            refine j_callV1_pi (d := d + 0) (pc' := 60) q144_57 rfl (Nat.le_of_ble_eq_true rfl) (Nat.le_of_ble_eq_true rfl) rfl (t_Sh_lowestBits_88 hρ (d + 0) _ _) (fun r28 => ?_)
            refine j_if (fun hi29 => ?_) (fun _ => j_none)
            refine j_iast (k := 89) (N := 40) (pc' := 61) q144_60 rfl hi29 rfl ?_
            refine j_nameS (fun τ30 => ?_)
            refine j_iconst (pc' := 62) q144_61 rfl ?_
            exact j_iret q144_62 rfl
set_option maxRecDepth 8000 in
theorem q227_0 : z_fi (z_mi 227) 0 = some (0, .iload_n 1, 0, 0, 0, 0, 0) := rfl
set_option maxRecDepth 8000 in
theorem q227_1 : z_fi (z_mi 227) 1 = some (1, .i2l, 0, 0, 0, 0, 0) := rfl
set_option maxRecDepth 8000 in
theorem q227_2 : z_fi (z_mi 227) 2 = some (2, .lconst 0, 0, 0, 0, 0, 0) := rfl
set_option maxRecDepth 8000 in
theorem q227_3 : z_fi (z_mi 227) 3 = some (3, .ldc2_w 135, 0, 0, 0, 0, 3) := rfl
set_option maxRecDepth 8000 in
theorem q227_6 : z_fi (z_mi 227) 6 = some (6, .invokestatic 62, 1, 149, 3, 0, 0) := rfl
set_option maxRecDepth 8000 in
theorem q227_9 : z_fi (z_mi 227) 9 = some (9, .ifCond .ne 5, 0, 14, 0, 0, 0) := rfl
set_option maxRecDepth 8000 in
theorem q227_12 : z_fi (z_mi 227) 12 = some (12, .iconst (-1), 0, 0, 0, (-1), 0) := rfl
set_option maxRecDepth 8000 in
theorem q227_13 : z_fi (z_mi 227) 13 = some (13, .ireturn, 0, 0, 0, 0, 0) := rfl
set_option maxRecDepth 8000 in
theorem q227_14 : z_fi (z_mi 227) 14 = some (14, .aload_n 0, 0, 0, 0, 0, 0) := rfl
set_option maxRecDepth 8000 in
theorem q227_15 : z_fi (z_mi 227) 15 = some (15, .getfield 51, 0, 10, 28, 0, 0) := rfl
set_option maxRecDepth 8000 in
theorem q227_18 : z_fi (z_mi 227) 18 = some (18, .iload_n 1, 0, 0, 0, 0, 0) := rfl
set_option maxRecDepth 8000 in
theorem q227_19 : z_fi (z_mi 227) 19 = some (19, .iaload, 0, 0, 0, 0, 0) := rfl
set_option maxRecDepth 8000 in
theorem q227_20 : z_fi (z_mi 227) 20 = some (20, .bipush (-4), 0, 0, 0, (-4), 0) := rfl
set_option maxRecDepth 8000 in
theorem q227_22 : z_fi (z_mi 227) 22 = some (22, .if_icmp .ne 6, 0, 28, 0, 0, 0) := rfl
set_option maxRecDepth 8000 in
theorem q227_25 : z_fi (z_mi 227) 25 = some (25, .bipush (-11), 0, 0, 0, (-11), 0) := rfl
set_option maxRecDepth 8000 in
theorem q227_27 : z_fi (z_mi 227) 27 = some (27, .ireturn, 0, 0, 0, 0, 0) := rfl
set_option maxRecDepth 8000 in
theorem q227_28 : z_fi (z_mi 227) 28 = some (28, .iload_n 2, 0, 0, 0, 0, 0) := rfl
set_option maxRecDepth 8000 in
theorem q227_29 : z_fi (z_mi 227) 29 = some (29, .i2l, 0, 0, 0, 0, 0) := rfl
set_option maxRecDepth 8000 in
theorem q227_30 : z_fi (z_mi 227) 30 = some (30, .lconst 0, 0, 0, 0, 0, 0) := rfl
set_option maxRecDepth 8000 in
theorem q227_31 : z_fi (z_mi 227) 31 = some (31, .aload_n 0, 0, 0, 0, 0, 0) := rfl
set_option maxRecDepth 8000 in
theorem q227_32 : z_fi (z_mi 227) 32 = some (32, .getfield 54, 0, 10, 29, 0, 0) := rfl
set_option maxRecDepth 8000 in
theorem q227_35 : z_fi (z_mi 227) 35 = some (35, .iload_n 1, 0, 0, 0, 0, 0) := rfl
set_option maxRecDepth 8000 in
theorem q227_36 : z_fi (z_mi 227) 36 = some (36, .iaload, 0, 0, 0, 0, 0) := rfl
set_option maxRecDepth 8000 in
theorem q227_37 : z_fi (z_mi 227) 37 = some (37, .iconst 1, 0, 0, 0, 1, 0) := rfl
set_option maxRecDepth 8000 in
theorem q227_38 : z_fi (z_mi 227) 38 = some (38, .isub, 0, 0, 0, 0, 0) := rfl
set_option maxRecDepth 8000 in
theorem q227_39 : z_fi (z_mi 227) 39 = some (39, .i2l, 0, 0, 0, 0, 0) := rfl
set_option maxRecDepth 8000 in
theorem q227_40 : z_fi (z_mi 227) 40 = some (40, .invokestatic 62, 1, 149, 3, 0, 0) := rfl
set_option maxRecDepth 8000 in
theorem q227_43 : z_fi (z_mi 227) 43 = some (43, .ifCond .ne 6, 0, 49, 0, 0, 0) := rfl
set_option maxRecDepth 8000 in
theorem q227_46 : z_fi (z_mi 227) 46 = some (46, .bipush (-12), 0, 0, 0, (-12), 0) := rfl
set_option maxRecDepth 8000 in
theorem q227_48 : z_fi (z_mi 227) 48 = some (48, .ireturn, 0, 0, 0, 0, 0) := rfl
set_option maxRecDepth 8000 in
theorem q227_49 : z_fi (z_mi 227) 49 = some (49, .aload_n 0, 0, 0, 0, 0, 0) := rfl
set_option maxRecDepth 8000 in
theorem q227_50 : z_fi (z_mi 227) 50 = some (50, .getfield 57, 0, 10, 30, 0, 0) := rfl
set_option maxRecDepth 8000 in
theorem q227_53 : z_fi (z_mi 227) 53 = some (53, .bipush 40, 0, 0, 0, 40, 0) := rfl
set_option maxRecDepth 8000 in
theorem q227_55 : z_fi (z_mi 227) 55 = some (55, .iload_n 1, 0, 0, 0, 0, 0) := rfl
set_option maxRecDepth 8000 in
theorem q227_56 : z_fi (z_mi 227) 56 = some (56, .imul, 0, 0, 0, 0, 0) := rfl
set_option maxRecDepth 8000 in
theorem q227_57 : z_fi (z_mi 227) 57 = some (57, .iload_n 2, 0, 0, 0, 0, 0) := rfl
set_option maxRecDepth 8000 in
theorem q227_58 : z_fi (z_mi 227) 58 = some (58, .iadd, 0, 0, 0, 0, 0) := rfl
set_option maxRecDepth 8000 in
theorem q227_59 : z_fi (z_mi 227) 59 = some (59, .aload_n 0, 0, 0, 0, 0, 0) := rfl
set_option maxRecDepth 8000 in
theorem q227_60 : z_fi (z_mi 227) 60 = some (60, .getfield 51, 0, 10, 28, 0, 0) := rfl
set_option maxRecDepth 8000 in
theorem q227_63 : z_fi (z_mi 227) 63 = some (63, .iload_n 1, 0, 0, 0, 0, 0) := rfl
set_option maxRecDepth 8000 in
theorem q227_64 : z_fi (z_mi 227) 64 = some (64, .iaload, 0, 0, 0, 0, 0) := rfl
set_option maxRecDepth 8000 in
theorem q227_65 : z_fi (z_mi 227) 65 = some (65, .ifCond .ne 13, 0, 78, 0, 0, 0) := rfl
set_option maxRecDepth 8000 in
theorem q227_68 : z_fi (z_mi 227) 68 = some (68, .iload_n 3, 0, 0, 0, 0, 0) := rfl
set_option maxRecDepth 8000 in
theorem q227_69 : z_fi (z_mi 227) 69 = some (69, .bipush 24, 0, 0, 0, 24, 0) := rfl
set_option maxRecDepth 8000 in
theorem q227_71 : z_fi (z_mi 227) 71 = some (71, .ishl, 0, 0, 0, 0, 0) := rfl
set_option maxRecDepth 8000 in
theorem q227_72 : z_fi (z_mi 227) 72 = some (72, .bipush 24, 0, 0, 0, 24, 0) := rfl
set_option maxRecDepth 8000 in
theorem q227_74 : z_fi (z_mi 227) 74 = some (74, .ishr, 0, 0, 0, 0, 0) := rfl
set_option maxRecDepth 8000 in
theorem q227_75 : z_fi (z_mi 227) 75 = some (75, .goto 24, 0, 99, 0, 0, 0) := rfl
set_option maxRecDepth 8000 in
theorem q227_78 : z_fi (z_mi 227) 78 = some (78, .aload_n 0, 0, 0, 0, 0, 0) := rfl
set_option maxRecDepth 8000 in
theorem q227_79 : z_fi (z_mi 227) 79 = some (79, .getfield 51, 0, 10, 28, 0, 0) := rfl
set_option maxRecDepth 8000 in
theorem q227_82 : z_fi (z_mi 227) 82 = some (82, .iload_n 1, 0, 0, 0, 0, 0) := rfl
set_option maxRecDepth 8000 in
theorem q227_83 : z_fi (z_mi 227) 83 = some (83, .iaload, 0, 0, 0, 0, 0) := rfl
set_option maxRecDepth 8000 in
theorem q227_84 : z_fi (z_mi 227) 84 = some (84, .iconst 1, 0, 0, 0, 1, 0) := rfl
set_option maxRecDepth 8000 in
theorem q227_85 : z_fi (z_mi 227) 85 = some (85, .if_icmp .ne 13, 0, 98, 0, 0, 0) := rfl
set_option maxRecDepth 8000 in
theorem q227_88 : z_fi (z_mi 227) 88 = some (88, .iload_n 3, 0, 0, 0, 0, 0) := rfl
set_option maxRecDepth 8000 in
theorem q227_89 : z_fi (z_mi 227) 89 = some (89, .bipush 16, 0, 0, 0, 16, 0) := rfl
set_option maxRecDepth 8000 in
theorem q227_91 : z_fi (z_mi 227) 91 = some (91, .ishl, 0, 0, 0, 0, 0) := rfl
set_option maxRecDepth 8000 in
theorem q227_92 : z_fi (z_mi 227) 92 = some (92, .bipush 16, 0, 0, 0, 16, 0) := rfl
set_option maxRecDepth 8000 in
theorem q227_94 : z_fi (z_mi 227) 94 = some (94, .ishr, 0, 0, 0, 0, 0) := rfl
set_option maxRecDepth 8000 in
theorem q227_95 : z_fi (z_mi 227) 95 = some (95, .goto 4, 0, 99, 0, 0, 0) := rfl
set_option maxRecDepth 8000 in
theorem q227_98 : z_fi (z_mi 227) 98 = some (98, .iload_n 3, 0, 0, 0, 0, 0) := rfl
set_option maxRecDepth 8000 in
theorem q227_99 : z_fi (z_mi 227) 99 = some (99, .iastore, 0, 0, 0, 0, 0) := rfl
set_option maxRecDepth 8000 in
theorem q227_100 : z_fi (z_mi 227) 100 = some (100, .iconst 1, 0, 0, 0, 1, 0) := rfl
set_option maxRecDepth 8000 in
theorem q227_101 : z_fi (z_mi 227) 101 = some (101, .ireturn, 0, 0, 0, 0, 0) := rfl
set_option maxRecDepth 20000 in
set_option maxHeartbeats 4000000 in
theorem t_M_put {xL : Nat} {xs : Nat → Int32} {ρ : Nat → Nat → Option Nat} (hρ : z_hR ρ) (d : Nat) (a1 : Int32) (a2 : Int32) (a3 : Int32) (σ : zS) : ∀ q, f_M_put a1 a2 a3 σ = some q → z_ec xL xs ρ (d + 1) 227 [.ref 90, .int a1, .int a2, .int a3] σ (em_i q) := by
  refine j_of (W := [.ref 90, .int a1, .int a2, .int a3]) (fun L hL => ?_) ?_
  · subst hL; exact z_vl_0 _ 0 rfl
  · unfold f_M_put
    refine j_iload_n (pc' := 1) q227_0 rfl rfl ?_
    refine j_i2l (pc' := 2) q227_1 rfl ?_
    refine j_lconst (pc' := 3) q227_2 rfl ?_
    refine j_ldc2 (pc' := 6) q227_3 rfl ?_
    refine j_callS3_pi (d := d + 0) (pc' := 9) q227_6 (Or.inl rfl) (Nat.le_of_ble_eq_true rfl) (Nat.le_of_ble_eq_true rfl) rfl (t_M_in hρ (d + 0) _ _ _ _) (fun r1 => ?_)
    refine j_if_ne (pc' := 12) q227_9 rfl (fun c2 => ?_) (fun c2 => ?_)
    · refine j_iconst (pc' := 13) q227_12 rfl ?_
      exact j_iret q227_13 rfl
    · refine j_aload_n (pc' := 15) q227_14 rfl (by decide) rfl ?_
      refine j_getr (k := 90) (q := 102) (pc' := 18) q227_15 rfl (hρ 90 28 102 rfl) rfl ?_
      refine j_iload_n (pc' := 19) q227_18 rfl rfl ?_
      refine j_if (fun hi3 => ?_) (fun _ => j_none)
      refine j_iald (k := 102) (N := 4) (pc' := 20) q227_19 rfl hi3 rfl ?_
      refine j_bipush (pc' := 22) q227_20 rfl ?_
      refine j_icmp_ne (pc' := 25) q227_22 rfl (fun c4 => ?_) (fun c4 => ?_)
      · refine j_bipush (pc' := 27) q227_25 rfl ?_
        exact j_iret q227_27 rfl
      · refine j_iload_n (pc' := 29) q227_28 rfl rfl ?_
        refine j_i2l (pc' := 30) q227_29 rfl ?_
        refine j_lconst (pc' := 31) q227_30 rfl ?_
        refine j_aload_n (pc' := 32) q227_31 rfl (by decide) rfl ?_
        refine j_getr (k := 90) (q := 103) (pc' := 35) q227_32 rfl (hρ 90 29 103 rfl) rfl ?_
        refine j_iload_n (pc' := 36) q227_35 rfl rfl ?_
        refine j_if (fun hi5 => ?_) (fun _ => j_none)
        refine j_iald (k := 103) (N := 4) (pc' := 37) q227_36 rfl hi5 rfl ?_
        refine j_iconst (pc' := 38) q227_37 rfl ?_
        refine j_isub (pc' := 39) q227_38 rfl ?_
        refine j_i2l (pc' := 40) q227_39 rfl ?_
        refine j_callS3_pi (d := d + 0) (pc' := 43) q227_40 (Or.inl rfl) (Nat.le_of_ble_eq_true rfl) (Nat.le_of_ble_eq_true rfl) rfl (t_M_in hρ (d + 0) _ _ _ _) (fun r6 => ?_)
        refine j_if_ne (pc' := 46) q227_43 rfl (fun c7 => ?_) (fun c7 => ?_)
        · refine j_bipush (pc' := 48) q227_46 rfl ?_
          exact j_iret q227_48 rfl
        · refine j_aload_n (pc' := 50) q227_49 rfl (by decide) rfl ?_
          refine j_getr (k := 90) (q := 104) (pc' := 53) q227_50 rfl (hρ 90 30 104 rfl) rfl ?_
          refine j_bipush (pc' := 55) q227_53 rfl ?_
          refine j_iload_n (pc' := 56) q227_55 rfl rfl ?_
          refine j_imul (pc' := 57) q227_56 rfl ?_
          refine j_iload_n (pc' := 58) q227_57 rfl rfl ?_
          refine j_iadd (pc' := 59) q227_58 rfl ?_
          refine j_aload_n (pc' := 60) q227_59 rfl (by decide) rfl ?_
          refine j_getr (k := 90) (q := 102) (pc' := 63) q227_60 rfl (hρ 90 28 102 rfl) rfl ?_
          refine j_iload_n (pc' := 64) q227_63 rfl rfl ?_
          refine j_if (fun hi8 => ?_) (fun _ => j_none)
          refine j_iald (k := 102) (N := 4) (pc' := 65) q227_64 rfl hi8 rfl ?_
          refine j_join (T := Int32 × Int32) 99 (fun t9 => [.null, .null, .null, .null]) (fun t9 => [.int t9.1, .int t9.2, .ref 104]) (fun t9 => σ) (fun t9 => ?_) (fun j9 hj9 => ?_)
          · show z_J _ _ _ _ _ _ _ _ _ _ _ _
            refine j_if (fun hi10 => ?_) (fun _ => j_none)
            refine j_iast (k := 104) (N := 160) (pc' := 100) q227_99 rfl hi10 rfl ?_
            refine j_nameS (fun τ11 => ?_)
            refine j_iconst (pc' := 101) q227_100 rfl ?_
            exact j_iret q227_101 rfl
          · show z_J _ _ _ _ _ _ _ _ _ _ _ _
            refine j_if_ne (pc' := 68) q227_65 rfl (fun c12 => ?_) (fun c12 => ?_)
            · refine j_iload_n (pc' := 69) q227_68 rfl rfl ?_
              refine j_bipush (pc' := 71) q227_69 rfl ?_
              refine j_ishl (pc' := 72) q227_71 rfl ?_
              refine j_bipush (pc' := 74) q227_72 rfl ?_
              refine j_ishr (pc' := 75) q227_74 rfl ?_
              refine j_goto q227_75 rfl ?_
              refine j_forget (z_le_n (z_le_n (z_le_n (z_le_n (z_le_nil))))) (hj9 (((a3 <<< ((24 : Int32) &&& 31)) >>> ((24 : Int32) &&& 31)), (((40 : Int32) * a1) + a2)))
            · refine j_aload_n (pc' := 79) q227_78 rfl (by decide) rfl ?_
              refine j_getr (k := 90) (q := 102) (pc' := 82) q227_79 rfl (hρ 90 28 102 rfl) rfl ?_
              refine j_iload_n (pc' := 83) q227_82 rfl rfl ?_
              refine j_if (fun hi13 => ?_) (fun _ => j_none)
              refine j_iald (k := 102) (N := 4) (pc' := 84) q227_83 rfl hi13 rfl ?_
              refine j_iconst (pc' := 85) q227_84 rfl ?_
              refine j_icmp_ne (pc' := 88) q227_85 rfl (fun c14 => ?_) (fun c14 => ?_)
              · refine j_iload_n (pc' := 89) q227_88 rfl rfl ?_
                refine j_bipush (pc' := 91) q227_89 rfl ?_
                refine j_ishl (pc' := 92) q227_91 rfl ?_
                refine j_bipush (pc' := 94) q227_92 rfl ?_
                refine j_ishr (pc' := 95) q227_94 rfl ?_
                refine j_goto q227_95 rfl ?_
                refine j_forget (z_le_n (z_le_n (z_le_n (z_le_n (z_le_nil))))) (hj9 (((a3 <<< ((16 : Int32) &&& 31)) >>> ((16 : Int32) &&& 31)), (((40 : Int32) * a1) + a2)))
              · refine j_iload_n (pc' := 99) q227_98 rfl rfl ?_
                refine j_forget (z_le_n (z_le_n (z_le_n (z_le_n (z_le_nil))))) (hj9 (a3, (((40 : Int32) * a1) + a2)))
theorem q59_0 : z_fi (z_mi 59) 0 = some (0, .iload_n 1, 0, 0, 0, 0, 0) := rfl
theorem q59_1 : z_fi (z_mi 59) 1 = some (1, .ifCond .lt 23, 0, 24, 0, 0, 0) := rfl
theorem q59_4 : z_fi (z_mi 59) 4 = some (4, .iload_n 1, 0, 0, 0, 0, 0) := rfl
theorem q59_5 : z_fi (z_mi 59) 5 = some (5, .aload_n 0, 0, 0, 0, 0, 0) := rfl
theorem q59_6 : z_fi (z_mi 59) 6 = some (6, .getfield 15, 0, 3, 2, 0, 0) := rfl
theorem q59_9 : z_fi (z_mi 59) 9 = some (9, .iconst 3, 0, 0, 0, 3, 0) := rfl
theorem q59_10 : z_fi (z_mi 59) 10 = some (10, .isub, 0, 0, 0, 0, 0) := rfl
theorem q59_11 : z_fi (z_mi 59) 11 = some (11, .if_icmp .gt 13, 0, 24, 0, 0, 0) := rfl
theorem q59_14 : z_fi (z_mi 59) 14 = some (14, .iload_n 1, 0, 0, 0, 0, 0) := rfl
theorem q59_15 : z_fi (z_mi 59) 15 = some (15, .bipush 37, 0, 0, 0, 37, 0) := rfl
theorem q59_17 : z_fi (z_mi 59) 17 = some (17, .if_icmp .gt 7, 0, 24, 0, 0, 0) := rfl
theorem q59_20 : z_fi (z_mi 59) 20 = some (20, .iconst 1, 0, 0, 0, 1, 0) := rfl
theorem q59_21 : z_fi (z_mi 59) 21 = some (21, .goto 4, 0, 25, 0, 0, 0) := rfl
theorem q59_24 : z_fi (z_mi 59) 24 = some (24, .iconst 0, 0, 0, 0, 0, 0) := rfl
theorem q59_25 : z_fi (z_mi 59) 25 = some (25, .ireturn, 0, 0, 0, 0, 0) := rfl
set_option maxRecDepth 20000 in
set_option maxHeartbeats 4000000 in
theorem t_Sh_hasThree_82 {xL : Nat} {xs : Nat → Int32} {ρ : Nat → Nat → Option Nat} (hρ : z_hR ρ) (d : Nat) (a1 : Int32) (σ : zS) : ∀ q, f_Sh_hasThree_82 a1 σ = some q → z_ec xL xs ρ (d + 0) 59 [.ref 82, .int a1] σ (em_pi σ q) := by
  refine j_of (W := [.ref 82, .int a1]) (fun L hL => ?_) ?_
  · subst hL; exact z_vl_0 _ 0 rfl
  · unfold f_Sh_hasThree_82
    refine j_iload_n (pc' := 1) q59_0 rfl rfl ?_
    refine j_if_lt (pc' := 4) q59_1 rfl (fun c1 => ?_) (fun c1 => ?_)
    · refine j_iconst (pc' := 25) q59_24 rfl ?_
      exact j_pzret q59_25 rfl (Or.inl rfl)
    · refine j_iload_n (pc' := 5) q59_4 rfl rfl ?_
      refine j_aload_n (pc' := 6) q59_5 rfl (by decide) rfl ?_
      refine j_getf (k := 82) (pc' := 9) q59_6 rfl rfl ?_
      refine j_iconst (pc' := 10) q59_9 rfl ?_
      refine j_isub (pc' := 11) q59_10 rfl ?_
      refine j_icmp_gt (pc' := 14) q59_11 rfl (fun c2 => ?_) (fun c2 => ?_)
      · refine j_iconst (pc' := 25) q59_24 rfl ?_
        exact j_pzret q59_25 rfl (Or.inl rfl)
      · refine j_iload_n (pc' := 15) q59_14 rfl rfl ?_
        refine j_bipush (pc' := 17) q59_15 rfl ?_
        refine j_icmp_gt (pc' := 20) q59_17 rfl (fun c3 => ?_) (fun c3 => ?_)
        · refine j_iconst (pc' := 25) q59_24 rfl ?_
          exact j_pzret q59_25 rfl (Or.inl rfl)
        · refine j_iconst (pc' := 21) q59_20 rfl ?_
          refine j_goto q59_21 rfl ?_
          exact j_pzret q59_25 rfl (Or.inr rfl)
set_option maxRecDepth 20000 in
set_option maxHeartbeats 4000000 in
theorem t_Sp_sells_27 {xL : Nat} {xs : Nat → Int32} {ρ : Nat → Nat → Option Nat} (hρ : z_hR ρ) (d : Nat) (a1 : Int32) (a2 : Int32) (σ : zS) : ∀ q, f_Sp_sells_27 a1 a2 σ = some q → z_ec xL xs ρ (d + 2) 63 [.ref 27, .int a1, .int a2] σ (em_pi σ q) := by
  refine j_of (W := [.ref 27, .int a1, .int a2]) (fun L hL => ?_) ?_
  · subst hL; exact z_vl_0 _ 0 rfl
  · unfold f_Sp_sells_27
    refine j_iload_n (pc' := 1) q63_0 rfl rfl ?_
    refine j_callS1_pi (d := d + 1) (pc' := 4) q63_1 (Or.inr rfl) (Nat.le_of_ble_eq_true rfl) (Nat.le_of_ble_eq_true rfl) rfl (t_Y_isSeason hρ (d + 0) _ _) (fun r1 => ?_)
    refine j_if_eq (pc' := 7) q63_4 rfl (fun c2 => ?_) (fun c2 => ?_)
    · refine j_iconst (pc' := 37) q63_36 rfl ?_
      exact j_pzret q63_37 rfl (Or.inl rfl)
    · refine j_aload_n (pc' := 8) q63_7 rfl (by decide) rfl ?_
      refine j_getr (k := 27) (q := 28) (pc' := 11) q63_8 rfl (hρ 27 0 28 rfl) rfl ?_
      refine j_iload_n (pc' := 12) q63_11 rfl rfl ?_
      refine j_if (fun hi3 => ?_) (fun _ => j_none)
      refine j_iald (k := 28) (N := 4) (pc' := 13) q63_12 rfl hi3 rfl ?_
      refine j_iload_n (pc' := 14) q63_13 rfl rfl ?_
      refine j_icmp_lt (pc' := 17) q63_14 rfl (fun c4 => ?_) (fun c4 => ?_)
      · refine j_iconst (pc' := 37) q63_36 rfl ?_
        exact j_pzret q63_37 rfl (Or.inl rfl)
      · refine j_aload_n (pc' := 18) q63_17 rfl (by decide) rfl ?_
        refine j_getf (k := 27) (pc' := 21) q63_18 rfl rfl ?_
        refine j_aload_n (pc' := 22) q63_21 rfl (by decide) rfl ?_
        refine j_getr (k := 27) (q := 29) (pc' := 25) q63_22 rfl (hρ 27 1 29 rfl) rfl ?_
        refine j_iload_n (pc' := 26) q63_25 rfl rfl ?_
        refine j_if (fun hi5 => ?_) (fun _ => j_none)
        refine j_iald (k := 29) (N := 4) (pc' := 27) q63_26 rfl hi5 rfl ?_
        refine j_iload_n (pc' := 28) q63_27 rfl rfl ?_
        refine j_imul (pc' := 29) q63_28 rfl ?_
        refine j_icmp_lt (pc' := 32) q63_29 rfl (fun c6 => ?_) (fun c6 => ?_)
        · refine j_iconst (pc' := 37) q63_36 rfl ?_
          exact j_pzret q63_37 rfl (Or.inl rfl)
        · refine j_iconst (pc' := 33) q63_32 rfl ?_
          refine j_goto q63_33 rfl ?_
          exact j_pzret q63_37 rfl (Or.inr rfl)
set_option maxRecDepth 20000 in
set_option maxHeartbeats 4000000 in
theorem t_Sp_take_27 {xL : Nat} {xs : Nat → Int32} {ρ : Nat → Nat → Option Nat} (hρ : z_hR ρ) (d : Nat) (a1 : Int32) (a2 : Int32) (σ : zS) : ∀ q, f_Sp_take_27 a1 a2 σ = some q → z_ec xL xs ρ (d + 2) 64 [.ref 27, .int a1, .int a2] σ (em_v q) := by
  refine j_of (W := [.ref 27, .int a1, .int a2]) (fun L hL => ?_) ?_
  · subst hL; exact z_vl_0 _ 0 rfl
  · unfold f_Sp_take_27
    refine j_iload_n (pc' := 1) q64_0 rfl rfl ?_
    refine j_callS1_pi (d := d + 1) (pc' := 4) q64_1 (Or.inr rfl) (Nat.le_of_ble_eq_true rfl) (Nat.le_of_ble_eq_true rfl) rfl (t_Y_isSeason hρ (d + 0) _ _) (fun r1 => ?_)
    refine j_if_eq (pc' := 7) q64_4 rfl (fun c2 => ?_) (fun c2 => ?_)
    · exact j_vret q64_34 rfl
    · refine j_aload_n (pc' := 8) q64_7 rfl (by decide) rfl ?_
      refine j_getr (k := 27) (q := 28) (pc' := 11) q64_8 rfl (hρ 27 0 28 rfl) rfl ?_
      refine j_iload_n (pc' := 12) q64_11 rfl rfl ?_
      refine j_dup2 (pc' := 13) q64_12 ⟨rfl, rfl⟩ rfl ?_
      refine j_if (fun hi3 => ?_) (fun _ => j_none)
      refine j_iald (k := 28) (N := 4) (pc' := 14) q64_13 rfl hi3 rfl ?_
      refine j_iload_n (pc' := 15) q64_14 rfl rfl ?_
      refine j_isub (pc' := 16) q64_15 rfl ?_
      refine j_if (fun hi4 => ?_) (fun _ => j_none)
      refine j_iast (k := 28) (N := 4) (pc' := 17) q64_16 rfl hi4 rfl ?_
      refine j_nameS (fun τ5 => ?_)
      refine j_aload_n (pc' := 18) q64_17 rfl (by decide) rfl ?_
      refine j_dup (pc' := 19) q64_18 rfl rfl ?_
      refine j_getf (k := 27) (pc' := 22) q64_19 rfl rfl ?_
      refine j_aload_n (pc' := 23) q64_22 rfl (by decide) rfl ?_
      refine j_getr (k := 27) (q := 29) (pc' := 26) q64_23 rfl (hρ 27 1 29 rfl) rfl ?_
      refine j_iload_n (pc' := 27) q64_26 rfl rfl ?_
      refine j_if (fun hi6 => ?_) (fun _ => j_none)
      refine j_iald (k := 29) (N := 4) (pc' := 28) q64_27 rfl hi6 rfl ?_
      refine j_iload_n (pc' := 29) q64_28 rfl rfl ?_
      refine j_imul (pc' := 30) q64_29 rfl ?_
      refine j_isub (pc' := 31) q64_30 rfl ?_
      refine j_putf (k := 27) (pc' := 34) q64_31 rfl rfl ?_
      refine j_nameS (fun τ7 => ?_)
      exact j_vret q64_34 rfl
set_option maxRecDepth 20000 in
set_option maxHeartbeats 4000000 in
theorem t_G_buyAndSet_17 {xL : Nat} {xs : Nat → Int32} {ρ : Nat → Nat → Option Nat} (hρ : z_hR ρ) (d : Nat) (a1 : Int32) (a2 : Int32) (a3 : Int32) (σ : zS) : ∀ q, f_G_buyAndSet_17 a1 a2 a3 σ = some q → z_ec xL xs ρ (d + 3) 18 [.ref 17, .int a1, .int a2, .int a3] σ (em_i q) := by
  refine j_of (W := [.ref 17, .int a1, .int a2, .int a3]) (fun L hL => ?_) ?_
  · subst hL; exact z_vl_0 _ 0 rfl
  · unfold f_G_buyAndSet_17
    refine j_aload_n (pc' := 1) q18_0 rfl (by decide) rfl ?_
    refine j_iload_n (pc' := 2) q18_1 rfl rfl ?_
    refine j_callV1_pi (d := d + 2) (pc' := 5) q18_2 rfl (Nat.le_of_ble_eq_true rfl) (Nat.le_of_ble_eq_true rfl) rfl (t_G_hasCell_17 hρ (d + 1) _ _) (fun r1 => ?_)
    refine j_if_eq (pc' := 8) q18_5 rfl (fun c2 => ?_) (fun c2 => ?_)
    · refine j_iconst (pc' := 26) q18_25 rfl ?_
      exact j_iret q18_26 rfl
    · refine j_iload_n (pc' := 9) q18_8 rfl rfl ?_
      refine j_callS1_pi (d := d + 2) (pc' := 12) q18_9 (Or.inr rfl) (Nat.le_of_ble_eq_true rfl) (Nat.le_of_ble_eq_true rfl) rfl (t_Y_isSeason hρ (d + 1) _ _) (fun r3 => ?_)
      refine j_if_eq (pc' := 15) q18_12 rfl (fun c4 => ?_) (fun c4 => ?_)
      · refine j_iconst (pc' := 26) q18_25 rfl ?_
        exact j_iret q18_26 rfl
      · refine j_iload_n (pc' := 16) q18_15 rfl rfl ?_
        refine j_iconst (pc' := 17) q18_16 rfl ?_
        refine j_bipush (pc' := 19) q18_17 rfl ?_
        refine j_callS3_pi (d := d + 2) (pc' := 22) q18_19 (Or.inr rfl) (Nat.le_of_ble_eq_true rfl) (Nat.le_of_ble_eq_true rfl) rfl (t_Y_isIn hρ (d + 2) _ _ _ _) (fun r5 => ?_)
        refine j_if_ne (pc' := 25) q18_22 rfl (fun c6 => ?_) (fun c6 => ?_)
        · refine j_iconst (pc' := 26) q18_25 rfl ?_
          exact j_iret q18_26 rfl
        · refine j_aload_n (pc' := 28) q18_27 rfl (by decide) rfl ?_
          refine j_getr (k := 17) (q := 27) (pc' := 31) q18_28 rfl (hρ 17 9 27 rfl) rfl ?_
          refine j_iload_n (pc' := 32) q18_31 rfl rfl ?_
          refine j_iload_n (pc' := 33) q18_32 rfl rfl ?_
          refine j_callV2_pi (d := d + 2) (pc' := 36) q18_33 rfl (Nat.le_of_ble_eq_true rfl) (Nat.le_of_ble_eq_true rfl) rfl (t_Sp_sells_27 hρ (d + 0) _ _ _) (fun r7 => ?_)
          refine j_if_ne (pc' := 39) q18_36 rfl (fun c8 => ?_) (fun c8 => ?_)
          · refine j_bipush (pc' := 41) q18_39 rfl ?_
            exact j_iret q18_41 rfl
          · refine j_aload_n (pc' := 43) q18_42 rfl (by decide) rfl ?_
            refine j_getr (k := 17) (q := 27) (pc' := 46) q18_43 rfl (hρ 17 9 27 rfl) rfl ?_
            refine j_iload_n (pc' := 47) q18_46 rfl rfl ?_
            refine j_iload_n (pc' := 48) q18_47 rfl rfl ?_
            refine j_callV2_v (d := d + 2) (pc' := 51) q18_48 rfl (Nat.le_of_ble_eq_true rfl) (Nat.le_of_ble_eq_true rfl) rfl (t_Sp_take_27 hρ (d + 0) _ _ _) (fun r9 => ?_)
            refine j_aload_n (pc' := 52) q18_51 rfl (by decide) rfl ?_
            refine j_iload_n (pc' := 53) q18_52 rfl rfl ?_
            refine j_iload_n (pc' := 54) q18_53 rfl rfl ?_
            refine j_iload_n (pc' := 55) q18_54 rfl rfl ?_
            refine j_callV3_v (d := d + 2) (pc' := 58) q18_55 rfl (Nat.le_of_ble_eq_true rfl) (Nat.le_of_ble_eq_true rfl) rfl (t_G_set_17 hρ (d + 1) _ _ _ _) (fun r10 => ?_)
            refine j_aload_n (pc' := 59) q18_58 rfl (by decide) rfl ?_
            refine j_getr (k := 17) (q := 27) (pc' := 62) q18_59 rfl (hρ 17 9 27 rfl) rfl ?_
            refine j_getf (k := 27) (pc' := 65) q18_62 rfl rfl ?_
            exact j_iret q18_65 rfl
theorem q58_0 : z_fi (z_mi 58) 0 = some (0, .aload_n 0, 0, 0, 0, 0, 0) := rfl
theorem q58_1 : z_fi (z_mi 58) 1 = some (1, .invokevirtual 28, 0, 55, 0, 0, 0) := rfl
theorem q58_4 : z_fi (z_mi 58) 4 = some (4, .ifCond .ne 5, 0, 9, 0, 0, 0) := rfl
theorem q58_7 : z_fi (z_mi 58) 7 = some (7, .iconst 1, 0, 0, 0, 1, 0) := rfl
theorem q58_8 : z_fi (z_mi 58) 8 = some (8, .ireturn, 0, 0, 0, 0, 0) := rfl
theorem q58_9 : z_fi (z_mi 58) 9 = some (9, .iload_n 1, 0, 0, 0, 0, 0) := rfl
theorem q58_10 : z_fi (z_mi 58) 10 = some (10, .aload_n 0, 0, 0, 0, 0, 0) := rfl
theorem q58_11 : z_fi (z_mi 58) 11 = some (11, .getfield 19, 0, 3, 1, 0, 0) := rfl
theorem q58_14 : z_fi (z_mi 58) 14 = some (14, .if_icmp .ne 7, 0, 21, 0, 0, 0) := rfl
theorem q58_17 : z_fi (z_mi 58) 17 = some (17, .iconst 0, 0, 0, 0, 0, 0) := rfl
theorem q58_18 : z_fi (z_mi 58) 18 = some (18, .goto 4, 0, 22, 0, 0, 0) := rfl
theorem q58_21 : z_fi (z_mi 58) 21 = some (21, .iconst 3, 0, 0, 0, 3, 0) := rfl
theorem q58_22 : z_fi (z_mi 58) 22 = some (22, .ireturn, 0, 0, 0, 0, 0) := rfl
set_option maxRecDepth 20000 in
set_option maxHeartbeats 4000000 in
theorem t_Sh_faultAs_82 {xL : Nat} {xs : Nat → Int32} {ρ : Nat → Nat → Option Nat} (hρ : z_hR ρ) (d : Nat) (a1 : Int32) (σ : zS) : ∀ q, f_Sh_faultAs_82 a1 σ = some q → z_ec xL xs ρ (d + 1) 58 [.ref 82, .int a1] σ (em_pi σ q) := by
  refine j_of (W := [.ref 82, .int a1]) (fun L hL => ?_) ?_
  · subst hL; exact z_vl_0 _ 0 rfl
  · unfold f_Sh_faultAs_82
    refine j_aload_n (pc' := 1) q58_0 rfl (by decide) rfl ?_
    refine j_callV0_pi (d := d + 0) (pc' := 4) q58_1 rfl (Nat.le_of_ble_eq_true rfl) (Nat.le_of_ble_eq_true rfl) rfl (t_Sh_isThere_82 hρ (d + 0) _) (fun r1 => ?_)
    refine j_if_ne (pc' := 7) q58_4 rfl (fun c2 => ?_) (fun c2 => ?_)
    · refine j_iconst (pc' := 8) q58_7 rfl ?_
      exact j_piret q58_8 rfl
    · refine j_iload_n (pc' := 10) q58_9 rfl rfl ?_
      refine j_aload_n (pc' := 11) q58_10 rfl (by decide) rfl ?_
      refine j_getf (k := 82) (pc' := 14) q58_11 rfl rfl ?_
      refine j_icmp_ne (pc' := 17) q58_14 rfl (fun c3 => ?_) (fun c3 => ?_)
      · refine j_iconst (pc' := 18) q58_17 rfl ?_
        refine j_goto q58_18 rfl ?_
        exact j_piret q58_22 rfl
      · refine j_iconst (pc' := 22) q58_21 rfl ?_
        exact j_piret q58_22 rfl
set_option maxRecDepth 20000 in
set_option maxHeartbeats 4000000 in
theorem t_Sh_hasThree_84 {xL : Nat} {xs : Nat → Int32} {ρ : Nat → Nat → Option Nat} (hρ : z_hR ρ) (d : Nat) (a1 : Int32) (σ : zS) : ∀ q, f_Sh_hasThree_84 a1 σ = some q → z_ec xL xs ρ (d + 0) 59 [.ref 84, .int a1] σ (em_pi σ q) := by
  refine j_of (W := [.ref 84, .int a1]) (fun L hL => ?_) ?_
  · subst hL; exact z_vl_0 _ 0 rfl
  · unfold f_Sh_hasThree_84
    refine j_iload_n (pc' := 1) q59_0 rfl rfl ?_
    refine j_if_lt (pc' := 4) q59_1 rfl (fun c1 => ?_) (fun c1 => ?_)
    · refine j_iconst (pc' := 25) q59_24 rfl ?_
      exact j_pzret q59_25 rfl (Or.inl rfl)
    · refine j_iload_n (pc' := 5) q59_4 rfl rfl ?_
      refine j_aload_n (pc' := 6) q59_5 rfl (by decide) rfl ?_
      refine j_getf (k := 84) (pc' := 9) q59_6 rfl rfl ?_
      refine j_iconst (pc' := 10) q59_9 rfl ?_
      refine j_isub (pc' := 11) q59_10 rfl ?_
      refine j_icmp_gt (pc' := 14) q59_11 rfl (fun c2 => ?_) (fun c2 => ?_)
      · refine j_iconst (pc' := 25) q59_24 rfl ?_
        exact j_pzret q59_25 rfl (Or.inl rfl)
      · refine j_iload_n (pc' := 15) q59_14 rfl rfl ?_
        refine j_bipush (pc' := 17) q59_15 rfl ?_
        refine j_icmp_gt (pc' := 20) q59_17 rfl (fun c3 => ?_) (fun c3 => ?_)
        · refine j_iconst (pc' := 25) q59_24 rfl ?_
          exact j_pzret q59_25 rfl (Or.inl rfl)
        · refine j_iconst (pc' := 21) q59_20 rfl ?_
          refine j_goto q59_21 rfl ?_
          exact j_pzret q59_25 rfl (Or.inr rfl)
set_option maxRecDepth 20000 in
set_option maxHeartbeats 4000000 in
theorem t_Sh_faultAs_84 {xL : Nat} {xs : Nat → Int32} {ρ : Nat → Nat → Option Nat} (hρ : z_hR ρ) (d : Nat) (a1 : Int32) (σ : zS) : ∀ q, f_Sh_faultAs_84 a1 σ = some q → z_ec xL xs ρ (d + 1) 58 [.ref 84, .int a1] σ (em_pi σ q) := by
  refine j_of (W := [.ref 84, .int a1]) (fun L hL => ?_) ?_
  · subst hL; exact z_vl_0 _ 0 rfl
  · unfold f_Sh_faultAs_84
    refine j_aload_n (pc' := 1) q58_0 rfl (by decide) rfl ?_
    refine j_callV0_pi (d := d + 0) (pc' := 4) q58_1 rfl (Nat.le_of_ble_eq_true rfl) (Nat.le_of_ble_eq_true rfl) rfl (t_Sh_isThere_84 hρ (d + 0) _) (fun r1 => ?_)
    refine j_if_ne (pc' := 7) q58_4 rfl (fun c2 => ?_) (fun c2 => ?_)
    · refine j_iconst (pc' := 8) q58_7 rfl ?_
      exact j_piret q58_8 rfl
    · refine j_iload_n (pc' := 10) q58_9 rfl rfl ?_
      refine j_aload_n (pc' := 11) q58_10 rfl (by decide) rfl ?_
      refine j_getf (k := 84) (pc' := 14) q58_11 rfl rfl ?_
      refine j_icmp_ne (pc' := 17) q58_14 rfl (fun c3 => ?_) (fun c3 => ?_)
      · refine j_iconst (pc' := 18) q58_17 rfl ?_
        refine j_goto q58_18 rfl ?_
        exact j_piret q58_22 rfl
      · refine j_iconst (pc' := 22) q58_21 rfl ?_
        exact j_piret q58_22 rfl
set_option maxRecDepth 20000 in
set_option maxHeartbeats 4000000 in
theorem t_Sh_hasThree_86 {xL : Nat} {xs : Nat → Int32} {ρ : Nat → Nat → Option Nat} (hρ : z_hR ρ) (d : Nat) (a1 : Int32) (σ : zS) : ∀ q, f_Sh_hasThree_86 a1 σ = some q → z_ec xL xs ρ (d + 0) 59 [.ref 86, .int a1] σ (em_pi σ q) := by
  refine j_of (W := [.ref 86, .int a1]) (fun L hL => ?_) ?_
  · subst hL; exact z_vl_0 _ 0 rfl
  · unfold f_Sh_hasThree_86
    refine j_iload_n (pc' := 1) q59_0 rfl rfl ?_
    refine j_if_lt (pc' := 4) q59_1 rfl (fun c1 => ?_) (fun c1 => ?_)
    · refine j_iconst (pc' := 25) q59_24 rfl ?_
      exact j_pzret q59_25 rfl (Or.inl rfl)
    · refine j_iload_n (pc' := 5) q59_4 rfl rfl ?_
      refine j_aload_n (pc' := 6) q59_5 rfl (by decide) rfl ?_
      refine j_getf (k := 86) (pc' := 9) q59_6 rfl rfl ?_
      refine j_iconst (pc' := 10) q59_9 rfl ?_
      refine j_isub (pc' := 11) q59_10 rfl ?_
      refine j_icmp_gt (pc' := 14) q59_11 rfl (fun c2 => ?_) (fun c2 => ?_)
      · refine j_iconst (pc' := 25) q59_24 rfl ?_
        exact j_pzret q59_25 rfl (Or.inl rfl)
      · refine j_iload_n (pc' := 15) q59_14 rfl rfl ?_
        refine j_bipush (pc' := 17) q59_15 rfl ?_
        refine j_icmp_gt (pc' := 20) q59_17 rfl (fun c3 => ?_) (fun c3 => ?_)
        · refine j_iconst (pc' := 25) q59_24 rfl ?_
          exact j_pzret q59_25 rfl (Or.inl rfl)
        · refine j_iconst (pc' := 21) q59_20 rfl ?_
          refine j_goto q59_21 rfl ?_
          exact j_pzret q59_25 rfl (Or.inr rfl)
set_option maxRecDepth 20000 in
set_option maxHeartbeats 4000000 in
theorem t_Sh_faultAs_86 {xL : Nat} {xs : Nat → Int32} {ρ : Nat → Nat → Option Nat} (hρ : z_hR ρ) (d : Nat) (a1 : Int32) (σ : zS) : ∀ q, f_Sh_faultAs_86 a1 σ = some q → z_ec xL xs ρ (d + 1) 58 [.ref 86, .int a1] σ (em_pi σ q) := by
  refine j_of (W := [.ref 86, .int a1]) (fun L hL => ?_) ?_
  · subst hL; exact z_vl_0 _ 0 rfl
  · unfold f_Sh_faultAs_86
    refine j_aload_n (pc' := 1) q58_0 rfl (by decide) rfl ?_
    refine j_callV0_pi (d := d + 0) (pc' := 4) q58_1 rfl (Nat.le_of_ble_eq_true rfl) (Nat.le_of_ble_eq_true rfl) rfl (t_Sh_isThere_86 hρ (d + 0) _) (fun r1 => ?_)
    refine j_if_ne (pc' := 7) q58_4 rfl (fun c2 => ?_) (fun c2 => ?_)
    · refine j_iconst (pc' := 8) q58_7 rfl ?_
      exact j_piret q58_8 rfl
    · refine j_iload_n (pc' := 10) q58_9 rfl rfl ?_
      refine j_aload_n (pc' := 11) q58_10 rfl (by decide) rfl ?_
      refine j_getf (k := 86) (pc' := 14) q58_11 rfl rfl ?_
      refine j_icmp_ne (pc' := 17) q58_14 rfl (fun c3 => ?_) (fun c3 => ?_)
      · refine j_iconst (pc' := 18) q58_17 rfl ?_
        refine j_goto q58_18 rfl ?_
        exact j_piret q58_22 rfl
      · refine j_iconst (pc' := 22) q58_21 rfl ?_
        exact j_piret q58_22 rfl
set_option maxRecDepth 20000 in
set_option maxHeartbeats 4000000 in
theorem t_Sh_hasThree_88 {xL : Nat} {xs : Nat → Int32} {ρ : Nat → Nat → Option Nat} (hρ : z_hR ρ) (d : Nat) (a1 : Int32) (σ : zS) : ∀ q, f_Sh_hasThree_88 a1 σ = some q → z_ec xL xs ρ (d + 0) 59 [.ref 88, .int a1] σ (em_pi σ q) := by
  refine j_of (W := [.ref 88, .int a1]) (fun L hL => ?_) ?_
  · subst hL; exact z_vl_0 _ 0 rfl
  · unfold f_Sh_hasThree_88
    refine j_iload_n (pc' := 1) q59_0 rfl rfl ?_
    refine j_if_lt (pc' := 4) q59_1 rfl (fun c1 => ?_) (fun c1 => ?_)
    · refine j_iconst (pc' := 25) q59_24 rfl ?_
      exact j_pzret q59_25 rfl (Or.inl rfl)
    · refine j_iload_n (pc' := 5) q59_4 rfl rfl ?_
      refine j_aload_n (pc' := 6) q59_5 rfl (by decide) rfl ?_
      refine j_getf (k := 88) (pc' := 9) q59_6 rfl rfl ?_
      refine j_iconst (pc' := 10) q59_9 rfl ?_
      refine j_isub (pc' := 11) q59_10 rfl ?_
      refine j_icmp_gt (pc' := 14) q59_11 rfl (fun c2 => ?_) (fun c2 => ?_)
      · refine j_iconst (pc' := 25) q59_24 rfl ?_
        exact j_pzret q59_25 rfl (Or.inl rfl)
      · refine j_iload_n (pc' := 15) q59_14 rfl rfl ?_
        refine j_bipush (pc' := 17) q59_15 rfl ?_
        refine j_icmp_gt (pc' := 20) q59_17 rfl (fun c3 => ?_) (fun c3 => ?_)
        · refine j_iconst (pc' := 25) q59_24 rfl ?_
          exact j_pzret q59_25 rfl (Or.inl rfl)
        · refine j_iconst (pc' := 21) q59_20 rfl ?_
          refine j_goto q59_21 rfl ?_
          exact j_pzret q59_25 rfl (Or.inr rfl)
set_option maxRecDepth 20000 in
set_option maxHeartbeats 4000000 in
theorem t_Sh_faultAs_88 {xL : Nat} {xs : Nat → Int32} {ρ : Nat → Nat → Option Nat} (hρ : z_hR ρ) (d : Nat) (a1 : Int32) (σ : zS) : ∀ q, f_Sh_faultAs_88 a1 σ = some q → z_ec xL xs ρ (d + 1) 58 [.ref 88, .int a1] σ (em_pi σ q) := by
  refine j_of (W := [.ref 88, .int a1]) (fun L hL => ?_) ?_
  · subst hL; exact z_vl_0 _ 0 rfl
  · unfold f_Sh_faultAs_88
    refine j_aload_n (pc' := 1) q58_0 rfl (by decide) rfl ?_
    refine j_callV0_pi (d := d + 0) (pc' := 4) q58_1 rfl (Nat.le_of_ble_eq_true rfl) (Nat.le_of_ble_eq_true rfl) rfl (t_Sh_isThere_88 hρ (d + 0) _) (fun r1 => ?_)
    refine j_if_ne (pc' := 7) q58_4 rfl (fun c2 => ?_) (fun c2 => ?_)
    · refine j_iconst (pc' := 8) q58_7 rfl ?_
      exact j_piret q58_8 rfl
    · refine j_iload_n (pc' := 10) q58_9 rfl rfl ?_
      refine j_aload_n (pc' := 11) q58_10 rfl (by decide) rfl ?_
      refine j_getf (k := 88) (pc' := 14) q58_11 rfl rfl ?_
      refine j_icmp_ne (pc' := 17) q58_14 rfl (fun c3 => ?_) (fun c3 => ?_)
      · refine j_iconst (pc' := 18) q58_17 rfl ?_
        refine j_goto q58_18 rfl ?_
        exact j_piret q58_22 rfl
      · refine j_iconst (pc' := 22) q58_21 rfl ?_
        exact j_piret q58_22 rfl
theorem q145_0 : z_fi (z_mi 145) 0 = some (0, .iload_n 1, 0, 0, 0, 0, 0) := rfl
theorem q145_1 : z_fi (z_mi 145) 1 = some (1, .iconst 0, 0, 0, 0, 0, 0) := rfl
theorem q145_2 : z_fi (z_mi 145) 2 = some (2, .iconst 3, 0, 0, 0, 3, 0) := rfl
theorem q145_3 : z_fi (z_mi 145) 3 = some (3, .invokestatic 60, 1, 99, 3, 0, 0) := rfl
theorem q145_6 : z_fi (z_mi 145) 6 = some (6, .ifCond .eq 23, 0, 29, 0, 0, 0) := rfl
theorem q145_9 : z_fi (z_mi 145) 9 = some (9, .iload_n 2, 0, 0, 0, 0, 0) := rfl
theorem q145_10 : z_fi (z_mi 145) 10 = some (10, .iconst 0, 0, 0, 0, 0, 0) := rfl
theorem q145_11 : z_fi (z_mi 145) 11 = some (11, .iconst 2, 0, 0, 0, 2, 0) := rfl
theorem q145_12 : z_fi (z_mi 145) 12 = some (12, .invokestatic 60, 1, 99, 3, 0, 0) := rfl
theorem q145_15 : z_fi (z_mi 145) 15 = some (15, .ifCond .eq 14, 0, 29, 0, 0, 0) := rfl
theorem q145_18 : z_fi (z_mi 145) 18 = some (18, .iload 4, 0, 0, 0, 0, 0) := rfl
theorem q145_20 : z_fi (z_mi 145) 20 = some (20, .iconst 0, 0, 0, 0, 0, 0) := rfl
theorem q145_21 : z_fi (z_mi 145) 21 = some (21, .bipush 13, 0, 0, 0, 13, 0) := rfl
theorem q145_23 : z_fi (z_mi 145) 23 = some (23, .invokestatic 60, 1, 99, 3, 0, 0) := rfl
theorem q145_26 : z_fi (z_mi 145) 26 = some (26, .ifCond .ne 5, 0, 31, 0, 0, 0) := rfl
theorem q145_29 : z_fi (z_mi 145) 29 = some (29, .iconst (-1), 0, 0, 0, (-1), 0) := rfl
theorem q145_30 : z_fi (z_mi 145) 30 = some (30, .ireturn, 0, 0, 0, 0, 0) := rfl
theorem q145_31 : z_fi (z_mi 145) 31 = some (31, .aload_n 0, 0, 0, 0, 0, 0) := rfl
theorem q145_32 : z_fi (z_mi 145) 32 = some (32, .getfield 25, 0, 9, 3, 0, 0) := rfl
theorem q145_35 : z_fi (z_mi 145) 35 = some (35, .iload_n 1, 0, 0, 0, 0, 0) := rfl
theorem q145_36 : z_fi (z_mi 145) 36 = some (36, .aaload, 0, 0, 0, 0, 0) := rfl
theorem q145_37 : z_fi (z_mi 145) 37 = some (37, .astore 5, 0, 0, 0, 0, 0) := rfl
theorem q145_39 : z_fi (z_mi 145) 39 = some (39, .iload 4, 0, 0, 0, 0, 0) := rfl
theorem q145_41 : z_fi (z_mi 145) 41 = some (41, .ifCond .ne 7, 0, 48, 0, 0, 0) := rfl
theorem q145_44 : z_fi (z_mi 145) 44 = some (44, .iconst 0, 0, 0, 0, 0, 0) := rfl
theorem q145_45 : z_fi (z_mi 145) 45 = some (45, .goto 9, 0, 54, 0, 0, 0) := rfl
theorem q145_48 : z_fi (z_mi 145) 48 = some (48, .aload 5, 0, 0, 0, 0, 0) := rfl
theorem q145_50 : z_fi (z_mi 145) 50 = some (50, .iload_n 2, 0, 0, 0, 0, 0) := rfl
theorem q145_51 : z_fi (z_mi 145) 51 = some (51, .invokevirtual 290, 0, 58, 1, 0, 0) := rfl
theorem q145_54 : z_fi (z_mi 145) 54 = some (54, .istore 6, 0, 0, 0, 0, 0) := rfl
theorem q145_56 : z_fi (z_mi 145) 56 = some (56, .iconst 0, 0, 0, 0, 0, 0) := rfl
theorem q145_57 : z_fi (z_mi 145) 57 = some (57, .istore 7, 0, 0, 0, 0, 0) := rfl
theorem q145_59 : z_fi (z_mi 145) 59 = some (59, .aload_n 0, 0, 0, 0, 0, 0) := rfl
theorem q145_60 : z_fi (z_mi 145) 60 = some (60, .getfield 16, 0, 9, 1, 0, 0) := rfl
theorem q145_63 : z_fi (z_mi 145) 63 = some (63, .aload_n 0, 0, 0, 0, 0, 0) := rfl
theorem q145_64 : z_fi (z_mi 145) 64 = some (64, .getfield 10, 0, 9, 0, 0, 0) := rfl
theorem q145_67 : z_fi (z_mi 145) 67 = some (67, .invokevirtual 85, 0, 6, 1, 0, 0) := rfl
theorem q145_70 : z_fi (z_mi 145) 70 = some (70, .iconst 0, 0, 0, 0, 0, 0) := rfl
theorem q145_71 : z_fi (z_mi 145) 71 = some (71, .istore 8, 0, 0, 0, 0, 0) := rfl
theorem q145_73 : z_fi (z_mi 145) 73 = some (73, .iload 8, 0, 0, 0, 0, 0) := rfl
theorem q145_75 : z_fi (z_mi 145) 75 = some (75, .iload 4, 0, 0, 0, 0, 0) := rfl
theorem q145_77 : z_fi (z_mi 145) 77 = some (77, .if_icmp .ge 85, 0, 162, 0, 0, 0) := rfl
theorem q145_80 : z_fi (z_mi 145) 80 = some (80, .iload 6, 0, 0, 0, 0, 0) := rfl
theorem q145_82 : z_fi (z_mi 145) 82 = some (82, .ifCond .ne 80, 0, 162, 0, 0, 0) := rfl
theorem q145_85 : z_fi (z_mi 145) 85 = some (85, .iload_n 3, 0, 0, 0, 0, 0) := rfl
theorem q145_86 : z_fi (z_mi 145) 86 = some (86, .iconst 3, 0, 0, 0, 3, 0) := rfl
theorem q145_87 : z_fi (z_mi 145) 87 = some (87, .iload 8, 0, 0, 0, 0, 0) := rfl
theorem q145_89 : z_fi (z_mi 145) 89 = some (89, .imul, 0, 0, 0, 0, 0) := rfl
theorem q145_90 : z_fi (z_mi 145) 90 = some (90, .iadd, 0, 0, 0, 0, 0) := rfl
theorem q145_91 : z_fi (z_mi 145) 91 = some (91, .istore 9, 0, 0, 0, 0, 0) := rfl
theorem q145_93 : z_fi (z_mi 145) 93 = some (93, .aload 5, 0, 0, 0, 0, 0) := rfl
theorem q145_95 : z_fi (z_mi 145) 95 = some (95, .iload 9, 0, 0, 0, 0, 0) := rfl
theorem q145_97 : z_fi (z_mi 145) 97 = some (97, .invokevirtual 293, 0, 59, 1, 0, 0) := rfl
theorem q145_100 : z_fi (z_mi 145) 100 = some (100, .ifCond .ne 9, 0, 109, 0, 0, 0) := rfl
theorem q145_103 : z_fi (z_mi 145) 103 = some (103, .iconst 2, 0, 0, 0, 2, 0) := rfl
theorem q145_104 : z_fi (z_mi 145) 104 = some (104, .istore 6, 0, 0, 0, 0, 0) := rfl
theorem q145_106 : z_fi (z_mi 145) 106 = some (106, .goto 50, 0, 156, 0, 0, 0) := rfl
theorem q145_109 : z_fi (z_mi 145) 109 = some (109, .aload_n 0, 0, 0, 0, 0, 0) := rfl
theorem q145_110 : z_fi (z_mi 145) 110 = some (110, .getfield 16, 0, 9, 1, 0, 0) := rfl
theorem q145_113 : z_fi (z_mi 145) 113 = some (113, .aload 5, 0, 0, 0, 0, 0) := rfl
theorem q145_115 : z_fi (z_mi 145) 115 = some (115, .getfield 284, 0, 3, 0, 0, 0) := rfl
set_option maxRecDepth 8000 in
theorem q145_118 : z_fi (z_mi 145) 118 = some (118, .iload 9, 0, 0, 0, 0, 0) := rfl
set_option maxRecDepth 8000 in
theorem q145_120 : z_fi (z_mi 145) 120 = some (120, .iaload, 0, 0, 0, 0, 0) := rfl
set_option maxRecDepth 8000 in
theorem q145_121 : z_fi (z_mi 145) 121 = some (121, .aload 5, 0, 0, 0, 0, 0) := rfl
set_option maxRecDepth 8000 in
theorem q145_123 : z_fi (z_mi 145) 123 = some (123, .getfield 284, 0, 3, 0, 0, 0) := rfl
set_option maxRecDepth 8000 in
theorem q145_126 : z_fi (z_mi 145) 126 = some (126, .iload 9, 0, 0, 0, 0, 0) := rfl
set_option maxRecDepth 8000 in
theorem q145_128 : z_fi (z_mi 145) 128 = some (128, .iconst 1, 0, 0, 0, 1, 0) := rfl
set_option maxRecDepth 8000 in
theorem q145_129 : z_fi (z_mi 145) 129 = some (129, .iadd, 0, 0, 0, 0, 0) := rfl
set_option maxRecDepth 8000 in
theorem q145_130 : z_fi (z_mi 145) 130 = some (130, .iaload, 0, 0, 0, 0, 0) := rfl
set_option maxRecDepth 8000 in
theorem q145_131 : z_fi (z_mi 145) 131 = some (131, .aload 5, 0, 0, 0, 0, 0) := rfl
set_option maxRecDepth 8000 in
theorem q145_133 : z_fi (z_mi 145) 133 = some (133, .getfield 284, 0, 3, 0, 0, 0) := rfl
set_option maxRecDepth 8000 in
theorem q145_136 : z_fi (z_mi 145) 136 = some (136, .iload 9, 0, 0, 0, 0, 0) := rfl
set_option maxRecDepth 8000 in
theorem q145_138 : z_fi (z_mi 145) 138 = some (138, .iconst 2, 0, 0, 0, 2, 0) := rfl
set_option maxRecDepth 8000 in
theorem q145_139 : z_fi (z_mi 145) 139 = some (139, .iadd, 0, 0, 0, 0, 0) := rfl
set_option maxRecDepth 8000 in
theorem q145_140 : z_fi (z_mi 145) 140 = some (140, .iaload, 0, 0, 0, 0, 0) := rfl
set_option maxRecDepth 8000 in
theorem q145_141 : z_fi (z_mi 145) 141 = some (141, .invokevirtual 161, 0, 18, 3, 0, 0) := rfl
set_option maxRecDepth 8000 in
theorem q145_144 : z_fi (z_mi 145) 144 = some (144, .ifCond .ge 9, 0, 153, 0, 0, 0) := rfl
set_option maxRecDepth 8000 in
theorem q145_147 : z_fi (z_mi 145) 147 = some (147, .bipush (-20), 0, 0, 0, (-20), 0) := rfl
set_option maxRecDepth 8000 in
theorem q145_149 : z_fi (z_mi 145) 149 = some (149, .iload 8, 0, 0, 0, 0, 0) := rfl
set_option maxRecDepth 8000 in
theorem q145_151 : z_fi (z_mi 145) 151 = some (151, .isub, 0, 0, 0, 0, 0) := rfl
set_option maxRecDepth 8000 in
theorem q145_152 : z_fi (z_mi 145) 152 = some (152, .ireturn, 0, 0, 0, 0, 0) := rfl
set_option maxRecDepth 8000 in
theorem q145_153 : z_fi (z_mi 145) 153 = some (153, .iinc 7 1, 0, 0, 0, 1, 0) := rfl
set_option maxRecDepth 8000 in
theorem q145_156 : z_fi (z_mi 145) 156 = some (156, .iinc 8 1, 0, 0, 0, 1, 0) := rfl
set_option maxRecDepth 8000 in
theorem q145_159 : z_fi (z_mi 145) 159 = some (159, .goto (-86), 0, 73, 0, 0, 0) := rfl
set_option maxRecDepth 8000 in
theorem q145_162 : z_fi (z_mi 145) 162 = some (162, .aload_n 0, 0, 0, 0, 0, 0) := rfl
set_option maxRecDepth 8000 in
theorem q145_163 : z_fi (z_mi 145) 163 = some (163, .getfield 10, 0, 9, 0, 0, 0) := rfl
set_option maxRecDepth 8000 in
theorem q145_166 : z_fi (z_mi 145) 166 = some (166, .aload_n 0, 0, 0, 0, 0, 0) := rfl
set_option maxRecDepth 8000 in
theorem q145_167 : z_fi (z_mi 145) 167 = some (167, .getfield 16, 0, 9, 1, 0, 0) := rfl
set_option maxRecDepth 8000 in
theorem q145_170 : z_fi (z_mi 145) 170 = some (170, .invokevirtual 85, 0, 6, 1, 0, 0) := rfl
set_option maxRecDepth 8000 in
theorem q145_173 : z_fi (z_mi 145) 173 = some (173, .aload_n 0, 0, 0, 0, 0, 0) := rfl
set_option maxRecDepth 8000 in
theorem q145_174 : z_fi (z_mi 145) 174 = some (174, .iload 6, 0, 0, 0, 0, 0) := rfl
set_option maxRecDepth 8000 in
theorem q145_176 : z_fi (z_mi 145) 176 = some (176, .putfield 296, 0, 9, 10, 0, 0) := rfl
set_option maxRecDepth 8000 in
theorem q145_179 : z_fi (z_mi 145) 179 = some (179, .iload 7, 0, 0, 0, 0, 0) := rfl
set_option maxRecDepth 8000 in
theorem q145_181 : z_fi (z_mi 145) 181 = some (181, .ireturn, 0, 0, 0, 0, 0) := rfl
set_option maxRecDepth 20000 in
set_option maxHeartbeats 4000000 in
theorem t_Y_read {xL : Nat} {xs : Nat → Int32} {ρ : Nat → Nat → Option Nat} (hρ : z_hR ρ) (d : Nat) (a1 : Int32) (a2 : Int32) (a3 : Int32) (a4 : Int32) (σ : zS) : ∀ q, f_Y_read a1 a2 a3 a4 σ = some q → z_ec xL xs ρ (d + 4) 145 [.ref 0, .int a1, .int a2, .int a3, .int a4] σ (em_i q) := by
  refine j_of (W := [.ref 0, .int a1, .int a2, .int a3, .int a4, .null, .null, .null, .null, .null]) (fun L hL => ?_) ?_
  · subst hL; exact z_vl_0 _ 5 rfl
  · unfold f_Y_read
    refine j_iload_n (pc' := 1) q145_0 rfl rfl ?_
    refine j_iconst (pc' := 2) q145_1 rfl ?_
    refine j_iconst (pc' := 3) q145_2 rfl ?_
    refine j_callS3_pi (d := d + 3) (pc' := 6) q145_3 (Or.inl rfl) (Nat.le_of_ble_eq_true rfl) (Nat.le_of_ble_eq_true rfl) rfl (t_Y_isIn hρ (d + 3) _ _ _ _) (fun r1 => ?_)
    refine j_if_eq (pc' := 9) q145_6 rfl (fun c2 => ?_) (fun c2 => ?_)
    · refine j_iconst (pc' := 30) q145_29 rfl ?_
      exact j_iret q145_30 rfl
    · refine j_iload_n (pc' := 10) q145_9 rfl rfl ?_
      refine j_iconst (pc' := 11) q145_10 rfl ?_
      refine j_iconst (pc' := 12) q145_11 rfl ?_
      refine j_callS3_pi (d := d + 3) (pc' := 15) q145_12 (Or.inl rfl) (Nat.le_of_ble_eq_true rfl) (Nat.le_of_ble_eq_true rfl) rfl (t_Y_isIn hρ (d + 3) _ _ _ _) (fun r3 => ?_)
      refine j_if_eq (pc' := 18) q145_15 rfl (fun c4 => ?_) (fun c4 => ?_)
      · refine j_iconst (pc' := 30) q145_29 rfl ?_
        exact j_iret q145_30 rfl
      · refine j_iload (pc' := 20) q145_18 rfl rfl ?_
        refine j_iconst (pc' := 21) q145_20 rfl ?_
        refine j_bipush (pc' := 23) q145_21 rfl ?_
        refine j_callS3_pi (d := d + 3) (pc' := 26) q145_23 (Or.inl rfl) (Nat.le_of_ble_eq_true rfl) (Nat.le_of_ble_eq_true rfl) rfl (t_Y_isIn hρ (d + 3) _ _ _ _) (fun r5 => ?_)
        refine j_if_ne (pc' := 29) q145_26 rfl (fun c6 => ?_) (fun c6 => ?_)
        · refine j_iconst (pc' := 30) q145_29 rfl ?_
          exact j_iret q145_30 rfl
        · refine j_aload_n (pc' := 32) q145_31 rfl (by decide) rfl ?_
          refine j_getr (k := 0) (q := 34) (pc' := 35) q145_32 rfl (hρ 0 3 34 rfl) rfl ?_
          refine j_iload_n (pc' := 36) q145_35 rfl rfl ?_
          refine j_asht (pc' := 37) hρ q145_36 rfl (fun _ => ?_) (fun _ => ?_) (fun _ => ?_) (fun _ => ?_)
          · refine j_astore5 (pc' := 39) q145_37 rfl (by decide) (Nat.le_of_ble_eq_true rfl) rfl ?_
            refine j_iload (pc' := 41) q145_39 rfl rfl ?_
            refine j_join (T := Int32) 54 (fun t7 => [.ref 0, .null, .null, .int a3, .int a4, .ref 82, .null, .null, .null, .null]) (fun t7 => [.int t7]) (fun t7 => σ) (fun t7 => ?_) (fun j7 hj7 => ?_)
            · show z_J _ _ _ _ _ _ _ _ _ _ _ _
              refine j_istore6 (pc' := 56) q145_54 rfl (Nat.le_of_ble_eq_true rfl) rfl ?_
              refine j_iconst (pc' := 57) q145_56 rfl ?_
              refine j_istore7 (pc' := 59) q145_57 rfl (Nat.le_of_ble_eq_true rfl) rfl ?_
              refine j_aload_n (pc' := 60) q145_59 rfl (by decide) rfl ?_
              refine j_getr (k := 0) (q := 17) (pc' := 63) q145_60 rfl (hρ 0 1 17 rfl) rfl ?_
              refine j_aload_n (pc' := 64) q145_63 rfl (by decide) rfl ?_
              refine j_getr (k := 0) (q := 1) (pc' := 67) q145_64 rfl (hρ 0 0 1 rfl) rfl ?_
              refine j_callV1_v (d := d + 3) (pc' := 70) q145_67 rfl (Nat.le_of_ble_eq_true rfl) (Nat.le_of_ble_eq_true rfl) rfl (t_G_copyFrom_17_1 hρ (d + 2) _) (fun r8 => ?_)
              refine j_iconst (pc' := 71) q145_70 rfl ?_
              refine j_istore8 (pc' := 73) q145_71 rfl (Nat.le_of_ble_eq_true rfl) rfl ?_
              refine j_forget (V' := [.ref 0, .null, .null, .int a3, .int a4, .ref 82, .int t7, .int (0 : Int32), .int (0 : Int32), .null]) (z_le_s (z_le_n (z_le_n (z_le_s (z_le_s (z_le_s (z_le_s (z_le_s (z_le_s (z_le_n (z_le_nil))))))))))) ?_
              refine j_loopX (S := Int32 × Int32 × Int32 × zS) (E := Int32 × Int32 × zS) Sum.inl 162 (fun s9 => [.ref 0, .null, .null, .int a3, .int a4, .ref 82, .int s9.1, .int s9.2.1, .int s9.2.2.1, .null]) (fun s9 => s9.2.2.2) (fun b9 => [.ref 0, .null, .null, .null, .null, .null, .int b9.1, .int b9.2.1, .null, .null]) (fun b9 => b9.2.2) (fun b9 => ?_) (fun R9 hR9 hX9 s9 => ?_) (t7, (0 : Int32), (0 : Int32), r8)
              · show z_J _ _ _ _ _ _ _ _ _ _ _ _
                refine j_aload_n (pc' := 163) q145_162 rfl (by decide) rfl ?_
                refine j_getr (k := 0) (q := 1) (pc' := 166) q145_163 rfl (hρ 0 0 1 rfl) rfl ?_
                refine j_aload_n (pc' := 167) q145_166 rfl (by decide) rfl ?_
                refine j_getr (k := 0) (q := 17) (pc' := 170) q145_167 rfl (hρ 0 1 17 rfl) rfl ?_
                refine j_callV1_v (d := d + 3) (pc' := 173) q145_170 rfl (Nat.le_of_ble_eq_true rfl) (Nat.le_of_ble_eq_true rfl) rfl (t_G_copyFrom_1_17 hρ (d + 2) _) (fun r21 => ?_)
                refine j_aload_n (pc' := 174) q145_173 rfl (by decide) rfl ?_
                refine j_iload (pc' := 176) q145_174 rfl rfl ?_
                refine j_putf (k := 0) (pc' := 179) q145_176 rfl rfl ?_
                refine j_nameS (fun τ22 => ?_)
                refine j_iload (pc' := 181) q145_179 rfl rfl ?_
                exact j_iret q145_181 rfl
              · show z_J _ _ _ _ _ _ _ _ _ _ _ _
                refine j_iload (pc' := 75) q145_73 rfl rfl ?_
                refine j_iload (pc' := 77) q145_75 rfl rfl ?_
                refine j_icmp_ge (pc' := 80) q145_77 rfl (fun c10 => ?_) (fun c10 => ?_)
                · exact j_exit (j_forget (z_le_s (z_le_n (z_le_n (z_le_n (z_le_n (z_le_n (z_le_s (z_le_s (z_le_n (z_le_n (z_le_nil))))))))))) (hX9 (s9.1, s9.2.1, s9.2.2.2)))
                · refine j_iload (pc' := 82) q145_80 rfl rfl ?_
                  refine j_if_ne (pc' := 85) q145_82 rfl (fun c11 => ?_) (fun c11 => ?_)
                  · refine j_iload_n (pc' := 86) q145_85 rfl rfl ?_
                    refine j_iconst (pc' := 87) q145_86 rfl ?_
                    refine j_iload (pc' := 89) q145_87 rfl rfl ?_
                    refine j_imul (pc' := 90) q145_89 rfl ?_
                    refine j_iadd (pc' := 91) q145_90 rfl ?_
                    refine j_nameI (fun v12 => ?_)
                    refine j_istore9 (pc' := 93) q145_91 rfl (Nat.le_of_ble_eq_true rfl) rfl ?_
                    refine j_aload (pc' := 95) q145_93 rfl (by decide) rfl ?_
                    refine j_iload (pc' := 97) q145_95 rfl rfl ?_
                    refine j_callV1_pi (d := d + 3) (pc' := 100) q145_97 rfl (Nat.le_of_ble_eq_true rfl) (Nat.le_of_ble_eq_true rfl) rfl (t_Sh_hasThree_82 hρ (d + 3) _ _) (fun r13 => ?_)
                    refine j_join (T := Int32 × Int32 × zS) 156 (fun t14 => [.ref 0, .null, .null, .int a3, .int a4, .ref 82, .int t14.1, .int t14.2.1, .int s9.2.2.1, .null]) (fun t14 => []) (fun t14 => t14.2.2) (fun t14 => ?_) (fun j14 hj14 => ?_)
                    · show z_J _ _ _ _ _ _ _ _ _ _ _ _
                      refine j_iinc8 (pc' := 159) q145_156 rfl (Nat.le_of_ble_eq_true rfl) rfl ?_
                      refine j_goto q145_159 rfl ?_
                      exact j_again (j_forget (z_le_s (z_le_n (z_le_n (z_le_s (z_le_s (z_le_s (z_le_s (z_le_s (z_le_s (z_le_n (z_le_nil))))))))))) (hR9 (t14.1, t14.2.1, (s9.2.2.1 + (1 : Int32)), t14.2.2)))
                    · show z_J _ _ _ _ _ _ _ _ _ _ _ _
                      refine j_if_ne (pc' := 103) q145_100 rfl (fun c15 => ?_) (fun c15 => ?_)
                      · refine j_iconst (pc' := 104) q145_103 rfl ?_
                        refine j_istore6 (pc' := 106) q145_104 rfl (Nat.le_of_ble_eq_true rfl) rfl ?_
                        refine j_goto q145_106 rfl ?_
                        refine j_forget (z_le_s (z_le_n (z_le_n (z_le_s (z_le_s (z_le_s (z_le_s (z_le_s (z_le_s (z_le_n (z_le_nil))))))))))) (hj14 ((2 : Int32), s9.2.1, s9.2.2.2))
                      · refine j_aload_n (pc' := 110) q145_109 rfl (by decide) rfl ?_
                        refine j_getr (k := 0) (q := 17) (pc' := 113) q145_110 rfl (hρ 0 1 17 rfl) rfl ?_
                        refine j_aload (pc' := 115) q145_113 rfl (by decide) rfl ?_
                        refine j_getr (k := 82) (q := 83) (pc' := 118) q145_115 rfl (hρ 82 0 83 rfl) rfl ?_
                        refine j_iload (pc' := 120) q145_118 rfl rfl ?_
                        refine j_if (fun hi16 => ?_) (fun _ => j_none)
                        refine j_iald (k := 83) (N := 40) (pc' := 121) q145_120 rfl hi16 rfl ?_
                        refine j_aload (pc' := 123) q145_121 rfl (by decide) rfl ?_
                        refine j_getr (k := 82) (q := 83) (pc' := 126) q145_123 rfl (hρ 82 0 83 rfl) rfl ?_
                        refine j_iload (pc' := 128) q145_126 rfl rfl ?_
                        refine j_iconst (pc' := 129) q145_128 rfl ?_
                        refine j_iadd (pc' := 130) q145_129 rfl ?_
                        refine j_if (fun hi17 => ?_) (fun _ => j_none)
                        refine j_iald (k := 83) (N := 40) (pc' := 131) q145_130 rfl hi17 rfl ?_
                        refine j_aload (pc' := 133) q145_131 rfl (by decide) rfl ?_
                        refine j_getr (k := 82) (q := 83) (pc' := 136) q145_133 rfl (hρ 82 0 83 rfl) rfl ?_
                        refine j_iload (pc' := 138) q145_136 rfl rfl ?_
                        refine j_iconst (pc' := 139) q145_138 rfl ?_
                        refine j_iadd (pc' := 140) q145_139 rfl ?_
                        refine j_if (fun hi18 => ?_) (fun _ => j_none)
                        refine j_iald (k := 83) (N := 40) (pc' := 141) q145_140 rfl hi18 rfl ?_
                        refine j_callV3_i (d := d + 3) (pc' := 144) q145_141 rfl (Nat.le_of_ble_eq_true rfl) (Nat.le_of_ble_eq_true rfl) rfl (t_G_buyAndSet_17 hρ (d + 0) _ _ _ _) (fun r19 => ?_)
                        refine j_if_ge (pc' := 147) q145_144 rfl (fun c20 => ?_) (fun c20 => ?_)
                        · refine j_iinc7 (pc' := 156) q145_153 rfl (Nat.le_of_ble_eq_true rfl) rfl ?_
                          refine j_forget (z_le_s (z_le_n (z_le_n (z_le_s (z_le_s (z_le_s (z_le_s (z_le_s (z_le_s (z_le_n (z_le_nil))))))))))) (hj14 (s9.1, (s9.2.1 + (1 : Int32)), r19.2))
                        · refine j_bipush (pc' := 149) q145_147 rfl ?_
                          refine j_iload (pc' := 151) q145_149 rfl rfl ?_
                          refine j_isub (pc' := 152) q145_151 rfl ?_
                          refine j_exit ?_
                          exact j_iret q145_152 rfl
                  · exact j_exit (j_forget (z_le_s (z_le_n (z_le_n (z_le_n (z_le_n (z_le_n (z_le_s (z_le_s (z_le_n (z_le_n (z_le_nil))))))))))) (hX9 (s9.1, s9.2.1, s9.2.2.2)))
            · show z_J _ _ _ _ _ _ _ _ _ _ _ _
              refine j_if_ne (pc' := 44) q145_41 rfl (fun c23 => ?_) (fun c23 => ?_)
              · refine j_iconst (pc' := 45) q145_44 rfl ?_
                refine j_goto q145_45 rfl ?_
                refine j_forget (z_le_s (z_le_n (z_le_n (z_le_s (z_le_s (z_le_s (z_le_n (z_le_n (z_le_n (z_le_n (z_le_nil))))))))))) (hj7 (0 : Int32))
              · refine j_aload (pc' := 50) q145_48 rfl (by decide) rfl ?_
                refine j_iload_n (pc' := 51) q145_50 rfl rfl ?_
                refine j_callV1_pi (d := d + 3) (pc' := 54) q145_51 rfl (Nat.le_of_ble_eq_true rfl) (Nat.le_of_ble_eq_true rfl) rfl (t_Sh_faultAs_82 hρ (d + 2) _ _) (fun r24 => ?_)
                refine j_forget (z_le_s (z_le_n (z_le_n (z_le_s (z_le_s (z_le_s (z_le_n (z_le_n (z_le_n (z_le_n (z_le_nil))))))))))) (hj7 r24)
          · refine j_astore5 (pc' := 39) q145_37 rfl (by decide) (Nat.le_of_ble_eq_true rfl) rfl ?_
            refine j_iload (pc' := 41) q145_39 rfl rfl ?_
            refine j_join (T := Int32) 54 (fun t25 => [.ref 0, .null, .null, .int a3, .int a4, .ref 84, .null, .null, .null, .null]) (fun t25 => [.int t25]) (fun t25 => σ) (fun t25 => ?_) (fun j25 hj25 => ?_)
            · show z_J _ _ _ _ _ _ _ _ _ _ _ _
              refine j_istore6 (pc' := 56) q145_54 rfl (Nat.le_of_ble_eq_true rfl) rfl ?_
              refine j_iconst (pc' := 57) q145_56 rfl ?_
              refine j_istore7 (pc' := 59) q145_57 rfl (Nat.le_of_ble_eq_true rfl) rfl ?_
              refine j_aload_n (pc' := 60) q145_59 rfl (by decide) rfl ?_
              refine j_getr (k := 0) (q := 17) (pc' := 63) q145_60 rfl (hρ 0 1 17 rfl) rfl ?_
              refine j_aload_n (pc' := 64) q145_63 rfl (by decide) rfl ?_
              refine j_getr (k := 0) (q := 1) (pc' := 67) q145_64 rfl (hρ 0 0 1 rfl) rfl ?_
              refine j_callV1_v (d := d + 3) (pc' := 70) q145_67 rfl (Nat.le_of_ble_eq_true rfl) (Nat.le_of_ble_eq_true rfl) rfl (t_G_copyFrom_17_1 hρ (d + 2) _) (fun r26 => ?_)
              refine j_iconst (pc' := 71) q145_70 rfl ?_
              refine j_istore8 (pc' := 73) q145_71 rfl (Nat.le_of_ble_eq_true rfl) rfl ?_
              refine j_forget (V' := [.ref 0, .null, .null, .int a3, .int a4, .ref 84, .int t25, .int (0 : Int32), .int (0 : Int32), .null]) (z_le_s (z_le_n (z_le_n (z_le_s (z_le_s (z_le_s (z_le_s (z_le_s (z_le_s (z_le_n (z_le_nil))))))))))) ?_
              refine j_loopX (S := Int32 × Int32 × Int32 × zS) (E := Int32 × Int32 × zS) Sum.inl 162 (fun s27 => [.ref 0, .null, .null, .int a3, .int a4, .ref 84, .int s27.1, .int s27.2.1, .int s27.2.2.1, .null]) (fun s27 => s27.2.2.2) (fun b27 => [.ref 0, .null, .null, .null, .null, .null, .int b27.1, .int b27.2.1, .null, .null]) (fun b27 => b27.2.2) (fun b27 => ?_) (fun R27 hR27 hX27 s27 => ?_) (t25, (0 : Int32), (0 : Int32), r26)
              · show z_J _ _ _ _ _ _ _ _ _ _ _ _
                refine j_aload_n (pc' := 163) q145_162 rfl (by decide) rfl ?_
                refine j_getr (k := 0) (q := 1) (pc' := 166) q145_163 rfl (hρ 0 0 1 rfl) rfl ?_
                refine j_aload_n (pc' := 167) q145_166 rfl (by decide) rfl ?_
                refine j_getr (k := 0) (q := 17) (pc' := 170) q145_167 rfl (hρ 0 1 17 rfl) rfl ?_
                refine j_callV1_v (d := d + 3) (pc' := 173) q145_170 rfl (Nat.le_of_ble_eq_true rfl) (Nat.le_of_ble_eq_true rfl) rfl (t_G_copyFrom_1_17 hρ (d + 2) _) (fun r39 => ?_)
                refine j_aload_n (pc' := 174) q145_173 rfl (by decide) rfl ?_
                refine j_iload (pc' := 176) q145_174 rfl rfl ?_
                refine j_putf (k := 0) (pc' := 179) q145_176 rfl rfl ?_
                refine j_nameS (fun τ40 => ?_)
                refine j_iload (pc' := 181) q145_179 rfl rfl ?_
                exact j_iret q145_181 rfl
              · show z_J _ _ _ _ _ _ _ _ _ _ _ _
                refine j_iload (pc' := 75) q145_73 rfl rfl ?_
                refine j_iload (pc' := 77) q145_75 rfl rfl ?_
                refine j_icmp_ge (pc' := 80) q145_77 rfl (fun c28 => ?_) (fun c28 => ?_)
                · exact j_exit (j_forget (z_le_s (z_le_n (z_le_n (z_le_n (z_le_n (z_le_n (z_le_s (z_le_s (z_le_n (z_le_n (z_le_nil))))))))))) (hX27 (s27.1, s27.2.1, s27.2.2.2)))
                · refine j_iload (pc' := 82) q145_80 rfl rfl ?_
                  refine j_if_ne (pc' := 85) q145_82 rfl (fun c29 => ?_) (fun c29 => ?_)
                  · refine j_iload_n (pc' := 86) q145_85 rfl rfl ?_
                    refine j_iconst (pc' := 87) q145_86 rfl ?_
                    refine j_iload (pc' := 89) q145_87 rfl rfl ?_
                    refine j_imul (pc' := 90) q145_89 rfl ?_
                    refine j_iadd (pc' := 91) q145_90 rfl ?_
                    refine j_nameI (fun v30 => ?_)
                    refine j_istore9 (pc' := 93) q145_91 rfl (Nat.le_of_ble_eq_true rfl) rfl ?_
                    refine j_aload (pc' := 95) q145_93 rfl (by decide) rfl ?_
                    refine j_iload (pc' := 97) q145_95 rfl rfl ?_
                    refine j_callV1_pi (d := d + 3) (pc' := 100) q145_97 rfl (Nat.le_of_ble_eq_true rfl) (Nat.le_of_ble_eq_true rfl) rfl (t_Sh_hasThree_84 hρ (d + 3) _ _) (fun r31 => ?_)
                    refine j_join (T := Int32 × Int32 × zS) 156 (fun t32 => [.ref 0, .null, .null, .int a3, .int a4, .ref 84, .int t32.1, .int t32.2.1, .int s27.2.2.1, .null]) (fun t32 => []) (fun t32 => t32.2.2) (fun t32 => ?_) (fun j32 hj32 => ?_)
                    · show z_J _ _ _ _ _ _ _ _ _ _ _ _
                      refine j_iinc8 (pc' := 159) q145_156 rfl (Nat.le_of_ble_eq_true rfl) rfl ?_
                      refine j_goto q145_159 rfl ?_
                      exact j_again (j_forget (z_le_s (z_le_n (z_le_n (z_le_s (z_le_s (z_le_s (z_le_s (z_le_s (z_le_s (z_le_n (z_le_nil))))))))))) (hR27 (t32.1, t32.2.1, (s27.2.2.1 + (1 : Int32)), t32.2.2)))
                    · show z_J _ _ _ _ _ _ _ _ _ _ _ _
                      refine j_if_ne (pc' := 103) q145_100 rfl (fun c33 => ?_) (fun c33 => ?_)
                      · refine j_iconst (pc' := 104) q145_103 rfl ?_
                        refine j_istore6 (pc' := 106) q145_104 rfl (Nat.le_of_ble_eq_true rfl) rfl ?_
                        refine j_goto q145_106 rfl ?_
                        refine j_forget (z_le_s (z_le_n (z_le_n (z_le_s (z_le_s (z_le_s (z_le_s (z_le_s (z_le_s (z_le_n (z_le_nil))))))))))) (hj32 ((2 : Int32), s27.2.1, s27.2.2.2))
                      · refine j_aload_n (pc' := 110) q145_109 rfl (by decide) rfl ?_
                        refine j_getr (k := 0) (q := 17) (pc' := 113) q145_110 rfl (hρ 0 1 17 rfl) rfl ?_
                        refine j_aload (pc' := 115) q145_113 rfl (by decide) rfl ?_
                        refine j_getr (k := 84) (q := 85) (pc' := 118) q145_115 rfl (hρ 84 0 85 rfl) rfl ?_
                        refine j_iload (pc' := 120) q145_118 rfl rfl ?_
                        refine j_if (fun hi34 => ?_) (fun _ => j_none)
                        refine j_iald (k := 85) (N := 40) (pc' := 121) q145_120 rfl hi34 rfl ?_
                        refine j_aload (pc' := 123) q145_121 rfl (by decide) rfl ?_
                        refine j_getr (k := 84) (q := 85) (pc' := 126) q145_123 rfl (hρ 84 0 85 rfl) rfl ?_
                        refine j_iload (pc' := 128) q145_126 rfl rfl ?_
                        refine j_iconst (pc' := 129) q145_128 rfl ?_
                        refine j_iadd (pc' := 130) q145_129 rfl ?_
                        refine j_if (fun hi35 => ?_) (fun _ => j_none)
                        refine j_iald (k := 85) (N := 40) (pc' := 131) q145_130 rfl hi35 rfl ?_
                        refine j_aload (pc' := 133) q145_131 rfl (by decide) rfl ?_
                        refine j_getr (k := 84) (q := 85) (pc' := 136) q145_133 rfl (hρ 84 0 85 rfl) rfl ?_
                        refine j_iload (pc' := 138) q145_136 rfl rfl ?_
                        refine j_iconst (pc' := 139) q145_138 rfl ?_
                        refine j_iadd (pc' := 140) q145_139 rfl ?_
                        refine j_if (fun hi36 => ?_) (fun _ => j_none)
                        refine j_iald (k := 85) (N := 40) (pc' := 141) q145_140 rfl hi36 rfl ?_
                        refine j_callV3_i (d := d + 3) (pc' := 144) q145_141 rfl (Nat.le_of_ble_eq_true rfl) (Nat.le_of_ble_eq_true rfl) rfl (t_G_buyAndSet_17 hρ (d + 0) _ _ _ _) (fun r37 => ?_)
                        refine j_if_ge (pc' := 147) q145_144 rfl (fun c38 => ?_) (fun c38 => ?_)
                        · refine j_iinc7 (pc' := 156) q145_153 rfl (Nat.le_of_ble_eq_true rfl) rfl ?_
                          refine j_forget (z_le_s (z_le_n (z_le_n (z_le_s (z_le_s (z_le_s (z_le_s (z_le_s (z_le_s (z_le_n (z_le_nil))))))))))) (hj32 (s27.1, (s27.2.1 + (1 : Int32)), r37.2))
                        · refine j_bipush (pc' := 149) q145_147 rfl ?_
                          refine j_iload (pc' := 151) q145_149 rfl rfl ?_
                          refine j_isub (pc' := 152) q145_151 rfl ?_
                          refine j_exit ?_
                          exact j_iret q145_152 rfl
                  · exact j_exit (j_forget (z_le_s (z_le_n (z_le_n (z_le_n (z_le_n (z_le_n (z_le_s (z_le_s (z_le_n (z_le_n (z_le_nil))))))))))) (hX27 (s27.1, s27.2.1, s27.2.2.2)))
            · show z_J _ _ _ _ _ _ _ _ _ _ _ _
              refine j_if_ne (pc' := 44) q145_41 rfl (fun c41 => ?_) (fun c41 => ?_)
              · refine j_iconst (pc' := 45) q145_44 rfl ?_
                refine j_goto q145_45 rfl ?_
                refine j_forget (z_le_s (z_le_n (z_le_n (z_le_s (z_le_s (z_le_s (z_le_n (z_le_n (z_le_n (z_le_n (z_le_nil))))))))))) (hj25 (0 : Int32))
              · refine j_aload (pc' := 50) q145_48 rfl (by decide) rfl ?_
                refine j_iload_n (pc' := 51) q145_50 rfl rfl ?_
                refine j_callV1_pi (d := d + 3) (pc' := 54) q145_51 rfl (Nat.le_of_ble_eq_true rfl) (Nat.le_of_ble_eq_true rfl) rfl (t_Sh_faultAs_84 hρ (d + 2) _ _) (fun r42 => ?_)
                refine j_forget (z_le_s (z_le_n (z_le_n (z_le_s (z_le_s (z_le_s (z_le_n (z_le_n (z_le_n (z_le_n (z_le_nil))))))))))) (hj25 r42)
          · refine j_astore5 (pc' := 39) q145_37 rfl (by decide) (Nat.le_of_ble_eq_true rfl) rfl ?_
            refine j_iload (pc' := 41) q145_39 rfl rfl ?_
            refine j_join (T := Int32) 54 (fun t43 => [.ref 0, .null, .null, .int a3, .int a4, .ref 86, .null, .null, .null, .null]) (fun t43 => [.int t43]) (fun t43 => σ) (fun t43 => ?_) (fun j43 hj43 => ?_)
            · show z_J _ _ _ _ _ _ _ _ _ _ _ _
              refine j_istore6 (pc' := 56) q145_54 rfl (Nat.le_of_ble_eq_true rfl) rfl ?_
              refine j_iconst (pc' := 57) q145_56 rfl ?_
              refine j_istore7 (pc' := 59) q145_57 rfl (Nat.le_of_ble_eq_true rfl) rfl ?_
              refine j_aload_n (pc' := 60) q145_59 rfl (by decide) rfl ?_
              refine j_getr (k := 0) (q := 17) (pc' := 63) q145_60 rfl (hρ 0 1 17 rfl) rfl ?_
              refine j_aload_n (pc' := 64) q145_63 rfl (by decide) rfl ?_
              refine j_getr (k := 0) (q := 1) (pc' := 67) q145_64 rfl (hρ 0 0 1 rfl) rfl ?_
              refine j_callV1_v (d := d + 3) (pc' := 70) q145_67 rfl (Nat.le_of_ble_eq_true rfl) (Nat.le_of_ble_eq_true rfl) rfl (t_G_copyFrom_17_1 hρ (d + 2) _) (fun r44 => ?_)
              refine j_iconst (pc' := 71) q145_70 rfl ?_
              refine j_istore8 (pc' := 73) q145_71 rfl (Nat.le_of_ble_eq_true rfl) rfl ?_
              refine j_forget (V' := [.ref 0, .null, .null, .int a3, .int a4, .ref 86, .int t43, .int (0 : Int32), .int (0 : Int32), .null]) (z_le_s (z_le_n (z_le_n (z_le_s (z_le_s (z_le_s (z_le_s (z_le_s (z_le_s (z_le_n (z_le_nil))))))))))) ?_
              refine j_loopX (S := Int32 × Int32 × Int32 × zS) (E := Int32 × Int32 × zS) Sum.inl 162 (fun s45 => [.ref 0, .null, .null, .int a3, .int a4, .ref 86, .int s45.1, .int s45.2.1, .int s45.2.2.1, .null]) (fun s45 => s45.2.2.2) (fun b45 => [.ref 0, .null, .null, .null, .null, .null, .int b45.1, .int b45.2.1, .null, .null]) (fun b45 => b45.2.2) (fun b45 => ?_) (fun R45 hR45 hX45 s45 => ?_) (t43, (0 : Int32), (0 : Int32), r44)
              · show z_J _ _ _ _ _ _ _ _ _ _ _ _
                refine j_aload_n (pc' := 163) q145_162 rfl (by decide) rfl ?_
                refine j_getr (k := 0) (q := 1) (pc' := 166) q145_163 rfl (hρ 0 0 1 rfl) rfl ?_
                refine j_aload_n (pc' := 167) q145_166 rfl (by decide) rfl ?_
                refine j_getr (k := 0) (q := 17) (pc' := 170) q145_167 rfl (hρ 0 1 17 rfl) rfl ?_
                refine j_callV1_v (d := d + 3) (pc' := 173) q145_170 rfl (Nat.le_of_ble_eq_true rfl) (Nat.le_of_ble_eq_true rfl) rfl (t_G_copyFrom_1_17 hρ (d + 2) _) (fun r57 => ?_)
                refine j_aload_n (pc' := 174) q145_173 rfl (by decide) rfl ?_
                refine j_iload (pc' := 176) q145_174 rfl rfl ?_
                refine j_putf (k := 0) (pc' := 179) q145_176 rfl rfl ?_
                refine j_nameS (fun τ58 => ?_)
                refine j_iload (pc' := 181) q145_179 rfl rfl ?_
                exact j_iret q145_181 rfl
              · show z_J _ _ _ _ _ _ _ _ _ _ _ _
                refine j_iload (pc' := 75) q145_73 rfl rfl ?_
                refine j_iload (pc' := 77) q145_75 rfl rfl ?_
                refine j_icmp_ge (pc' := 80) q145_77 rfl (fun c46 => ?_) (fun c46 => ?_)
                · exact j_exit (j_forget (z_le_s (z_le_n (z_le_n (z_le_n (z_le_n (z_le_n (z_le_s (z_le_s (z_le_n (z_le_n (z_le_nil))))))))))) (hX45 (s45.1, s45.2.1, s45.2.2.2)))
                · refine j_iload (pc' := 82) q145_80 rfl rfl ?_
                  refine j_if_ne (pc' := 85) q145_82 rfl (fun c47 => ?_) (fun c47 => ?_)
                  · refine j_iload_n (pc' := 86) q145_85 rfl rfl ?_
                    refine j_iconst (pc' := 87) q145_86 rfl ?_
                    refine j_iload (pc' := 89) q145_87 rfl rfl ?_
                    refine j_imul (pc' := 90) q145_89 rfl ?_
                    refine j_iadd (pc' := 91) q145_90 rfl ?_
                    refine j_nameI (fun v48 => ?_)
                    refine j_istore9 (pc' := 93) q145_91 rfl (Nat.le_of_ble_eq_true rfl) rfl ?_
                    refine j_aload (pc' := 95) q145_93 rfl (by decide) rfl ?_
                    refine j_iload (pc' := 97) q145_95 rfl rfl ?_
                    refine j_callV1_pi (d := d + 3) (pc' := 100) q145_97 rfl (Nat.le_of_ble_eq_true rfl) (Nat.le_of_ble_eq_true rfl) rfl (t_Sh_hasThree_86 hρ (d + 3) _ _) (fun r49 => ?_)
                    refine j_join (T := Int32 × Int32 × zS) 156 (fun t50 => [.ref 0, .null, .null, .int a3, .int a4, .ref 86, .int t50.1, .int t50.2.1, .int s45.2.2.1, .null]) (fun t50 => []) (fun t50 => t50.2.2) (fun t50 => ?_) (fun j50 hj50 => ?_)
                    · show z_J _ _ _ _ _ _ _ _ _ _ _ _
                      refine j_iinc8 (pc' := 159) q145_156 rfl (Nat.le_of_ble_eq_true rfl) rfl ?_
                      refine j_goto q145_159 rfl ?_
                      exact j_again (j_forget (z_le_s (z_le_n (z_le_n (z_le_s (z_le_s (z_le_s (z_le_s (z_le_s (z_le_s (z_le_n (z_le_nil))))))))))) (hR45 (t50.1, t50.2.1, (s45.2.2.1 + (1 : Int32)), t50.2.2)))
                    · show z_J _ _ _ _ _ _ _ _ _ _ _ _
                      refine j_if_ne (pc' := 103) q145_100 rfl (fun c51 => ?_) (fun c51 => ?_)
                      · refine j_iconst (pc' := 104) q145_103 rfl ?_
                        refine j_istore6 (pc' := 106) q145_104 rfl (Nat.le_of_ble_eq_true rfl) rfl ?_
                        refine j_goto q145_106 rfl ?_
                        refine j_forget (z_le_s (z_le_n (z_le_n (z_le_s (z_le_s (z_le_s (z_le_s (z_le_s (z_le_s (z_le_n (z_le_nil))))))))))) (hj50 ((2 : Int32), s45.2.1, s45.2.2.2))
                      · refine j_aload_n (pc' := 110) q145_109 rfl (by decide) rfl ?_
                        refine j_getr (k := 0) (q := 17) (pc' := 113) q145_110 rfl (hρ 0 1 17 rfl) rfl ?_
                        refine j_aload (pc' := 115) q145_113 rfl (by decide) rfl ?_
                        refine j_getr (k := 86) (q := 87) (pc' := 118) q145_115 rfl (hρ 86 0 87 rfl) rfl ?_
                        refine j_iload (pc' := 120) q145_118 rfl rfl ?_
                        refine j_if (fun hi52 => ?_) (fun _ => j_none)
                        refine j_iald (k := 87) (N := 40) (pc' := 121) q145_120 rfl hi52 rfl ?_
                        refine j_aload (pc' := 123) q145_121 rfl (by decide) rfl ?_
                        refine j_getr (k := 86) (q := 87) (pc' := 126) q145_123 rfl (hρ 86 0 87 rfl) rfl ?_
                        refine j_iload (pc' := 128) q145_126 rfl rfl ?_
                        refine j_iconst (pc' := 129) q145_128 rfl ?_
                        refine j_iadd (pc' := 130) q145_129 rfl ?_
                        refine j_if (fun hi53 => ?_) (fun _ => j_none)
                        refine j_iald (k := 87) (N := 40) (pc' := 131) q145_130 rfl hi53 rfl ?_
                        refine j_aload (pc' := 133) q145_131 rfl (by decide) rfl ?_
                        refine j_getr (k := 86) (q := 87) (pc' := 136) q145_133 rfl (hρ 86 0 87 rfl) rfl ?_
                        refine j_iload (pc' := 138) q145_136 rfl rfl ?_
                        refine j_iconst (pc' := 139) q145_138 rfl ?_
                        refine j_iadd (pc' := 140) q145_139 rfl ?_
                        refine j_if (fun hi54 => ?_) (fun _ => j_none)
                        refine j_iald (k := 87) (N := 40) (pc' := 141) q145_140 rfl hi54 rfl ?_
                        refine j_callV3_i (d := d + 3) (pc' := 144) q145_141 rfl (Nat.le_of_ble_eq_true rfl) (Nat.le_of_ble_eq_true rfl) rfl (t_G_buyAndSet_17 hρ (d + 0) _ _ _ _) (fun r55 => ?_)
                        refine j_if_ge (pc' := 147) q145_144 rfl (fun c56 => ?_) (fun c56 => ?_)
                        · refine j_iinc7 (pc' := 156) q145_153 rfl (Nat.le_of_ble_eq_true rfl) rfl ?_
                          refine j_forget (z_le_s (z_le_n (z_le_n (z_le_s (z_le_s (z_le_s (z_le_s (z_le_s (z_le_s (z_le_n (z_le_nil))))))))))) (hj50 (s45.1, (s45.2.1 + (1 : Int32)), r55.2))
                        · refine j_bipush (pc' := 149) q145_147 rfl ?_
                          refine j_iload (pc' := 151) q145_149 rfl rfl ?_
                          refine j_isub (pc' := 152) q145_151 rfl ?_
                          refine j_exit ?_
                          exact j_iret q145_152 rfl
                  · exact j_exit (j_forget (z_le_s (z_le_n (z_le_n (z_le_n (z_le_n (z_le_n (z_le_s (z_le_s (z_le_n (z_le_n (z_le_nil))))))))))) (hX45 (s45.1, s45.2.1, s45.2.2.2)))
            · show z_J _ _ _ _ _ _ _ _ _ _ _ _
              refine j_if_ne (pc' := 44) q145_41 rfl (fun c59 => ?_) (fun c59 => ?_)
              · refine j_iconst (pc' := 45) q145_44 rfl ?_
                refine j_goto q145_45 rfl ?_
                refine j_forget (z_le_s (z_le_n (z_le_n (z_le_s (z_le_s (z_le_s (z_le_n (z_le_n (z_le_n (z_le_n (z_le_nil))))))))))) (hj43 (0 : Int32))
              · refine j_aload (pc' := 50) q145_48 rfl (by decide) rfl ?_
                refine j_iload_n (pc' := 51) q145_50 rfl rfl ?_
                refine j_callV1_pi (d := d + 3) (pc' := 54) q145_51 rfl (Nat.le_of_ble_eq_true rfl) (Nat.le_of_ble_eq_true rfl) rfl (t_Sh_faultAs_86 hρ (d + 2) _ _) (fun r60 => ?_)
                refine j_forget (z_le_s (z_le_n (z_le_n (z_le_s (z_le_s (z_le_s (z_le_n (z_le_n (z_le_n (z_le_n (z_le_nil))))))))))) (hj43 r60)
          · refine j_astore5 (pc' := 39) q145_37 rfl (by decide) (Nat.le_of_ble_eq_true rfl) rfl ?_
            refine j_iload (pc' := 41) q145_39 rfl rfl ?_
            refine j_join (T := Int32) 54 (fun t61 => [.ref 0, .null, .null, .int a3, .int a4, .ref 88, .null, .null, .null, .null]) (fun t61 => [.int t61]) (fun t61 => σ) (fun t61 => ?_) (fun j61 hj61 => ?_)
            · show z_J _ _ _ _ _ _ _ _ _ _ _ _
              refine j_istore6 (pc' := 56) q145_54 rfl (Nat.le_of_ble_eq_true rfl) rfl ?_
              refine j_iconst (pc' := 57) q145_56 rfl ?_
              refine j_istore7 (pc' := 59) q145_57 rfl (Nat.le_of_ble_eq_true rfl) rfl ?_
              refine j_aload_n (pc' := 60) q145_59 rfl (by decide) rfl ?_
              refine j_getr (k := 0) (q := 17) (pc' := 63) q145_60 rfl (hρ 0 1 17 rfl) rfl ?_
              refine j_aload_n (pc' := 64) q145_63 rfl (by decide) rfl ?_
              refine j_getr (k := 0) (q := 1) (pc' := 67) q145_64 rfl (hρ 0 0 1 rfl) rfl ?_
              refine j_callV1_v (d := d + 3) (pc' := 70) q145_67 rfl (Nat.le_of_ble_eq_true rfl) (Nat.le_of_ble_eq_true rfl) rfl (t_G_copyFrom_17_1 hρ (d + 2) _) (fun r62 => ?_)
              refine j_iconst (pc' := 71) q145_70 rfl ?_
              refine j_istore8 (pc' := 73) q145_71 rfl (Nat.le_of_ble_eq_true rfl) rfl ?_
              refine j_forget (V' := [.ref 0, .null, .null, .int a3, .int a4, .ref 88, .int t61, .int (0 : Int32), .int (0 : Int32), .null]) (z_le_s (z_le_n (z_le_n (z_le_s (z_le_s (z_le_s (z_le_s (z_le_s (z_le_s (z_le_n (z_le_nil))))))))))) ?_
              refine j_loopX (S := Int32 × Int32 × Int32 × zS) (E := Int32 × Int32 × zS) Sum.inl 162 (fun s63 => [.ref 0, .null, .null, .int a3, .int a4, .ref 88, .int s63.1, .int s63.2.1, .int s63.2.2.1, .null]) (fun s63 => s63.2.2.2) (fun b63 => [.ref 0, .null, .null, .null, .null, .null, .int b63.1, .int b63.2.1, .null, .null]) (fun b63 => b63.2.2) (fun b63 => ?_) (fun R63 hR63 hX63 s63 => ?_) (t61, (0 : Int32), (0 : Int32), r62)
              · show z_J _ _ _ _ _ _ _ _ _ _ _ _
                refine j_aload_n (pc' := 163) q145_162 rfl (by decide) rfl ?_
                refine j_getr (k := 0) (q := 1) (pc' := 166) q145_163 rfl (hρ 0 0 1 rfl) rfl ?_
                refine j_aload_n (pc' := 167) q145_166 rfl (by decide) rfl ?_
                refine j_getr (k := 0) (q := 17) (pc' := 170) q145_167 rfl (hρ 0 1 17 rfl) rfl ?_
                refine j_callV1_v (d := d + 3) (pc' := 173) q145_170 rfl (Nat.le_of_ble_eq_true rfl) (Nat.le_of_ble_eq_true rfl) rfl (t_G_copyFrom_1_17 hρ (d + 2) _) (fun r75 => ?_)
                refine j_aload_n (pc' := 174) q145_173 rfl (by decide) rfl ?_
                refine j_iload (pc' := 176) q145_174 rfl rfl ?_
                refine j_putf (k := 0) (pc' := 179) q145_176 rfl rfl ?_
                refine j_nameS (fun τ76 => ?_)
                refine j_iload (pc' := 181) q145_179 rfl rfl ?_
                exact j_iret q145_181 rfl
              · show z_J _ _ _ _ _ _ _ _ _ _ _ _
                refine j_iload (pc' := 75) q145_73 rfl rfl ?_
                refine j_iload (pc' := 77) q145_75 rfl rfl ?_
                refine j_icmp_ge (pc' := 80) q145_77 rfl (fun c64 => ?_) (fun c64 => ?_)
                · exact j_exit (j_forget (z_le_s (z_le_n (z_le_n (z_le_n (z_le_n (z_le_n (z_le_s (z_le_s (z_le_n (z_le_n (z_le_nil))))))))))) (hX63 (s63.1, s63.2.1, s63.2.2.2)))
                · refine j_iload (pc' := 82) q145_80 rfl rfl ?_
                  refine j_if_ne (pc' := 85) q145_82 rfl (fun c65 => ?_) (fun c65 => ?_)
                  · refine j_iload_n (pc' := 86) q145_85 rfl rfl ?_
                    refine j_iconst (pc' := 87) q145_86 rfl ?_
                    refine j_iload (pc' := 89) q145_87 rfl rfl ?_
                    refine j_imul (pc' := 90) q145_89 rfl ?_
                    refine j_iadd (pc' := 91) q145_90 rfl ?_
                    refine j_nameI (fun v66 => ?_)
                    refine j_istore9 (pc' := 93) q145_91 rfl (Nat.le_of_ble_eq_true rfl) rfl ?_
                    refine j_aload (pc' := 95) q145_93 rfl (by decide) rfl ?_
                    refine j_iload (pc' := 97) q145_95 rfl rfl ?_
                    refine j_callV1_pi (d := d + 3) (pc' := 100) q145_97 rfl (Nat.le_of_ble_eq_true rfl) (Nat.le_of_ble_eq_true rfl) rfl (t_Sh_hasThree_88 hρ (d + 3) _ _) (fun r67 => ?_)
                    refine j_join (T := Int32 × Int32 × zS) 156 (fun t68 => [.ref 0, .null, .null, .int a3, .int a4, .ref 88, .int t68.1, .int t68.2.1, .int s63.2.2.1, .null]) (fun t68 => []) (fun t68 => t68.2.2) (fun t68 => ?_) (fun j68 hj68 => ?_)
                    · show z_J _ _ _ _ _ _ _ _ _ _ _ _
                      refine j_iinc8 (pc' := 159) q145_156 rfl (Nat.le_of_ble_eq_true rfl) rfl ?_
                      refine j_goto q145_159 rfl ?_
                      exact j_again (j_forget (z_le_s (z_le_n (z_le_n (z_le_s (z_le_s (z_le_s (z_le_s (z_le_s (z_le_s (z_le_n (z_le_nil))))))))))) (hR63 (t68.1, t68.2.1, (s63.2.2.1 + (1 : Int32)), t68.2.2)))
                    · show z_J _ _ _ _ _ _ _ _ _ _ _ _
                      refine j_if_ne (pc' := 103) q145_100 rfl (fun c69 => ?_) (fun c69 => ?_)
                      · refine j_iconst (pc' := 104) q145_103 rfl ?_
                        refine j_istore6 (pc' := 106) q145_104 rfl (Nat.le_of_ble_eq_true rfl) rfl ?_
                        refine j_goto q145_106 rfl ?_
                        refine j_forget (z_le_s (z_le_n (z_le_n (z_le_s (z_le_s (z_le_s (z_le_s (z_le_s (z_le_s (z_le_n (z_le_nil))))))))))) (hj68 ((2 : Int32), s63.2.1, s63.2.2.2))
                      · refine j_aload_n (pc' := 110) q145_109 rfl (by decide) rfl ?_
                        refine j_getr (k := 0) (q := 17) (pc' := 113) q145_110 rfl (hρ 0 1 17 rfl) rfl ?_
                        refine j_aload (pc' := 115) q145_113 rfl (by decide) rfl ?_
                        refine j_getr (k := 88) (q := 89) (pc' := 118) q145_115 rfl (hρ 88 0 89 rfl) rfl ?_
                        refine j_iload (pc' := 120) q145_118 rfl rfl ?_
                        refine j_if (fun hi70 => ?_) (fun _ => j_none)
                        refine j_iald (k := 89) (N := 40) (pc' := 121) q145_120 rfl hi70 rfl ?_
                        refine j_aload (pc' := 123) q145_121 rfl (by decide) rfl ?_
                        refine j_getr (k := 88) (q := 89) (pc' := 126) q145_123 rfl (hρ 88 0 89 rfl) rfl ?_
                        refine j_iload (pc' := 128) q145_126 rfl rfl ?_
                        refine j_iconst (pc' := 129) q145_128 rfl ?_
                        refine j_iadd (pc' := 130) q145_129 rfl ?_
                        refine j_if (fun hi71 => ?_) (fun _ => j_none)
                        refine j_iald (k := 89) (N := 40) (pc' := 131) q145_130 rfl hi71 rfl ?_
                        refine j_aload (pc' := 133) q145_131 rfl (by decide) rfl ?_
                        refine j_getr (k := 88) (q := 89) (pc' := 136) q145_133 rfl (hρ 88 0 89 rfl) rfl ?_
                        refine j_iload (pc' := 138) q145_136 rfl rfl ?_
                        refine j_iconst (pc' := 139) q145_138 rfl ?_
                        refine j_iadd (pc' := 140) q145_139 rfl ?_
                        refine j_if (fun hi72 => ?_) (fun _ => j_none)
                        refine j_iald (k := 89) (N := 40) (pc' := 141) q145_140 rfl hi72 rfl ?_
                        refine j_callV3_i (d := d + 3) (pc' := 144) q145_141 rfl (Nat.le_of_ble_eq_true rfl) (Nat.le_of_ble_eq_true rfl) rfl (t_G_buyAndSet_17 hρ (d + 0) _ _ _ _) (fun r73 => ?_)
                        refine j_if_ge (pc' := 147) q145_144 rfl (fun c74 => ?_) (fun c74 => ?_)
                        · refine j_iinc7 (pc' := 156) q145_153 rfl (Nat.le_of_ble_eq_true rfl) rfl ?_
                          refine j_forget (z_le_s (z_le_n (z_le_n (z_le_s (z_le_s (z_le_s (z_le_s (z_le_s (z_le_s (z_le_n (z_le_nil))))))))))) (hj68 (s63.1, (s63.2.1 + (1 : Int32)), r73.2))
                        · refine j_bipush (pc' := 149) q145_147 rfl ?_
                          refine j_iload (pc' := 151) q145_149 rfl rfl ?_
                          refine j_isub (pc' := 152) q145_151 rfl ?_
                          refine j_exit ?_
                          exact j_iret q145_152 rfl
                  · exact j_exit (j_forget (z_le_s (z_le_n (z_le_n (z_le_n (z_le_n (z_le_n (z_le_s (z_le_s (z_le_n (z_le_n (z_le_nil))))))))))) (hX63 (s63.1, s63.2.1, s63.2.2.2)))
            · show z_J _ _ _ _ _ _ _ _ _ _ _ _
              refine j_if_ne (pc' := 44) q145_41 rfl (fun c77 => ?_) (fun c77 => ?_)
              · refine j_iconst (pc' := 45) q145_44 rfl ?_
                refine j_goto q145_45 rfl ?_
                refine j_forget (z_le_s (z_le_n (z_le_n (z_le_s (z_le_s (z_le_s (z_le_n (z_le_n (z_le_n (z_le_n (z_le_nil))))))))))) (hj61 (0 : Int32))
              · refine j_aload (pc' := 50) q145_48 rfl (by decide) rfl ?_
                refine j_iload_n (pc' := 51) q145_50 rfl rfl ?_
                refine j_callV1_pi (d := d + 3) (pc' := 54) q145_51 rfl (Nat.le_of_ble_eq_true rfl) (Nat.le_of_ble_eq_true rfl) rfl (t_Sh_faultAs_88 hρ (d + 2) _ _) (fun r78 => ?_)
                refine j_forget (z_le_s (z_le_n (z_le_n (z_le_s (z_le_s (z_le_s (z_le_n (z_le_n (z_le_n (z_le_n (z_le_nil))))))))))) (hj61 r78)
set_option maxRecDepth 8000 in
theorem q228_0 : z_fi (z_mi 228) 0 = some (0, .iload_n 1, 0, 0, 0, 0, 0) := rfl
set_option maxRecDepth 8000 in
theorem q228_1 : z_fi (z_mi 228) 1 = some (1, .i2l, 0, 0, 0, 0, 0) := rfl
set_option maxRecDepth 8000 in
theorem q228_2 : z_fi (z_mi 228) 2 = some (2, .lconst 0, 0, 0, 0, 0, 0) := rfl
set_option maxRecDepth 8000 in
theorem q228_3 : z_fi (z_mi 228) 3 = some (3, .ldc2_w 135, 0, 0, 0, 0, 3) := rfl
set_option maxRecDepth 8000 in
theorem q228_6 : z_fi (z_mi 228) 6 = some (6, .invokestatic 62, 1, 149, 3, 0, 0) := rfl
set_option maxRecDepth 8000 in
theorem q228_9 : z_fi (z_mi 228) 9 = some (9, .ifCond .eq 28, 0, 37, 0, 0, 0) := rfl
set_option maxRecDepth 8000 in
theorem q228_12 : z_fi (z_mi 228) 12 = some (12, .iload_n 2, 0, 0, 0, 0, 0) := rfl
set_option maxRecDepth 8000 in
theorem q228_13 : z_fi (z_mi 228) 13 = some (13, .i2l, 0, 0, 0, 0, 0) := rfl
set_option maxRecDepth 8000 in
theorem q228_14 : z_fi (z_mi 228) 14 = some (14, .lconst 0, 0, 0, 0, 0, 0) := rfl
set_option maxRecDepth 8000 in
theorem q228_15 : z_fi (z_mi 228) 15 = some (15, .ldc2_w 183, 0, 0, 0, 0, 2) := rfl
set_option maxRecDepth 8000 in
theorem q228_18 : z_fi (z_mi 228) 18 = some (18, .invokestatic 62, 1, 149, 3, 0, 0) := rfl
set_option maxRecDepth 8000 in
theorem q228_21 : z_fi (z_mi 228) 21 = some (21, .ifCond .eq 16, 0, 37, 0, 0, 0) := rfl
set_option maxRecDepth 8000 in
theorem q228_24 : z_fi (z_mi 228) 24 = some (24, .iload 4, 0, 0, 0, 0, 0) := rfl
set_option maxRecDepth 8000 in
theorem q228_26 : z_fi (z_mi 228) 26 = some (26, .i2l, 0, 0, 0, 0, 0) := rfl
set_option maxRecDepth 8000 in
theorem q228_27 : z_fi (z_mi 228) 27 = some (27, .lconst 0, 0, 0, 0, 0, 0) := rfl
set_option maxRecDepth 8000 in
theorem q228_28 : z_fi (z_mi 228) 28 = some (28, .ldc2_w 283, 0, 0, 0, 0, 13) := rfl
set_option maxRecDepth 8000 in
theorem q228_31 : z_fi (z_mi 228) 31 = some (31, .invokestatic 62, 1, 149, 3, 0, 0) := rfl
set_option maxRecDepth 8000 in
theorem q228_34 : z_fi (z_mi 228) 34 = some (34, .ifCond .ne 5, 0, 39, 0, 0, 0) := rfl
set_option maxRecDepth 8000 in
theorem q228_37 : z_fi (z_mi 228) 37 = some (37, .iconst (-1), 0, 0, 0, (-1), 0) := rfl
set_option maxRecDepth 8000 in
theorem q228_38 : z_fi (z_mi 228) 38 = some (38, .ireturn, 0, 0, 0, 0, 0) := rfl
set_option maxRecDepth 8000 in
theorem q228_39 : z_fi (z_mi 228) 39 = some (39, .aload_n 0, 0, 0, 0, 0, 0) := rfl
set_option maxRecDepth 8000 in
theorem q228_40 : z_fi (z_mi 228) 40 = some (40, .iconst 0, 0, 0, 0, 0, 0) := rfl
set_option maxRecDepth 8000 in
theorem q228_41 : z_fi (z_mi 228) 41 = some (41, .sipush 330, 0, 0, 0, 330, 0) := rfl
set_option maxRecDepth 8000 in
theorem q228_44 : z_fi (z_mi 228) 44 = some (44, .invokevirtual 227, 0, 195, 2, 0, 0) := rfl
set_option maxRecDepth 8000 in
theorem q228_47 : z_fi (z_mi 228) 47 = some (47, .iconst 0, 0, 0, 0, 0, 0) := rfl
set_option maxRecDepth 8000 in
theorem q228_48 : z_fi (z_mi 228) 48 = some (48, .istore 5, 0, 0, 0, 0, 0) := rfl
set_option maxRecDepth 8000 in
theorem q228_50 : z_fi (z_mi 228) 50 = some (50, .iconst 0, 0, 0, 0, 0, 0) := rfl
set_option maxRecDepth 8000 in
theorem q228_51 : z_fi (z_mi 228) 51 = some (51, .istore 6, 0, 0, 0, 0, 0) := rfl
set_option maxRecDepth 8000 in
theorem q228_53 : z_fi (z_mi 228) 53 = some (53, .iconst 0, 0, 0, 0, 0, 0) := rfl
set_option maxRecDepth 8000 in
theorem q228_54 : z_fi (z_mi 228) 54 = some (54, .istore 7, 0, 0, 0, 0, 0) := rfl
set_option maxRecDepth 8000 in
theorem q228_56 : z_fi (z_mi 228) 56 = some (56, .iload 7, 0, 0, 0, 0, 0) := rfl
set_option maxRecDepth 8000 in
theorem q228_58 : z_fi (z_mi 228) 58 = some (58, .iconst 3, 0, 0, 0, 3, 0) := rfl
set_option maxRecDepth 8000 in
theorem q228_59 : z_fi (z_mi 228) 59 = some (59, .iload 4, 0, 0, 0, 0, 0) := rfl
set_option maxRecDepth 8000 in
theorem q228_61 : z_fi (z_mi 228) 61 = some (61, .imul, 0, 0, 0, 0, 0) := rfl
set_option maxRecDepth 8000 in
theorem q228_62 : z_fi (z_mi 228) 62 = some (62, .if_icmp .ge 145, 0, 207, 0, 0, 0) := rfl
set_option maxRecDepth 8000 in
theorem q228_65 : z_fi (z_mi 228) 65 = some (65, .iload 5, 0, 0, 0, 0, 0) := rfl
set_option maxRecDepth 8000 in
theorem q228_67 : z_fi (z_mi 228) 67 = some (67, .ifCond .ne 140, 0, 207, 0, 0, 0) := rfl
set_option maxRecDepth 8000 in
theorem q228_70 : z_fi (z_mi 228) 70 = some (70, .aload_n 0, 0, 0, 0, 0, 0) := rfl
set_option maxRecDepth 8000 in
theorem q228_71 : z_fi (z_mi 228) 71 = some (71, .getfield 51, 0, 10, 28, 0, 0) := rfl
set_option maxRecDepth 8000 in
theorem q228_74 : z_fi (z_mi 228) 74 = some (74, .iload_n 1, 0, 0, 0, 0, 0) := rfl
set_option maxRecDepth 8000 in
theorem q228_75 : z_fi (z_mi 228) 75 = some (75, .iaload, 0, 0, 0, 0, 0) := rfl
set_option maxRecDepth 8000 in
theorem q228_76 : z_fi (z_mi 228) 76 = some (76, .bipush (-4), 0, 0, 0, (-4), 0) := rfl
set_option maxRecDepth 8000 in
theorem q228_78 : z_fi (z_mi 228) 78 = some (78, .if_icmp .ne 7, 0, 85, 0, 0, 0) := rfl
set_option maxRecDepth 8000 in
theorem q228_81 : z_fi (z_mi 228) 81 = some (81, .iconst 1, 0, 0, 0, 1, 0) := rfl
set_option maxRecDepth 8000 in
theorem q228_82 : z_fi (z_mi 228) 82 = some (82, .goto 44, 0, 126, 0, 0, 0) := rfl
set_option maxRecDepth 8000 in
theorem q228_85 : z_fi (z_mi 228) 85 = some (85, .aload_n 0, 0, 0, 0, 0, 0) := rfl
set_option maxRecDepth 8000 in
theorem q228_86 : z_fi (z_mi 228) 86 = some (86, .getfield 51, 0, 10, 28, 0, 0) := rfl
set_option maxRecDepth 8000 in
theorem q228_89 : z_fi (z_mi 228) 89 = some (89, .iload_n 1, 0, 0, 0, 0, 0) := rfl
set_option maxRecDepth 8000 in
theorem q228_90 : z_fi (z_mi 228) 90 = some (90, .iaload, 0, 0, 0, 0, 0) := rfl
set_option maxRecDepth 8000 in
theorem q228_91 : z_fi (z_mi 228) 91 = some (91, .iload_n 2, 0, 0, 0, 0, 0) := rfl
set_option maxRecDepth 8000 in
theorem q228_92 : z_fi (z_mi 228) 92 = some (92, .if_icmp .eq 7, 0, 99, 0, 0, 0) := rfl
set_option maxRecDepth 8000 in
theorem q228_95 : z_fi (z_mi 228) 95 = some (95, .iconst 3, 0, 0, 0, 3, 0) := rfl
set_option maxRecDepth 8000 in
theorem q228_96 : z_fi (z_mi 228) 96 = some (96, .goto 30, 0, 126, 0, 0, 0) := rfl
set_option maxRecDepth 8000 in
theorem q228_99 : z_fi (z_mi 228) 99 = some (99, .iload_n 3, 0, 0, 0, 0, 0) := rfl
set_option maxRecDepth 8000 in
theorem q228_100 : z_fi (z_mi 228) 100 = some (100, .i2l, 0, 0, 0, 0, 0) := rfl
set_option maxRecDepth 8000 in
theorem q228_101 : z_fi (z_mi 228) 101 = some (101, .iload 7, 0, 0, 0, 0, 0) := rfl
set_option maxRecDepth 8000 in
theorem q228_103 : z_fi (z_mi 228) 103 = some (103, .i2l, 0, 0, 0, 0, 0) := rfl
set_option maxRecDepth 8000 in
theorem q228_104 : z_fi (z_mi 228) 104 = some (104, .ladd, 0, 0, 0, 0, 0) := rfl
set_option maxRecDepth 8000 in
theorem q228_105 : z_fi (z_mi 228) 105 = some (105, .lconst 0, 0, 0, 0, 0, 0) := rfl
set_option maxRecDepth 8000 in
theorem q228_106 : z_fi (z_mi 228) 106 = some (106, .aload_n 0, 0, 0, 0, 0, 0) := rfl
set_option maxRecDepth 8000 in
theorem q228_107 : z_fi (z_mi 228) 107 = some (107, .getfield 54, 0, 10, 29, 0, 0) := rfl
set_option maxRecDepth 8000 in
theorem q228_110 : z_fi (z_mi 228) 110 = some (110, .iload_n 1, 0, 0, 0, 0, 0) := rfl
set_option maxRecDepth 8000 in
theorem q228_111 : z_fi (z_mi 228) 111 = some (111, .iaload, 0, 0, 0, 0, 0) := rfl
set_option maxRecDepth 8000 in
theorem q228_112 : z_fi (z_mi 228) 112 = some (112, .iconst 1, 0, 0, 0, 1, 0) := rfl
set_option maxRecDepth 8000 in
theorem q228_113 : z_fi (z_mi 228) 113 = some (113, .isub, 0, 0, 0, 0, 0) := rfl
set_option maxRecDepth 8000 in
theorem q228_114 : z_fi (z_mi 228) 114 = some (114, .i2l, 0, 0, 0, 0, 0) := rfl
set_option maxRecDepth 8000 in
theorem q228_115 : z_fi (z_mi 228) 115 = some (115, .invokestatic 62, 1, 149, 3, 0, 0) := rfl
set_option maxRecDepth 8000 in
theorem q228_118 : z_fi (z_mi 228) 118 = some (118, .ifCond .ne 7, 0, 125, 0, 0, 0) := rfl
set_option maxRecDepth 8000 in
theorem q228_121 : z_fi (z_mi 228) 121 = some (121, .iconst 2, 0, 0, 0, 2, 0) := rfl
set_option maxRecDepth 8000 in
theorem q228_122 : z_fi (z_mi 228) 122 = some (122, .goto 4, 0, 126, 0, 0, 0) := rfl
set_option maxRecDepth 8000 in
theorem q228_125 : z_fi (z_mi 228) 125 = some (125, .iconst 0, 0, 0, 0, 0, 0) := rfl
set_option maxRecDepth 8000 in
theorem q228_126 : z_fi (z_mi 228) 126 = some (126, .istore 5, 0, 0, 0, 0, 0) := rfl
set_option maxRecDepth 8000 in
theorem q228_128 : z_fi (z_mi 228) 128 = some (128, .iload 5, 0, 0, 0, 0, 0) := rfl
set_option maxRecDepth 8000 in
theorem q228_130 : z_fi (z_mi 228) 130 = some (130, .ifCond .ne 71, 0, 201, 0, 0, 0) := rfl
set_option maxRecDepth 8000 in
theorem q228_133 : z_fi (z_mi 228) 133 = some (133, .iload 7, 0, 0, 0, 0, 0) := rfl
set_option maxRecDepth 8000 in
theorem q228_135 : z_fi (z_mi 228) 135 = some (135, .iconst 3, 0, 0, 0, 3, 0) := rfl
set_option maxRecDepth 8000 in
theorem q228_136 : z_fi (z_mi 228) 136 = some (136, .irem, 0, 0, 0, 0, 0) := rfl
set_option maxRecDepth 8000 in
theorem q228_137 : z_fi (z_mi 228) 137 = some (137, .iconst 2, 0, 0, 0, 2, 0) := rfl
set_option maxRecDepth 8000 in
theorem q228_138 : z_fi (z_mi 228) 138 = some (138, .if_icmp .ne 63, 0, 201, 0, 0, 0) := rfl
set_option maxRecDepth 8000 in
theorem q228_141 : z_fi (z_mi 228) 141 = some (141, .bipush 40, 0, 0, 0, 40, 0) := rfl
set_option maxRecDepth 8000 in
theorem q228_143 : z_fi (z_mi 228) 143 = some (143, .iload_n 1, 0, 0, 0, 0, 0) := rfl
set_option maxRecDepth 8000 in
theorem q228_144 : z_fi (z_mi 228) 144 = some (144, .imul, 0, 0, 0, 0, 0) := rfl
set_option maxRecDepth 8000 in
theorem q228_145 : z_fi (z_mi 228) 145 = some (145, .iload_n 3, 0, 0, 0, 0, 0) := rfl
set_option maxRecDepth 8000 in
theorem q228_146 : z_fi (z_mi 228) 146 = some (146, .iadd, 0, 0, 0, 0, 0) := rfl
set_option maxRecDepth 8000 in
theorem q228_147 : z_fi (z_mi 228) 147 = some (147, .iload 7, 0, 0, 0, 0, 0) := rfl
set_option maxRecDepth 8000 in
theorem q228_149 : z_fi (z_mi 228) 149 = some (149, .iadd, 0, 0, 0, 0, 0) := rfl
set_option maxRecDepth 8000 in
theorem q228_150 : z_fi (z_mi 228) 150 = some (150, .istore 8, 0, 0, 0, 0, 0) := rfl
set_option maxRecDepth 8000 in
theorem q228_152 : z_fi (z_mi 228) 152 = some (152, .aload_n 0, 0, 0, 0, 0, 0) := rfl
set_option maxRecDepth 8000 in
theorem q228_153 : z_fi (z_mi 228) 153 = some (153, .aload_n 0, 0, 0, 0, 0, 0) := rfl
set_option maxRecDepth 8000 in
theorem q228_154 : z_fi (z_mi 228) 154 = some (154, .getfield 57, 0, 10, 30, 0, 0) := rfl
set_option maxRecDepth 8000 in
theorem q228_157 : z_fi (z_mi 228) 157 = some (157, .iload 8, 0, 0, 0, 0, 0) := rfl
set_option maxRecDepth 8000 in
theorem q228_159 : z_fi (z_mi 228) 159 = some (159, .iconst 2, 0, 0, 0, 2, 0) := rfl
set_option maxRecDepth 8000 in
theorem q228_160 : z_fi (z_mi 228) 160 = some (160, .isub, 0, 0, 0, 0, 0) := rfl
set_option maxRecDepth 8000 in
theorem q228_161 : z_fi (z_mi 228) 161 = some (161, .iaload, 0, 0, 0, 0, 0) := rfl
set_option maxRecDepth 8000 in
theorem q228_162 : z_fi (z_mi 228) 162 = some (162, .aload_n 0, 0, 0, 0, 0, 0) := rfl
set_option maxRecDepth 8000 in
theorem q228_163 : z_fi (z_mi 228) 163 = some (163, .getfield 57, 0, 10, 30, 0, 0) := rfl
set_option maxRecDepth 8000 in
theorem q228_166 : z_fi (z_mi 228) 166 = some (166, .iload 8, 0, 0, 0, 0, 0) := rfl
set_option maxRecDepth 8000 in
theorem q228_168 : z_fi (z_mi 228) 168 = some (168, .iconst 1, 0, 0, 0, 1, 0) := rfl
set_option maxRecDepth 8000 in
theorem q228_169 : z_fi (z_mi 228) 169 = some (169, .isub, 0, 0, 0, 0, 0) := rfl
set_option maxRecDepth 8000 in
theorem q228_170 : z_fi (z_mi 228) 170 = some (170, .iaload, 0, 0, 0, 0, 0) := rfl
set_option maxRecDepth 8000 in
theorem q228_171 : z_fi (z_mi 228) 171 = some (171, .aload_n 0, 0, 0, 0, 0, 0) := rfl
set_option maxRecDepth 8000 in
theorem q228_172 : z_fi (z_mi 228) 172 = some (172, .getfield 57, 0, 10, 30, 0, 0) := rfl
set_option maxRecDepth 8000 in
theorem q228_175 : z_fi (z_mi 228) 175 = some (175, .iload 8, 0, 0, 0, 0, 0) := rfl
set_option maxRecDepth 8000 in
theorem q228_177 : z_fi (z_mi 228) 177 = some (177, .iaload, 0, 0, 0, 0, 0) := rfl
set_option maxRecDepth 8000 in
theorem q228_178 : z_fi (z_mi 228) 178 = some (178, .invokevirtual 191, 0, 179, 3, 0, 0) := rfl
set_option maxRecDepth 8000 in
theorem q228_181 : z_fi (z_mi 228) 181 = some (181, .ifCond .ge 17, 0, 198, 0, 0, 0) := rfl
set_option maxRecDepth 8000 in
theorem q228_184 : z_fi (z_mi 228) 184 = some (184, .aload_n 0, 0, 0, 0, 0, 0) := rfl
set_option maxRecDepth 8000 in
theorem q228_185 : z_fi (z_mi 228) 185 = some (185, .sipush 330, 0, 0, 0, 330, 0) := rfl
set_option maxRecDepth 8000 in
theorem q228_188 : z_fi (z_mi 228) 188 = some (188, .iconst 0, 0, 0, 0, 0, 0) := rfl
set_option maxRecDepth 8000 in
theorem q228_189 : z_fi (z_mi 228) 189 = some (189, .invokevirtual 227, 0, 195, 2, 0, 0) := rfl
set_option maxRecDepth 8000 in
theorem q228_192 : z_fi (z_mi 228) 192 = some (192, .bipush (-20), 0, 0, 0, (-20), 0) := rfl
set_option maxRecDepth 8000 in
theorem q228_194 : z_fi (z_mi 228) 194 = some (194, .iload 6, 0, 0, 0, 0, 0) := rfl
set_option maxRecDepth 8000 in
theorem q228_196 : z_fi (z_mi 228) 196 = some (196, .isub, 0, 0, 0, 0, 0) := rfl
set_option maxRecDepth 8000 in
theorem q228_197 : z_fi (z_mi 228) 197 = some (197, .ireturn, 0, 0, 0, 0, 0) := rfl
set_option maxRecDepth 8000 in
theorem q228_198 : z_fi (z_mi 228) 198 = some (198, .iinc 6 1, 0, 0, 0, 1, 0) := rfl
set_option maxRecDepth 8000 in
theorem q228_201 : z_fi (z_mi 228) 201 = some (201, .iinc 7 1, 0, 0, 0, 1, 0) := rfl
set_option maxRecDepth 8000 in
theorem q228_204 : z_fi (z_mi 228) 204 = some (204, .goto (-148), 0, 56, 0, 0, 0) := rfl
set_option maxRecDepth 8000 in
theorem q228_207 : z_fi (z_mi 228) 207 = some (207, .aload_n 0, 0, 0, 0, 0, 0) := rfl
set_option maxRecDepth 8000 in
theorem q228_208 : z_fi (z_mi 228) 208 = some (208, .iload 5, 0, 0, 0, 0, 0) := rfl
set_option maxRecDepth 8000 in
theorem q228_210 : z_fi (z_mi 228) 210 = some (210, .putfield 285, 0, 10, 31, 0, 0) := rfl
set_option maxRecDepth 8000 in
theorem q228_213 : z_fi (z_mi 228) 213 = some (213, .iload 6, 0, 0, 0, 0, 0) := rfl
set_option maxRecDepth 8000 in
theorem q228_215 : z_fi (z_mi 228) 215 = some (215, .ireturn, 0, 0, 0, 0, 0) := rfl
set_option maxRecDepth 20000 in
set_option maxHeartbeats 4000000 in
theorem t_M_read {xL : Nat} {xs : Nat → Int32} {ρ : Nat → Nat → Option Nat} (hρ : z_hR ρ) (d : Nat) (a1 : Int32) (a2 : Int32) (a3 : Int32) (a4 : Int32) (σ : zS) : ∀ q, f_M_read a1 a2 a3 a4 σ = some q → z_ec xL xs ρ (d + 3) 228 [.ref 90, .int a1, .int a2, .int a3, .int a4] σ (em_i q) := by
  refine j_of (W := [.ref 90, .int a1, .int a2, .int a3, .int a4, .null, .null, .null, .null]) (fun L hL => ?_) ?_
  · subst hL; exact z_vl_0 _ 4 rfl
  · unfold f_M_read
    refine j_iload_n (pc' := 1) q228_0 rfl rfl ?_
    refine j_i2l (pc' := 2) q228_1 rfl ?_
    refine j_lconst (pc' := 3) q228_2 rfl ?_
    refine j_ldc2 (pc' := 6) q228_3 rfl ?_
    refine j_callS3_pi (d := d + 2) (pc' := 9) q228_6 (Or.inl rfl) (Nat.le_of_ble_eq_true rfl) (Nat.le_of_ble_eq_true rfl) rfl (t_M_in hρ (d + 2) _ _ _ _) (fun r1 => ?_)
    refine j_if_eq (pc' := 12) q228_9 rfl (fun c2 => ?_) (fun c2 => ?_)
    · refine j_iconst (pc' := 38) q228_37 rfl ?_
      exact j_iret q228_38 rfl
    · refine j_iload_n (pc' := 13) q228_12 rfl rfl ?_
      refine j_i2l (pc' := 14) q228_13 rfl ?_
      refine j_lconst (pc' := 15) q228_14 rfl ?_
      refine j_ldc2 (pc' := 18) q228_15 rfl ?_
      refine j_callS3_pi (d := d + 2) (pc' := 21) q228_18 (Or.inl rfl) (Nat.le_of_ble_eq_true rfl) (Nat.le_of_ble_eq_true rfl) rfl (t_M_in hρ (d + 2) _ _ _ _) (fun r3 => ?_)
      refine j_if_eq (pc' := 24) q228_21 rfl (fun c4 => ?_) (fun c4 => ?_)
      · refine j_iconst (pc' := 38) q228_37 rfl ?_
        exact j_iret q228_38 rfl
      · refine j_iload (pc' := 26) q228_24 rfl rfl ?_
        refine j_i2l (pc' := 27) q228_26 rfl ?_
        refine j_lconst (pc' := 28) q228_27 rfl ?_
        refine j_ldc2 (pc' := 31) q228_28 rfl ?_
        refine j_callS3_pi (d := d + 2) (pc' := 34) q228_31 (Or.inl rfl) (Nat.le_of_ble_eq_true rfl) (Nat.le_of_ble_eq_true rfl) rfl (t_M_in hρ (d + 2) _ _ _ _) (fun r5 => ?_)
        refine j_if_ne (pc' := 37) q228_34 rfl (fun c6 => ?_) (fun c6 => ?_)
        · refine j_iconst (pc' := 38) q228_37 rfl ?_
          exact j_iret q228_38 rfl
        · refine j_aload_n (pc' := 40) q228_39 rfl (by decide) rfl ?_
          refine j_iconst (pc' := 41) q228_40 rfl ?_
          refine j_sipush (pc' := 44) q228_41 rfl ?_
          refine j_callV2_v (d := d + 2) (pc' := 47) q228_44 rfl (Nat.le_of_ble_eq_true rfl) (Nat.le_of_ble_eq_true rfl) rfl (t_M_copies hρ (d + 2) _ _ _) (fun r7 => ?_)
          refine j_iconst (pc' := 48) q228_47 rfl ?_
          refine j_istore5 (pc' := 50) q228_48 rfl (Nat.le_of_ble_eq_true rfl) rfl ?_
          refine j_iconst (pc' := 51) q228_50 rfl ?_
          refine j_istore6 (pc' := 53) q228_51 rfl (Nat.le_of_ble_eq_true rfl) rfl ?_
          refine j_iconst (pc' := 54) q228_53 rfl ?_
          refine j_istore7 (pc' := 56) q228_54 rfl (Nat.le_of_ble_eq_true rfl) rfl ?_
          refine j_forget (V' := [.ref 90, .int a1, .int a2, .int a3, .int a4, .int (0 : Int32), .int (0 : Int32), .int (0 : Int32), .null]) (z_le_s (z_le_s (z_le_s (z_le_s (z_le_s (z_le_s (z_le_s (z_le_s (z_le_n (z_le_nil)))))))))) ?_
          refine j_loopX (S := Int32 × Int32 × Int32 × zS) (E := Int32 × Int32 × zS) Sum.inl 207 (fun s8 => [.ref 90, .int a1, .int a2, .int a3, .int a4, .int s8.1, .int s8.2.1, .int s8.2.2.1, .null]) (fun s8 => s8.2.2.2) (fun b8 => [.ref 90, .null, .null, .null, .null, .int b8.1, .int b8.2.1, .null, .null]) (fun b8 => b8.2.2) (fun b8 => ?_) (fun R8 hR8 hX8 s8 => ?_) ((0 : Int32), (0 : Int32), (0 : Int32), r7)
          · show z_J _ _ _ _ _ _ _ _ _ _ _ _
            refine j_aload_n (pc' := 208) q228_207 rfl (by decide) rfl ?_
            refine j_iload (pc' := 210) q228_208 rfl rfl ?_
            refine j_putf (k := 90) (pc' := 213) q228_210 rfl rfl ?_
            refine j_nameS (fun τ29 => ?_)
            refine j_iload (pc' := 215) q228_213 rfl rfl ?_
            exact j_iret q228_215 rfl
          · show z_J _ _ _ _ _ _ _ _ _ _ _ _
            refine j_iload (pc' := 58) q228_56 rfl rfl ?_
            refine j_iconst (pc' := 59) q228_58 rfl ?_
            refine j_iload (pc' := 61) q228_59 rfl rfl ?_
            refine j_imul (pc' := 62) q228_61 rfl ?_
            refine j_icmp_ge (pc' := 65) q228_62 rfl (fun c9 => ?_) (fun c9 => ?_)
            · exact j_exit (j_forget (z_le_s (z_le_n (z_le_n (z_le_n (z_le_n (z_le_s (z_le_s (z_le_n (z_le_n (z_le_nil)))))))))) (hX8 (s8.1, s8.2.1, s8.2.2.2)))
            · refine j_iload (pc' := 67) q228_65 rfl rfl ?_
              refine j_if_ne (pc' := 70) q228_67 rfl (fun c10 => ?_) (fun c10 => ?_)
              · refine j_aload_n (pc' := 71) q228_70 rfl (by decide) rfl ?_
                refine j_getr (k := 90) (q := 102) (pc' := 74) q228_71 rfl (hρ 90 28 102 rfl) rfl ?_
                refine j_iload_n (pc' := 75) q228_74 rfl rfl ?_
                refine j_if (fun hi11 => ?_) (fun _ => j_none)
                refine j_iald (k := 102) (N := 4) (pc' := 76) q228_75 rfl hi11 rfl ?_
                refine j_bipush (pc' := 78) q228_76 rfl ?_
                refine j_join (T := Int32) 126 (fun t12 => [.ref 90, .int a1, .int a2, .int a3, .int a4, .null, .int s8.2.1, .int s8.2.2.1, .null]) (fun t12 => [.int t12]) (fun t12 => s8.2.2.2) (fun t12 => ?_) (fun j12 hj12 => ?_)
                · show z_J _ _ _ _ _ _ _ _ _ _ _ _
                  refine j_istore5 (pc' := 128) q228_126 rfl (Nat.le_of_ble_eq_true rfl) rfl ?_
                  refine j_iload (pc' := 130) q228_128 rfl rfl ?_
                  refine j_join (T := Int32 × zS) 201 (fun t13 => [.ref 90, .int a1, .int a2, .int a3, .int a4, .int t12, .int t13.1, .int s8.2.2.1, .null]) (fun t13 => []) (fun t13 => t13.2) (fun t13 => ?_) (fun j13 hj13 => ?_)
                  · show z_J _ _ _ _ _ _ _ _ _ _ _ _
                    refine j_iinc7 (pc' := 204) q228_201 rfl (Nat.le_of_ble_eq_true rfl) rfl ?_
                    refine j_goto q228_204 rfl ?_
                    exact j_again (j_forget (z_le_s (z_le_s (z_le_s (z_le_s (z_le_s (z_le_s (z_le_s (z_le_s (z_le_n (z_le_nil)))))))))) (hR8 (t12, t13.1, (s8.2.2.1 + (1 : Int32)), t13.2)))
                  · show z_J _ _ _ _ _ _ _ _ _ _ _ _
                    refine j_if_ne (pc' := 133) q228_130 rfl (fun c14 => ?_) (fun c14 => ?_)
                    · refine j_iload (pc' := 135) q228_133 rfl rfl ?_
                      refine j_iconst (pc' := 136) q228_135 rfl ?_
                      refine j_irem (pc' := 137) q228_136 (by decide) rfl ?_
                      refine j_iconst (pc' := 138) q228_137 rfl ?_
                      refine j_icmp_ne (pc' := 141) q228_138 rfl (fun c15 => ?_) (fun c15 => ?_)
                      · refine j_bipush (pc' := 143) q228_141 rfl ?_
                        refine j_iload_n (pc' := 144) q228_143 rfl rfl ?_
                        refine j_imul (pc' := 145) q228_144 rfl ?_
                        refine j_iload_n (pc' := 146) q228_145 rfl rfl ?_
                        refine j_iadd (pc' := 147) q228_146 rfl ?_
                        refine j_iload (pc' := 149) q228_147 rfl rfl ?_
                        refine j_iadd (pc' := 150) q228_149 rfl ?_
                        refine j_nameI (fun v16 => ?_)
                        refine j_istore8 (pc' := 152) q228_150 rfl (Nat.le_of_ble_eq_true rfl) rfl ?_
                        refine j_aload_n (pc' := 153) q228_152 rfl (by decide) rfl ?_
                        refine j_aload_n (pc' := 154) q228_153 rfl (by decide) rfl ?_
                        refine j_getr (k := 90) (q := 104) (pc' := 157) q228_154 rfl (hρ 90 30 104 rfl) rfl ?_
                        refine j_iload (pc' := 159) q228_157 rfl rfl ?_
                        refine j_iconst (pc' := 160) q228_159 rfl ?_
                        refine j_isub (pc' := 161) q228_160 rfl ?_
                        refine j_if (fun hi17 => ?_) (fun _ => j_none)
                        refine j_iald (k := 104) (N := 160) (pc' := 162) q228_161 rfl hi17 rfl ?_
                        refine j_aload_n (pc' := 163) q228_162 rfl (by decide) rfl ?_
                        refine j_getr (k := 90) (q := 104) (pc' := 166) q228_163 rfl (hρ 90 30 104 rfl) rfl ?_
                        refine j_iload (pc' := 168) q228_166 rfl rfl ?_
                        refine j_iconst (pc' := 169) q228_168 rfl ?_
                        refine j_isub (pc' := 170) q228_169 rfl ?_
                        refine j_if (fun hi18 => ?_) (fun _ => j_none)
                        refine j_iald (k := 104) (N := 160) (pc' := 171) q228_170 rfl hi18 rfl ?_
                        refine j_aload_n (pc' := 172) q228_171 rfl (by decide) rfl ?_
                        refine j_getr (k := 90) (q := 104) (pc' := 175) q228_172 rfl (hρ 90 30 104 rfl) rfl ?_
                        refine j_iload (pc' := 177) q228_175 rfl rfl ?_
                        refine j_if (fun hi19 => ?_) (fun _ => j_none)
                        refine j_iald (k := 104) (N := 160) (pc' := 178) q228_177 rfl hi19 rfl ?_
                        refine j_callV3_i (d := d + 2) (pc' := 181) q228_178 rfl (Nat.le_of_ble_eq_true rfl) (Nat.le_of_ble_eq_true rfl) rfl (t_M_buys hρ (d + 0) _ _ _ _) (fun r20 => ?_)
                        refine j_if_ge (pc' := 184) q228_181 rfl (fun c21 => ?_) (fun c21 => ?_)
                        · refine j_iinc6 (pc' := 201) q228_198 rfl (Nat.le_of_ble_eq_true rfl) rfl ?_
                          refine j_forget (z_le_s (z_le_s (z_le_s (z_le_s (z_le_s (z_le_s (z_le_s (z_le_s (z_le_n (z_le_nil)))))))))) (hj13 ((s8.2.1 + (1 : Int32)), r20.2))
                        · refine j_aload_n (pc' := 185) q228_184 rfl (by decide) rfl ?_
                          refine j_sipush (pc' := 188) q228_185 rfl ?_
                          refine j_iconst (pc' := 189) q228_188 rfl ?_
                          refine j_callV2_v (d := d + 2) (pc' := 192) q228_189 rfl (Nat.le_of_ble_eq_true rfl) (Nat.le_of_ble_eq_true rfl) rfl (t_M_copies hρ (d + 2) _ _ _) (fun r22 => ?_)
                          refine j_bipush (pc' := 194) q228_192 rfl ?_
                          refine j_iload (pc' := 196) q228_194 rfl rfl ?_
                          refine j_isub (pc' := 197) q228_196 rfl ?_
                          refine j_exit ?_
                          exact j_iret q228_197 rfl
                      · refine j_forget (z_le_s (z_le_s (z_le_s (z_le_s (z_le_s (z_le_s (z_le_s (z_le_s (z_le_n (z_le_nil)))))))))) (hj13 (s8.2.1, s8.2.2.2))
                    · refine j_forget (z_le_s (z_le_s (z_le_s (z_le_s (z_le_s (z_le_s (z_le_s (z_le_s (z_le_n (z_le_nil)))))))))) (hj13 (s8.2.1, s8.2.2.2))
                · show z_J _ _ _ _ _ _ _ _ _ _ _ _
                  refine j_icmp_ne (pc' := 81) q228_78 rfl (fun c23 => ?_) (fun c23 => ?_)
                  · refine j_iconst (pc' := 82) q228_81 rfl ?_
                    refine j_goto q228_82 rfl ?_
                    refine j_forget (z_le_s (z_le_s (z_le_s (z_le_s (z_le_s (z_le_n (z_le_s (z_le_s (z_le_n (z_le_nil)))))))))) (hj12 (1 : Int32))
                  · refine j_aload_n (pc' := 86) q228_85 rfl (by decide) rfl ?_
                    refine j_getr (k := 90) (q := 102) (pc' := 89) q228_86 rfl (hρ 90 28 102 rfl) rfl ?_
                    refine j_iload_n (pc' := 90) q228_89 rfl rfl ?_
                    refine j_if (fun hi24 => ?_) (fun _ => j_none)
                    refine j_iald (k := 102) (N := 4) (pc' := 91) q228_90 rfl hi24 rfl ?_
                    refine j_iload_n (pc' := 92) q228_91 rfl rfl ?_
                    refine j_icmp_eq (pc' := 95) q228_92 rfl (fun c25 => ?_) (fun c25 => ?_)
                    · refine j_iload_n (pc' := 100) q228_99 rfl rfl ?_
                      refine j_i2l (pc' := 101) q228_100 rfl ?_
                      refine j_iload (pc' := 103) q228_101 rfl rfl ?_
                      refine j_i2l (pc' := 104) q228_103 rfl ?_
                      refine j_ladd (pc' := 105) q228_104 rfl ?_
                      refine j_lconst (pc' := 106) q228_105 rfl ?_
                      refine j_aload_n (pc' := 107) q228_106 rfl (by decide) rfl ?_
                      refine j_getr (k := 90) (q := 103) (pc' := 110) q228_107 rfl (hρ 90 29 103 rfl) rfl ?_
                      refine j_iload_n (pc' := 111) q228_110 rfl rfl ?_
                      refine j_if (fun hi26 => ?_) (fun _ => j_none)
                      refine j_iald (k := 103) (N := 4) (pc' := 112) q228_111 rfl hi26 rfl ?_
                      refine j_iconst (pc' := 113) q228_112 rfl ?_
                      refine j_isub (pc' := 114) q228_113 rfl ?_
                      refine j_i2l (pc' := 115) q228_114 rfl ?_
                      refine j_callS3_pi (d := d + 2) (pc' := 118) q228_115 (Or.inl rfl) (Nat.le_of_ble_eq_true rfl) (Nat.le_of_ble_eq_true rfl) rfl (t_M_in hρ (d + 2) _ _ _ _) (fun r27 => ?_)
                      refine j_if_ne (pc' := 121) q228_118 rfl (fun c28 => ?_) (fun c28 => ?_)
                      · refine j_iconst (pc' := 122) q228_121 rfl ?_
                        refine j_goto q228_122 rfl ?_
                        refine j_forget (z_le_s (z_le_s (z_le_s (z_le_s (z_le_s (z_le_n (z_le_s (z_le_s (z_le_n (z_le_nil)))))))))) (hj12 (2 : Int32))
                      · refine j_iconst (pc' := 126) q228_125 rfl ?_
                        refine j_forget (z_le_s (z_le_s (z_le_s (z_le_s (z_le_s (z_le_n (z_le_s (z_le_s (z_le_n (z_le_nil)))))))))) (hj12 (0 : Int32))
                    · refine j_iconst (pc' := 96) q228_95 rfl ?_
                      refine j_goto q228_96 rfl ?_
                      refine j_forget (z_le_s (z_le_s (z_le_s (z_le_s (z_le_s (z_le_n (z_le_s (z_le_s (z_le_n (z_le_nil)))))))))) (hj12 (3 : Int32))
              · exact j_exit (j_forget (z_le_s (z_le_n (z_le_n (z_le_n (z_le_n (z_le_s (z_le_s (z_le_n (z_le_n (z_le_nil)))))))))) (hX8 (s8.1, s8.2.1, s8.2.2.2)))
theorem q146_0 : z_fi (z_mi 146) 0 = some (0, .aload_n 0, 0, 0, 0, 0, 0) := rfl
theorem q146_1 : z_fi (z_mi 146) 1 = some (1, .getfield 296, 0, 9, 10, 0, 0) := rfl
theorem q146_4 : z_fi (z_mi 146) 4 = some (4, .ireturn, 0, 0, 0, 0, 0) := rfl
set_option maxRecDepth 20000 in
set_option maxHeartbeats 4000000 in
theorem t_Y_torn {xL : Nat} {xs : Nat → Int32} {ρ : Nat → Nat → Option Nat} (hρ : z_hR ρ) (d : Nat)  (σ : zS) : ∀ q, f_Y_torn  σ = some q → z_ec xL xs ρ (d + 0) 146 [.ref 0] σ (em_pi σ q) := by
  refine j_of (W := [.ref 0]) (fun L hL => ?_) ?_
  · subst hL; exact z_vl_0 _ 0 rfl
  · unfold f_Y_torn
    refine j_aload_n (pc' := 1) q146_0 rfl (by decide) rfl ?_
    refine j_getf (k := 0) (pc' := 4) q146_1 rfl rfl ?_
    exact j_piret q146_4 rfl
set_option maxRecDepth 8000 in
theorem q229_0 : z_fi (z_mi 229) 0 = some (0, .aload_n 0, 0, 0, 0, 0, 0) := rfl
set_option maxRecDepth 8000 in
theorem q229_1 : z_fi (z_mi 229) 1 = some (1, .getfield 285, 0, 10, 31, 0, 0) := rfl
set_option maxRecDepth 8000 in
theorem q229_4 : z_fi (z_mi 229) 4 = some (4, .ireturn, 0, 0, 0, 0, 0) := rfl
set_option maxRecDepth 20000 in
set_option maxHeartbeats 4000000 in
theorem t_M_torn {xL : Nat} {xs : Nat → Int32} {ρ : Nat → Nat → Option Nat} (hρ : z_hR ρ) (d : Nat)  (σ : zS) : ∀ q, f_M_torn  σ = some q → z_ec xL xs ρ (d + 0) 229 [.ref 90] σ (em_pi σ q) := by
  refine j_of (W := [.ref 90]) (fun L hL => ?_) ?_
  · subst hL; exact z_vl_0 _ 0 rfl
  · unfold f_M_torn
    refine j_aload_n (pc' := 1) q229_0 rfl (by decide) rfl ?_
    refine j_getf (k := 90) (pc' := 4) q229_1 rfl rfl ?_
    exact j_piret q229_4 rfl
theorem q31_0 : z_fi (z_mi 31) 0 = some (0, .iconst 0, 0, 0, 0, 0, 0) := rfl
theorem q31_1 : z_fi (z_mi 31) 1 = some (1, .istore_n 1, 0, 0, 0, 0, 0) := rfl
theorem q31_2 : z_fi (z_mi 31) 2 = some (2, .iconst 0, 0, 0, 0, 0, 0) := rfl
theorem q31_3 : z_fi (z_mi 31) 3 = some (3, .istore_n 2, 0, 0, 0, 0, 0) := rfl
theorem q31_4 : z_fi (z_mi 31) 4 = some (4, .iload_n 2, 0, 0, 0, 0, 0) := rfl
theorem q31_5 : z_fi (z_mi 31) 5 = some (5, .aload_n 0, 0, 0, 0, 0, 0) := rfl
theorem q31_6 : z_fi (z_mi 31) 6 = some (6, .invokevirtual 95, 0, 7, 0, 0, 0) := rfl
theorem q31_9 : z_fi (z_mi 31) 9 = some (9, .if_icmp .ge 27, 0, 36, 0, 0, 0) := rfl
theorem q31_12 : z_fi (z_mi 31) 12 = some (12, .iload_n 1, 0, 0, 0, 0, 0) := rfl
theorem q31_13 : z_fi (z_mi 31) 13 = some (13, .aload_n 0, 0, 0, 0, 0, 0) := rfl
theorem q31_14 : z_fi (z_mi 31) 14 = some (14, .getfield 9, 0, 0, 2, 0, 0) := rfl
theorem q31_17 : z_fi (z_mi 31) 17 = some (17, .iload_n 2, 0, 0, 0, 0, 0) := rfl
theorem q31_18 : z_fi (z_mi 31) 18 = some (18, .iaload, 0, 0, 0, 0, 0) := rfl
theorem q31_19 : z_fi (z_mi 31) 19 = some (19, .iconst 4, 0, 0, 0, 4, 0) := rfl
theorem q31_20 : z_fi (z_mi 31) 20 = some (20, .if_icmp .ne 7, 0, 27, 0, 0, 0) := rfl
theorem q31_23 : z_fi (z_mi 31) 23 = some (23, .iconst 1, 0, 0, 0, 1, 0) := rfl
theorem q31_24 : z_fi (z_mi 31) 24 = some (24, .goto 4, 0, 28, 0, 0, 0) := rfl
theorem q31_27 : z_fi (z_mi 31) 27 = some (27, .iconst 0, 0, 0, 0, 0, 0) := rfl
theorem q31_28 : z_fi (z_mi 31) 28 = some (28, .iadd, 0, 0, 0, 0, 0) := rfl
theorem q31_29 : z_fi (z_mi 31) 29 = some (29, .istore_n 1, 0, 0, 0, 0, 0) := rfl
theorem q31_30 : z_fi (z_mi 31) 30 = some (30, .iinc 2 1, 0, 0, 0, 1, 0) := rfl
theorem q31_33 : z_fi (z_mi 31) 33 = some (33, .goto (-29), 0, 4, 0, 0, 0) := rfl
theorem q31_36 : z_fi (z_mi 31) 36 = some (36, .iload_n 1, 0, 0, 0, 0, 0) := rfl
theorem q31_37 : z_fi (z_mi 31) 37 = some (37, .ireturn, 0, 0, 0, 0, 0) := rfl
set_option maxRecDepth 20000 in
set_option maxHeartbeats 4000000 in
theorem t_G_bareCells_1 {xL : Nat} {xs : Nat → Int32} {ρ : Nat → Nat → Option Nat} (hρ : z_hR ρ) (d : Nat)  (σ : zS) : ∀ q, f_G_bareCells_1  σ = some q → z_ec xL xs ρ (d + 1) 31 [.ref 1] σ (em_pi σ q) := by
  refine j_of (W := [.ref 1, .null, .null]) (fun L hL => ?_) ?_
  · subst hL; exact z_vl_0 _ 2 rfl
  · unfold f_G_bareCells_1
    refine j_iconst (pc' := 1) q31_0 rfl ?_
    refine j_istore1 (pc' := 2) q31_1 rfl (Nat.le_of_ble_eq_true rfl) rfl ?_
    refine j_iconst (pc' := 3) q31_2 rfl ?_
    refine j_istore2 (pc' := 4) q31_3 rfl (Nat.le_of_ble_eq_true rfl) rfl ?_
    refine j_forget (V' := [.ref 1, .int (0 : Int32), .int (0 : Int32)]) (z_le_s (z_le_s (z_le_s (z_le_nil)))) ?_
    refine j_loopX (S := Int32 × Int32) (E := Int32) (fun e => e) 36 (fun s1 => [.ref 1, .int s1.1, .int s1.2]) (fun s1 => σ) (fun b1 => [.null, .int b1, .null]) (fun b1 => σ) (fun b1 => ?_) (fun R1 hR1 hX1 s1 => ?_) ((0 : Int32), (0 : Int32))
    · show z_J _ _ _ _ _ _ _ _ _ _ _ _
      refine j_iload_n (pc' := 37) q31_36 rfl rfl ?_
      exact j_piret q31_37 rfl
    · show z_J _ _ _ _ _ _ _ _ _ _ _ _
      refine j_iload_n (pc' := 5) q31_4 rfl rfl ?_
      refine j_aload_n (pc' := 6) q31_5 rfl (by decide) rfl ?_
      refine j_callV0_pi (d := d + 0) (pc' := 9) q31_6 rfl (Nat.le_of_ble_eq_true rfl) (Nat.le_of_ble_eq_true rfl) rfl (t_G_cells_1 hρ (d + 0) _) (fun r2 => ?_)
      refine j_icmp_ge (pc' := 12) q31_9 rfl (fun c3 => ?_) (fun c3 => ?_)
      · exact j_exit (j_forget (z_le_n (z_le_s (z_le_n (z_le_nil)))) (hX1 s1.1))
      · refine j_iload_n (pc' := 13) q31_12 rfl rfl ?_
        refine j_aload_n (pc' := 14) q31_13 rfl (by decide) rfl ?_
        refine j_getr (k := 1) (q := 2) (pc' := 17) q31_14 rfl (hρ 1 2 2 rfl) rfl ?_
        refine j_iload_n (pc' := 18) q31_17 rfl rfl ?_
        refine j_if (fun hi4 => ?_) (fun _ => j_none)
        refine j_iald (k := 2) (N := 16) (pc' := 19) q31_18 rfl hi4 rfl ?_
        refine j_iconst (pc' := 20) q31_19 rfl ?_
        refine j_join (T := Int32 × Int32) 28 (fun t5 => [.ref 1, .null, .int s1.2]) (fun t5 => [.int t5.1, .int t5.2]) (fun t5 => σ) (fun t5 => ?_) (fun j5 hj5 => ?_)
        · show z_J _ _ _ _ _ _ _ _ _ _ _ _
          refine j_iadd (pc' := 29) q31_28 rfl ?_
          refine j_istore1 (pc' := 30) q31_29 rfl (Nat.le_of_ble_eq_true rfl) rfl ?_
          refine j_iinc2 (pc' := 33) q31_30 rfl (Nat.le_of_ble_eq_true rfl) rfl ?_
          refine j_goto q31_33 rfl ?_
          exact j_again (j_forget (z_le_s (z_le_s (z_le_s (z_le_nil)))) (hR1 ((t5.2 + t5.1), (s1.2 + (1 : Int32)))))
        · show z_J _ _ _ _ _ _ _ _ _ _ _ _
          refine j_icmp_ne (pc' := 23) q31_20 rfl (fun c6 => ?_) (fun c6 => ?_)
          · refine j_iconst (pc' := 24) q31_23 rfl ?_
            refine j_goto q31_24 rfl ?_
            refine j_forget (z_le_s (z_le_n (z_le_s (z_le_nil)))) (hj5 ((1 : Int32), s1.1))
          · refine j_iconst (pc' := 28) q31_27 rfl ?_
            refine j_forget (z_le_s (z_le_n (z_le_s (z_le_nil)))) (hj5 ((0 : Int32), s1.1))
theorem q32_0 : z_fi (z_mi 32) 0 = some (0, .iconst 0, 0, 0, 0, 0, 0) := rfl
theorem q32_1 : z_fi (z_mi 32) 1 = some (1, .istore_n 1, 0, 0, 0, 0, 0) := rfl
theorem q32_2 : z_fi (z_mi 32) 2 = some (2, .iconst 0, 0, 0, 0, 0, 0) := rfl
theorem q32_3 : z_fi (z_mi 32) 3 = some (3, .istore_n 2, 0, 0, 0, 0, 0) := rfl
theorem q32_4 : z_fi (z_mi 32) 4 = some (4, .iload_n 2, 0, 0, 0, 0, 0) := rfl
theorem q32_5 : z_fi (z_mi 32) 5 = some (5, .aload_n 0, 0, 0, 0, 0, 0) := rfl
theorem q32_6 : z_fi (z_mi 32) 6 = some (6, .invokevirtual 95, 0, 7, 0, 0, 0) := rfl
theorem q32_9 : z_fi (z_mi 32) 9 = some (9, .if_icmp .ge 28, 0, 37, 0, 0, 0) := rfl
theorem q32_12 : z_fi (z_mi 32) 12 = some (12, .iload_n 1, 0, 0, 0, 0, 0) := rfl
theorem q32_13 : z_fi (z_mi 32) 13 = some (13, .aload_n 0, 0, 0, 0, 0, 0) := rfl
theorem q32_14 : z_fi (z_mi 32) 14 = some (14, .getfield 18, 0, 0, 4, 0, 0) := rfl
theorem q32_17 : z_fi (z_mi 32) 17 = some (17, .iload_n 2, 0, 0, 0, 0, 0) := rfl
theorem q32_18 : z_fi (z_mi 32) 18 = some (18, .iaload, 0, 0, 0, 0, 0) := rfl
theorem q32_19 : z_fi (z_mi 32) 19 = some (19, .bipush (-4), 0, 0, 0, (-4), 0) := rfl
theorem q32_21 : z_fi (z_mi 32) 21 = some (21, .if_icmp .ne 7, 0, 28, 0, 0, 0) := rfl
theorem q32_24 : z_fi (z_mi 32) 24 = some (24, .iconst 0, 0, 0, 0, 0, 0) := rfl
theorem q32_25 : z_fi (z_mi 32) 25 = some (25, .goto 4, 0, 29, 0, 0, 0) := rfl
theorem q32_28 : z_fi (z_mi 32) 28 = some (28, .iconst 1, 0, 0, 0, 1, 0) := rfl
theorem q32_29 : z_fi (z_mi 32) 29 = some (29, .iadd, 0, 0, 0, 0, 0) := rfl
theorem q32_30 : z_fi (z_mi 32) 30 = some (30, .istore_n 1, 0, 0, 0, 0, 0) := rfl
theorem q32_31 : z_fi (z_mi 32) 31 = some (31, .iinc 2 1, 0, 0, 0, 1, 0) := rfl
theorem q32_34 : z_fi (z_mi 32) 34 = some (34, .goto (-30), 0, 4, 0, 0, 0) := rfl
theorem q32_37 : z_fi (z_mi 32) 37 = some (37, .iload_n 1, 0, 0, 0, 0, 0) := rfl
theorem q32_38 : z_fi (z_mi 32) 38 = some (38, .ireturn, 0, 0, 0, 0, 0) := rfl
set_option maxRecDepth 20000 in
set_option maxHeartbeats 4000000 in
theorem t_G_cropsSown_1 {xL : Nat} {xs : Nat → Int32} {ρ : Nat → Nat → Option Nat} (hρ : z_hR ρ) (d : Nat)  (σ : zS) : ∀ q, f_G_cropsSown_1  σ = some q → z_ec xL xs ρ (d + 1) 32 [.ref 1] σ (em_pi σ q) := by
  refine j_of (W := [.ref 1, .null, .null]) (fun L hL => ?_) ?_
  · subst hL; exact z_vl_0 _ 2 rfl
  · unfold f_G_cropsSown_1
    refine j_iconst (pc' := 1) q32_0 rfl ?_
    refine j_istore1 (pc' := 2) q32_1 rfl (Nat.le_of_ble_eq_true rfl) rfl ?_
    refine j_iconst (pc' := 3) q32_2 rfl ?_
    refine j_istore2 (pc' := 4) q32_3 rfl (Nat.le_of_ble_eq_true rfl) rfl ?_
    refine j_forget (V' := [.ref 1, .int (0 : Int32), .int (0 : Int32)]) (z_le_s (z_le_s (z_le_s (z_le_nil)))) ?_
    refine j_loopX (S := Int32 × Int32) (E := Int32) (fun e => e) 37 (fun s1 => [.ref 1, .int s1.1, .int s1.2]) (fun s1 => σ) (fun b1 => [.null, .int b1, .null]) (fun b1 => σ) (fun b1 => ?_) (fun R1 hR1 hX1 s1 => ?_) ((0 : Int32), (0 : Int32))
    · show z_J _ _ _ _ _ _ _ _ _ _ _ _
      refine j_iload_n (pc' := 38) q32_37 rfl rfl ?_
      exact j_piret q32_38 rfl
    · show z_J _ _ _ _ _ _ _ _ _ _ _ _
      refine j_iload_n (pc' := 5) q32_4 rfl rfl ?_
      refine j_aload_n (pc' := 6) q32_5 rfl (by decide) rfl ?_
      refine j_callV0_pi (d := d + 0) (pc' := 9) q32_6 rfl (Nat.le_of_ble_eq_true rfl) (Nat.le_of_ble_eq_true rfl) rfl (t_G_cells_1 hρ (d + 0) _) (fun r2 => ?_)
      refine j_icmp_ge (pc' := 12) q32_9 rfl (fun c3 => ?_) (fun c3 => ?_)
      · exact j_exit (j_forget (z_le_n (z_le_s (z_le_n (z_le_nil)))) (hX1 s1.1))
      · refine j_iload_n (pc' := 13) q32_12 rfl rfl ?_
        refine j_aload_n (pc' := 14) q32_13 rfl (by decide) rfl ?_
        refine j_getr (k := 1) (q := 4) (pc' := 17) q32_14 rfl (hρ 1 4 4 rfl) rfl ?_
        refine j_iload_n (pc' := 18) q32_17 rfl rfl ?_
        refine j_if (fun hi4 => ?_) (fun _ => j_none)
        refine j_iald (k := 4) (N := 16) (pc' := 19) q32_18 rfl hi4 rfl ?_
        refine j_bipush (pc' := 21) q32_19 rfl ?_
        refine j_join (T := Int32 × Int32) 29 (fun t5 => [.ref 1, .null, .int s1.2]) (fun t5 => [.int t5.1, .int t5.2]) (fun t5 => σ) (fun t5 => ?_) (fun j5 hj5 => ?_)
        · show z_J _ _ _ _ _ _ _ _ _ _ _ _
          refine j_iadd (pc' := 30) q32_29 rfl ?_
          refine j_istore1 (pc' := 31) q32_30 rfl (Nat.le_of_ble_eq_true rfl) rfl ?_
          refine j_iinc2 (pc' := 34) q32_31 rfl (Nat.le_of_ble_eq_true rfl) rfl ?_
          refine j_goto q32_34 rfl ?_
          exact j_again (j_forget (z_le_s (z_le_s (z_le_s (z_le_nil)))) (hR1 ((t5.2 + t5.1), (s1.2 + (1 : Int32)))))
        · show z_J _ _ _ _ _ _ _ _ _ _ _ _
          refine j_icmp_ne (pc' := 24) q32_21 rfl (fun c6 => ?_) (fun c6 => ?_)
          · refine j_iconst (pc' := 25) q32_24 rfl ?_
            refine j_goto q32_25 rfl ?_
            refine j_forget (z_le_s (z_le_n (z_le_s (z_le_nil)))) (hj5 ((0 : Int32), s1.1))
          · refine j_iconst (pc' := 29) q32_28 rfl ?_
            refine j_forget (z_le_s (z_le_n (z_le_s (z_le_nil)))) (hj5 ((1 : Int32), s1.1))
theorem q33_0 : z_fi (z_mi 33) 0 = some (0, .iconst 0, 0, 0, 0, 0, 0) := rfl
theorem q33_1 : z_fi (z_mi 33) 1 = some (1, .istore_n 1, 0, 0, 0, 0, 0) := rfl
theorem q33_2 : z_fi (z_mi 33) 2 = some (2, .iconst 0, 0, 0, 0, 0, 0) := rfl
theorem q33_3 : z_fi (z_mi 33) 3 = some (3, .istore_n 2, 0, 0, 0, 0, 0) := rfl
theorem q33_4 : z_fi (z_mi 33) 4 = some (4, .iload_n 2, 0, 0, 0, 0, 0) := rfl
theorem q33_5 : z_fi (z_mi 33) 5 = some (5, .aload_n 0, 0, 0, 0, 0, 0) := rfl
theorem q33_6 : z_fi (z_mi 33) 6 = some (6, .invokevirtual 95, 0, 7, 0, 0, 0) := rfl
theorem q33_9 : z_fi (z_mi 33) 9 = some (9, .if_icmp .ge 18, 0, 27, 0, 0, 0) := rfl
theorem q33_12 : z_fi (z_mi 33) 12 = some (12, .iload_n 1, 0, 0, 0, 0, 0) := rfl
theorem q33_13 : z_fi (z_mi 33) 13 = some (13, .aload_n 0, 0, 0, 0, 0, 0) := rfl
theorem q33_14 : z_fi (z_mi 33) 14 = some (14, .getfield 15, 0, 0, 3, 0, 0) := rfl
theorem q33_17 : z_fi (z_mi 33) 17 = some (17, .iload_n 2, 0, 0, 0, 0, 0) := rfl
theorem q33_18 : z_fi (z_mi 33) 18 = some (18, .iaload, 0, 0, 0, 0, 0) := rfl
theorem q33_19 : z_fi (z_mi 33) 19 = some (19, .iadd, 0, 0, 0, 0, 0) := rfl
theorem q33_20 : z_fi (z_mi 33) 20 = some (20, .istore_n 1, 0, 0, 0, 0, 0) := rfl
theorem q33_21 : z_fi (z_mi 33) 21 = some (21, .iinc 2 1, 0, 0, 0, 1, 0) := rfl
theorem q33_24 : z_fi (z_mi 33) 24 = some (24, .goto (-20), 0, 4, 0, 0, 0) := rfl
theorem q33_27 : z_fi (z_mi 33) 27 = some (27, .iload_n 1, 0, 0, 0, 0, 0) := rfl
theorem q33_28 : z_fi (z_mi 33) 28 = some (28, .ireturn, 0, 0, 0, 0, 0) := rfl
set_option maxRecDepth 20000 in
set_option maxHeartbeats 4000000 in
theorem t_G_yardsInAll_1 {xL : Nat} {xs : Nat → Int32} {ρ : Nat → Nat → Option Nat} (hρ : z_hR ρ) (d : Nat)  (σ : zS) : ∀ q, f_G_yardsInAll_1  σ = some q → z_ec xL xs ρ (d + 1) 33 [.ref 1] σ (em_pi σ q) := by
  refine j_of (W := [.ref 1, .null, .null]) (fun L hL => ?_) ?_
  · subst hL; exact z_vl_0 _ 2 rfl
  · unfold f_G_yardsInAll_1
    refine j_iconst (pc' := 1) q33_0 rfl ?_
    refine j_istore1 (pc' := 2) q33_1 rfl (Nat.le_of_ble_eq_true rfl) rfl ?_
    refine j_iconst (pc' := 3) q33_2 rfl ?_
    refine j_istore2 (pc' := 4) q33_3 rfl (Nat.le_of_ble_eq_true rfl) rfl ?_
    refine j_forget (V' := [.ref 1, .int (0 : Int32), .int (0 : Int32)]) (z_le_s (z_le_s (z_le_s (z_le_nil)))) ?_
    refine j_loopX (S := Int32 × Int32) (E := Int32) (fun e => e) 27 (fun s1 => [.ref 1, .int s1.1, .int s1.2]) (fun s1 => σ) (fun b1 => [.null, .int b1, .null]) (fun b1 => σ) (fun b1 => ?_) (fun R1 hR1 hX1 s1 => ?_) ((0 : Int32), (0 : Int32))
    · show z_J _ _ _ _ _ _ _ _ _ _ _ _
      refine j_iload_n (pc' := 28) q33_27 rfl rfl ?_
      exact j_piret q33_28 rfl
    · show z_J _ _ _ _ _ _ _ _ _ _ _ _
      refine j_iload_n (pc' := 5) q33_4 rfl rfl ?_
      refine j_aload_n (pc' := 6) q33_5 rfl (by decide) rfl ?_
      refine j_callV0_pi (d := d + 0) (pc' := 9) q33_6 rfl (Nat.le_of_ble_eq_true rfl) (Nat.le_of_ble_eq_true rfl) rfl (t_G_cells_1 hρ (d + 0) _) (fun r2 => ?_)
      refine j_icmp_ge (pc' := 12) q33_9 rfl (fun c3 => ?_) (fun c3 => ?_)
      · exact j_exit (j_forget (z_le_n (z_le_s (z_le_n (z_le_nil)))) (hX1 s1.1))
      · refine j_iload_n (pc' := 13) q33_12 rfl rfl ?_
        refine j_aload_n (pc' := 14) q33_13 rfl (by decide) rfl ?_
        refine j_getr (k := 1) (q := 3) (pc' := 17) q33_14 rfl (hρ 1 3 3 rfl) rfl ?_
        refine j_iload_n (pc' := 18) q33_17 rfl rfl ?_
        refine j_if (fun hi4 => ?_) (fun _ => j_none)
        refine j_iald (k := 3) (N := 16) (pc' := 19) q33_18 rfl hi4 rfl ?_
        refine j_iadd (pc' := 20) q33_19 rfl ?_
        refine j_nameI (fun v5 => ?_)
        refine j_istore1 (pc' := 21) q33_20 rfl (Nat.le_of_ble_eq_true rfl) rfl ?_
        refine j_iinc2 (pc' := 24) q33_21 rfl (Nat.le_of_ble_eq_true rfl) rfl ?_
        refine j_goto q33_24 rfl ?_
        exact j_again (j_forget (z_le_s (z_le_s (z_le_s (z_le_nil)))) (hR1 (v5, (s1.2 + (1 : Int32)))))
theorem q147_0 : z_fi (z_mi 147) 0 = some (0, .iload_n 1, 0, 0, 0, 0, 0) := rfl
theorem q147_1 : z_fi (z_mi 147) 1 = some (1, .tableswitch 133 0 7 #[47, 55, 63, 71, 98, 106, 114, 122], 47, 0, 0, 0, 0) := rfl
theorem q147_48 : z_fi (z_mi 147) 48 = some (48, .aload_n 0, 0, 0, 0, 0, 0) := rfl
theorem q147_49 : z_fi (z_mi 147) 49 = some (49, .getfield 55, 0, 9, 7, 0, 0) := rfl
theorem q147_52 : z_fi (z_mi 147) 52 = some (52, .getfield 89, 0, 5, 2, 0, 0) := rfl
theorem q147_55 : z_fi (z_mi 147) 55 = some (55, .ireturn, 0, 0, 0, 0, 0) := rfl
theorem q147_56 : z_fi (z_mi 147) 56 = some (56, .aload_n 0, 0, 0, 0, 0, 0) := rfl
theorem q147_57 : z_fi (z_mi 147) 57 = some (57, .getfield 92, 0, 9, 8, 0, 0) := rfl
theorem q147_60 : z_fi (z_mi 147) 60 = some (60, .invokestatic 299, 1, 231, 1, 0, 0) := rfl
theorem q147_63 : z_fi (z_mi 147) 63 = some (63, .ireturn, 0, 0, 0, 0, 0) := rfl
theorem q147_64 : z_fi (z_mi 147) 64 = some (64, .aload_n 0, 0, 0, 0, 0, 0) := rfl
theorem q147_65 : z_fi (z_mi 147) 65 = some (65, .getfield 32, 0, 9, 4, 0, 0) := rfl
theorem q147_68 : z_fi (z_mi 147) 68 = some (68, .getfield 68, 0, 6, 1, 0, 0) := rfl
theorem q147_71 : z_fi (z_mi 147) 71 = some (71, .ireturn, 0, 0, 0, 0, 0) := rfl
theorem q147_72 : z_fi (z_mi 147) 72 = some (72, .aload_n 0, 0, 0, 0, 0, 0) := rfl
theorem q147_73 : z_fi (z_mi 147) 73 = some (73, .getfield 25, 0, 9, 3, 0, 0) := rfl
theorem q147_76 : z_fi (z_mi 147) 76 = some (76, .iconst 0, 0, 0, 0, 0, 0) := rfl
theorem q147_77 : z_fi (z_mi 147) 77 = some (77, .aaload, 0, 0, 0, 0, 0) := rfl
theorem q147_78 : z_fi (z_mi 147) 78 = some (78, .invokevirtual 280, 0, 55, 0, 0, 0) := rfl
theorem q147_81 : z_fi (z_mi 147) 81 = some (81, .ifCond .eq 15, 0, 96, 0, 0, 0) := rfl
theorem q147_84 : z_fi (z_mi 147) 84 = some (84, .aload_n 0, 0, 0, 0, 0, 0) := rfl
theorem q147_85 : z_fi (z_mi 147) 85 = some (85, .getfield 25, 0, 9, 3, 0, 0) := rfl
theorem q147_88 : z_fi (z_mi 147) 88 = some (88, .iconst 0, 0, 0, 0, 0, 0) := rfl
theorem q147_89 : z_fi (z_mi 147) 89 = some (89, .aaload, 0, 0, 0, 0, 0) := rfl
theorem q147_90 : z_fi (z_mi 147) 90 = some (90, .getfield 283, 0, 3, 2, 0, 0) := rfl
theorem q147_93 : z_fi (z_mi 147) 93 = some (93, .goto 5, 0, 98, 0, 0, 0) := rfl
theorem q147_96 : z_fi (z_mi 147) 96 = some (96, .bipush (-4), 0, 0, 0, (-4), 0) := rfl
theorem q147_98 : z_fi (z_mi 147) 98 = some (98, .ireturn, 0, 0, 0, 0, 0) := rfl
theorem q147_99 : z_fi (z_mi 147) 99 = some (99, .aload_n 0, 0, 0, 0, 0, 0) := rfl
theorem q147_100 : z_fi (z_mi 147) 100 = some (100, .getfield 10, 0, 9, 0, 0, 0) := rfl
theorem q147_103 : z_fi (z_mi 147) 103 = some (103, .invokevirtual 304, 0, 31, 0, 0, 0) := rfl
theorem q147_106 : z_fi (z_mi 147) 106 = some (106, .ireturn, 0, 0, 0, 0, 0) := rfl
theorem q147_107 : z_fi (z_mi 147) 107 = some (107, .aload_n 0, 0, 0, 0, 0, 0) := rfl
theorem q147_108 : z_fi (z_mi 147) 108 = some (108, .getfield 10, 0, 9, 0, 0, 0) := rfl
theorem q147_111 : z_fi (z_mi 147) 111 = some (111, .invokevirtual 307, 0, 32, 0, 0, 0) := rfl
theorem q147_114 : z_fi (z_mi 147) 114 = some (114, .ireturn, 0, 0, 0, 0, 0) := rfl
theorem q147_115 : z_fi (z_mi 147) 115 = some (115, .aload_n 0, 0, 0, 0, 0, 0) := rfl
theorem q147_116 : z_fi (z_mi 147) 116 = some (116, .getfield 10, 0, 9, 0, 0, 0) := rfl
theorem q147_119 : z_fi (z_mi 147) 119 = some (119, .invokevirtual 310, 0, 33, 0, 0, 0) := rfl
theorem q147_122 : z_fi (z_mi 147) 122 = some (122, .ireturn, 0, 0, 0, 0, 0) := rfl
theorem q147_123 : z_fi (z_mi 147) 123 = some (123, .aload_n 0, 0, 0, 0, 0, 0) := rfl
theorem q147_124 : z_fi (z_mi 147) 124 = some (124, .getfield 10, 0, 9, 0, 0, 0) := rfl
theorem q147_127 : z_fi (z_mi 147) 127 = some (127, .getfield 313, 0, 0, 7, 0, 0) := rfl
theorem q147_130 : z_fi (z_mi 147) 130 = some (130, .invokestatic 299, 1, 231, 1, 0, 0) := rfl
theorem q147_133 : z_fi (z_mi 147) 133 = some (133, .ireturn, 0, 0, 0, 0, 0) := rfl
theorem q147_134 : z_fi (z_mi 147) 134 = some (134, .iconst (-1), 0, 0, 0, (-1), 0) := rfl
theorem q147_135 : z_fi (z_mi 147) 135 = some (135, .ireturn, 0, 0, 0, 0, 0) := rfl
set_option maxRecDepth 20000 in
set_option maxHeartbeats 4000000 in
theorem t_Y_count {xL : Nat} {xs : Nat → Int32} {ρ : Nat → Nat → Option Nat} (hρ : z_hR ρ) (d : Nat) (a1 : Int32) (σ : zS) : ∀ q, f_Y_count a1 σ = some q → z_ec xL xs ρ (d + 2) 147 [.ref 0, .int a1] σ (em_pi σ q) := by
  refine j_of (W := [.ref 0, .int a1]) (fun L hL => ?_) ?_
  · subst hL; exact z_vl_0 _ 0 rfl
  · unfold f_Y_count
    refine j_iload_n (pc' := 1) q147_0 rfl rfl ?_
    refine j_if (fun c1 => ?_) (fun c1 => ?_)
    · refine j_tin (pc' := 48) (j := 0) (off := 47) q147_1 c1 (Nat.le_of_ble_eq_true rfl) (by decide) rfl (by decide) ?_
      refine j_aload_n (pc' := 49) q147_48 rfl (by decide) rfl ?_
      refine j_getr (k := 0) (q := 44) (pc' := 52) q147_49 rfl (hρ 0 7 44 rfl) rfl ?_
      refine j_getf (k := 44) (pc' := 55) q147_52 rfl rfl ?_
      exact j_piret q147_55 rfl
    refine j_if (fun c2 => ?_) (fun c2 => ?_)
    · refine j_tin (pc' := 56) (j := 1) (off := 55) q147_1 c2 (Nat.le_of_ble_eq_true rfl) (by decide) rfl (by decide) ?_
      refine j_aload_n (pc' := 57) q147_56 rfl (by decide) rfl ?_
      refine j_getf (k := 0) (pc' := 60) q147_57 rfl rfl ?_
      refine j_callS1_pi (d := d + 1) (pc' := 63) q147_60 (Or.inl rfl) (Nat.le_of_ble_eq_true rfl) (Nat.le_of_ble_eq_true rfl) rfl (t_JI_bitCount hρ (d + 1) _ _) (fun r3 => ?_)
      exact j_piret q147_63 rfl
    refine j_if (fun c4 => ?_) (fun c4 => ?_)
    · refine j_tin (pc' := 64) (j := 2) (off := 63) q147_1 c4 (Nat.le_of_ble_eq_true rfl) (by decide) rfl (by decide) ?_
      refine j_aload_n (pc' := 65) q147_64 rfl (by decide) rfl ?_
      refine j_getr (k := 0) (q := 35) (pc' := 68) q147_65 rfl (hρ 0 4 35 rfl) rfl ?_
      refine j_getf (k := 35) (pc' := 71) q147_68 rfl rfl ?_
      exact j_piret q147_71 rfl
    refine j_if (fun c5 => ?_) (fun c5 => ?_)
    · refine j_tin (pc' := 72) (j := 3) (off := 71) q147_1 c5 (Nat.le_of_ble_eq_true rfl) (by decide) rfl (by decide) ?_
      refine j_aload_n (pc' := 73) q147_72 rfl (by decide) rfl ?_
      refine j_getr (k := 0) (q := 34) (pc' := 76) q147_73 rfl (hρ 0 3 34 rfl) rfl ?_
      refine j_iconst (pc' := 77) q147_76 rfl ?_
      refine j_aald (k := 34) (N := 4) (q := 82) (pc' := 78) q147_77 rfl (by decide) (hρ 34 0 82 rfl) rfl ?_
      refine j_callV0_pi (d := d + 1) (pc' := 81) q147_78 rfl (Nat.le_of_ble_eq_true rfl) (Nat.le_of_ble_eq_true rfl) rfl (t_Sh_isThere_82 hρ (d + 1) _) (fun r6 => ?_)
      refine j_if_eq (pc' := 84) q147_81 rfl (fun c7 => ?_) (fun c7 => ?_)
      · refine j_bipush (pc' := 98) q147_96 rfl ?_
        exact j_piret q147_98 rfl
      · refine j_aload_n (pc' := 85) q147_84 rfl (by decide) rfl ?_
        refine j_getr (k := 0) (q := 34) (pc' := 88) q147_85 rfl (hρ 0 3 34 rfl) rfl ?_
        refine j_iconst (pc' := 89) q147_88 rfl ?_
        refine j_aald (k := 34) (N := 4) (q := 82) (pc' := 90) q147_89 rfl (by decide) (hρ 34 0 82 rfl) rfl ?_
        refine j_getf (k := 82) (pc' := 93) q147_90 rfl rfl ?_
        refine j_goto q147_93 rfl ?_
        exact j_piret q147_98 rfl
    refine j_if (fun c8 => ?_) (fun c8 => ?_)
    · refine j_tin (pc' := 99) (j := 4) (off := 98) q147_1 c8 (Nat.le_of_ble_eq_true rfl) (by decide) rfl (by decide) ?_
      refine j_aload_n (pc' := 100) q147_99 rfl (by decide) rfl ?_
      refine j_getr (k := 0) (q := 1) (pc' := 103) q147_100 rfl (hρ 0 0 1 rfl) rfl ?_
      refine j_callV0_pi (d := d + 1) (pc' := 106) q147_103 rfl (Nat.le_of_ble_eq_true rfl) (Nat.le_of_ble_eq_true rfl) rfl (t_G_bareCells_1 hρ (d + 0) _) (fun r9 => ?_)
      exact j_piret q147_106 rfl
    refine j_if (fun c10 => ?_) (fun c10 => ?_)
    · refine j_tin (pc' := 107) (j := 5) (off := 106) q147_1 c10 (Nat.le_of_ble_eq_true rfl) (by decide) rfl (by decide) ?_
      refine j_aload_n (pc' := 108) q147_107 rfl (by decide) rfl ?_
      refine j_getr (k := 0) (q := 1) (pc' := 111) q147_108 rfl (hρ 0 0 1 rfl) rfl ?_
      refine j_callV0_pi (d := d + 1) (pc' := 114) q147_111 rfl (Nat.le_of_ble_eq_true rfl) (Nat.le_of_ble_eq_true rfl) rfl (t_G_cropsSown_1 hρ (d + 0) _) (fun r11 => ?_)
      exact j_piret q147_114 rfl
    refine j_if (fun c12 => ?_) (fun c12 => ?_)
    · refine j_tin (pc' := 115) (j := 6) (off := 114) q147_1 c12 (Nat.le_of_ble_eq_true rfl) (by decide) rfl (by decide) ?_
      refine j_aload_n (pc' := 116) q147_115 rfl (by decide) rfl ?_
      refine j_getr (k := 0) (q := 1) (pc' := 119) q147_116 rfl (hρ 0 0 1 rfl) rfl ?_
      refine j_callV0_pi (d := d + 1) (pc' := 122) q147_119 rfl (Nat.le_of_ble_eq_true rfl) (Nat.le_of_ble_eq_true rfl) rfl (t_G_yardsInAll_1 hρ (d + 0) _) (fun r13 => ?_)
      exact j_piret q147_122 rfl
    refine j_if (fun c14 => ?_) (fun c14 => ?_)
    · refine j_tin (pc' := 123) (j := 7) (off := 122) q147_1 c14 (Nat.le_of_ble_eq_true rfl) (by decide) rfl (by decide) ?_
      refine j_aload_n (pc' := 124) q147_123 rfl (by decide) rfl ?_
      refine j_getr (k := 0) (q := 1) (pc' := 127) q147_124 rfl (hρ 0 0 1 rfl) rfl ?_
      refine j_getf (k := 1) (pc' := 130) q147_127 rfl rfl ?_
      refine j_callS1_pi (d := d + 1) (pc' := 133) q147_130 (Or.inl rfl) (Nat.le_of_ble_eq_true rfl) (Nat.le_of_ble_eq_true rfl) rfl (t_JI_bitCount hρ (d + 1) _ _) (fun r15 => ?_)
      exact j_piret q147_133 rfl
    refine j_tdef (pc' := 134) 8 q147_1 rfl (by decide) (z_noS (z_noS (z_noS (z_noS (z_noS (z_noS (z_noS (z_noS (z_no0) c1) c2) c4) c5) c8) c10) c12) c14) (by decide) ?_
    refine j_iconst (pc' := 135) q147_134 rfl ?_
    exact j_piret q147_135 rfl
set_option maxRecDepth 8000 in
theorem q230_0 : z_fi (z_mi 230) 0 = some (0, .iconst 0, 0, 0, 0, 0, 0) := rfl
set_option maxRecDepth 8000 in
theorem q230_1 : z_fi (z_mi 230) 1 = some (1, .istore_n 2, 0, 0, 0, 0, 0) := rfl
set_option maxRecDepth 8000 in
theorem q230_2 : z_fi (z_mi 230) 2 = some (2, .iconst 0, 0, 0, 0, 0, 0) := rfl
set_option maxRecDepth 8000 in
theorem q230_3 : z_fi (z_mi 230) 3 = some (3, .istore_n 3, 0, 0, 0, 0, 0) := rfl
set_option maxRecDepth 8000 in
theorem q230_4 : z_fi (z_mi 230) 4 = some (4, .iconst 0, 0, 0, 0, 0, 0) := rfl
set_option maxRecDepth 8000 in
theorem q230_5 : z_fi (z_mi 230) 5 = some (5, .istore 4, 0, 0, 0, 0, 0) := rfl
set_option maxRecDepth 8000 in
theorem q230_7 : z_fi (z_mi 230) 7 = some (7, .iconst 0, 0, 0, 0, 0, 0) := rfl
set_option maxRecDepth 8000 in
theorem q230_8 : z_fi (z_mi 230) 8 = some (8, .istore 5, 0, 0, 0, 0, 0) := rfl
set_option maxRecDepth 8000 in
theorem q230_10 : z_fi (z_mi 230) 10 = some (10, .iconst 0, 0, 0, 0, 0, 0) := rfl
set_option maxRecDepth 8000 in
theorem q230_11 : z_fi (z_mi 230) 11 = some (11, .istore 6, 0, 0, 0, 0, 0) := rfl
set_option maxRecDepth 8000 in
theorem q230_13 : z_fi (z_mi 230) 13 = some (13, .iload 6, 0, 0, 0, 0, 0) := rfl
set_option maxRecDepth 8000 in
theorem q230_15 : z_fi (z_mi 230) 15 = some (15, .aload_n 0, 0, 0, 0, 0, 0) := rfl
set_option maxRecDepth 8000 in
theorem q230_16 : z_fi (z_mi 230) 16 = some (16, .getfield 13, 0, 10, 1, 0, 0) := rfl
set_option maxRecDepth 8000 in
theorem q230_19 : z_fi (z_mi 230) 19 = some (19, .aload_n 0, 0, 0, 0, 0, 0) := rfl
set_option maxRecDepth 8000 in
theorem q230_20 : z_fi (z_mi 230) 20 = some (20, .getfield 17, 0, 10, 2, 0, 0) := rfl
set_option maxRecDepth 8000 in
theorem q230_23 : z_fi (z_mi 230) 23 = some (23, .imul, 0, 0, 0, 0, 0) := rfl
set_option maxRecDepth 8000 in
theorem q230_24 : z_fi (z_mi 230) 24 = some (24, .if_icmp .ge 64, 0, 88, 0, 0, 0) := rfl
set_option maxRecDepth 8000 in
theorem q230_27 : z_fi (z_mi 230) 27 = some (27, .iload_n 2, 0, 0, 0, 0, 0) := rfl
set_option maxRecDepth 8000 in
theorem q230_28 : z_fi (z_mi 230) 28 = some (28, .aload_n 0, 0, 0, 0, 0, 0) := rfl
set_option maxRecDepth 8000 in
theorem q230_29 : z_fi (z_mi 230) 29 = some (29, .iconst 0, 0, 0, 0, 0, 0) := rfl
set_option maxRecDepth 8000 in
theorem q230_30 : z_fi (z_mi 230) 30 = some (30, .iload 6, 0, 0, 0, 0, 0) := rfl
set_option maxRecDepth 8000 in
theorem q230_32 : z_fi (z_mi 230) 32 = some (32, .invokevirtual 159, 0, 169, 2, 0, 0) := rfl
set_option maxRecDepth 8000 in
theorem q230_35 : z_fi (z_mi 230) 35 = some (35, .iconst 4, 0, 0, 0, 4, 0) := rfl
set_option maxRecDepth 8000 in
theorem q230_36 : z_fi (z_mi 230) 36 = some (36, .if_icmp .ne 7, 0, 43, 0, 0, 0) := rfl
set_option maxRecDepth 8000 in
theorem q230_39 : z_fi (z_mi 230) 39 = some (39, .iconst 1, 0, 0, 0, 1, 0) := rfl
set_option maxRecDepth 8000 in
theorem q230_40 : z_fi (z_mi 230) 40 = some (40, .goto 4, 0, 44, 0, 0, 0) := rfl
set_option maxRecDepth 8000 in
theorem q230_43 : z_fi (z_mi 230) 43 = some (43, .iconst 0, 0, 0, 0, 0, 0) := rfl
set_option maxRecDepth 8000 in
theorem q230_44 : z_fi (z_mi 230) 44 = some (44, .iadd, 0, 0, 0, 0, 0) := rfl
set_option maxRecDepth 8000 in
theorem q230_45 : z_fi (z_mi 230) 45 = some (45, .istore_n 2, 0, 0, 0, 0, 0) := rfl
set_option maxRecDepth 8000 in
theorem q230_46 : z_fi (z_mi 230) 46 = some (46, .iload_n 3, 0, 0, 0, 0, 0) := rfl
set_option maxRecDepth 8000 in
theorem q230_47 : z_fi (z_mi 230) 47 = some (47, .aload_n 0, 0, 0, 0, 0, 0) := rfl
set_option maxRecDepth 8000 in
theorem q230_48 : z_fi (z_mi 230) 48 = some (48, .iconst 0, 0, 0, 0, 0, 0) := rfl
set_option maxRecDepth 8000 in
theorem q230_49 : z_fi (z_mi 230) 49 = some (49, .iload 6, 0, 0, 0, 0, 0) := rfl
set_option maxRecDepth 8000 in
theorem q230_51 : z_fi (z_mi 230) 51 = some (51, .invokevirtual 162, 0, 170, 2, 0, 0) := rfl
set_option maxRecDepth 8000 in
theorem q230_54 : z_fi (z_mi 230) 54 = some (54, .bipush (-4), 0, 0, 0, (-4), 0) := rfl
set_option maxRecDepth 8000 in
theorem q230_56 : z_fi (z_mi 230) 56 = some (56, .if_icmp .ne 7, 0, 63, 0, 0, 0) := rfl
set_option maxRecDepth 8000 in
theorem q230_59 : z_fi (z_mi 230) 59 = some (59, .iconst 0, 0, 0, 0, 0, 0) := rfl
set_option maxRecDepth 8000 in
theorem q230_60 : z_fi (z_mi 230) 60 = some (60, .goto 4, 0, 64, 0, 0, 0) := rfl
set_option maxRecDepth 8000 in
theorem q230_63 : z_fi (z_mi 230) 63 = some (63, .iconst 1, 0, 0, 0, 1, 0) := rfl
set_option maxRecDepth 8000 in
theorem q230_64 : z_fi (z_mi 230) 64 = some (64, .iadd, 0, 0, 0, 0, 0) := rfl
set_option maxRecDepth 8000 in
theorem q230_65 : z_fi (z_mi 230) 65 = some (65, .istore_n 3, 0, 0, 0, 0, 0) := rfl
set_option maxRecDepth 8000 in
theorem q230_66 : z_fi (z_mi 230) 66 = some (66, .iload 4, 0, 0, 0, 0, 0) := rfl
set_option maxRecDepth 8000 in
theorem q230_68 : z_fi (z_mi 230) 68 = some (68, .aload_n 0, 0, 0, 0, 0, 0) := rfl
set_option maxRecDepth 8000 in
theorem q230_69 : z_fi (z_mi 230) 69 = some (69, .getfield 7, 0, 10, 0, 0, 0) := rfl
set_option maxRecDepth 8000 in
theorem q230_72 : z_fi (z_mi 230) 72 = some (72, .iconst 5, 0, 0, 0, 5, 0) := rfl
set_option maxRecDepth 8000 in
theorem q230_73 : z_fi (z_mi 230) 73 = some (73, .iload 6, 0, 0, 0, 0, 0) := rfl
set_option maxRecDepth 8000 in
theorem q230_75 : z_fi (z_mi 230) 75 = some (75, .imul, 0, 0, 0, 0, 0) := rfl
set_option maxRecDepth 8000 in
theorem q230_76 : z_fi (z_mi 230) 76 = some (76, .iconst 1, 0, 0, 0, 1, 0) := rfl
set_option maxRecDepth 8000 in
theorem q230_77 : z_fi (z_mi 230) 77 = some (77, .iadd, 0, 0, 0, 0, 0) := rfl
set_option maxRecDepth 8000 in
theorem q230_78 : z_fi (z_mi 230) 78 = some (78, .iaload, 0, 0, 0, 0, 0) := rfl
set_option maxRecDepth 8000 in
theorem q230_79 : z_fi (z_mi 230) 79 = some (79, .iadd, 0, 0, 0, 0, 0) := rfl
set_option maxRecDepth 8000 in
theorem q230_80 : z_fi (z_mi 230) 80 = some (80, .istore 4, 0, 0, 0, 0, 0) := rfl
set_option maxRecDepth 8000 in
theorem q230_82 : z_fi (z_mi 230) 82 = some (82, .iinc 6 1, 0, 0, 0, 1, 0) := rfl
set_option maxRecDepth 8000 in
theorem q230_85 : z_fi (z_mi 230) 85 = some (85, .goto (-72), 0, 13, 0, 0, 0) := rfl
set_option maxRecDepth 8000 in
theorem q230_88 : z_fi (z_mi 230) 88 = some (88, .iconst 0, 0, 0, 0, 0, 0) := rfl
set_option maxRecDepth 8000 in
theorem q230_89 : z_fi (z_mi 230) 89 = some (89, .istore 6, 0, 0, 0, 0, 0) := rfl
set_option maxRecDepth 8000 in
theorem q230_91 : z_fi (z_mi 230) 91 = some (91, .iload 6, 0, 0, 0, 0, 0) := rfl
set_option maxRecDepth 8000 in
theorem q230_93 : z_fi (z_mi 230) 93 = some (93, .bipush 32, 0, 0, 0, 32, 0) := rfl
set_option maxRecDepth 8000 in
theorem q230_95 : z_fi (z_mi 230) 95 = some (95, .if_icmp .ge 26, 0, 121, 0, 0, 0) := rfl
set_option maxRecDepth 8000 in
theorem q230_98 : z_fi (z_mi 230) 98 = some (98, .iload 5, 0, 0, 0, 0, 0) := rfl
set_option maxRecDepth 8000 in
theorem q230_100 : z_fi (z_mi 230) 100 = some (100, .aload_n 0, 0, 0, 0, 0, 0) := rfl
set_option maxRecDepth 8000 in
theorem q230_101 : z_fi (z_mi 230) 101 = some (101, .getfield 7, 0, 10, 0, 0, 0) := rfl
set_option maxRecDepth 8000 in
theorem q230_104 : z_fi (z_mi 230) 104 = some (104, .bipush 80, 0, 0, 0, 80, 0) := rfl
set_option maxRecDepth 8000 in
theorem q230_106 : z_fi (z_mi 230) 106 = some (106, .iaload, 0, 0, 0, 0, 0) := rfl
set_option maxRecDepth 8000 in
theorem q230_107 : z_fi (z_mi 230) 107 = some (107, .iload 6, 0, 0, 0, 0, 0) := rfl
set_option maxRecDepth 8000 in
theorem q230_109 : z_fi (z_mi 230) 109 = some (109, .ishr, 0, 0, 0, 0, 0) := rfl
set_option maxRecDepth 8000 in
theorem q230_110 : z_fi (z_mi 230) 110 = some (110, .iconst 1, 0, 0, 0, 1, 0) := rfl
set_option maxRecDepth 8000 in
theorem q230_111 : z_fi (z_mi 230) 111 = some (111, .iand, 0, 0, 0, 0, 0) := rfl
set_option maxRecDepth 8000 in
theorem q230_112 : z_fi (z_mi 230) 112 = some (112, .iadd, 0, 0, 0, 0, 0) := rfl
set_option maxRecDepth 8000 in
theorem q230_113 : z_fi (z_mi 230) 113 = some (113, .istore 5, 0, 0, 0, 0, 0) := rfl
set_option maxRecDepth 8000 in
theorem q230_115 : z_fi (z_mi 230) 115 = some (115, .iinc 6 1, 0, 0, 0, 1, 0) := rfl
set_option maxRecDepth 8000 in
theorem q230_118 : z_fi (z_mi 230) 118 = some (118, .goto (-27), 0, 91, 0, 0, 0) := rfl
set_option maxRecDepth 8000 in
theorem q230_121 : z_fi (z_mi 230) 121 = some (121, .iload_n 1, 0, 0, 0, 0, 0) := rfl
set_option maxRecDepth 8000 in
theorem q230_122 : z_fi (z_mi 230) 122 = some (122, .tableswitch 119 0 7 #[46, 51, 81, 86, 109, 111, 113, 116], 46, 0, 0, 0, 0) := rfl
set_option maxRecDepth 8000 in
theorem q230_168 : z_fi (z_mi 230) 168 = some (168, .aload_n 0, 0, 0, 0, 0, 0) := rfl
set_option maxRecDepth 8000 in
theorem q230_169 : z_fi (z_mi 230) 169 = some (169, .getfield 156, 0, 10, 26, 0, 0) := rfl
set_option maxRecDepth 8000 in
theorem q230_172 : z_fi (z_mi 230) 172 = some (172, .ireturn, 0, 0, 0, 0, 0) := rfl
set_option maxRecDepth 8000 in
theorem q230_173 : z_fi (z_mi 230) 173 = some (173, .aload_n 0, 0, 0, 0, 0, 0) := rfl
set_option maxRecDepth 8000 in
theorem q230_174 : z_fi (z_mi 230) 174 = some (174, .getfield 47, 0, 10, 27, 0, 0) := rfl
set_option maxRecDepth 8000 in
theorem q230_177 : z_fi (z_mi 230) 177 = some (177, .iconst 0, 0, 0, 0, 0, 0) := rfl
set_option maxRecDepth 8000 in
theorem q230_178 : z_fi (z_mi 230) 178 = some (178, .baload, 0, 0, 0, 0, 0) := rfl
set_option maxRecDepth 8000 in
theorem q230_179 : z_fi (z_mi 230) 179 = some (179, .ifCond .eq 7, 0, 186, 0, 0, 0) := rfl
set_option maxRecDepth 8000 in
theorem q230_182 : z_fi (z_mi 230) 182 = some (182, .iconst 1, 0, 0, 0, 1, 0) := rfl
set_option maxRecDepth 8000 in
theorem q230_183 : z_fi (z_mi 230) 183 = some (183, .goto 4, 0, 187, 0, 0, 0) := rfl
set_option maxRecDepth 8000 in
theorem q230_186 : z_fi (z_mi 230) 186 = some (186, .iconst 0, 0, 0, 0, 0, 0) := rfl
set_option maxRecDepth 8000 in
theorem q230_187 : z_fi (z_mi 230) 187 = some (187, .aload_n 0, 0, 0, 0, 0, 0) := rfl
set_option maxRecDepth 8000 in
theorem q230_188 : z_fi (z_mi 230) 188 = some (188, .getfield 47, 0, 10, 27, 0, 0) := rfl
set_option maxRecDepth 8000 in
theorem q230_191 : z_fi (z_mi 230) 191 = some (191, .iconst 1, 0, 0, 0, 1, 0) := rfl
set_option maxRecDepth 8000 in
theorem q230_192 : z_fi (z_mi 230) 192 = some (192, .baload, 0, 0, 0, 0, 0) := rfl
set_option maxRecDepth 8000 in
theorem q230_193 : z_fi (z_mi 230) 193 = some (193, .ifCond .eq 7, 0, 200, 0, 0, 0) := rfl
set_option maxRecDepth 8000 in
theorem q230_196 : z_fi (z_mi 230) 196 = some (196, .iconst 1, 0, 0, 0, 1, 0) := rfl
set_option maxRecDepth 8000 in
theorem q230_197 : z_fi (z_mi 230) 197 = some (197, .goto 4, 0, 201, 0, 0, 0) := rfl
set_option maxRecDepth 8000 in
theorem q230_200 : z_fi (z_mi 230) 200 = some (200, .iconst 0, 0, 0, 0, 0, 0) := rfl
set_option maxRecDepth 8000 in
theorem q230_201 : z_fi (z_mi 230) 201 = some (201, .iadd, 0, 0, 0, 0, 0) := rfl
set_option maxRecDepth 8000 in
theorem q230_202 : z_fi (z_mi 230) 202 = some (202, .ireturn, 0, 0, 0, 0, 0) := rfl
set_option maxRecDepth 8000 in
theorem q230_203 : z_fi (z_mi 230) 203 = some (203, .aload_n 0, 0, 0, 0, 0, 0) := rfl
set_option maxRecDepth 8000 in
theorem q230_204 : z_fi (z_mi 230) 204 = some (204, .getfield 66, 0, 10, 13, 0, 0) := rfl
set_option maxRecDepth 8000 in
theorem q230_207 : z_fi (z_mi 230) 207 = some (207, .ireturn, 0, 0, 0, 0, 0) := rfl
set_option maxRecDepth 8000 in
theorem q230_208 : z_fi (z_mi 230) 208 = some (208, .aload_n 0, 0, 0, 0, 0, 0) := rfl
set_option maxRecDepth 8000 in
theorem q230_209 : z_fi (z_mi 230) 209 = some (209, .getfield 51, 0, 10, 28, 0, 0) := rfl
set_option maxRecDepth 8000 in
theorem q230_212 : z_fi (z_mi 230) 212 = some (212, .iconst 0, 0, 0, 0, 0, 0) := rfl
set_option maxRecDepth 8000 in
theorem q230_213 : z_fi (z_mi 230) 213 = some (213, .iaload, 0, 0, 0, 0, 0) := rfl
set_option maxRecDepth 8000 in
theorem q230_214 : z_fi (z_mi 230) 214 = some (214, .bipush (-4), 0, 0, 0, (-4), 0) := rfl
set_option maxRecDepth 8000 in
theorem q230_216 : z_fi (z_mi 230) 216 = some (216, .if_icmp .ne 8, 0, 224, 0, 0, 0) := rfl
set_option maxRecDepth 8000 in
theorem q230_219 : z_fi (z_mi 230) 219 = some (219, .bipush (-4), 0, 0, 0, (-4), 0) := rfl
set_option maxRecDepth 8000 in
theorem q230_221 : z_fi (z_mi 230) 221 = some (221, .goto 9, 0, 230, 0, 0, 0) := rfl
set_option maxRecDepth 8000 in
theorem q230_224 : z_fi (z_mi 230) 224 = some (224, .aload_n 0, 0, 0, 0, 0, 0) := rfl
set_option maxRecDepth 8000 in
theorem q230_225 : z_fi (z_mi 230) 225 = some (225, .getfield 54, 0, 10, 29, 0, 0) := rfl
set_option maxRecDepth 8000 in
theorem q230_228 : z_fi (z_mi 230) 228 = some (228, .iconst 0, 0, 0, 0, 0, 0) := rfl
set_option maxRecDepth 8000 in
theorem q230_229 : z_fi (z_mi 230) 229 = some (229, .iaload, 0, 0, 0, 0, 0) := rfl
set_option maxRecDepth 8000 in
theorem q230_230 : z_fi (z_mi 230) 230 = some (230, .ireturn, 0, 0, 0, 0, 0) := rfl
set_option maxRecDepth 8000 in
theorem q230_231 : z_fi (z_mi 230) 231 = some (231, .iload_n 2, 0, 0, 0, 0, 0) := rfl
set_option maxRecDepth 8000 in
theorem q230_232 : z_fi (z_mi 230) 232 = some (232, .ireturn, 0, 0, 0, 0, 0) := rfl
set_option maxRecDepth 8000 in
theorem q230_233 : z_fi (z_mi 230) 233 = some (233, .iload_n 3, 0, 0, 0, 0, 0) := rfl
set_option maxRecDepth 8000 in
theorem q230_234 : z_fi (z_mi 230) 234 = some (234, .ireturn, 0, 0, 0, 0, 0) := rfl
set_option maxRecDepth 8000 in
theorem q230_235 : z_fi (z_mi 230) 235 = some (235, .iload 4, 0, 0, 0, 0, 0) := rfl
set_option maxRecDepth 8000 in
theorem q230_237 : z_fi (z_mi 230) 237 = some (237, .ireturn, 0, 0, 0, 0, 0) := rfl
set_option maxRecDepth 8000 in
theorem q230_238 : z_fi (z_mi 230) 238 = some (238, .iload 5, 0, 0, 0, 0, 0) := rfl
set_option maxRecDepth 8000 in
theorem q230_240 : z_fi (z_mi 230) 240 = some (240, .ireturn, 0, 0, 0, 0, 0) := rfl
set_option maxRecDepth 8000 in
theorem q230_241 : z_fi (z_mi 230) 241 = some (241, .iconst (-1), 0, 0, 0, (-1), 0) := rfl
set_option maxRecDepth 8000 in
theorem q230_242 : z_fi (z_mi 230) 242 = some (242, .ireturn, 0, 0, 0, 0, 0) := rfl
set_option maxRecDepth 20000 in
set_option maxHeartbeats 4000000 in
theorem t_M_count {xL : Nat} {xs : Nat → Int32} {ρ : Nat → Nat → Option Nat} (hρ : z_hR ρ) (d : Nat) (a1 : Int32) (σ : zS) : ∀ q, f_M_count a1 σ = some q → z_ec xL xs ρ (d + 1) 230 [.ref 90, .int a1] σ (em_pi σ q) := by
  refine j_of (W := [.ref 90, .int a1, .null, .null, .null, .null, .null]) (fun L hL => ?_) ?_
  · subst hL; exact z_vl_0 _ 5 rfl
  · unfold f_M_count
    refine j_iconst (pc' := 1) q230_0 rfl ?_
    refine j_istore2 (pc' := 2) q230_1 rfl (Nat.le_of_ble_eq_true rfl) rfl ?_
    refine j_iconst (pc' := 3) q230_2 rfl ?_
    refine j_istore3 (pc' := 4) q230_3 rfl (Nat.le_of_ble_eq_true rfl) rfl ?_
    refine j_iconst (pc' := 5) q230_4 rfl ?_
    refine j_istore4 (pc' := 7) q230_5 rfl (Nat.le_of_ble_eq_true rfl) rfl ?_
    refine j_iconst (pc' := 8) q230_7 rfl ?_
    refine j_istore5 (pc' := 10) q230_8 rfl (Nat.le_of_ble_eq_true rfl) rfl ?_
    refine j_iconst (pc' := 11) q230_10 rfl ?_
    refine j_istore6 (pc' := 13) q230_11 rfl (Nat.le_of_ble_eq_true rfl) rfl ?_
    refine j_forget (V' := [.ref 90, .int a1, .int (0 : Int32), .int (0 : Int32), .int (0 : Int32), .int (0 : Int32), .int (0 : Int32)]) (z_le_s (z_le_s (z_le_s (z_le_s (z_le_s (z_le_s (z_le_s (z_le_nil)))))))) ?_
    refine j_loopX (S := Int32 × Int32 × Int32 × Int32) (E := Int32 × Int32 × Int32) (fun e => e) 88 (fun s1 => [.ref 90, .int a1, .int s1.1, .int s1.2.1, .int s1.2.2.1, .int (0 : Int32), .int s1.2.2.2]) (fun s1 => σ) (fun b1 => [.ref 90, .int a1, .int b1.1, .int b1.2.1, .int b1.2.2, .int (0 : Int32), .null]) (fun b1 => σ) (fun b1 => ?_) (fun R1 hR1 hX1 s1 => ?_) ((0 : Int32), (0 : Int32), (0 : Int32), (0 : Int32))
    · show z_J _ _ _ _ _ _ _ _ _ _ _ _
      refine j_iconst (pc' := 89) q230_88 rfl ?_
      refine j_istore6 (pc' := 91) q230_89 rfl (Nat.le_of_ble_eq_true rfl) rfl ?_
      refine j_forget (V' := [.ref 90, .int a1, .int b1.1, .int b1.2.1, .int b1.2.2, .int (0 : Int32), .int (0 : Int32)]) (z_le_s (z_le_s (z_le_s (z_le_s (z_le_s (z_le_s (z_le_s (z_le_nil)))))))) ?_
      refine j_loopX (S := Int32 × Int32) (E := Int32) (fun e => e) 121 (fun s11 => [.ref 90, .int a1, .int b1.1, .int b1.2.1, .int b1.2.2, .int s11.1, .int s11.2]) (fun s11 => σ) (fun b11 => [.ref 90, .int a1, .int b1.1, .int b1.2.1, .int b1.2.2, .int b11, .null]) (fun b11 => σ) (fun b11 => ?_) (fun R11 hR11 hX11 s11 => ?_) ((0 : Int32), (0 : Int32))
      · show z_J _ _ _ _ _ _ _ _ _ _ _ _
        refine j_iload_n (pc' := 122) q230_121 rfl rfl ?_
        refine j_if (fun c14 => ?_) (fun c14 => ?_)
        · refine j_tin (pc' := 168) (j := 0) (off := 46) q230_122 c14 (Nat.le_of_ble_eq_true rfl) (by decide) rfl (by decide) ?_
          refine j_aload_n (pc' := 169) q230_168 rfl (by decide) rfl ?_
          refine j_getf (k := 90) (pc' := 172) q230_169 rfl rfl ?_
          exact j_piret q230_172 rfl
        refine j_if (fun c15 => ?_) (fun c15 => ?_)
        · refine j_tin (pc' := 173) (j := 1) (off := 51) q230_122 c15 (Nat.le_of_ble_eq_true rfl) (by decide) rfl (by decide) ?_
          refine j_aload_n (pc' := 174) q230_173 rfl (by decide) rfl ?_
          refine j_getr (k := 90) (q := 101) (pc' := 177) q230_174 rfl (hρ 90 27 101 rfl) rfl ?_
          refine j_iconst (pc' := 178) q230_177 rfl ?_
          refine j_bald (k := 101) (N := 2) (pc' := 179) q230_178 (Or.inr rfl) (by decide) rfl ?_
          refine j_join (T := Int32) 187 (fun t16 => [.ref 90, .null, .null, .null, .null, .null, .null]) (fun t16 => [.int t16]) (fun t16 => σ) (fun t16 => ?_) (fun j16 hj16 => ?_)
          · show z_J _ _ _ _ _ _ _ _ _ _ _ _
            refine j_aload_n (pc' := 188) q230_187 rfl (by decide) rfl ?_
            refine j_getr (k := 90) (q := 101) (pc' := 191) q230_188 rfl (hρ 90 27 101 rfl) rfl ?_
            refine j_iconst (pc' := 192) q230_191 rfl ?_
            refine j_bald (k := 101) (N := 2) (pc' := 193) q230_192 (Or.inr rfl) (by decide) rfl ?_
            refine j_join (T := Int32 × Int32) 201 (fun t17 => [.null, .null, .null, .null, .null, .null, .null]) (fun t17 => [.int t17.1, .int t17.2]) (fun t17 => σ) (fun t17 => ?_) (fun j17 hj17 => ?_)
            · show z_J _ _ _ _ _ _ _ _ _ _ _ _
              refine j_iadd (pc' := 202) q230_201 rfl ?_
              exact j_piret q230_202 rfl
            · show z_J _ _ _ _ _ _ _ _ _ _ _ _
              refine j_if_eq (pc' := 196) q230_193 rfl (fun c18 => ?_) (fun c18 => ?_)
              · refine j_iconst (pc' := 201) q230_200 rfl ?_
                refine j_forget (z_le_n (z_le_n (z_le_n (z_le_n (z_le_n (z_le_n (z_le_n (z_le_nil)))))))) (hj17 ((0 : Int32), t16))
              · refine j_iconst (pc' := 197) q230_196 rfl ?_
                refine j_goto q230_197 rfl ?_
                refine j_forget (z_le_n (z_le_n (z_le_n (z_le_n (z_le_n (z_le_n (z_le_n (z_le_nil)))))))) (hj17 ((1 : Int32), t16))
          · show z_J _ _ _ _ _ _ _ _ _ _ _ _
            refine j_if_eq (pc' := 182) q230_179 rfl (fun c19 => ?_) (fun c19 => ?_)
            · refine j_iconst (pc' := 187) q230_186 rfl ?_
              refine j_forget (z_le_s (z_le_n (z_le_n (z_le_n (z_le_n (z_le_n (z_le_n (z_le_nil)))))))) (hj16 (0 : Int32))
            · refine j_iconst (pc' := 183) q230_182 rfl ?_
              refine j_goto q230_183 rfl ?_
              refine j_forget (z_le_s (z_le_n (z_le_n (z_le_n (z_le_n (z_le_n (z_le_n (z_le_nil)))))))) (hj16 (1 : Int32))
        refine j_if (fun c20 => ?_) (fun c20 => ?_)
        · refine j_tin (pc' := 203) (j := 2) (off := 81) q230_122 c20 (Nat.le_of_ble_eq_true rfl) (by decide) rfl (by decide) ?_
          refine j_aload_n (pc' := 204) q230_203 rfl (by decide) rfl ?_
          refine j_getf (k := 90) (pc' := 207) q230_204 rfl rfl ?_
          exact j_piret q230_207 rfl
        refine j_if (fun c21 => ?_) (fun c21 => ?_)
        · refine j_tin (pc' := 208) (j := 3) (off := 86) q230_122 c21 (Nat.le_of_ble_eq_true rfl) (by decide) rfl (by decide) ?_
          refine j_aload_n (pc' := 209) q230_208 rfl (by decide) rfl ?_
          refine j_getr (k := 90) (q := 102) (pc' := 212) q230_209 rfl (hρ 90 28 102 rfl) rfl ?_
          refine j_iconst (pc' := 213) q230_212 rfl ?_
          refine j_iald (k := 102) (N := 4) (pc' := 214) q230_213 rfl (by decide) rfl ?_
          refine j_bipush (pc' := 216) q230_214 rfl ?_
          refine j_icmp_ne (pc' := 219) q230_216 rfl (fun c22 => ?_) (fun c22 => ?_)
          · refine j_bipush (pc' := 221) q230_219 rfl ?_
            refine j_goto q230_221 rfl ?_
            exact j_piret q230_230 rfl
          · refine j_aload_n (pc' := 225) q230_224 rfl (by decide) rfl ?_
            refine j_getr (k := 90) (q := 103) (pc' := 228) q230_225 rfl (hρ 90 29 103 rfl) rfl ?_
            refine j_iconst (pc' := 229) q230_228 rfl ?_
            refine j_iald (k := 103) (N := 4) (pc' := 230) q230_229 rfl (by decide) rfl ?_
            exact j_piret q230_230 rfl
        refine j_if (fun c23 => ?_) (fun c23 => ?_)
        · refine j_tin (pc' := 231) (j := 4) (off := 109) q230_122 c23 (Nat.le_of_ble_eq_true rfl) (by decide) rfl (by decide) ?_
          refine j_iload_n (pc' := 232) q230_231 rfl rfl ?_
          exact j_piret q230_232 rfl
        refine j_if (fun c24 => ?_) (fun c24 => ?_)
        · refine j_tin (pc' := 233) (j := 5) (off := 111) q230_122 c24 (Nat.le_of_ble_eq_true rfl) (by decide) rfl (by decide) ?_
          refine j_iload_n (pc' := 234) q230_233 rfl rfl ?_
          exact j_piret q230_234 rfl
        refine j_if (fun c25 => ?_) (fun c25 => ?_)
        · refine j_tin (pc' := 235) (j := 6) (off := 113) q230_122 c25 (Nat.le_of_ble_eq_true rfl) (by decide) rfl (by decide) ?_
          refine j_iload (pc' := 237) q230_235 rfl rfl ?_
          exact j_piret q230_237 rfl
        refine j_if (fun c26 => ?_) (fun c26 => ?_)
        · refine j_tin (pc' := 238) (j := 7) (off := 116) q230_122 c26 (Nat.le_of_ble_eq_true rfl) (by decide) rfl (by decide) ?_
          refine j_iload (pc' := 240) q230_238 rfl rfl ?_
          exact j_piret q230_240 rfl
        refine j_tdef (pc' := 241) 8 q230_122 rfl (by decide) (z_noS (z_noS (z_noS (z_noS (z_noS (z_noS (z_noS (z_noS (z_no0) c14) c15) c20) c21) c23) c24) c25) c26) (by decide) ?_
        refine j_iconst (pc' := 242) q230_241 rfl ?_
        exact j_piret q230_242 rfl
      · show z_J _ _ _ _ _ _ _ _ _ _ _ _
        refine j_iload (pc' := 93) q230_91 rfl rfl ?_
        refine j_bipush (pc' := 95) q230_93 rfl ?_
        refine j_icmp_ge (pc' := 98) q230_95 rfl (fun c12 => ?_) (fun c12 => ?_)
        · exact j_exit (j_forget (z_le_s (z_le_s (z_le_s (z_le_s (z_le_s (z_le_s (z_le_n (z_le_nil)))))))) (hX11 s11.1))
        · refine j_iload (pc' := 100) q230_98 rfl rfl ?_
          refine j_aload_n (pc' := 101) q230_100 rfl (by decide) rfl ?_
          refine j_getr (k := 90) (q := 91) (pc' := 104) q230_101 rfl (hρ 90 0 91 rfl) rfl ?_
          refine j_bipush (pc' := 106) q230_104 rfl ?_
          refine j_iald (k := 91) (N := 550) (pc' := 107) q230_106 rfl (by decide) rfl ?_
          refine j_iload (pc' := 109) q230_107 rfl rfl ?_
          refine j_ishr (pc' := 110) q230_109 rfl ?_
          refine j_iconst (pc' := 111) q230_110 rfl ?_
          refine j_iand (pc' := 112) q230_111 rfl ?_
          refine j_iadd (pc' := 113) q230_112 rfl ?_
          refine j_nameI (fun v13 => ?_)
          refine j_istore5 (pc' := 115) q230_113 rfl (Nat.le_of_ble_eq_true rfl) rfl ?_
          refine j_iinc6 (pc' := 118) q230_115 rfl (Nat.le_of_ble_eq_true rfl) rfl ?_
          refine j_goto q230_118 rfl ?_
          exact j_again (j_forget (z_le_s (z_le_s (z_le_s (z_le_s (z_le_s (z_le_s (z_le_s (z_le_nil)))))))) (hR11 (v13, (s11.2 + (1 : Int32)))))
    · show z_J _ _ _ _ _ _ _ _ _ _ _ _
      refine j_iload (pc' := 15) q230_13 rfl rfl ?_
      refine j_aload_n (pc' := 16) q230_15 rfl (by decide) rfl ?_
      refine j_getf (k := 90) (pc' := 19) q230_16 rfl rfl ?_
      refine j_aload_n (pc' := 20) q230_19 rfl (by decide) rfl ?_
      refine j_getf (k := 90) (pc' := 23) q230_20 rfl rfl ?_
      refine j_imul (pc' := 24) q230_23 rfl ?_
      refine j_icmp_ge (pc' := 27) q230_24 rfl (fun c2 => ?_) (fun c2 => ?_)
      · exact j_exit (j_forget (z_le_s (z_le_s (z_le_s (z_le_s (z_le_s (z_le_s (z_le_n (z_le_nil)))))))) (hX1 (s1.1, s1.2.1, s1.2.2.1)))
      · refine j_iload_n (pc' := 28) q230_27 rfl rfl ?_
        refine j_aload_n (pc' := 29) q230_28 rfl (by decide) rfl ?_
        refine j_iconst (pc' := 30) q230_29 rfl ?_
        refine j_iload (pc' := 32) q230_30 rfl rfl ?_
        refine j_callV2_pi (d := d + 0) (pc' := 35) q230_32 rfl (Nat.le_of_ble_eq_true rfl) (Nat.le_of_ble_eq_true rfl) rfl (t_M_lies hρ (d + 0) _ _ _) (fun r3 => ?_)
        refine j_iconst (pc' := 36) q230_35 rfl ?_
        refine j_join (T := Int32 × Int32) 44 (fun t4 => [.ref 90, .int a1, .null, .int s1.2.1, .int s1.2.2.1, .int (0 : Int32), .int s1.2.2.2]) (fun t4 => [.int t4.1, .int t4.2]) (fun t4 => σ) (fun t4 => ?_) (fun j4 hj4 => ?_)
        · show z_J _ _ _ _ _ _ _ _ _ _ _ _
          refine j_iadd (pc' := 45) q230_44 rfl ?_
          refine j_istore2 (pc' := 46) q230_45 rfl (Nat.le_of_ble_eq_true rfl) rfl ?_
          refine j_iload_n (pc' := 47) q230_46 rfl rfl ?_
          refine j_aload_n (pc' := 48) q230_47 rfl (by decide) rfl ?_
          refine j_iconst (pc' := 49) q230_48 rfl ?_
          refine j_iload (pc' := 51) q230_49 rfl rfl ?_
          refine j_callV2_pi (d := d + 0) (pc' := 54) q230_51 rfl (Nat.le_of_ble_eq_true rfl) (Nat.le_of_ble_eq_true rfl) rfl (t_M_cropIn hρ (d + 0) _ _ _) (fun r5 => ?_)
          refine j_bipush (pc' := 56) q230_54 rfl ?_
          refine j_join (T := Int32 × Int32) 64 (fun t6 => [.ref 90, .int a1, .int (t4.2 + t4.1), .null, .int s1.2.2.1, .int (0 : Int32), .int s1.2.2.2]) (fun t6 => [.int t6.1, .int t6.2]) (fun t6 => σ) (fun t6 => ?_) (fun j6 hj6 => ?_)
          · show z_J _ _ _ _ _ _ _ _ _ _ _ _
            refine j_iadd (pc' := 65) q230_64 rfl ?_
            refine j_istore3 (pc' := 66) q230_65 rfl (Nat.le_of_ble_eq_true rfl) rfl ?_
            refine j_iload (pc' := 68) q230_66 rfl rfl ?_
            refine j_aload_n (pc' := 69) q230_68 rfl (by decide) rfl ?_
            refine j_getr (k := 90) (q := 91) (pc' := 72) q230_69 rfl (hρ 90 0 91 rfl) rfl ?_
            refine j_iconst (pc' := 73) q230_72 rfl ?_
            refine j_iload (pc' := 75) q230_73 rfl rfl ?_
            refine j_imul (pc' := 76) q230_75 rfl ?_
            refine j_iconst (pc' := 77) q230_76 rfl ?_
            refine j_iadd (pc' := 78) q230_77 rfl ?_
            refine j_if (fun hi7 => ?_) (fun _ => j_none)
            refine j_iald (k := 91) (N := 550) (pc' := 79) q230_78 rfl hi7 rfl ?_
            refine j_iadd (pc' := 80) q230_79 rfl ?_
            refine j_nameI (fun v8 => ?_)
            refine j_istore4 (pc' := 82) q230_80 rfl (Nat.le_of_ble_eq_true rfl) rfl ?_
            refine j_iinc6 (pc' := 85) q230_82 rfl (Nat.le_of_ble_eq_true rfl) rfl ?_
            refine j_goto q230_85 rfl ?_
            exact j_again (j_forget (z_le_s (z_le_s (z_le_s (z_le_s (z_le_s (z_le_s (z_le_s (z_le_nil)))))))) (hR1 ((t4.2 + t4.1), (t6.2 + t6.1), v8, (s1.2.2.2 + (1 : Int32)))))
          · show z_J _ _ _ _ _ _ _ _ _ _ _ _
            refine j_icmp_ne (pc' := 59) q230_56 rfl (fun c9 => ?_) (fun c9 => ?_)
            · refine j_iconst (pc' := 60) q230_59 rfl ?_
              refine j_goto q230_60 rfl ?_
              refine j_forget (z_le_s (z_le_s (z_le_s (z_le_n (z_le_s (z_le_s (z_le_s (z_le_nil)))))))) (hj6 ((0 : Int32), s1.2.1))
            · refine j_iconst (pc' := 64) q230_63 rfl ?_
              refine j_forget (z_le_s (z_le_s (z_le_s (z_le_n (z_le_s (z_le_s (z_le_s (z_le_nil)))))))) (hj6 ((1 : Int32), s1.2.1))
        · show z_J _ _ _ _ _ _ _ _ _ _ _ _
          refine j_icmp_ne (pc' := 39) q230_36 rfl (fun c10 => ?_) (fun c10 => ?_)
          · refine j_iconst (pc' := 40) q230_39 rfl ?_
            refine j_goto q230_40 rfl ?_
            refine j_forget (z_le_s (z_le_s (z_le_n (z_le_s (z_le_s (z_le_s (z_le_s (z_le_nil)))))))) (hj4 ((1 : Int32), s1.1))
          · refine j_iconst (pc' := 44) q230_43 rfl ?_
            refine j_forget (z_le_s (z_le_s (z_le_n (z_le_s (z_le_s (z_le_s (z_le_s (z_le_nil)))))))) (hj4 ((0 : Int32), s1.1))
set_option maxRecDepth 8000 in
theorem q242_16 : z_fi (z_mi 242) 16 = some (16, .iconst 0, 0, 0, 0, 0, 0) := rfl
set_option maxRecDepth 8000 in
theorem q242_17 : z_fi (z_mi 242) 17 = some (17, .istore_n 3, 0, 0, 0, 0, 0) := rfl
set_option maxRecDepth 8000 in
theorem q242_18 : z_fi (z_mi 242) 18 = some (18, .iload_n 3, 0, 0, 0, 0, 0) := rfl
set_option maxRecDepth 8000 in
theorem q242_19 : z_fi (z_mi 242) 19 = some (19, .aload_n 0, 0, 0, 0, 0, 0) := rfl
set_option maxRecDepth 8000 in
theorem q242_20 : z_fi (z_mi 242) 20 = some (20, .arraylength, 0, 0, 0, 0, 0) := rfl
set_option maxRecDepth 8000 in
theorem q242_21 : z_fi (z_mi 242) 21 = some (21, .iconst 5, 0, 0, 0, 5, 0) := rfl
set_option maxRecDepth 8000 in
theorem q242_22 : z_fi (z_mi 242) 22 = some (22, .isub, 0, 0, 0, 0, 0) := rfl
set_option maxRecDepth 8000 in
theorem q242_23 : z_fi (z_mi 242) 23 = some (23, .if_icmp .gt 1519, 0, 1542, 0, 0, 0) := rfl
set_option maxRecDepth 8000 in
theorem q242_26 : z_fi (z_mi 242) 26 = some (26, .aload_n 0, 0, 0, 0, 0, 0) := rfl
set_option maxRecDepth 8000 in
theorem q242_27 : z_fi (z_mi 242) 27 = some (27, .iload_n 3, 0, 0, 0, 0, 0) := rfl
set_option maxRecDepth 8000 in
theorem q242_28 : z_fi (z_mi 242) 28 = some (28, .iaload, 0, 0, 0, 0, 0) := rfl
set_option maxRecDepth 8000 in
theorem q242_29 : z_fi (z_mi 242) 29 = some (29, .bipush 63, 0, 0, 0, 63, 0) := rfl
set_option maxRecDepth 8000 in
theorem q242_31 : z_fi (z_mi 242) 31 = some (31, .iand, 0, 0, 0, 0, 0) := rfl
set_option maxRecDepth 8000 in
theorem q242_32 : z_fi (z_mi 242) 32 = some (32, .tableswitch 1504 0 42 #[188, 211, 234, 247, 260, 283, 316, 339, 372, 405, 428, 471, 494, 527, 560, 609, 642, 675, 698, 731, 754, 797, 810, 843, 866, 879, 922, 955, 988, 1021, 1075, 1108, 1131, 1174, 1217, 1240, 1283, 1306, 1329, 1372, 1415, 1468, 1481], 188, 0, 0, 0, 0) := rfl
set_option maxRecDepth 8000 in
theorem q242_220 : z_fi (z_mi 242) 220 = some (220, .aload_n 1, 0, 0, 0, 0, 0) := rfl
set_option maxRecDepth 8000 in
theorem q242_221 : z_fi (z_mi 242) 221 = some (221, .aload_n 0, 0, 0, 0, 0, 0) := rfl
set_option maxRecDepth 8000 in
theorem q242_222 : z_fi (z_mi 242) 222 = some (222, .iload_n 3, 0, 0, 0, 0, 0) := rfl
set_option maxRecDepth 8000 in
theorem q242_223 : z_fi (z_mi 242) 223 = some (223, .iconst 1, 0, 0, 0, 1, 0) := rfl
set_option maxRecDepth 8000 in
theorem q242_224 : z_fi (z_mi 242) 224 = some (224, .iadd, 0, 0, 0, 0, 0) := rfl
set_option maxRecDepth 8000 in
theorem q242_225 : z_fi (z_mi 242) 225 = some (225, .iaload, 0, 0, 0, 0, 0) := rfl
set_option maxRecDepth 8000 in
theorem q242_226 : z_fi (z_mi 242) 226 = some (226, .invokevirtual 13, 0, 101, 1, 0, 0) := rfl
set_option maxRecDepth 8000 in
theorem q242_229 : z_fi (z_mi 242) 229 = some (229, .aload_n 2, 0, 0, 0, 0, 0) := rfl
set_option maxRecDepth 8000 in
theorem q242_230 : z_fi (z_mi 242) 230 = some (230, .aload_n 0, 0, 0, 0, 0, 0) := rfl
set_option maxRecDepth 8000 in
theorem q242_231 : z_fi (z_mi 242) 231 = some (231, .iload_n 3, 0, 0, 0, 0, 0) := rfl
set_option maxRecDepth 8000 in
theorem q242_232 : z_fi (z_mi 242) 232 = some (232, .iconst 1, 0, 0, 0, 1, 0) := rfl
set_option maxRecDepth 8000 in
theorem q242_233 : z_fi (z_mi 242) 233 = some (233, .iadd, 0, 0, 0, 0, 0) := rfl
set_option maxRecDepth 8000 in
theorem q242_234 : z_fi (z_mi 242) 234 = some (234, .iaload, 0, 0, 0, 0, 0) := rfl
set_option maxRecDepth 8000 in
theorem q242_235 : z_fi (z_mi 242) 235 = some (235, .invokevirtual 17, 0, 150, 1, 0, 0) := rfl
set_option maxRecDepth 8000 in
theorem q242_238 : z_fi (z_mi 242) 238 = some (238, .if_icmp .eq 1298, 0, 1536, 0, 0, 0) := rfl
set_option maxRecDepth 8000 in
theorem q242_241 : z_fi (z_mi 242) 241 = some (241, .iconst 0, 0, 0, 0, 0, 0) := rfl
set_option maxRecDepth 8000 in
theorem q242_242 : z_fi (z_mi 242) 242 = some (242, .ireturn, 0, 0, 0, 0, 0) := rfl
set_option maxRecDepth 8000 in
theorem q242_243 : z_fi (z_mi 242) 243 = some (243, .aload_n 1, 0, 0, 0, 0, 0) := rfl
set_option maxRecDepth 8000 in
theorem q242_244 : z_fi (z_mi 242) 244 = some (244, .aload_n 0, 0, 0, 0, 0, 0) := rfl
set_option maxRecDepth 8000 in
theorem q242_245 : z_fi (z_mi 242) 245 = some (245, .iload_n 3, 0, 0, 0, 0, 0) := rfl
set_option maxRecDepth 8000 in
theorem q242_246 : z_fi (z_mi 242) 246 = some (246, .iconst 1, 0, 0, 0, 1, 0) := rfl
set_option maxRecDepth 8000 in
theorem q242_247 : z_fi (z_mi 242) 247 = some (247, .iadd, 0, 0, 0, 0, 0) := rfl
set_option maxRecDepth 8000 in
theorem q242_248 : z_fi (z_mi 242) 248 = some (248, .iaload, 0, 0, 0, 0, 0) := rfl
set_option maxRecDepth 8000 in
theorem q242_249 : z_fi (z_mi 242) 249 = some (249, .invokevirtual 18, 0, 102, 1, 0, 0) := rfl
set_option maxRecDepth 8000 in
theorem q242_252 : z_fi (z_mi 242) 252 = some (252, .aload_n 2, 0, 0, 0, 0, 0) := rfl
set_option maxRecDepth 8000 in
theorem q242_253 : z_fi (z_mi 242) 253 = some (253, .aload_n 0, 0, 0, 0, 0, 0) := rfl
set_option maxRecDepth 8000 in
theorem q242_254 : z_fi (z_mi 242) 254 = some (254, .iload_n 3, 0, 0, 0, 0, 0) := rfl
set_option maxRecDepth 8000 in
theorem q242_255 : z_fi (z_mi 242) 255 = some (255, .iconst 1, 0, 0, 0, 1, 0) := rfl
set_option maxRecDepth 8000 in
theorem q242_256 : z_fi (z_mi 242) 256 = some (256, .iadd, 0, 0, 0, 0, 0) := rfl
set_option maxRecDepth 8000 in
theorem q242_257 : z_fi (z_mi 242) 257 = some (257, .iaload, 0, 0, 0, 0, 0) := rfl
set_option maxRecDepth 8000 in
theorem q242_258 : z_fi (z_mi 242) 258 = some (258, .invokevirtual 21, 0, 151, 1, 0, 0) := rfl
set_option maxRecDepth 8000 in
theorem q242_261 : z_fi (z_mi 242) 261 = some (261, .if_icmp .eq 1275, 0, 1536, 0, 0, 0) := rfl
set_option maxRecDepth 8000 in
theorem q242_264 : z_fi (z_mi 242) 264 = some (264, .iconst 0, 0, 0, 0, 0, 0) := rfl
set_option maxRecDepth 8000 in
theorem q242_265 : z_fi (z_mi 242) 265 = some (265, .ireturn, 0, 0, 0, 0, 0) := rfl
set_option maxRecDepth 8000 in
theorem q242_266 : z_fi (z_mi 242) 266 = some (266, .aload_n 1, 0, 0, 0, 0, 0) := rfl
set_option maxRecDepth 8000 in
theorem q242_267 : z_fi (z_mi 242) 267 = some (267, .invokevirtual 22, 0, 103, 0, 0, 0) := rfl
set_option maxRecDepth 8000 in
theorem q242_270 : z_fi (z_mi 242) 270 = some (270, .aload_n 2, 0, 0, 0, 0, 0) := rfl
set_option maxRecDepth 8000 in
theorem q242_271 : z_fi (z_mi 242) 271 = some (271, .invokevirtual 26, 0, 162, 0, 0, 0) := rfl
set_option maxRecDepth 8000 in
theorem q242_274 : z_fi (z_mi 242) 274 = some (274, .if_icmp .eq 1262, 0, 1536, 0, 0, 0) := rfl
set_option maxRecDepth 8000 in
theorem q242_277 : z_fi (z_mi 242) 277 = some (277, .iconst 0, 0, 0, 0, 0, 0) := rfl
set_option maxRecDepth 8000 in
theorem q242_278 : z_fi (z_mi 242) 278 = some (278, .ireturn, 0, 0, 0, 0, 0) := rfl
set_option maxRecDepth 8000 in
theorem q242_279 : z_fi (z_mi 242) 279 = some (279, .aload_n 1, 0, 0, 0, 0, 0) := rfl
set_option maxRecDepth 8000 in
theorem q242_280 : z_fi (z_mi 242) 280 = some (280, .invokevirtual 27, 0, 104, 0, 0, 0) := rfl
set_option maxRecDepth 8000 in
theorem q242_283 : z_fi (z_mi 242) 283 = some (283, .aload_n 2, 0, 0, 0, 0, 0) := rfl
set_option maxRecDepth 8000 in
theorem q242_284 : z_fi (z_mi 242) 284 = some (284, .invokevirtual 30, 0, 163, 0, 0, 0) := rfl
set_option maxRecDepth 8000 in
theorem q242_287 : z_fi (z_mi 242) 287 = some (287, .if_icmp .eq 1249, 0, 1536, 0, 0, 0) := rfl
set_option maxRecDepth 8000 in
theorem q242_290 : z_fi (z_mi 242) 290 = some (290, .iconst 0, 0, 0, 0, 0, 0) := rfl
set_option maxRecDepth 8000 in
theorem q242_291 : z_fi (z_mi 242) 291 = some (291, .ireturn, 0, 0, 0, 0, 0) := rfl
set_option maxRecDepth 8000 in
theorem q242_292 : z_fi (z_mi 242) 292 = some (292, .aload_n 1, 0, 0, 0, 0, 0) := rfl
set_option maxRecDepth 8000 in
theorem q242_293 : z_fi (z_mi 242) 293 = some (293, .aload_n 0, 0, 0, 0, 0, 0) := rfl
set_option maxRecDepth 8000 in
theorem q242_294 : z_fi (z_mi 242) 294 = some (294, .iload_n 3, 0, 0, 0, 0, 0) := rfl
set_option maxRecDepth 8000 in
theorem q242_295 : z_fi (z_mi 242) 295 = some (295, .iconst 1, 0, 0, 0, 1, 0) := rfl
set_option maxRecDepth 8000 in
theorem q242_296 : z_fi (z_mi 242) 296 = some (296, .iadd, 0, 0, 0, 0, 0) := rfl
set_option maxRecDepth 8000 in
theorem q242_297 : z_fi (z_mi 242) 297 = some (297, .iaload, 0, 0, 0, 0, 0) := rfl
set_option maxRecDepth 8000 in
theorem q242_298 : z_fi (z_mi 242) 298 = some (298, .invokevirtual 31, 0, 105, 1, 0, 0) := rfl
set_option maxRecDepth 8000 in
theorem q242_301 : z_fi (z_mi 242) 301 = some (301, .aload_n 2, 0, 0, 0, 0, 0) := rfl
set_option maxRecDepth 8000 in
theorem q242_302 : z_fi (z_mi 242) 302 = some (302, .aload_n 0, 0, 0, 0, 0, 0) := rfl
set_option maxRecDepth 8000 in
theorem q242_303 : z_fi (z_mi 242) 303 = some (303, .iload_n 3, 0, 0, 0, 0, 0) := rfl
set_option maxRecDepth 8000 in
theorem q242_304 : z_fi (z_mi 242) 304 = some (304, .iconst 1, 0, 0, 0, 1, 0) := rfl
set_option maxRecDepth 8000 in
theorem q242_305 : z_fi (z_mi 242) 305 = some (305, .iadd, 0, 0, 0, 0, 0) := rfl
set_option maxRecDepth 8000 in
theorem q242_306 : z_fi (z_mi 242) 306 = some (306, .iaload, 0, 0, 0, 0, 0) := rfl
set_option maxRecDepth 8000 in
theorem q242_307 : z_fi (z_mi 242) 307 = some (307, .invokevirtual 34, 0, 168, 1, 0, 0) := rfl
set_option maxRecDepth 8000 in
theorem q242_310 : z_fi (z_mi 242) 310 = some (310, .if_icmp .eq 1226, 0, 1536, 0, 0, 0) := rfl
set_option maxRecDepth 8000 in
theorem q242_313 : z_fi (z_mi 242) 313 = some (313, .iconst 0, 0, 0, 0, 0, 0) := rfl
set_option maxRecDepth 8000 in
theorem q242_314 : z_fi (z_mi 242) 314 = some (314, .ireturn, 0, 0, 0, 0, 0) := rfl
set_option maxRecDepth 8000 in
theorem q242_315 : z_fi (z_mi 242) 315 = some (315, .aload_n 1, 0, 0, 0, 0, 0) := rfl
set_option maxRecDepth 8000 in
theorem q242_316 : z_fi (z_mi 242) 316 = some (316, .aload_n 0, 0, 0, 0, 0, 0) := rfl
set_option maxRecDepth 8000 in
theorem q242_317 : z_fi (z_mi 242) 317 = some (317, .iload_n 3, 0, 0, 0, 0, 0) := rfl
set_option maxRecDepth 8000 in
theorem q242_318 : z_fi (z_mi 242) 318 = some (318, .iconst 1, 0, 0, 0, 1, 0) := rfl
set_option maxRecDepth 8000 in
theorem q242_319 : z_fi (z_mi 242) 319 = some (319, .iadd, 0, 0, 0, 0, 0) := rfl
set_option maxRecDepth 8000 in
theorem q242_320 : z_fi (z_mi 242) 320 = some (320, .iaload, 0, 0, 0, 0, 0) := rfl
set_option maxRecDepth 8000 in
theorem q242_321 : z_fi (z_mi 242) 321 = some (321, .aload_n 0, 0, 0, 0, 0, 0) := rfl
set_option maxRecDepth 8000 in
theorem q242_322 : z_fi (z_mi 242) 322 = some (322, .iload_n 3, 0, 0, 0, 0, 0) := rfl
set_option maxRecDepth 8000 in
theorem q242_323 : z_fi (z_mi 242) 323 = some (323, .iconst 2, 0, 0, 0, 2, 0) := rfl
set_option maxRecDepth 8000 in
theorem q242_324 : z_fi (z_mi 242) 324 = some (324, .iadd, 0, 0, 0, 0, 0) := rfl
set_option maxRecDepth 8000 in
theorem q242_325 : z_fi (z_mi 242) 325 = some (325, .iaload, 0, 0, 0, 0, 0) := rfl
set_option maxRecDepth 8000 in
theorem q242_326 : z_fi (z_mi 242) 326 = some (326, .invokevirtual 35, 0, 106, 2, 0, 0) := rfl
set_option maxRecDepth 8000 in
theorem q242_329 : z_fi (z_mi 242) 329 = some (329, .aload_n 2, 0, 0, 0, 0, 0) := rfl
set_option maxRecDepth 8000 in
theorem q242_330 : z_fi (z_mi 242) 330 = some (330, .aload_n 0, 0, 0, 0, 0, 0) := rfl
set_option maxRecDepth 8000 in
theorem q242_331 : z_fi (z_mi 242) 331 = some (331, .iload_n 3, 0, 0, 0, 0, 0) := rfl
set_option maxRecDepth 8000 in
theorem q242_332 : z_fi (z_mi 242) 332 = some (332, .iconst 1, 0, 0, 0, 1, 0) := rfl
set_option maxRecDepth 8000 in
theorem q242_333 : z_fi (z_mi 242) 333 = some (333, .iadd, 0, 0, 0, 0, 0) := rfl
set_option maxRecDepth 8000 in
theorem q242_334 : z_fi (z_mi 242) 334 = some (334, .iaload, 0, 0, 0, 0, 0) := rfl
set_option maxRecDepth 8000 in
theorem q242_335 : z_fi (z_mi 242) 335 = some (335, .aload_n 0, 0, 0, 0, 0, 0) := rfl
set_option maxRecDepth 8000 in
theorem q242_336 : z_fi (z_mi 242) 336 = some (336, .iload_n 3, 0, 0, 0, 0, 0) := rfl
set_option maxRecDepth 8000 in
theorem q242_337 : z_fi (z_mi 242) 337 = some (337, .iconst 2, 0, 0, 0, 2, 0) := rfl
set_option maxRecDepth 8000 in
theorem q242_338 : z_fi (z_mi 242) 338 = some (338, .iadd, 0, 0, 0, 0, 0) := rfl
set_option maxRecDepth 8000 in
theorem q242_339 : z_fi (z_mi 242) 339 = some (339, .iaload, 0, 0, 0, 0, 0) := rfl
set_option maxRecDepth 8000 in
theorem q242_340 : z_fi (z_mi 242) 340 = some (340, .invokevirtual 39, 0, 172, 2, 0, 0) := rfl
set_option maxRecDepth 8000 in
theorem q242_343 : z_fi (z_mi 242) 343 = some (343, .if_icmp .eq 1193, 0, 1536, 0, 0, 0) := rfl
set_option maxRecDepth 8000 in
theorem q242_346 : z_fi (z_mi 242) 346 = some (346, .iconst 0, 0, 0, 0, 0, 0) := rfl
set_option maxRecDepth 8000 in
theorem q242_347 : z_fi (z_mi 242) 347 = some (347, .ireturn, 0, 0, 0, 0, 0) := rfl
set_option maxRecDepth 8000 in
theorem q242_348 : z_fi (z_mi 242) 348 = some (348, .aload_n 1, 0, 0, 0, 0, 0) := rfl
set_option maxRecDepth 8000 in
theorem q242_349 : z_fi (z_mi 242) 349 = some (349, .aload_n 0, 0, 0, 0, 0, 0) := rfl
set_option maxRecDepth 8000 in
theorem q242_350 : z_fi (z_mi 242) 350 = some (350, .iload_n 3, 0, 0, 0, 0, 0) := rfl
set_option maxRecDepth 8000 in
theorem q242_351 : z_fi (z_mi 242) 351 = some (351, .iconst 1, 0, 0, 0, 1, 0) := rfl
set_option maxRecDepth 8000 in
theorem q242_352 : z_fi (z_mi 242) 352 = some (352, .iadd, 0, 0, 0, 0, 0) := rfl
set_option maxRecDepth 8000 in
theorem q242_353 : z_fi (z_mi 242) 353 = some (353, .iaload, 0, 0, 0, 0, 0) := rfl
set_option maxRecDepth 8000 in
theorem q242_354 : z_fi (z_mi 242) 354 = some (354, .invokevirtual 40, 0, 107, 1, 0, 0) := rfl
set_option maxRecDepth 8000 in
theorem q242_357 : z_fi (z_mi 242) 357 = some (357, .aload_n 2, 0, 0, 0, 0, 0) := rfl
set_option maxRecDepth 8000 in
theorem q242_358 : z_fi (z_mi 242) 358 = some (358, .aload_n 0, 0, 0, 0, 0, 0) := rfl
set_option maxRecDepth 8000 in
theorem q242_359 : z_fi (z_mi 242) 359 = some (359, .iload_n 3, 0, 0, 0, 0, 0) := rfl
set_option maxRecDepth 8000 in
theorem q242_360 : z_fi (z_mi 242) 360 = some (360, .iconst 1, 0, 0, 0, 1, 0) := rfl
set_option maxRecDepth 8000 in
theorem q242_361 : z_fi (z_mi 242) 361 = some (361, .iadd, 0, 0, 0, 0, 0) := rfl
set_option maxRecDepth 8000 in
theorem q242_362 : z_fi (z_mi 242) 362 = some (362, .iaload, 0, 0, 0, 0, 0) := rfl
set_option maxRecDepth 8000 in
theorem q242_363 : z_fi (z_mi 242) 363 = some (363, .invokevirtual 43, 0, 173, 1, 0, 0) := rfl
set_option maxRecDepth 8000 in
theorem q242_366 : z_fi (z_mi 242) 366 = some (366, .if_icmp .eq 1170, 0, 1536, 0, 0, 0) := rfl
set_option maxRecDepth 8000 in
theorem q242_369 : z_fi (z_mi 242) 369 = some (369, .iconst 0, 0, 0, 0, 0, 0) := rfl
set_option maxRecDepth 8000 in
theorem q242_370 : z_fi (z_mi 242) 370 = some (370, .ireturn, 0, 0, 0, 0, 0) := rfl
set_option maxRecDepth 8000 in
theorem q242_371 : z_fi (z_mi 242) 371 = some (371, .aload_n 1, 0, 0, 0, 0, 0) := rfl
set_option maxRecDepth 8000 in
theorem q242_372 : z_fi (z_mi 242) 372 = some (372, .aload_n 0, 0, 0, 0, 0, 0) := rfl
set_option maxRecDepth 8000 in
theorem q242_373 : z_fi (z_mi 242) 373 = some (373, .iload_n 3, 0, 0, 0, 0, 0) := rfl
set_option maxRecDepth 8000 in
theorem q242_374 : z_fi (z_mi 242) 374 = some (374, .iconst 1, 0, 0, 0, 1, 0) := rfl
set_option maxRecDepth 8000 in
theorem q242_375 : z_fi (z_mi 242) 375 = some (375, .iadd, 0, 0, 0, 0, 0) := rfl
set_option maxRecDepth 8000 in
theorem q242_376 : z_fi (z_mi 242) 376 = some (376, .iaload, 0, 0, 0, 0, 0) := rfl
set_option maxRecDepth 8000 in
theorem q242_377 : z_fi (z_mi 242) 377 = some (377, .aload_n 0, 0, 0, 0, 0, 0) := rfl
set_option maxRecDepth 8000 in
theorem q242_378 : z_fi (z_mi 242) 378 = some (378, .iload_n 3, 0, 0, 0, 0, 0) := rfl
set_option maxRecDepth 8000 in
theorem q242_379 : z_fi (z_mi 242) 379 = some (379, .iconst 2, 0, 0, 0, 2, 0) := rfl
set_option maxRecDepth 8000 in
theorem q242_380 : z_fi (z_mi 242) 380 = some (380, .iadd, 0, 0, 0, 0, 0) := rfl
set_option maxRecDepth 8000 in
theorem q242_381 : z_fi (z_mi 242) 381 = some (381, .iaload, 0, 0, 0, 0, 0) := rfl
set_option maxRecDepth 8000 in
theorem q242_382 : z_fi (z_mi 242) 382 = some (382, .invokevirtual 44, 0, 108, 2, 0, 0) := rfl
set_option maxRecDepth 8000 in
theorem q242_385 : z_fi (z_mi 242) 385 = some (385, .aload_n 2, 0, 0, 0, 0, 0) := rfl
set_option maxRecDepth 8000 in
theorem q242_386 : z_fi (z_mi 242) 386 = some (386, .aload_n 0, 0, 0, 0, 0, 0) := rfl
set_option maxRecDepth 8000 in
theorem q242_387 : z_fi (z_mi 242) 387 = some (387, .iload_n 3, 0, 0, 0, 0, 0) := rfl
set_option maxRecDepth 8000 in
theorem q242_388 : z_fi (z_mi 242) 388 = some (388, .iconst 1, 0, 0, 0, 1, 0) := rfl
set_option maxRecDepth 8000 in
theorem q242_389 : z_fi (z_mi 242) 389 = some (389, .iadd, 0, 0, 0, 0, 0) := rfl
set_option maxRecDepth 8000 in
theorem q242_390 : z_fi (z_mi 242) 390 = some (390, .iaload, 0, 0, 0, 0, 0) := rfl
set_option maxRecDepth 8000 in
theorem q242_391 : z_fi (z_mi 242) 391 = some (391, .aload_n 0, 0, 0, 0, 0, 0) := rfl
set_option maxRecDepth 8000 in
theorem q242_392 : z_fi (z_mi 242) 392 = some (392, .iload_n 3, 0, 0, 0, 0, 0) := rfl
set_option maxRecDepth 8000 in
theorem q242_393 : z_fi (z_mi 242) 393 = some (393, .iconst 2, 0, 0, 0, 2, 0) := rfl
set_option maxRecDepth 8000 in
theorem q242_394 : z_fi (z_mi 242) 394 = some (394, .iadd, 0, 0, 0, 0, 0) := rfl
set_option maxRecDepth 8000 in
theorem q242_395 : z_fi (z_mi 242) 395 = some (395, .iaload, 0, 0, 0, 0, 0) := rfl
set_option maxRecDepth 8000 in
theorem q242_396 : z_fi (z_mi 242) 396 = some (396, .invokevirtual 47, 0, 174, 2, 0, 0) := rfl
set_option maxRecDepth 8000 in
theorem q242_399 : z_fi (z_mi 242) 399 = some (399, .if_icmp .eq 1137, 0, 1536, 0, 0, 0) := rfl
set_option maxRecDepth 8000 in
theorem q242_402 : z_fi (z_mi 242) 402 = some (402, .iconst 0, 0, 0, 0, 0, 0) := rfl
set_option maxRecDepth 8000 in
theorem q242_403 : z_fi (z_mi 242) 403 = some (403, .ireturn, 0, 0, 0, 0, 0) := rfl
set_option maxRecDepth 8000 in
theorem q242_404 : z_fi (z_mi 242) 404 = some (404, .aload_n 1, 0, 0, 0, 0, 0) := rfl
set_option maxRecDepth 8000 in
theorem q242_405 : z_fi (z_mi 242) 405 = some (405, .aload_n 0, 0, 0, 0, 0, 0) := rfl
set_option maxRecDepth 8000 in
theorem q242_406 : z_fi (z_mi 242) 406 = some (406, .iload_n 3, 0, 0, 0, 0, 0) := rfl
set_option maxRecDepth 8000 in
theorem q242_407 : z_fi (z_mi 242) 407 = some (407, .iconst 1, 0, 0, 0, 1, 0) := rfl
set_option maxRecDepth 8000 in
theorem q242_408 : z_fi (z_mi 242) 408 = some (408, .iadd, 0, 0, 0, 0, 0) := rfl
set_option maxRecDepth 8000 in
theorem q242_409 : z_fi (z_mi 242) 409 = some (409, .iaload, 0, 0, 0, 0, 0) := rfl
set_option maxRecDepth 8000 in
theorem q242_410 : z_fi (z_mi 242) 410 = some (410, .aload_n 0, 0, 0, 0, 0, 0) := rfl
set_option maxRecDepth 8000 in
theorem q242_411 : z_fi (z_mi 242) 411 = some (411, .iload_n 3, 0, 0, 0, 0, 0) := rfl
set_option maxRecDepth 8000 in
theorem q242_412 : z_fi (z_mi 242) 412 = some (412, .iconst 2, 0, 0, 0, 2, 0) := rfl
set_option maxRecDepth 8000 in
theorem q242_413 : z_fi (z_mi 242) 413 = some (413, .iadd, 0, 0, 0, 0, 0) := rfl
set_option maxRecDepth 8000 in
theorem q242_414 : z_fi (z_mi 242) 414 = some (414, .iaload, 0, 0, 0, 0, 0) := rfl
set_option maxRecDepth 8000 in
theorem q242_415 : z_fi (z_mi 242) 415 = some (415, .invokevirtual 48, 0, 109, 2, 0, 0) := rfl
set_option maxRecDepth 8000 in
theorem q242_418 : z_fi (z_mi 242) 418 = some (418, .aload_n 2, 0, 0, 0, 0, 0) := rfl
set_option maxRecDepth 8000 in
theorem q242_419 : z_fi (z_mi 242) 419 = some (419, .aload_n 0, 0, 0, 0, 0, 0) := rfl
set_option maxRecDepth 8000 in
theorem q242_420 : z_fi (z_mi 242) 420 = some (420, .iload_n 3, 0, 0, 0, 0, 0) := rfl
set_option maxRecDepth 8000 in
theorem q242_421 : z_fi (z_mi 242) 421 = some (421, .iconst 1, 0, 0, 0, 1, 0) := rfl
set_option maxRecDepth 8000 in
theorem q242_422 : z_fi (z_mi 242) 422 = some (422, .iadd, 0, 0, 0, 0, 0) := rfl
set_option maxRecDepth 8000 in
theorem q242_423 : z_fi (z_mi 242) 423 = some (423, .iaload, 0, 0, 0, 0, 0) := rfl
set_option maxRecDepth 8000 in
theorem q242_424 : z_fi (z_mi 242) 424 = some (424, .aload_n 0, 0, 0, 0, 0, 0) := rfl
set_option maxRecDepth 8000 in
theorem q242_425 : z_fi (z_mi 242) 425 = some (425, .iload_n 3, 0, 0, 0, 0, 0) := rfl
set_option maxRecDepth 8000 in
theorem q242_426 : z_fi (z_mi 242) 426 = some (426, .iconst 2, 0, 0, 0, 2, 0) := rfl
set_option maxRecDepth 8000 in
theorem q242_427 : z_fi (z_mi 242) 427 = some (427, .iadd, 0, 0, 0, 0, 0) := rfl
set_option maxRecDepth 8000 in
theorem q242_428 : z_fi (z_mi 242) 428 = some (428, .iaload, 0, 0, 0, 0, 0) := rfl
set_option maxRecDepth 8000 in
theorem q242_429 : z_fi (z_mi 242) 429 = some (429, .invokevirtual 51, 0, 175, 2, 0, 0) := rfl
set_option maxRecDepth 8000 in
theorem q242_432 : z_fi (z_mi 242) 432 = some (432, .if_icmp .eq 1104, 0, 1536, 0, 0, 0) := rfl
set_option maxRecDepth 8000 in
theorem q242_435 : z_fi (z_mi 242) 435 = some (435, .iconst 0, 0, 0, 0, 0, 0) := rfl
set_option maxRecDepth 8000 in
theorem q242_436 : z_fi (z_mi 242) 436 = some (436, .ireturn, 0, 0, 0, 0, 0) := rfl
set_option maxRecDepth 8000 in
theorem q242_437 : z_fi (z_mi 242) 437 = some (437, .aload_n 1, 0, 0, 0, 0, 0) := rfl
set_option maxRecDepth 8000 in
theorem q242_438 : z_fi (z_mi 242) 438 = some (438, .aload_n 0, 0, 0, 0, 0, 0) := rfl
set_option maxRecDepth 8000 in
theorem q242_439 : z_fi (z_mi 242) 439 = some (439, .iload_n 3, 0, 0, 0, 0, 0) := rfl
set_option maxRecDepth 8000 in
theorem q242_440 : z_fi (z_mi 242) 440 = some (440, .iconst 1, 0, 0, 0, 1, 0) := rfl
set_option maxRecDepth 8000 in
theorem q242_441 : z_fi (z_mi 242) 441 = some (441, .iadd, 0, 0, 0, 0, 0) := rfl
set_option maxRecDepth 8000 in
theorem q242_442 : z_fi (z_mi 242) 442 = some (442, .iaload, 0, 0, 0, 0, 0) := rfl
set_option maxRecDepth 8000 in
theorem q242_443 : z_fi (z_mi 242) 443 = some (443, .invokevirtual 52, 0, 110, 1, 0, 0) := rfl
set_option maxRecDepth 8000 in
theorem q242_446 : z_fi (z_mi 242) 446 = some (446, .aload_n 2, 0, 0, 0, 0, 0) := rfl
set_option maxRecDepth 8000 in
theorem q242_447 : z_fi (z_mi 242) 447 = some (447, .aload_n 0, 0, 0, 0, 0, 0) := rfl
set_option maxRecDepth 8000 in
theorem q242_448 : z_fi (z_mi 242) 448 = some (448, .iload_n 3, 0, 0, 0, 0, 0) := rfl
set_option maxRecDepth 8000 in
theorem q242_449 : z_fi (z_mi 242) 449 = some (449, .iconst 1, 0, 0, 0, 1, 0) := rfl
set_option maxRecDepth 8000 in
theorem q242_450 : z_fi (z_mi 242) 450 = some (450, .iadd, 0, 0, 0, 0, 0) := rfl
set_option maxRecDepth 8000 in
theorem q242_451 : z_fi (z_mi 242) 451 = some (451, .iaload, 0, 0, 0, 0, 0) := rfl
set_option maxRecDepth 8000 in
theorem q242_452 : z_fi (z_mi 242) 452 = some (452, .invokevirtual 55, 0, 176, 1, 0, 0) := rfl
set_option maxRecDepth 8000 in
theorem q242_455 : z_fi (z_mi 242) 455 = some (455, .if_icmp .eq 1081, 0, 1536, 0, 0, 0) := rfl
set_option maxRecDepth 8000 in
theorem q242_458 : z_fi (z_mi 242) 458 = some (458, .iconst 0, 0, 0, 0, 0, 0) := rfl
set_option maxRecDepth 8000 in
theorem q242_459 : z_fi (z_mi 242) 459 = some (459, .ireturn, 0, 0, 0, 0, 0) := rfl
set_option maxRecDepth 8000 in
theorem q242_460 : z_fi (z_mi 242) 460 = some (460, .aload_n 1, 0, 0, 0, 0, 0) := rfl
set_option maxRecDepth 8000 in
theorem q242_461 : z_fi (z_mi 242) 461 = some (461, .aload_n 0, 0, 0, 0, 0, 0) := rfl
set_option maxRecDepth 8000 in
theorem q242_462 : z_fi (z_mi 242) 462 = some (462, .iload_n 3, 0, 0, 0, 0, 0) := rfl
set_option maxRecDepth 8000 in
theorem q242_463 : z_fi (z_mi 242) 463 = some (463, .iconst 1, 0, 0, 0, 1, 0) := rfl
set_option maxRecDepth 8000 in
theorem q242_464 : z_fi (z_mi 242) 464 = some (464, .iadd, 0, 0, 0, 0, 0) := rfl
set_option maxRecDepth 8000 in
theorem q242_465 : z_fi (z_mi 242) 465 = some (465, .iaload, 0, 0, 0, 0, 0) := rfl
set_option maxRecDepth 8000 in
theorem q242_466 : z_fi (z_mi 242) 466 = some (466, .aload_n 0, 0, 0, 0, 0, 0) := rfl
set_option maxRecDepth 8000 in
theorem q242_467 : z_fi (z_mi 242) 467 = some (467, .iload_n 3, 0, 0, 0, 0, 0) := rfl
set_option maxRecDepth 8000 in
theorem q242_468 : z_fi (z_mi 242) 468 = some (468, .iconst 2, 0, 0, 0, 2, 0) := rfl
set_option maxRecDepth 8000 in
theorem q242_469 : z_fi (z_mi 242) 469 = some (469, .iadd, 0, 0, 0, 0, 0) := rfl
set_option maxRecDepth 8000 in
theorem q242_470 : z_fi (z_mi 242) 470 = some (470, .iaload, 0, 0, 0, 0, 0) := rfl
set_option maxRecDepth 8000 in
theorem q242_471 : z_fi (z_mi 242) 471 = some (471, .aload_n 0, 0, 0, 0, 0, 0) := rfl
set_option maxRecDepth 8000 in
theorem q242_472 : z_fi (z_mi 242) 472 = some (472, .iload_n 3, 0, 0, 0, 0, 0) := rfl
set_option maxRecDepth 8000 in
theorem q242_473 : z_fi (z_mi 242) 473 = some (473, .iconst 3, 0, 0, 0, 3, 0) := rfl
set_option maxRecDepth 8000 in
theorem q242_474 : z_fi (z_mi 242) 474 = some (474, .iadd, 0, 0, 0, 0, 0) := rfl
set_option maxRecDepth 8000 in
theorem q242_475 : z_fi (z_mi 242) 475 = some (475, .iaload, 0, 0, 0, 0, 0) := rfl
set_option maxRecDepth 8000 in
theorem q242_476 : z_fi (z_mi 242) 476 = some (476, .invokevirtual 56, 0, 111, 3, 0, 0) := rfl
set_option maxRecDepth 8000 in
theorem q242_479 : z_fi (z_mi 242) 479 = some (479, .aload_n 2, 0, 0, 0, 0, 0) := rfl
set_option maxRecDepth 8000 in
theorem q242_480 : z_fi (z_mi 242) 480 = some (480, .aload_n 0, 0, 0, 0, 0, 0) := rfl
set_option maxRecDepth 8000 in
theorem q242_481 : z_fi (z_mi 242) 481 = some (481, .iload_n 3, 0, 0, 0, 0, 0) := rfl
set_option maxRecDepth 8000 in
theorem q242_482 : z_fi (z_mi 242) 482 = some (482, .iconst 1, 0, 0, 0, 1, 0) := rfl
set_option maxRecDepth 8000 in
theorem q242_483 : z_fi (z_mi 242) 483 = some (483, .iadd, 0, 0, 0, 0, 0) := rfl
set_option maxRecDepth 8000 in
theorem q242_484 : z_fi (z_mi 242) 484 = some (484, .iaload, 0, 0, 0, 0, 0) := rfl
set_option maxRecDepth 8000 in
theorem q242_485 : z_fi (z_mi 242) 485 = some (485, .aload_n 0, 0, 0, 0, 0, 0) := rfl
set_option maxRecDepth 8000 in
theorem q242_486 : z_fi (z_mi 242) 486 = some (486, .iload_n 3, 0, 0, 0, 0, 0) := rfl
set_option maxRecDepth 8000 in
theorem q242_487 : z_fi (z_mi 242) 487 = some (487, .iconst 2, 0, 0, 0, 2, 0) := rfl
set_option maxRecDepth 8000 in
theorem q242_488 : z_fi (z_mi 242) 488 = some (488, .iadd, 0, 0, 0, 0, 0) := rfl
set_option maxRecDepth 8000 in
theorem q242_489 : z_fi (z_mi 242) 489 = some (489, .iaload, 0, 0, 0, 0, 0) := rfl
set_option maxRecDepth 8000 in
theorem q242_490 : z_fi (z_mi 242) 490 = some (490, .aload_n 0, 0, 0, 0, 0, 0) := rfl
set_option maxRecDepth 8000 in
theorem q242_491 : z_fi (z_mi 242) 491 = some (491, .iload_n 3, 0, 0, 0, 0, 0) := rfl
set_option maxRecDepth 8000 in
theorem q242_492 : z_fi (z_mi 242) 492 = some (492, .iconst 3, 0, 0, 0, 3, 0) := rfl
set_option maxRecDepth 8000 in
theorem q242_493 : z_fi (z_mi 242) 493 = some (493, .iadd, 0, 0, 0, 0, 0) := rfl
set_option maxRecDepth 8000 in
theorem q242_494 : z_fi (z_mi 242) 494 = some (494, .iaload, 0, 0, 0, 0, 0) := rfl
set_option maxRecDepth 8000 in
theorem q242_495 : z_fi (z_mi 242) 495 = some (495, .invokevirtual 60, 0, 180, 3, 0, 0) := rfl
set_option maxRecDepth 8000 in
theorem q242_498 : z_fi (z_mi 242) 498 = some (498, .if_icmp .eq 1038, 0, 1536, 0, 0, 0) := rfl
set_option maxRecDepth 8000 in
theorem q242_501 : z_fi (z_mi 242) 501 = some (501, .iconst 0, 0, 0, 0, 0, 0) := rfl
set_option maxRecDepth 8000 in
theorem q242_502 : z_fi (z_mi 242) 502 = some (502, .ireturn, 0, 0, 0, 0, 0) := rfl
set_option maxRecDepth 8000 in
theorem q242_503 : z_fi (z_mi 242) 503 = some (503, .aload_n 1, 0, 0, 0, 0, 0) := rfl
set_option maxRecDepth 8000 in
theorem q242_504 : z_fi (z_mi 242) 504 = some (504, .aload_n 0, 0, 0, 0, 0, 0) := rfl
set_option maxRecDepth 8000 in
theorem q242_505 : z_fi (z_mi 242) 505 = some (505, .iload_n 3, 0, 0, 0, 0, 0) := rfl
set_option maxRecDepth 8000 in
theorem q242_506 : z_fi (z_mi 242) 506 = some (506, .iconst 1, 0, 0, 0, 1, 0) := rfl
set_option maxRecDepth 8000 in
theorem q242_507 : z_fi (z_mi 242) 507 = some (507, .iadd, 0, 0, 0, 0, 0) := rfl
set_option maxRecDepth 8000 in
theorem q242_508 : z_fi (z_mi 242) 508 = some (508, .iaload, 0, 0, 0, 0, 0) := rfl
set_option maxRecDepth 8000 in
theorem q242_509 : z_fi (z_mi 242) 509 = some (509, .invokevirtual 61, 0, 112, 1, 0, 0) := rfl
set_option maxRecDepth 8000 in
theorem q242_512 : z_fi (z_mi 242) 512 = some (512, .aload_n 2, 0, 0, 0, 0, 0) := rfl
set_option maxRecDepth 8000 in
theorem q242_513 : z_fi (z_mi 242) 513 = some (513, .aload_n 0, 0, 0, 0, 0, 0) := rfl
set_option maxRecDepth 8000 in
theorem q242_514 : z_fi (z_mi 242) 514 = some (514, .iload_n 3, 0, 0, 0, 0, 0) := rfl
set_option maxRecDepth 8000 in
theorem q242_515 : z_fi (z_mi 242) 515 = some (515, .iconst 1, 0, 0, 0, 1, 0) := rfl
set_option maxRecDepth 8000 in
theorem q242_516 : z_fi (z_mi 242) 516 = some (516, .iadd, 0, 0, 0, 0, 0) := rfl
set_option maxRecDepth 8000 in
theorem q242_517 : z_fi (z_mi 242) 517 = some (517, .iaload, 0, 0, 0, 0, 0) := rfl
set_option maxRecDepth 8000 in
theorem q242_518 : z_fi (z_mi 242) 518 = some (518, .invokevirtual 64, 0, 181, 1, 0, 0) := rfl
set_option maxRecDepth 8000 in
theorem q242_521 : z_fi (z_mi 242) 521 = some (521, .if_icmp .eq 1015, 0, 1536, 0, 0, 0) := rfl
set_option maxRecDepth 8000 in
theorem q242_524 : z_fi (z_mi 242) 524 = some (524, .iconst 0, 0, 0, 0, 0, 0) := rfl
set_option maxRecDepth 8000 in
theorem q242_525 : z_fi (z_mi 242) 525 = some (525, .ireturn, 0, 0, 0, 0, 0) := rfl
set_option maxRecDepth 8000 in
theorem q242_526 : z_fi (z_mi 242) 526 = some (526, .aload_n 1, 0, 0, 0, 0, 0) := rfl
set_option maxRecDepth 8000 in
theorem q242_527 : z_fi (z_mi 242) 527 = some (527, .aload_n 0, 0, 0, 0, 0, 0) := rfl
set_option maxRecDepth 8000 in
theorem q242_528 : z_fi (z_mi 242) 528 = some (528, .iload_n 3, 0, 0, 0, 0, 0) := rfl
set_option maxRecDepth 8000 in
theorem q242_529 : z_fi (z_mi 242) 529 = some (529, .iconst 1, 0, 0, 0, 1, 0) := rfl
set_option maxRecDepth 8000 in
theorem q242_530 : z_fi (z_mi 242) 530 = some (530, .iadd, 0, 0, 0, 0, 0) := rfl
set_option maxRecDepth 8000 in
theorem q242_531 : z_fi (z_mi 242) 531 = some (531, .iaload, 0, 0, 0, 0, 0) := rfl
set_option maxRecDepth 8000 in
theorem q242_532 : z_fi (z_mi 242) 532 = some (532, .aload_n 0, 0, 0, 0, 0, 0) := rfl
set_option maxRecDepth 8000 in
theorem q242_533 : z_fi (z_mi 242) 533 = some (533, .iload_n 3, 0, 0, 0, 0, 0) := rfl
set_option maxRecDepth 8000 in
theorem q242_534 : z_fi (z_mi 242) 534 = some (534, .iconst 2, 0, 0, 0, 2, 0) := rfl
set_option maxRecDepth 8000 in
theorem q242_535 : z_fi (z_mi 242) 535 = some (535, .iadd, 0, 0, 0, 0, 0) := rfl
set_option maxRecDepth 8000 in
theorem q242_536 : z_fi (z_mi 242) 536 = some (536, .iaload, 0, 0, 0, 0, 0) := rfl
set_option maxRecDepth 8000 in
theorem q242_537 : z_fi (z_mi 242) 537 = some (537, .invokevirtual 65, 0, 113, 2, 0, 0) := rfl
set_option maxRecDepth 8000 in
theorem q242_540 : z_fi (z_mi 242) 540 = some (540, .aload_n 2, 0, 0, 0, 0, 0) := rfl
set_option maxRecDepth 8000 in
theorem q242_541 : z_fi (z_mi 242) 541 = some (541, .aload_n 0, 0, 0, 0, 0, 0) := rfl
set_option maxRecDepth 8000 in
theorem q242_542 : z_fi (z_mi 242) 542 = some (542, .iload_n 3, 0, 0, 0, 0, 0) := rfl
set_option maxRecDepth 8000 in
theorem q242_543 : z_fi (z_mi 242) 543 = some (543, .iconst 1, 0, 0, 0, 1, 0) := rfl
set_option maxRecDepth 8000 in
theorem q242_544 : z_fi (z_mi 242) 544 = some (544, .iadd, 0, 0, 0, 0, 0) := rfl
set_option maxRecDepth 8000 in
theorem q242_545 : z_fi (z_mi 242) 545 = some (545, .iaload, 0, 0, 0, 0, 0) := rfl
set_option maxRecDepth 8000 in
theorem q242_546 : z_fi (z_mi 242) 546 = some (546, .aload_n 0, 0, 0, 0, 0, 0) := rfl
set_option maxRecDepth 8000 in
theorem q242_547 : z_fi (z_mi 242) 547 = some (547, .iload_n 3, 0, 0, 0, 0, 0) := rfl
set_option maxRecDepth 8000 in
theorem q242_548 : z_fi (z_mi 242) 548 = some (548, .iconst 2, 0, 0, 0, 2, 0) := rfl
set_option maxRecDepth 8000 in
theorem q242_549 : z_fi (z_mi 242) 549 = some (549, .iadd, 0, 0, 0, 0, 0) := rfl
set_option maxRecDepth 8000 in
theorem q242_550 : z_fi (z_mi 242) 550 = some (550, .iaload, 0, 0, 0, 0, 0) := rfl
set_option maxRecDepth 8000 in
theorem q242_551 : z_fi (z_mi 242) 551 = some (551, .invokevirtual 68, 0, 182, 2, 0, 0) := rfl
set_option maxRecDepth 8000 in
theorem q242_554 : z_fi (z_mi 242) 554 = some (554, .if_icmp .eq 982, 0, 1536, 0, 0, 0) := rfl
set_option maxRecDepth 8000 in
theorem q242_557 : z_fi (z_mi 242) 557 = some (557, .iconst 0, 0, 0, 0, 0, 0) := rfl
set_option maxRecDepth 8000 in
theorem q242_558 : z_fi (z_mi 242) 558 = some (558, .ireturn, 0, 0, 0, 0, 0) := rfl
set_option maxRecDepth 8000 in
theorem q242_559 : z_fi (z_mi 242) 559 = some (559, .aload_n 1, 0, 0, 0, 0, 0) := rfl
set_option maxRecDepth 8000 in
theorem q242_560 : z_fi (z_mi 242) 560 = some (560, .aload_n 0, 0, 0, 0, 0, 0) := rfl
set_option maxRecDepth 8000 in
theorem q242_561 : z_fi (z_mi 242) 561 = some (561, .iload_n 3, 0, 0, 0, 0, 0) := rfl
set_option maxRecDepth 8000 in
theorem q242_562 : z_fi (z_mi 242) 562 = some (562, .iconst 1, 0, 0, 0, 1, 0) := rfl
set_option maxRecDepth 8000 in
theorem q242_563 : z_fi (z_mi 242) 563 = some (563, .iadd, 0, 0, 0, 0, 0) := rfl
set_option maxRecDepth 8000 in
theorem q242_564 : z_fi (z_mi 242) 564 = some (564, .iaload, 0, 0, 0, 0, 0) := rfl
set_option maxRecDepth 8000 in
theorem q242_565 : z_fi (z_mi 242) 565 = some (565, .aload_n 0, 0, 0, 0, 0, 0) := rfl
set_option maxRecDepth 8000 in
theorem q242_566 : z_fi (z_mi 242) 566 = some (566, .iload_n 3, 0, 0, 0, 0, 0) := rfl
set_option maxRecDepth 8000 in
theorem q242_567 : z_fi (z_mi 242) 567 = some (567, .iconst 2, 0, 0, 0, 2, 0) := rfl
set_option maxRecDepth 8000 in
theorem q242_568 : z_fi (z_mi 242) 568 = some (568, .iadd, 0, 0, 0, 0, 0) := rfl
set_option maxRecDepth 8000 in
theorem q242_569 : z_fi (z_mi 242) 569 = some (569, .iaload, 0, 0, 0, 0, 0) := rfl
set_option maxRecDepth 8000 in
theorem q242_570 : z_fi (z_mi 242) 570 = some (570, .invokevirtual 69, 0, 114, 2, 0, 0) := rfl
set_option maxRecDepth 8000 in
theorem q242_573 : z_fi (z_mi 242) 573 = some (573, .aload_n 2, 0, 0, 0, 0, 0) := rfl
set_option maxRecDepth 8000 in
theorem q242_574 : z_fi (z_mi 242) 574 = some (574, .aload_n 0, 0, 0, 0, 0, 0) := rfl
set_option maxRecDepth 8000 in
theorem q242_575 : z_fi (z_mi 242) 575 = some (575, .iload_n 3, 0, 0, 0, 0, 0) := rfl
set_option maxRecDepth 8000 in
theorem q242_576 : z_fi (z_mi 242) 576 = some (576, .iconst 1, 0, 0, 0, 1, 0) := rfl
set_option maxRecDepth 8000 in
theorem q242_577 : z_fi (z_mi 242) 577 = some (577, .iadd, 0, 0, 0, 0, 0) := rfl
set_option maxRecDepth 100000 in
theorem q242_578 : z_fi (z_mi 242) 578 = some (578, .iaload, 0, 0, 0, 0, 0) := rfl
set_option maxRecDepth 100000 in
theorem q242_579 : z_fi (z_mi 242) 579 = some (579, .aload_n 0, 0, 0, 0, 0, 0) := rfl
set_option maxRecDepth 100000 in
theorem q242_580 : z_fi (z_mi 242) 580 = some (580, .iload_n 3, 0, 0, 0, 0, 0) := rfl
set_option maxRecDepth 100000 in
theorem q242_581 : z_fi (z_mi 242) 581 = some (581, .iconst 2, 0, 0, 0, 2, 0) := rfl
set_option maxRecDepth 100000 in
theorem q242_582 : z_fi (z_mi 242) 582 = some (582, .iadd, 0, 0, 0, 0, 0) := rfl
set_option maxRecDepth 100000 in
theorem q242_583 : z_fi (z_mi 242) 583 = some (583, .iaload, 0, 0, 0, 0, 0) := rfl
set_option maxRecDepth 100000 in
theorem q242_584 : z_fi (z_mi 242) 584 = some (584, .invokevirtual 72, 0, 183, 2, 0, 0) := rfl
set_option maxRecDepth 100000 in
theorem q242_587 : z_fi (z_mi 242) 587 = some (587, .if_icmp .eq 949, 0, 1536, 0, 0, 0) := rfl
set_option maxRecDepth 100000 in
theorem q242_590 : z_fi (z_mi 242) 590 = some (590, .iconst 0, 0, 0, 0, 0, 0) := rfl
set_option maxRecDepth 100000 in
theorem q242_591 : z_fi (z_mi 242) 591 = some (591, .ireturn, 0, 0, 0, 0, 0) := rfl
set_option maxRecDepth 100000 in
theorem q242_592 : z_fi (z_mi 242) 592 = some (592, .aload_n 1, 0, 0, 0, 0, 0) := rfl
set_option maxRecDepth 100000 in
theorem q242_593 : z_fi (z_mi 242) 593 = some (593, .aload_n 0, 0, 0, 0, 0, 0) := rfl
set_option maxRecDepth 100000 in
theorem q242_594 : z_fi (z_mi 242) 594 = some (594, .iload_n 3, 0, 0, 0, 0, 0) := rfl
set_option maxRecDepth 100000 in
theorem q242_595 : z_fi (z_mi 242) 595 = some (595, .iconst 1, 0, 0, 0, 1, 0) := rfl
set_option maxRecDepth 100000 in
theorem q242_596 : z_fi (z_mi 242) 596 = some (596, .iadd, 0, 0, 0, 0, 0) := rfl
set_option maxRecDepth 100000 in
theorem q242_597 : z_fi (z_mi 242) 597 = some (597, .iaload, 0, 0, 0, 0, 0) := rfl
set_option maxRecDepth 100000 in
theorem q242_598 : z_fi (z_mi 242) 598 = some (598, .aload_n 0, 0, 0, 0, 0, 0) := rfl
set_option maxRecDepth 100000 in
theorem q242_599 : z_fi (z_mi 242) 599 = some (599, .iload_n 3, 0, 0, 0, 0, 0) := rfl
set_option maxRecDepth 100000 in
theorem q242_600 : z_fi (z_mi 242) 600 = some (600, .iconst 2, 0, 0, 0, 2, 0) := rfl
set_option maxRecDepth 100000 in
theorem q242_601 : z_fi (z_mi 242) 601 = some (601, .iadd, 0, 0, 0, 0, 0) := rfl
set_option maxRecDepth 100000 in
theorem q242_602 : z_fi (z_mi 242) 602 = some (602, .iaload, 0, 0, 0, 0, 0) := rfl
set_option maxRecDepth 100000 in
theorem q242_603 : z_fi (z_mi 242) 603 = some (603, .ifCond .eq 7, 0, 610, 0, 0, 0) := rfl
set_option maxRecDepth 100000 in
theorem q242_606 : z_fi (z_mi 242) 606 = some (606, .iconst 1, 0, 0, 0, 1, 0) := rfl
set_option maxRecDepth 100000 in
theorem q242_607 : z_fi (z_mi 242) 607 = some (607, .goto 4, 0, 611, 0, 0, 0) := rfl
set_option maxRecDepth 100000 in
theorem q242_610 : z_fi (z_mi 242) 610 = some (610, .iconst 0, 0, 0, 0, 0, 0) := rfl
set_option maxRecDepth 100000 in
theorem q242_611 : z_fi (z_mi 242) 611 = some (611, .invokevirtual 73, 0, 115, 2, 0, 0) := rfl
set_option maxRecDepth 100000 in
theorem q242_614 : z_fi (z_mi 242) 614 = some (614, .aload_n 2, 0, 0, 0, 0, 0) := rfl
set_option maxRecDepth 100000 in
theorem q242_615 : z_fi (z_mi 242) 615 = some (615, .aload_n 0, 0, 0, 0, 0, 0) := rfl
set_option maxRecDepth 100000 in
theorem q242_616 : z_fi (z_mi 242) 616 = some (616, .iload_n 3, 0, 0, 0, 0, 0) := rfl
set_option maxRecDepth 100000 in
theorem q242_617 : z_fi (z_mi 242) 617 = some (617, .iconst 1, 0, 0, 0, 1, 0) := rfl
set_option maxRecDepth 100000 in
theorem q242_618 : z_fi (z_mi 242) 618 = some (618, .iadd, 0, 0, 0, 0, 0) := rfl
set_option maxRecDepth 100000 in
theorem q242_619 : z_fi (z_mi 242) 619 = some (619, .iaload, 0, 0, 0, 0, 0) := rfl
set_option maxRecDepth 100000 in
theorem q242_620 : z_fi (z_mi 242) 620 = some (620, .aload_n 0, 0, 0, 0, 0, 0) := rfl
set_option maxRecDepth 100000 in
theorem q242_621 : z_fi (z_mi 242) 621 = some (621, .iload_n 3, 0, 0, 0, 0, 0) := rfl
set_option maxRecDepth 100000 in
theorem q242_622 : z_fi (z_mi 242) 622 = some (622, .iconst 2, 0, 0, 0, 2, 0) := rfl
set_option maxRecDepth 100000 in
theorem q242_623 : z_fi (z_mi 242) 623 = some (623, .iadd, 0, 0, 0, 0, 0) := rfl
set_option maxRecDepth 100000 in
theorem q242_624 : z_fi (z_mi 242) 624 = some (624, .iaload, 0, 0, 0, 0, 0) := rfl
set_option maxRecDepth 100000 in
theorem q242_625 : z_fi (z_mi 242) 625 = some (625, .ifCond .eq 7, 0, 632, 0, 0, 0) := rfl
set_option maxRecDepth 100000 in
theorem q242_628 : z_fi (z_mi 242) 628 = some (628, .iconst 1, 0, 0, 0, 1, 0) := rfl
set_option maxRecDepth 100000 in
theorem q242_629 : z_fi (z_mi 242) 629 = some (629, .goto 4, 0, 633, 0, 0, 0) := rfl
set_option maxRecDepth 100000 in
theorem q242_632 : z_fi (z_mi 242) 632 = some (632, .iconst 0, 0, 0, 0, 0, 0) := rfl
set_option maxRecDepth 100000 in
theorem q242_633 : z_fi (z_mi 242) 633 = some (633, .invokevirtual 77, 0, 184, 2, 0, 0) := rfl
set_option maxRecDepth 100000 in
theorem q242_636 : z_fi (z_mi 242) 636 = some (636, .if_icmp .eq 900, 0, 1536, 0, 0, 0) := rfl
set_option maxRecDepth 100000 in
theorem q242_639 : z_fi (z_mi 242) 639 = some (639, .iconst 0, 0, 0, 0, 0, 0) := rfl
set_option maxRecDepth 100000 in
theorem q242_640 : z_fi (z_mi 242) 640 = some (640, .ireturn, 0, 0, 0, 0, 0) := rfl
set_option maxRecDepth 100000 in
theorem q242_641 : z_fi (z_mi 242) 641 = some (641, .aload_n 1, 0, 0, 0, 0, 0) := rfl
set_option maxRecDepth 100000 in
theorem q242_642 : z_fi (z_mi 242) 642 = some (642, .aload_n 0, 0, 0, 0, 0, 0) := rfl
set_option maxRecDepth 100000 in
theorem q242_643 : z_fi (z_mi 242) 643 = some (643, .iload_n 3, 0, 0, 0, 0, 0) := rfl
set_option maxRecDepth 100000 in
theorem q242_644 : z_fi (z_mi 242) 644 = some (644, .iconst 1, 0, 0, 0, 1, 0) := rfl
set_option maxRecDepth 100000 in
theorem q242_645 : z_fi (z_mi 242) 645 = some (645, .iadd, 0, 0, 0, 0, 0) := rfl
set_option maxRecDepth 100000 in
theorem q242_646 : z_fi (z_mi 242) 646 = some (646, .iaload, 0, 0, 0, 0, 0) := rfl
set_option maxRecDepth 100000 in
theorem q242_647 : z_fi (z_mi 242) 647 = some (647, .aload_n 0, 0, 0, 0, 0, 0) := rfl
set_option maxRecDepth 100000 in
theorem q242_648 : z_fi (z_mi 242) 648 = some (648, .iload_n 3, 0, 0, 0, 0, 0) := rfl
set_option maxRecDepth 100000 in
theorem q242_649 : z_fi (z_mi 242) 649 = some (649, .iconst 2, 0, 0, 0, 2, 0) := rfl
set_option maxRecDepth 100000 in
theorem q242_650 : z_fi (z_mi 242) 650 = some (650, .iadd, 0, 0, 0, 0, 0) := rfl
set_option maxRecDepth 100000 in
theorem q242_651 : z_fi (z_mi 242) 651 = some (651, .iaload, 0, 0, 0, 0, 0) := rfl
set_option maxRecDepth 100000 in
theorem q242_652 : z_fi (z_mi 242) 652 = some (652, .invokevirtual 78, 0, 116, 2, 0, 0) := rfl
set_option maxRecDepth 100000 in
theorem q242_655 : z_fi (z_mi 242) 655 = some (655, .aload_n 2, 0, 0, 0, 0, 0) := rfl
set_option maxRecDepth 100000 in
theorem q242_656 : z_fi (z_mi 242) 656 = some (656, .aload_n 0, 0, 0, 0, 0, 0) := rfl
set_option maxRecDepth 100000 in
theorem q242_657 : z_fi (z_mi 242) 657 = some (657, .iload_n 3, 0, 0, 0, 0, 0) := rfl
set_option maxRecDepth 100000 in
theorem q242_658 : z_fi (z_mi 242) 658 = some (658, .iconst 1, 0, 0, 0, 1, 0) := rfl
set_option maxRecDepth 100000 in
theorem q242_659 : z_fi (z_mi 242) 659 = some (659, .iadd, 0, 0, 0, 0, 0) := rfl
set_option maxRecDepth 100000 in
theorem q242_660 : z_fi (z_mi 242) 660 = some (660, .iaload, 0, 0, 0, 0, 0) := rfl
set_option maxRecDepth 100000 in
theorem q242_661 : z_fi (z_mi 242) 661 = some (661, .aload_n 0, 0, 0, 0, 0, 0) := rfl
set_option maxRecDepth 100000 in
theorem q242_662 : z_fi (z_mi 242) 662 = some (662, .iload_n 3, 0, 0, 0, 0, 0) := rfl
set_option maxRecDepth 100000 in
theorem q242_663 : z_fi (z_mi 242) 663 = some (663, .iconst 2, 0, 0, 0, 2, 0) := rfl
set_option maxRecDepth 100000 in
theorem q242_664 : z_fi (z_mi 242) 664 = some (664, .iadd, 0, 0, 0, 0, 0) := rfl
set_option maxRecDepth 100000 in
theorem q242_665 : z_fi (z_mi 242) 665 = some (665, .iaload, 0, 0, 0, 0, 0) := rfl
set_option maxRecDepth 100000 in
theorem q242_666 : z_fi (z_mi 242) 666 = some (666, .invokevirtual 81, 0, 185, 2, 0, 0) := rfl
set_option maxRecDepth 100000 in
theorem q242_669 : z_fi (z_mi 242) 669 = some (669, .if_icmp .eq 867, 0, 1536, 0, 0, 0) := rfl
set_option maxRecDepth 100000 in
theorem q242_672 : z_fi (z_mi 242) 672 = some (672, .iconst 0, 0, 0, 0, 0, 0) := rfl
set_option maxRecDepth 100000 in
theorem q242_673 : z_fi (z_mi 242) 673 = some (673, .ireturn, 0, 0, 0, 0, 0) := rfl
set_option maxRecDepth 100000 in
theorem q242_674 : z_fi (z_mi 242) 674 = some (674, .aload_n 1, 0, 0, 0, 0, 0) := rfl
set_option maxRecDepth 100000 in
theorem q242_675 : z_fi (z_mi 242) 675 = some (675, .aload_n 0, 0, 0, 0, 0, 0) := rfl
set_option maxRecDepth 100000 in
theorem q242_676 : z_fi (z_mi 242) 676 = some (676, .iload_n 3, 0, 0, 0, 0, 0) := rfl
set_option maxRecDepth 100000 in
theorem q242_677 : z_fi (z_mi 242) 677 = some (677, .iconst 1, 0, 0, 0, 1, 0) := rfl
set_option maxRecDepth 100000 in
theorem q242_678 : z_fi (z_mi 242) 678 = some (678, .iadd, 0, 0, 0, 0, 0) := rfl
set_option maxRecDepth 100000 in
theorem q242_679 : z_fi (z_mi 242) 679 = some (679, .iaload, 0, 0, 0, 0, 0) := rfl
set_option maxRecDepth 100000 in
theorem q242_680 : z_fi (z_mi 242) 680 = some (680, .aload_n 0, 0, 0, 0, 0, 0) := rfl
set_option maxRecDepth 100000 in
theorem q242_681 : z_fi (z_mi 242) 681 = some (681, .iload_n 3, 0, 0, 0, 0, 0) := rfl
set_option maxRecDepth 100000 in
theorem q242_682 : z_fi (z_mi 242) 682 = some (682, .iconst 2, 0, 0, 0, 2, 0) := rfl
set_option maxRecDepth 100000 in
theorem q242_683 : z_fi (z_mi 242) 683 = some (683, .iadd, 0, 0, 0, 0, 0) := rfl
set_option maxRecDepth 100000 in
theorem q242_684 : z_fi (z_mi 242) 684 = some (684, .iaload, 0, 0, 0, 0, 0) := rfl
set_option maxRecDepth 100000 in
theorem q242_685 : z_fi (z_mi 242) 685 = some (685, .invokevirtual 82, 0, 117, 2, 0, 0) := rfl
set_option maxRecDepth 100000 in
theorem q242_688 : z_fi (z_mi 242) 688 = some (688, .aload_n 2, 0, 0, 0, 0, 0) := rfl
set_option maxRecDepth 100000 in
theorem q242_689 : z_fi (z_mi 242) 689 = some (689, .aload_n 0, 0, 0, 0, 0, 0) := rfl
set_option maxRecDepth 100000 in
theorem q242_690 : z_fi (z_mi 242) 690 = some (690, .iload_n 3, 0, 0, 0, 0, 0) := rfl
set_option maxRecDepth 100000 in
theorem q242_691 : z_fi (z_mi 242) 691 = some (691, .iconst 1, 0, 0, 0, 1, 0) := rfl
set_option maxRecDepth 100000 in
theorem q242_692 : z_fi (z_mi 242) 692 = some (692, .iadd, 0, 0, 0, 0, 0) := rfl
set_option maxRecDepth 100000 in
theorem q242_693 : z_fi (z_mi 242) 693 = some (693, .iaload, 0, 0, 0, 0, 0) := rfl
set_option maxRecDepth 100000 in
theorem q242_694 : z_fi (z_mi 242) 694 = some (694, .aload_n 0, 0, 0, 0, 0, 0) := rfl
set_option maxRecDepth 100000 in
theorem q242_695 : z_fi (z_mi 242) 695 = some (695, .iload_n 3, 0, 0, 0, 0, 0) := rfl
set_option maxRecDepth 100000 in
theorem q242_696 : z_fi (z_mi 242) 696 = some (696, .iconst 2, 0, 0, 0, 2, 0) := rfl
set_option maxRecDepth 100000 in
theorem q242_697 : z_fi (z_mi 242) 697 = some (697, .iadd, 0, 0, 0, 0, 0) := rfl
set_option maxRecDepth 100000 in
theorem q242_698 : z_fi (z_mi 242) 698 = some (698, .iaload, 0, 0, 0, 0, 0) := rfl
set_option maxRecDepth 100000 in
theorem q242_699 : z_fi (z_mi 242) 699 = some (699, .invokevirtual 85, 0, 186, 2, 0, 0) := rfl
set_option maxRecDepth 100000 in
theorem q242_702 : z_fi (z_mi 242) 702 = some (702, .if_icmp .eq 834, 0, 1536, 0, 0, 0) := rfl
set_option maxRecDepth 100000 in
theorem q242_705 : z_fi (z_mi 242) 705 = some (705, .iconst 0, 0, 0, 0, 0, 0) := rfl
set_option maxRecDepth 100000 in
theorem q242_706 : z_fi (z_mi 242) 706 = some (706, .ireturn, 0, 0, 0, 0, 0) := rfl
set_option maxRecDepth 100000 in
theorem q242_707 : z_fi (z_mi 242) 707 = some (707, .aload_n 1, 0, 0, 0, 0, 0) := rfl
set_option maxRecDepth 100000 in
theorem q242_708 : z_fi (z_mi 242) 708 = some (708, .aload_n 0, 0, 0, 0, 0, 0) := rfl
set_option maxRecDepth 100000 in
theorem q242_709 : z_fi (z_mi 242) 709 = some (709, .iload_n 3, 0, 0, 0, 0, 0) := rfl
set_option maxRecDepth 100000 in
theorem q242_710 : z_fi (z_mi 242) 710 = some (710, .iconst 1, 0, 0, 0, 1, 0) := rfl
set_option maxRecDepth 100000 in
theorem q242_711 : z_fi (z_mi 242) 711 = some (711, .iadd, 0, 0, 0, 0, 0) := rfl
set_option maxRecDepth 100000 in
theorem q242_712 : z_fi (z_mi 242) 712 = some (712, .iaload, 0, 0, 0, 0, 0) := rfl
set_option maxRecDepth 100000 in
theorem q242_713 : z_fi (z_mi 242) 713 = some (713, .invokevirtual 86, 0, 118, 1, 0, 0) := rfl
set_option maxRecDepth 100000 in
theorem q242_716 : z_fi (z_mi 242) 716 = some (716, .aload_n 2, 0, 0, 0, 0, 0) := rfl
set_option maxRecDepth 100000 in
theorem q242_717 : z_fi (z_mi 242) 717 = some (717, .aload_n 0, 0, 0, 0, 0, 0) := rfl
set_option maxRecDepth 100000 in
theorem q242_718 : z_fi (z_mi 242) 718 = some (718, .iload_n 3, 0, 0, 0, 0, 0) := rfl
set_option maxRecDepth 100000 in
theorem q242_719 : z_fi (z_mi 242) 719 = some (719, .iconst 1, 0, 0, 0, 1, 0) := rfl
set_option maxRecDepth 100000 in
theorem q242_720 : z_fi (z_mi 242) 720 = some (720, .iadd, 0, 0, 0, 0, 0) := rfl
set_option maxRecDepth 100000 in
theorem q242_721 : z_fi (z_mi 242) 721 = some (721, .iaload, 0, 0, 0, 0, 0) := rfl
set_option maxRecDepth 100000 in
theorem q242_722 : z_fi (z_mi 242) 722 = some (722, .invokevirtual 89, 0, 187, 1, 0, 0) := rfl
set_option maxRecDepth 100000 in
theorem q242_725 : z_fi (z_mi 242) 725 = some (725, .if_icmp .eq 811, 0, 1536, 0, 0, 0) := rfl
set_option maxRecDepth 100000 in
theorem q242_728 : z_fi (z_mi 242) 728 = some (728, .iconst 0, 0, 0, 0, 0, 0) := rfl
set_option maxRecDepth 100000 in
theorem q242_729 : z_fi (z_mi 242) 729 = some (729, .ireturn, 0, 0, 0, 0, 0) := rfl
set_option maxRecDepth 100000 in
theorem q242_730 : z_fi (z_mi 242) 730 = some (730, .aload_n 1, 0, 0, 0, 0, 0) := rfl
set_option maxRecDepth 100000 in
theorem q242_731 : z_fi (z_mi 242) 731 = some (731, .aload_n 0, 0, 0, 0, 0, 0) := rfl
set_option maxRecDepth 100000 in
theorem q242_732 : z_fi (z_mi 242) 732 = some (732, .iload_n 3, 0, 0, 0, 0, 0) := rfl
set_option maxRecDepth 100000 in
theorem q242_733 : z_fi (z_mi 242) 733 = some (733, .iconst 1, 0, 0, 0, 1, 0) := rfl
set_option maxRecDepth 100000 in
theorem q242_734 : z_fi (z_mi 242) 734 = some (734, .iadd, 0, 0, 0, 0, 0) := rfl
set_option maxRecDepth 100000 in
theorem q242_735 : z_fi (z_mi 242) 735 = some (735, .iaload, 0, 0, 0, 0, 0) := rfl
set_option maxRecDepth 100000 in
theorem q242_736 : z_fi (z_mi 242) 736 = some (736, .aload_n 0, 0, 0, 0, 0, 0) := rfl
set_option maxRecDepth 100000 in
theorem q242_737 : z_fi (z_mi 242) 737 = some (737, .iload_n 3, 0, 0, 0, 0, 0) := rfl
set_option maxRecDepth 100000 in
theorem q242_738 : z_fi (z_mi 242) 738 = some (738, .iconst 2, 0, 0, 0, 2, 0) := rfl
set_option maxRecDepth 100000 in
theorem q242_739 : z_fi (z_mi 242) 739 = some (739, .iadd, 0, 0, 0, 0, 0) := rfl
set_option maxRecDepth 100000 in
theorem q242_740 : z_fi (z_mi 242) 740 = some (740, .iaload, 0, 0, 0, 0, 0) := rfl
set_option maxRecDepth 100000 in
theorem q242_741 : z_fi (z_mi 242) 741 = some (741, .invokevirtual 90, 0, 119, 2, 0, 0) := rfl
set_option maxRecDepth 100000 in
theorem q242_744 : z_fi (z_mi 242) 744 = some (744, .aload_n 2, 0, 0, 0, 0, 0) := rfl
set_option maxRecDepth 100000 in
theorem q242_745 : z_fi (z_mi 242) 745 = some (745, .aload_n 0, 0, 0, 0, 0, 0) := rfl
set_option maxRecDepth 100000 in
theorem q242_746 : z_fi (z_mi 242) 746 = some (746, .iload_n 3, 0, 0, 0, 0, 0) := rfl
set_option maxRecDepth 100000 in
theorem q242_747 : z_fi (z_mi 242) 747 = some (747, .iconst 1, 0, 0, 0, 1, 0) := rfl
set_option maxRecDepth 100000 in
theorem q242_748 : z_fi (z_mi 242) 748 = some (748, .iadd, 0, 0, 0, 0, 0) := rfl
set_option maxRecDepth 100000 in
theorem q242_749 : z_fi (z_mi 242) 749 = some (749, .iaload, 0, 0, 0, 0, 0) := rfl
set_option maxRecDepth 100000 in
theorem q242_750 : z_fi (z_mi 242) 750 = some (750, .aload_n 0, 0, 0, 0, 0, 0) := rfl
set_option maxRecDepth 100000 in
theorem q242_751 : z_fi (z_mi 242) 751 = some (751, .iload_n 3, 0, 0, 0, 0, 0) := rfl
set_option maxRecDepth 100000 in
theorem q242_752 : z_fi (z_mi 242) 752 = some (752, .iconst 2, 0, 0, 0, 2, 0) := rfl
set_option maxRecDepth 100000 in
theorem q242_753 : z_fi (z_mi 242) 753 = some (753, .iadd, 0, 0, 0, 0, 0) := rfl
set_option maxRecDepth 100000 in
theorem q242_754 : z_fi (z_mi 242) 754 = some (754, .iaload, 0, 0, 0, 0, 0) := rfl
set_option maxRecDepth 100000 in
theorem q242_755 : z_fi (z_mi 242) 755 = some (755, .invokevirtual 93, 0, 188, 2, 0, 0) := rfl
set_option maxRecDepth 100000 in
theorem q242_758 : z_fi (z_mi 242) 758 = some (758, .if_icmp .eq 778, 0, 1536, 0, 0, 0) := rfl
set_option maxRecDepth 100000 in
theorem q242_761 : z_fi (z_mi 242) 761 = some (761, .iconst 0, 0, 0, 0, 0, 0) := rfl
set_option maxRecDepth 100000 in
theorem q242_762 : z_fi (z_mi 242) 762 = some (762, .ireturn, 0, 0, 0, 0, 0) := rfl
set_option maxRecDepth 100000 in
theorem q242_763 : z_fi (z_mi 242) 763 = some (763, .aload_n 1, 0, 0, 0, 0, 0) := rfl
set_option maxRecDepth 100000 in
theorem q242_764 : z_fi (z_mi 242) 764 = some (764, .aload_n 0, 0, 0, 0, 0, 0) := rfl
set_option maxRecDepth 100000 in
theorem q242_765 : z_fi (z_mi 242) 765 = some (765, .iload_n 3, 0, 0, 0, 0, 0) := rfl
set_option maxRecDepth 100000 in
theorem q242_766 : z_fi (z_mi 242) 766 = some (766, .iconst 1, 0, 0, 0, 1, 0) := rfl
set_option maxRecDepth 100000 in
theorem q242_767 : z_fi (z_mi 242) 767 = some (767, .iadd, 0, 0, 0, 0, 0) := rfl
set_option maxRecDepth 100000 in
theorem q242_768 : z_fi (z_mi 242) 768 = some (768, .iaload, 0, 0, 0, 0, 0) := rfl
set_option maxRecDepth 100000 in
theorem q242_769 : z_fi (z_mi 242) 769 = some (769, .invokevirtual 94, 0, 120, 1, 0, 0) := rfl
set_option maxRecDepth 100000 in
theorem q242_772 : z_fi (z_mi 242) 772 = some (772, .aload_n 2, 0, 0, 0, 0, 0) := rfl
set_option maxRecDepth 100000 in
theorem q242_773 : z_fi (z_mi 242) 773 = some (773, .aload_n 0, 0, 0, 0, 0, 0) := rfl
set_option maxRecDepth 100000 in
theorem q242_774 : z_fi (z_mi 242) 774 = some (774, .iload_n 3, 0, 0, 0, 0, 0) := rfl
set_option maxRecDepth 100000 in
theorem q242_775 : z_fi (z_mi 242) 775 = some (775, .iconst 1, 0, 0, 0, 1, 0) := rfl
set_option maxRecDepth 100000 in
theorem q242_776 : z_fi (z_mi 242) 776 = some (776, .iadd, 0, 0, 0, 0, 0) := rfl
set_option maxRecDepth 100000 in
theorem q242_777 : z_fi (z_mi 242) 777 = some (777, .iaload, 0, 0, 0, 0, 0) := rfl
set_option maxRecDepth 100000 in
theorem q242_778 : z_fi (z_mi 242) 778 = some (778, .invokevirtual 97, 0, 197, 1, 0, 0) := rfl
set_option maxRecDepth 100000 in
theorem q242_781 : z_fi (z_mi 242) 781 = some (781, .if_icmp .eq 755, 0, 1536, 0, 0, 0) := rfl
set_option maxRecDepth 100000 in
theorem q242_784 : z_fi (z_mi 242) 784 = some (784, .iconst 0, 0, 0, 0, 0, 0) := rfl
set_option maxRecDepth 100000 in
theorem q242_785 : z_fi (z_mi 242) 785 = some (785, .ireturn, 0, 0, 0, 0, 0) := rfl
set_option maxRecDepth 100000 in
theorem q242_786 : z_fi (z_mi 242) 786 = some (786, .aload_n 1, 0, 0, 0, 0, 0) := rfl
set_option maxRecDepth 100000 in
theorem q242_787 : z_fi (z_mi 242) 787 = some (787, .aload_n 0, 0, 0, 0, 0, 0) := rfl
set_option maxRecDepth 100000 in
theorem q242_788 : z_fi (z_mi 242) 788 = some (788, .iload_n 3, 0, 0, 0, 0, 0) := rfl
set_option maxRecDepth 100000 in
theorem q242_789 : z_fi (z_mi 242) 789 = some (789, .iconst 1, 0, 0, 0, 1, 0) := rfl
set_option maxRecDepth 100000 in
theorem q242_790 : z_fi (z_mi 242) 790 = some (790, .iadd, 0, 0, 0, 0, 0) := rfl
set_option maxRecDepth 100000 in
theorem q242_791 : z_fi (z_mi 242) 791 = some (791, .iaload, 0, 0, 0, 0, 0) := rfl
set_option maxRecDepth 100000 in
theorem q242_792 : z_fi (z_mi 242) 792 = some (792, .aload_n 0, 0, 0, 0, 0, 0) := rfl
set_option maxRecDepth 100000 in
theorem q242_793 : z_fi (z_mi 242) 793 = some (793, .iload_n 3, 0, 0, 0, 0, 0) := rfl
set_option maxRecDepth 100000 in
theorem q242_794 : z_fi (z_mi 242) 794 = some (794, .iconst 2, 0, 0, 0, 2, 0) := rfl
set_option maxRecDepth 100000 in
theorem q242_795 : z_fi (z_mi 242) 795 = some (795, .iadd, 0, 0, 0, 0, 0) := rfl
set_option maxRecDepth 100000 in
theorem q242_796 : z_fi (z_mi 242) 796 = some (796, .iaload, 0, 0, 0, 0, 0) := rfl
set_option maxRecDepth 100000 in
theorem q242_797 : z_fi (z_mi 242) 797 = some (797, .aload_n 0, 0, 0, 0, 0, 0) := rfl
set_option maxRecDepth 100000 in
theorem q242_798 : z_fi (z_mi 242) 798 = some (798, .iload_n 3, 0, 0, 0, 0, 0) := rfl
set_option maxRecDepth 100000 in
theorem q242_799 : z_fi (z_mi 242) 799 = some (799, .iconst 3, 0, 0, 0, 3, 0) := rfl
set_option maxRecDepth 100000 in
theorem q242_800 : z_fi (z_mi 242) 800 = some (800, .iadd, 0, 0, 0, 0, 0) := rfl
set_option maxRecDepth 100000 in
theorem q242_801 : z_fi (z_mi 242) 801 = some (801, .iaload, 0, 0, 0, 0, 0) := rfl
set_option maxRecDepth 100000 in
theorem q242_802 : z_fi (z_mi 242) 802 = some (802, .invokevirtual 98, 0, 121, 3, 0, 0) := rfl
set_option maxRecDepth 100000 in
theorem q242_805 : z_fi (z_mi 242) 805 = some (805, .aload_n 2, 0, 0, 0, 0, 0) := rfl
set_option maxRecDepth 100000 in
theorem q242_806 : z_fi (z_mi 242) 806 = some (806, .aload_n 0, 0, 0, 0, 0, 0) := rfl
set_option maxRecDepth 100000 in
theorem q242_807 : z_fi (z_mi 242) 807 = some (807, .iload_n 3, 0, 0, 0, 0, 0) := rfl
set_option maxRecDepth 100000 in
theorem q242_808 : z_fi (z_mi 242) 808 = some (808, .iconst 1, 0, 0, 0, 1, 0) := rfl
set_option maxRecDepth 100000 in
theorem q242_809 : z_fi (z_mi 242) 809 = some (809, .iadd, 0, 0, 0, 0, 0) := rfl
set_option maxRecDepth 100000 in
theorem q242_810 : z_fi (z_mi 242) 810 = some (810, .iaload, 0, 0, 0, 0, 0) := rfl
set_option maxRecDepth 100000 in
theorem q242_811 : z_fi (z_mi 242) 811 = some (811, .aload_n 0, 0, 0, 0, 0, 0) := rfl
set_option maxRecDepth 100000 in
theorem q242_812 : z_fi (z_mi 242) 812 = some (812, .iload_n 3, 0, 0, 0, 0, 0) := rfl
set_option maxRecDepth 100000 in
theorem q242_813 : z_fi (z_mi 242) 813 = some (813, .iconst 2, 0, 0, 0, 2, 0) := rfl
set_option maxRecDepth 100000 in
theorem q242_814 : z_fi (z_mi 242) 814 = some (814, .iadd, 0, 0, 0, 0, 0) := rfl
set_option maxRecDepth 100000 in
theorem q242_815 : z_fi (z_mi 242) 815 = some (815, .iaload, 0, 0, 0, 0, 0) := rfl
set_option maxRecDepth 100000 in
theorem q242_816 : z_fi (z_mi 242) 816 = some (816, .aload_n 0, 0, 0, 0, 0, 0) := rfl
set_option maxRecDepth 100000 in
theorem q242_817 : z_fi (z_mi 242) 817 = some (817, .iload_n 3, 0, 0, 0, 0, 0) := rfl
set_option maxRecDepth 100000 in
theorem q242_818 : z_fi (z_mi 242) 818 = some (818, .iconst 3, 0, 0, 0, 3, 0) := rfl
set_option maxRecDepth 100000 in
theorem q242_819 : z_fi (z_mi 242) 819 = some (819, .iadd, 0, 0, 0, 0, 0) := rfl
set_option maxRecDepth 100000 in
theorem q242_820 : z_fi (z_mi 242) 820 = some (820, .iaload, 0, 0, 0, 0, 0) := rfl
set_option maxRecDepth 100000 in
theorem q242_821 : z_fi (z_mi 242) 821 = some (821, .invokevirtual 101, 0, 198, 3, 0, 0) := rfl
set_option maxRecDepth 100000 in
theorem q242_824 : z_fi (z_mi 242) 824 = some (824, .if_icmp .eq 712, 0, 1536, 0, 0, 0) := rfl
set_option maxRecDepth 100000 in
theorem q242_827 : z_fi (z_mi 242) 827 = some (827, .iconst 0, 0, 0, 0, 0, 0) := rfl
set_option maxRecDepth 100000 in
theorem q242_828 : z_fi (z_mi 242) 828 = some (828, .ireturn, 0, 0, 0, 0, 0) := rfl
set_option maxRecDepth 100000 in
theorem q242_829 : z_fi (z_mi 242) 829 = some (829, .aload_n 1, 0, 0, 0, 0, 0) := rfl
set_option maxRecDepth 100000 in
theorem q242_830 : z_fi (z_mi 242) 830 = some (830, .invokevirtual 102, 0, 122, 0, 0, 0) := rfl
set_option maxRecDepth 100000 in
theorem q242_833 : z_fi (z_mi 242) 833 = some (833, .aload_n 2, 0, 0, 0, 0, 0) := rfl
set_option maxRecDepth 100000 in
theorem q242_834 : z_fi (z_mi 242) 834 = some (834, .invokevirtual 105, 0, 199, 0, 0, 0) := rfl
set_option maxRecDepth 100000 in
theorem q242_837 : z_fi (z_mi 242) 837 = some (837, .if_icmp .eq 699, 0, 1536, 0, 0, 0) := rfl
set_option maxRecDepth 100000 in
theorem q242_840 : z_fi (z_mi 242) 840 = some (840, .iconst 0, 0, 0, 0, 0, 0) := rfl
set_option maxRecDepth 100000 in
theorem q242_841 : z_fi (z_mi 242) 841 = some (841, .ireturn, 0, 0, 0, 0, 0) := rfl
set_option maxRecDepth 100000 in
theorem q242_842 : z_fi (z_mi 242) 842 = some (842, .aload_n 1, 0, 0, 0, 0, 0) := rfl
set_option maxRecDepth 100000 in
theorem q242_843 : z_fi (z_mi 242) 843 = some (843, .aload_n 0, 0, 0, 0, 0, 0) := rfl
set_option maxRecDepth 100000 in
theorem q242_844 : z_fi (z_mi 242) 844 = some (844, .iload_n 3, 0, 0, 0, 0, 0) := rfl
set_option maxRecDepth 100000 in
theorem q242_845 : z_fi (z_mi 242) 845 = some (845, .iconst 1, 0, 0, 0, 1, 0) := rfl
set_option maxRecDepth 100000 in
theorem q242_846 : z_fi (z_mi 242) 846 = some (846, .iadd, 0, 0, 0, 0, 0) := rfl
set_option maxRecDepth 100000 in
theorem q242_847 : z_fi (z_mi 242) 847 = some (847, .iaload, 0, 0, 0, 0, 0) := rfl
set_option maxRecDepth 100000 in
theorem q242_848 : z_fi (z_mi 242) 848 = some (848, .aload_n 0, 0, 0, 0, 0, 0) := rfl
set_option maxRecDepth 100000 in
theorem q242_849 : z_fi (z_mi 242) 849 = some (849, .iload_n 3, 0, 0, 0, 0, 0) := rfl
set_option maxRecDepth 100000 in
theorem q242_850 : z_fi (z_mi 242) 850 = some (850, .iconst 2, 0, 0, 0, 2, 0) := rfl
set_option maxRecDepth 100000 in
theorem q242_851 : z_fi (z_mi 242) 851 = some (851, .iadd, 0, 0, 0, 0, 0) := rfl
set_option maxRecDepth 100000 in
theorem q242_852 : z_fi (z_mi 242) 852 = some (852, .iaload, 0, 0, 0, 0, 0) := rfl
set_option maxRecDepth 100000 in
theorem q242_853 : z_fi (z_mi 242) 853 = some (853, .invokevirtual 106, 0, 123, 2, 0, 0) := rfl
set_option maxRecDepth 100000 in
theorem q242_856 : z_fi (z_mi 242) 856 = some (856, .aload_n 2, 0, 0, 0, 0, 0) := rfl
set_option maxRecDepth 100000 in
theorem q242_857 : z_fi (z_mi 242) 857 = some (857, .aload_n 0, 0, 0, 0, 0, 0) := rfl
set_option maxRecDepth 100000 in
theorem q242_858 : z_fi (z_mi 242) 858 = some (858, .iload_n 3, 0, 0, 0, 0, 0) := rfl
set_option maxRecDepth 100000 in
theorem q242_859 : z_fi (z_mi 242) 859 = some (859, .iconst 1, 0, 0, 0, 1, 0) := rfl
set_option maxRecDepth 100000 in
theorem q242_860 : z_fi (z_mi 242) 860 = some (860, .iadd, 0, 0, 0, 0, 0) := rfl
set_option maxRecDepth 100000 in
theorem q242_861 : z_fi (z_mi 242) 861 = some (861, .iaload, 0, 0, 0, 0, 0) := rfl
set_option maxRecDepth 100000 in
theorem q242_862 : z_fi (z_mi 242) 862 = some (862, .aload_n 0, 0, 0, 0, 0, 0) := rfl
set_option maxRecDepth 100000 in
theorem q242_863 : z_fi (z_mi 242) 863 = some (863, .iload_n 3, 0, 0, 0, 0, 0) := rfl
set_option maxRecDepth 100000 in
theorem q242_864 : z_fi (z_mi 242) 864 = some (864, .iconst 2, 0, 0, 0, 2, 0) := rfl
set_option maxRecDepth 100000 in
theorem q242_865 : z_fi (z_mi 242) 865 = some (865, .iadd, 0, 0, 0, 0, 0) := rfl
set_option maxRecDepth 100000 in
theorem q242_866 : z_fi (z_mi 242) 866 = some (866, .iaload, 0, 0, 0, 0, 0) := rfl
set_option maxRecDepth 100000 in
theorem q242_867 : z_fi (z_mi 242) 867 = some (867, .invokevirtual 109, 0, 201, 2, 0, 0) := rfl
set_option maxRecDepth 100000 in
theorem q242_870 : z_fi (z_mi 242) 870 = some (870, .if_icmp .eq 666, 0, 1536, 0, 0, 0) := rfl
set_option maxRecDepth 100000 in
theorem q242_873 : z_fi (z_mi 242) 873 = some (873, .iconst 0, 0, 0, 0, 0, 0) := rfl
set_option maxRecDepth 100000 in
theorem q242_874 : z_fi (z_mi 242) 874 = some (874, .ireturn, 0, 0, 0, 0, 0) := rfl
set_option maxRecDepth 100000 in
theorem q242_875 : z_fi (z_mi 242) 875 = some (875, .aload_n 1, 0, 0, 0, 0, 0) := rfl
set_option maxRecDepth 100000 in
theorem q242_876 : z_fi (z_mi 242) 876 = some (876, .aload_n 0, 0, 0, 0, 0, 0) := rfl
set_option maxRecDepth 100000 in
theorem q242_877 : z_fi (z_mi 242) 877 = some (877, .iload_n 3, 0, 0, 0, 0, 0) := rfl
set_option maxRecDepth 100000 in
theorem q242_878 : z_fi (z_mi 242) 878 = some (878, .iconst 1, 0, 0, 0, 1, 0) := rfl
set_option maxRecDepth 100000 in
theorem q242_879 : z_fi (z_mi 242) 879 = some (879, .iadd, 0, 0, 0, 0, 0) := rfl
set_option maxRecDepth 100000 in
theorem q242_880 : z_fi (z_mi 242) 880 = some (880, .iaload, 0, 0, 0, 0, 0) := rfl
set_option maxRecDepth 100000 in
theorem q242_881 : z_fi (z_mi 242) 881 = some (881, .invokevirtual 110, 0, 124, 1, 0, 0) := rfl
set_option maxRecDepth 100000 in
theorem q242_884 : z_fi (z_mi 242) 884 = some (884, .aload_n 2, 0, 0, 0, 0, 0) := rfl
set_option maxRecDepth 100000 in
theorem q242_885 : z_fi (z_mi 242) 885 = some (885, .aload_n 0, 0, 0, 0, 0, 0) := rfl
set_option maxRecDepth 100000 in
theorem q242_886 : z_fi (z_mi 242) 886 = some (886, .iload_n 3, 0, 0, 0, 0, 0) := rfl
set_option maxRecDepth 100000 in
theorem q242_887 : z_fi (z_mi 242) 887 = some (887, .iconst 1, 0, 0, 0, 1, 0) := rfl
set_option maxRecDepth 100000 in
theorem q242_888 : z_fi (z_mi 242) 888 = some (888, .iadd, 0, 0, 0, 0, 0) := rfl
set_option maxRecDepth 100000 in
theorem q242_889 : z_fi (z_mi 242) 889 = some (889, .iaload, 0, 0, 0, 0, 0) := rfl
set_option maxRecDepth 100000 in
theorem q242_890 : z_fi (z_mi 242) 890 = some (890, .invokevirtual 113, 0, 202, 1, 0, 0) := rfl
set_option maxRecDepth 100000 in
theorem q242_893 : z_fi (z_mi 242) 893 = some (893, .if_icmp .eq 643, 0, 1536, 0, 0, 0) := rfl
set_option maxRecDepth 100000 in
theorem q242_896 : z_fi (z_mi 242) 896 = some (896, .iconst 0, 0, 0, 0, 0, 0) := rfl
set_option maxRecDepth 100000 in
theorem q242_897 : z_fi (z_mi 242) 897 = some (897, .ireturn, 0, 0, 0, 0, 0) := rfl
set_option maxRecDepth 100000 in
theorem q242_898 : z_fi (z_mi 242) 898 = some (898, .aload_n 1, 0, 0, 0, 0, 0) := rfl
set_option maxRecDepth 100000 in
theorem q242_899 : z_fi (z_mi 242) 899 = some (899, .invokevirtual 114, 0, 125, 0, 0, 0) := rfl
set_option maxRecDepth 100000 in
theorem q242_902 : z_fi (z_mi 242) 902 = some (902, .aload_n 2, 0, 0, 0, 0, 0) := rfl
set_option maxRecDepth 100000 in
theorem q242_903 : z_fi (z_mi 242) 903 = some (903, .invokevirtual 117, 0, 204, 0, 0, 0) := rfl
set_option maxRecDepth 100000 in
theorem q242_906 : z_fi (z_mi 242) 906 = some (906, .if_icmp .eq 630, 0, 1536, 0, 0, 0) := rfl
set_option maxRecDepth 100000 in
theorem q242_909 : z_fi (z_mi 242) 909 = some (909, .iconst 0, 0, 0, 0, 0, 0) := rfl
set_option maxRecDepth 100000 in
theorem q242_910 : z_fi (z_mi 242) 910 = some (910, .ireturn, 0, 0, 0, 0, 0) := rfl
set_option maxRecDepth 100000 in
theorem q242_911 : z_fi (z_mi 242) 911 = some (911, .aload_n 1, 0, 0, 0, 0, 0) := rfl
set_option maxRecDepth 100000 in
theorem q242_912 : z_fi (z_mi 242) 912 = some (912, .aload_n 0, 0, 0, 0, 0, 0) := rfl
set_option maxRecDepth 100000 in
theorem q242_913 : z_fi (z_mi 242) 913 = some (913, .iload_n 3, 0, 0, 0, 0, 0) := rfl
set_option maxRecDepth 100000 in
theorem q242_914 : z_fi (z_mi 242) 914 = some (914, .iconst 1, 0, 0, 0, 1, 0) := rfl
set_option maxRecDepth 100000 in
theorem q242_915 : z_fi (z_mi 242) 915 = some (915, .iadd, 0, 0, 0, 0, 0) := rfl
set_option maxRecDepth 100000 in
theorem q242_916 : z_fi (z_mi 242) 916 = some (916, .iaload, 0, 0, 0, 0, 0) := rfl
set_option maxRecDepth 100000 in
theorem q242_917 : z_fi (z_mi 242) 917 = some (917, .aload_n 0, 0, 0, 0, 0, 0) := rfl
set_option maxRecDepth 100000 in
theorem q242_918 : z_fi (z_mi 242) 918 = some (918, .iload_n 3, 0, 0, 0, 0, 0) := rfl
set_option maxRecDepth 100000 in
theorem q242_919 : z_fi (z_mi 242) 919 = some (919, .iconst 2, 0, 0, 0, 2, 0) := rfl
set_option maxRecDepth 100000 in
theorem q242_920 : z_fi (z_mi 242) 920 = some (920, .iadd, 0, 0, 0, 0, 0) := rfl
set_option maxRecDepth 100000 in
theorem q242_921 : z_fi (z_mi 242) 921 = some (921, .iaload, 0, 0, 0, 0, 0) := rfl
set_option maxRecDepth 100000 in
theorem q242_922 : z_fi (z_mi 242) 922 = some (922, .aload_n 0, 0, 0, 0, 0, 0) := rfl
set_option maxRecDepth 100000 in
theorem q242_923 : z_fi (z_mi 242) 923 = some (923, .iload_n 3, 0, 0, 0, 0, 0) := rfl
set_option maxRecDepth 100000 in
theorem q242_924 : z_fi (z_mi 242) 924 = some (924, .iconst 3, 0, 0, 0, 3, 0) := rfl
set_option maxRecDepth 100000 in
theorem q242_925 : z_fi (z_mi 242) 925 = some (925, .iadd, 0, 0, 0, 0, 0) := rfl
set_option maxRecDepth 100000 in
theorem q242_926 : z_fi (z_mi 242) 926 = some (926, .iaload, 0, 0, 0, 0, 0) := rfl
set_option maxRecDepth 100000 in
theorem q242_927 : z_fi (z_mi 242) 927 = some (927, .invokevirtual 118, 0, 128, 3, 0, 0) := rfl
set_option maxRecDepth 100000 in
theorem q242_930 : z_fi (z_mi 242) 930 = some (930, .aload_n 2, 0, 0, 0, 0, 0) := rfl
set_option maxRecDepth 100000 in
theorem q242_931 : z_fi (z_mi 242) 931 = some (931, .aload_n 0, 0, 0, 0, 0, 0) := rfl
set_option maxRecDepth 100000 in
theorem q242_932 : z_fi (z_mi 242) 932 = some (932, .iload_n 3, 0, 0, 0, 0, 0) := rfl
set_option maxRecDepth 100000 in
theorem q242_933 : z_fi (z_mi 242) 933 = some (933, .iconst 1, 0, 0, 0, 1, 0) := rfl
set_option maxRecDepth 100000 in
theorem q242_934 : z_fi (z_mi 242) 934 = some (934, .iadd, 0, 0, 0, 0, 0) := rfl
set_option maxRecDepth 100000 in
theorem q242_935 : z_fi (z_mi 242) 935 = some (935, .iaload, 0, 0, 0, 0, 0) := rfl
set_option maxRecDepth 100000 in
theorem q242_936 : z_fi (z_mi 242) 936 = some (936, .aload_n 0, 0, 0, 0, 0, 0) := rfl
set_option maxRecDepth 100000 in
theorem q242_937 : z_fi (z_mi 242) 937 = some (937, .iload_n 3, 0, 0, 0, 0, 0) := rfl
set_option maxRecDepth 100000 in
theorem q242_938 : z_fi (z_mi 242) 938 = some (938, .iconst 2, 0, 0, 0, 2, 0) := rfl
set_option maxRecDepth 100000 in
theorem q242_939 : z_fi (z_mi 242) 939 = some (939, .iadd, 0, 0, 0, 0, 0) := rfl
set_option maxRecDepth 100000 in
theorem q242_940 : z_fi (z_mi 242) 940 = some (940, .iaload, 0, 0, 0, 0, 0) := rfl
set_option maxRecDepth 100000 in
theorem q242_941 : z_fi (z_mi 242) 941 = some (941, .aload_n 0, 0, 0, 0, 0, 0) := rfl
set_option maxRecDepth 100000 in
theorem q242_942 : z_fi (z_mi 242) 942 = some (942, .iload_n 3, 0, 0, 0, 0, 0) := rfl
set_option maxRecDepth 100000 in
theorem q242_943 : z_fi (z_mi 242) 943 = some (943, .iconst 3, 0, 0, 0, 3, 0) := rfl
set_option maxRecDepth 100000 in
theorem q242_944 : z_fi (z_mi 242) 944 = some (944, .iadd, 0, 0, 0, 0, 0) := rfl
set_option maxRecDepth 100000 in
theorem q242_945 : z_fi (z_mi 242) 945 = some (945, .iaload, 0, 0, 0, 0, 0) := rfl
set_option maxRecDepth 100000 in
theorem q242_946 : z_fi (z_mi 242) 946 = some (946, .invokevirtual 121, 0, 209, 3, 0, 0) := rfl
set_option maxRecDepth 100000 in
theorem q242_949 : z_fi (z_mi 242) 949 = some (949, .if_icmp .eq 587, 0, 1536, 0, 0, 0) := rfl
set_option maxRecDepth 100000 in
theorem q242_952 : z_fi (z_mi 242) 952 = some (952, .iconst 0, 0, 0, 0, 0, 0) := rfl
set_option maxRecDepth 100000 in
theorem q242_953 : z_fi (z_mi 242) 953 = some (953, .ireturn, 0, 0, 0, 0, 0) := rfl
set_option maxRecDepth 100000 in
theorem q242_954 : z_fi (z_mi 242) 954 = some (954, .aload_n 1, 0, 0, 0, 0, 0) := rfl
set_option maxRecDepth 100000 in
theorem q242_955 : z_fi (z_mi 242) 955 = some (955, .aload_n 0, 0, 0, 0, 0, 0) := rfl
set_option maxRecDepth 100000 in
theorem q242_956 : z_fi (z_mi 242) 956 = some (956, .iload_n 3, 0, 0, 0, 0, 0) := rfl
set_option maxRecDepth 100000 in
theorem q242_957 : z_fi (z_mi 242) 957 = some (957, .iconst 1, 0, 0, 0, 1, 0) := rfl
set_option maxRecDepth 100000 in
theorem q242_958 : z_fi (z_mi 242) 958 = some (958, .iadd, 0, 0, 0, 0, 0) := rfl
set_option maxRecDepth 100000 in
theorem q242_959 : z_fi (z_mi 242) 959 = some (959, .iaload, 0, 0, 0, 0, 0) := rfl
set_option maxRecDepth 100000 in
theorem q242_960 : z_fi (z_mi 242) 960 = some (960, .aload_n 0, 0, 0, 0, 0, 0) := rfl
set_option maxRecDepth 100000 in
theorem q242_961 : z_fi (z_mi 242) 961 = some (961, .iload_n 3, 0, 0, 0, 0, 0) := rfl
set_option maxRecDepth 100000 in
theorem q242_962 : z_fi (z_mi 242) 962 = some (962, .iconst 2, 0, 0, 0, 2, 0) := rfl
set_option maxRecDepth 100000 in
theorem q242_963 : z_fi (z_mi 242) 963 = some (963, .iadd, 0, 0, 0, 0, 0) := rfl
set_option maxRecDepth 100000 in
theorem q242_964 : z_fi (z_mi 242) 964 = some (964, .iaload, 0, 0, 0, 0, 0) := rfl
set_option maxRecDepth 100000 in
theorem q242_965 : z_fi (z_mi 242) 965 = some (965, .invokevirtual 122, 0, 129, 2, 0, 0) := rfl
set_option maxRecDepth 100000 in
theorem q242_968 : z_fi (z_mi 242) 968 = some (968, .aload_n 2, 0, 0, 0, 0, 0) := rfl
set_option maxRecDepth 100000 in
theorem q242_969 : z_fi (z_mi 242) 969 = some (969, .aload_n 0, 0, 0, 0, 0, 0) := rfl
set_option maxRecDepth 100000 in
theorem q242_970 : z_fi (z_mi 242) 970 = some (970, .iload_n 3, 0, 0, 0, 0, 0) := rfl
set_option maxRecDepth 100000 in
theorem q242_971 : z_fi (z_mi 242) 971 = some (971, .iconst 1, 0, 0, 0, 1, 0) := rfl
set_option maxRecDepth 100000 in
theorem q242_972 : z_fi (z_mi 242) 972 = some (972, .iadd, 0, 0, 0, 0, 0) := rfl
set_option maxRecDepth 100000 in
theorem q242_973 : z_fi (z_mi 242) 973 = some (973, .iaload, 0, 0, 0, 0, 0) := rfl
set_option maxRecDepth 100000 in
theorem q242_974 : z_fi (z_mi 242) 974 = some (974, .aload_n 0, 0, 0, 0, 0, 0) := rfl
set_option maxRecDepth 100000 in
theorem q242_975 : z_fi (z_mi 242) 975 = some (975, .iload_n 3, 0, 0, 0, 0, 0) := rfl
set_option maxRecDepth 100000 in
theorem q242_976 : z_fi (z_mi 242) 976 = some (976, .iconst 2, 0, 0, 0, 2, 0) := rfl
set_option maxRecDepth 100000 in
theorem q242_977 : z_fi (z_mi 242) 977 = some (977, .iadd, 0, 0, 0, 0, 0) := rfl
set_option maxRecDepth 100000 in
theorem q242_978 : z_fi (z_mi 242) 978 = some (978, .iaload, 0, 0, 0, 0, 0) := rfl
set_option maxRecDepth 100000 in
theorem q242_979 : z_fi (z_mi 242) 979 = some (979, .invokevirtual 125, 0, 210, 2, 0, 0) := rfl
set_option maxRecDepth 100000 in
theorem q242_982 : z_fi (z_mi 242) 982 = some (982, .if_icmp .eq 554, 0, 1536, 0, 0, 0) := rfl
set_option maxRecDepth 100000 in
theorem q242_985 : z_fi (z_mi 242) 985 = some (985, .iconst 0, 0, 0, 0, 0, 0) := rfl
set_option maxRecDepth 100000 in
theorem q242_986 : z_fi (z_mi 242) 986 = some (986, .ireturn, 0, 0, 0, 0, 0) := rfl
set_option maxRecDepth 100000 in
theorem q242_987 : z_fi (z_mi 242) 987 = some (987, .aload_n 1, 0, 0, 0, 0, 0) := rfl
set_option maxRecDepth 100000 in
theorem q242_988 : z_fi (z_mi 242) 988 = some (988, .aload_n 0, 0, 0, 0, 0, 0) := rfl
set_option maxRecDepth 100000 in
theorem q242_989 : z_fi (z_mi 242) 989 = some (989, .iload_n 3, 0, 0, 0, 0, 0) := rfl
set_option maxRecDepth 100000 in
theorem q242_990 : z_fi (z_mi 242) 990 = some (990, .iconst 1, 0, 0, 0, 1, 0) := rfl
set_option maxRecDepth 100000 in
theorem q242_991 : z_fi (z_mi 242) 991 = some (991, .iadd, 0, 0, 0, 0, 0) := rfl
set_option maxRecDepth 100000 in
theorem q242_992 : z_fi (z_mi 242) 992 = some (992, .iaload, 0, 0, 0, 0, 0) := rfl
set_option maxRecDepth 100000 in
theorem q242_993 : z_fi (z_mi 242) 993 = some (993, .aload_n 0, 0, 0, 0, 0, 0) := rfl
set_option maxRecDepth 100000 in
theorem q242_994 : z_fi (z_mi 242) 994 = some (994, .iload_n 3, 0, 0, 0, 0, 0) := rfl
set_option maxRecDepth 100000 in
theorem q242_995 : z_fi (z_mi 242) 995 = some (995, .iconst 2, 0, 0, 0, 2, 0) := rfl
set_option maxRecDepth 100000 in
theorem q242_996 : z_fi (z_mi 242) 996 = some (996, .iadd, 0, 0, 0, 0, 0) := rfl
set_option maxRecDepth 100000 in
theorem q242_997 : z_fi (z_mi 242) 997 = some (997, .iaload, 0, 0, 0, 0, 0) := rfl
set_option maxRecDepth 100000 in
theorem q242_998 : z_fi (z_mi 242) 998 = some (998, .invokevirtual 126, 0, 130, 2, 0, 0) := rfl
set_option maxRecDepth 100000 in
theorem q242_1001 : z_fi (z_mi 242) 1001 = some (1001, .aload_n 2, 0, 0, 0, 0, 0) := rfl
set_option maxRecDepth 100000 in
theorem q242_1002 : z_fi (z_mi 242) 1002 = some (1002, .aload_n 0, 0, 0, 0, 0, 0) := rfl
set_option maxRecDepth 100000 in
theorem q242_1003 : z_fi (z_mi 242) 1003 = some (1003, .iload_n 3, 0, 0, 0, 0, 0) := rfl
set_option maxRecDepth 100000 in
theorem q242_1004 : z_fi (z_mi 242) 1004 = some (1004, .iconst 1, 0, 0, 0, 1, 0) := rfl
set_option maxRecDepth 100000 in
theorem q242_1005 : z_fi (z_mi 242) 1005 = some (1005, .iadd, 0, 0, 0, 0, 0) := rfl
set_option maxRecDepth 100000 in
theorem q242_1006 : z_fi (z_mi 242) 1006 = some (1006, .iaload, 0, 0, 0, 0, 0) := rfl
set_option maxRecDepth 100000 in
theorem q242_1007 : z_fi (z_mi 242) 1007 = some (1007, .aload_n 0, 0, 0, 0, 0, 0) := rfl
set_option maxRecDepth 100000 in
theorem q242_1008 : z_fi (z_mi 242) 1008 = some (1008, .iload_n 3, 0, 0, 0, 0, 0) := rfl
set_option maxRecDepth 100000 in
theorem q242_1009 : z_fi (z_mi 242) 1009 = some (1009, .iconst 2, 0, 0, 0, 2, 0) := rfl
set_option maxRecDepth 100000 in
theorem q242_1010 : z_fi (z_mi 242) 1010 = some (1010, .iadd, 0, 0, 0, 0, 0) := rfl
set_option maxRecDepth 100000 in
theorem q242_1011 : z_fi (z_mi 242) 1011 = some (1011, .iaload, 0, 0, 0, 0, 0) := rfl
set_option maxRecDepth 100000 in
theorem q242_1012 : z_fi (z_mi 242) 1012 = some (1012, .invokevirtual 129, 0, 211, 2, 0, 0) := rfl
set_option maxRecDepth 100000 in
theorem q242_1015 : z_fi (z_mi 242) 1015 = some (1015, .if_icmp .eq 521, 0, 1536, 0, 0, 0) := rfl
set_option maxRecDepth 100000 in
theorem q242_1018 : z_fi (z_mi 242) 1018 = some (1018, .iconst 0, 0, 0, 0, 0, 0) := rfl
set_option maxRecDepth 100000 in
theorem q242_1019 : z_fi (z_mi 242) 1019 = some (1019, .ireturn, 0, 0, 0, 0, 0) := rfl
set_option maxRecDepth 100000 in
theorem q242_1020 : z_fi (z_mi 242) 1020 = some (1020, .aload_n 1, 0, 0, 0, 0, 0) := rfl
set_option maxRecDepth 100000 in
theorem q242_1021 : z_fi (z_mi 242) 1021 = some (1021, .aload_n 0, 0, 0, 0, 0, 0) := rfl
set_option maxRecDepth 100000 in
theorem q242_1022 : z_fi (z_mi 242) 1022 = some (1022, .iload_n 3, 0, 0, 0, 0, 0) := rfl
set_option maxRecDepth 100000 in
theorem q242_1023 : z_fi (z_mi 242) 1023 = some (1023, .iconst 1, 0, 0, 0, 1, 0) := rfl
set_option maxRecDepth 100000 in
theorem q242_1024 : z_fi (z_mi 242) 1024 = some (1024, .iadd, 0, 0, 0, 0, 0) := rfl
set_option maxRecDepth 100000 in
theorem q242_1025 : z_fi (z_mi 242) 1025 = some (1025, .iaload, 0, 0, 0, 0, 0) := rfl
set_option maxRecDepth 100000 in
theorem q242_1026 : z_fi (z_mi 242) 1026 = some (1026, .aload_n 0, 0, 0, 0, 0, 0) := rfl
set_option maxRecDepth 100000 in
theorem q242_1027 : z_fi (z_mi 242) 1027 = some (1027, .iload_n 3, 0, 0, 0, 0, 0) := rfl
set_option maxRecDepth 100000 in
theorem q242_1028 : z_fi (z_mi 242) 1028 = some (1028, .iconst 2, 0, 0, 0, 2, 0) := rfl
set_option maxRecDepth 100000 in
theorem q242_1029 : z_fi (z_mi 242) 1029 = some (1029, .iadd, 0, 0, 0, 0, 0) := rfl
set_option maxRecDepth 100000 in
theorem q242_1030 : z_fi (z_mi 242) 1030 = some (1030, .iaload, 0, 0, 0, 0, 0) := rfl
set_option maxRecDepth 100000 in
theorem q242_1031 : z_fi (z_mi 242) 1031 = some (1031, .invokevirtual 130, 0, 131, 2, 0, 0) := rfl
set_option maxRecDepth 100000 in
theorem q242_1034 : z_fi (z_mi 242) 1034 = some (1034, .aload_n 2, 0, 0, 0, 0, 0) := rfl
set_option maxRecDepth 100000 in
theorem q242_1035 : z_fi (z_mi 242) 1035 = some (1035, .aload_n 0, 0, 0, 0, 0, 0) := rfl
set_option maxRecDepth 100000 in
theorem q242_1036 : z_fi (z_mi 242) 1036 = some (1036, .iload_n 3, 0, 0, 0, 0, 0) := rfl
set_option maxRecDepth 100000 in
theorem q242_1037 : z_fi (z_mi 242) 1037 = some (1037, .iconst 1, 0, 0, 0, 1, 0) := rfl
set_option maxRecDepth 100000 in
theorem q242_1038 : z_fi (z_mi 242) 1038 = some (1038, .iadd, 0, 0, 0, 0, 0) := rfl
set_option maxRecDepth 100000 in
theorem q242_1039 : z_fi (z_mi 242) 1039 = some (1039, .iaload, 0, 0, 0, 0, 0) := rfl
set_option maxRecDepth 100000 in
theorem q242_1040 : z_fi (z_mi 242) 1040 = some (1040, .aload_n 0, 0, 0, 0, 0, 0) := rfl
set_option maxRecDepth 100000 in
theorem q242_1041 : z_fi (z_mi 242) 1041 = some (1041, .iload_n 3, 0, 0, 0, 0, 0) := rfl
set_option maxRecDepth 100000 in
theorem q242_1042 : z_fi (z_mi 242) 1042 = some (1042, .iconst 2, 0, 0, 0, 2, 0) := rfl
set_option maxRecDepth 100000 in
theorem q242_1043 : z_fi (z_mi 242) 1043 = some (1043, .iadd, 0, 0, 0, 0, 0) := rfl
set_option maxRecDepth 100000 in
theorem q242_1044 : z_fi (z_mi 242) 1044 = some (1044, .iaload, 0, 0, 0, 0, 0) := rfl
set_option maxRecDepth 100000 in
theorem q242_1045 : z_fi (z_mi 242) 1045 = some (1045, .invokevirtual 133, 0, 212, 2, 0, 0) := rfl
set_option maxRecDepth 100000 in
theorem q242_1048 : z_fi (z_mi 242) 1048 = some (1048, .if_icmp .eq 488, 0, 1536, 0, 0, 0) := rfl
set_option maxRecDepth 100000 in
theorem q242_1051 : z_fi (z_mi 242) 1051 = some (1051, .iconst 0, 0, 0, 0, 0, 0) := rfl
set_option maxRecDepth 100000 in
theorem q242_1052 : z_fi (z_mi 242) 1052 = some (1052, .ireturn, 0, 0, 0, 0, 0) := rfl
set_option maxRecDepth 100000 in
theorem q242_1053 : z_fi (z_mi 242) 1053 = some (1053, .aload_n 1, 0, 0, 0, 0, 0) := rfl
set_option maxRecDepth 100000 in
theorem q242_1054 : z_fi (z_mi 242) 1054 = some (1054, .aload_n 0, 0, 0, 0, 0, 0) := rfl
set_option maxRecDepth 100000 in
theorem q242_1055 : z_fi (z_mi 242) 1055 = some (1055, .iload_n 3, 0, 0, 0, 0, 0) := rfl
set_option maxRecDepth 100000 in
theorem q242_1056 : z_fi (z_mi 242) 1056 = some (1056, .iconst 1, 0, 0, 0, 1, 0) := rfl
set_option maxRecDepth 100000 in
theorem q242_1057 : z_fi (z_mi 242) 1057 = some (1057, .iadd, 0, 0, 0, 0, 0) := rfl
set_option maxRecDepth 100000 in
theorem q242_1058 : z_fi (z_mi 242) 1058 = some (1058, .iaload, 0, 0, 0, 0, 0) := rfl
set_option maxRecDepth 100000 in
theorem q242_1059 : z_fi (z_mi 242) 1059 = some (1059, .aload_n 0, 0, 0, 0, 0, 0) := rfl
set_option maxRecDepth 100000 in
theorem q242_1060 : z_fi (z_mi 242) 1060 = some (1060, .iload_n 3, 0, 0, 0, 0, 0) := rfl
set_option maxRecDepth 100000 in
theorem q242_1061 : z_fi (z_mi 242) 1061 = some (1061, .iconst 2, 0, 0, 0, 2, 0) := rfl
set_option maxRecDepth 100000 in
theorem q242_1062 : z_fi (z_mi 242) 1062 = some (1062, .iadd, 0, 0, 0, 0, 0) := rfl
set_option maxRecDepth 100000 in
theorem q242_1063 : z_fi (z_mi 242) 1063 = some (1063, .iaload, 0, 0, 0, 0, 0) := rfl
set_option maxRecDepth 100000 in
theorem q242_1064 : z_fi (z_mi 242) 1064 = some (1064, .aload_n 0, 0, 0, 0, 0, 0) := rfl
set_option maxRecDepth 100000 in
theorem q242_1065 : z_fi (z_mi 242) 1065 = some (1065, .iload_n 3, 0, 0, 0, 0, 0) := rfl
set_option maxRecDepth 100000 in
theorem q242_1066 : z_fi (z_mi 242) 1066 = some (1066, .iconst 3, 0, 0, 0, 3, 0) := rfl
set_option maxRecDepth 100000 in
theorem q242_1067 : z_fi (z_mi 242) 1067 = some (1067, .iadd, 0, 0, 0, 0, 0) := rfl
set_option maxRecDepth 100000 in
theorem q242_1068 : z_fi (z_mi 242) 1068 = some (1068, .iaload, 0, 0, 0, 0, 0) := rfl
set_option maxRecDepth 100000 in
theorem q242_1069 : z_fi (z_mi 242) 1069 = some (1069, .aload_n 0, 0, 0, 0, 0, 0) := rfl
set_option maxRecDepth 100000 in
theorem q242_1070 : z_fi (z_mi 242) 1070 = some (1070, .iload_n 3, 0, 0, 0, 0, 0) := rfl
set_option maxRecDepth 100000 in
theorem q242_1071 : z_fi (z_mi 242) 1071 = some (1071, .iconst 4, 0, 0, 0, 4, 0) := rfl
set_option maxRecDepth 100000 in
theorem q242_1072 : z_fi (z_mi 242) 1072 = some (1072, .iadd, 0, 0, 0, 0, 0) := rfl
set_option maxRecDepth 100000 in
theorem q242_1073 : z_fi (z_mi 242) 1073 = some (1073, .iaload, 0, 0, 0, 0, 0) := rfl
set_option maxRecDepth 100000 in
theorem q242_1074 : z_fi (z_mi 242) 1074 = some (1074, .invokevirtual 134, 0, 132, 4, 0, 0) := rfl
set_option maxRecDepth 100000 in
theorem q242_1077 : z_fi (z_mi 242) 1077 = some (1077, .aload_n 2, 0, 0, 0, 0, 0) := rfl
set_option maxRecDepth 100000 in
theorem q242_1078 : z_fi (z_mi 242) 1078 = some (1078, .aload_n 0, 0, 0, 0, 0, 0) := rfl
set_option maxRecDepth 100000 in
theorem q242_1079 : z_fi (z_mi 242) 1079 = some (1079, .iload_n 3, 0, 0, 0, 0, 0) := rfl
set_option maxRecDepth 100000 in
theorem q242_1080 : z_fi (z_mi 242) 1080 = some (1080, .iconst 1, 0, 0, 0, 1, 0) := rfl
set_option maxRecDepth 100000 in
theorem q242_1081 : z_fi (z_mi 242) 1081 = some (1081, .iadd, 0, 0, 0, 0, 0) := rfl
set_option maxRecDepth 100000 in
theorem q242_1082 : z_fi (z_mi 242) 1082 = some (1082, .iaload, 0, 0, 0, 0, 0) := rfl
set_option maxRecDepth 100000 in
theorem q242_1083 : z_fi (z_mi 242) 1083 = some (1083, .aload_n 0, 0, 0, 0, 0, 0) := rfl
set_option maxRecDepth 100000 in
theorem q242_1084 : z_fi (z_mi 242) 1084 = some (1084, .iload_n 3, 0, 0, 0, 0, 0) := rfl
set_option maxRecDepth 100000 in
theorem q242_1085 : z_fi (z_mi 242) 1085 = some (1085, .iconst 2, 0, 0, 0, 2, 0) := rfl
set_option maxRecDepth 100000 in
theorem q242_1086 : z_fi (z_mi 242) 1086 = some (1086, .iadd, 0, 0, 0, 0, 0) := rfl
set_option maxRecDepth 100000 in
theorem q242_1087 : z_fi (z_mi 242) 1087 = some (1087, .iaload, 0, 0, 0, 0, 0) := rfl
set_option maxRecDepth 100000 in
theorem q242_1088 : z_fi (z_mi 242) 1088 = some (1088, .aload_n 0, 0, 0, 0, 0, 0) := rfl
set_option maxRecDepth 100000 in
theorem q242_1089 : z_fi (z_mi 242) 1089 = some (1089, .iload_n 3, 0, 0, 0, 0, 0) := rfl
set_option maxRecDepth 100000 in
theorem q242_1090 : z_fi (z_mi 242) 1090 = some (1090, .iconst 3, 0, 0, 0, 3, 0) := rfl
set_option maxRecDepth 100000 in
theorem q242_1091 : z_fi (z_mi 242) 1091 = some (1091, .iadd, 0, 0, 0, 0, 0) := rfl
set_option maxRecDepth 100000 in
theorem q242_1092 : z_fi (z_mi 242) 1092 = some (1092, .iaload, 0, 0, 0, 0, 0) := rfl
set_option maxRecDepth 100000 in
theorem q242_1093 : z_fi (z_mi 242) 1093 = some (1093, .aload_n 0, 0, 0, 0, 0, 0) := rfl
set_option maxRecDepth 100000 in
theorem q242_1094 : z_fi (z_mi 242) 1094 = some (1094, .iload_n 3, 0, 0, 0, 0, 0) := rfl
set_option maxRecDepth 100000 in
theorem q242_1095 : z_fi (z_mi 242) 1095 = some (1095, .iconst 4, 0, 0, 0, 4, 0) := rfl
set_option maxRecDepth 100000 in
theorem q242_1096 : z_fi (z_mi 242) 1096 = some (1096, .iadd, 0, 0, 0, 0, 0) := rfl
set_option maxRecDepth 100000 in
theorem q242_1097 : z_fi (z_mi 242) 1097 = some (1097, .iaload, 0, 0, 0, 0, 0) := rfl
set_option maxRecDepth 100000 in
theorem q242_1098 : z_fi (z_mi 242) 1098 = some (1098, .invokevirtual 138, 0, 215, 4, 0, 0) := rfl
set_option maxRecDepth 100000 in
theorem q242_1101 : z_fi (z_mi 242) 1101 = some (1101, .lcmp, 0, 0, 0, 0, 0) := rfl
set_option maxRecDepth 100000 in
theorem q242_1102 : z_fi (z_mi 242) 1102 = some (1102, .ifCond .eq 434, 0, 1536, 0, 0, 0) := rfl
set_option maxRecDepth 100000 in
theorem q242_1105 : z_fi (z_mi 242) 1105 = some (1105, .iconst 0, 0, 0, 0, 0, 0) := rfl
set_option maxRecDepth 100000 in
theorem q242_1106 : z_fi (z_mi 242) 1106 = some (1106, .ireturn, 0, 0, 0, 0, 0) := rfl
set_option maxRecDepth 100000 in
theorem q242_1107 : z_fi (z_mi 242) 1107 = some (1107, .aload_n 1, 0, 0, 0, 0, 0) := rfl
set_option maxRecDepth 100000 in
theorem q242_1108 : z_fi (z_mi 242) 1108 = some (1108, .aload_n 0, 0, 0, 0, 0, 0) := rfl
set_option maxRecDepth 100000 in
theorem q242_1109 : z_fi (z_mi 242) 1109 = some (1109, .iload_n 3, 0, 0, 0, 0, 0) := rfl
set_option maxRecDepth 100000 in
theorem q242_1110 : z_fi (z_mi 242) 1110 = some (1110, .iconst 1, 0, 0, 0, 1, 0) := rfl
set_option maxRecDepth 100000 in
theorem q242_1111 : z_fi (z_mi 242) 1111 = some (1111, .iadd, 0, 0, 0, 0, 0) := rfl
set_option maxRecDepth 100000 in
theorem q242_1112 : z_fi (z_mi 242) 1112 = some (1112, .iaload, 0, 0, 0, 0, 0) := rfl
set_option maxRecDepth 100000 in
theorem q242_1113 : z_fi (z_mi 242) 1113 = some (1113, .aload_n 0, 0, 0, 0, 0, 0) := rfl
set_option maxRecDepth 100000 in
theorem q242_1114 : z_fi (z_mi 242) 1114 = some (1114, .iload_n 3, 0, 0, 0, 0, 0) := rfl
set_option maxRecDepth 100000 in
theorem q242_1115 : z_fi (z_mi 242) 1115 = some (1115, .iconst 2, 0, 0, 0, 2, 0) := rfl
set_option maxRecDepth 100000 in
theorem q242_1116 : z_fi (z_mi 242) 1116 = some (1116, .iadd, 0, 0, 0, 0, 0) := rfl
set_option maxRecDepth 100000 in
theorem q242_1117 : z_fi (z_mi 242) 1117 = some (1117, .iaload, 0, 0, 0, 0, 0) := rfl
set_option maxRecDepth 100000 in
theorem q242_1118 : z_fi (z_mi 242) 1118 = some (1118, .invokevirtual 139, 0, 133, 2, 0, 0) := rfl
set_option maxRecDepth 100000 in
theorem q242_1121 : z_fi (z_mi 242) 1121 = some (1121, .aload_n 2, 0, 0, 0, 0, 0) := rfl
set_option maxRecDepth 100000 in
theorem q242_1122 : z_fi (z_mi 242) 1122 = some (1122, .aload_n 0, 0, 0, 0, 0, 0) := rfl
set_option maxRecDepth 100000 in
theorem q242_1123 : z_fi (z_mi 242) 1123 = some (1123, .iload_n 3, 0, 0, 0, 0, 0) := rfl
set_option maxRecDepth 100000 in
theorem q242_1124 : z_fi (z_mi 242) 1124 = some (1124, .iconst 1, 0, 0, 0, 1, 0) := rfl
set_option maxRecDepth 100000 in
theorem q242_1125 : z_fi (z_mi 242) 1125 = some (1125, .iadd, 0, 0, 0, 0, 0) := rfl
set_option maxRecDepth 100000 in
theorem q242_1126 : z_fi (z_mi 242) 1126 = some (1126, .iaload, 0, 0, 0, 0, 0) := rfl
set_option maxRecDepth 100000 in
theorem q242_1127 : z_fi (z_mi 242) 1127 = some (1127, .aload_n 0, 0, 0, 0, 0, 0) := rfl
set_option maxRecDepth 100000 in
theorem q242_1128 : z_fi (z_mi 242) 1128 = some (1128, .iload_n 3, 0, 0, 0, 0, 0) := rfl
set_option maxRecDepth 100000 in
theorem q242_1129 : z_fi (z_mi 242) 1129 = some (1129, .iconst 2, 0, 0, 0, 2, 0) := rfl
set_option maxRecDepth 100000 in
theorem q242_1130 : z_fi (z_mi 242) 1130 = some (1130, .iadd, 0, 0, 0, 0, 0) := rfl
set_option maxRecDepth 100000 in
theorem q242_1131 : z_fi (z_mi 242) 1131 = some (1131, .iaload, 0, 0, 0, 0, 0) := rfl
set_option maxRecDepth 100000 in
theorem q242_1132 : z_fi (z_mi 242) 1132 = some (1132, .invokevirtual 142, 0, 216, 2, 0, 0) := rfl
set_option maxRecDepth 100000 in
theorem q242_1135 : z_fi (z_mi 242) 1135 = some (1135, .if_icmp .eq 401, 0, 1536, 0, 0, 0) := rfl
set_option maxRecDepth 100000 in
theorem q242_1138 : z_fi (z_mi 242) 1138 = some (1138, .iconst 0, 0, 0, 0, 0, 0) := rfl
set_option maxRecDepth 100000 in
theorem q242_1139 : z_fi (z_mi 242) 1139 = some (1139, .ireturn, 0, 0, 0, 0, 0) := rfl
set_option maxRecDepth 100000 in
theorem q242_1140 : z_fi (z_mi 242) 1140 = some (1140, .aload_n 1, 0, 0, 0, 0, 0) := rfl
set_option maxRecDepth 100000 in
theorem q242_1141 : z_fi (z_mi 242) 1141 = some (1141, .aload_n 0, 0, 0, 0, 0, 0) := rfl
set_option maxRecDepth 100000 in
theorem q242_1142 : z_fi (z_mi 242) 1142 = some (1142, .iload_n 3, 0, 0, 0, 0, 0) := rfl
set_option maxRecDepth 100000 in
theorem q242_1143 : z_fi (z_mi 242) 1143 = some (1143, .iconst 1, 0, 0, 0, 1, 0) := rfl
set_option maxRecDepth 100000 in
theorem q242_1144 : z_fi (z_mi 242) 1144 = some (1144, .iadd, 0, 0, 0, 0, 0) := rfl
set_option maxRecDepth 100000 in
theorem q242_1145 : z_fi (z_mi 242) 1145 = some (1145, .iaload, 0, 0, 0, 0, 0) := rfl
set_option maxRecDepth 100000 in
theorem q242_1146 : z_fi (z_mi 242) 1146 = some (1146, .invokevirtual 143, 0, 134, 1, 0, 0) := rfl
set_option maxRecDepth 100000 in
theorem q242_1149 : z_fi (z_mi 242) 1149 = some (1149, .aload_n 2, 0, 0, 0, 0, 0) := rfl
set_option maxRecDepth 100000 in
theorem q242_1150 : z_fi (z_mi 242) 1150 = some (1150, .aload_n 0, 0, 0, 0, 0, 0) := rfl
set_option maxRecDepth 100000 in
theorem q242_1151 : z_fi (z_mi 242) 1151 = some (1151, .iload_n 3, 0, 0, 0, 0, 0) := rfl
set_option maxRecDepth 100000 in
theorem q242_1152 : z_fi (z_mi 242) 1152 = some (1152, .iconst 1, 0, 0, 0, 1, 0) := rfl
set_option maxRecDepth 100000 in
theorem q242_1153 : z_fi (z_mi 242) 1153 = some (1153, .iadd, 0, 0, 0, 0, 0) := rfl
set_option maxRecDepth 100000 in
theorem q242_1154 : z_fi (z_mi 242) 1154 = some (1154, .iaload, 0, 0, 0, 0, 0) := rfl
set_option maxRecDepth 100000 in
theorem q242_1155 : z_fi (z_mi 242) 1155 = some (1155, .invokevirtual 146, 0, 217, 1, 0, 0) := rfl
set_option maxRecDepth 100000 in
theorem q242_1158 : z_fi (z_mi 242) 1158 = some (1158, .if_icmp .eq 378, 0, 1536, 0, 0, 0) := rfl
set_option maxRecDepth 100000 in
theorem q242_1161 : z_fi (z_mi 242) 1161 = some (1161, .iconst 0, 0, 0, 0, 0, 0) := rfl
set_option maxRecDepth 100000 in
theorem q242_1162 : z_fi (z_mi 242) 1162 = some (1162, .ireturn, 0, 0, 0, 0, 0) := rfl
set_option maxRecDepth 100000 in
theorem q242_1163 : z_fi (z_mi 242) 1163 = some (1163, .aload_n 1, 0, 0, 0, 0, 0) := rfl
set_option maxRecDepth 100000 in
theorem q242_1164 : z_fi (z_mi 242) 1164 = some (1164, .aload_n 0, 0, 0, 0, 0, 0) := rfl
set_option maxRecDepth 100000 in
theorem q242_1165 : z_fi (z_mi 242) 1165 = some (1165, .iload_n 3, 0, 0, 0, 0, 0) := rfl
set_option maxRecDepth 100000 in
theorem q242_1166 : z_fi (z_mi 242) 1166 = some (1166, .iconst 1, 0, 0, 0, 1, 0) := rfl
set_option maxRecDepth 100000 in
theorem q242_1167 : z_fi (z_mi 242) 1167 = some (1167, .iadd, 0, 0, 0, 0, 0) := rfl
set_option maxRecDepth 100000 in
theorem q242_1168 : z_fi (z_mi 242) 1168 = some (1168, .iaload, 0, 0, 0, 0, 0) := rfl
set_option maxRecDepth 100000 in
theorem q242_1169 : z_fi (z_mi 242) 1169 = some (1169, .aload_n 0, 0, 0, 0, 0, 0) := rfl
set_option maxRecDepth 100000 in
theorem q242_1170 : z_fi (z_mi 242) 1170 = some (1170, .iload_n 3, 0, 0, 0, 0, 0) := rfl
set_option maxRecDepth 100000 in
theorem q242_1171 : z_fi (z_mi 242) 1171 = some (1171, .iconst 2, 0, 0, 0, 2, 0) := rfl
set_option maxRecDepth 100000 in
theorem q242_1172 : z_fi (z_mi 242) 1172 = some (1172, .iadd, 0, 0, 0, 0, 0) := rfl
set_option maxRecDepth 100000 in
theorem q242_1173 : z_fi (z_mi 242) 1173 = some (1173, .iaload, 0, 0, 0, 0, 0) := rfl
set_option maxRecDepth 100000 in
theorem q242_1174 : z_fi (z_mi 242) 1174 = some (1174, .aload_n 0, 0, 0, 0, 0, 0) := rfl
set_option maxRecDepth 100000 in
theorem q242_1175 : z_fi (z_mi 242) 1175 = some (1175, .iload_n 3, 0, 0, 0, 0, 0) := rfl
set_option maxRecDepth 100000 in
theorem q242_1176 : z_fi (z_mi 242) 1176 = some (1176, .iconst 3, 0, 0, 0, 3, 0) := rfl
set_option maxRecDepth 100000 in
theorem q242_1177 : z_fi (z_mi 242) 1177 = some (1177, .iadd, 0, 0, 0, 0, 0) := rfl
set_option maxRecDepth 100000 in
theorem q242_1178 : z_fi (z_mi 242) 1178 = some (1178, .iaload, 0, 0, 0, 0, 0) := rfl
set_option maxRecDepth 100000 in
theorem q242_1179 : z_fi (z_mi 242) 1179 = some (1179, .invokevirtual 147, 0, 135, 3, 0, 0) := rfl
set_option maxRecDepth 100000 in
theorem q242_1182 : z_fi (z_mi 242) 1182 = some (1182, .aload_n 2, 0, 0, 0, 0, 0) := rfl
set_option maxRecDepth 100000 in
theorem q242_1183 : z_fi (z_mi 242) 1183 = some (1183, .aload_n 0, 0, 0, 0, 0, 0) := rfl
set_option maxRecDepth 100000 in
theorem q242_1184 : z_fi (z_mi 242) 1184 = some (1184, .iload_n 3, 0, 0, 0, 0, 0) := rfl
set_option maxRecDepth 100000 in
theorem q242_1185 : z_fi (z_mi 242) 1185 = some (1185, .iconst 1, 0, 0, 0, 1, 0) := rfl
set_option maxRecDepth 100000 in
theorem q242_1186 : z_fi (z_mi 242) 1186 = some (1186, .iadd, 0, 0, 0, 0, 0) := rfl
set_option maxRecDepth 100000 in
theorem q242_1187 : z_fi (z_mi 242) 1187 = some (1187, .iaload, 0, 0, 0, 0, 0) := rfl
set_option maxRecDepth 100000 in
theorem q242_1188 : z_fi (z_mi 242) 1188 = some (1188, .aload_n 0, 0, 0, 0, 0, 0) := rfl
set_option maxRecDepth 100000 in
theorem q242_1189 : z_fi (z_mi 242) 1189 = some (1189, .iload_n 3, 0, 0, 0, 0, 0) := rfl
set_option maxRecDepth 100000 in
theorem q242_1190 : z_fi (z_mi 242) 1190 = some (1190, .iconst 2, 0, 0, 0, 2, 0) := rfl
set_option maxRecDepth 100000 in
theorem q242_1191 : z_fi (z_mi 242) 1191 = some (1191, .iadd, 0, 0, 0, 0, 0) := rfl
set_option maxRecDepth 100000 in
theorem q242_1192 : z_fi (z_mi 242) 1192 = some (1192, .iaload, 0, 0, 0, 0, 0) := rfl
set_option maxRecDepth 100000 in
theorem q242_1193 : z_fi (z_mi 242) 1193 = some (1193, .aload_n 0, 0, 0, 0, 0, 0) := rfl
set_option maxRecDepth 100000 in
theorem q242_1194 : z_fi (z_mi 242) 1194 = some (1194, .iload_n 3, 0, 0, 0, 0, 0) := rfl
set_option maxRecDepth 100000 in
theorem q242_1195 : z_fi (z_mi 242) 1195 = some (1195, .iconst 3, 0, 0, 0, 3, 0) := rfl
set_option maxRecDepth 100000 in
theorem q242_1196 : z_fi (z_mi 242) 1196 = some (1196, .iadd, 0, 0, 0, 0, 0) := rfl
set_option maxRecDepth 100000 in
theorem q242_1197 : z_fi (z_mi 242) 1197 = some (1197, .iaload, 0, 0, 0, 0, 0) := rfl
set_option maxRecDepth 100000 in
theorem q242_1198 : z_fi (z_mi 242) 1198 = some (1198, .invokevirtual 150, 0, 220, 3, 0, 0) := rfl
set_option maxRecDepth 100000 in
theorem q242_1201 : z_fi (z_mi 242) 1201 = some (1201, .if_icmp .eq 335, 0, 1536, 0, 0, 0) := rfl
set_option maxRecDepth 100000 in
theorem q242_1204 : z_fi (z_mi 242) 1204 = some (1204, .iconst 0, 0, 0, 0, 0, 0) := rfl
set_option maxRecDepth 100000 in
theorem q242_1205 : z_fi (z_mi 242) 1205 = some (1205, .ireturn, 0, 0, 0, 0, 0) := rfl
set_option maxRecDepth 100000 in
theorem q242_1206 : z_fi (z_mi 242) 1206 = some (1206, .aload_n 1, 0, 0, 0, 0, 0) := rfl
set_option maxRecDepth 100000 in
theorem q242_1207 : z_fi (z_mi 242) 1207 = some (1207, .aload_n 0, 0, 0, 0, 0, 0) := rfl
set_option maxRecDepth 100000 in
theorem q242_1208 : z_fi (z_mi 242) 1208 = some (1208, .iload_n 3, 0, 0, 0, 0, 0) := rfl
set_option maxRecDepth 100000 in
theorem q242_1209 : z_fi (z_mi 242) 1209 = some (1209, .iconst 1, 0, 0, 0, 1, 0) := rfl
set_option maxRecDepth 100000 in
theorem q242_1210 : z_fi (z_mi 242) 1210 = some (1210, .iadd, 0, 0, 0, 0, 0) := rfl
set_option maxRecDepth 100000 in
theorem q242_1211 : z_fi (z_mi 242) 1211 = some (1211, .iaload, 0, 0, 0, 0, 0) := rfl
set_option maxRecDepth 100000 in
theorem q242_1212 : z_fi (z_mi 242) 1212 = some (1212, .aload_n 0, 0, 0, 0, 0, 0) := rfl
set_option maxRecDepth 100000 in
theorem q242_1213 : z_fi (z_mi 242) 1213 = some (1213, .iload_n 3, 0, 0, 0, 0, 0) := rfl
set_option maxRecDepth 100000 in
theorem q242_1214 : z_fi (z_mi 242) 1214 = some (1214, .iconst 2, 0, 0, 0, 2, 0) := rfl
set_option maxRecDepth 100000 in
theorem q242_1215 : z_fi (z_mi 242) 1215 = some (1215, .iadd, 0, 0, 0, 0, 0) := rfl
set_option maxRecDepth 100000 in
theorem q242_1216 : z_fi (z_mi 242) 1216 = some (1216, .iaload, 0, 0, 0, 0, 0) := rfl
set_option maxRecDepth 100000 in
theorem q242_1217 : z_fi (z_mi 242) 1217 = some (1217, .aload_n 0, 0, 0, 0, 0, 0) := rfl
set_option maxRecDepth 100000 in
theorem q242_1218 : z_fi (z_mi 242) 1218 = some (1218, .iload_n 3, 0, 0, 0, 0, 0) := rfl
set_option maxRecDepth 100000 in
theorem q242_1219 : z_fi (z_mi 242) 1219 = some (1219, .iconst 3, 0, 0, 0, 3, 0) := rfl
set_option maxRecDepth 100000 in
theorem q242_1220 : z_fi (z_mi 242) 1220 = some (1220, .iadd, 0, 0, 0, 0, 0) := rfl
set_option maxRecDepth 100000 in
theorem q242_1221 : z_fi (z_mi 242) 1221 = some (1221, .iaload, 0, 0, 0, 0, 0) := rfl
set_option maxRecDepth 100000 in
theorem q242_1222 : z_fi (z_mi 242) 1222 = some (1222, .invokevirtual 151, 0, 136, 3, 0, 0) := rfl
set_option maxRecDepth 100000 in
theorem q242_1225 : z_fi (z_mi 242) 1225 = some (1225, .aload_n 2, 0, 0, 0, 0, 0) := rfl
set_option maxRecDepth 100000 in
theorem q242_1226 : z_fi (z_mi 242) 1226 = some (1226, .aload_n 0, 0, 0, 0, 0, 0) := rfl
set_option maxRecDepth 100000 in
theorem q242_1227 : z_fi (z_mi 242) 1227 = some (1227, .iload_n 3, 0, 0, 0, 0, 0) := rfl
set_option maxRecDepth 100000 in
theorem q242_1228 : z_fi (z_mi 242) 1228 = some (1228, .iconst 1, 0, 0, 0, 1, 0) := rfl
set_option maxRecDepth 100000 in
theorem q242_1229 : z_fi (z_mi 242) 1229 = some (1229, .iadd, 0, 0, 0, 0, 0) := rfl
set_option maxRecDepth 100000 in
theorem q242_1230 : z_fi (z_mi 242) 1230 = some (1230, .iaload, 0, 0, 0, 0, 0) := rfl
set_option maxRecDepth 100000 in
theorem q242_1231 : z_fi (z_mi 242) 1231 = some (1231, .aload_n 0, 0, 0, 0, 0, 0) := rfl
set_option maxRecDepth 100000 in
theorem q242_1232 : z_fi (z_mi 242) 1232 = some (1232, .iload_n 3, 0, 0, 0, 0, 0) := rfl
set_option maxRecDepth 100000 in
theorem q242_1233 : z_fi (z_mi 242) 1233 = some (1233, .iconst 2, 0, 0, 0, 2, 0) := rfl
set_option maxRecDepth 100000 in
theorem q242_1234 : z_fi (z_mi 242) 1234 = some (1234, .iadd, 0, 0, 0, 0, 0) := rfl
set_option maxRecDepth 100000 in
theorem q242_1235 : z_fi (z_mi 242) 1235 = some (1235, .iaload, 0, 0, 0, 0, 0) := rfl
set_option maxRecDepth 100000 in
theorem q242_1236 : z_fi (z_mi 242) 1236 = some (1236, .aload_n 0, 0, 0, 0, 0, 0) := rfl
set_option maxRecDepth 100000 in
theorem q242_1237 : z_fi (z_mi 242) 1237 = some (1237, .iload_n 3, 0, 0, 0, 0, 0) := rfl
set_option maxRecDepth 100000 in
theorem q242_1238 : z_fi (z_mi 242) 1238 = some (1238, .iconst 3, 0, 0, 0, 3, 0) := rfl
set_option maxRecDepth 100000 in
theorem q242_1239 : z_fi (z_mi 242) 1239 = some (1239, .iadd, 0, 0, 0, 0, 0) := rfl
set_option maxRecDepth 100000 in
theorem q242_1240 : z_fi (z_mi 242) 1240 = some (1240, .iaload, 0, 0, 0, 0, 0) := rfl
set_option maxRecDepth 100000 in
theorem q242_1241 : z_fi (z_mi 242) 1241 = some (1241, .invokevirtual 154, 0, 221, 3, 0, 0) := rfl
set_option maxRecDepth 100000 in
theorem q242_1244 : z_fi (z_mi 242) 1244 = some (1244, .if_icmp .eq 292, 0, 1536, 0, 0, 0) := rfl
set_option maxRecDepth 100000 in
theorem q242_1247 : z_fi (z_mi 242) 1247 = some (1247, .iconst 0, 0, 0, 0, 0, 0) := rfl
set_option maxRecDepth 100000 in
theorem q242_1248 : z_fi (z_mi 242) 1248 = some (1248, .ireturn, 0, 0, 0, 0, 0) := rfl
set_option maxRecDepth 100000 in
theorem q242_1249 : z_fi (z_mi 242) 1249 = some (1249, .aload_n 1, 0, 0, 0, 0, 0) := rfl
set_option maxRecDepth 100000 in
theorem q242_1250 : z_fi (z_mi 242) 1250 = some (1250, .aload_n 0, 0, 0, 0, 0, 0) := rfl
set_option maxRecDepth 100000 in
theorem q242_1251 : z_fi (z_mi 242) 1251 = some (1251, .iload_n 3, 0, 0, 0, 0, 0) := rfl
set_option maxRecDepth 100000 in
theorem q242_1252 : z_fi (z_mi 242) 1252 = some (1252, .iconst 1, 0, 0, 0, 1, 0) := rfl
set_option maxRecDepth 100000 in
theorem q242_1253 : z_fi (z_mi 242) 1253 = some (1253, .iadd, 0, 0, 0, 0, 0) := rfl
set_option maxRecDepth 100000 in
theorem q242_1254 : z_fi (z_mi 242) 1254 = some (1254, .iaload, 0, 0, 0, 0, 0) := rfl
set_option maxRecDepth 100000 in
theorem q242_1255 : z_fi (z_mi 242) 1255 = some (1255, .invokevirtual 155, 0, 137, 1, 0, 0) := rfl
set_option maxRecDepth 100000 in
theorem q242_1258 : z_fi (z_mi 242) 1258 = some (1258, .aload_n 2, 0, 0, 0, 0, 0) := rfl
set_option maxRecDepth 100000 in
theorem q242_1259 : z_fi (z_mi 242) 1259 = some (1259, .aload_n 0, 0, 0, 0, 0, 0) := rfl
set_option maxRecDepth 100000 in
theorem q242_1260 : z_fi (z_mi 242) 1260 = some (1260, .iload_n 3, 0, 0, 0, 0, 0) := rfl
set_option maxRecDepth 100000 in
theorem q242_1261 : z_fi (z_mi 242) 1261 = some (1261, .iconst 1, 0, 0, 0, 1, 0) := rfl
set_option maxRecDepth 100000 in
theorem q242_1262 : z_fi (z_mi 242) 1262 = some (1262, .iadd, 0, 0, 0, 0, 0) := rfl
set_option maxRecDepth 100000 in
theorem q242_1263 : z_fi (z_mi 242) 1263 = some (1263, .iaload, 0, 0, 0, 0, 0) := rfl
set_option maxRecDepth 100000 in
theorem q242_1264 : z_fi (z_mi 242) 1264 = some (1264, .invokevirtual 158, 0, 222, 1, 0, 0) := rfl
set_option maxRecDepth 100000 in
theorem q242_1267 : z_fi (z_mi 242) 1267 = some (1267, .if_icmp .eq 269, 0, 1536, 0, 0, 0) := rfl
set_option maxRecDepth 100000 in
theorem q242_1270 : z_fi (z_mi 242) 1270 = some (1270, .iconst 0, 0, 0, 0, 0, 0) := rfl
set_option maxRecDepth 100000 in
theorem q242_1271 : z_fi (z_mi 242) 1271 = some (1271, .ireturn, 0, 0, 0, 0, 0) := rfl
set_option maxRecDepth 100000 in
theorem q242_1272 : z_fi (z_mi 242) 1272 = some (1272, .aload_n 1, 0, 0, 0, 0, 0) := rfl
set_option maxRecDepth 100000 in
theorem q242_1273 : z_fi (z_mi 242) 1273 = some (1273, .aload_n 0, 0, 0, 0, 0, 0) := rfl
set_option maxRecDepth 100000 in
theorem q242_1274 : z_fi (z_mi 242) 1274 = some (1274, .iload_n 3, 0, 0, 0, 0, 0) := rfl
set_option maxRecDepth 100000 in
theorem q242_1275 : z_fi (z_mi 242) 1275 = some (1275, .iconst 1, 0, 0, 0, 1, 0) := rfl
set_option maxRecDepth 100000 in
theorem q242_1276 : z_fi (z_mi 242) 1276 = some (1276, .iadd, 0, 0, 0, 0, 0) := rfl
set_option maxRecDepth 100000 in
theorem q242_1277 : z_fi (z_mi 242) 1277 = some (1277, .iaload, 0, 0, 0, 0, 0) := rfl
set_option maxRecDepth 100000 in
theorem q242_1278 : z_fi (z_mi 242) 1278 = some (1278, .aload_n 0, 0, 0, 0, 0, 0) := rfl
set_option maxRecDepth 100000 in
theorem q242_1279 : z_fi (z_mi 242) 1279 = some (1279, .iload_n 3, 0, 0, 0, 0, 0) := rfl
set_option maxRecDepth 100000 in
theorem q242_1280 : z_fi (z_mi 242) 1280 = some (1280, .iconst 2, 0, 0, 0, 2, 0) := rfl
set_option maxRecDepth 100000 in
theorem q242_1281 : z_fi (z_mi 242) 1281 = some (1281, .iadd, 0, 0, 0, 0, 0) := rfl
set_option maxRecDepth 100000 in
theorem q242_1282 : z_fi (z_mi 242) 1282 = some (1282, .iaload, 0, 0, 0, 0, 0) := rfl
set_option maxRecDepth 100000 in
theorem q242_1283 : z_fi (z_mi 242) 1283 = some (1283, .aload_n 0, 0, 0, 0, 0, 0) := rfl
set_option maxRecDepth 100000 in
theorem q242_1284 : z_fi (z_mi 242) 1284 = some (1284, .iload_n 3, 0, 0, 0, 0, 0) := rfl
set_option maxRecDepth 100000 in
theorem q242_1285 : z_fi (z_mi 242) 1285 = some (1285, .iconst 3, 0, 0, 0, 3, 0) := rfl
set_option maxRecDepth 100000 in
theorem q242_1286 : z_fi (z_mi 242) 1286 = some (1286, .iadd, 0, 0, 0, 0, 0) := rfl
set_option maxRecDepth 100000 in
theorem q242_1287 : z_fi (z_mi 242) 1287 = some (1287, .iaload, 0, 0, 0, 0, 0) := rfl
set_option maxRecDepth 100000 in
theorem q242_1288 : z_fi (z_mi 242) 1288 = some (1288, .invokevirtual 159, 0, 138, 3, 0, 0) := rfl
set_option maxRecDepth 100000 in
theorem q242_1291 : z_fi (z_mi 242) 1291 = some (1291, .aload_n 2, 0, 0, 0, 0, 0) := rfl
set_option maxRecDepth 100000 in
theorem q242_1292 : z_fi (z_mi 242) 1292 = some (1292, .aload_n 0, 0, 0, 0, 0, 0) := rfl
set_option maxRecDepth 100000 in
theorem q242_1293 : z_fi (z_mi 242) 1293 = some (1293, .iload_n 3, 0, 0, 0, 0, 0) := rfl
set_option maxRecDepth 100000 in
theorem q242_1294 : z_fi (z_mi 242) 1294 = some (1294, .iconst 1, 0, 0, 0, 1, 0) := rfl
set_option maxRecDepth 100000 in
theorem q242_1295 : z_fi (z_mi 242) 1295 = some (1295, .iadd, 0, 0, 0, 0, 0) := rfl
set_option maxRecDepth 100000 in
theorem q242_1296 : z_fi (z_mi 242) 1296 = some (1296, .iaload, 0, 0, 0, 0, 0) := rfl
set_option maxRecDepth 100000 in
theorem q242_1297 : z_fi (z_mi 242) 1297 = some (1297, .aload_n 0, 0, 0, 0, 0, 0) := rfl
set_option maxRecDepth 100000 in
theorem q242_1298 : z_fi (z_mi 242) 1298 = some (1298, .iload_n 3, 0, 0, 0, 0, 0) := rfl
set_option maxRecDepth 100000 in
theorem q242_1299 : z_fi (z_mi 242) 1299 = some (1299, .iconst 2, 0, 0, 0, 2, 0) := rfl
set_option maxRecDepth 100000 in
theorem q242_1300 : z_fi (z_mi 242) 1300 = some (1300, .iadd, 0, 0, 0, 0, 0) := rfl
set_option maxRecDepth 100000 in
theorem q242_1301 : z_fi (z_mi 242) 1301 = some (1301, .iaload, 0, 0, 0, 0, 0) := rfl
set_option maxRecDepth 100000 in
theorem q242_1302 : z_fi (z_mi 242) 1302 = some (1302, .aload_n 0, 0, 0, 0, 0, 0) := rfl
set_option maxRecDepth 100000 in
theorem q242_1303 : z_fi (z_mi 242) 1303 = some (1303, .iload_n 3, 0, 0, 0, 0, 0) := rfl
set_option maxRecDepth 100000 in
theorem q242_1304 : z_fi (z_mi 242) 1304 = some (1304, .iconst 3, 0, 0, 0, 3, 0) := rfl
set_option maxRecDepth 100000 in
theorem q242_1305 : z_fi (z_mi 242) 1305 = some (1305, .iadd, 0, 0, 0, 0, 0) := rfl
set_option maxRecDepth 100000 in
theorem q242_1306 : z_fi (z_mi 242) 1306 = some (1306, .iaload, 0, 0, 0, 0, 0) := rfl
set_option maxRecDepth 100000 in
theorem q242_1307 : z_fi (z_mi 242) 1307 = some (1307, .invokevirtual 162, 0, 223, 3, 0, 0) := rfl
set_option maxRecDepth 100000 in
theorem q242_1310 : z_fi (z_mi 242) 1310 = some (1310, .if_icmp .eq 226, 0, 1536, 0, 0, 0) := rfl
set_option maxRecDepth 100000 in
theorem q242_1313 : z_fi (z_mi 242) 1313 = some (1313, .iconst 0, 0, 0, 0, 0, 0) := rfl
set_option maxRecDepth 100000 in
theorem q242_1314 : z_fi (z_mi 242) 1314 = some (1314, .ireturn, 0, 0, 0, 0, 0) := rfl
set_option maxRecDepth 100000 in
theorem q242_1315 : z_fi (z_mi 242) 1315 = some (1315, .aload_n 1, 0, 0, 0, 0, 0) := rfl
set_option maxRecDepth 100000 in
theorem q242_1316 : z_fi (z_mi 242) 1316 = some (1316, .aload_n 0, 0, 0, 0, 0, 0) := rfl
set_option maxRecDepth 100000 in
theorem q242_1317 : z_fi (z_mi 242) 1317 = some (1317, .iload_n 3, 0, 0, 0, 0, 0) := rfl
set_option maxRecDepth 100000 in
theorem q242_1318 : z_fi (z_mi 242) 1318 = some (1318, .iconst 1, 0, 0, 0, 1, 0) := rfl
set_option maxRecDepth 100000 in
theorem q242_1319 : z_fi (z_mi 242) 1319 = some (1319, .iadd, 0, 0, 0, 0, 0) := rfl
set_option maxRecDepth 100000 in
theorem q242_1320 : z_fi (z_mi 242) 1320 = some (1320, .iaload, 0, 0, 0, 0, 0) := rfl
set_option maxRecDepth 100000 in
theorem q242_1321 : z_fi (z_mi 242) 1321 = some (1321, .invokevirtual 163, 0, 141, 1, 0, 0) := rfl
set_option maxRecDepth 100000 in
theorem q242_1324 : z_fi (z_mi 242) 1324 = some (1324, .aload_n 2, 0, 0, 0, 0, 0) := rfl
set_option maxRecDepth 100000 in
theorem q242_1325 : z_fi (z_mi 242) 1325 = some (1325, .aload_n 0, 0, 0, 0, 0, 0) := rfl
set_option maxRecDepth 100000 in
theorem q242_1326 : z_fi (z_mi 242) 1326 = some (1326, .iload_n 3, 0, 0, 0, 0, 0) := rfl
set_option maxRecDepth 100000 in
theorem q242_1327 : z_fi (z_mi 242) 1327 = some (1327, .iconst 1, 0, 0, 0, 1, 0) := rfl
set_option maxRecDepth 100000 in
theorem q242_1328 : z_fi (z_mi 242) 1328 = some (1328, .iadd, 0, 0, 0, 0, 0) := rfl
set_option maxRecDepth 100000 in
theorem q242_1329 : z_fi (z_mi 242) 1329 = some (1329, .iaload, 0, 0, 0, 0, 0) := rfl
set_option maxRecDepth 100000 in
theorem q242_1330 : z_fi (z_mi 242) 1330 = some (1330, .invokevirtual 166, 0, 224, 1, 0, 0) := rfl
set_option maxRecDepth 100000 in
theorem q242_1333 : z_fi (z_mi 242) 1333 = some (1333, .if_icmp .eq 203, 0, 1536, 0, 0, 0) := rfl
set_option maxRecDepth 100000 in
theorem q242_1336 : z_fi (z_mi 242) 1336 = some (1336, .iconst 0, 0, 0, 0, 0, 0) := rfl
set_option maxRecDepth 100000 in
theorem q242_1337 : z_fi (z_mi 242) 1337 = some (1337, .ireturn, 0, 0, 0, 0, 0) := rfl
set_option maxRecDepth 100000 in
theorem q242_1338 : z_fi (z_mi 242) 1338 = some (1338, .aload_n 1, 0, 0, 0, 0, 0) := rfl
set_option maxRecDepth 100000 in
theorem q242_1339 : z_fi (z_mi 242) 1339 = some (1339, .aload_n 0, 0, 0, 0, 0, 0) := rfl
set_option maxRecDepth 100000 in
theorem q242_1340 : z_fi (z_mi 242) 1340 = some (1340, .iload_n 3, 0, 0, 0, 0, 0) := rfl
set_option maxRecDepth 100000 in
theorem q242_1341 : z_fi (z_mi 242) 1341 = some (1341, .iconst 1, 0, 0, 0, 1, 0) := rfl
set_option maxRecDepth 100000 in
theorem q242_1342 : z_fi (z_mi 242) 1342 = some (1342, .iadd, 0, 0, 0, 0, 0) := rfl
set_option maxRecDepth 100000 in
theorem q242_1343 : z_fi (z_mi 242) 1343 = some (1343, .iaload, 0, 0, 0, 0, 0) := rfl
set_option maxRecDepth 100000 in
theorem q242_1344 : z_fi (z_mi 242) 1344 = some (1344, .invokevirtual 167, 0, 142, 1, 0, 0) := rfl
set_option maxRecDepth 100000 in
theorem q242_1347 : z_fi (z_mi 242) 1347 = some (1347, .aload_n 2, 0, 0, 0, 0, 0) := rfl
set_option maxRecDepth 100000 in
theorem q242_1348 : z_fi (z_mi 242) 1348 = some (1348, .aload_n 0, 0, 0, 0, 0, 0) := rfl
set_option maxRecDepth 100000 in
theorem q242_1349 : z_fi (z_mi 242) 1349 = some (1349, .iload_n 3, 0, 0, 0, 0, 0) := rfl
set_option maxRecDepth 100000 in
theorem q242_1350 : z_fi (z_mi 242) 1350 = some (1350, .iconst 1, 0, 0, 0, 1, 0) := rfl
set_option maxRecDepth 100000 in
theorem q242_1351 : z_fi (z_mi 242) 1351 = some (1351, .iadd, 0, 0, 0, 0, 0) := rfl
set_option maxRecDepth 100000 in
theorem q242_1352 : z_fi (z_mi 242) 1352 = some (1352, .iaload, 0, 0, 0, 0, 0) := rfl
set_option maxRecDepth 100000 in
theorem q242_1353 : z_fi (z_mi 242) 1353 = some (1353, .invokevirtual 170, 0, 225, 1, 0, 0) := rfl
set_option maxRecDepth 100000 in
theorem q242_1356 : z_fi (z_mi 242) 1356 = some (1356, .if_icmp .eq 180, 0, 1536, 0, 0, 0) := rfl
set_option maxRecDepth 100000 in
theorem q242_1359 : z_fi (z_mi 242) 1359 = some (1359, .iconst 0, 0, 0, 0, 0, 0) := rfl
set_option maxRecDepth 100000 in
theorem q242_1360 : z_fi (z_mi 242) 1360 = some (1360, .ireturn, 0, 0, 0, 0, 0) := rfl
set_option maxRecDepth 100000 in
theorem q242_1361 : z_fi (z_mi 242) 1361 = some (1361, .aload_n 1, 0, 0, 0, 0, 0) := rfl
set_option maxRecDepth 100000 in
theorem q242_1362 : z_fi (z_mi 242) 1362 = some (1362, .aload_n 0, 0, 0, 0, 0, 0) := rfl
set_option maxRecDepth 100000 in
theorem q242_1363 : z_fi (z_mi 242) 1363 = some (1363, .iload_n 3, 0, 0, 0, 0, 0) := rfl
set_option maxRecDepth 100000 in
theorem q242_1364 : z_fi (z_mi 242) 1364 = some (1364, .iconst 1, 0, 0, 0, 1, 0) := rfl
set_option maxRecDepth 100000 in
theorem q242_1365 : z_fi (z_mi 242) 1365 = some (1365, .iadd, 0, 0, 0, 0, 0) := rfl
set_option maxRecDepth 100000 in
theorem q242_1366 : z_fi (z_mi 242) 1366 = some (1366, .iaload, 0, 0, 0, 0, 0) := rfl
set_option maxRecDepth 100000 in
theorem q242_1367 : z_fi (z_mi 242) 1367 = some (1367, .aload_n 0, 0, 0, 0, 0, 0) := rfl
set_option maxRecDepth 100000 in
theorem q242_1368 : z_fi (z_mi 242) 1368 = some (1368, .iload_n 3, 0, 0, 0, 0, 0) := rfl
set_option maxRecDepth 100000 in
theorem q242_1369 : z_fi (z_mi 242) 1369 = some (1369, .iconst 2, 0, 0, 0, 2, 0) := rfl
set_option maxRecDepth 100000 in
theorem q242_1370 : z_fi (z_mi 242) 1370 = some (1370, .iadd, 0, 0, 0, 0, 0) := rfl
set_option maxRecDepth 100000 in
theorem q242_1371 : z_fi (z_mi 242) 1371 = some (1371, .iaload, 0, 0, 0, 0, 0) := rfl
set_option maxRecDepth 100000 in
theorem q242_1372 : z_fi (z_mi 242) 1372 = some (1372, .aload_n 0, 0, 0, 0, 0, 0) := rfl
set_option maxRecDepth 100000 in
theorem q242_1373 : z_fi (z_mi 242) 1373 = some (1373, .iload_n 3, 0, 0, 0, 0, 0) := rfl
set_option maxRecDepth 100000 in
theorem q242_1374 : z_fi (z_mi 242) 1374 = some (1374, .iconst 3, 0, 0, 0, 3, 0) := rfl
set_option maxRecDepth 100000 in
theorem q242_1375 : z_fi (z_mi 242) 1375 = some (1375, .iadd, 0, 0, 0, 0, 0) := rfl
set_option maxRecDepth 100000 in
theorem q242_1376 : z_fi (z_mi 242) 1376 = some (1376, .iaload, 0, 0, 0, 0, 0) := rfl
set_option maxRecDepth 100000 in
theorem q242_1377 : z_fi (z_mi 242) 1377 = some (1377, .invokevirtual 171, 0, 143, 3, 0, 0) := rfl
set_option maxRecDepth 100000 in
theorem q242_1380 : z_fi (z_mi 242) 1380 = some (1380, .aload_n 2, 0, 0, 0, 0, 0) := rfl
set_option maxRecDepth 100000 in
theorem q242_1381 : z_fi (z_mi 242) 1381 = some (1381, .aload_n 0, 0, 0, 0, 0, 0) := rfl
set_option maxRecDepth 100000 in
theorem q242_1382 : z_fi (z_mi 242) 1382 = some (1382, .iload_n 3, 0, 0, 0, 0, 0) := rfl
set_option maxRecDepth 100000 in
theorem q242_1383 : z_fi (z_mi 242) 1383 = some (1383, .iconst 1, 0, 0, 0, 1, 0) := rfl
set_option maxRecDepth 100000 in
theorem q242_1384 : z_fi (z_mi 242) 1384 = some (1384, .iadd, 0, 0, 0, 0, 0) := rfl
set_option maxRecDepth 100000 in
theorem q242_1385 : z_fi (z_mi 242) 1385 = some (1385, .iaload, 0, 0, 0, 0, 0) := rfl
set_option maxRecDepth 100000 in
theorem q242_1386 : z_fi (z_mi 242) 1386 = some (1386, .aload_n 0, 0, 0, 0, 0, 0) := rfl
set_option maxRecDepth 100000 in
theorem q242_1387 : z_fi (z_mi 242) 1387 = some (1387, .iload_n 3, 0, 0, 0, 0, 0) := rfl
set_option maxRecDepth 100000 in
theorem q242_1388 : z_fi (z_mi 242) 1388 = some (1388, .iconst 2, 0, 0, 0, 2, 0) := rfl
set_option maxRecDepth 100000 in
theorem q242_1389 : z_fi (z_mi 242) 1389 = some (1389, .iadd, 0, 0, 0, 0, 0) := rfl
set_option maxRecDepth 100000 in
theorem q242_1390 : z_fi (z_mi 242) 1390 = some (1390, .iaload, 0, 0, 0, 0, 0) := rfl
set_option maxRecDepth 100000 in
theorem q242_1391 : z_fi (z_mi 242) 1391 = some (1391, .aload_n 0, 0, 0, 0, 0, 0) := rfl
set_option maxRecDepth 100000 in
theorem q242_1392 : z_fi (z_mi 242) 1392 = some (1392, .iload_n 3, 0, 0, 0, 0, 0) := rfl
set_option maxRecDepth 100000 in
theorem q242_1393 : z_fi (z_mi 242) 1393 = some (1393, .iconst 3, 0, 0, 0, 3, 0) := rfl
set_option maxRecDepth 100000 in
theorem q242_1394 : z_fi (z_mi 242) 1394 = some (1394, .iadd, 0, 0, 0, 0, 0) := rfl
set_option maxRecDepth 100000 in
theorem q242_1395 : z_fi (z_mi 242) 1395 = some (1395, .iaload, 0, 0, 0, 0, 0) := rfl
set_option maxRecDepth 100000 in
theorem q242_1396 : z_fi (z_mi 242) 1396 = some (1396, .invokevirtual 174, 0, 226, 3, 0, 0) := rfl
set_option maxRecDepth 100000 in
theorem q242_1399 : z_fi (z_mi 242) 1399 = some (1399, .if_icmp .eq 137, 0, 1536, 0, 0, 0) := rfl
set_option maxRecDepth 100000 in
theorem q242_1402 : z_fi (z_mi 242) 1402 = some (1402, .iconst 0, 0, 0, 0, 0, 0) := rfl
set_option maxRecDepth 100000 in
theorem q242_1403 : z_fi (z_mi 242) 1403 = some (1403, .ireturn, 0, 0, 0, 0, 0) := rfl
set_option maxRecDepth 100000 in
theorem q242_1404 : z_fi (z_mi 242) 1404 = some (1404, .aload_n 1, 0, 0, 0, 0, 0) := rfl
set_option maxRecDepth 100000 in
theorem q242_1405 : z_fi (z_mi 242) 1405 = some (1405, .aload_n 0, 0, 0, 0, 0, 0) := rfl
set_option maxRecDepth 100000 in
theorem q242_1406 : z_fi (z_mi 242) 1406 = some (1406, .iload_n 3, 0, 0, 0, 0, 0) := rfl
set_option maxRecDepth 100000 in
theorem q242_1407 : z_fi (z_mi 242) 1407 = some (1407, .iconst 1, 0, 0, 0, 1, 0) := rfl
set_option maxRecDepth 100000 in
theorem q242_1408 : z_fi (z_mi 242) 1408 = some (1408, .iadd, 0, 0, 0, 0, 0) := rfl
set_option maxRecDepth 100000 in
theorem q242_1409 : z_fi (z_mi 242) 1409 = some (1409, .iaload, 0, 0, 0, 0, 0) := rfl
set_option maxRecDepth 100000 in
theorem q242_1410 : z_fi (z_mi 242) 1410 = some (1410, .aload_n 0, 0, 0, 0, 0, 0) := rfl
set_option maxRecDepth 100000 in
theorem q242_1411 : z_fi (z_mi 242) 1411 = some (1411, .iload_n 3, 0, 0, 0, 0, 0) := rfl
set_option maxRecDepth 100000 in
theorem q242_1412 : z_fi (z_mi 242) 1412 = some (1412, .iconst 2, 0, 0, 0, 2, 0) := rfl
set_option maxRecDepth 100000 in
theorem q242_1413 : z_fi (z_mi 242) 1413 = some (1413, .iadd, 0, 0, 0, 0, 0) := rfl
set_option maxRecDepth 100000 in
theorem q242_1414 : z_fi (z_mi 242) 1414 = some (1414, .iaload, 0, 0, 0, 0, 0) := rfl
set_option maxRecDepth 100000 in
theorem q242_1415 : z_fi (z_mi 242) 1415 = some (1415, .aload_n 0, 0, 0, 0, 0, 0) := rfl
set_option maxRecDepth 100000 in
theorem q242_1416 : z_fi (z_mi 242) 1416 = some (1416, .iload_n 3, 0, 0, 0, 0, 0) := rfl
set_option maxRecDepth 100000 in
theorem q242_1417 : z_fi (z_mi 242) 1417 = some (1417, .iconst 3, 0, 0, 0, 3, 0) := rfl
set_option maxRecDepth 100000 in
theorem q242_1418 : z_fi (z_mi 242) 1418 = some (1418, .iadd, 0, 0, 0, 0, 0) := rfl
set_option maxRecDepth 100000 in
theorem q242_1419 : z_fi (z_mi 242) 1419 = some (1419, .iaload, 0, 0, 0, 0, 0) := rfl
set_option maxRecDepth 100000 in
theorem q242_1420 : z_fi (z_mi 242) 1420 = some (1420, .invokevirtual 175, 0, 144, 3, 0, 0) := rfl
set_option maxRecDepth 100000 in
theorem q242_1423 : z_fi (z_mi 242) 1423 = some (1423, .aload_n 2, 0, 0, 0, 0, 0) := rfl
set_option maxRecDepth 100000 in
theorem q242_1424 : z_fi (z_mi 242) 1424 = some (1424, .aload_n 0, 0, 0, 0, 0, 0) := rfl
set_option maxRecDepth 100000 in
theorem q242_1425 : z_fi (z_mi 242) 1425 = some (1425, .iload_n 3, 0, 0, 0, 0, 0) := rfl
set_option maxRecDepth 100000 in
theorem q242_1426 : z_fi (z_mi 242) 1426 = some (1426, .iconst 1, 0, 0, 0, 1, 0) := rfl
set_option maxRecDepth 100000 in
theorem q242_1427 : z_fi (z_mi 242) 1427 = some (1427, .iadd, 0, 0, 0, 0, 0) := rfl
set_option maxRecDepth 100000 in
theorem q242_1428 : z_fi (z_mi 242) 1428 = some (1428, .iaload, 0, 0, 0, 0, 0) := rfl
set_option maxRecDepth 100000 in
theorem q242_1429 : z_fi (z_mi 242) 1429 = some (1429, .aload_n 0, 0, 0, 0, 0, 0) := rfl
set_option maxRecDepth 100000 in
theorem q242_1430 : z_fi (z_mi 242) 1430 = some (1430, .iload_n 3, 0, 0, 0, 0, 0) := rfl
set_option maxRecDepth 100000 in
theorem q242_1431 : z_fi (z_mi 242) 1431 = some (1431, .iconst 2, 0, 0, 0, 2, 0) := rfl
set_option maxRecDepth 100000 in
theorem q242_1432 : z_fi (z_mi 242) 1432 = some (1432, .iadd, 0, 0, 0, 0, 0) := rfl
set_option maxRecDepth 100000 in
theorem q242_1433 : z_fi (z_mi 242) 1433 = some (1433, .iaload, 0, 0, 0, 0, 0) := rfl
set_option maxRecDepth 100000 in
theorem q242_1434 : z_fi (z_mi 242) 1434 = some (1434, .aload_n 0, 0, 0, 0, 0, 0) := rfl
set_option maxRecDepth 100000 in
theorem q242_1435 : z_fi (z_mi 242) 1435 = some (1435, .iload_n 3, 0, 0, 0, 0, 0) := rfl
set_option maxRecDepth 100000 in
theorem q242_1436 : z_fi (z_mi 242) 1436 = some (1436, .iconst 3, 0, 0, 0, 3, 0) := rfl
set_option maxRecDepth 100000 in
theorem q242_1437 : z_fi (z_mi 242) 1437 = some (1437, .iadd, 0, 0, 0, 0, 0) := rfl
set_option maxRecDepth 100000 in
theorem q242_1438 : z_fi (z_mi 242) 1438 = some (1438, .iaload, 0, 0, 0, 0, 0) := rfl
set_option maxRecDepth 100000 in
theorem q242_1439 : z_fi (z_mi 242) 1439 = some (1439, .invokevirtual 178, 0, 227, 3, 0, 0) := rfl
set_option maxRecDepth 100000 in
theorem q242_1442 : z_fi (z_mi 242) 1442 = some (1442, .if_icmp .eq 94, 0, 1536, 0, 0, 0) := rfl
set_option maxRecDepth 100000 in
theorem q242_1445 : z_fi (z_mi 242) 1445 = some (1445, .iconst 0, 0, 0, 0, 0, 0) := rfl
set_option maxRecDepth 100000 in
theorem q242_1446 : z_fi (z_mi 242) 1446 = some (1446, .ireturn, 0, 0, 0, 0, 0) := rfl
set_option maxRecDepth 100000 in
theorem q242_1447 : z_fi (z_mi 242) 1447 = some (1447, .aload_n 1, 0, 0, 0, 0, 0) := rfl
set_option maxRecDepth 100000 in
theorem q242_1448 : z_fi (z_mi 242) 1448 = some (1448, .aload_n 0, 0, 0, 0, 0, 0) := rfl
set_option maxRecDepth 100000 in
theorem q242_1449 : z_fi (z_mi 242) 1449 = some (1449, .iload_n 3, 0, 0, 0, 0, 0) := rfl
set_option maxRecDepth 100000 in
theorem q242_1450 : z_fi (z_mi 242) 1450 = some (1450, .iconst 1, 0, 0, 0, 1, 0) := rfl
set_option maxRecDepth 100000 in
theorem q242_1451 : z_fi (z_mi 242) 1451 = some (1451, .iadd, 0, 0, 0, 0, 0) := rfl
set_option maxRecDepth 100000 in
theorem q242_1452 : z_fi (z_mi 242) 1452 = some (1452, .iaload, 0, 0, 0, 0, 0) := rfl
set_option maxRecDepth 100000 in
theorem q242_1453 : z_fi (z_mi 242) 1453 = some (1453, .aload_n 0, 0, 0, 0, 0, 0) := rfl
set_option maxRecDepth 100000 in
theorem q242_1454 : z_fi (z_mi 242) 1454 = some (1454, .iload_n 3, 0, 0, 0, 0, 0) := rfl
set_option maxRecDepth 100000 in
theorem q242_1455 : z_fi (z_mi 242) 1455 = some (1455, .iconst 2, 0, 0, 0, 2, 0) := rfl
set_option maxRecDepth 100000 in
theorem q242_1456 : z_fi (z_mi 242) 1456 = some (1456, .iadd, 0, 0, 0, 0, 0) := rfl
set_option maxRecDepth 100000 in
theorem q242_1457 : z_fi (z_mi 242) 1457 = some (1457, .iaload, 0, 0, 0, 0, 0) := rfl
set_option maxRecDepth 100000 in
theorem q242_1458 : z_fi (z_mi 242) 1458 = some (1458, .aload_n 0, 0, 0, 0, 0, 0) := rfl
set_option maxRecDepth 100000 in
theorem q242_1459 : z_fi (z_mi 242) 1459 = some (1459, .iload_n 3, 0, 0, 0, 0, 0) := rfl
set_option maxRecDepth 100000 in
theorem q242_1460 : z_fi (z_mi 242) 1460 = some (1460, .iconst 3, 0, 0, 0, 3, 0) := rfl
set_option maxRecDepth 100000 in
theorem q242_1461 : z_fi (z_mi 242) 1461 = some (1461, .iadd, 0, 0, 0, 0, 0) := rfl
set_option maxRecDepth 100000 in
theorem q242_1462 : z_fi (z_mi 242) 1462 = some (1462, .iaload, 0, 0, 0, 0, 0) := rfl
set_option maxRecDepth 100000 in
theorem q242_1463 : z_fi (z_mi 242) 1463 = some (1463, .aload_n 0, 0, 0, 0, 0, 0) := rfl
set_option maxRecDepth 100000 in
theorem q242_1464 : z_fi (z_mi 242) 1464 = some (1464, .iload_n 3, 0, 0, 0, 0, 0) := rfl
set_option maxRecDepth 100000 in
theorem q242_1465 : z_fi (z_mi 242) 1465 = some (1465, .iconst 4, 0, 0, 0, 4, 0) := rfl
set_option maxRecDepth 100000 in
theorem q242_1466 : z_fi (z_mi 242) 1466 = some (1466, .iadd, 0, 0, 0, 0, 0) := rfl
set_option maxRecDepth 100000 in
theorem q242_1467 : z_fi (z_mi 242) 1467 = some (1467, .iaload, 0, 0, 0, 0, 0) := rfl
set_option maxRecDepth 100000 in
theorem q242_1468 : z_fi (z_mi 242) 1468 = some (1468, .invokevirtual 179, 0, 145, 4, 0, 0) := rfl
set_option maxRecDepth 100000 in
theorem q242_1471 : z_fi (z_mi 242) 1471 = some (1471, .aload_n 2, 0, 0, 0, 0, 0) := rfl
set_option maxRecDepth 100000 in
theorem q242_1472 : z_fi (z_mi 242) 1472 = some (1472, .aload_n 0, 0, 0, 0, 0, 0) := rfl
set_option maxRecDepth 100000 in
theorem q242_1473 : z_fi (z_mi 242) 1473 = some (1473, .iload_n 3, 0, 0, 0, 0, 0) := rfl
set_option maxRecDepth 100000 in
theorem q242_1474 : z_fi (z_mi 242) 1474 = some (1474, .iconst 1, 0, 0, 0, 1, 0) := rfl
set_option maxRecDepth 100000 in
theorem q242_1475 : z_fi (z_mi 242) 1475 = some (1475, .iadd, 0, 0, 0, 0, 0) := rfl
set_option maxRecDepth 100000 in
theorem q242_1476 : z_fi (z_mi 242) 1476 = some (1476, .iaload, 0, 0, 0, 0, 0) := rfl
set_option maxRecDepth 100000 in
theorem q242_1477 : z_fi (z_mi 242) 1477 = some (1477, .aload_n 0, 0, 0, 0, 0, 0) := rfl
set_option maxRecDepth 100000 in
theorem q242_1478 : z_fi (z_mi 242) 1478 = some (1478, .iload_n 3, 0, 0, 0, 0, 0) := rfl
set_option maxRecDepth 100000 in
theorem q242_1479 : z_fi (z_mi 242) 1479 = some (1479, .iconst 2, 0, 0, 0, 2, 0) := rfl
set_option maxRecDepth 100000 in
theorem q242_1480 : z_fi (z_mi 242) 1480 = some (1480, .iadd, 0, 0, 0, 0, 0) := rfl
set_option maxRecDepth 100000 in
theorem q242_1481 : z_fi (z_mi 242) 1481 = some (1481, .iaload, 0, 0, 0, 0, 0) := rfl
set_option maxRecDepth 100000 in
theorem q242_1482 : z_fi (z_mi 242) 1482 = some (1482, .aload_n 0, 0, 0, 0, 0, 0) := rfl
set_option maxRecDepth 100000 in
theorem q242_1483 : z_fi (z_mi 242) 1483 = some (1483, .iload_n 3, 0, 0, 0, 0, 0) := rfl
set_option maxRecDepth 100000 in
theorem q242_1484 : z_fi (z_mi 242) 1484 = some (1484, .iconst 3, 0, 0, 0, 3, 0) := rfl
set_option maxRecDepth 100000 in
theorem q242_1485 : z_fi (z_mi 242) 1485 = some (1485, .iadd, 0, 0, 0, 0, 0) := rfl
set_option maxRecDepth 100000 in
theorem q242_1486 : z_fi (z_mi 242) 1486 = some (1486, .iaload, 0, 0, 0, 0, 0) := rfl
set_option maxRecDepth 100000 in
theorem q242_1487 : z_fi (z_mi 242) 1487 = some (1487, .aload_n 0, 0, 0, 0, 0, 0) := rfl
set_option maxRecDepth 100000 in
theorem q242_1488 : z_fi (z_mi 242) 1488 = some (1488, .iload_n 3, 0, 0, 0, 0, 0) := rfl
set_option maxRecDepth 100000 in
theorem q242_1489 : z_fi (z_mi 242) 1489 = some (1489, .iconst 4, 0, 0, 0, 4, 0) := rfl
set_option maxRecDepth 100000 in
theorem q242_1490 : z_fi (z_mi 242) 1490 = some (1490, .iadd, 0, 0, 0, 0, 0) := rfl
set_option maxRecDepth 100000 in
theorem q242_1491 : z_fi (z_mi 242) 1491 = some (1491, .iaload, 0, 0, 0, 0, 0) := rfl
set_option maxRecDepth 100000 in
theorem q242_1492 : z_fi (z_mi 242) 1492 = some (1492, .invokevirtual 183, 0, 228, 4, 0, 0) := rfl
set_option maxRecDepth 100000 in
theorem q242_1495 : z_fi (z_mi 242) 1495 = some (1495, .if_icmp .eq 41, 0, 1536, 0, 0, 0) := rfl
set_option maxRecDepth 100000 in
theorem q242_1498 : z_fi (z_mi 242) 1498 = some (1498, .iconst 0, 0, 0, 0, 0, 0) := rfl
set_option maxRecDepth 100000 in
theorem q242_1499 : z_fi (z_mi 242) 1499 = some (1499, .ireturn, 0, 0, 0, 0, 0) := rfl
set_option maxRecDepth 100000 in
theorem q242_1500 : z_fi (z_mi 242) 1500 = some (1500, .aload_n 1, 0, 0, 0, 0, 0) := rfl
set_option maxRecDepth 100000 in
theorem q242_1501 : z_fi (z_mi 242) 1501 = some (1501, .invokevirtual 184, 0, 146, 0, 0, 0) := rfl
set_option maxRecDepth 100000 in
theorem q242_1504 : z_fi (z_mi 242) 1504 = some (1504, .aload_n 2, 0, 0, 0, 0, 0) := rfl
set_option maxRecDepth 100000 in
theorem q242_1505 : z_fi (z_mi 242) 1505 = some (1505, .invokevirtual 187, 0, 229, 0, 0, 0) := rfl
set_option maxRecDepth 100000 in
theorem q242_1508 : z_fi (z_mi 242) 1508 = some (1508, .if_icmp .eq 28, 0, 1536, 0, 0, 0) := rfl
set_option maxRecDepth 100000 in
theorem q242_1511 : z_fi (z_mi 242) 1511 = some (1511, .iconst 0, 0, 0, 0, 0, 0) := rfl
set_option maxRecDepth 100000 in
theorem q242_1512 : z_fi (z_mi 242) 1512 = some (1512, .ireturn, 0, 0, 0, 0, 0) := rfl
set_option maxRecDepth 100000 in
theorem q242_1513 : z_fi (z_mi 242) 1513 = some (1513, .aload_n 1, 0, 0, 0, 0, 0) := rfl
set_option maxRecDepth 100000 in
theorem q242_1514 : z_fi (z_mi 242) 1514 = some (1514, .aload_n 0, 0, 0, 0, 0, 0) := rfl
set_option maxRecDepth 100000 in
theorem q242_1515 : z_fi (z_mi 242) 1515 = some (1515, .iload_n 3, 0, 0, 0, 0, 0) := rfl
set_option maxRecDepth 100000 in
theorem q242_1516 : z_fi (z_mi 242) 1516 = some (1516, .iconst 1, 0, 0, 0, 1, 0) := rfl
set_option maxRecDepth 100000 in
theorem q242_1517 : z_fi (z_mi 242) 1517 = some (1517, .iadd, 0, 0, 0, 0, 0) := rfl
set_option maxRecDepth 100000 in
theorem q242_1518 : z_fi (z_mi 242) 1518 = some (1518, .iaload, 0, 0, 0, 0, 0) := rfl
set_option maxRecDepth 100000 in
theorem q242_1519 : z_fi (z_mi 242) 1519 = some (1519, .invokevirtual 188, 0, 147, 1, 0, 0) := rfl
set_option maxRecDepth 100000 in
theorem q242_1522 : z_fi (z_mi 242) 1522 = some (1522, .aload_n 2, 0, 0, 0, 0, 0) := rfl
set_option maxRecDepth 100000 in
theorem q242_1523 : z_fi (z_mi 242) 1523 = some (1523, .aload_n 0, 0, 0, 0, 0, 0) := rfl
set_option maxRecDepth 100000 in
theorem q242_1524 : z_fi (z_mi 242) 1524 = some (1524, .iload_n 3, 0, 0, 0, 0, 0) := rfl
set_option maxRecDepth 100000 in
theorem q242_1525 : z_fi (z_mi 242) 1525 = some (1525, .iconst 1, 0, 0, 0, 1, 0) := rfl
set_option maxRecDepth 100000 in
theorem q242_1526 : z_fi (z_mi 242) 1526 = some (1526, .iadd, 0, 0, 0, 0, 0) := rfl
set_option maxRecDepth 100000 in
theorem q242_1527 : z_fi (z_mi 242) 1527 = some (1527, .iaload, 0, 0, 0, 0, 0) := rfl
set_option maxRecDepth 100000 in
theorem q242_1528 : z_fi (z_mi 242) 1528 = some (1528, .invokevirtual 191, 0, 230, 1, 0, 0) := rfl
set_option maxRecDepth 100000 in
theorem q242_1531 : z_fi (z_mi 242) 1531 = some (1531, .if_icmp .eq 5, 0, 1536, 0, 0, 0) := rfl
set_option maxRecDepth 100000 in
theorem q242_1534 : z_fi (z_mi 242) 1534 = some (1534, .iconst 0, 0, 0, 0, 0, 0) := rfl
set_option maxRecDepth 100000 in
theorem q242_1535 : z_fi (z_mi 242) 1535 = some (1535, .ireturn, 0, 0, 0, 0, 0) := rfl
set_option maxRecDepth 100000 in
theorem q242_1536 : z_fi (z_mi 242) 1536 = some (1536, .iinc 3 5, 0, 0, 0, 5, 0) := rfl
set_option maxRecDepth 100000 in
theorem q242_1539 : z_fi (z_mi 242) 1539 = some (1539, .goto (-1521), 0, 18, 0, 0, 0) := rfl
set_option maxRecDepth 100000 in
theorem q242_1542 : z_fi (z_mi 242) 1542 = some (1542, .iconst 1, 0, 0, 0, 1, 0) := rfl
set_option maxRecDepth 100000 in
theorem q242_1543 : z_fi (z_mi 242) 1543 = some (1543, .ireturn, 0, 0, 0, 0, 0) := rfl
set_option maxRecDepth 20000 in
set_option maxHeartbeats 16000000 in
theorem t_L_law_4000 {xL : Nat} {xs : Nat → Int32} {ρ : Nat → Nat → Option Nat} (hρ : z_hR ρ) (d : Nat) (σ : zS) : z_J xL xs ρ em_i some (d + 14) 242 16 [.ref 4000, .ref 0, .ref 90, .null] [] σ (f_L_law_4000 xL xs σ) := by
  unfold f_L_law_4000
  refine j_iconst (pc' := 17) q242_16 rfl ?_
  refine j_istore3 (pc' := 18) q242_17 rfl (Nat.le_of_ble_eq_true rfl) rfl ?_
  refine j_forget (V' := [.ref 4000, .ref 0, .ref 90, .int (0 : Int32)]) (z_le_s (z_le_s (z_le_s (z_le_s (z_le_nil))))) ?_
  refine j_loopX (S := Int32 × zS) (E := zS) Sum.inl 1542 (fun s1 => [.ref 4000, .ref 0, .ref 90, .int s1.1]) (fun s1 => s1.2) (fun b1 => [.null, .null, .null, .null]) (fun b1 => b1) (fun b1 => ?_) (fun R1 hR1 hX1 s1 => ?_) ((0 : Int32), σ)
  · show z_J _ _ _ _ _ _ _ _ _ _ _ _
    refine j_iconst (pc' := 1543) q242_1542 rfl ?_
    exact j_zret q242_1543 rfl (Or.inr rfl)
  · show z_J _ _ _ _ _ _ _ _ _ _ _ _
    refine j_iload_n (pc' := 19) q242_18 rfl rfl ?_
    refine j_aload_n (pc' := 20) q242_19 rfl (by decide) rfl ?_
    refine j_xlen (pc' := 21) q242_20 rfl ?_
    refine j_iconst (pc' := 22) q242_21 rfl ?_
    refine j_isub (pc' := 23) q242_22 rfl ?_
    refine j_icmp_gt (pc' := 26) q242_23 rfl (fun c2 => ?_) (fun c2 => ?_)
    · exact j_exit (j_forget (z_le_n (z_le_n (z_le_n (z_le_n (z_le_nil))))) (hX1 s1.2))
    · refine j_aload_n (pc' := 27) q242_26 rfl (by decide) rfl ?_
      refine j_iload_n (pc' := 28) q242_27 rfl rfl ?_
      refine j_if (fun hi3 => ?_) (fun _ => j_none)
      refine j_xald (pc' := 29) q242_28 hi3 rfl ?_
      refine j_bipush (pc' := 31) q242_29 rfl ?_
      refine j_iand (pc' := 32) q242_31 rfl ?_
      refine j_join (T := zS) 1536 (fun t4 => [.ref 4000, .ref 0, .ref 90, .int s1.1]) (fun t4 => []) (fun t4 => t4) (fun t4 => ?_) (fun j4 hj4 => ?_)
      · show z_J _ _ _ _ _ _ _ _ _ _ _ _
        refine j_iinc3 (pc' := 1539) q242_1536 rfl (Nat.le_of_ble_eq_true rfl) rfl ?_
        refine j_goto q242_1539 rfl ?_
        exact j_again (j_forget (z_le_s (z_le_s (z_le_s (z_le_s (z_le_nil))))) (hR1 ((s1.1 + (5 : Int32)), t4)))
      · show z_J _ _ _ _ _ _ _ _ _ _ _ _
        refine j_if (fun c5 => ?_) (fun c5 => ?_)
        · refine j_tin (pc' := 220) (j := 0) (off := 188) q242_32 c5 (Nat.le_of_ble_eq_true rfl) (by decide) rfl (by decide) ?_
          refine j_aload_n (pc' := 221) q242_220 rfl (by decide) rfl ?_
          refine j_aload_n (pc' := 222) q242_221 rfl (by decide) rfl ?_
          refine j_iload_n (pc' := 223) q242_222 rfl rfl ?_
          refine j_iconst (pc' := 224) q242_223 rfl ?_
          refine j_iadd (pc' := 225) q242_224 rfl ?_
          refine j_if (fun hi6 => ?_) (fun _ => j_none)
          refine j_xald (pc' := 226) q242_225 hi6 rfl ?_
          refine j_callV1_i (d := d + 13) (pc' := 229) q242_226 rfl (Nat.le_of_ble_eq_true rfl) (Nat.le_of_ble_eq_true rfl) rfl (t_Y_feed hρ (d + 12) _ _) (fun r7 => ?_)
          refine j_aload_n (pc' := 230) q242_229 rfl (by decide) rfl ?_
          refine j_aload_n (pc' := 231) q242_230 rfl (by decide) rfl ?_
          refine j_iload_n (pc' := 232) q242_231 rfl rfl ?_
          refine j_iconst (pc' := 233) q242_232 rfl ?_
          refine j_iadd (pc' := 234) q242_233 rfl ?_
          refine j_if (fun hi8 => ?_) (fun _ => j_none)
          refine j_xald (pc' := 235) q242_234 hi8 rfl ?_
          refine j_callV1_i (d := d + 13) (pc' := 238) q242_235 rfl (Nat.le_of_ble_eq_true rfl) (Nat.le_of_ble_eq_true rfl) rfl (t_M_feed hρ (d + 12) _ _) (fun r9 => ?_)
          refine j_icmp_eq (pc' := 241) q242_238 rfl (fun c10 => ?_) (fun c10 => ?_)
          · refine j_forget (z_le_s (z_le_s (z_le_s (z_le_s (z_le_nil))))) (hj4 r9.2)
          · refine j_iconst (pc' := 242) q242_241 rfl ?_
            refine j_exit ?_
            exact j_zret q242_242 rfl (Or.inl rfl)
        refine j_if (fun c11 => ?_) (fun c11 => ?_)
        · refine j_tin (pc' := 243) (j := 1) (off := 211) q242_32 c11 (Nat.le_of_ble_eq_true rfl) (by decide) rfl (by decide) ?_
          refine j_aload_n (pc' := 244) q242_243 rfl (by decide) rfl ?_
          refine j_aload_n (pc' := 245) q242_244 rfl (by decide) rfl ?_
          refine j_iload_n (pc' := 246) q242_245 rfl rfl ?_
          refine j_iconst (pc' := 247) q242_246 rfl ?_
          refine j_iadd (pc' := 248) q242_247 rfl ?_
          refine j_if (fun hi12 => ?_) (fun _ => j_none)
          refine j_xald (pc' := 249) q242_248 hi12 rfl ?_
          refine j_callV1_i (d := d + 13) (pc' := 252) q242_249 rfl (Nat.le_of_ble_eq_true rfl) (Nat.le_of_ble_eq_true rfl) rfl (t_Y_end hρ (d + 12) _ _) (fun r13 => ?_)
          refine j_aload_n (pc' := 253) q242_252 rfl (by decide) rfl ?_
          refine j_aload_n (pc' := 254) q242_253 rfl (by decide) rfl ?_
          refine j_iload_n (pc' := 255) q242_254 rfl rfl ?_
          refine j_iconst (pc' := 256) q242_255 rfl ?_
          refine j_iadd (pc' := 257) q242_256 rfl ?_
          refine j_if (fun hi14 => ?_) (fun _ => j_none)
          refine j_xald (pc' := 258) q242_257 hi14 rfl ?_
          refine j_callV1_i (d := d + 13) (pc' := 261) q242_258 rfl (Nat.le_of_ble_eq_true rfl) (Nat.le_of_ble_eq_true rfl) rfl (t_M_end hρ (d + 12) _ _) (fun r15 => ?_)
          refine j_icmp_eq (pc' := 264) q242_261 rfl (fun c16 => ?_) (fun c16 => ?_)
          · refine j_forget (z_le_s (z_le_s (z_le_s (z_le_s (z_le_nil))))) (hj4 r15.2)
          · refine j_iconst (pc' := 265) q242_264 rfl ?_
            refine j_exit ?_
            exact j_zret q242_265 rfl (Or.inl rfl)
        refine j_if (fun c17 => ?_) (fun c17 => ?_)
        · refine j_tin (pc' := 266) (j := 2) (off := 234) q242_32 c17 (Nat.le_of_ble_eq_true rfl) (by decide) rfl (by decide) ?_
          refine j_aload_n (pc' := 267) q242_266 rfl (by decide) rfl ?_
          refine j_callV0_i (d := d + 13) (pc' := 270) q242_267 rfl (Nat.le_of_ble_eq_true rfl) (Nat.le_of_ble_eq_true rfl) rfl (t_Y_text hρ (d + 4) _) (fun r18 => ?_)
          refine j_aload_n (pc' := 271) q242_270 rfl (by decide) rfl ?_
          refine j_callV0_i (d := d + 13) (pc' := 274) q242_271 rfl (Nat.le_of_ble_eq_true rfl) (Nat.le_of_ble_eq_true rfl) rfl (t_M_text hρ (d + 7) _) (fun r19 => ?_)
          refine j_icmp_eq (pc' := 277) q242_274 rfl (fun c20 => ?_) (fun c20 => ?_)
          · refine j_forget (z_le_s (z_le_s (z_le_s (z_le_s (z_le_nil))))) (hj4 r19.2)
          · refine j_iconst (pc' := 278) q242_277 rfl ?_
            refine j_exit ?_
            exact j_zret q242_278 rfl (Or.inl rfl)
        refine j_if (fun c21 => ?_) (fun c21 => ?_)
        · refine j_tin (pc' := 279) (j := 3) (off := 247) q242_32 c21 (Nat.le_of_ble_eq_true rfl) (by decide) rfl (by decide) ?_
          refine j_aload_n (pc' := 280) q242_279 rfl (by decide) rfl ?_
          refine j_callV0_pi (d := d + 13) (pc' := 283) q242_280 rfl (Nat.le_of_ble_eq_true rfl) (Nat.le_of_ble_eq_true rfl) rfl (t_Y_fault hρ (d + 13) _) (fun r22 => ?_)
          refine j_aload_n (pc' := 284) q242_283 rfl (by decide) rfl ?_
          refine j_callV0_pi (d := d + 13) (pc' := 287) q242_284 rfl (Nat.le_of_ble_eq_true rfl) (Nat.le_of_ble_eq_true rfl) rfl (t_M_fault hρ (d + 13) _) (fun r23 => ?_)
          refine j_icmp_eq (pc' := 290) q242_287 rfl (fun c24 => ?_) (fun c24 => ?_)
          · refine j_forget (z_le_s (z_le_s (z_le_s (z_le_s (z_le_nil))))) (hj4 s1.2)
          · refine j_iconst (pc' := 291) q242_290 rfl ?_
            refine j_exit ?_
            exact j_zret q242_291 rfl (Or.inl rfl)
        refine j_if (fun c25 => ?_) (fun c25 => ?_)
        · refine j_tin (pc' := 292) (j := 4) (off := 260) q242_32 c25 (Nat.le_of_ble_eq_true rfl) (by decide) rfl (by decide) ?_
          refine j_aload_n (pc' := 293) q242_292 rfl (by decide) rfl ?_
          refine j_aload_n (pc' := 294) q242_293 rfl (by decide) rfl ?_
          refine j_iload_n (pc' := 295) q242_294 rfl rfl ?_
          refine j_iconst (pc' := 296) q242_295 rfl ?_
          refine j_iadd (pc' := 297) q242_296 rfl ?_
          refine j_if (fun hi26 => ?_) (fun _ => j_none)
          refine j_xald (pc' := 298) q242_297 hi26 rfl ?_
          refine j_callV1_pi (d := d + 13) (pc' := 301) q242_298 rfl (Nat.le_of_ble_eq_true rfl) (Nat.le_of_ble_eq_true rfl) rfl (t_Y_rule hρ (d + 13) _ _) (fun r27 => ?_)
          refine j_aload_n (pc' := 302) q242_301 rfl (by decide) rfl ?_
          refine j_aload_n (pc' := 303) q242_302 rfl (by decide) rfl ?_
          refine j_iload_n (pc' := 304) q242_303 rfl rfl ?_
          refine j_iconst (pc' := 305) q242_304 rfl ?_
          refine j_iadd (pc' := 306) q242_305 rfl ?_
          refine j_if (fun hi28 => ?_) (fun _ => j_none)
          refine j_xald (pc' := 307) q242_306 hi28 rfl ?_
          refine j_callV1_pi (d := d + 13) (pc' := 310) q242_307 rfl (Nat.le_of_ble_eq_true rfl) (Nat.le_of_ble_eq_true rfl) rfl (t_M_rule hρ (d + 13) _ _) (fun r29 => ?_)
          refine j_icmp_eq (pc' := 313) q242_310 rfl (fun c30 => ?_) (fun c30 => ?_)
          · refine j_forget (z_le_s (z_le_s (z_le_s (z_le_s (z_le_nil))))) (hj4 s1.2)
          · refine j_iconst (pc' := 314) q242_313 rfl ?_
            refine j_exit ?_
            exact j_zret q242_314 rfl (Or.inl rfl)
        refine j_if (fun c31 => ?_) (fun c31 => ?_)
        · refine j_tin (pc' := 315) (j := 5) (off := 283) q242_32 c31 (Nat.le_of_ble_eq_true rfl) (by decide) rfl (by decide) ?_
          refine j_aload_n (pc' := 316) q242_315 rfl (by decide) rfl ?_
          refine j_aload_n (pc' := 317) q242_316 rfl (by decide) rfl ?_
          refine j_iload_n (pc' := 318) q242_317 rfl rfl ?_
          refine j_iconst (pc' := 319) q242_318 rfl ?_
          refine j_iadd (pc' := 320) q242_319 rfl ?_
          refine j_if (fun hi32 => ?_) (fun _ => j_none)
          refine j_xald (pc' := 321) q242_320 hi32 rfl ?_
          refine j_aload_n (pc' := 322) q242_321 rfl (by decide) rfl ?_
          refine j_iload_n (pc' := 323) q242_322 rfl rfl ?_
          refine j_iconst (pc' := 324) q242_323 rfl ?_
          refine j_iadd (pc' := 325) q242_324 rfl ?_
          refine j_if (fun hi33 => ?_) (fun _ => j_none)
          refine j_xald (pc' := 326) q242_325 hi33 rfl ?_
          refine j_callV2_pi (d := d + 13) (pc' := 329) q242_326 rfl (Nat.le_of_ble_eq_true rfl) (Nat.le_of_ble_eq_true rfl) rfl (t_Y_cell hρ (d + 10) _ _ _) (fun r34 => ?_)
          refine j_aload_n (pc' := 330) q242_329 rfl (by decide) rfl ?_
          refine j_aload_n (pc' := 331) q242_330 rfl (by decide) rfl ?_
          refine j_iload_n (pc' := 332) q242_331 rfl rfl ?_
          refine j_iconst (pc' := 333) q242_332 rfl ?_
          refine j_iadd (pc' := 334) q242_333 rfl ?_
          refine j_if (fun hi35 => ?_) (fun _ => j_none)
          refine j_xald (pc' := 335) q242_334 hi35 rfl ?_
          refine j_aload_n (pc' := 336) q242_335 rfl (by decide) rfl ?_
          refine j_iload_n (pc' := 337) q242_336 rfl rfl ?_
          refine j_iconst (pc' := 338) q242_337 rfl ?_
          refine j_iadd (pc' := 339) q242_338 rfl ?_
          refine j_if (fun hi36 => ?_) (fun _ => j_none)
          refine j_xald (pc' := 340) q242_339 hi36 rfl ?_
          refine j_callV2_pi (d := d + 13) (pc' := 343) q242_340 rfl (Nat.le_of_ble_eq_true rfl) (Nat.le_of_ble_eq_true rfl) rfl (t_M_cell hρ (d + 11) _ _ _) (fun r37 => ?_)
          refine j_icmp_eq (pc' := 346) q242_343 rfl (fun c38 => ?_) (fun c38 => ?_)
          · refine j_forget (z_le_s (z_le_s (z_le_s (z_le_s (z_le_nil))))) (hj4 s1.2)
          · refine j_iconst (pc' := 347) q242_346 rfl ?_
            refine j_exit ?_
            exact j_zret q242_347 rfl (Or.inl rfl)
        refine j_if (fun c39 => ?_) (fun c39 => ?_)
        · refine j_tin (pc' := 348) (j := 6) (off := 316) q242_32 c39 (Nat.le_of_ble_eq_true rfl) (by decide) rfl (by decide) ?_
          refine j_aload_n (pc' := 349) q242_348 rfl (by decide) rfl ?_
          refine j_aload_n (pc' := 350) q242_349 rfl (by decide) rfl ?_
          refine j_iload_n (pc' := 351) q242_350 rfl rfl ?_
          refine j_iconst (pc' := 352) q242_351 rfl ?_
          refine j_iadd (pc' := 353) q242_352 rfl ?_
          refine j_if (fun hi40 => ?_) (fun _ => j_none)
          refine j_xald (pc' := 354) q242_353 hi40 rfl ?_
          refine j_callV1_pi (d := d + 13) (pc' := 357) q242_354 rfl (Nat.le_of_ble_eq_true rfl) (Nat.le_of_ble_eq_true rfl) rfl (t_Y_edge hρ (d + 10) _ _) (fun r41 => ?_)
          refine j_aload_n (pc' := 358) q242_357 rfl (by decide) rfl ?_
          refine j_aload_n (pc' := 359) q242_358 rfl (by decide) rfl ?_
          refine j_iload_n (pc' := 360) q242_359 rfl rfl ?_
          refine j_iconst (pc' := 361) q242_360 rfl ?_
          refine j_iadd (pc' := 362) q242_361 rfl ?_
          refine j_if (fun hi42 => ?_) (fun _ => j_none)
          refine j_xald (pc' := 363) q242_362 hi42 rfl ?_
          refine j_callV1_pi (d := d + 13) (pc' := 366) q242_363 rfl (Nat.le_of_ble_eq_true rfl) (Nat.le_of_ble_eq_true rfl) rfl (t_M_edge hρ (d + 11) _ _) (fun r43 => ?_)
          refine j_icmp_eq (pc' := 369) q242_366 rfl (fun c44 => ?_) (fun c44 => ?_)
          · refine j_forget (z_le_s (z_le_s (z_le_s (z_le_s (z_le_nil))))) (hj4 s1.2)
          · refine j_iconst (pc' := 370) q242_369 rfl ?_
            refine j_exit ?_
            exact j_zret q242_370 rfl (Or.inl rfl)
        refine j_if (fun c45 => ?_) (fun c45 => ?_)
        · refine j_tin (pc' := 371) (j := 7) (off := 339) q242_32 c45 (Nat.le_of_ble_eq_true rfl) (by decide) rfl (by decide) ?_
          refine j_aload_n (pc' := 372) q242_371 rfl (by decide) rfl ?_
          refine j_aload_n (pc' := 373) q242_372 rfl (by decide) rfl ?_
          refine j_iload_n (pc' := 374) q242_373 rfl rfl ?_
          refine j_iconst (pc' := 375) q242_374 rfl ?_
          refine j_iadd (pc' := 376) q242_375 rfl ?_
          refine j_if (fun hi46 => ?_) (fun _ => j_none)
          refine j_xald (pc' := 377) q242_376 hi46 rfl ?_
          refine j_aload_n (pc' := 378) q242_377 rfl (by decide) rfl ?_
          refine j_iload_n (pc' := 379) q242_378 rfl rfl ?_
          refine j_iconst (pc' := 380) q242_379 rfl ?_
          refine j_iadd (pc' := 381) q242_380 rfl ?_
          refine j_if (fun hi47 => ?_) (fun _ => j_none)
          refine j_xald (pc' := 382) q242_381 hi47 rfl ?_
          refine j_callV2_pi (d := d + 13) (pc' := 385) q242_382 rfl (Nat.le_of_ble_eq_true rfl) (Nat.le_of_ble_eq_true rfl) rfl (t_Y_stock hρ (d + 11) _ _ _) (fun r48 => ?_)
          refine j_aload_n (pc' := 386) q242_385 rfl (by decide) rfl ?_
          refine j_aload_n (pc' := 387) q242_386 rfl (by decide) rfl ?_
          refine j_iload_n (pc' := 388) q242_387 rfl rfl ?_
          refine j_iconst (pc' := 389) q242_388 rfl ?_
          refine j_iadd (pc' := 390) q242_389 rfl ?_
          refine j_if (fun hi49 => ?_) (fun _ => j_none)
          refine j_xald (pc' := 391) q242_390 hi49 rfl ?_
          refine j_aload_n (pc' := 392) q242_391 rfl (by decide) rfl ?_
          refine j_iload_n (pc' := 393) q242_392 rfl rfl ?_
          refine j_iconst (pc' := 394) q242_393 rfl ?_
          refine j_iadd (pc' := 395) q242_394 rfl ?_
          refine j_if (fun hi50 => ?_) (fun _ => j_none)
          refine j_xald (pc' := 396) q242_395 hi50 rfl ?_
          refine j_callV2_pi (d := d + 13) (pc' := 399) q242_396 rfl (Nat.le_of_ble_eq_true rfl) (Nat.le_of_ble_eq_true rfl) rfl (t_M_stock hρ (d + 11) _ _ _) (fun r51 => ?_)
          refine j_icmp_eq (pc' := 402) q242_399 rfl (fun c52 => ?_) (fun c52 => ?_)
          · refine j_forget (z_le_s (z_le_s (z_le_s (z_le_s (z_le_nil))))) (hj4 s1.2)
          · refine j_iconst (pc' := 403) q242_402 rfl ?_
            refine j_exit ?_
            exact j_zret q242_403 rfl (Or.inl rfl)
        refine j_if (fun c53 => ?_) (fun c53 => ?_)
        · refine j_tin (pc' := 404) (j := 8) (off := 372) q242_32 c53 (Nat.le_of_ble_eq_true rfl) (by decide) rfl (by decide) ?_
          refine j_aload_n (pc' := 405) q242_404 rfl (by decide) rfl ?_
          refine j_aload_n (pc' := 406) q242_405 rfl (by decide) rfl ?_
          refine j_iload_n (pc' := 407) q242_406 rfl rfl ?_
          refine j_iconst (pc' := 408) q242_407 rfl ?_
          refine j_iadd (pc' := 409) q242_408 rfl ?_
          refine j_if (fun hi54 => ?_) (fun _ => j_none)
          refine j_xald (pc' := 410) q242_409 hi54 rfl ?_
          refine j_aload_n (pc' := 411) q242_410 rfl (by decide) rfl ?_
          refine j_iload_n (pc' := 412) q242_411 rfl rfl ?_
          refine j_iconst (pc' := 413) q242_412 rfl ?_
          refine j_iadd (pc' := 414) q242_413 rfl ?_
          refine j_if (fun hi55 => ?_) (fun _ => j_none)
          refine j_xald (pc' := 415) q242_414 hi55 rfl ?_
          refine j_callV2_pi (d := d + 13) (pc' := 418) q242_415 rfl (Nat.le_of_ble_eq_true rfl) (Nat.le_of_ble_eq_true rfl) rfl (t_Y_law hρ (d + 12) _ _ _) (fun r56 => ?_)
          refine j_aload_n (pc' := 419) q242_418 rfl (by decide) rfl ?_
          refine j_aload_n (pc' := 420) q242_419 rfl (by decide) rfl ?_
          refine j_iload_n (pc' := 421) q242_420 rfl rfl ?_
          refine j_iconst (pc' := 422) q242_421 rfl ?_
          refine j_iadd (pc' := 423) q242_422 rfl ?_
          refine j_if (fun hi57 => ?_) (fun _ => j_none)
          refine j_xald (pc' := 424) q242_423 hi57 rfl ?_
          refine j_aload_n (pc' := 425) q242_424 rfl (by decide) rfl ?_
          refine j_iload_n (pc' := 426) q242_425 rfl rfl ?_
          refine j_iconst (pc' := 427) q242_426 rfl ?_
          refine j_iadd (pc' := 428) q242_427 rfl ?_
          refine j_if (fun hi58 => ?_) (fun _ => j_none)
          refine j_xald (pc' := 429) q242_428 hi58 rfl ?_
          refine j_callV2_pi (d := d + 13) (pc' := 432) q242_429 rfl (Nat.le_of_ble_eq_true rfl) (Nat.le_of_ble_eq_true rfl) rfl (t_M_law hρ (d + 11) _ _ _) (fun r59 => ?_)
          refine j_icmp_eq (pc' := 435) q242_432 rfl (fun c60 => ?_) (fun c60 => ?_)
          · refine j_forget (z_le_s (z_le_s (z_le_s (z_le_s (z_le_nil))))) (hj4 s1.2)
          · refine j_iconst (pc' := 436) q242_435 rfl ?_
            refine j_exit ?_
            exact j_zret q242_436 rfl (Or.inl rfl)
        refine j_if (fun c61 => ?_) (fun c61 => ?_)
        · refine j_tin (pc' := 437) (j := 9) (off := 405) q242_32 c61 (Nat.le_of_ble_eq_true rfl) (by decide) rfl (by decide) ?_
          refine j_aload_n (pc' := 438) q242_437 rfl (by decide) rfl ?_
          refine j_aload_n (pc' := 439) q242_438 rfl (by decide) rfl ?_
          refine j_iload_n (pc' := 440) q242_439 rfl rfl ?_
          refine j_iconst (pc' := 441) q242_440 rfl ?_
          refine j_iadd (pc' := 442) q242_441 rfl ?_
          refine j_if (fun hi62 => ?_) (fun _ => j_none)
          refine j_xald (pc' := 443) q242_442 hi62 rfl ?_
          refine j_callV1_pi (d := d + 13) (pc' := 446) q242_443 rfl (Nat.le_of_ble_eq_true rfl) (Nat.le_of_ble_eq_true rfl) rfl (t_Y_ripe hρ (d + 12) _ _) (fun r63 => ?_)
          refine j_aload_n (pc' := 447) q242_446 rfl (by decide) rfl ?_
          refine j_aload_n (pc' := 448) q242_447 rfl (by decide) rfl ?_
          refine j_iload_n (pc' := 449) q242_448 rfl rfl ?_
          refine j_iconst (pc' := 450) q242_449 rfl ?_
          refine j_iadd (pc' := 451) q242_450 rfl ?_
          refine j_if (fun hi64 => ?_) (fun _ => j_none)
          refine j_xald (pc' := 452) q242_451 hi64 rfl ?_
          refine j_callV1_pi (d := d + 13) (pc' := 455) q242_452 rfl (Nat.le_of_ble_eq_true rfl) (Nat.le_of_ble_eq_true rfl) rfl (t_M_ripe hρ (d + 12) _ _) (fun r65 => ?_)
          refine j_icmp_eq (pc' := 458) q242_455 rfl (fun c66 => ?_) (fun c66 => ?_)
          · refine j_forget (z_le_s (z_le_s (z_le_s (z_le_s (z_le_nil))))) (hj4 s1.2)
          · refine j_iconst (pc' := 459) q242_458 rfl ?_
            refine j_exit ?_
            exact j_zret q242_459 rfl (Or.inl rfl)
        refine j_if (fun c67 => ?_) (fun c67 => ?_)
        · refine j_tin (pc' := 460) (j := 10) (off := 428) q242_32 c67 (Nat.le_of_ble_eq_true rfl) (by decide) rfl (by decide) ?_
          refine j_aload_n (pc' := 461) q242_460 rfl (by decide) rfl ?_
          refine j_aload_n (pc' := 462) q242_461 rfl (by decide) rfl ?_
          refine j_iload_n (pc' := 463) q242_462 rfl rfl ?_
          refine j_iconst (pc' := 464) q242_463 rfl ?_
          refine j_iadd (pc' := 465) q242_464 rfl ?_
          refine j_if (fun hi68 => ?_) (fun _ => j_none)
          refine j_xald (pc' := 466) q242_465 hi68 rfl ?_
          refine j_aload_n (pc' := 467) q242_466 rfl (by decide) rfl ?_
          refine j_iload_n (pc' := 468) q242_467 rfl rfl ?_
          refine j_iconst (pc' := 469) q242_468 rfl ?_
          refine j_iadd (pc' := 470) q242_469 rfl ?_
          refine j_if (fun hi69 => ?_) (fun _ => j_none)
          refine j_xald (pc' := 471) q242_470 hi69 rfl ?_
          refine j_aload_n (pc' := 472) q242_471 rfl (by decide) rfl ?_
          refine j_iload_n (pc' := 473) q242_472 rfl rfl ?_
          refine j_iconst (pc' := 474) q242_473 rfl ?_
          refine j_iadd (pc' := 475) q242_474 rfl ?_
          refine j_if (fun hi70 => ?_) (fun _ => j_none)
          refine j_xald (pc' := 476) q242_475 hi70 rfl ?_
          refine j_callV3_i (d := d + 13) (pc' := 479) q242_476 rfl (Nat.le_of_ble_eq_true rfl) (Nat.le_of_ble_eq_true rfl) rfl (t_Y_lay hρ (d + 9) _ _ _ _) (fun r71 => ?_)
          refine j_aload_n (pc' := 480) q242_479 rfl (by decide) rfl ?_
          refine j_aload_n (pc' := 481) q242_480 rfl (by decide) rfl ?_
          refine j_iload_n (pc' := 482) q242_481 rfl rfl ?_
          refine j_iconst (pc' := 483) q242_482 rfl ?_
          refine j_iadd (pc' := 484) q242_483 rfl ?_
          refine j_if (fun hi72 => ?_) (fun _ => j_none)
          refine j_xald (pc' := 485) q242_484 hi72 rfl ?_
          refine j_aload_n (pc' := 486) q242_485 rfl (by decide) rfl ?_
          refine j_iload_n (pc' := 487) q242_486 rfl rfl ?_
          refine j_iconst (pc' := 488) q242_487 rfl ?_
          refine j_iadd (pc' := 489) q242_488 rfl ?_
          refine j_if (fun hi73 => ?_) (fun _ => j_none)
          refine j_xald (pc' := 490) q242_489 hi73 rfl ?_
          refine j_aload_n (pc' := 491) q242_490 rfl (by decide) rfl ?_
          refine j_iload_n (pc' := 492) q242_491 rfl rfl ?_
          refine j_iconst (pc' := 493) q242_492 rfl ?_
          refine j_iadd (pc' := 494) q242_493 rfl ?_
          refine j_if (fun hi74 => ?_) (fun _ => j_none)
          refine j_xald (pc' := 495) q242_494 hi74 rfl ?_
          refine j_callV3_i (d := d + 13) (pc' := 498) q242_495 rfl (Nat.le_of_ble_eq_true rfl) (Nat.le_of_ble_eq_true rfl) rfl (t_M_lay hρ (d + 10) _ _ _ _) (fun r75 => ?_)
          refine j_icmp_eq (pc' := 501) q242_498 rfl (fun c76 => ?_) (fun c76 => ?_)
          · refine j_forget (z_le_s (z_le_s (z_le_s (z_le_s (z_le_nil))))) (hj4 r75.2)
          · refine j_iconst (pc' := 502) q242_501 rfl ?_
            refine j_exit ?_
            exact j_zret q242_502 rfl (Or.inl rfl)
        refine j_if (fun c77 => ?_) (fun c77 => ?_)
        · refine j_tin (pc' := 503) (j := 11) (off := 471) q242_32 c77 (Nat.le_of_ble_eq_true rfl) (by decide) rfl (by decide) ?_
          refine j_aload_n (pc' := 504) q242_503 rfl (by decide) rfl ?_
          refine j_aload_n (pc' := 505) q242_504 rfl (by decide) rfl ?_
          refine j_iload_n (pc' := 506) q242_505 rfl rfl ?_
          refine j_iconst (pc' := 507) q242_506 rfl ?_
          refine j_iadd (pc' := 508) q242_507 rfl ?_
          refine j_if (fun hi78 => ?_) (fun _ => j_none)
          refine j_xald (pc' := 509) q242_508 hi78 rfl ?_
          refine j_callV1_i (d := d + 13) (pc' := 512) q242_509 rfl (Nat.le_of_ble_eq_true rfl) (Nat.le_of_ble_eq_true rfl) rfl (t_Y_bare hρ (d + 10) _ _) (fun r79 => ?_)
          refine j_aload_n (pc' := 513) q242_512 rfl (by decide) rfl ?_
          refine j_aload_n (pc' := 514) q242_513 rfl (by decide) rfl ?_
          refine j_iload_n (pc' := 515) q242_514 rfl rfl ?_
          refine j_iconst (pc' := 516) q242_515 rfl ?_
          refine j_iadd (pc' := 517) q242_516 rfl ?_
          refine j_if (fun hi80 => ?_) (fun _ => j_none)
          refine j_xald (pc' := 518) q242_517 hi80 rfl ?_
          refine j_callV1_i (d := d + 13) (pc' := 521) q242_518 rfl (Nat.le_of_ble_eq_true rfl) (Nat.le_of_ble_eq_true rfl) rfl (t_M_bare hρ (d + 11) _ _) (fun r81 => ?_)
          refine j_icmp_eq (pc' := 524) q242_521 rfl (fun c82 => ?_) (fun c82 => ?_)
          · refine j_forget (z_le_s (z_le_s (z_le_s (z_le_s (z_le_nil))))) (hj4 r81.2)
          · refine j_iconst (pc' := 525) q242_524 rfl ?_
            refine j_exit ?_
            exact j_zret q242_525 rfl (Or.inl rfl)
        refine j_if (fun c83 => ?_) (fun c83 => ?_)
        · refine j_tin (pc' := 526) (j := 12) (off := 494) q242_32 c83 (Nat.le_of_ble_eq_true rfl) (by decide) rfl (by decide) ?_
          refine j_aload_n (pc' := 527) q242_526 rfl (by decide) rfl ?_
          refine j_aload_n (pc' := 528) q242_527 rfl (by decide) rfl ?_
          refine j_iload_n (pc' := 529) q242_528 rfl rfl ?_
          refine j_iconst (pc' := 530) q242_529 rfl ?_
          refine j_iadd (pc' := 531) q242_530 rfl ?_
          refine j_if (fun hi84 => ?_) (fun _ => j_none)
          refine j_xald (pc' := 532) q242_531 hi84 rfl ?_
          refine j_aload_n (pc' := 533) q242_532 rfl (by decide) rfl ?_
          refine j_iload_n (pc' := 534) q242_533 rfl rfl ?_
          refine j_iconst (pc' := 535) q242_534 rfl ?_
          refine j_iadd (pc' := 536) q242_535 rfl ?_
          refine j_if (fun hi85 => ?_) (fun _ => j_none)
          refine j_xald (pc' := 537) q242_536 hi85 rfl ?_
          refine j_callV2_i (d := d + 13) (pc' := 540) q242_537 rfl (Nat.le_of_ble_eq_true rfl) (Nat.le_of_ble_eq_true rfl) rfl (t_Y_sow hρ (d + 11) _ _ _) (fun r86 => ?_)
          refine j_aload_n (pc' := 541) q242_540 rfl (by decide) rfl ?_
          refine j_aload_n (pc' := 542) q242_541 rfl (by decide) rfl ?_
          refine j_iload_n (pc' := 543) q242_542 rfl rfl ?_
          refine j_iconst (pc' := 544) q242_543 rfl ?_
          refine j_iadd (pc' := 545) q242_544 rfl ?_
          refine j_if (fun hi87 => ?_) (fun _ => j_none)
          refine j_xald (pc' := 546) q242_545 hi87 rfl ?_
          refine j_aload_n (pc' := 547) q242_546 rfl (by decide) rfl ?_
          refine j_iload_n (pc' := 548) q242_547 rfl rfl ?_
          refine j_iconst (pc' := 549) q242_548 rfl ?_
          refine j_iadd (pc' := 550) q242_549 rfl ?_
          refine j_if (fun hi88 => ?_) (fun _ => j_none)
          refine j_xald (pc' := 551) q242_550 hi88 rfl ?_
          refine j_callV2_i (d := d + 13) (pc' := 554) q242_551 rfl (Nat.le_of_ble_eq_true rfl) (Nat.le_of_ble_eq_true rfl) rfl (t_M_sow hρ (d + 11) _ _ _) (fun r89 => ?_)
          refine j_icmp_eq (pc' := 557) q242_554 rfl (fun c90 => ?_) (fun c90 => ?_)
          · refine j_forget (z_le_s (z_le_s (z_le_s (z_le_s (z_le_nil))))) (hj4 r89.2)
          · refine j_iconst (pc' := 558) q242_557 rfl ?_
            refine j_exit ?_
            exact j_zret q242_558 rfl (Or.inl rfl)
        refine j_if (fun c91 => ?_) (fun c91 => ?_)
        · refine j_tin (pc' := 559) (j := 13) (off := 527) q242_32 c91 (Nat.le_of_ble_eq_true rfl) (by decide) rfl (by decide) ?_
          refine j_aload_n (pc' := 560) q242_559 rfl (by decide) rfl ?_
          refine j_aload_n (pc' := 561) q242_560 rfl (by decide) rfl ?_
          refine j_iload_n (pc' := 562) q242_561 rfl rfl ?_
          refine j_iconst (pc' := 563) q242_562 rfl ?_
          refine j_iadd (pc' := 564) q242_563 rfl ?_
          refine j_if (fun hi92 => ?_) (fun _ => j_none)
          refine j_xald (pc' := 565) q242_564 hi92 rfl ?_
          refine j_aload_n (pc' := 566) q242_565 rfl (by decide) rfl ?_
          refine j_iload_n (pc' := 567) q242_566 rfl rfl ?_
          refine j_iconst (pc' := 568) q242_567 rfl ?_
          refine j_iadd (pc' := 569) q242_568 rfl ?_
          refine j_if (fun hi93 => ?_) (fun _ => j_none)
          refine j_xald (pc' := 570) q242_569 hi93 rfl ?_
          refine j_callV2_i (d := d + 13) (pc' := 573) q242_570 rfl (Nat.le_of_ble_eq_true rfl) (Nat.le_of_ble_eq_true rfl) rfl (t_Y_own hρ (d + 11) _ _ _) (fun r94 => ?_)
          refine j_aload_n (pc' := 574) q242_573 rfl (by decide) rfl ?_
          refine j_aload_n (pc' := 575) q242_574 rfl (by decide) rfl ?_
          refine j_iload_n (pc' := 576) q242_575 rfl rfl ?_
          refine j_iconst (pc' := 577) q242_576 rfl ?_
          refine j_iadd (pc' := 578) q242_577 rfl ?_
          refine j_if (fun hi95 => ?_) (fun _ => j_none)
          refine j_xald (pc' := 579) q242_578 hi95 rfl ?_
          refine j_aload_n (pc' := 580) q242_579 rfl (by decide) rfl ?_
          refine j_iload_n (pc' := 581) q242_580 rfl rfl ?_
          refine j_iconst (pc' := 582) q242_581 rfl ?_
          refine j_iadd (pc' := 583) q242_582 rfl ?_
          refine j_if (fun hi96 => ?_) (fun _ => j_none)
          refine j_xald (pc' := 584) q242_583 hi96 rfl ?_
          refine j_callV2_i (d := d + 13) (pc' := 587) q242_584 rfl (Nat.le_of_ble_eq_true rfl) (Nat.le_of_ble_eq_true rfl) rfl (t_M_own hρ (d + 11) _ _ _) (fun r97 => ?_)
          refine j_icmp_eq (pc' := 590) q242_587 rfl (fun c98 => ?_) (fun c98 => ?_)
          · refine j_forget (z_le_s (z_le_s (z_le_s (z_le_s (z_le_nil))))) (hj4 r97.2)
          · refine j_iconst (pc' := 591) q242_590 rfl ?_
            refine j_exit ?_
            exact j_zret q242_591 rfl (Or.inl rfl)
        refine j_if (fun c99 => ?_) (fun c99 => ?_)
        · refine j_tin (pc' := 592) (j := 14) (off := 560) q242_32 c99 (Nat.le_of_ble_eq_true rfl) (by decide) rfl (by decide) ?_
          refine j_aload_n (pc' := 593) q242_592 rfl (by decide) rfl ?_
          refine j_aload_n (pc' := 594) q242_593 rfl (by decide) rfl ?_
          refine j_iload_n (pc' := 595) q242_594 rfl rfl ?_
          refine j_iconst (pc' := 596) q242_595 rfl ?_
          refine j_iadd (pc' := 597) q242_596 rfl ?_
          refine j_if (fun hi100 => ?_) (fun _ => j_none)
          refine j_xald (pc' := 598) q242_597 hi100 rfl ?_
          refine j_aload_n (pc' := 599) q242_598 rfl (by decide) rfl ?_
          refine j_iload_n (pc' := 600) q242_599 rfl rfl ?_
          refine j_iconst (pc' := 601) q242_600 rfl ?_
          refine j_iadd (pc' := 602) q242_601 rfl ?_
          refine j_if (fun hi101 => ?_) (fun _ => j_none)
          refine j_xald (pc' := 603) q242_602 hi101 rfl ?_
          refine j_join (T := Int32 × Int32) 611 (fun t102 => [.ref 4000, .ref 0, .ref 90, .int s1.1]) (fun t102 => [.int t102.1, .int t102.2, .ref 0]) (fun t102 => s1.2) (fun t102 => ?_) (fun j102 hj102 => ?_)
          · show z_J _ _ _ _ _ _ _ _ _ _ _ _
            refine j_callV2_i (d := d + 13) (pc' := 614) q242_611 rfl (Nat.le_of_ble_eq_true rfl) (Nat.le_of_ble_eq_true rfl) rfl (t_Y_wall hρ (d + 10) _ _ _) (fun r103 => ?_)
            refine j_aload_n (pc' := 615) q242_614 rfl (by decide) rfl ?_
            refine j_aload_n (pc' := 616) q242_615 rfl (by decide) rfl ?_
            refine j_iload_n (pc' := 617) q242_616 rfl rfl ?_
            refine j_iconst (pc' := 618) q242_617 rfl ?_
            refine j_iadd (pc' := 619) q242_618 rfl ?_
            refine j_if (fun hi104 => ?_) (fun _ => j_none)
            refine j_xald (pc' := 620) q242_619 hi104 rfl ?_
            refine j_aload_n (pc' := 621) q242_620 rfl (by decide) rfl ?_
            refine j_iload_n (pc' := 622) q242_621 rfl rfl ?_
            refine j_iconst (pc' := 623) q242_622 rfl ?_
            refine j_iadd (pc' := 624) q242_623 rfl ?_
            refine j_if (fun hi105 => ?_) (fun _ => j_none)
            refine j_xald (pc' := 625) q242_624 hi105 rfl ?_
            refine j_join (T := Int32 × Int32 × Int32) 633 (fun t106 => [.ref 4000, .ref 0, .ref 90, .int s1.1]) (fun t106 => [.int t106.1, .int t106.2.1, .ref 90, .int t106.2.2]) (fun t106 => r103.2) (fun t106 => ?_) (fun j106 hj106 => ?_)
            · show z_J _ _ _ _ _ _ _ _ _ _ _ _
              refine j_callV2_i (d := d + 13) (pc' := 636) q242_633 rfl (Nat.le_of_ble_eq_true rfl) (Nat.le_of_ble_eq_true rfl) rfl (t_M_wall hρ (d + 11) _ _ _) (fun r107 => ?_)
              refine j_icmp_eq (pc' := 639) q242_636 rfl (fun c108 => ?_) (fun c108 => ?_)
              · refine j_forget (z_le_s (z_le_s (z_le_s (z_le_s (z_le_nil))))) (hj4 r107.2)
              · refine j_iconst (pc' := 640) q242_639 rfl ?_
                refine j_exit ?_
                exact j_zret q242_640 rfl (Or.inl rfl)
            · show z_J _ _ _ _ _ _ _ _ _ _ _ _
              refine j_if_eq (pc' := 628) q242_625 rfl (fun c109 => ?_) (fun c109 => ?_)
              · refine j_iconst (pc' := 633) q242_632 rfl ?_
                refine j_forget (z_le_s (z_le_s (z_le_s (z_le_s (z_le_nil))))) (hj106 ((0 : Int32), (xs (s1.1 + (1 : Int32)).toNatClampNeg), r103.1))
              · refine j_iconst (pc' := 629) q242_628 rfl ?_
                refine j_goto q242_629 rfl ?_
                refine j_forget (z_le_s (z_le_s (z_le_s (z_le_s (z_le_nil))))) (hj106 ((1 : Int32), (xs (s1.1 + (1 : Int32)).toNatClampNeg), r103.1))
          · show z_J _ _ _ _ _ _ _ _ _ _ _ _
            refine j_if_eq (pc' := 606) q242_603 rfl (fun c110 => ?_) (fun c110 => ?_)
            · refine j_iconst (pc' := 611) q242_610 rfl ?_
              refine j_forget (z_le_s (z_le_s (z_le_s (z_le_s (z_le_nil))))) (hj102 ((0 : Int32), (xs (s1.1 + (1 : Int32)).toNatClampNeg)))
            · refine j_iconst (pc' := 607) q242_606 rfl ?_
              refine j_goto q242_607 rfl ?_
              refine j_forget (z_le_s (z_le_s (z_le_s (z_le_s (z_le_nil))))) (hj102 ((1 : Int32), (xs (s1.1 + (1 : Int32)).toNatClampNeg)))
        refine j_if (fun c111 => ?_) (fun c111 => ?_)
        · refine j_tin (pc' := 641) (j := 15) (off := 609) q242_32 c111 (Nat.le_of_ble_eq_true rfl) (by decide) rfl (by decide) ?_
          refine j_aload_n (pc' := 642) q242_641 rfl (by decide) rfl ?_
          refine j_aload_n (pc' := 643) q242_642 rfl (by decide) rfl ?_
          refine j_iload_n (pc' := 644) q242_643 rfl rfl ?_
          refine j_iconst (pc' := 645) q242_644 rfl ?_
          refine j_iadd (pc' := 646) q242_645 rfl ?_
          refine j_if (fun hi112 => ?_) (fun _ => j_none)
          refine j_xald (pc' := 647) q242_646 hi112 rfl ?_
          refine j_aload_n (pc' := 648) q242_647 rfl (by decide) rfl ?_
          refine j_iload_n (pc' := 649) q242_648 rfl rfl ?_
          refine j_iconst (pc' := 650) q242_649 rfl ?_
          refine j_iadd (pc' := 651) q242_650 rfl ?_
          refine j_if (fun hi113 => ?_) (fun _ => j_none)
          refine j_xald (pc' := 652) q242_651 hi113 rfl ?_
          refine j_callV2_i (d := d + 13) (pc' := 655) q242_652 rfl (Nat.le_of_ble_eq_true rfl) (Nat.le_of_ble_eq_true rfl) rfl (t_Y_store hρ (d + 11) _ _ _) (fun r114 => ?_)
          refine j_aload_n (pc' := 656) q242_655 rfl (by decide) rfl ?_
          refine j_aload_n (pc' := 657) q242_656 rfl (by decide) rfl ?_
          refine j_iload_n (pc' := 658) q242_657 rfl rfl ?_
          refine j_iconst (pc' := 659) q242_658 rfl ?_
          refine j_iadd (pc' := 660) q242_659 rfl ?_
          refine j_if (fun hi115 => ?_) (fun _ => j_none)
          refine j_xald (pc' := 661) q242_660 hi115 rfl ?_
          refine j_aload_n (pc' := 662) q242_661 rfl (by decide) rfl ?_
          refine j_iload_n (pc' := 663) q242_662 rfl rfl ?_
          refine j_iconst (pc' := 664) q242_663 rfl ?_
          refine j_iadd (pc' := 665) q242_664 rfl ?_
          refine j_if (fun hi116 => ?_) (fun _ => j_none)
          refine j_xald (pc' := 666) q242_665 hi116 rfl ?_
          refine j_callV2_i (d := d + 13) (pc' := 669) q242_666 rfl (Nat.le_of_ble_eq_true rfl) (Nat.le_of_ble_eq_true rfl) rfl (t_M_store hρ (d + 11) _ _ _) (fun r117 => ?_)
          refine j_icmp_eq (pc' := 672) q242_669 rfl (fun c118 => ?_) (fun c118 => ?_)
          · refine j_forget (z_le_s (z_le_s (z_le_s (z_le_s (z_le_nil))))) (hj4 r117.2)
          · refine j_iconst (pc' := 673) q242_672 rfl ?_
            refine j_exit ?_
            exact j_zret q242_673 rfl (Or.inl rfl)
        refine j_if (fun c119 => ?_) (fun c119 => ?_)
        · refine j_tin (pc' := 674) (j := 16) (off := 642) q242_32 c119 (Nat.le_of_ble_eq_true rfl) (by decide) rfl (by decide) ?_
          refine j_aload_n (pc' := 675) q242_674 rfl (by decide) rfl ?_
          refine j_aload_n (pc' := 676) q242_675 rfl (by decide) rfl ?_
          refine j_iload_n (pc' := 677) q242_676 rfl rfl ?_
          refine j_iconst (pc' := 678) q242_677 rfl ?_
          refine j_iadd (pc' := 679) q242_678 rfl ?_
          refine j_if (fun hi120 => ?_) (fun _ => j_none)
          refine j_xald (pc' := 680) q242_679 hi120 rfl ?_
          refine j_aload_n (pc' := 681) q242_680 rfl (by decide) rfl ?_
          refine j_iload_n (pc' := 682) q242_681 rfl rfl ?_
          refine j_iconst (pc' := 683) q242_682 rfl ?_
          refine j_iadd (pc' := 684) q242_683 rfl ?_
          refine j_if (fun hi121 => ?_) (fun _ => j_none)
          refine j_xald (pc' := 685) q242_684 hi121 rfl ?_
          refine j_callV2_i (d := d + 13) (pc' := 688) q242_685 rfl (Nat.le_of_ble_eq_true rfl) (Nat.le_of_ble_eq_true rfl) rfl (t_Y_price hρ (d + 11) _ _ _) (fun r122 => ?_)
          refine j_aload_n (pc' := 689) q242_688 rfl (by decide) rfl ?_
          refine j_aload_n (pc' := 690) q242_689 rfl (by decide) rfl ?_
          refine j_iload_n (pc' := 691) q242_690 rfl rfl ?_
          refine j_iconst (pc' := 692) q242_691 rfl ?_
          refine j_iadd (pc' := 693) q242_692 rfl ?_
          refine j_if (fun hi123 => ?_) (fun _ => j_none)
          refine j_xald (pc' := 694) q242_693 hi123 rfl ?_
          refine j_aload_n (pc' := 695) q242_694 rfl (by decide) rfl ?_
          refine j_iload_n (pc' := 696) q242_695 rfl rfl ?_
          refine j_iconst (pc' := 697) q242_696 rfl ?_
          refine j_iadd (pc' := 698) q242_697 rfl ?_
          refine j_if (fun hi124 => ?_) (fun _ => j_none)
          refine j_xald (pc' := 699) q242_698 hi124 rfl ?_
          refine j_callV2_i (d := d + 13) (pc' := 702) q242_699 rfl (Nat.le_of_ble_eq_true rfl) (Nat.le_of_ble_eq_true rfl) rfl (t_M_price hρ (d + 11) _ _ _) (fun r125 => ?_)
          refine j_icmp_eq (pc' := 705) q242_702 rfl (fun c126 => ?_) (fun c126 => ?_)
          · refine j_forget (z_le_s (z_le_s (z_le_s (z_le_s (z_le_nil))))) (hj4 r125.2)
          · refine j_iconst (pc' := 706) q242_705 rfl ?_
            refine j_exit ?_
            exact j_zret q242_706 rfl (Or.inl rfl)
        refine j_if (fun c127 => ?_) (fun c127 => ?_)
        · refine j_tin (pc' := 707) (j := 17) (off := 675) q242_32 c127 (Nat.le_of_ble_eq_true rfl) (by decide) rfl (by decide) ?_
          refine j_aload_n (pc' := 708) q242_707 rfl (by decide) rfl ?_
          refine j_aload_n (pc' := 709) q242_708 rfl (by decide) rfl ?_
          refine j_iload_n (pc' := 710) q242_709 rfl rfl ?_
          refine j_iconst (pc' := 711) q242_710 rfl ?_
          refine j_iadd (pc' := 712) q242_711 rfl ?_
          refine j_if (fun hi128 => ?_) (fun _ => j_none)
          refine j_xald (pc' := 713) q242_712 hi128 rfl ?_
          refine j_callV1_i (d := d + 13) (pc' := 716) q242_713 rfl (Nat.le_of_ble_eq_true rfl) (Nat.le_of_ble_eq_true rfl) rfl (t_Y_fund hρ (d + 12) _ _) (fun r129 => ?_)
          refine j_aload_n (pc' := 717) q242_716 rfl (by decide) rfl ?_
          refine j_aload_n (pc' := 718) q242_717 rfl (by decide) rfl ?_
          refine j_iload_n (pc' := 719) q242_718 rfl rfl ?_
          refine j_iconst (pc' := 720) q242_719 rfl ?_
          refine j_iadd (pc' := 721) q242_720 rfl ?_
          refine j_if (fun hi130 => ?_) (fun _ => j_none)
          refine j_xald (pc' := 722) q242_721 hi130 rfl ?_
          refine j_callV1_i (d := d + 13) (pc' := 725) q242_722 rfl (Nat.le_of_ble_eq_true rfl) (Nat.le_of_ble_eq_true rfl) rfl (t_M_fund hρ (d + 12) _ _) (fun r131 => ?_)
          refine j_icmp_eq (pc' := 728) q242_725 rfl (fun c132 => ?_) (fun c132 => ?_)
          · refine j_forget (z_le_s (z_le_s (z_le_s (z_le_s (z_le_nil))))) (hj4 r131.2)
          · refine j_iconst (pc' := 729) q242_728 rfl ?_
            refine j_exit ?_
            exact j_zret q242_729 rfl (Or.inl rfl)
        refine j_if (fun c133 => ?_) (fun c133 => ?_)
        · refine j_tin (pc' := 730) (j := 18) (off := 698) q242_32 c133 (Nat.le_of_ble_eq_true rfl) (by decide) rfl (by decide) ?_
          refine j_aload_n (pc' := 731) q242_730 rfl (by decide) rfl ?_
          refine j_aload_n (pc' := 732) q242_731 rfl (by decide) rfl ?_
          refine j_iload_n (pc' := 733) q242_732 rfl rfl ?_
          refine j_iconst (pc' := 734) q242_733 rfl ?_
          refine j_iadd (pc' := 735) q242_734 rfl ?_
          refine j_if (fun hi134 => ?_) (fun _ => j_none)
          refine j_xald (pc' := 736) q242_735 hi134 rfl ?_
          refine j_aload_n (pc' := 737) q242_736 rfl (by decide) rfl ?_
          refine j_iload_n (pc' := 738) q242_737 rfl rfl ?_
          refine j_iconst (pc' := 739) q242_738 rfl ?_
          refine j_iadd (pc' := 740) q242_739 rfl ?_
          refine j_if (fun hi135 => ?_) (fun _ => j_none)
          refine j_xald (pc' := 741) q242_740 hi135 rfl ?_
          refine j_callV2_i (d := d + 13) (pc' := 744) q242_741 rfl (Nat.le_of_ble_eq_true rfl) (Nat.le_of_ble_eq_true rfl) rfl (t_Y_bite hρ (d + 12) _ _ _) (fun r136 => ?_)
          refine j_aload_n (pc' := 745) q242_744 rfl (by decide) rfl ?_
          refine j_aload_n (pc' := 746) q242_745 rfl (by decide) rfl ?_
          refine j_iload_n (pc' := 747) q242_746 rfl rfl ?_
          refine j_iconst (pc' := 748) q242_747 rfl ?_
          refine j_iadd (pc' := 749) q242_748 rfl ?_
          refine j_if (fun hi137 => ?_) (fun _ => j_none)
          refine j_xald (pc' := 750) q242_749 hi137 rfl ?_
          refine j_aload_n (pc' := 751) q242_750 rfl (by decide) rfl ?_
          refine j_iload_n (pc' := 752) q242_751 rfl rfl ?_
          refine j_iconst (pc' := 753) q242_752 rfl ?_
          refine j_iadd (pc' := 754) q242_753 rfl ?_
          refine j_if (fun hi138 => ?_) (fun _ => j_none)
          refine j_xald (pc' := 755) q242_754 hi138 rfl ?_
          refine j_callV2_i (d := d + 13) (pc' := 758) q242_755 rfl (Nat.le_of_ble_eq_true rfl) (Nat.le_of_ble_eq_true rfl) rfl (t_M_bite hρ (d + 11) _ _ _) (fun r139 => ?_)
          refine j_icmp_eq (pc' := 761) q242_758 rfl (fun c140 => ?_) (fun c140 => ?_)
          · refine j_forget (z_le_s (z_le_s (z_le_s (z_le_s (z_le_nil))))) (hj4 r139.2)
          · refine j_iconst (pc' := 762) q242_761 rfl ?_
            refine j_exit ?_
            exact j_zret q242_762 rfl (Or.inl rfl)
        refine j_if (fun c141 => ?_) (fun c141 => ?_)
        · refine j_tin (pc' := 763) (j := 19) (off := 731) q242_32 c141 (Nat.le_of_ble_eq_true rfl) (by decide) rfl (by decide) ?_
          refine j_aload_n (pc' := 764) q242_763 rfl (by decide) rfl ?_
          refine j_aload_n (pc' := 765) q242_764 rfl (by decide) rfl ?_
          refine j_iload_n (pc' := 766) q242_765 rfl rfl ?_
          refine j_iconst (pc' := 767) q242_766 rfl ?_
          refine j_iadd (pc' := 768) q242_767 rfl ?_
          refine j_if (fun hi142 => ?_) (fun _ => j_none)
          refine j_xald (pc' := 769) q242_768 hi142 rfl ?_
          refine j_callV1_i (d := d + 13) (pc' := 772) q242_769 rfl (Nat.le_of_ble_eq_true rfl) (Nat.le_of_ble_eq_true rfl) rfl (t_Y_week hρ (d + 6) _ _) (fun r143 => ?_)
          refine j_aload_n (pc' := 773) q242_772 rfl (by decide) rfl ?_
          refine j_aload_n (pc' := 774) q242_773 rfl (by decide) rfl ?_
          refine j_iload_n (pc' := 775) q242_774 rfl rfl ?_
          refine j_iconst (pc' := 776) q242_775 rfl ?_
          refine j_iadd (pc' := 777) q242_776 rfl ?_
          refine j_if (fun hi144 => ?_) (fun _ => j_none)
          refine j_xald (pc' := 778) q242_777 hi144 rfl ?_
          refine j_callV1_i (d := d + 13) (pc' := 781) q242_778 rfl (Nat.le_of_ble_eq_true rfl) (Nat.le_of_ble_eq_true rfl) rfl (t_M_week hρ (d + 9) _ _) (fun r145 => ?_)
          refine j_icmp_eq (pc' := 784) q242_781 rfl (fun c146 => ?_) (fun c146 => ?_)
          · refine j_forget (z_le_s (z_le_s (z_le_s (z_le_s (z_le_nil))))) (hj4 r145.2)
          · refine j_iconst (pc' := 785) q242_784 rfl ?_
            refine j_exit ?_
            exact j_zret q242_785 rfl (Or.inl rfl)
        refine j_if (fun c147 => ?_) (fun c147 => ?_)
        · refine j_tin (pc' := 786) (j := 20) (off := 754) q242_32 c147 (Nat.le_of_ble_eq_true rfl) (by decide) rfl (by decide) ?_
          refine j_aload_n (pc' := 787) q242_786 rfl (by decide) rfl ?_
          refine j_aload_n (pc' := 788) q242_787 rfl (by decide) rfl ?_
          refine j_iload_n (pc' := 789) q242_788 rfl rfl ?_
          refine j_iconst (pc' := 790) q242_789 rfl ?_
          refine j_iadd (pc' := 791) q242_790 rfl ?_
          refine j_if (fun hi148 => ?_) (fun _ => j_none)
          refine j_xald (pc' := 792) q242_791 hi148 rfl ?_
          refine j_aload_n (pc' := 793) q242_792 rfl (by decide) rfl ?_
          refine j_iload_n (pc' := 794) q242_793 rfl rfl ?_
          refine j_iconst (pc' := 795) q242_794 rfl ?_
          refine j_iadd (pc' := 796) q242_795 rfl ?_
          refine j_if (fun hi149 => ?_) (fun _ => j_none)
          refine j_xald (pc' := 797) q242_796 hi149 rfl ?_
          refine j_aload_n (pc' := 798) q242_797 rfl (by decide) rfl ?_
          refine j_iload_n (pc' := 799) q242_798 rfl rfl ?_
          refine j_iconst (pc' := 800) q242_799 rfl ?_
          refine j_iadd (pc' := 801) q242_800 rfl ?_
          refine j_if (fun hi150 => ?_) (fun _ => j_none)
          refine j_xald (pc' := 802) q242_801 hi150 rfl ?_
          refine j_callV3_i (d := d + 13) (pc' := 805) q242_802 rfl (Nat.le_of_ble_eq_true rfl) (Nat.le_of_ble_eq_true rfl) rfl (t_Y_ahead hρ (d + 6) _ _ _ _) (fun r151 => ?_)
          refine j_aload_n (pc' := 806) q242_805 rfl (by decide) rfl ?_
          refine j_aload_n (pc' := 807) q242_806 rfl (by decide) rfl ?_
          refine j_iload_n (pc' := 808) q242_807 rfl rfl ?_
          refine j_iconst (pc' := 809) q242_808 rfl ?_
          refine j_iadd (pc' := 810) q242_809 rfl ?_
          refine j_if (fun hi152 => ?_) (fun _ => j_none)
          refine j_xald (pc' := 811) q242_810 hi152 rfl ?_
          refine j_aload_n (pc' := 812) q242_811 rfl (by decide) rfl ?_
          refine j_iload_n (pc' := 813) q242_812 rfl rfl ?_
          refine j_iconst (pc' := 814) q242_813 rfl ?_
          refine j_iadd (pc' := 815) q242_814 rfl ?_
          refine j_if (fun hi153 => ?_) (fun _ => j_none)
          refine j_xald (pc' := 816) q242_815 hi153 rfl ?_
          refine j_aload_n (pc' := 817) q242_816 rfl (by decide) rfl ?_
          refine j_iload_n (pc' := 818) q242_817 rfl rfl ?_
          refine j_iconst (pc' := 819) q242_818 rfl ?_
          refine j_iadd (pc' := 820) q242_819 rfl ?_
          refine j_if (fun hi154 => ?_) (fun _ => j_none)
          refine j_xald (pc' := 821) q242_820 hi154 rfl ?_
          refine j_callV3_i (d := d + 13) (pc' := 824) q242_821 rfl (Nat.le_of_ble_eq_true rfl) (Nat.le_of_ble_eq_true rfl) rfl (t_M_ahead hρ (d + 9) _ _ _ _) (fun r155 => ?_)
          refine j_icmp_eq (pc' := 827) q242_824 rfl (fun c156 => ?_) (fun c156 => ?_)
          · refine j_forget (z_le_s (z_le_s (z_le_s (z_le_s (z_le_nil))))) (hj4 r155.2)
          · refine j_iconst (pc' := 828) q242_827 rfl ?_
            refine j_exit ?_
            exact j_zret q242_828 rfl (Or.inl rfl)
        refine j_if (fun c157 => ?_) (fun c157 => ?_)
        · refine j_tin (pc' := 829) (j := 21) (off := 797) q242_32 c157 (Nat.le_of_ble_eq_true rfl) (by decide) rfl (by decide) ?_
          refine j_aload_n (pc' := 830) q242_829 rfl (by decide) rfl ?_
          refine j_callV0_i (d := d + 13) (pc' := 833) q242_830 rfl (Nat.le_of_ble_eq_true rfl) (Nat.le_of_ble_eq_true rfl) rfl (t_Y_spreads hρ (d + 7) _) (fun r158 => ?_)
          refine j_aload_n (pc' := 834) q242_833 rfl (by decide) rfl ?_
          refine j_callV0_pi (d := d + 13) (pc' := 837) q242_834 rfl (Nat.le_of_ble_eq_true rfl) (Nat.le_of_ble_eq_true rfl) rfl (t_M_spreads hρ (d + 10) _) (fun r159 => ?_)
          refine j_icmp_eq (pc' := 840) q242_837 rfl (fun c160 => ?_) (fun c160 => ?_)
          · refine j_forget (z_le_s (z_le_s (z_le_s (z_le_s (z_le_nil))))) (hj4 r158.2)
          · refine j_iconst (pc' := 841) q242_840 rfl ?_
            refine j_exit ?_
            exact j_zret q242_841 rfl (Or.inl rfl)
        refine j_if (fun c161 => ?_) (fun c161 => ?_)
        · refine j_tin (pc' := 842) (j := 22) (off := 810) q242_32 c161 (Nat.le_of_ble_eq_true rfl) (by decide) rfl (by decide) ?_
          refine j_aload_n (pc' := 843) q242_842 rfl (by decide) rfl ?_
          refine j_aload_n (pc' := 844) q242_843 rfl (by decide) rfl ?_
          refine j_iload_n (pc' := 845) q242_844 rfl rfl ?_
          refine j_iconst (pc' := 846) q242_845 rfl ?_
          refine j_iadd (pc' := 847) q242_846 rfl ?_
          refine j_if (fun hi162 => ?_) (fun _ => j_none)
          refine j_xald (pc' := 848) q242_847 hi162 rfl ?_
          refine j_aload_n (pc' := 849) q242_848 rfl (by decide) rfl ?_
          refine j_iload_n (pc' := 850) q242_849 rfl rfl ?_
          refine j_iconst (pc' := 851) q242_850 rfl ?_
          refine j_iadd (pc' := 852) q242_851 rfl ?_
          refine j_if (fun hi163 => ?_) (fun _ => j_none)
          refine j_xald (pc' := 853) q242_852 hi163 rfl ?_
          refine j_callV2_i (d := d + 13) (pc' := 856) q242_853 rfl (Nat.le_of_ble_eq_true rfl) (Nat.le_of_ble_eq_true rfl) rfl (t_Y_comes hρ (d + 6) _ _ _) (fun r164 => ?_)
          refine j_aload_n (pc' := 857) q242_856 rfl (by decide) rfl ?_
          refine j_aload_n (pc' := 858) q242_857 rfl (by decide) rfl ?_
          refine j_iload_n (pc' := 859) q242_858 rfl rfl ?_
          refine j_iconst (pc' := 860) q242_859 rfl ?_
          refine j_iadd (pc' := 861) q242_860 rfl ?_
          refine j_if (fun hi165 => ?_) (fun _ => j_none)
          refine j_xald (pc' := 862) q242_861 hi165 rfl ?_
          refine j_aload_n (pc' := 863) q242_862 rfl (by decide) rfl ?_
          refine j_iload_n (pc' := 864) q242_863 rfl rfl ?_
          refine j_iconst (pc' := 865) q242_864 rfl ?_
          refine j_iadd (pc' := 866) q242_865 rfl ?_
          refine j_if (fun hi166 => ?_) (fun _ => j_none)
          refine j_xald (pc' := 867) q242_866 hi166 rfl ?_
          refine j_callV2_i (d := d + 13) (pc' := 870) q242_867 rfl (Nat.le_of_ble_eq_true rfl) (Nat.le_of_ble_eq_true rfl) rfl (t_M_comes hρ (d + 8) _ _ _) (fun r167 => ?_)
          refine j_icmp_eq (pc' := 873) q242_870 rfl (fun c168 => ?_) (fun c168 => ?_)
          · refine j_forget (z_le_s (z_le_s (z_le_s (z_le_s (z_le_nil))))) (hj4 r167.2)
          · refine j_iconst (pc' := 874) q242_873 rfl ?_
            refine j_exit ?_
            exact j_zret q242_874 rfl (Or.inl rfl)
        refine j_if (fun c169 => ?_) (fun c169 => ?_)
        · refine j_tin (pc' := 875) (j := 23) (off := 843) q242_32 c169 (Nat.le_of_ble_eq_true rfl) (by decide) rfl (by decide) ?_
          refine j_aload_n (pc' := 876) q242_875 rfl (by decide) rfl ?_
          refine j_aload_n (pc' := 877) q242_876 rfl (by decide) rfl ?_
          refine j_iload_n (pc' := 878) q242_877 rfl rfl ?_
          refine j_iconst (pc' := 879) q242_878 rfl ?_
          refine j_iadd (pc' := 880) q242_879 rfl ?_
          refine j_if (fun hi170 => ?_) (fun _ => j_none)
          refine j_xald (pc' := 881) q242_880 hi170 rfl ?_
          refine j_callV1_i (d := d + 13) (pc' := 884) q242_881 rfl (Nat.le_of_ble_eq_true rfl) (Nat.le_of_ble_eq_true rfl) rfl (t_Y_when hρ (d + 6) _ _) (fun r171 => ?_)
          refine j_aload_n (pc' := 885) q242_884 rfl (by decide) rfl ?_
          refine j_aload_n (pc' := 886) q242_885 rfl (by decide) rfl ?_
          refine j_iload_n (pc' := 887) q242_886 rfl rfl ?_
          refine j_iconst (pc' := 888) q242_887 rfl ?_
          refine j_iadd (pc' := 889) q242_888 rfl ?_
          refine j_if (fun hi172 => ?_) (fun _ => j_none)
          refine j_xald (pc' := 890) q242_889 hi172 rfl ?_
          refine j_callV1_i (d := d + 13) (pc' := 893) q242_890 rfl (Nat.le_of_ble_eq_true rfl) (Nat.le_of_ble_eq_true rfl) rfl (t_M_when hρ (d + 9) _ _) (fun r173 => ?_)
          refine j_icmp_eq (pc' := 896) q242_893 rfl (fun c174 => ?_) (fun c174 => ?_)
          · refine j_forget (z_le_s (z_le_s (z_le_s (z_le_s (z_le_nil))))) (hj4 r173.2)
          · refine j_iconst (pc' := 897) q242_896 rfl ?_
            refine j_exit ?_
            exact j_zret q242_897 rfl (Or.inl rfl)
        refine j_if (fun c175 => ?_) (fun c175 => ?_)
        · refine j_tin (pc' := 898) (j := 24) (off := 866) q242_32 c175 (Nat.le_of_ble_eq_true rfl) (by decide) rfl (by decide) ?_
          refine j_aload_n (pc' := 899) q242_898 rfl (by decide) rfl ?_
          refine j_callV0_i (d := d + 13) (pc' := 902) q242_899 rfl (Nat.le_of_ble_eq_true rfl) (Nat.le_of_ble_eq_true rfl) rfl (t_Y_again hρ (d + 6) _) (fun r176 => ?_)
          refine j_aload_n (pc' := 903) q242_902 rfl (by decide) rfl ?_
          refine j_callV0_i (d := d + 13) (pc' := 906) q242_903 rfl (Nat.le_of_ble_eq_true rfl) (Nat.le_of_ble_eq_true rfl) rfl (t_M_again hρ (d + 9) _) (fun r177 => ?_)
          refine j_icmp_eq (pc' := 909) q242_906 rfl (fun c178 => ?_) (fun c178 => ?_)
          · refine j_forget (z_le_s (z_le_s (z_le_s (z_le_s (z_le_nil))))) (hj4 r177.2)
          · refine j_iconst (pc' := 910) q242_909 rfl ?_
            refine j_exit ?_
            exact j_zret q242_910 rfl (Or.inl rfl)
        refine j_if (fun c179 => ?_) (fun c179 => ?_)
        · refine j_tin (pc' := 911) (j := 25) (off := 879) q242_32 c179 (Nat.le_of_ble_eq_true rfl) (by decide) rfl (by decide) ?_
          refine j_aload_n (pc' := 912) q242_911 rfl (by decide) rfl ?_
          refine j_aload_n (pc' := 913) q242_912 rfl (by decide) rfl ?_
          refine j_iload_n (pc' := 914) q242_913 rfl rfl ?_
          refine j_iconst (pc' := 915) q242_914 rfl ?_
          refine j_iadd (pc' := 916) q242_915 rfl ?_
          refine j_if (fun hi180 => ?_) (fun _ => j_none)
          refine j_xald (pc' := 917) q242_916 hi180 rfl ?_
          refine j_aload_n (pc' := 918) q242_917 rfl (by decide) rfl ?_
          refine j_iload_n (pc' := 919) q242_918 rfl rfl ?_
          refine j_iconst (pc' := 920) q242_919 rfl ?_
          refine j_iadd (pc' := 921) q242_920 rfl ?_
          refine j_if (fun hi181 => ?_) (fun _ => j_none)
          refine j_xald (pc' := 922) q242_921 hi181 rfl ?_
          refine j_aload_n (pc' := 923) q242_922 rfl (by decide) rfl ?_
          refine j_iload_n (pc' := 924) q242_923 rfl rfl ?_
          refine j_iconst (pc' := 925) q242_924 rfl ?_
          refine j_iadd (pc' := 926) q242_925 rfl ?_
          refine j_if (fun hi182 => ?_) (fun _ => j_none)
          refine j_xald (pc' := 927) q242_926 hi182 rfl ?_
          refine j_callV3_i (d := d + 13) (pc' := 930) q242_927 rfl (Nat.le_of_ble_eq_true rfl) (Nat.le_of_ble_eq_true rfl) rfl (t_Y_plan hρ (d + 7) _ _ _ _) (fun r183 => ?_)
          refine j_aload_n (pc' := 931) q242_930 rfl (by decide) rfl ?_
          refine j_aload_n (pc' := 932) q242_931 rfl (by decide) rfl ?_
          refine j_iload_n (pc' := 933) q242_932 rfl rfl ?_
          refine j_iconst (pc' := 934) q242_933 rfl ?_
          refine j_iadd (pc' := 935) q242_934 rfl ?_
          refine j_if (fun hi184 => ?_) (fun _ => j_none)
          refine j_xald (pc' := 936) q242_935 hi184 rfl ?_
          refine j_aload_n (pc' := 937) q242_936 rfl (by decide) rfl ?_
          refine j_iload_n (pc' := 938) q242_937 rfl rfl ?_
          refine j_iconst (pc' := 939) q242_938 rfl ?_
          refine j_iadd (pc' := 940) q242_939 rfl ?_
          refine j_if (fun hi185 => ?_) (fun _ => j_none)
          refine j_xald (pc' := 941) q242_940 hi185 rfl ?_
          refine j_aload_n (pc' := 942) q242_941 rfl (by decide) rfl ?_
          refine j_iload_n (pc' := 943) q242_942 rfl rfl ?_
          refine j_iconst (pc' := 944) q242_943 rfl ?_
          refine j_iadd (pc' := 945) q242_944 rfl ?_
          refine j_if (fun hi186 => ?_) (fun _ => j_none)
          refine j_xald (pc' := 946) q242_945 hi186 rfl ?_
          refine j_callV3_i (d := d + 13) (pc' := 949) q242_946 rfl (Nat.le_of_ble_eq_true rfl) (Nat.le_of_ble_eq_true rfl) rfl (t_M_plan hρ (d + 10) _ _ _ _) (fun r187 => ?_)
          refine j_icmp_eq (pc' := 952) q242_949 rfl (fun c188 => ?_) (fun c188 => ?_)
          · refine j_forget (z_le_s (z_le_s (z_le_s (z_le_s (z_le_nil))))) (hj4 r187.2)
          · refine j_iconst (pc' := 953) q242_952 rfl ?_
            refine j_exit ?_
            exact j_zret q242_953 rfl (Or.inl rfl)
        refine j_if (fun c189 => ?_) (fun c189 => ?_)
        · refine j_tin (pc' := 954) (j := 26) (off := 922) q242_32 c189 (Nat.le_of_ble_eq_true rfl) (by decide) rfl (by decide) ?_
          refine j_aload_n (pc' := 955) q242_954 rfl (by decide) rfl ?_
          refine j_aload_n (pc' := 956) q242_955 rfl (by decide) rfl ?_
          refine j_iload_n (pc' := 957) q242_956 rfl rfl ?_
          refine j_iconst (pc' := 958) q242_957 rfl ?_
          refine j_iadd (pc' := 959) q242_958 rfl ?_
          refine j_if (fun hi190 => ?_) (fun _ => j_none)
          refine j_xald (pc' := 960) q242_959 hi190 rfl ?_
          refine j_aload_n (pc' := 961) q242_960 rfl (by decide) rfl ?_
          refine j_iload_n (pc' := 962) q242_961 rfl rfl ?_
          refine j_iconst (pc' := 963) q242_962 rfl ?_
          refine j_iadd (pc' := 964) q242_963 rfl ?_
          refine j_if (fun hi191 => ?_) (fun _ => j_none)
          refine j_xald (pc' := 965) q242_964 hi191 rfl ?_
          refine j_callV2_i (d := d + 13) (pc' := 968) q242_965 rfl (Nat.le_of_ble_eq_true rfl) (Nat.le_of_ble_eq_true rfl) rfl (t_Y_most hρ (d + 6) _ _ _) (fun r192 => ?_)
          refine j_aload_n (pc' := 969) q242_968 rfl (by decide) rfl ?_
          refine j_aload_n (pc' := 970) q242_969 rfl (by decide) rfl ?_
          refine j_iload_n (pc' := 971) q242_970 rfl rfl ?_
          refine j_iconst (pc' := 972) q242_971 rfl ?_
          refine j_iadd (pc' := 973) q242_972 rfl ?_
          refine j_if (fun hi193 => ?_) (fun _ => j_none)
          refine j_xald (pc' := 974) q242_973 hi193 rfl ?_
          refine j_aload_n (pc' := 975) q242_974 rfl (by decide) rfl ?_
          refine j_iload_n (pc' := 976) q242_975 rfl rfl ?_
          refine j_iconst (pc' := 977) q242_976 rfl ?_
          refine j_iadd (pc' := 978) q242_977 rfl ?_
          refine j_if (fun hi194 => ?_) (fun _ => j_none)
          refine j_xald (pc' := 979) q242_978 hi194 rfl ?_
          refine j_callV2_i (d := d + 13) (pc' := 982) q242_979 rfl (Nat.le_of_ble_eq_true rfl) (Nat.le_of_ble_eq_true rfl) rfl (t_M_most hρ (d + 8) _ _ _) (fun r195 => ?_)
          refine j_icmp_eq (pc' := 985) q242_982 rfl (fun c196 => ?_) (fun c196 => ?_)
          · refine j_forget (z_le_s (z_le_s (z_le_s (z_le_s (z_le_nil))))) (hj4 r195.2)
          · refine j_iconst (pc' := 986) q242_985 rfl ?_
            refine j_exit ?_
            exact j_zret q242_986 rfl (Or.inl rfl)
        refine j_if (fun c197 => ?_) (fun c197 => ?_)
        · refine j_tin (pc' := 987) (j := 27) (off := 955) q242_32 c197 (Nat.le_of_ble_eq_true rfl) (by decide) rfl (by decide) ?_
          refine j_aload_n (pc' := 988) q242_987 rfl (by decide) rfl ?_
          refine j_aload_n (pc' := 989) q242_988 rfl (by decide) rfl ?_
          refine j_iload_n (pc' := 990) q242_989 rfl rfl ?_
          refine j_iconst (pc' := 991) q242_990 rfl ?_
          refine j_iadd (pc' := 992) q242_991 rfl ?_
          refine j_if (fun hi198 => ?_) (fun _ => j_none)
          refine j_xald (pc' := 993) q242_992 hi198 rfl ?_
          refine j_aload_n (pc' := 994) q242_993 rfl (by decide) rfl ?_
          refine j_iload_n (pc' := 995) q242_994 rfl rfl ?_
          refine j_iconst (pc' := 996) q242_995 rfl ?_
          refine j_iadd (pc' := 997) q242_996 rfl ?_
          refine j_if (fun hi199 => ?_) (fun _ => j_none)
          refine j_xald (pc' := 998) q242_997 hi199 rfl ?_
          refine j_callV2_i (d := d + 13) (pc' := 1001) q242_998 rfl (Nat.le_of_ble_eq_true rfl) (Nat.le_of_ble_eq_true rfl) rfl (t_Y_fence hρ (d + 6) _ _ _) (fun r200 => ?_)
          refine j_aload_n (pc' := 1002) q242_1001 rfl (by decide) rfl ?_
          refine j_aload_n (pc' := 1003) q242_1002 rfl (by decide) rfl ?_
          refine j_iload_n (pc' := 1004) q242_1003 rfl rfl ?_
          refine j_iconst (pc' := 1005) q242_1004 rfl ?_
          refine j_iadd (pc' := 1006) q242_1005 rfl ?_
          refine j_if (fun hi201 => ?_) (fun _ => j_none)
          refine j_xald (pc' := 1007) q242_1006 hi201 rfl ?_
          refine j_aload_n (pc' := 1008) q242_1007 rfl (by decide) rfl ?_
          refine j_iload_n (pc' := 1009) q242_1008 rfl rfl ?_
          refine j_iconst (pc' := 1010) q242_1009 rfl ?_
          refine j_iadd (pc' := 1011) q242_1010 rfl ?_
          refine j_if (fun hi202 => ?_) (fun _ => j_none)
          refine j_xald (pc' := 1012) q242_1011 hi202 rfl ?_
          refine j_callV2_i (d := d + 13) (pc' := 1015) q242_1012 rfl (Nat.le_of_ble_eq_true rfl) (Nat.le_of_ble_eq_true rfl) rfl (t_M_fence hρ (d + 8) _ _ _) (fun r203 => ?_)
          refine j_icmp_eq (pc' := 1018) q242_1015 rfl (fun c204 => ?_) (fun c204 => ?_)
          · refine j_forget (z_le_s (z_le_s (z_le_s (z_le_s (z_le_nil))))) (hj4 r203.2)
          · refine j_iconst (pc' := 1019) q242_1018 rfl ?_
            refine j_exit ?_
            exact j_zret q242_1019 rfl (Or.inl rfl)
        refine j_if (fun c205 => ?_) (fun c205 => ?_)
        · refine j_tin (pc' := 1020) (j := 28) (off := 988) q242_32 c205 (Nat.le_of_ble_eq_true rfl) (by decide) rfl (by decide) ?_
          refine j_aload_n (pc' := 1021) q242_1020 rfl (by decide) rfl ?_
          refine j_aload_n (pc' := 1022) q242_1021 rfl (by decide) rfl ?_
          refine j_iload_n (pc' := 1023) q242_1022 rfl rfl ?_
          refine j_iconst (pc' := 1024) q242_1023 rfl ?_
          refine j_iadd (pc' := 1025) q242_1024 rfl ?_
          refine j_if (fun hi206 => ?_) (fun _ => j_none)
          refine j_xald (pc' := 1026) q242_1025 hi206 rfl ?_
          refine j_aload_n (pc' := 1027) q242_1026 rfl (by decide) rfl ?_
          refine j_iload_n (pc' := 1028) q242_1027 rfl rfl ?_
          refine j_iconst (pc' := 1029) q242_1028 rfl ?_
          refine j_iadd (pc' := 1030) q242_1029 rfl ?_
          refine j_if (fun hi207 => ?_) (fun _ => j_none)
          refine j_xald (pc' := 1031) q242_1030 hi207 rfl ?_
          refine j_callV2_i (d := d + 13) (pc' := 1034) q242_1031 rfl (Nat.le_of_ble_eq_true rfl) (Nat.le_of_ble_eq_true rfl) rfl (t_Y_blame hρ (d + 6) _ _ _) (fun r208 => ?_)
          refine j_aload_n (pc' := 1035) q242_1034 rfl (by decide) rfl ?_
          refine j_aload_n (pc' := 1036) q242_1035 rfl (by decide) rfl ?_
          refine j_iload_n (pc' := 1037) q242_1036 rfl rfl ?_
          refine j_iconst (pc' := 1038) q242_1037 rfl ?_
          refine j_iadd (pc' := 1039) q242_1038 rfl ?_
          refine j_if (fun hi209 => ?_) (fun _ => j_none)
          refine j_xald (pc' := 1040) q242_1039 hi209 rfl ?_
          refine j_aload_n (pc' := 1041) q242_1040 rfl (by decide) rfl ?_
          refine j_iload_n (pc' := 1042) q242_1041 rfl rfl ?_
          refine j_iconst (pc' := 1043) q242_1042 rfl ?_
          refine j_iadd (pc' := 1044) q242_1043 rfl ?_
          refine j_if (fun hi210 => ?_) (fun _ => j_none)
          refine j_xald (pc' := 1045) q242_1044 hi210 rfl ?_
          refine j_callV2_i (d := d + 13) (pc' := 1048) q242_1045 rfl (Nat.le_of_ble_eq_true rfl) (Nat.le_of_ble_eq_true rfl) rfl (t_M_blame hρ (d + 9) _ _ _) (fun r211 => ?_)
          refine j_icmp_eq (pc' := 1051) q242_1048 rfl (fun c212 => ?_) (fun c212 => ?_)
          · refine j_forget (z_le_s (z_le_s (z_le_s (z_le_s (z_le_nil))))) (hj4 r211.2)
          · refine j_iconst (pc' := 1052) q242_1051 rfl ?_
            refine j_exit ?_
            exact j_zret q242_1052 rfl (Or.inl rfl)
        refine j_if (fun c213 => ?_) (fun c213 => ?_)
        · refine j_tin (pc' := 1053) (j := 29) (off := 1021) q242_32 c213 (Nat.le_of_ble_eq_true rfl) (by decide) rfl (by decide) ?_
          refine j_aload_n (pc' := 1054) q242_1053 rfl (by decide) rfl ?_
          refine j_aload_n (pc' := 1055) q242_1054 rfl (by decide) rfl ?_
          refine j_iload_n (pc' := 1056) q242_1055 rfl rfl ?_
          refine j_iconst (pc' := 1057) q242_1056 rfl ?_
          refine j_iadd (pc' := 1058) q242_1057 rfl ?_
          refine j_if (fun hi214 => ?_) (fun _ => j_none)
          refine j_xald (pc' := 1059) q242_1058 hi214 rfl ?_
          refine j_aload_n (pc' := 1060) q242_1059 rfl (by decide) rfl ?_
          refine j_iload_n (pc' := 1061) q242_1060 rfl rfl ?_
          refine j_iconst (pc' := 1062) q242_1061 rfl ?_
          refine j_iadd (pc' := 1063) q242_1062 rfl ?_
          refine j_if (fun hi215 => ?_) (fun _ => j_none)
          refine j_xald (pc' := 1064) q242_1063 hi215 rfl ?_
          refine j_aload_n (pc' := 1065) q242_1064 rfl (by decide) rfl ?_
          refine j_iload_n (pc' := 1066) q242_1065 rfl rfl ?_
          refine j_iconst (pc' := 1067) q242_1066 rfl ?_
          refine j_iadd (pc' := 1068) q242_1067 rfl ?_
          refine j_if (fun hi216 => ?_) (fun _ => j_none)
          refine j_xald (pc' := 1069) q242_1068 hi216 rfl ?_
          refine j_aload_n (pc' := 1070) q242_1069 rfl (by decide) rfl ?_
          refine j_iload_n (pc' := 1071) q242_1070 rfl rfl ?_
          refine j_iconst (pc' := 1072) q242_1071 rfl ?_
          refine j_iadd (pc' := 1073) q242_1072 rfl ?_
          refine j_if (fun hi217 => ?_) (fun _ => j_none)
          refine j_xald (pc' := 1074) q242_1073 hi217 rfl ?_
          refine j_callV4_pl (d := d + 13) (pc' := 1077) q242_1074 rfl (Nat.le_of_ble_eq_true rfl) (Nat.le_of_ble_eq_true rfl) rfl (t_Y_luck hρ (d + 0) _ _ _ _ _) (fun r218 => ?_)
          refine j_aload_n (pc' := 1078) q242_1077 rfl (by decide) rfl ?_
          refine j_aload_n (pc' := 1079) q242_1078 rfl (by decide) rfl ?_
          refine j_iload_n (pc' := 1080) q242_1079 rfl rfl ?_
          refine j_iconst (pc' := 1081) q242_1080 rfl ?_
          refine j_iadd (pc' := 1082) q242_1081 rfl ?_
          refine j_if (fun hi219 => ?_) (fun _ => j_none)
          refine j_xald (pc' := 1083) q242_1082 hi219 rfl ?_
          refine j_aload_n (pc' := 1084) q242_1083 rfl (by decide) rfl ?_
          refine j_iload_n (pc' := 1085) q242_1084 rfl rfl ?_
          refine j_iconst (pc' := 1086) q242_1085 rfl ?_
          refine j_iadd (pc' := 1087) q242_1086 rfl ?_
          refine j_if (fun hi220 => ?_) (fun _ => j_none)
          refine j_xald (pc' := 1088) q242_1087 hi220 rfl ?_
          refine j_aload_n (pc' := 1089) q242_1088 rfl (by decide) rfl ?_
          refine j_iload_n (pc' := 1090) q242_1089 rfl rfl ?_
          refine j_iconst (pc' := 1091) q242_1090 rfl ?_
          refine j_iadd (pc' := 1092) q242_1091 rfl ?_
          refine j_if (fun hi221 => ?_) (fun _ => j_none)
          refine j_xald (pc' := 1093) q242_1092 hi221 rfl ?_
          refine j_aload_n (pc' := 1094) q242_1093 rfl (by decide) rfl ?_
          refine j_iload_n (pc' := 1095) q242_1094 rfl rfl ?_
          refine j_iconst (pc' := 1096) q242_1095 rfl ?_
          refine j_iadd (pc' := 1097) q242_1096 rfl ?_
          refine j_if (fun hi222 => ?_) (fun _ => j_none)
          refine j_xald (pc' := 1098) q242_1097 hi222 rfl ?_
          refine j_callV4_pl (d := d + 13) (pc' := 1101) q242_1098 rfl (Nat.le_of_ble_eq_true rfl) (Nat.le_of_ble_eq_true rfl) rfl (t_M_luck hρ (d + 11) _ _ _ _ _) (fun r223 => ?_)
          refine j_lcmp (pc' := 1102) q242_1101 rfl ?_
          refine j_if_eq (pc' := 1105) q242_1102 rfl (fun c224 => ?_) (fun c224 => ?_)
          · refine j_forget (z_le_s (z_le_s (z_le_s (z_le_s (z_le_nil))))) (hj4 s1.2)
          · refine j_iconst (pc' := 1106) q242_1105 rfl ?_
            refine j_exit ?_
            exact j_zret q242_1106 rfl (Or.inl rfl)
        refine j_if (fun c225 => ?_) (fun c225 => ?_)
        · refine j_tin (pc' := 1107) (j := 30) (off := 1075) q242_32 c225 (Nat.le_of_ble_eq_true rfl) (by decide) rfl (by decide) ?_
          refine j_aload_n (pc' := 1108) q242_1107 rfl (by decide) rfl ?_
          refine j_aload_n (pc' := 1109) q242_1108 rfl (by decide) rfl ?_
          refine j_iload_n (pc' := 1110) q242_1109 rfl rfl ?_
          refine j_iconst (pc' := 1111) q242_1110 rfl ?_
          refine j_iadd (pc' := 1112) q242_1111 rfl ?_
          refine j_if (fun hi226 => ?_) (fun _ => j_none)
          refine j_xald (pc' := 1113) q242_1112 hi226 rfl ?_
          refine j_aload_n (pc' := 1114) q242_1113 rfl (by decide) rfl ?_
          refine j_iload_n (pc' := 1115) q242_1114 rfl rfl ?_
          refine j_iconst (pc' := 1116) q242_1115 rfl ?_
          refine j_iadd (pc' := 1117) q242_1116 rfl ?_
          refine j_if (fun hi227 => ?_) (fun _ => j_none)
          refine j_xald (pc' := 1118) q242_1117 hi227 rfl ?_
          refine j_callV2_i (d := d + 13) (pc' := 1121) q242_1118 rfl (Nat.le_of_ble_eq_true rfl) (Nat.le_of_ble_eq_true rfl) rfl (t_Y_see hρ (d + 12) _ _ _) (fun r228 => ?_)
          refine j_aload_n (pc' := 1122) q242_1121 rfl (by decide) rfl ?_
          refine j_aload_n (pc' := 1123) q242_1122 rfl (by decide) rfl ?_
          refine j_iload_n (pc' := 1124) q242_1123 rfl rfl ?_
          refine j_iconst (pc' := 1125) q242_1124 rfl ?_
          refine j_iadd (pc' := 1126) q242_1125 rfl ?_
          refine j_if (fun hi229 => ?_) (fun _ => j_none)
          refine j_xald (pc' := 1127) q242_1126 hi229 rfl ?_
          refine j_aload_n (pc' := 1128) q242_1127 rfl (by decide) rfl ?_
          refine j_iload_n (pc' := 1129) q242_1128 rfl rfl ?_
          refine j_iconst (pc' := 1130) q242_1129 rfl ?_
          refine j_iadd (pc' := 1131) q242_1130 rfl ?_
          refine j_if (fun hi230 => ?_) (fun _ => j_none)
          refine j_xald (pc' := 1132) q242_1131 hi230 rfl ?_
          refine j_callV2_i (d := d + 13) (pc' := 1135) q242_1132 rfl (Nat.le_of_ble_eq_true rfl) (Nat.le_of_ble_eq_true rfl) rfl (t_M_see hρ (d + 12) _ _ _) (fun r231 => ?_)
          refine j_icmp_eq (pc' := 1138) q242_1135 rfl (fun c232 => ?_) (fun c232 => ?_)
          · refine j_forget (z_le_s (z_le_s (z_le_s (z_le_s (z_le_nil))))) (hj4 r231.2)
          · refine j_iconst (pc' := 1139) q242_1138 rfl ?_
            refine j_exit ?_
            exact j_zret q242_1139 rfl (Or.inl rfl)
        refine j_if (fun c233 => ?_) (fun c233 => ?_)
        · refine j_tin (pc' := 1140) (j := 31) (off := 1108) q242_32 c233 (Nat.le_of_ble_eq_true rfl) (by decide) rfl (by decide) ?_
          refine j_aload_n (pc' := 1141) q242_1140 rfl (by decide) rfl ?_
          refine j_aload_n (pc' := 1142) q242_1141 rfl (by decide) rfl ?_
          refine j_iload_n (pc' := 1143) q242_1142 rfl rfl ?_
          refine j_iconst (pc' := 1144) q242_1143 rfl ?_
          refine j_iadd (pc' := 1145) q242_1144 rfl ?_
          refine j_if (fun hi234 => ?_) (fun _ => j_none)
          refine j_xald (pc' := 1146) q242_1145 hi234 rfl ?_
          refine j_callV1_i (d := d + 13) (pc' := 1149) q242_1146 rfl (Nat.le_of_ble_eq_true rfl) (Nat.le_of_ble_eq_true rfl) rfl (t_Y_forget hρ (d + 12) _ _) (fun r235 => ?_)
          refine j_aload_n (pc' := 1150) q242_1149 rfl (by decide) rfl ?_
          refine j_aload_n (pc' := 1151) q242_1150 rfl (by decide) rfl ?_
          refine j_iload_n (pc' := 1152) q242_1151 rfl rfl ?_
          refine j_iconst (pc' := 1153) q242_1152 rfl ?_
          refine j_iadd (pc' := 1154) q242_1153 rfl ?_
          refine j_if (fun hi236 => ?_) (fun _ => j_none)
          refine j_xald (pc' := 1155) q242_1154 hi236 rfl ?_
          refine j_callV1_i (d := d + 13) (pc' := 1158) q242_1155 rfl (Nat.le_of_ble_eq_true rfl) (Nat.le_of_ble_eq_true rfl) rfl (t_M_forget hρ (d + 12) _ _) (fun r237 => ?_)
          refine j_icmp_eq (pc' := 1161) q242_1158 rfl (fun c238 => ?_) (fun c238 => ?_)
          · refine j_forget (z_le_s (z_le_s (z_le_s (z_le_s (z_le_nil))))) (hj4 r237.2)
          · refine j_iconst (pc' := 1162) q242_1161 rfl ?_
            refine j_exit ?_
            exact j_zret q242_1162 rfl (Or.inl rfl)
        refine j_if (fun c239 => ?_) (fun c239 => ?_)
        · refine j_tin (pc' := 1163) (j := 32) (off := 1131) q242_32 c239 (Nat.le_of_ble_eq_true rfl) (by decide) rfl (by decide) ?_
          refine j_aload_n (pc' := 1164) q242_1163 rfl (by decide) rfl ?_
          refine j_aload_n (pc' := 1165) q242_1164 rfl (by decide) rfl ?_
          refine j_iload_n (pc' := 1166) q242_1165 rfl rfl ?_
          refine j_iconst (pc' := 1167) q242_1166 rfl ?_
          refine j_iadd (pc' := 1168) q242_1167 rfl ?_
          refine j_if (fun hi240 => ?_) (fun _ => j_none)
          refine j_xald (pc' := 1169) q242_1168 hi240 rfl ?_
          refine j_aload_n (pc' := 1170) q242_1169 rfl (by decide) rfl ?_
          refine j_iload_n (pc' := 1171) q242_1170 rfl rfl ?_
          refine j_iconst (pc' := 1172) q242_1171 rfl ?_
          refine j_iadd (pc' := 1173) q242_1172 rfl ?_
          refine j_if (fun hi241 => ?_) (fun _ => j_none)
          refine j_xald (pc' := 1174) q242_1173 hi241 rfl ?_
          refine j_aload_n (pc' := 1175) q242_1174 rfl (by decide) rfl ?_
          refine j_iload_n (pc' := 1176) q242_1175 rfl rfl ?_
          refine j_iconst (pc' := 1177) q242_1176 rfl ?_
          refine j_iadd (pc' := 1178) q242_1177 rfl ?_
          refine j_if (fun hi242 => ?_) (fun _ => j_none)
          refine j_xald (pc' := 1179) q242_1178 hi242 rfl ?_
          refine j_callV3_i (d := d + 13) (pc' := 1182) q242_1179 rfl (Nat.le_of_ble_eq_true rfl) (Nat.le_of_ble_eq_true rfl) rfl (t_Y_rows hρ (d + 6) _ _ _ _) (fun r243 => ?_)
          refine j_aload_n (pc' := 1183) q242_1182 rfl (by decide) rfl ?_
          refine j_aload_n (pc' := 1184) q242_1183 rfl (by decide) rfl ?_
          refine j_iload_n (pc' := 1185) q242_1184 rfl rfl ?_
          refine j_iconst (pc' := 1186) q242_1185 rfl ?_
          refine j_iadd (pc' := 1187) q242_1186 rfl ?_
          refine j_if (fun hi244 => ?_) (fun _ => j_none)
          refine j_xald (pc' := 1188) q242_1187 hi244 rfl ?_
          refine j_aload_n (pc' := 1189) q242_1188 rfl (by decide) rfl ?_
          refine j_iload_n (pc' := 1190) q242_1189 rfl rfl ?_
          refine j_iconst (pc' := 1191) q242_1190 rfl ?_
          refine j_iadd (pc' := 1192) q242_1191 rfl ?_
          refine j_if (fun hi245 => ?_) (fun _ => j_none)
          refine j_xald (pc' := 1193) q242_1192 hi245 rfl ?_
          refine j_aload_n (pc' := 1194) q242_1193 rfl (by decide) rfl ?_
          refine j_iload_n (pc' := 1195) q242_1194 rfl rfl ?_
          refine j_iconst (pc' := 1196) q242_1195 rfl ?_
          refine j_iadd (pc' := 1197) q242_1196 rfl ?_
          refine j_if (fun hi246 => ?_) (fun _ => j_none)
          refine j_xald (pc' := 1198) q242_1197 hi246 rfl ?_
          refine j_callV3_pi (d := d + 13) (pc' := 1201) q242_1198 rfl (Nat.le_of_ble_eq_true rfl) (Nat.le_of_ble_eq_true rfl) rfl (t_M_rows hρ (d + 11) _ _ _ _) (fun r247 => ?_)
          refine j_icmp_eq (pc' := 1204) q242_1201 rfl (fun c248 => ?_) (fun c248 => ?_)
          · refine j_forget (z_le_s (z_le_s (z_le_s (z_le_s (z_le_nil))))) (hj4 r243.2)
          · refine j_iconst (pc' := 1205) q242_1204 rfl ?_
            refine j_exit ?_
            exact j_zret q242_1205 rfl (Or.inl rfl)
        refine j_if (fun c249 => ?_) (fun c249 => ?_)
        · refine j_tin (pc' := 1206) (j := 33) (off := 1174) q242_32 c249 (Nat.le_of_ble_eq_true rfl) (by decide) rfl (by decide) ?_
          refine j_aload_n (pc' := 1207) q242_1206 rfl (by decide) rfl ?_
          refine j_aload_n (pc' := 1208) q242_1207 rfl (by decide) rfl ?_
          refine j_iload_n (pc' := 1209) q242_1208 rfl rfl ?_
          refine j_iconst (pc' := 1210) q242_1209 rfl ?_
          refine j_iadd (pc' := 1211) q242_1210 rfl ?_
          refine j_if (fun hi250 => ?_) (fun _ => j_none)
          refine j_xald (pc' := 1212) q242_1211 hi250 rfl ?_
          refine j_aload_n (pc' := 1213) q242_1212 rfl (by decide) rfl ?_
          refine j_iload_n (pc' := 1214) q242_1213 rfl rfl ?_
          refine j_iconst (pc' := 1215) q242_1214 rfl ?_
          refine j_iadd (pc' := 1216) q242_1215 rfl ?_
          refine j_if (fun hi251 => ?_) (fun _ => j_none)
          refine j_xald (pc' := 1217) q242_1216 hi251 rfl ?_
          refine j_aload_n (pc' := 1218) q242_1217 rfl (by decide) rfl ?_
          refine j_iload_n (pc' := 1219) q242_1218 rfl rfl ?_
          refine j_iconst (pc' := 1220) q242_1219 rfl ?_
          refine j_iadd (pc' := 1221) q242_1220 rfl ?_
          refine j_if (fun hi252 => ?_) (fun _ => j_none)
          refine j_xald (pc' := 1222) q242_1221 hi252 rfl ?_
          refine j_callV3_i (d := d + 13) (pc' := 1225) q242_1222 rfl (Nat.le_of_ble_eq_true rfl) (Nat.le_of_ble_eq_true rfl) rfl (t_Y_sure hρ (d + 6) _ _ _ _) (fun r253 => ?_)
          refine j_aload_n (pc' := 1226) q242_1225 rfl (by decide) rfl ?_
          refine j_aload_n (pc' := 1227) q242_1226 rfl (by decide) rfl ?_
          refine j_iload_n (pc' := 1228) q242_1227 rfl rfl ?_
          refine j_iconst (pc' := 1229) q242_1228 rfl ?_
          refine j_iadd (pc' := 1230) q242_1229 rfl ?_
          refine j_if (fun hi254 => ?_) (fun _ => j_none)
          refine j_xald (pc' := 1231) q242_1230 hi254 rfl ?_
          refine j_aload_n (pc' := 1232) q242_1231 rfl (by decide) rfl ?_
          refine j_iload_n (pc' := 1233) q242_1232 rfl rfl ?_
          refine j_iconst (pc' := 1234) q242_1233 rfl ?_
          refine j_iadd (pc' := 1235) q242_1234 rfl ?_
          refine j_if (fun hi255 => ?_) (fun _ => j_none)
          refine j_xald (pc' := 1236) q242_1235 hi255 rfl ?_
          refine j_aload_n (pc' := 1237) q242_1236 rfl (by decide) rfl ?_
          refine j_iload_n (pc' := 1238) q242_1237 rfl rfl ?_
          refine j_iconst (pc' := 1239) q242_1238 rfl ?_
          refine j_iadd (pc' := 1240) q242_1239 rfl ?_
          refine j_if (fun hi256 => ?_) (fun _ => j_none)
          refine j_xald (pc' := 1241) q242_1240 hi256 rfl ?_
          refine j_callV3_pi (d := d + 13) (pc' := 1244) q242_1241 rfl (Nat.le_of_ble_eq_true rfl) (Nat.le_of_ble_eq_true rfl) rfl (t_M_sure hρ (d + 11) _ _ _ _) (fun r257 => ?_)
          refine j_icmp_eq (pc' := 1247) q242_1244 rfl (fun c258 => ?_) (fun c258 => ?_)
          · refine j_forget (z_le_s (z_le_s (z_le_s (z_le_s (z_le_nil))))) (hj4 r253.2)
          · refine j_iconst (pc' := 1248) q242_1247 rfl ?_
            refine j_exit ?_
            exact j_zret q242_1248 rfl (Or.inl rfl)
        refine j_if (fun c259 => ?_) (fun c259 => ?_)
        · refine j_tin (pc' := 1249) (j := 34) (off := 1217) q242_32 c259 (Nat.le_of_ble_eq_true rfl) (by decide) rfl (by decide) ?_
          refine j_aload_n (pc' := 1250) q242_1249 rfl (by decide) rfl ?_
          refine j_aload_n (pc' := 1251) q242_1250 rfl (by decide) rfl ?_
          refine j_iload_n (pc' := 1252) q242_1251 rfl rfl ?_
          refine j_iconst (pc' := 1253) q242_1252 rfl ?_
          refine j_iadd (pc' := 1254) q242_1253 rfl ?_
          refine j_if (fun hi260 => ?_) (fun _ => j_none)
          refine j_xald (pc' := 1255) q242_1254 hi260 rfl ?_
          refine j_callV1_i (d := d + 13) (pc' := 1258) q242_1255 rfl (Nat.le_of_ble_eq_true rfl) (Nat.le_of_ble_eq_true rfl) rfl (t_Y_sown hρ (d + 7) _ _) (fun r261 => ?_)
          refine j_aload_n (pc' := 1259) q242_1258 rfl (by decide) rfl ?_
          refine j_aload_n (pc' := 1260) q242_1259 rfl (by decide) rfl ?_
          refine j_iload_n (pc' := 1261) q242_1260 rfl rfl ?_
          refine j_iconst (pc' := 1262) q242_1261 rfl ?_
          refine j_iadd (pc' := 1263) q242_1262 rfl ?_
          refine j_if (fun hi262 => ?_) (fun _ => j_none)
          refine j_xald (pc' := 1264) q242_1263 hi262 rfl ?_
          refine j_callV1_pi (d := d + 13) (pc' := 1267) q242_1264 rfl (Nat.le_of_ble_eq_true rfl) (Nat.le_of_ble_eq_true rfl) rfl (t_M_sown hρ (d + 11) _ _) (fun r263 => ?_)
          refine j_icmp_eq (pc' := 1270) q242_1267 rfl (fun c264 => ?_) (fun c264 => ?_)
          · refine j_forget (z_le_s (z_le_s (z_le_s (z_le_s (z_le_nil))))) (hj4 r261.2)
          · refine j_iconst (pc' := 1271) q242_1270 rfl ?_
            refine j_exit ?_
            exact j_zret q242_1271 rfl (Or.inl rfl)
        refine j_if (fun c265 => ?_) (fun c265 => ?_)
        · refine j_tin (pc' := 1272) (j := 35) (off := 1240) q242_32 c265 (Nat.le_of_ble_eq_true rfl) (by decide) rfl (by decide) ?_
          refine j_aload_n (pc' := 1273) q242_1272 rfl (by decide) rfl ?_
          refine j_aload_n (pc' := 1274) q242_1273 rfl (by decide) rfl ?_
          refine j_iload_n (pc' := 1275) q242_1274 rfl rfl ?_
          refine j_iconst (pc' := 1276) q242_1275 rfl ?_
          refine j_iadd (pc' := 1277) q242_1276 rfl ?_
          refine j_if (fun hi266 => ?_) (fun _ => j_none)
          refine j_xald (pc' := 1278) q242_1277 hi266 rfl ?_
          refine j_aload_n (pc' := 1279) q242_1278 rfl (by decide) rfl ?_
          refine j_iload_n (pc' := 1280) q242_1279 rfl rfl ?_
          refine j_iconst (pc' := 1281) q242_1280 rfl ?_
          refine j_iadd (pc' := 1282) q242_1281 rfl ?_
          refine j_if (fun hi267 => ?_) (fun _ => j_none)
          refine j_xald (pc' := 1283) q242_1282 hi267 rfl ?_
          refine j_aload_n (pc' := 1284) q242_1283 rfl (by decide) rfl ?_
          refine j_iload_n (pc' := 1285) q242_1284 rfl rfl ?_
          refine j_iconst (pc' := 1286) q242_1285 rfl ?_
          refine j_iadd (pc' := 1287) q242_1286 rfl ?_
          refine j_if (fun hi268 => ?_) (fun _ => j_none)
          refine j_xald (pc' := 1288) q242_1287 hi268 rfl ?_
          refine j_callV3_i (d := d + 13) (pc' := 1291) q242_1288 rfl (Nat.le_of_ble_eq_true rfl) (Nat.le_of_ble_eq_true rfl) rfl (t_Y_drift hρ (d + 6) _ _ _ _) (fun r269 => ?_)
          refine j_aload_n (pc' := 1292) q242_1291 rfl (by decide) rfl ?_
          refine j_aload_n (pc' := 1293) q242_1292 rfl (by decide) rfl ?_
          refine j_iload_n (pc' := 1294) q242_1293 rfl rfl ?_
          refine j_iconst (pc' := 1295) q242_1294 rfl ?_
          refine j_iadd (pc' := 1296) q242_1295 rfl ?_
          refine j_if (fun hi270 => ?_) (fun _ => j_none)
          refine j_xald (pc' := 1297) q242_1296 hi270 rfl ?_
          refine j_aload_n (pc' := 1298) q242_1297 rfl (by decide) rfl ?_
          refine j_iload_n (pc' := 1299) q242_1298 rfl rfl ?_
          refine j_iconst (pc' := 1300) q242_1299 rfl ?_
          refine j_iadd (pc' := 1301) q242_1300 rfl ?_
          refine j_if (fun hi271 => ?_) (fun _ => j_none)
          refine j_xald (pc' := 1302) q242_1301 hi271 rfl ?_
          refine j_aload_n (pc' := 1303) q242_1302 rfl (by decide) rfl ?_
          refine j_iload_n (pc' := 1304) q242_1303 rfl rfl ?_
          refine j_iconst (pc' := 1305) q242_1304 rfl ?_
          refine j_iadd (pc' := 1306) q242_1305 rfl ?_
          refine j_if (fun hi272 => ?_) (fun _ => j_none)
          refine j_xald (pc' := 1307) q242_1306 hi272 rfl ?_
          refine j_callV3_i (d := d + 13) (pc' := 1310) q242_1307 rfl (Nat.le_of_ble_eq_true rfl) (Nat.le_of_ble_eq_true rfl) rfl (t_M_drift hρ (d + 8) _ _ _ _) (fun r273 => ?_)
          refine j_icmp_eq (pc' := 1313) q242_1310 rfl (fun c274 => ?_) (fun c274 => ?_)
          · refine j_forget (z_le_s (z_le_s (z_le_s (z_le_s (z_le_nil))))) (hj4 r273.2)
          · refine j_iconst (pc' := 1314) q242_1313 rfl ?_
            refine j_exit ?_
            exact j_zret q242_1314 rfl (Or.inl rfl)
        refine j_if (fun c275 => ?_) (fun c275 => ?_)
        · refine j_tin (pc' := 1315) (j := 36) (off := 1283) q242_32 c275 (Nat.le_of_ble_eq_true rfl) (by decide) rfl (by decide) ?_
          refine j_aload_n (pc' := 1316) q242_1315 rfl (by decide) rfl ?_
          refine j_aload_n (pc' := 1317) q242_1316 rfl (by decide) rfl ?_
          refine j_iload_n (pc' := 1318) q242_1317 rfl rfl ?_
          refine j_iconst (pc' := 1319) q242_1318 rfl ?_
          refine j_iadd (pc' := 1320) q242_1319 rfl ?_
          refine j_if (fun hi276 => ?_) (fun _ => j_none)
          refine j_xald (pc' := 1321) q242_1320 hi276 rfl ?_
          refine j_callV1_i (d := d + 13) (pc' := 1324) q242_1321 rfl (Nat.le_of_ble_eq_true rfl) (Nat.le_of_ble_eq_true rfl) rfl (t_Y_keep hρ (d + 11) _ _) (fun r277 => ?_)
          refine j_aload_n (pc' := 1325) q242_1324 rfl (by decide) rfl ?_
          refine j_aload_n (pc' := 1326) q242_1325 rfl (by decide) rfl ?_
          refine j_iload_n (pc' := 1327) q242_1326 rfl rfl ?_
          refine j_iconst (pc' := 1328) q242_1327 rfl ?_
          refine j_iadd (pc' := 1329) q242_1328 rfl ?_
          refine j_if (fun hi278 => ?_) (fun _ => j_none)
          refine j_xald (pc' := 1330) q242_1329 hi278 rfl ?_
          refine j_callV1_i (d := d + 13) (pc' := 1333) q242_1330 rfl (Nat.le_of_ble_eq_true rfl) (Nat.le_of_ble_eq_true rfl) rfl (t_M_keep hρ (d + 12) _ _) (fun r279 => ?_)
          refine j_icmp_eq (pc' := 1336) q242_1333 rfl (fun c280 => ?_) (fun c280 => ?_)
          · refine j_forget (z_le_s (z_le_s (z_le_s (z_le_s (z_le_nil))))) (hj4 r279.2)
          · refine j_iconst (pc' := 1337) q242_1336 rfl ?_
            refine j_exit ?_
            exact j_zret q242_1337 rfl (Or.inl rfl)
        refine j_if (fun c281 => ?_) (fun c281 => ?_)
        · refine j_tin (pc' := 1338) (j := 37) (off := 1306) q242_32 c281 (Nat.le_of_ble_eq_true rfl) (by decide) rfl (by decide) ?_
          refine j_aload_n (pc' := 1339) q242_1338 rfl (by decide) rfl ?_
          refine j_aload_n (pc' := 1340) q242_1339 rfl (by decide) rfl ?_
          refine j_iload_n (pc' := 1341) q242_1340 rfl rfl ?_
          refine j_iconst (pc' := 1342) q242_1341 rfl ?_
          refine j_iadd (pc' := 1343) q242_1342 rfl ?_
          refine j_if (fun hi282 => ?_) (fun _ => j_none)
          refine j_xald (pc' := 1344) q242_1343 hi282 rfl ?_
          refine j_callV1_i (d := d + 13) (pc' := 1347) q242_1344 rfl (Nat.le_of_ble_eq_true rfl) (Nat.le_of_ble_eq_true rfl) rfl (t_Y_back hρ (d + 11) _ _) (fun r283 => ?_)
          refine j_aload_n (pc' := 1348) q242_1347 rfl (by decide) rfl ?_
          refine j_aload_n (pc' := 1349) q242_1348 rfl (by decide) rfl ?_
          refine j_iload_n (pc' := 1350) q242_1349 rfl rfl ?_
          refine j_iconst (pc' := 1351) q242_1350 rfl ?_
          refine j_iadd (pc' := 1352) q242_1351 rfl ?_
          refine j_if (fun hi284 => ?_) (fun _ => j_none)
          refine j_xald (pc' := 1353) q242_1352 hi284 rfl ?_
          refine j_callV1_i (d := d + 13) (pc' := 1356) q242_1353 rfl (Nat.le_of_ble_eq_true rfl) (Nat.le_of_ble_eq_true rfl) rfl (t_M_back hρ (d + 12) _ _) (fun r285 => ?_)
          refine j_icmp_eq (pc' := 1359) q242_1356 rfl (fun c286 => ?_) (fun c286 => ?_)
          · refine j_forget (z_le_s (z_le_s (z_le_s (z_le_s (z_le_nil))))) (hj4 r285.2)
          · refine j_iconst (pc' := 1360) q242_1359 rfl ?_
            refine j_exit ?_
            exact j_zret q242_1360 rfl (Or.inl rfl)
        refine j_if (fun c287 => ?_) (fun c287 => ?_)
        · refine j_tin (pc' := 1361) (j := 38) (off := 1329) q242_32 c287 (Nat.le_of_ble_eq_true rfl) (by decide) rfl (by decide) ?_
          refine j_aload_n (pc' := 1362) q242_1361 rfl (by decide) rfl ?_
          refine j_aload_n (pc' := 1363) q242_1362 rfl (by decide) rfl ?_
          refine j_iload_n (pc' := 1364) q242_1363 rfl rfl ?_
          refine j_iconst (pc' := 1365) q242_1364 rfl ?_
          refine j_iadd (pc' := 1366) q242_1365 rfl ?_
          refine j_if (fun hi288 => ?_) (fun _ => j_none)
          refine j_xald (pc' := 1367) q242_1366 hi288 rfl ?_
          refine j_aload_n (pc' := 1368) q242_1367 rfl (by decide) rfl ?_
          refine j_iload_n (pc' := 1369) q242_1368 rfl rfl ?_
          refine j_iconst (pc' := 1370) q242_1369 rfl ?_
          refine j_iadd (pc' := 1371) q242_1370 rfl ?_
          refine j_if (fun hi289 => ?_) (fun _ => j_none)
          refine j_xald (pc' := 1372) q242_1371 hi289 rfl ?_
          refine j_aload_n (pc' := 1373) q242_1372 rfl (by decide) rfl ?_
          refine j_iload_n (pc' := 1374) q242_1373 rfl rfl ?_
          refine j_iconst (pc' := 1375) q242_1374 rfl ?_
          refine j_iadd (pc' := 1376) q242_1375 rfl ?_
          refine j_if (fun hi290 => ?_) (fun _ => j_none)
          refine j_xald (pc' := 1377) q242_1376 hi290 rfl ?_
          refine j_callV3_i (d := d + 13) (pc' := 1380) q242_1377 rfl (Nat.le_of_ble_eq_true rfl) (Nat.le_of_ble_eq_true rfl) rfl (t_Y_sheet hρ (d + 11) _ _ _ _) (fun r291 => ?_)
          refine j_aload_n (pc' := 1381) q242_1380 rfl (by decide) rfl ?_
          refine j_aload_n (pc' := 1382) q242_1381 rfl (by decide) rfl ?_
          refine j_iload_n (pc' := 1383) q242_1382 rfl rfl ?_
          refine j_iconst (pc' := 1384) q242_1383 rfl ?_
          refine j_iadd (pc' := 1385) q242_1384 rfl ?_
          refine j_if (fun hi292 => ?_) (fun _ => j_none)
          refine j_xald (pc' := 1386) q242_1385 hi292 rfl ?_
          refine j_aload_n (pc' := 1387) q242_1386 rfl (by decide) rfl ?_
          refine j_iload_n (pc' := 1388) q242_1387 rfl rfl ?_
          refine j_iconst (pc' := 1389) q242_1388 rfl ?_
          refine j_iadd (pc' := 1390) q242_1389 rfl ?_
          refine j_if (fun hi293 => ?_) (fun _ => j_none)
          refine j_xald (pc' := 1391) q242_1390 hi293 rfl ?_
          refine j_aload_n (pc' := 1392) q242_1391 rfl (by decide) rfl ?_
          refine j_iload_n (pc' := 1393) q242_1392 rfl rfl ?_
          refine j_iconst (pc' := 1394) q242_1393 rfl ?_
          refine j_iadd (pc' := 1395) q242_1394 rfl ?_
          refine j_if (fun hi294 => ?_) (fun _ => j_none)
          refine j_xald (pc' := 1396) q242_1395 hi294 rfl ?_
          refine j_callV3_i (d := d + 13) (pc' := 1399) q242_1396 rfl (Nat.le_of_ble_eq_true rfl) (Nat.le_of_ble_eq_true rfl) rfl (t_M_sheet hρ (d + 12) _ _ _ _) (fun r295 => ?_)
          refine j_icmp_eq (pc' := 1402) q242_1399 rfl (fun c296 => ?_) (fun c296 => ?_)
          · refine j_forget (z_le_s (z_le_s (z_le_s (z_le_s (z_le_nil))))) (hj4 r295.2)
          · refine j_iconst (pc' := 1403) q242_1402 rfl ?_
            refine j_exit ?_
            exact j_zret q242_1403 rfl (Or.inl rfl)
        refine j_if (fun c297 => ?_) (fun c297 => ?_)
        · refine j_tin (pc' := 1404) (j := 39) (off := 1372) q242_32 c297 (Nat.le_of_ble_eq_true rfl) (by decide) rfl (by decide) ?_
          refine j_aload_n (pc' := 1405) q242_1404 rfl (by decide) rfl ?_
          refine j_aload_n (pc' := 1406) q242_1405 rfl (by decide) rfl ?_
          refine j_iload_n (pc' := 1407) q242_1406 rfl rfl ?_
          refine j_iconst (pc' := 1408) q242_1407 rfl ?_
          refine j_iadd (pc' := 1409) q242_1408 rfl ?_
          refine j_if (fun hi298 => ?_) (fun _ => j_none)
          refine j_xald (pc' := 1410) q242_1409 hi298 rfl ?_
          refine j_aload_n (pc' := 1411) q242_1410 rfl (by decide) rfl ?_
          refine j_iload_n (pc' := 1412) q242_1411 rfl rfl ?_
          refine j_iconst (pc' := 1413) q242_1412 rfl ?_
          refine j_iadd (pc' := 1414) q242_1413 rfl ?_
          refine j_if (fun hi299 => ?_) (fun _ => j_none)
          refine j_xald (pc' := 1415) q242_1414 hi299 rfl ?_
          refine j_aload_n (pc' := 1416) q242_1415 rfl (by decide) rfl ?_
          refine j_iload_n (pc' := 1417) q242_1416 rfl rfl ?_
          refine j_iconst (pc' := 1418) q242_1417 rfl ?_
          refine j_iadd (pc' := 1419) q242_1418 rfl ?_
          refine j_if (fun hi300 => ?_) (fun _ => j_none)
          refine j_xald (pc' := 1420) q242_1419 hi300 rfl ?_
          refine j_callV3_i (d := d + 13) (pc' := 1423) q242_1420 rfl (Nat.le_of_ble_eq_true rfl) (Nat.le_of_ble_eq_true rfl) rfl (t_Y_put hρ (d + 12) _ _ _ _) (fun r301 => ?_)
          refine j_aload_n (pc' := 1424) q242_1423 rfl (by decide) rfl ?_
          refine j_aload_n (pc' := 1425) q242_1424 rfl (by decide) rfl ?_
          refine j_iload_n (pc' := 1426) q242_1425 rfl rfl ?_
          refine j_iconst (pc' := 1427) q242_1426 rfl ?_
          refine j_iadd (pc' := 1428) q242_1427 rfl ?_
          refine j_if (fun hi302 => ?_) (fun _ => j_none)
          refine j_xald (pc' := 1429) q242_1428 hi302 rfl ?_
          refine j_aload_n (pc' := 1430) q242_1429 rfl (by decide) rfl ?_
          refine j_iload_n (pc' := 1431) q242_1430 rfl rfl ?_
          refine j_iconst (pc' := 1432) q242_1431 rfl ?_
          refine j_iadd (pc' := 1433) q242_1432 rfl ?_
          refine j_if (fun hi303 => ?_) (fun _ => j_none)
          refine j_xald (pc' := 1434) q242_1433 hi303 rfl ?_
          refine j_aload_n (pc' := 1435) q242_1434 rfl (by decide) rfl ?_
          refine j_iload_n (pc' := 1436) q242_1435 rfl rfl ?_
          refine j_iconst (pc' := 1437) q242_1436 rfl ?_
          refine j_iadd (pc' := 1438) q242_1437 rfl ?_
          refine j_if (fun hi304 => ?_) (fun _ => j_none)
          refine j_xald (pc' := 1439) q242_1438 hi304 rfl ?_
          refine j_callV3_i (d := d + 13) (pc' := 1442) q242_1439 rfl (Nat.le_of_ble_eq_true rfl) (Nat.le_of_ble_eq_true rfl) rfl (t_M_put hρ (d + 12) _ _ _ _) (fun r305 => ?_)
          refine j_icmp_eq (pc' := 1445) q242_1442 rfl (fun c306 => ?_) (fun c306 => ?_)
          · refine j_forget (z_le_s (z_le_s (z_le_s (z_le_s (z_le_nil))))) (hj4 r305.2)
          · refine j_iconst (pc' := 1446) q242_1445 rfl ?_
            refine j_exit ?_
            exact j_zret q242_1446 rfl (Or.inl rfl)
        refine j_if (fun c307 => ?_) (fun c307 => ?_)
        · refine j_tin (pc' := 1447) (j := 40) (off := 1415) q242_32 c307 (Nat.le_of_ble_eq_true rfl) (by decide) rfl (by decide) ?_
          refine j_aload_n (pc' := 1448) q242_1447 rfl (by decide) rfl ?_
          refine j_aload_n (pc' := 1449) q242_1448 rfl (by decide) rfl ?_
          refine j_iload_n (pc' := 1450) q242_1449 rfl rfl ?_
          refine j_iconst (pc' := 1451) q242_1450 rfl ?_
          refine j_iadd (pc' := 1452) q242_1451 rfl ?_
          refine j_if (fun hi308 => ?_) (fun _ => j_none)
          refine j_xald (pc' := 1453) q242_1452 hi308 rfl ?_
          refine j_aload_n (pc' := 1454) q242_1453 rfl (by decide) rfl ?_
          refine j_iload_n (pc' := 1455) q242_1454 rfl rfl ?_
          refine j_iconst (pc' := 1456) q242_1455 rfl ?_
          refine j_iadd (pc' := 1457) q242_1456 rfl ?_
          refine j_if (fun hi309 => ?_) (fun _ => j_none)
          refine j_xald (pc' := 1458) q242_1457 hi309 rfl ?_
          refine j_aload_n (pc' := 1459) q242_1458 rfl (by decide) rfl ?_
          refine j_iload_n (pc' := 1460) q242_1459 rfl rfl ?_
          refine j_iconst (pc' := 1461) q242_1460 rfl ?_
          refine j_iadd (pc' := 1462) q242_1461 rfl ?_
          refine j_if (fun hi310 => ?_) (fun _ => j_none)
          refine j_xald (pc' := 1463) q242_1462 hi310 rfl ?_
          refine j_aload_n (pc' := 1464) q242_1463 rfl (by decide) rfl ?_
          refine j_iload_n (pc' := 1465) q242_1464 rfl rfl ?_
          refine j_iconst (pc' := 1466) q242_1465 rfl ?_
          refine j_iadd (pc' := 1467) q242_1466 rfl ?_
          refine j_if (fun hi311 => ?_) (fun _ => j_none)
          refine j_xald (pc' := 1468) q242_1467 hi311 rfl ?_
          refine j_callV4_i (d := d + 13) (pc' := 1471) q242_1468 rfl (Nat.le_of_ble_eq_true rfl) (Nat.le_of_ble_eq_true rfl) rfl (t_Y_read hρ (d + 9) _ _ _ _ _) (fun r312 => ?_)
          refine j_aload_n (pc' := 1472) q242_1471 rfl (by decide) rfl ?_
          refine j_aload_n (pc' := 1473) q242_1472 rfl (by decide) rfl ?_
          refine j_iload_n (pc' := 1474) q242_1473 rfl rfl ?_
          refine j_iconst (pc' := 1475) q242_1474 rfl ?_
          refine j_iadd (pc' := 1476) q242_1475 rfl ?_
          refine j_if (fun hi313 => ?_) (fun _ => j_none)
          refine j_xald (pc' := 1477) q242_1476 hi313 rfl ?_
          refine j_aload_n (pc' := 1478) q242_1477 rfl (by decide) rfl ?_
          refine j_iload_n (pc' := 1479) q242_1478 rfl rfl ?_
          refine j_iconst (pc' := 1480) q242_1479 rfl ?_
          refine j_iadd (pc' := 1481) q242_1480 rfl ?_
          refine j_if (fun hi314 => ?_) (fun _ => j_none)
          refine j_xald (pc' := 1482) q242_1481 hi314 rfl ?_
          refine j_aload_n (pc' := 1483) q242_1482 rfl (by decide) rfl ?_
          refine j_iload_n (pc' := 1484) q242_1483 rfl rfl ?_
          refine j_iconst (pc' := 1485) q242_1484 rfl ?_
          refine j_iadd (pc' := 1486) q242_1485 rfl ?_
          refine j_if (fun hi315 => ?_) (fun _ => j_none)
          refine j_xald (pc' := 1487) q242_1486 hi315 rfl ?_
          refine j_aload_n (pc' := 1488) q242_1487 rfl (by decide) rfl ?_
          refine j_iload_n (pc' := 1489) q242_1488 rfl rfl ?_
          refine j_iconst (pc' := 1490) q242_1489 rfl ?_
          refine j_iadd (pc' := 1491) q242_1490 rfl ?_
          refine j_if (fun hi316 => ?_) (fun _ => j_none)
          refine j_xald (pc' := 1492) q242_1491 hi316 rfl ?_
          refine j_callV4_i (d := d + 13) (pc' := 1495) q242_1492 rfl (Nat.le_of_ble_eq_true rfl) (Nat.le_of_ble_eq_true rfl) rfl (t_M_read hρ (d + 10) _ _ _ _ _) (fun r317 => ?_)
          refine j_icmp_eq (pc' := 1498) q242_1495 rfl (fun c318 => ?_) (fun c318 => ?_)
          · refine j_forget (z_le_s (z_le_s (z_le_s (z_le_s (z_le_nil))))) (hj4 r317.2)
          · refine j_iconst (pc' := 1499) q242_1498 rfl ?_
            refine j_exit ?_
            exact j_zret q242_1499 rfl (Or.inl rfl)
        refine j_if (fun c319 => ?_) (fun c319 => ?_)
        · refine j_tin (pc' := 1500) (j := 41) (off := 1468) q242_32 c319 (Nat.le_of_ble_eq_true rfl) (by decide) rfl (by decide) ?_
          refine j_aload_n (pc' := 1501) q242_1500 rfl (by decide) rfl ?_
          refine j_callV0_pi (d := d + 13) (pc' := 1504) q242_1501 rfl (Nat.le_of_ble_eq_true rfl) (Nat.le_of_ble_eq_true rfl) rfl (t_Y_torn hρ (d + 13) _) (fun r320 => ?_)
          refine j_aload_n (pc' := 1505) q242_1504 rfl (by decide) rfl ?_
          refine j_callV0_pi (d := d + 13) (pc' := 1508) q242_1505 rfl (Nat.le_of_ble_eq_true rfl) (Nat.le_of_ble_eq_true rfl) rfl (t_M_torn hρ (d + 13) _) (fun r321 => ?_)
          refine j_icmp_eq (pc' := 1511) q242_1508 rfl (fun c322 => ?_) (fun c322 => ?_)
          · refine j_forget (z_le_s (z_le_s (z_le_s (z_le_s (z_le_nil))))) (hj4 s1.2)
          · refine j_iconst (pc' := 1512) q242_1511 rfl ?_
            refine j_exit ?_
            exact j_zret q242_1512 rfl (Or.inl rfl)
        refine j_if (fun c323 => ?_) (fun c323 => ?_)
        · refine j_tin (pc' := 1513) (j := 42) (off := 1481) q242_32 c323 (Nat.le_of_ble_eq_true rfl) (by decide) rfl (by decide) ?_
          refine j_aload_n (pc' := 1514) q242_1513 rfl (by decide) rfl ?_
          refine j_aload_n (pc' := 1515) q242_1514 rfl (by decide) rfl ?_
          refine j_iload_n (pc' := 1516) q242_1515 rfl rfl ?_
          refine j_iconst (pc' := 1517) q242_1516 rfl ?_
          refine j_iadd (pc' := 1518) q242_1517 rfl ?_
          refine j_if (fun hi324 => ?_) (fun _ => j_none)
          refine j_xald (pc' := 1519) q242_1518 hi324 rfl ?_
          refine j_callV1_pi (d := d + 13) (pc' := 1522) q242_1519 rfl (Nat.le_of_ble_eq_true rfl) (Nat.le_of_ble_eq_true rfl) rfl (t_Y_count hρ (d + 11) _ _) (fun r325 => ?_)
          refine j_aload_n (pc' := 1523) q242_1522 rfl (by decide) rfl ?_
          refine j_aload_n (pc' := 1524) q242_1523 rfl (by decide) rfl ?_
          refine j_iload_n (pc' := 1525) q242_1524 rfl rfl ?_
          refine j_iconst (pc' := 1526) q242_1525 rfl ?_
          refine j_iadd (pc' := 1527) q242_1526 rfl ?_
          refine j_if (fun hi326 => ?_) (fun _ => j_none)
          refine j_xald (pc' := 1528) q242_1527 hi326 rfl ?_
          refine j_callV1_pi (d := d + 13) (pc' := 1531) q242_1528 rfl (Nat.le_of_ble_eq_true rfl) (Nat.le_of_ble_eq_true rfl) rfl (t_M_count hρ (d + 12) _ _) (fun r327 => ?_)
          refine j_icmp_eq (pc' := 1534) q242_1531 rfl (fun c328 => ?_) (fun c328 => ?_)
          · refine j_forget (z_le_s (z_le_s (z_le_s (z_le_s (z_le_nil))))) (hj4 s1.2)
          · refine j_iconst (pc' := 1535) q242_1534 rfl ?_
            refine j_exit ?_
            exact j_zret q242_1535 rfl (Or.inl rfl)
        refine j_tdef (pc' := 1536) 43 q242_32 rfl (by decide) (z_noS (z_noS (z_noS (z_noS (z_noS (z_noS (z_noS (z_noS (z_noS (z_noS (z_noS (z_noS (z_noS (z_noS (z_noS (z_noS (z_noS (z_noS (z_noS (z_noS (z_noS (z_noS (z_noS (z_noS (z_noS (z_noS (z_noS (z_noS (z_noS (z_noS (z_noS (z_noS (z_noS (z_noS (z_noS (z_noS (z_noS (z_noS (z_noS (z_noS (z_noS (z_noS (z_noS (z_no0) c5) c11) c17) c21) c25) c31) c39) c45) c53) c61) c67) c77) c83) c91) c99) c111) c119) c127) c133) c141) c147) c157) c161) c169) c175) c179) c189) c197) c205) c213) c225) c233) c239) c249) c259) c265) c275) c281) c287) c297) c307) c319) c323) (by decide) ?_
        refine j_forget (z_le_s (z_le_s (z_le_s (z_le_s (z_le_nil))))) (hj4 s1.2)
