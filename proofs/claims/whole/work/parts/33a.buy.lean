/-! buying and laying -/
/-- what lay() answers, and the garden then -/
def g_buy (W H : Nat) (p : Nat → Nat) (a b d : Int32) : Int32 × (Nat → Nat) :=
  if 0 ≤ a.toInt ∧ a.toInt < ((W * H : Nat) : Int) then
    if 0 ≤ b.toInt ∧ b.toInt ≤ 3 then
      if 1 ≤ d.toInt ∧ d.toInt ≤ 9 then
        if p (96 + 2 * b.toNatClampNeg) < d.toNatClampNeg then (- nI 2, p)
        else if p 104 < (p (97 + 2 * b.toNatClampNeg) + 1) * d.toNatClampNeg then (- nI 2, p)
        else (nI (p 104 - (p (97 + 2 * b.toNatClampNeg) + 1) * d.toNatClampNeg), g_up (g_up (g_up (g_up p (96 + 2 * b.toNatClampNeg) (p (96 + 2 * b.toNatClampNeg) - d.toNatClampNeg)) 104 (p 104 - (p (97 + 2 * b.toNatClampNeg) + 1) * d.toNatClampNeg)) (5 * a.toNatClampNeg) b.toNatClampNeg) (5 * a.toNatClampNeg + 1) d.toNatClampNeg)
      else (- nI 1, p)
    else (- nI 1, p)
  else (- nI 1, p)
theorem g_buy_V {W H R : Nat} {p : Nat → Nat} (hD : hg_D W H R) (hV : hg_V p R) (a b d : Int32) : hg_V (g_buy W H p a b d).2 R := by
  obtain ⟨n1, n2⟩ := hg_D_N hD
  obtain ⟨d1, d2, d3, d4, d5⟩ := id hD
  unfold g_buy
  by_cases ha : 0 ≤ a.toInt ∧ a.toInt < ((W * H : Nat) : Int)
  · by_cases hb : 0 ≤ b.toInt ∧ b.toInt ≤ 3
    · by_cases hd : 1 ≤ d.toInt ∧ d.toInt ≤ 9
      · obtain ⟨c, hc, rfl⟩ := hg_arg (by omega) ha
        obtain ⟨s, -, hs, rfl⟩ := hg_arg2 (lo := 0) (hi := 3) (by omega) hb
        obtain ⟨y, hy1, hy, rfl⟩ := hg_arg2 (lo := 1) (hi := 9) (by omega) hd
        rw [if_pos ha, if_pos hb, if_pos hd]
        simp (disch := omega) only [nI_clamp]
        obtain ⟨w1, w2⟩ := hV.2.2.2.1 s (by omega)
        have w3 := hV.2.2.2.2
        split
        · exact hV
        · split
          · exact hV
          · exact (hg_V_up d5 (hg_V_up d5 (hg_V_up d5 (hg_V_up d5 hV (by intros; omega) (by intros; omega) (by intros; omega) (by intros; omega) (by intros; omega) (by intros; omega) (by intros; omega) (by intros; omega) (by intros; omega) (by intros; omega) (by intros; omega) (by intros; omega)) (by intros; omega) (by intros; omega) (by intros; omega) (by intros; omega) (by intros; omega) (by intros; omega) (by intros; omega) (by intros; omega) (by intros; omega) (by intros; omega) (by intros; omega) (by intros; omega)) (by intros; omega) (by intros; omega) (by intros; omega) (by intros; omega) (by intros; omega) (by intros; omega) (by intros; omega) (by intros; omega) (by intros; omega) (by intros; omega) (by intros; omega) (by intros; omega)) (by intros; omega) (by intros; omega) (by intros; omega) (by intros; omega) (by intros; omega) (by intros; omega) (by intros; omega) (by intros; omega) (by intros; omega) (by intros; omega) (by intros; omega) (by intros; omega))
      · rw [if_pos ha, if_pos hb, if_neg hd]; exact hV
    · rw [if_pos ha, if_neg hb]; exact hV
  · rw [if_neg ha]; exact hV
theorem g_buy_B {W H R : Nat} {p : Nat → Nat} (hD : hg_D W H R) (hB : hg_B p) (a b d : Int32) : hg_B (g_buy W H p a b d).2 := by
  obtain ⟨n1, n2⟩ := hg_D_N hD
  obtain ⟨d1, d2, d3, d4, d5⟩ := id hD
  unfold g_buy
  by_cases ha : 0 ≤ a.toInt ∧ a.toInt < ((W * H : Nat) : Int)
  · by_cases hb : 0 ≤ b.toInt ∧ b.toInt ≤ 3
    · by_cases hd : 1 ≤ d.toInt ∧ d.toInt ≤ 9
      · obtain ⟨c, hc, rfl⟩ := hg_arg (by omega) ha
        obtain ⟨s, -, hs, rfl⟩ := hg_arg2 (lo := 0) (hi := 3) (by omega) hb
        obtain ⟨y, hy1, hy, rfl⟩ := hg_arg2 (lo := 1) (hi := 9) (by omega) hd
        rw [if_pos ha, if_pos hb, if_pos hd]
        simp (disch := omega) only [nI_clamp]
        split
        · exact hB
        · split
          · exact hB
          · exact hg_B_up (by omega) (hg_B_up (by omega) (hg_B_up (by omega) (hg_B_up (by omega) hB)))
      · rw [if_pos ha, if_pos hb, if_neg hd]; exact hB
    · rw [if_pos ha, if_neg hb]; exact hB
  · rw [if_neg ha]; exact hB
section BU
variable {σ : zS} {p : Nat → Nat} {W H R : Nat}
theorem yy_buy_1 (hD : hg_D W H R) (hV : hg_V p R) (hG : hg_G1 σ p W H R) (a b d : Int32) : ∃ τ, f_G_buyAndSet_1 a b d σ = some ((g_buy W H p a b d).1, τ) ∧ hg_G1 τ (g_buy W H p a b d).2 W H R ∧ ∀ k, (k < 1 ∨ 14 < k) → τ k = σ k := by
  obtain ⟨n1, n2⟩ := hg_D_N hD
  obtain ⟨d1, d2, d3, d4, d5⟩ := id hD
  obtain ⟨G0, G1, G2, G3, G4, G5, G6, G7, G8, G9, G10, G11, G12, G13, G14, G15, G16, G17⟩ := id hG
  by_cases ha : 0 ≤ a.toInt ∧ a.toInt < ((W * H : Nat) : Int)
  · by_cases hb : 0 ≤ b.toInt ∧ b.toInt ≤ 3
    · by_cases hd : 1 ≤ d.toInt ∧ d.toInt ≤ 9
      · obtain ⟨c, hc, rfl⟩ := hg_arg (by omega) ha
        obtain ⟨s, -, hs, rfl⟩ := hg_arg2 (lo := 0) (hi := 3) (by omega) hb
        obtain ⟨y, hy1, hy, rfl⟩ := hg_arg2 (lo := 1) (hi := 9) (by omega) hd
        unfold g_buy
        rw [if_pos ha, if_pos hb, if_pos hd]
        simp (disch := omega) only [nI_clamp]
        obtain ⟨w1, w2⟩ := hV.2.2.2.1 s (by omega)
        have w3 := hV.2.2.2.2
        have w4 : (p (97 + 2 * s) + 1) * y ≤ 9 * 9 := Nat.mul_le_mul (by omega) hy
        by_cases h1 : p (96 + 2 * s) < y
        · rw [if_pos h1]
          refine ⟨σ, ?_, hG, fun _ _ => rfl⟩
          simp (disch := omega) only [f_G_buyAndSet_1, f_Sp_sells_11, y_hasCell_1 hD hG, y_isSeason, ki_0_1, ki_0_10, ki_0_127, ki_0_13, ki_0_15, ki_0_2, ki_0_3, ki_0_4, ki_0_60, ki_0_7, ki_0_99, ki_0_999, ki_1_12, ki_1_4, ki_1_5, ki_1_6, ki_1_60, ki_1_8, ki_1_9, ki_48_57, ki_97_122, nl0, nl1, nl2, nl3, nl4, nl5, nl6, nl7, nl8, nl9, nl10, nl11, nl12, nl13, nl14, nl15, nl16, nl20, nl24, nl30, nl31, nl32, nl36, nl37, nl40, nl48, nl49, nl50, nl57, nl59, nl60, nl80, nl81, nl82, nl83, nl96, nl97, nl99, nl104, nl105, nl106, nl107, nl108, nl109, nl110, nl122, nl127, nl150, nl160, nl330, nl440, nl777, nl999, nl1000, nl1050, nl100000, nl1000000, nl111, z_bs, z_let, z_join, k_eq, k_ne, k_leT, k_leF, k_ltT, k_ltF, k_ib, k_ngT, nI_clamp, nI_add, pk_mul, pk_sub, if_true, if_false, true_or, or_true, false_or, or_false, true_and, and_true, false_and, and_false, not_true_eq_false, not_false_eq_true, hg_uu, ha, hb, hd, G12, nl2]
        · rw [if_neg h1]
          by_cases h2 : p 104 < (p (97 + 2 * s) + 1) * y
          · rw [if_pos h2]
            refine ⟨σ, ?_, hG, fun _ _ => rfl⟩
            simp (disch := omega) only [f_G_buyAndSet_1, f_Sp_sells_11, y_hasCell_1 hD hG, y_isSeason, ki_0_1, ki_0_10, ki_0_127, ki_0_13, ki_0_15, ki_0_2, ki_0_3, ki_0_4, ki_0_60, ki_0_7, ki_0_99, ki_0_999, ki_1_12, ki_1_4, ki_1_5, ki_1_6, ki_1_60, ki_1_8, ki_1_9, ki_48_57, ki_97_122, nl0, nl1, nl2, nl3, nl4, nl5, nl6, nl7, nl8, nl9, nl10, nl11, nl12, nl13, nl14, nl15, nl16, nl20, nl24, nl30, nl31, nl32, nl36, nl37, nl40, nl48, nl49, nl50, nl57, nl59, nl60, nl80, nl81, nl82, nl83, nl96, nl97, nl99, nl104, nl105, nl106, nl107, nl108, nl109, nl110, nl122, nl127, nl150, nl160, nl330, nl440, nl777, nl999, nl1000, nl1050, nl100000, nl1000000, nl111, z_bs, z_let, z_join, k_eq, k_ne, k_leT, k_leF, k_ltT, k_ltF, k_ib, k_ngT, nI_clamp, nI_add, pk_mul, pk_sub, if_true, if_false, true_or, or_true, false_or, or_false, true_and, and_true, false_and, and_false, not_true_eq_false, not_false_eq_true, hg_uu, ha, hb, hd, G12, G13, G14]
          · rw [if_neg h2]
            refine ⟨z_u (z_u (z_u (z_u σ 12 s (nI (p (96 + 2 * s) - y))) 11 2 (nI (p 104 - (p (97 + 2 * s) + 1) * y))) 2 c (nI s)) 3 c (nI y), ?_, ?_, ?_⟩
            · simp (disch := omega) only [f_G_buyAndSet_1, f_Sp_sells_11, f_Sp_take_11, y_hasCell_1 hD hG, yy_set_1, y_isSeason, ki_0_1, ki_0_10, ki_0_127, ki_0_13, ki_0_15, ki_0_2, ki_0_3, ki_0_4, ki_0_60, ki_0_7, ki_0_99, ki_0_999, ki_1_12, ki_1_4, ki_1_5, ki_1_6, ki_1_60, ki_1_8, ki_1_9, ki_48_57, ki_97_122, nl0, nl1, nl2, nl3, nl4, nl5, nl6, nl7, nl8, nl9, nl10, nl11, nl12, nl13, nl14, nl15, nl16, nl20, nl24, nl30, nl31, nl32, nl36, nl37, nl40, nl48, nl49, nl50, nl57, nl59, nl60, nl80, nl81, nl82, nl83, nl96, nl97, nl99, nl104, nl105, nl106, nl107, nl108, nl109, nl110, nl122, nl127, nl150, nl160, nl330, nl440, nl777, nl999, nl1000, nl1050, nl100000, nl1000000, nl111, z_bs, z_let, z_join, k_eq, k_ne, k_leT, k_leF, k_ltT, k_ltF, k_ib, k_ngT, nI_clamp, nI_add, pk_mul, pk_sub, if_true, if_false, true_or, or_true, false_or, or_false, true_and, and_true, false_and, and_false, not_true_eq_false, not_false_eq_true, hg_uu, ha, hb, hd, G12, G13, G14, hg_u_n, hg_u_s]
            · exact gs_lay_1 d5 (gs_purse_1 d5 (gs_stock_1 d5 hG (by omega))) (by omega) (by omega)
            · intro k hk
              simp (disch := omega) only [hg_u_n]
      · refine ⟨σ, ?_, ?_, fun _ _ => rfl⟩
        · unfold g_buy
          simp (disch := omega) only [f_G_buyAndSet_1, y_hasCell_1 hD hG, y_isSeason, ki_0_1, ki_0_10, ki_0_127, ki_0_13, ki_0_15, ki_0_2, ki_0_3, ki_0_4, ki_0_60, ki_0_7, ki_0_99, ki_0_999, ki_1_12, ki_1_4, ki_1_5, ki_1_6, ki_1_60, ki_1_8, ki_1_9, ki_48_57, ki_97_122, nl0, nl1, nl2, nl3, nl4, nl5, nl6, nl7, nl8, nl9, nl10, nl11, nl12, nl13, nl14, nl15, nl16, nl20, nl24, nl30, nl31, nl32, nl36, nl37, nl40, nl48, nl49, nl50, nl57, nl59, nl60, nl80, nl81, nl82, nl83, nl96, nl97, nl99, nl104, nl105, nl106, nl107, nl108, nl109, nl110, nl122, nl127, nl150, nl160, nl330, nl440, nl777, nl999, nl1000, nl1050, nl100000, nl1000000, nl111, z_bs, z_let, z_join, k_eq, k_ne, k_leT, k_leF, k_ltT, k_ltF, k_ib, k_ngT, nI_clamp, nI_add, pk_mul, pk_sub, if_true, if_false, true_or, or_true, false_or, or_false, true_and, and_true, false_and, and_false, not_true_eq_false, not_false_eq_true, hg_uu, ha, hb, hd]
        · unfold g_buy
          rw [if_pos ha, if_pos hb, if_neg hd]; exact hG
    · refine ⟨σ, ?_, ?_, fun _ _ => rfl⟩
      · unfold g_buy
        simp (disch := omega) only [f_G_buyAndSet_1, y_hasCell_1 hD hG, y_isSeason, nl0, nl1, nl2, nl3, nl4, nl5, nl6, nl7, nl8, nl9, nl10, nl11, nl12, nl13, nl14, nl15, nl16, nl20, nl24, nl30, nl31, nl32, nl36, nl37, nl40, nl48, nl49, nl50, nl57, nl59, nl60, nl80, nl81, nl82, nl83, nl96, nl97, nl99, nl104, nl105, nl106, nl107, nl108, nl109, nl110, nl122, nl127, nl150, nl160, nl330, nl440, nl777, nl999, nl1000, nl1050, nl100000, nl1000000, nl111, z_bs, z_let, z_join, k_eq, k_ne, k_leT, k_leF, k_ltT, k_ltF, k_ib, k_ngT, nI_clamp, nI_add, pk_mul, pk_sub, if_true, if_false, true_or, or_true, false_or, or_false, true_and, and_true, false_and, and_false, not_true_eq_false, not_false_eq_true, hg_uu, ha, hb]
      · unfold g_buy
        rw [if_pos ha, if_neg hb]; exact hG
  · refine ⟨σ, ?_, ?_, fun _ _ => rfl⟩
    · unfold g_buy
      simp (disch := omega) only [f_G_buyAndSet_1, y_hasCell_1 hD hG, nl0, nl1, nl2, nl3, nl4, nl5, nl6, nl7, nl8, nl9, nl10, nl11, nl12, nl13, nl14, nl15, nl16, nl20, nl24, nl30, nl31, nl32, nl36, nl37, nl40, nl48, nl49, nl50, nl57, nl59, nl60, nl80, nl81, nl82, nl83, nl96, nl97, nl99, nl104, nl105, nl106, nl107, nl108, nl109, nl110, nl122, nl127, nl150, nl160, nl330, nl440, nl777, nl999, nl1000, nl1050, nl100000, nl1000000, nl111, z_bs, z_let, z_join, k_eq, k_ne, k_leT, k_leF, k_ltT, k_ltF, k_ib, k_ngT, nI_clamp, nI_add, pk_mul, pk_sub, if_true, if_false, true_or, or_true, false_or, or_false, true_and, and_true, false_and, and_false, not_true_eq_false, not_false_eq_true, hg_uu, ha]
    · unfold g_buy
      rw [if_neg ha]; exact hG
theorem yy_buy_17 (hD : hg_D W H R) (hV : hg_V p R) (hG : hg_G17 σ p W H R) (a b d : Int32) : ∃ τ, f_G_buyAndSet_17 a b d σ = some ((g_buy W H p a b d).1, τ) ∧ hg_G17 τ (g_buy W H p a b d).2 W H R ∧ ∀ k, (k < 17 ∨ 30 < k) → τ k = σ k := by
  obtain ⟨n1, n2⟩ := hg_D_N hD
  obtain ⟨d1, d2, d3, d4, d5⟩ := id hD
  obtain ⟨G0, G1, G2, G3, G4, G5, G6, G7, G8, G9, G10, G11, G12, G13, G14, G15, G16, G17⟩ := id hG
  by_cases ha : 0 ≤ a.toInt ∧ a.toInt < ((W * H : Nat) : Int)
  · by_cases hb : 0 ≤ b.toInt ∧ b.toInt ≤ 3
    · by_cases hd : 1 ≤ d.toInt ∧ d.toInt ≤ 9
      · obtain ⟨c, hc, rfl⟩ := hg_arg (by omega) ha
        obtain ⟨s, -, hs, rfl⟩ := hg_arg2 (lo := 0) (hi := 3) (by omega) hb
        obtain ⟨y, hy1, hy, rfl⟩ := hg_arg2 (lo := 1) (hi := 9) (by omega) hd
        unfold g_buy
        rw [if_pos ha, if_pos hb, if_pos hd]
        simp (disch := omega) only [nI_clamp]
        obtain ⟨w1, w2⟩ := hV.2.2.2.1 s (by omega)
        have w3 := hV.2.2.2.2
        have w4 : (p (97 + 2 * s) + 1) * y ≤ 9 * 9 := Nat.mul_le_mul (by omega) hy
        by_cases h1 : p (96 + 2 * s) < y
        · rw [if_pos h1]
          refine ⟨σ, ?_, hG, fun _ _ => rfl⟩
          simp (disch := omega) only [f_G_buyAndSet_17, f_Sp_sells_27, y_hasCell_17 hD hG, y_isSeason, ki_0_1, ki_0_10, ki_0_127, ki_0_13, ki_0_15, ki_0_2, ki_0_3, ki_0_4, ki_0_60, ki_0_7, ki_0_99, ki_0_999, ki_1_12, ki_1_4, ki_1_5, ki_1_6, ki_1_60, ki_1_8, ki_1_9, ki_48_57, ki_97_122, nl0, nl1, nl2, nl3, nl4, nl5, nl6, nl7, nl8, nl9, nl10, nl11, nl12, nl13, nl14, nl15, nl16, nl20, nl24, nl30, nl31, nl32, nl36, nl37, nl40, nl48, nl49, nl50, nl57, nl59, nl60, nl80, nl81, nl82, nl83, nl96, nl97, nl99, nl104, nl105, nl106, nl107, nl108, nl109, nl110, nl122, nl127, nl150, nl160, nl330, nl440, nl777, nl999, nl1000, nl1050, nl100000, nl1000000, nl111, z_bs, z_let, z_join, k_eq, k_ne, k_leT, k_leF, k_ltT, k_ltF, k_ib, k_ngT, nI_clamp, nI_add, pk_mul, pk_sub, if_true, if_false, true_or, or_true, false_or, or_false, true_and, and_true, false_and, and_false, not_true_eq_false, not_false_eq_true, hg_uu, ha, hb, hd, G12, nl2]
        · rw [if_neg h1]
          by_cases h2 : p 104 < (p (97 + 2 * s) + 1) * y
          · rw [if_pos h2]
            refine ⟨σ, ?_, hG, fun _ _ => rfl⟩
            simp (disch := omega) only [f_G_buyAndSet_17, f_Sp_sells_27, y_hasCell_17 hD hG, y_isSeason, ki_0_1, ki_0_10, ki_0_127, ki_0_13, ki_0_15, ki_0_2, ki_0_3, ki_0_4, ki_0_60, ki_0_7, ki_0_99, ki_0_999, ki_1_12, ki_1_4, ki_1_5, ki_1_6, ki_1_60, ki_1_8, ki_1_9, ki_48_57, ki_97_122, nl0, nl1, nl2, nl3, nl4, nl5, nl6, nl7, nl8, nl9, nl10, nl11, nl12, nl13, nl14, nl15, nl16, nl20, nl24, nl30, nl31, nl32, nl36, nl37, nl40, nl48, nl49, nl50, nl57, nl59, nl60, nl80, nl81, nl82, nl83, nl96, nl97, nl99, nl104, nl105, nl106, nl107, nl108, nl109, nl110, nl122, nl127, nl150, nl160, nl330, nl440, nl777, nl999, nl1000, nl1050, nl100000, nl1000000, nl111, z_bs, z_let, z_join, k_eq, k_ne, k_leT, k_leF, k_ltT, k_ltF, k_ib, k_ngT, nI_clamp, nI_add, pk_mul, pk_sub, if_true, if_false, true_or, or_true, false_or, or_false, true_and, and_true, false_and, and_false, not_true_eq_false, not_false_eq_true, hg_uu, ha, hb, hd, G12, G13, G14]
          · rw [if_neg h2]
            refine ⟨z_u (z_u (z_u (z_u σ 28 s (nI (p (96 + 2 * s) - y))) 27 2 (nI (p 104 - (p (97 + 2 * s) + 1) * y))) 18 c (nI s)) 19 c (nI y), ?_, ?_, ?_⟩
            · simp (disch := omega) only [f_G_buyAndSet_17, f_Sp_sells_27, f_Sp_take_27, y_hasCell_17 hD hG, yy_set_17, y_isSeason, ki_0_1, ki_0_10, ki_0_127, ki_0_13, ki_0_15, ki_0_2, ki_0_3, ki_0_4, ki_0_60, ki_0_7, ki_0_99, ki_0_999, ki_1_12, ki_1_4, ki_1_5, ki_1_6, ki_1_60, ki_1_8, ki_1_9, ki_48_57, ki_97_122, nl0, nl1, nl2, nl3, nl4, nl5, nl6, nl7, nl8, nl9, nl10, nl11, nl12, nl13, nl14, nl15, nl16, nl20, nl24, nl30, nl31, nl32, nl36, nl37, nl40, nl48, nl49, nl50, nl57, nl59, nl60, nl80, nl81, nl82, nl83, nl96, nl97, nl99, nl104, nl105, nl106, nl107, nl108, nl109, nl110, nl122, nl127, nl150, nl160, nl330, nl440, nl777, nl999, nl1000, nl1050, nl100000, nl1000000, nl111, z_bs, z_let, z_join, k_eq, k_ne, k_leT, k_leF, k_ltT, k_ltF, k_ib, k_ngT, nI_clamp, nI_add, pk_mul, pk_sub, if_true, if_false, true_or, or_true, false_or, or_false, true_and, and_true, false_and, and_false, not_true_eq_false, not_false_eq_true, hg_uu, ha, hb, hd, G12, G13, G14, hg_u_n, hg_u_s]
            · exact gs_lay_17 d5 (gs_purse_17 d5 (gs_stock_17 d5 hG (by omega))) (by omega) (by omega)
            · intro k hk
              simp (disch := omega) only [hg_u_n]
      · refine ⟨σ, ?_, ?_, fun _ _ => rfl⟩
        · unfold g_buy
          simp (disch := omega) only [f_G_buyAndSet_17, y_hasCell_17 hD hG, y_isSeason, ki_0_1, ki_0_10, ki_0_127, ki_0_13, ki_0_15, ki_0_2, ki_0_3, ki_0_4, ki_0_60, ki_0_7, ki_0_99, ki_0_999, ki_1_12, ki_1_4, ki_1_5, ki_1_6, ki_1_60, ki_1_8, ki_1_9, ki_48_57, ki_97_122, nl0, nl1, nl2, nl3, nl4, nl5, nl6, nl7, nl8, nl9, nl10, nl11, nl12, nl13, nl14, nl15, nl16, nl20, nl24, nl30, nl31, nl32, nl36, nl37, nl40, nl48, nl49, nl50, nl57, nl59, nl60, nl80, nl81, nl82, nl83, nl96, nl97, nl99, nl104, nl105, nl106, nl107, nl108, nl109, nl110, nl122, nl127, nl150, nl160, nl330, nl440, nl777, nl999, nl1000, nl1050, nl100000, nl1000000, nl111, z_bs, z_let, z_join, k_eq, k_ne, k_leT, k_leF, k_ltT, k_ltF, k_ib, k_ngT, nI_clamp, nI_add, pk_mul, pk_sub, if_true, if_false, true_or, or_true, false_or, or_false, true_and, and_true, false_and, and_false, not_true_eq_false, not_false_eq_true, hg_uu, ha, hb, hd]
        · unfold g_buy
          rw [if_pos ha, if_pos hb, if_neg hd]; exact hG
    · refine ⟨σ, ?_, ?_, fun _ _ => rfl⟩
      · unfold g_buy
        simp (disch := omega) only [f_G_buyAndSet_17, y_hasCell_17 hD hG, y_isSeason, nl0, nl1, nl2, nl3, nl4, nl5, nl6, nl7, nl8, nl9, nl10, nl11, nl12, nl13, nl14, nl15, nl16, nl20, nl24, nl30, nl31, nl32, nl36, nl37, nl40, nl48, nl49, nl50, nl57, nl59, nl60, nl80, nl81, nl82, nl83, nl96, nl97, nl99, nl104, nl105, nl106, nl107, nl108, nl109, nl110, nl122, nl127, nl150, nl160, nl330, nl440, nl777, nl999, nl1000, nl1050, nl100000, nl1000000, nl111, z_bs, z_let, z_join, k_eq, k_ne, k_leT, k_leF, k_ltT, k_ltF, k_ib, k_ngT, nI_clamp, nI_add, pk_mul, pk_sub, if_true, if_false, true_or, or_true, false_or, or_false, true_and, and_true, false_and, and_false, not_true_eq_false, not_false_eq_true, hg_uu, ha, hb]
      · unfold g_buy
        rw [if_pos ha, if_neg hb]; exact hG
  · refine ⟨σ, ?_, ?_, fun _ _ => rfl⟩
    · unfold g_buy
      simp (disch := omega) only [f_G_buyAndSet_17, y_hasCell_17 hD hG, nl0, nl1, nl2, nl3, nl4, nl5, nl6, nl7, nl8, nl9, nl10, nl11, nl12, nl13, nl14, nl15, nl16, nl20, nl24, nl30, nl31, nl32, nl36, nl37, nl40, nl48, nl49, nl50, nl57, nl59, nl60, nl80, nl81, nl82, nl83, nl96, nl97, nl99, nl104, nl105, nl106, nl107, nl108, nl109, nl110, nl122, nl127, nl150, nl160, nl330, nl440, nl777, nl999, nl1000, nl1050, nl100000, nl1000000, nl111, z_bs, z_let, z_join, k_eq, k_ne, k_leT, k_leF, k_ltT, k_ltF, k_ib, k_ngT, nI_clamp, nI_add, pk_mul, pk_sub, if_true, if_false, true_or, or_true, false_or, or_false, true_and, and_true, false_and, and_false, not_true_eq_false, not_false_eq_true, hg_uu, ha]
    · unfold g_buy
      rw [if_neg ha]; exact hG
theorem mm_buys (hD : hg_D W H R) (hM : hg_M σ W H R) (hV : hg_V p R) (hQ : hg_Q σ 0 p) (a b d : Int32) : ∃ τ, f_M_buys a b d σ = some ((g_buy W H p a b d).1, τ) ∧ hg_Q τ 0 (g_buy W H p a b d).2 ∧ hg_O σ τ 0 := by
  obtain ⟨n1, n2⟩ := hg_D_N hD
  obtain ⟨d1, d2, d3, d4, d5⟩ := id hD
  have q := hg_Q0 hQ
  by_cases ha : 0 ≤ a.toInt ∧ a.toInt < ((W * H : Nat) : Int)
  · by_cases hb : 0 ≤ b.toInt ∧ b.toInt ≤ 3
    · by_cases hd : 1 ≤ d.toInt ∧ d.toInt ≤ 9
      · obtain ⟨c, hc, rfl⟩ := hg_arg (by omega) ha
        obtain ⟨s, -, hs, rfl⟩ := hg_arg2 (lo := 0) (hi := 3) (by omega) hb
        obtain ⟨y, hy1, hy, rfl⟩ := hg_arg2 (lo := 1) (hi := 9) (by omega) hd
        unfold g_buy
        rw [if_pos ha, if_pos hb, if_pos hd]
        simp (disch := omega) only [nI_clamp]
        obtain ⟨w1, w2⟩ := hV.2.2.2.1 s (by omega)
        have w3 := hV.2.2.2.2
        have w4 : (p (97 + 2 * s) + 1) * y ≤ 9 * 9 := Nat.mul_le_mul (by omega) hy
        have i1 : 96 + 2 * s + 1 = 97 + 2 * s := by omega
        by_cases h1 : p (96 + 2 * s) < y
        · rw [if_pos h1]
          refine ⟨σ, ?_, hQ, hg_O_r⟩
          simp (disch := omega) only [f_M_buys, mm_isCell hD hM, mm_isSeason, km_0_1, km_0_127, km_0_13, km_0_2, km_0_3, km_0_4, km_0_60, km_0_999, km_0_99, km_0_10, km_0_7, km_1_12, km_1_5, km_1_4, km_1_6, km_1_60, km_1_9, km_1_8, km_1_3, km_11_49, km_48_57, km_97_122, nl0, nl1, nl2, nl3, nl4, nl5, nl6, nl7, nl8, nl9, nl10, nl11, nl12, nl13, nl14, nl15, nl16, nl20, nl24, nl30, nl31, nl32, nl36, nl37, nl40, nl48, nl49, nl50, nl57, nl59, nl60, nl80, nl81, nl82, nl83, nl96, nl97, nl99, nl104, nl105, nl106, nl107, nl108, nl109, nl110, nl122, nl127, nl150, nl160, nl330, nl440, nl777, nl999, nl1000, nl1050, nl100000, nl1000000, nl111, z_bs, z_let, z_join, k_eq, k_ne, k_leT, k_leF, k_ltT, k_ltF, k_ib, k_ngT, nI_clamp, nI_add, pk_mul, pk_sub, if_true, if_false, true_or, or_true, false_or, or_false, true_and, and_true, false_and, and_false, not_true_eq_false, not_false_eq_true, hg_uu, ha, hb, hd, i1, q]
        · rw [if_neg h1]
          by_cases h2 : p 104 < (p (97 + 2 * s) + 1) * y
          · rw [if_pos h2]
            refine ⟨σ, ?_, hQ, hg_O_r⟩
            simp (disch := omega) only [f_M_buys, mm_isCell hD hM, mm_isSeason, km_0_1, km_0_127, km_0_13, km_0_2, km_0_3, km_0_4, km_0_60, km_0_999, km_0_99, km_0_10, km_0_7, km_1_12, km_1_5, km_1_4, km_1_6, km_1_60, km_1_9, km_1_8, km_1_3, km_11_49, km_48_57, km_97_122, nl0, nl1, nl2, nl3, nl4, nl5, nl6, nl7, nl8, nl9, nl10, nl11, nl12, nl13, nl14, nl15, nl16, nl20, nl24, nl30, nl31, nl32, nl36, nl37, nl40, nl48, nl49, nl50, nl57, nl59, nl60, nl80, nl81, nl82, nl83, nl96, nl97, nl99, nl104, nl105, nl106, nl107, nl108, nl109, nl110, nl122, nl127, nl150, nl160, nl330, nl440, nl777, nl999, nl1000, nl1050, nl100000, nl1000000, nl111, z_bs, z_let, z_join, k_eq, k_ne, k_leT, k_leF, k_ltT, k_ltF, k_ib, k_ngT, nI_clamp, nI_add, pk_mul, pk_sub, if_true, if_false, true_or, or_true, false_or, or_false, true_and, and_true, false_and, and_false, not_true_eq_false, not_false_eq_true, hg_uu, ha, hb, hd, i1, q, Nat.mul_comm y]
          · rw [if_neg h2]
            refine ⟨z_u (z_u (z_u (z_u σ 91 (96 + 2 * s) (nI (p (96 + 2 * s) - y))) 91 104 (nI (p 104 - (p (97 + 2 * s) + 1) * y))) 91 (5 * c) (nI s)) 91 (5 * c + 1) (nI y), ?_, ?_, ?_⟩
            · have l := fun τ : zS => mm_lays (σ := τ) (P := 0) (by omega) (show c < 16 by omega) (nI s) (nI y)
              simp (disch := omega) only [Nat.zero_add] at l
              simp (disch := omega) only [f_M_buys, mm_isCell hD hM, mm_isSeason, l, km_0_1, km_0_127, km_0_13, km_0_2, km_0_3, km_0_4, km_0_60, km_0_999, km_0_99, km_0_10, km_0_7, km_1_12, km_1_5, km_1_4, km_1_6, km_1_60, km_1_9, km_1_8, km_1_3, km_11_49, km_48_57, km_97_122, nl0, nl1, nl2, nl3, nl4, nl5, nl6, nl7, nl8, nl9, nl10, nl11, nl12, nl13, nl14, nl15, nl16, nl20, nl24, nl30, nl31, nl32, nl36, nl37, nl40, nl48, nl49, nl50, nl57, nl59, nl60, nl80, nl81, nl82, nl83, nl96, nl97, nl99, nl104, nl105, nl106, nl107, nl108, nl109, nl110, nl122, nl127, nl150, nl160, nl330, nl440, nl777, nl999, nl1000, nl1050, nl100000, nl1000000, nl111, z_bs, z_let, z_join, k_eq, k_ne, k_leT, k_leF, k_ltT, k_ltF, k_ib, k_ngT, nI_clamp, nI_add, pk_mul, pk_sub, if_true, if_false, true_or, or_true, false_or, or_false, true_and, and_true, false_and, and_false, not_true_eq_false, not_false_eq_true, hg_uu, ha, hb, hd, i1, q, Nat.mul_comm y, hg_u_j, hg_u_s]
            · exact hg_Q0_up (hg_Q0_up (hg_Q0_up (hg_Q0_up hQ)))
            · refine ⟨fun k hk => ?_, fun j hj => ?_⟩
              · simp (disch := omega) only [hg_u_n]
              · simp (disch := omega) only [hg_u_j]
      · refine ⟨σ, ?_, ?_, hg_O_r⟩
        · unfold g_buy
          simp (disch := omega) only [f_M_buys, mm_isCell hD hM, mm_isSeason, km_0_1, km_0_127, km_0_13, km_0_2, km_0_3, km_0_4, km_0_60, km_0_999, km_0_99, km_0_10, km_0_7, km_1_12, km_1_5, km_1_4, km_1_6, km_1_60, km_1_9, km_1_8, km_1_3, km_11_49, km_48_57, km_97_122, nl0, nl1, nl2, nl3, nl4, nl5, nl6, nl7, nl8, nl9, nl10, nl11, nl12, nl13, nl14, nl15, nl16, nl20, nl24, nl30, nl31, nl32, nl36, nl37, nl40, nl48, nl49, nl50, nl57, nl59, nl60, nl80, nl81, nl82, nl83, nl96, nl97, nl99, nl104, nl105, nl106, nl107, nl108, nl109, nl110, nl122, nl127, nl150, nl160, nl330, nl440, nl777, nl999, nl1000, nl1050, nl100000, nl1000000, nl111, z_bs, z_let, z_join, k_eq, k_ne, k_leT, k_leF, k_ltT, k_ltF, k_ib, k_ngT, nI_clamp, nI_add, pk_mul, pk_sub, if_true, if_false, true_or, or_true, false_or, or_false, true_and, and_true, false_and, and_false, not_true_eq_false, not_false_eq_true, hg_uu, ha, hb, hd]
        · unfold g_buy
          rw [if_pos ha, if_pos hb, if_neg hd]; exact hQ
    · refine ⟨σ, ?_, ?_, hg_O_r⟩
      · unfold g_buy
        simp (disch := omega) only [f_M_buys, mm_isCell hD hM, mm_isSeason, nl0, nl1, nl2, nl3, nl4, nl5, nl6, nl7, nl8, nl9, nl10, nl11, nl12, nl13, nl14, nl15, nl16, nl20, nl24, nl30, nl31, nl32, nl36, nl37, nl40, nl48, nl49, nl50, nl57, nl59, nl60, nl80, nl81, nl82, nl83, nl96, nl97, nl99, nl104, nl105, nl106, nl107, nl108, nl109, nl110, nl122, nl127, nl150, nl160, nl330, nl440, nl777, nl999, nl1000, nl1050, nl100000, nl1000000, nl111, z_bs, z_let, z_join, k_eq, k_ne, k_leT, k_leF, k_ltT, k_ltF, k_ib, k_ngT, nI_clamp, nI_add, pk_mul, pk_sub, if_true, if_false, true_or, or_true, false_or, or_false, true_and, and_true, false_and, and_false, not_true_eq_false, not_false_eq_true, hg_uu, ha, hb]
      · unfold g_buy
        rw [if_pos ha, if_neg hb]; exact hQ
  · refine ⟨σ, ?_, ?_, hg_O_r⟩
    · unfold f_M_buys g_buy
      rw [mm_isCell hD hM, z_bs, if_neg ha, if_neg ha, if_pos (show nI 0 = 0 from rfl)]
      rfl
    · unfold g_buy
      rw [if_neg ha]; exact hQ
end BU
theorem c_lay {σ : zS} (h : z_Inv σ) (a b d : Int32) : hc_B (f_Y_lay a b d) (f_M_lay a b d) σ := by
  obtain ⟨W, H, R, p, h⟩ := h
  obtain ⟨hD, hV, hG, hQ, hX, hB⟩ := id h
  obtain ⟨τ, t1, t2, t3⟩ := yy_buy_1 hD hV hG a b d
  obtain ⟨υ, u1, u2, u3⟩ := mm_buys hD (hg_M_c hX.1 (t3 90 (by omega)) (t3 92 (by omega))) hV (hg_Q_c hQ (t3 91 (by omega))) a b d
  refine ⟨(g_buy W H p a b d).1, τ, υ, ?_, ?_, hg_mk2 h (g_buy_V hD hV a b d) (g_buy_B hD hB a b d) t2 u2 (fun k hk => t3 k (by omega)) (fun k k1 _ => u3.1 k k1) (fun j j1 j2 => by rw [u3.2 j (by omega), t3 91 (by omega)])⟩
  · unfold f_Y_lay
    rw [t1]
    rfl
  · unfold f_M_lay
    rw [u1]
    rfl
