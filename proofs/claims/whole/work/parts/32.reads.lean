/-! calls that look, calls that change one place -/
theorem c_fault {σ : zS} (h : z_Inv σ) : hc_P f_Y_fault f_M_fault σ := by
  obtain ⟨W, H, R, p, hD, hV, hG, hQ, hX, hB⟩ := h
  refine ⟨_, rfl, ?_⟩
  rw [hX.2.2.2.2.2.1.1]
  rfl
theorem c_torn {σ : zS} (h : z_Inv σ) : hc_P f_Y_torn f_M_torn σ := by
  obtain ⟨W, H, R, p, hD, hV, hG, hQ, hX, hB⟩ := h
  refine ⟨_, rfl, ?_⟩
  rw [hX.2.2.2.2.2.1.2]
  rfl
theorem c_rule {σ : zS} (h : z_Inv σ) (a : Int32) : hc_P (f_Y_rule a) (f_M_rule a) σ := by
  obtain ⟨W, H, R, p, hD, hV, hG, hQ, hX, hB⟩ := h
  obtain ⟨G0, G1, G2, G3, G4, G5, G6, G7, G8, G9, G10, G11, G12, G13, G14, G15, G16, G17⟩ := hG
  have hM := hX.1
  have q := hg_Q0 hQ
  have e : f_M_rule a σ = f_Y_rule a σ := by
    unfold f_M_rule f_Y_rule
    rw [hM.1, hM.2.1, hM.2.2.1, G0, G1, G2, G14, G15, G17, show (104 : Int32).toNatClampNeg = 104 from rfl, show (105 : Int32).toNatClampNeg = 105 from rfl, show (109 : Int32).toNatClampNeg = 109 from rfl, q 104 (by omega), q 105 (by omega), q 109 (by omega)]
  have e2 : ∃ r, f_Y_rule a σ = some r := by
    unfold f_Y_rule
    (repeat' split) <;> exact ⟨_, rfl⟩
  obtain ⟨r, hr⟩ := e2
  exact ⟨r, hr, by rw [e, hr]⟩
theorem c_cell {σ : zS} (h : z_Inv σ) (a b : Int32) : hc_P (f_Y_cell a b) (f_M_cell a b) σ := by
  obtain ⟨W, H, R, p, hD, hV, hG, hQ, hX, hB⟩ := h
  obtain ⟨n1, n2⟩ := hg_D_N hD
  have hM := hX.1
  by_cases ha : 0 ≤ a.toInt ∧ a.toInt < ((W * H : Nat) : Int)
  · obtain ⟨c, hc, rfl⟩ := hg_arg (by omega) ha
    refine ⟨g_fa p c b, ?_, ?_⟩
    · unfold f_Y_cell
      rw [yy_facet_1 hD hG hc, z_bs]
    · unfold f_M_cell
      rw [mm_isCell hD hM, z_bs, if_pos ha, if_neg (show ¬ nI 1 = 0 by decide), km_0_4, z_bs]
      by_cases hb : 0 ≤ b.toInt ∧ b.toInt ≤ 4
      · rw [if_pos hb, if_neg (show ¬ nI 1 = 0 by decide), nl0, mm_asked hV hQ (by omega) (show c < 16 by omega) hb, z_bs]
      · rw [if_neg hb, if_pos (show nI 0 = 0 from rfl), g_fa_x hb]
  · refine ⟨-1, ?_, ?_⟩
    · unfold f_Y_cell
      rw [yy_facetx_1 hD hG ha, z_bs]
    · unfold f_M_cell
      rw [mm_isCell hD hM, z_bs, if_neg ha, if_pos (show nI 0 = 0 from rfl)]
theorem c_edge {σ : zS} (h : z_Inv σ) (a : Int32) : hc_P (f_Y_edge a) (f_M_edge a) σ := by
  obtain ⟨W, H, R, p, hD, hV, hG, hQ, hX, hB⟩ := h
  have hM := hX.1
  unfold hc_P f_Y_edge f_M_edge
  rw [yy_hasEdge_1 hD hG, mm_isEdge hD hM, z_bs, z_bs]
  by_cases ha : 0 ≤ a.toInt ∧ g_ed W H a.toInt.toNat = true
  · rw [if_pos ha, if_neg (show ¬ nI 1 = 0 by decide), if_neg (show ¬ nI 1 = 0 by decide)]
    obtain ⟨n, hn, rfl⟩ := nI_of (show ¬ a < 0 from fun q => by have := ha.1; rw [Int32.lt_iff_toInt_lt] at q; exact absurd q (by show ¬ a.toInt < 0; omega))
    have hl := g_ed_lt hD ha.2
    rw [nI_toInt hn, Int.toNat_natCast] at hl
    rw [y_isOpen_1 hV.2.1 hG.2.2.2.2.2.2.2.2.1 hl.1, z_bs, show (80 : Int32).toNatClampNeg = 80 from rfl, hg_Q0 hQ 80 (by omega), nl1, show (31 : Int32) = nI 31 from rfl, z_sbit hV.2.1 hl.1]
    cases hb : (p 80).testBit n with
    | true => exact ⟨nI 1, rfl, rfl⟩
    | false => exact ⟨nI 0, rfl, rfl⟩
  · rw [if_neg ha, if_pos (show nI 0 = 0 from rfl), if_pos (show nI 0 = 0 from rfl)]
    exact ⟨_, rfl, rfl⟩
theorem c_stock {σ : zS} (h : z_Inv σ) (a b : Int32) : hc_P (f_Y_stock a b) (f_M_stock a b) σ := by
  obtain ⟨W, H, R, p, hD, hV, hG, hQ, hX, hB⟩ := h
  obtain ⟨G0, G1, G2, G3, G4, G5, G6, G7, G8, G9, G10, G11, G12, G13, G14, G15, G16, G17⟩ := hG
  have q := hg_Q0 hQ
  unfold hc_P f_Y_stock f_M_stock
  rw [y_isSeason, mm_isSeason, z_bs, z_bs]
  by_cases ha : 0 ≤ a.toInt ∧ a.toInt ≤ 3
  · rw [if_pos ha, if_neg (show ¬ nI 1 = 0 by decide), if_neg (show ¬ nI 1 = 0 by decide), nl0, nl1, ki_0_1, km_0_1, z_bs, z_bs]
    by_cases hb : 0 ≤ b.toInt ∧ b.toInt ≤ 1
    · obtain ⟨s, -, hs, rfl⟩ := hg_arg2 (lo := 0) (hi := 3) (by omega) ha
      obtain ⟨w, -, hw, rfl⟩ := hg_arg2 (lo := 0) (hi := 1) (by omega) hb
      rw [if_pos hb, if_neg (show ¬ nI 1 = nI 0 by decide), if_neg (show ¬ nI 1 = nI 0 by decide)]
      have hw2 : w = 0 ∨ w = 1 := by omega
      rcases hw2 with rfl | rfl
      · refine ⟨nI (p (96 + 2 * s)), ?_, ?_⟩
        · simp (disch := omega) only [nl0, nl1, nl2, nl3, nl4, nl5, nl6, nl7, nl8, nl9, nl10, nl11, nl12, nl13, nl14, nl15, nl16, nl20, nl24, nl30, nl31, nl32, nl36, nl37, nl40, nl48, nl49, nl50, nl57, nl59, nl60, nl80, nl81, nl82, nl83, nl96, nl97, nl99, nl104, nl105, nl106, nl107, nl108, nl109, nl110, nl122, nl127, nl150, nl160, nl330, nl440, nl777, nl999, nl1000, nl1050, nl100000, nl1000000, nl111, z_bs, z_let, z_join, k_eq, k_ne, k_leT, k_leF, k_ltT, k_ltF, k_ib, k_ngT, nI_clamp, nI_add, pk_mul, pk_sub, if_true, if_false, true_or, or_true, false_or, or_false, true_and, and_true, false_and, and_false, not_true_eq_false, not_false_eq_true, hg_uu, G12]
        · simp (disch := omega) only [nl0, nl1, nl2, nl3, nl4, nl5, nl6, nl7, nl8, nl9, nl10, nl11, nl12, nl13, nl14, nl15, nl16, nl20, nl24, nl30, nl31, nl32, nl36, nl37, nl40, nl48, nl49, nl50, nl57, nl59, nl60, nl80, nl81, nl82, nl83, nl96, nl97, nl99, nl104, nl105, nl106, nl107, nl108, nl109, nl110, nl122, nl127, nl150, nl160, nl330, nl440, nl777, nl999, nl1000, nl1050, nl100000, nl1000000, nl111, z_bs, z_let, z_join, k_eq, k_ne, k_leT, k_leF, k_ltT, k_ltF, k_ib, k_ngT, nI_clamp, nI_add, pk_mul, pk_sub, if_true, if_false, true_or, or_true, false_or, or_false, true_and, and_true, false_and, and_false, not_true_eq_false, not_false_eq_true, hg_uu, Nat.add_zero, q]
      · refine ⟨nI (p (97 + 2 * s) + 1), ?_, ?_⟩
        · simp (disch := omega) only [nl0, nl1, nl2, nl3, nl4, nl5, nl6, nl7, nl8, nl9, nl10, nl11, nl12, nl13, nl14, nl15, nl16, nl20, nl24, nl30, nl31, nl32, nl36, nl37, nl40, nl48, nl49, nl50, nl57, nl59, nl60, nl80, nl81, nl82, nl83, nl96, nl97, nl99, nl104, nl105, nl106, nl107, nl108, nl109, nl110, nl122, nl127, nl150, nl160, nl330, nl440, nl777, nl999, nl1000, nl1050, nl100000, nl1000000, nl111, z_bs, z_let, z_join, k_eq, k_ne, k_leT, k_leF, k_ltT, k_ltF, k_ib, k_ngT, nI_clamp, nI_add, pk_mul, pk_sub, if_true, if_false, true_or, or_true, false_or, or_false, true_and, and_true, false_and, and_false, not_true_eq_false, not_false_eq_true, hg_uu, G13]
        · simp (disch := omega) only [nl0, nl1, nl2, nl3, nl4, nl5, nl6, nl7, nl8, nl9, nl10, nl11, nl12, nl13, nl14, nl15, nl16, nl20, nl24, nl30, nl31, nl32, nl36, nl37, nl40, nl48, nl49, nl50, nl57, nl59, nl60, nl80, nl81, nl82, nl83, nl96, nl97, nl99, nl104, nl105, nl106, nl107, nl108, nl109, nl110, nl122, nl127, nl150, nl160, nl330, nl440, nl777, nl999, nl1000, nl1050, nl100000, nl1000000, nl111, z_bs, z_let, z_join, k_eq, k_ne, k_leT, k_leF, k_ltT, k_ltF, k_ib, k_ngT, nI_clamp, nI_add, pk_mul, pk_sub, if_true, if_false, true_or, or_true, false_or, or_false, true_and, and_true, false_and, and_false, not_true_eq_false, not_false_eq_true, hg_uu, show 96 + 2 * s + 1 = 97 + 2 * s by omega, q]
    · rw [if_neg hb, if_pos (show nI 0 = nI 0 from rfl), if_pos (show nI 0 = nI 0 from rfl)]
      exact ⟨_, rfl, rfl⟩
  · rw [if_neg ha, if_pos (show nI 0 = 0 from rfl), if_pos (show nI 0 = 0 from rfl)]
    exact ⟨_, rfl, rfl⟩
theorem c_law {σ : zS} (h : z_Inv σ) (a b : Int32) : hc_P (f_Y_law a b) (f_M_law a b) σ := by
  obtain ⟨W, H, R, p, hD, hV, hG, hQ, hX, hB⟩ := h
  obtain ⟨d1, d2, d3, d4, d5⟩ := id hD
  obtain ⟨G0, G1, G2, G3, G4, G5, G6, G7, G8, G9, G10, G11, G12, G13, G14, G15, G16, G17⟩ := hG
  have hM := hX.1
  have q := hg_Q0 hQ
  unfold hc_P f_Y_law f_M_law
  rw [yy_has_1 d5 G2, mm_isRule hD hM, z_bs, z_bs]
  by_cases ha : 0 ≤ a.toInt ∧ a.toInt < (R : Int)
  · rw [if_pos ha, if_neg (show ¬ nI 1 = 0 by decide), if_neg (show ¬ nI 1 = 0 by decide), km_0_2, z_bs]
    obtain ⟨k, hk, rfl⟩ := hg_arg (by omega) ha
    by_cases hb : 0 ≤ b.toInt ∧ b.toInt ≤ 2
    · obtain ⟨w, -, hw, rfl⟩ := hg_arg2 (lo := 0) (hi := 2) (by omega) hb
      rw [if_pos hb, if_neg (show ¬ nI 1 = 0 by decide)]
      have hw2 : w = 0 ∨ w = 1 ∨ w = 2 := by omega
      rcases hw2 with rfl | rfl | rfl
      · refine ⟨nI (p (81 + 3 * k)), ?_, ?_⟩
        · simp (disch := omega) only [nl0, nl1, nl2, nl3, nl4, nl5, nl6, nl7, nl8, nl9, nl10, nl11, nl12, nl13, nl14, nl15, nl16, nl20, nl24, nl30, nl31, nl32, nl36, nl37, nl40, nl48, nl49, nl50, nl57, nl59, nl60, nl80, nl81, nl82, nl83, nl96, nl97, nl99, nl104, nl105, nl106, nl107, nl108, nl109, nl110, nl122, nl127, nl150, nl160, nl330, nl440, nl777, nl999, nl1000, nl1050, nl100000, nl1000000, nl111, z_bs, z_let, z_join, k_eq, k_ne, k_leT, k_leF, k_ltT, k_ltF, k_ib, k_ngT, nI_clamp, nI_add, pk_mul, pk_sub, if_true, if_false, true_or, or_true, false_or, or_false, true_and, and_true, false_and, and_false, not_true_eq_false, not_false_eq_true, hg_uu, G9]
        · simp (disch := omega) only [nl0, nl1, nl2, nl3, nl4, nl5, nl6, nl7, nl8, nl9, nl10, nl11, nl12, nl13, nl14, nl15, nl16, nl20, nl24, nl30, nl31, nl32, nl36, nl37, nl40, nl48, nl49, nl50, nl57, nl59, nl60, nl80, nl81, nl82, nl83, nl96, nl97, nl99, nl104, nl105, nl106, nl107, nl108, nl109, nl110, nl122, nl127, nl150, nl160, nl330, nl440, nl777, nl999, nl1000, nl1050, nl100000, nl1000000, nl111, z_bs, z_let, z_join, k_eq, k_ne, k_leT, k_leF, k_ltT, k_ltF, k_ib, k_ngT, nI_clamp, nI_add, pk_mul, pk_sub, if_true, if_false, true_or, or_true, false_or, or_false, true_and, and_true, false_and, and_false, not_true_eq_false, not_false_eq_true, hg_uu, Nat.add_zero, q]
      · refine ⟨nI (p (82 + 3 * k)), ?_, ?_⟩
        · simp (disch := omega) only [nl0, nl1, nl2, nl3, nl4, nl5, nl6, nl7, nl8, nl9, nl10, nl11, nl12, nl13, nl14, nl15, nl16, nl20, nl24, nl30, nl31, nl32, nl36, nl37, nl40, nl48, nl49, nl50, nl57, nl59, nl60, nl80, nl81, nl82, nl83, nl96, nl97, nl99, nl104, nl105, nl106, nl107, nl108, nl109, nl110, nl122, nl127, nl150, nl160, nl330, nl440, nl777, nl999, nl1000, nl1050, nl100000, nl1000000, nl111, z_bs, z_let, z_join, k_eq, k_ne, k_leT, k_leF, k_ltT, k_ltF, k_ib, k_ngT, nI_clamp, nI_add, pk_mul, pk_sub, if_true, if_false, true_or, or_true, false_or, or_false, true_and, and_true, false_and, and_false, not_true_eq_false, not_false_eq_true, hg_uu, G10]
        · simp (disch := omega) only [nl0, nl1, nl2, nl3, nl4, nl5, nl6, nl7, nl8, nl9, nl10, nl11, nl12, nl13, nl14, nl15, nl16, nl20, nl24, nl30, nl31, nl32, nl36, nl37, nl40, nl48, nl49, nl50, nl57, nl59, nl60, nl80, nl81, nl82, nl83, nl96, nl97, nl99, nl104, nl105, nl106, nl107, nl108, nl109, nl110, nl122, nl127, nl150, nl160, nl330, nl440, nl777, nl999, nl1000, nl1050, nl100000, nl1000000, nl111, z_bs, z_let, z_join, k_eq, k_ne, k_leT, k_leF, k_ltT, k_ltF, k_ib, k_ngT, nI_clamp, nI_add, pk_mul, pk_sub, if_true, if_false, true_or, or_true, false_or, or_false, true_and, and_true, false_and, and_false, not_true_eq_false, not_false_eq_true, hg_uu, show 81 + 3 * k + 1 = 82 + 3 * k by omega, q]
      · refine ⟨nI (p (83 + 3 * k)), ?_, ?_⟩
        · simp (disch := omega) only [nl0, nl1, nl2, nl3, nl4, nl5, nl6, nl7, nl8, nl9, nl10, nl11, nl12, nl13, nl14, nl15, nl16, nl20, nl24, nl30, nl31, nl32, nl36, nl37, nl40, nl48, nl49, nl50, nl57, nl59, nl60, nl80, nl81, nl82, nl83, nl96, nl97, nl99, nl104, nl105, nl106, nl107, nl108, nl109, nl110, nl122, nl127, nl150, nl160, nl330, nl440, nl777, nl999, nl1000, nl1050, nl100000, nl1000000, nl111, z_bs, z_let, z_join, k_eq, k_ne, k_leT, k_leF, k_ltT, k_ltF, k_ib, k_ngT, nI_clamp, nI_add, pk_mul, pk_sub, if_true, if_false, true_or, or_true, false_or, or_false, true_and, and_true, false_and, and_false, not_true_eq_false, not_false_eq_true, hg_uu, G11]
        · simp (disch := omega) only [nl0, nl1, nl2, nl3, nl4, nl5, nl6, nl7, nl8, nl9, nl10, nl11, nl12, nl13, nl14, nl15, nl16, nl20, nl24, nl30, nl31, nl32, nl36, nl37, nl40, nl48, nl49, nl50, nl57, nl59, nl60, nl80, nl81, nl82, nl83, nl96, nl97, nl99, nl104, nl105, nl106, nl107, nl108, nl109, nl110, nl122, nl127, nl150, nl160, nl330, nl440, nl777, nl999, nl1000, nl1050, nl100000, nl1000000, nl111, z_bs, z_let, z_join, k_eq, k_ne, k_leT, k_leF, k_ltT, k_ltF, k_ib, k_ngT, nI_clamp, nI_add, pk_mul, pk_sub, if_true, if_false, true_or, or_true, false_or, or_false, true_and, and_true, false_and, and_false, not_true_eq_false, not_false_eq_true, hg_uu, show 81 + 3 * k + 2 = 83 + 3 * k by omega, q]
    · have f : ∀ n : Nat, n ≤ 2 → ¬ b = nI n := by
        intro n hn e
        subst e
        rw [nI_toInt (by omega)] at hb
        omega
      rw [if_neg hb, if_pos (show nI 0 = 0 from rfl), nl0, nl1, nl2, if_neg (f 0 (by omega)), if_neg (f 1 (by omega)), if_neg (f 2 (by omega))]
      exact ⟨_, rfl, rfl⟩
  · rw [if_neg ha, if_pos (show nI 0 = 0 from rfl), if_pos (show nI 0 = 0 from rfl)]
    exact ⟨_, rfl, rfl⟩
theorem c_ripe {σ : zS} (h : z_Inv σ) (a : Int32) : hc_P (f_Y_ripe a) (f_M_ripe a) σ := by
  obtain ⟨W, H, R, p, hD, hV, hG, hQ, hX, hB⟩ := h
  obtain ⟨G0, G1, G2, G3, G4, G5, G6, G7, G8, G9, G10, G11, G12, G13, G14, G15, G16, G17⟩ := hG
  have q := hg_Q0 hQ
  unfold hc_P f_Y_ripe f_M_ripe
  rw [nl0, nl2, ki_0_2, km_0_2, z_bs, z_bs]
  by_cases ha : 0 ≤ a.toInt ∧ a.toInt ≤ 2
  · rw [if_pos ha, if_neg (show ¬ nI 1 = nI 0 by decide), if_neg (show ¬ nI 1 = nI 0 by decide)]
    obtain ⟨o, -, ho, rfl⟩ := hg_arg2 (lo := 0) (hi := 2) (by omega) ha
    refine ⟨nI (p (106 + o)), ?_, ?_⟩
    · simp (disch := omega) only [nl0, nl1, nl2, nl3, nl4, nl5, nl6, nl7, nl8, nl9, nl10, nl11, nl12, nl13, nl14, nl15, nl16, nl20, nl24, nl30, nl31, nl32, nl36, nl37, nl40, nl48, nl49, nl50, nl57, nl59, nl60, nl80, nl81, nl82, nl83, nl96, nl97, nl99, nl104, nl105, nl106, nl107, nl108, nl109, nl110, nl122, nl127, nl150, nl160, nl330, nl440, nl777, nl999, nl1000, nl1050, nl100000, nl1000000, nl111, z_bs, z_let, z_join, k_eq, k_ne, k_leT, k_leF, k_ltT, k_ltF, k_ib, k_ngT, nI_clamp, nI_add, pk_mul, pk_sub, if_true, if_false, true_or, or_true, false_or, or_false, true_and, and_true, false_and, and_false, not_true_eq_false, not_false_eq_true, hg_uu, G16]
    · simp (disch := omega) only [nl0, nl1, nl2, nl3, nl4, nl5, nl6, nl7, nl8, nl9, nl10, nl11, nl12, nl13, nl14, nl15, nl16, nl20, nl24, nl30, nl31, nl32, nl36, nl37, nl40, nl48, nl49, nl50, nl57, nl59, nl60, nl80, nl81, nl82, nl83, nl96, nl97, nl99, nl104, nl105, nl106, nl107, nl108, nl109, nl110, nl122, nl127, nl150, nl160, nl330, nl440, nl777, nl999, nl1000, nl1050, nl100000, nl1000000, nl111, z_bs, z_let, z_join, k_eq, k_ne, k_leT, k_leF, k_ltT, k_ltF, k_ib, k_ngT, nI_clamp, nI_add, pk_mul, pk_sub, if_true, if_false, true_or, or_true, false_or, or_false, true_and, and_true, false_and, and_false, not_true_eq_false, not_false_eq_true, hg_uu, q]
  · rw [if_neg ha, if_pos (show nI 0 = nI 0 from rfl), if_pos (show nI 0 = nI 0 from rfl)]
    exact ⟨_, rfl, rfl⟩
