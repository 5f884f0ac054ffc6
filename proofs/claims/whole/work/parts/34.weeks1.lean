/-! calls of weeks -/
section W1
variable {σ : zS} {p p' : Nat → Nat} {W H R : Nat}
def g_sum (p : Nat → Nat) : Nat := p 106 + p 107 + p 108
theorem yy_sum_1 (h : hg_G1 σ p W H R) : f_G_ripeOfAll_1 σ = some (nI (g_sum p)) := yy_ripe_1 h.2.2.2.2.2.2.2.2.2.2.2.2.2.2.2.2.1
theorem yy_sum_17 (h : hg_G17 σ p W H R) : f_G_ripeOfAll_17 σ = some (nI (g_sum p)) := yy_ripe_17 h.2.2.2.2.2.2.2.2.2.2.2.2.2.2.2.2.1
theorem mm_sum {P : Nat} (hQ : hg_Q σ P p) (hP : P ≤ 440) : f_M_ripeOn (nI P) σ = some (nI (g_sum p)) := mm_ripeOn hQ hP
theorem yy_try (hD : hg_D W H R) (hV : hg_V p R) (hG : hg_G1 σ p W H R) {n : Nat} (hn : n < 2 ^ 31) : ∃ τ1 τ, f_G_copyFrom_17_1 σ = some τ1 ∧ f_G_goOn_17 (nI n) τ1 = some τ ∧ hg_G17 τ (g_wks W H R n p) W H R ∧ ∀ k, (k < 17 ∨ 32 < k) → τ k = σ k := by
  obtain ⟨τ1, t1, t2, t3⟩ := yy_copy_17_1 hD.2.2.2.2 hG
  obtain ⟨τ, u1, u2, -, u3⟩ := yy_goOn_17 hD hV t2 hn
  exact ⟨τ1, τ, t1, u1, u2, fun k hk => by rw [u3 k hk, t3 k (by omega)]⟩
theorem mm_cp0 (hQ : hg_Q σ 0 p) : ∃ υ, f_M_copies (nI 0) (nI 440) σ = some υ ∧ hg_Q υ 440 p ∧ hg_O σ υ 440 := by
  obtain ⟨υ, u1, u2, u3⟩ := mm_copies (A := 0) (B := 440) (by omega) (by omega) (by omega) σ
  exact ⟨υ, u1, fun k hk => by rw [u2 k hk]; exact hQ k hk, u3⟩
theorem hg_O2_of {τ : zS} {P : Nat} (h : hg_O σ τ P) : hg_O2 σ τ P := ⟨fun k k1 _ => h.1 k k1, h.2⟩
theorem hg_O2_t {τ υ : zS} {P : Nat} (h : hg_O2 σ τ P) (h2 : hg_O2 τ υ P) : hg_O2 σ υ P := ⟨fun k k1 k2 => by rw [h2.1 k k1 k2, h.1 k k1 k2], fun j hj => by rw [h2.2 j hj, h.2 j hj]⟩
theorem hg_O2_r {P : Nat} : hg_O2 σ σ P := ⟨fun _ _ _ => rfl, fun _ _ => rfl⟩
theorem hg_M_O {τ : zS} {P : Nat} (hM : hg_M σ W H R) (h : hg_O2 σ τ P) : hg_M τ W H R := hg_M_c hM (h.1 90 (by omega) (by omega)) (h.1 92 (by omega) (by omega))
theorem hg_Q_O {τ : zS} (hQ : hg_Q σ 0 p) (h : hg_O2 σ τ 440) : hg_Q τ 0 p := fun k hk => by rw [h.2 _ (by omega)]; exact hQ k hk
theorem mm_try (hD : hg_D W H R) (hM : hg_M σ W H R) (hV : hg_V p R) (hQ : hg_Q σ 0 p) {n : Nat} (hn : n < 2 ^ 31) : ∃ υ1 υ, f_M_copies (nI 0) (nI 440) σ = some υ1 ∧ f_M_weeks (nI 440) (nI n) υ1 = some υ ∧ hg_Q υ 440 (g_wks W H R n p) ∧ hg_O2 σ υ 440 := by
  obtain ⟨υ1, u1, u2, u3⟩ := mm_cp0 hQ
  obtain ⟨υ, w1, w2, w3⟩ := mm_weeks hD (hg_M_O hM (hg_O2_of u3)) hV u2 (by omega) hn
  exact ⟨υ1, υ, u1, w1, w2, hg_O2_t (hg_O2_of u3) w3⟩
/-- what a trial brought more -/
def g_tr (p p' : Nat → Nat) (b : Int32) : Int32 := if b = 0 then nI (g_sum p') - nI (g_sum p) else nI (p' 109) - nI (p 109)
theorem yy_rit (h : hg_G1 σ p W H R) (h2 : hg_G17 σ p' W H R) : f_Y_ripeInTrial σ = some (nI (g_sum p') - nI (g_sum p)) := by
  unfold f_Y_ripeInTrial
  rw [yy_sum_17 h2, z_bs, yy_sum_1 h, z_bs]
theorem yy_sit (h : hg_G1 σ p W H R) (h2 : hg_G17 σ p' W H R) : f_Y_spoiledInTrial σ = some (nI (p' 109) - nI (p 109)) := by
  unfold f_Y_spoiledInTrial
  rw [h.2.2.2.2.2.2.2.2.2.2.2.2.2.2.2.2.2, h2.2.2.2.2.2.2.2.2.2.2.2.2.2.2.2.2.2]
theorem mm_tried (hD : hg_D W H R) (hM : hg_M σ W H R) (hV : hg_V p' R) (hQ : hg_Q σ 0 p) (hQ2 : hg_Q σ 440 p') {n : Nat} (hn : n < 2 ^ 31) (b : Int32) : ∃ υ, f_M_triedBy (nI n) b σ = some (g_tr p (g_wks W H R n p') b, υ) ∧ hg_Q υ 440 (g_wks W H R n p') ∧ hg_O2 σ υ 440 := by
  obtain ⟨υ, w1, w2, w3⟩ := mm_weeks hD hM hV hQ2 (by omega) hn
  refine ⟨υ, ?_, w2, w3⟩
  have hQ3 := hg_Q_O hQ w3
  unfold f_M_triedBy g_tr
  rw [nl440, w1, z_bs]
  by_cases hb : b = 0
  · rw [if_pos hb, if_pos hb, mm_sum w2 (by omega), z_bs, nl0, mm_sum hQ3 (by omega), z_bs]
  · rw [if_neg hb, if_neg hb, show (549 : Int32).toNatClampNeg = 440 + 109 from rfl, w2 109 (by omega), show (109 : Int32).toNatClampNeg = 109 from rfl, hg_Q0 hQ3 109 (by omega)]
end W1
theorem c_week {σ : zS} (h : z_Inv σ) (a : Int32) : hc_B (f_Y_week a) (f_M_week a) σ := by
  obtain ⟨W, H, R, p, h⟩ := h
  obtain ⟨hD, hV, hG, hQ, hX, hB⟩ := id h
  obtain ⟨n1, n2⟩ := hg_D_N hD
  obtain ⟨d1, d2, d3, d4, d5⟩ := id hD
  obtain ⟨G0, G1, G2, G3, G4, G5, G6, G7, G8, G9, G10, G11, G12, G13, G14, G15, G16, G17⟩ := id hG
  have hM := hX.1
  have q := hg_Q0 hQ
  have hI : z_Inv σ := ⟨W, H, R, p, h⟩
  by_cases ha : 0 ≤ a.toInt ∧ a.toInt ≤ 60
  · obtain ⟨n, -, hn, rfl⟩ := hg_arg2 (lo := 0) (hi := 60) (by omega) ha
    have hB1 := hB.1
    by_cases hf : p 105 + n ≤ 999
    · obtain ⟨τ, t1, t2, -, t3⟩ := yy_goOn_1 hD hV hG (n := n) (by omega)
      have hQ2 : hg_Q τ 0 p := hg_Q_c hQ (t3 91 (by omega))
      have hM2 : hg_M τ W H R := hg_M_c hM (t3 90 (by omega)) (t3 92 (by omega))
      obtain ⟨υ, u1, u2, u3⟩ := mm_weeks hD hM2 hV hQ2 (by omega) (n := n) (by omega)
      refine ⟨nI (g_sum (g_wks W H R n p)) - nI (g_sum p), τ, υ, ?_, ?_, ?_⟩
      · unfold f_Y_week
        rw [nl0, nl60, ki_0_60, z_bs, if_pos ha, if_neg (show ¬ nI 1 = nI 0 by decide), G15, nI_add, nl1000, if_pos (nI_lt (by omega) (by omega)), yy_sum_1 hG, z_bs, t1, z_bs, yy_sum_1 t2, z_bs]
      · unfold f_M_week
        rw [km_0_60, z_bs, if_pos ha, if_neg (show ¬ nI 1 = 0 by decide), show (105 : Int32).toNatClampNeg = 105 from rfl, hg_Q0 hQ2 105 (by omega), nI_add, nl999, if_pos (nI_le hf (by omega)), nl0, mm_sum hQ2 (by omega), z_bs, u1, z_bs, mm_sum u2 (by omega), z_bs]
      · obtain ⟨b1, b2⟩ := hg_B_wks hD hB.2 n
        exact hg_mk2 h (hg_V_wks d5 hV n) ⟨by rw [b1]; exact hf, b2⟩ t2 u2 (fun k hk => t3 k (by omega)) u3.1 (fun j j1 j2 => by rw [u3.2 j (by omega), t3 91 (by omega)])
    · refine ⟨- nI 3, σ, σ, ?_, ?_, hI⟩
      · unfold f_Y_week
        rw [nl0, nl60, ki_0_60, z_bs, if_pos ha, if_neg (show ¬ nI 1 = nI 0 by decide), G15, nI_add, nl1000, if_neg (nI_nlt (by omega) (by omega))]
        rfl
      · unfold f_M_week
        rw [km_0_60, z_bs, if_pos ha, if_neg (show ¬ nI 1 = 0 by decide), show (105 : Int32).toNatClampNeg = 105 from rfl, q 105 (by omega), nI_add, nl999, if_neg (nI_ge (by omega) (by omega))]
        rfl
  · refine ⟨-1, σ, σ, ?_, ?_, hI⟩
    · unfold f_Y_week
      rw [nl0, nl60, ki_0_60, z_bs, if_neg ha, if_pos rfl]
    · unfold f_M_week
      rw [km_0_60, z_bs, if_neg ha, if_pos (show nI 0 = 0 from rfl)]
theorem c_ahead {σ : zS} (h : z_Inv σ) (a b d : Int32) : hc_B (f_Y_ahead a b d) (f_M_ahead a b d) σ := by
  obtain ⟨W, H, R, p, h⟩ := h
  obtain ⟨hD, hV, hG, hQ, hX, hB⟩ := id h
  obtain ⟨n1, n2⟩ := hg_D_N hD
  obtain ⟨d1, d2, d3, d4, d5⟩ := id hD
  obtain ⟨G0, G1, G2, G3, G4, G5, G6, G7, G8, G9, G10, G11, G12, G13, G14, G15, G16, G17⟩ := id hG
  have hM := hX.1
  have q := hg_Q0 hQ
  have hI : z_Inv σ := ⟨W, H, R, p, h⟩
  by_cases hb : 0 ≤ b.toInt ∧ b.toInt ≤ 60
  · obtain ⟨n, -, hn, rfl⟩ := hg_arg2 (lo := 0) (hi := 60) (by omega) hb
    obtain ⟨τ1, τ, t1, t2, t3, t4⟩ := yy_try hD hV hG (n := n) (by omega)
    have hQ2 : hg_Q τ 0 p := hg_Q_c hQ (t4 91 (by omega))
    have hM2 : hg_M τ W H R := hg_M_c hM (t4 90 (by omega)) (t4 92 (by omega))
    by_cases ha : 0 ≤ a.toInt ∧ a.toInt < ((W * H : Nat) : Int)
    · obtain ⟨c, hc, rfl⟩ := hg_arg (by omega) ha
      have hY : f_Y_ahead (nI c) (nI n) d σ = some (g_fa (g_wks W H R n p) c d, τ) := by
        unfold f_Y_ahead
        rw [nl0, nl60, ki_0_60, z_bs, if_pos hb, if_neg (show ¬ nI 1 = nI 0 by decide), t1, z_bs, t2, z_bs, yy_facet_17 hD t3 hc, z_bs]
      by_cases hd : 0 ≤ d.toInt ∧ d.toInt ≤ 4
      · obtain ⟨υ1, υ, u1, u2, u3, u4⟩ := mm_try hD hM2 hV hQ2 (n := n) (by omega)
        refine ⟨_, τ, υ, hY, ?_, hg_mk0 h t4 u4.1 (fun j hj => by rw [u4.2 j (by omega), t4 91 (by omega)])⟩
        unfold f_M_ahead
        rw [mm_isCell hD hM2, z_bs, if_pos ha, if_neg (show ¬ nI 1 = 0 by decide), km_0_60, z_bs, if_pos hb, if_neg (show ¬ nI 1 = 0 by decide), km_0_4, z_bs, if_pos hd, if_neg (show ¬ nI 1 = 0 by decide), nl0, nl440, u1, z_bs, u2, z_bs, mm_asked (hg_V_wks d5 hV n) u3 (by omega) (show c < 16 by omega) hd, z_bs]
      · refine ⟨_, τ, τ, hY, ?_, hg_mk0 h t4 (fun _ _ _ => rfl) (fun j hj => by rw [t4 91 (by omega)])⟩
        unfold f_M_ahead
        rw [mm_isCell hD hM2, z_bs, if_pos ha, if_neg (show ¬ nI 1 = 0 by decide), km_0_60, z_bs, if_pos hb, if_neg (show ¬ nI 1 = 0 by decide), km_0_4, z_bs, if_neg hd, if_pos (show nI 0 = 0 from rfl), g_fa_x hd]
    · refine ⟨-1, τ, τ, ?_, ?_, hg_mk0 h t4 (fun _ _ _ => rfl) (fun j hj => by rw [t4 91 (by omega)])⟩
      · unfold f_Y_ahead
        rw [nl0, nl60, ki_0_60, z_bs, if_pos hb, if_neg (show ¬ nI 1 = nI 0 by decide), t1, z_bs, t2, z_bs, yy_facetx_17 hD t3 ha, z_bs]
      · unfold f_M_ahead
        rw [mm_isCell hD hM2, z_bs, if_neg ha, if_pos (show nI 0 = 0 from rfl)]
  · refine ⟨-1, σ, σ, ?_, ?_, hI⟩
    · unfold f_Y_ahead
      rw [nl0, nl60, ki_0_60, z_bs, if_neg hb, if_pos rfl]
    · unfold f_M_ahead
      by_cases ha : 0 ≤ a.toInt ∧ a.toInt < ((W * H : Nat) : Int)
      · rw [mm_isCell hD hM, z_bs, if_pos ha, if_neg (show ¬ nI 1 = 0 by decide), km_0_60, z_bs, if_neg hb, if_pos (show nI 0 = 0 from rfl)]
      · rw [mm_isCell hD hM, z_bs, if_neg ha, if_pos (show nI 0 = 0 from rfl)]
theorem c_comes {σ : zS} (h : z_Inv σ) (a b : Int32) : hc_B (f_Y_comes a b) (f_M_comes a b) σ := by
  obtain ⟨W, H, R, p, h⟩ := h
  obtain ⟨hD, hV, hG, hQ, hX, hB⟩ := id h
  obtain ⟨n1, n2⟩ := hg_D_N hD
  obtain ⟨d1, d2, d3, d4, d5⟩ := id hD
  obtain ⟨G0, G1, G2, G3, G4, G5, G6, G7, G8, G9, G10, G11, G12, G13, G14, G15, G16, G17⟩ := id hG
  have hM := hX.1
  have q := hg_Q0 hQ
  have hI : z_Inv σ := ⟨W, H, R, p, h⟩
  by_cases ha : 0 ≤ a.toInt ∧ a.toInt ≤ 60
  · obtain ⟨n, -, hn, rfl⟩ := hg_arg2 (lo := 0) (hi := 60) (by omega) ha
    by_cases hb : 0 ≤ b.toInt ∧ b.toInt ≤ 1
    · obtain ⟨τ1, τ, t1, t2, t3, t4⟩ := yy_try hD hV hG (n := n) (by omega)
      have hQ2 : hg_Q τ 0 p := hg_Q_c hQ (t4 91 (by omega))
      have hM2 : hg_M τ W H R := hg_M_c hM (t4 90 (by omega)) (t4 92 (by omega))
      have hG2 : hg_G1 τ p W H R := hg_G1_c hG (fun k a b => t4 k (by omega))
      obtain ⟨υ1, u1, u2, u3⟩ := mm_cp0 hQ2
      obtain ⟨υ, w1, w2, w3⟩ := mm_tried hD (hg_M_O hM2 (hg_O2_of u3)) hV (hg_Q_O hQ2 (hg_O2_of u3)) u2 (n := n) (by omega) b
      have w4 := hg_O2_t (hg_O2_of u3) w3
      refine ⟨g_tr p (g_wks W H R n p) b, τ, υ, ?_, ?_, hg_mk0 h t4 w4.1 (fun j hj => by rw [w4.2 j (by omega), t4 91 (by omega)])⟩
      · unfold f_Y_comes g_tr
        rw [nl0, nl60, nl1, ki_0_60, z_bs, if_pos ha, if_neg (show ¬ nI 1 = nI 0 by decide), ki_0_1, z_bs, if_pos hb, if_neg (show ¬ nI 1 = nI 0 by decide), t1, z_bs, t2, z_bs, yy_rit hG2 t3, yy_sit hG2 t3, z_bs, z_bs]
        by_cases hz : b = nI 0
        · rw [if_pos hz, if_pos hz]
        · rw [if_neg hz, if_neg hz]
      · unfold f_M_comes
        rw [km_0_60, z_bs, if_pos ha, if_neg (show ¬ nI 1 = 0 by decide), km_0_1, z_bs, if_pos hb, if_neg (show ¬ nI 1 = 0 by decide), nl0, nl440, u1, z_bs, w1, z_bs]
    · refine ⟨-1, σ, σ, ?_, ?_, hI⟩
      · unfold f_Y_comes
        rw [nl0, nl60, nl1, ki_0_60, z_bs, if_pos ha, if_neg (show ¬ nI 1 = nI 0 by decide), ki_0_1, z_bs, if_neg hb, if_pos rfl]
      · unfold f_M_comes
        rw [km_0_60, z_bs, if_pos ha, if_neg (show ¬ nI 1 = 0 by decide), km_0_1, z_bs, if_neg hb, if_pos (show nI 0 = 0 from rfl)]
  · refine ⟨-1, σ, σ, ?_, ?_, hI⟩
    · unfold f_Y_comes
      rw [nl0, nl60, ki_0_60, z_bs, if_neg ha, if_pos rfl]
    · unfold f_M_comes
      rw [km_0_60, z_bs, if_neg ha, if_pos (show nI 0 = 0 from rfl)]
theorem g_bs_S (q : Nat → Bool) (n : Nat) : g_bs q (n + 1) = g_bs q n ||| (if q n = true then 2 ^ n else 0) := by
  rw [g_bs]
  cases hq : q n with
  | true => rfl
  | false => rw [if_neg Bool.false_ne_true, if_neg Bool.false_ne_true, Nat.or_zero]
theorem c_spreads {σ : zS} (h : z_Inv σ) : hc_R f_Y_spreads f_M_spreads σ := by
  obtain ⟨W, H, R, p, h⟩ := h
  obtain ⟨hD, hV, hG, hQ, hX, hB⟩ := id h
  obtain ⟨n1, n2⟩ := hg_D_N hD
  obtain ⟨d1, d2, d3, d4, d5⟩ := id hD
  obtain ⟨G0, G1, G2, G3, G4, G5, G6, G7, G8, G9, G10, G11, G12, G13, G14, G15, G16, G17⟩ := id hG
  have hM := hX.1
  have q := hg_Q0 hQ
  have hI : z_Inv σ := ⟨W, H, R, p, h⟩
  obtain ⟨τ, t1, t2, t3⟩ := yy_notePlaces_1 hD hV hG
  have hG2 : hg_G1 τ p W H R := hg_G1_c hG (fun k a b => t3 k (by omega))
  have hQ2 : hg_Q τ 0 p := hg_Q_c hQ (t3 91 (by omega))
  have hM2 : hg_M τ W H R := hg_M_c hM (t3 90 (by omega)) (t3 92 (by omega))
  refine ⟨nI (g_bs (fun c => decide (g_f p W H R c < R)) (W * H)), τ, ?_, ?_, ⟨W, H, R, p, hg_I_c h (fun k a b c => t3 k (by omega)) (fun j hj => by rw [t3 91 (by omega)])⟩⟩
  · have e : f_G_fittedCells_1 σ = some (nI (g_bs (fun c => decide (g_f p W H R c < R)) (W * H)), τ) := by
      unfold f_G_fittedCells_1
      rw [t1, z_bs]
      refine z_ex (z_lp' (fun i (s : Int32 × Int32) => s.2 = nI i ∧ i ≤ W * H ∧ s.1 = nI (g_bs (fun c => decide (g_f p W H R c < R)) i)) (W * H) ?_ ?_ ?_)
      · exact ⟨rfl, by omega, rfl⟩
      · intro i s hi hP
        obtain ⟨e1, e2, e3⟩ := hP
        rw [e1, e3, y_cells_1 hD hG2, z_bs, if_neg (nI_ge hi (by omega)), yy_first_1 hD hV hG2 t2 hi, z_bs]
        simp only [z_join, z_let]
        refine ⟨(nI (g_bs (fun c => decide (g_f p W H R c < R)) (i + 1)), nI (i + 1)), ?_, rfl, by omega, rfl⟩
        rw [g_bs_S, nl1, nI_add]
        unfold g_F
        by_cases c : g_f p W H R i < R
        · rw [if_pos c, if_neg (show ¬ nI (g_f p W H R i) = -4 from z_neg (b := 4) (by omega) (by omega) _ (by omega)), show (31 : Int32) = nI 31 from rfl, z_shl (by omega), z_or, if_pos (decide_eq_true c)]
        · rw [if_neg c, if_pos z_lit4.symm, if_neg (by rw [decide_eq_true_iff]; exact c), Nat.or_zero]
      · intro s hP
        obtain ⟨e1, e2, e3⟩ := hP
        rw [e1, e3, y_cells_1 hD hG2, z_bs, if_pos (nI_le (Nat.le_refl _) (by omega))]
        exact ⟨_, rfl, _, rfl, rfl⟩
    unfold f_Y_spreads
    rw [e, z_bs]
  · unfold f_M_spreads
    refine z_ex (z_lp' (fun i (s : Int32 × Int32) => s.2 = nI i ∧ i ≤ W * H ∧ s.1 = nI (g_bs (fun c => decide (g_f p W H R c < R)) i)) (W * H) ?_ ?_ ?_)
    · exact ⟨rfl, by omega, rfl⟩
    · intro i s hi hP
      obtain ⟨e1, e2, e3⟩ := hP
      rw [e1, e3, hM2.1, hM2.2.1, pk_mul, if_neg (nI_ge hi (by omega)), nl0, mm_fitting hD hM2 hV hQ2 (by omega) hi, z_bs]
      simp only [z_join, z_let]
      refine ⟨(nI (g_bs (fun c => decide (g_f p W H R c < R)) (i + 1)), nI (i + 1)), ?_, rfl, by omega, rfl⟩
      rw [g_bs_S, nl1, nI_add]
      unfold g_F
      by_cases c : g_f p W H R i < R
      · rw [if_pos c, if_neg (show ¬ nI (g_f p W H R i) = -4 from z_neg (b := 4) (by omega) (by omega) _ (by omega)), show (31 : Int32) = nI 31 from rfl, z_shl (by omega), z_or, if_pos (decide_eq_true c)]
      · rw [if_neg c, if_pos z_lit4.symm, if_neg (by rw [decide_eq_true_iff]; exact c), z_or]
    · intro s hP
      obtain ⟨e1, e2, e3⟩ := hP
      rw [e1, e3, hM2.1, hM2.2.1, pk_mul, if_pos (nI_le (Nat.le_refl _) (by omega))]
      exact ⟨_, rfl, _, rfl, rfl⟩
/-- all i < n have q -/
def g_al (q : Nat → Bool) : Nat → Bool
  | 0 => true
  | n + 1 => g_al q n && q n
theorem g_al_iff {q : Nat → Bool} : ∀ {n : Nat}, g_al q n = true ↔ ∀ i, i < n → q i = true
  | 0 => ⟨fun _ i hi => absurd hi (by omega), fun _ => rfl⟩
  | n + 1 => by
    rw [g_al, Bool.and_eq_true, g_al_iff]
    constructor
    · intro h i hi
      by_cases c : i = n
      · rw [c]; exact h.2
      · exact h.1 i (by omega)
    · intro h
      exact ⟨fun i hi => h i (by omega), h n (by omega)⟩
def g_la (p p' : Nat → Nat) (N : Nat) : Bool := g_al (fun c => decide (g_l p' c = g_l p c) && decide (p' (5 * c + 1) = p (5 * c + 1))) N
/-- behind how many weeks all lies so again -/
def g_ag (W H R : Nat) (p : Nat → Nat) : Int32 := if g_ft (fun j => g_la p (g_wks W H R (j + 1) p) (W * H)) 60 < 60 then nI (g_ft (fun j => g_la p (g_wks W H R (j + 1) p) (W * H)) 60 + 1) else - nI 4
section W2
variable {σ : zS} {p p' : Nat → Nat} {W H R : Nat}
theorem yy_liesAs (hD : hg_D W H R) (hV : hg_V p R) (hV' : hg_V p' R) (h1 : hg_G1 σ p W H R) (h17 : hg_G17 σ p' W H R) : f_G_liesAs_17_1 σ = some (nI (if g_la p p' (W * H) = true then 1 else 0)) := by
  obtain ⟨n1, n2⟩ := hg_D_N hD
  unfold f_G_liesAs_17_1
  refine z_ex (z_lp (fun i (s : Int32) => s = nI i ∧ i ≤ W * H ∧ ∀ j, j < i → (decide (g_l p' j = g_l p j) && decide (p' (5 * j + 1) = p (5 * j + 1))) = true) (W * H) ?_ ?_ ?_)
  · exact ⟨rfl, by omega, fun j hj => absurd hj (by omega)⟩
  · intro i s hi hP
    obtain ⟨e1, e2, e3⟩ := hP
    subst e1
    have b1 := hg_V_l hV (show i < 16 by omega)
    have b2 := hg_V_l hV' (show i < 16 by omega)
    have b3 := (hV.1 i (by omega)).2.1
    have b4 := (hV'.1 i (by omega)).2.1
    rw [y_cells_17 hD h17, z_bs, if_neg (nI_ge hi (by omega))]
    simp only [if_pos ((z_ibn (show i < 2 ^ 31 by omega)).mpr (show i < 16 by omega)), nI_clamp (show i < 2 ^ 31 by omega), h1.2.2.2.1 i (by omega), h17.2.2.2.1 i (by omega), h1.2.2.2.2.1 i (by omega), h17.2.2.2.2.1 i (by omega), nI_eq (show g_l p' i < 2 ^ 31 by omega) (show g_l p i < 2 ^ 31 by omega), nI_eq (show p' (5 * i + 1) < 2 ^ 31 by omega) (show p (5 * i + 1) < 2 ^ 31 by omega)]
    by_cases c1 : g_l p' i = g_l p i
    · rw [if_pos c1]
      by_cases c2 : p' (5 * i + 1) = p (5 * i + 1)
      · rw [if_pos c2]
        left
        refine ⟨_, rfl, nI_1 i, by omega, fun j hj => ?_⟩
        by_cases cj : j = i
        · rw [cj, decide_eq_true c1, decide_eq_true c2]; rfl
        · exact e3 j (by omega)
      · rw [if_neg c2]
        right
        refine ⟨_, rfl, _, rfl, ?_⟩
        rw [if_neg]
        · rfl
        · intro z
          have := g_al_iff.mp z i hi
          rw [Bool.and_eq_true, decide_eq_true_iff, decide_eq_true_iff] at this
          exact c2 this.2
    · rw [if_neg c1]
      right
      refine ⟨_, rfl, _, rfl, ?_⟩
      rw [if_neg]
      · rfl
      · intro z
        have := g_al_iff.mp z i hi
        rw [Bool.and_eq_true, decide_eq_true_iff, decide_eq_true_iff] at this
        exact c1 this.1
  · intro s hP
    obtain ⟨e1, e2, e3⟩ := hP
    subst e1
    rw [y_cells_17 hD h17, z_bs, if_pos (nI_le (Nat.le_refl _) (by omega))]
    refine ⟨_, rfl, _, rfl, ?_⟩
    rw [if_pos (show g_la p p' (W * H) = true from g_al_iff.mpr e3)]
    rfl
theorem mm_liesAs (hD : hg_D W H R) (hM : hg_M σ W H R) (hV : hg_V p R) (hV' : hg_V p' R) (h1 : hg_Q σ 0 p) (h17 : hg_Q σ 440 p') : f_M_liesAsNow (nI 440) σ = some (nI (if g_la p p' (W * H) = true then 1 else 0)) := by
  obtain ⟨n1, n2⟩ := hg_D_N hD
  unfold f_M_liesAsNow
  refine z_ex (z_lp' (fun i (s : Int32 × Int32) => s.2 = nI i ∧ i ≤ W * H ∧ s.1 = nI (if g_la p p' i = true then 1 else 0)) (W * H) ?_ ?_ ?_)
  · exact ⟨rfl, by omega, rfl⟩
  · intro i s hi hP
    obtain ⟨e1, e2, e3⟩ := hP
    have b1 := hg_V_l hV (show i < 16 by omega)
    have b2 := hg_V_l hV' (show i < 16 by omega)
    have b3 := (hV.1 i (by omega)).2.1
    have b4 := (hV'.1 i (by omega)).2.1
    have l0 : f_M_lies (nI 0) (nI i) σ = some (nI (g_l p i)) := mm_lies hV h1 (by omega) (by omega)
    have l1 : f_M_lies (nI 440) (nI i) σ = some (nI (g_l p' i)) := mm_lies hV' h17 (by omega) (by omega)
    have x0 : σ 91 (5 * i + 1) = nI (p (5 * i + 1)) := hg_Q0 h1 _ (by omega)
    have x1 : σ 91 (440 + 5 * i + 1) = nI (p' (5 * i + 1)) := by rw [Nat.add_assoc]; exact h17 _ (by omega)
    refine ⟨(nI (if g_la p p' (i + 1) = true then 1 else 0), nI (i + 1)), ?_, rfl, by omega, rfl⟩
    have es : g_la p p' (i + 1) = (g_la p p' i && (decide (g_l p' i = g_l p i) && decide (p' (5 * i + 1) = p (5 * i + 1)))) := rfl
    rw [es, e1, e3, hM.1, hM.2.1, pk_mul, if_neg (nI_ge hi (by omega))]
    simp (disch := omega) only [nl0, nl1, nl5, pk_mul, nI_add, z_join, l0, l1, z_bs, k_ib, if_true, nI_clamp, x0, x1, nI_eq (show g_l p' i < 2 ^ 31 by omega) (show g_l p i < 2 ^ 31 by omega), nI_eq (show p' (5 * i + 1) < 2 ^ 31 by omega) (show p (5 * i + 1) < 2 ^ 31 by omega)]
    cases hc : g_la p p' i with
    | false => rfl
    | true =>
      rw [if_neg (show ¬ nI (if true = true then 1 else 0) = nI 0 by decide)]
      by_cases c1 : g_l p' i = g_l p i
      · by_cases c2 : p' (5 * i + 1) = p (5 * i + 1)
        · rw [if_pos c1, if_pos c2, decide_eq_true c1, decide_eq_true c2]; rfl
        · rw [if_pos c1, if_neg c2, decide_eq_true c1, decide_eq_false c2]; rfl
      · rw [if_neg c1, decide_eq_false c1]; rfl
  · intro s hP
    obtain ⟨e1, e2, e3⟩ := hP
    rw [e1, e3, hM.1, hM.2.1, pk_mul, if_pos (nI_le (Nat.le_refl _) (by omega))]
    refine ⟨_, rfl, ?_⟩
    rw [nl0, nl1, if_pos (hg_b01 _)]
    exact ⟨_, rfl, rfl⟩
theorem yy_again (hD : hg_D W H R) (hV : hg_V p R) (hG : hg_G1 σ p W H R) : ∃ g, f_Y_again σ = some g ∧ g.1 = g_ag W H R p ∧ ∀ k, (k < 17 ∨ 32 < k) → g.2 k = σ k := by
  have hR := hD.2.2.2.2
  obtain ⟨τ0, t1, t2, t3⟩ := yy_copy_17_1 hR hG
  unfold f_Y_again
  rw [t1, z_bs]
  refine z_lp (fun i (s : Int32 × zS) => s.1 = nI (i + 1) ∧ hg_G17 s.2 (g_wks W H R i p) W H R ∧ (∀ k, (k < 17 ∨ 32 < k) → s.2 k = σ k) ∧ ∀ j, j < i → g_la p (g_wks W H R (j + 1) p) (W * H) = false) 60 ?_ ?_ ?_
  · exact ⟨rfl, t2, fun k hk => t3 k (by omega), fun j hj => absurd hj (by omega)⟩
  · intro i s hi hP
    obtain ⟨e1, e2, e3, e4⟩ := hP
    obtain ⟨τ, u1, u2, -, u3⟩ := yy_goOn_17 hD (hg_V_wks hR hV i) e2 (n := 1) (by omega)
    have u2' : hg_G17 τ (g_wks W H R (i + 1) p) W H R := u2
    have hfr : ∀ k, (k < 17 ∨ 32 < k) → τ k = σ k := fun k hk => by rw [u3 k hk, e3 k hk]
    have l := yy_liesAs hD hV (hg_V_wks hR hV (i + 1)) (hg_G1_c hG (fun k a b => hfr k (by omega))) u2'
    rw [e1, nl60, if_neg (nI_nlt (by omega) (by omega)), nl1, u1, z_bs, l, z_bs]
    cases hq : g_la p (g_wks W H R (i + 1) p) (W * H) with
    | false =>
      left
      refine ⟨(nI (i + 1 + 1), τ), ?_, rfl, u2', hfr, fun j hj => ?_⟩
      · rw [nI_add]; exact if_pos rfl
      · by_cases cj : j = i
        · rw [cj]; exact hq
        · exact e4 j (by omega)
    | true =>
      right
      refine ⟨.inr (nI (i + 1), τ), if_neg (show ¬ nI (if true = true then 1 else 0) = 0 by decide), _, rfl, ?_, hfr⟩
      have := g_ft_is (fun j => g_la p (g_wks W H R (j + 1) p) (W * H)) 60 i (by omega) e4 (fun _ => hq)
      unfold g_ag
      rw [this, if_pos hi]
  · intro s hP
    obtain ⟨e1, e2, e3, e4⟩ := hP
    rw [e1, nl60, if_pos (nI_lt (by omega) (by omega))]
    refine ⟨_, rfl, _, rfl, ?_, e3⟩
    have := g_ft_is (fun j => g_la p (g_wks W H R (j + 1) p) (W * H)) 60 60 (Nat.le_refl _) e4 (fun z => absurd z (by omega))
    unfold g_ag
    rw [this, if_neg (by omega)]
    rfl
theorem mm_again (hD : hg_D W H R) (hM : hg_M σ W H R) (hV : hg_V p R) (hQ : hg_Q σ 0 p) : ∃ g, f_M_again σ = some g ∧ g.1 = g_ag W H R p ∧ hg_O2 σ g.2 440 := by
  have hR := hD.2.2.2.2
  obtain ⟨τ0, t1, t2, t3⟩ := mm_cp0 hQ
  unfold f_M_again
  rw [nl0, nl440, t1, z_bs]
  refine z_lp (fun i (s : Int32 × zS) => s.1 = nI (i + 1) ∧ hg_Q s.2 440 (g_wks W H R i p) ∧ hg_O2 σ s.2 440 ∧ ∀ j, j < i → g_la p (g_wks W H R (j + 1) p) (W * H) = false) 60 ?_ ?_ ?_
  · exact ⟨rfl, t2, hg_O2_of t3, fun j hj => absurd hj (by omega)⟩
  · intro i s hi hP
    obtain ⟨e1, e2, e3, e4⟩ := hP
    obtain ⟨τ, u1, u2, u3⟩ := mm_weeks hD (hg_M_O hM e3) (hg_V_wks hR hV i) e2 (by omega) (n := 1) (by omega)
    have u2' : hg_Q τ 440 (g_wks W H R (i + 1) p) := u2
    have hfr := hg_O2_t e3 u3
    have l := mm_liesAs hD (hg_M_O hM hfr) hV (hg_V_wks hR hV (i + 1)) (hg_Q_O hQ hfr) u2'
    rw [e1, nl60, if_neg (nI_nlt (by omega) (by omega)), nl1, u1, z_bs, l, z_bs]
    cases hq : g_la p (g_wks W H R (i + 1) p) (W * H) with
    | false =>
      left
      refine ⟨(nI (i + 1 + 1), τ), ?_, rfl, u2', hfr, fun j hj => ?_⟩
      · rw [nI_add]; exact if_pos rfl
      · by_cases cj : j = i
        · rw [cj]; exact hq
        · exact e4 j (by omega)
    | true =>
      right
      refine ⟨.inr (nI (i + 1), τ), if_neg (show ¬ nI (if true = true then 1 else 0) = nI 0 by decide), _, rfl, ?_, hfr⟩
      have := g_ft_is (fun j => g_la p (g_wks W H R (j + 1) p) (W * H)) 60 i (by omega) e4 (fun _ => hq)
      unfold g_ag
      rw [this, if_pos hi]
  · intro s hP
    obtain ⟨e1, e2, e3, e4⟩ := hP
    rw [e1, nl60, if_pos (nI_lt (by omega) (by omega))]
    refine ⟨_, rfl, _, rfl, ?_, e3⟩
    have := g_ft_is (fun j => g_la p (g_wks W H R (j + 1) p) (W * H)) 60 60 (Nat.le_refl _) e4 (fun z => absurd z (by omega))
    unfold g_ag
    rw [this, if_neg (by omega)]
    rfl
end W2
/-- a class's trial, a reference's trial -/
theorem hg_two {σ : zS} {W H R : Nat} {p : Nat → Nat} {fY fM : zS → Option (Int32 × zS)} {v : Int32} (h : hg_I σ W H R p) (hY : ∃ g, fY σ = some g ∧ g.1 = v ∧ ∀ k, (k < 17 ∨ 32 < k) → g.2 k = σ k) (hMM : ∀ τ, (∀ k, (k < 17 ∨ 32 < k) → τ k = σ k) → hg_M τ W H R → hg_Q τ 0 p → ∃ g, fM τ = some g ∧ g.1 = v ∧ hg_O2 τ g.2 440) : hc_B fY fM σ := by
  obtain ⟨⟨r, τ⟩, t1, t2, t3⟩ := hY
  obtain ⟨⟨r2, υ⟩, u1, u2, u3⟩ := hMM τ t3 (hg_M_c h.2.2.2.2.1.1 (t3 90 (by omega)) (t3 92 (by omega))) (hg_Q_c h.2.2.2.1 (t3 91 (by omega)))
  simp only at t2 u2 t3 u3
  exact ⟨v, τ, υ, by rw [t1, t2], by rw [u1, u2], hg_mk0 h t3 u3.1 (fun j hj => by rw [u3.2 j (by omega), t3 91 (by omega)])⟩
theorem c_again {σ : zS} (h : z_Inv σ) : hc_B f_Y_again f_M_again σ := by
  obtain ⟨W, H, R, p, h⟩ := h
  obtain ⟨hD, hV, hG, hQ, hX, hB⟩ := id h
  obtain ⟨n1, n2⟩ := hg_D_N hD
  obtain ⟨d1, d2, d3, d4, d5⟩ := id hD
  obtain ⟨G0, G1, G2, G3, G4, G5, G6, G7, G8, G9, G10, G11, G12, G13, G14, G15, G16, G17⟩ := id hG
  have hM := hX.1
  have q := hg_Q0 hQ
  have hI : z_Inv σ := ⟨W, H, R, p, h⟩
  exact hg_two h (yy_again hD hV hG) (fun τ _ hM2 hQ2 => mm_again hD hM2 hV hQ2)
