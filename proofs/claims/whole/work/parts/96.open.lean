/-! OPEN -/
theorem c_plan {σ : zS} (h : z_Inv σ) (a b d : Int32) : hc_B (f_Y_plan a b d) (f_M_plan a b d) σ := by
  sorry
theorem c_text {σ : zS} (h : z_Inv σ) : hc_B (f_Y_text) (f_M_text) σ := by
  sorry
theorem c_luck {σ : zS} (h : z_Inv σ) (a b d e : Int32) : hc_P (f_Y_luck a b d e) (f_M_luck a b d e) σ := by
  sorry
