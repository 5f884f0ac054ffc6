/-! the law's loop -/
theorem z_ex1 {α : Type} {o : Option (Int32 × α)} {v : Int32} (h : ∃ g, o = some g ∧ g.1 = v) : ∃ τ, o = some (v, τ) := by
  obtain ⟨⟨r, τ⟩, h1, h2⟩ := h
  exact ⟨τ, by rw [h1]; exact congrArg (fun x => some (x, τ)) h2⟩
theorem lg_cmp_0 (x : Int64) : lg_cmp x x = 0 := by
  unfold lg_cmp
  rw [if_neg (by show ¬ x < x; rw [Int64.lt_iff_toInt_lt]; omega), if_pos rfl]
theorem z_lawloop {L : Nat} (hL : L ≤ 320) (xs : Nat → Int32) {σ0 : zS} (h0 : z_Inv σ0) : ∃ τ, f_L_law_4000 L xs σ0 = some ((1 : Int32), τ) := by
  unfold f_L_law_4000
  refine z_ex1 ?_
  by_cases hL5 : L < 5
  · refine z_lp' (fun _ (s : Int32 × zS) => s = (0, σ0)) 0 rfl (fun i s hi => absurd hi (by omega)) (fun s hP => ?_)
    subst hP
    dsimp only
    rw [show Int32.ofNat L = nI L from rfl, if_pos (show nI L - 5 < 0 from by
      have h : ∀ L, L < 5 → nI L - 5 < 0 := by decide
      exact h L hL5)]
    exact ⟨_, rfl, _, rfl, rfl⟩
  refine z_lp' (fun i (s : Int32 × zS) => s.1 = nI (5 * i) ∧ z_Inv s.2) (L / 5) ?_ ?_ ?_
  · exact ⟨rfl, h0⟩
  · intro i s hi hP
    obtain ⟨e1, e2⟩ := hP
    have i0 : (z_ib (nI (5 * i)) L = true) = True := eq_true ((z_ibn (by omega)).mpr (by omega))
    have i1 : (z_ib (nI (5 * i) + 1) L = true) = True := eq_true (by rw [nl1, nI_add]; exact (z_ibn (by omega)).mpr (by omega))
    have i2 : (z_ib (nI (5 * i) + 2) L = true) = True := eq_true (by rw [nl2, nI_add]; exact (z_ibn (by omega)).mpr (by omega))
    have i3 : (z_ib (nI (5 * i) + 3) L = true) = True := eq_true (by rw [nl3, nI_add]; exact (z_ibn (by omega)).mpr (by omega))
    have i4 : (z_ib (nI (5 * i) + 4) L = true) = True := eq_true (by rw [nl4, nI_add]; exact (z_ibn (by omega)).mpr (by omega))
    have fin : ∀ υ : zS, z_Inv υ → (∃ s' : Int32 × zS, (some (Sum.inl (nI (5 * i) + 5, υ)) : Option ((Int32 × zS) ⊕ ((zS) ⊕ (Int32 × zS)))) = some (Sum.inl s') ∧ s'.1 = nI (5 * (i + 1)) ∧ z_Inv s'.2) := fun υ hυ => ⟨_, rfl, by
      show nI (5 * i) + 5 = nI (5 * (i + 1))
      rw [nl5, nI_add, Nat.mul_succ], hυ⟩
    rw [e1, show Int32.ofNat L = nI L from rfl, if_neg (show ¬ nI L - 5 < nI (5 * i) from by rw [nl5, pk_sub (by omega)]; exact nI_nlt (by omega) (by omega))]
    simp only [i0, i1, i2, i3, i4, if_true, z_join]
    generalize xs (nI (5 * i)).toNatClampNeg &&& 63 = a
    generalize xs (nI (5 * i) + 1).toNatClampNeg = x1
    generalize xs (nI (5 * i) + 2).toNatClampNeg = x2
    generalize xs (nI (5 * i) + 3).toNatClampNeg = x3
    generalize xs (nI (5 * i) + 4).toNatClampNeg = x4
    by_cases h0 : a = (0 : Int32)
    · rw [if_pos h0]
      obtain ⟨r, τ, υ, q1, q2, q3⟩ := c_feed e2 x1
      rw [q1, z_bs, q2, z_bs, if_pos rfl]
      exact fin υ q3
    rw [if_neg h0]
    by_cases h1 : a = (1 : Int32)
    · rw [if_pos h1]
      obtain ⟨r, τ, υ, q1, q2, q3⟩ := c_end e2 x1
      rw [q1, z_bs, q2, z_bs, if_pos rfl]
      exact fin υ q3
    rw [if_neg h1]
    by_cases h2 : a = (2 : Int32)
    · rw [if_pos h2]
      obtain ⟨r, τ, υ, q1, q2, q3⟩ := c_text e2 
      rw [q1, z_bs, q2, z_bs, if_pos rfl]
      exact fin υ q3
    rw [if_neg h2]
    by_cases h3 : a = (3 : Int32)
    · rw [if_pos h3]
      obtain ⟨r, q1, q2⟩ := c_fault e2 
      rw [q1, z_bs, q2, z_bs, if_pos rfl]
      exact fin s.2 e2
    rw [if_neg h3]
    by_cases h4 : a = (4 : Int32)
    · rw [if_pos h4]
      obtain ⟨r, q1, q2⟩ := c_rule e2 x1
      rw [q1, z_bs, q2, z_bs, if_pos rfl]
      exact fin s.2 e2
    rw [if_neg h4]
    by_cases h5 : a = (5 : Int32)
    · rw [if_pos h5]
      obtain ⟨r, q1, q2⟩ := c_cell e2 x1 x2
      rw [q1, z_bs, q2, z_bs, if_pos rfl]
      exact fin s.2 e2
    rw [if_neg h5]
    by_cases h6 : a = (6 : Int32)
    · rw [if_pos h6]
      obtain ⟨r, q1, q2⟩ := c_edge e2 x1
      rw [q1, z_bs, q2, z_bs, if_pos rfl]
      exact fin s.2 e2
    rw [if_neg h6]
    by_cases h7 : a = (7 : Int32)
    · rw [if_pos h7]
      obtain ⟨r, q1, q2⟩ := c_stock e2 x1 x2
      rw [q1, z_bs, q2, z_bs, if_pos rfl]
      exact fin s.2 e2
    rw [if_neg h7]
    by_cases h8 : a = (8 : Int32)
    · rw [if_pos h8]
      obtain ⟨r, q1, q2⟩ := c_law e2 x1 x2
      rw [q1, z_bs, q2, z_bs, if_pos rfl]
      exact fin s.2 e2
    rw [if_neg h8]
    by_cases h9 : a = (9 : Int32)
    · rw [if_pos h9]
      obtain ⟨r, q1, q2⟩ := c_ripe e2 x1
      rw [q1, z_bs, q2, z_bs, if_pos rfl]
      exact fin s.2 e2
    rw [if_neg h9]
    by_cases h10 : a = (10 : Int32)
    · rw [if_pos h10]
      obtain ⟨r, τ, υ, q1, q2, q3⟩ := c_lay e2 x1 x2 x3
      rw [q1, z_bs, q2, z_bs, if_pos rfl]
      exact fin υ q3
    rw [if_neg h10]
    by_cases h11 : a = (11 : Int32)
    · rw [if_pos h11]
      obtain ⟨r, τ, υ, q1, q2, q3⟩ := c_bare e2 x1
      rw [q1, z_bs, q2, z_bs, if_pos rfl]
      exact fin υ q3
    rw [if_neg h11]
    by_cases h12 : a = (12 : Int32)
    · rw [if_pos h12]
      obtain ⟨r, τ, υ, q1, q2, q3⟩ := c_sow e2 x1 x2
      rw [q1, z_bs, q2, z_bs, if_pos rfl]
      exact fin υ q3
    rw [if_neg h12]
    by_cases h13 : a = (13 : Int32)
    · rw [if_pos h13]
      obtain ⟨r, τ, υ, q1, q2, q3⟩ := c_own e2 x1 x2
      rw [q1, z_bs, q2, z_bs, if_pos rfl]
      exact fin υ q3
    rw [if_neg h13]
    by_cases h14 : a = (14 : Int32)
    · rw [if_pos h14]
      by_cases hx : x2 = 0
      · obtain ⟨r, τ, υ, q1, q2, q3⟩ := c_wall e2 x1 0 (Or.inl rfl)
        rw [if_pos hx, q1, z_bs, if_pos hx, q2, z_bs, if_pos rfl]
        exact fin υ q3
      · obtain ⟨r, τ, υ, q1, q2, q3⟩ := c_wall e2 x1 1 (Or.inr rfl)
        rw [if_neg hx, q1, z_bs, if_neg hx, q2, z_bs, if_pos rfl]
        exact fin υ q3
    rw [if_neg h14]
    by_cases h15 : a = (15 : Int32)
    · rw [if_pos h15]
      obtain ⟨r, τ, υ, q1, q2, q3⟩ := c_store e2 x1 x2
      rw [q1, z_bs, q2, z_bs, if_pos rfl]
      exact fin υ q3
    rw [if_neg h15]
    by_cases h16 : a = (16 : Int32)
    · rw [if_pos h16]
      obtain ⟨r, τ, υ, q1, q2, q3⟩ := c_price e2 x1 x2
      rw [q1, z_bs, q2, z_bs, if_pos rfl]
      exact fin υ q3
    rw [if_neg h16]
    by_cases h17 : a = (17 : Int32)
    · rw [if_pos h17]
      obtain ⟨r, τ, υ, q1, q2, q3⟩ := c_fund e2 x1
      rw [q1, z_bs, q2, z_bs, if_pos rfl]
      exact fin υ q3
    rw [if_neg h17]
    by_cases h18 : a = (18 : Int32)
    · rw [if_pos h18]
      obtain ⟨r, τ, υ, q1, q2, q3⟩ := c_bite e2 x1 x2
      rw [q1, z_bs, q2, z_bs, if_pos rfl]
      exact fin υ q3
    rw [if_neg h18]
    by_cases h19 : a = (19 : Int32)
    · rw [if_pos h19]
      obtain ⟨r, τ, υ, q1, q2, q3⟩ := c_week e2 x1
      rw [q1, z_bs, q2, z_bs, if_pos rfl]
      exact fin υ q3
    rw [if_neg h19]
    by_cases h20 : a = (20 : Int32)
    · rw [if_pos h20]
      obtain ⟨r, τ, υ, q1, q2, q3⟩ := c_ahead e2 x1 x2 x3
      rw [q1, z_bs, q2, z_bs, if_pos rfl]
      exact fin υ q3
    rw [if_neg h20]
    by_cases h21 : a = (21 : Int32)
    · rw [if_pos h21]
      obtain ⟨r, τ, q1, q2, q3⟩ := c_spreads e2 
      rw [q1, z_bs, q2, z_bs, if_pos rfl]
      exact fin τ q3
    rw [if_neg h21]
    by_cases h22 : a = (22 : Int32)
    · rw [if_pos h22]
      obtain ⟨r, τ, υ, q1, q2, q3⟩ := c_comes e2 x1 x2
      rw [q1, z_bs, q2, z_bs, if_pos rfl]
      exact fin υ q3
    rw [if_neg h22]
    by_cases h23 : a = (23 : Int32)
    · rw [if_pos h23]
      obtain ⟨r, τ, υ, q1, q2, q3⟩ := c_when e2 x1
      rw [q1, z_bs, q2, z_bs, if_pos rfl]
      exact fin υ q3
    rw [if_neg h23]
    by_cases h24 : a = (24 : Int32)
    · rw [if_pos h24]
      obtain ⟨r, τ, υ, q1, q2, q3⟩ := c_again e2 
      rw [q1, z_bs, q2, z_bs, if_pos rfl]
      exact fin υ q3
    rw [if_neg h24]
    by_cases h25 : a = (25 : Int32)
    · rw [if_pos h25]
      obtain ⟨r, τ, υ, q1, q2, q3⟩ := c_plan e2 x1 x2 x3
      rw [q1, z_bs, q2, z_bs, if_pos rfl]
      exact fin υ q3
    rw [if_neg h25]
    by_cases h26 : a = (26 : Int32)
    · rw [if_pos h26]
      obtain ⟨r, τ, υ, q1, q2, q3⟩ := c_most e2 x1 x2
      rw [q1, z_bs, q2, z_bs, if_pos rfl]
      exact fin υ q3
    rw [if_neg h26]
    by_cases h27 : a = (27 : Int32)
    · rw [if_pos h27]
      obtain ⟨r, τ, υ, q1, q2, q3⟩ := c_fence e2 x1 x2
      rw [q1, z_bs, q2, z_bs, if_pos rfl]
      exact fin υ q3
    rw [if_neg h27]
    by_cases h28 : a = (28 : Int32)
    · rw [if_pos h28]
      obtain ⟨r, τ, υ, q1, q2, q3⟩ := c_blame e2 x1 x2
      rw [q1, z_bs, q2, z_bs, if_pos rfl]
      exact fin υ q3
    rw [if_neg h28]
    by_cases h29 : a = (29 : Int32)
    · rw [if_pos h29]
      obtain ⟨r, q1, q2⟩ := c_luck e2 x1 x2 x3 x4
      rw [q1, z_bs, q2, z_bs, if_pos (lg_cmp_0 r)]
      exact fin s.2 e2
    rw [if_neg h29]
    by_cases h30 : a = (30 : Int32)
    · rw [if_pos h30]
      obtain ⟨r, τ, υ, q1, q2, q3⟩ := c_see e2 x1 x2
      rw [q1, z_bs, q2, z_bs, if_pos rfl]
      exact fin υ q3
    rw [if_neg h30]
    by_cases h31 : a = (31 : Int32)
    · rw [if_pos h31]
      obtain ⟨r, τ, υ, q1, q2, q3⟩ := c_forget e2 x1
      rw [q1, z_bs, q2, z_bs, if_pos rfl]
      exact fin υ q3
    rw [if_neg h31]
    by_cases h32 : a = (32 : Int32)
    · rw [if_pos h32]
      obtain ⟨r, τ, q1, q2, q3⟩ := c_rows e2 x1 x2 x3
      rw [q1, z_bs, q2, z_bs, if_pos rfl]
      exact fin τ q3
    rw [if_neg h32]
    by_cases h33 : a = (33 : Int32)
    · rw [if_pos h33]
      obtain ⟨r, τ, q1, q2, q3⟩ := c_sure e2 x1 x2 x3
      rw [q1, z_bs, q2, z_bs, if_pos rfl]
      exact fin τ q3
    rw [if_neg h33]
    by_cases h34 : a = (34 : Int32)
    · rw [if_pos h34]
      obtain ⟨r, τ, q1, q2, q3⟩ := c_sown e2 x1
      rw [q1, z_bs, q2, z_bs, if_pos rfl]
      exact fin τ q3
    rw [if_neg h34]
    by_cases h35 : a = (35 : Int32)
    · rw [if_pos h35]
      obtain ⟨r, τ, υ, q1, q2, q3⟩ := c_drift e2 x1 x2 x3
      rw [q1, z_bs, q2, z_bs, if_pos rfl]
      exact fin υ q3
    rw [if_neg h35]
    by_cases h36 : a = (36 : Int32)
    · rw [if_pos h36]
      obtain ⟨r, τ, υ, q1, q2, q3⟩ := c_keep e2 x1
      rw [q1, z_bs, q2, z_bs, if_pos rfl]
      exact fin υ q3
    rw [if_neg h36]
    by_cases h37 : a = (37 : Int32)
    · rw [if_pos h37]
      obtain ⟨r, τ, υ, q1, q2, q3⟩ := c_back e2 x1
      rw [q1, z_bs, q2, z_bs, if_pos rfl]
      exact fin υ q3
    rw [if_neg h37]
    by_cases h38 : a = (38 : Int32)
    · rw [if_pos h38]
      obtain ⟨r, τ, υ, q1, q2, q3⟩ := c_sheet e2 x1 x2 x3
      rw [q1, z_bs, q2, z_bs, if_pos rfl]
      exact fin υ q3
    rw [if_neg h38]
    by_cases h39 : a = (39 : Int32)
    · rw [if_pos h39]
      obtain ⟨r, τ, υ, q1, q2, q3⟩ := c_put e2 x1 x2 x3
      rw [q1, z_bs, q2, z_bs, if_pos rfl]
      exact fin υ q3
    rw [if_neg h39]
    by_cases h40 : a = (40 : Int32)
    · rw [if_pos h40]
      obtain ⟨r, τ, υ, q1, q2, q3⟩ := c_read e2 x1 x2 x3 x4
      rw [q1, z_bs, q2, z_bs, if_pos rfl]
      exact fin υ q3
    rw [if_neg h40]
    by_cases h41 : a = (41 : Int32)
    · rw [if_pos h41]
      obtain ⟨r, q1, q2⟩ := c_torn e2 
      rw [q1, z_bs, q2, z_bs, if_pos rfl]
      exact fin s.2 e2
    rw [if_neg h41]
    by_cases h42 : a = (42 : Int32)
    · rw [if_pos h42]
      obtain ⟨r, q1, q2⟩ := c_count e2 x1
      rw [q1, z_bs, q2, z_bs, if_pos rfl]
      exact fin s.2 e2
    rw [if_neg h42]
    exact fin s.2 e2
  · intro s hP
    obtain ⟨e1, e2⟩ := hP
    rw [e1, show Int32.ofNat L = nI L from rfl, if_pos (show nI L - 5 < nI (5 * (L / 5)) from by rw [nl5, pk_sub (by omega)]; exact nI_lt (by omega) (by omega))]
    exact ⟨_, rfl, _, rfl, rfl⟩
