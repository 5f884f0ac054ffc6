/-! images, counts, the tape's bytes -/
theorem I_k_c {σ τ : zS} {W H R : Nat} (h : I_k σ W H R) (e0 : τ 0 8 = σ 0 8) (e1 : τ 101 = σ 101) (e2 : ∀ k, (50 ≤ k ∧ k ≤ 63) ∨ (66 ≤ k ∧ k ≤ 79) → τ k = σ k) (e3 : ∀ j, 110 ≤ j → j < 330 → τ 91 j = σ 91 j) : I_k τ W H R := by
  obtain ⟨b0, b1, k1, k2, k3, k4, k5⟩ := h
  refine ⟨b0, b1, by rw [e0]; exact k1, by rw [e1]; exact k2, by rw [e1]; exact k3, fun hb => ?_, fun hb => ?_⟩
  · obtain ⟨p, p1, p2, p3⟩ := k4 hb
    exact ⟨p, p1, hg_G50_c p2 (fun k a b => e2 k (by omega)), fun k hk => by rw [e3 _ (by omega) (by omega)]; exact p3 k hk⟩
  · obtain ⟨p, p1, p2, p3⟩ := k5 hb
    exact ⟨p, p1, hg_G66_c p2 (fun k a b => e2 k (by omega)), fun k hk => by rw [e3 _ (by omega) (by omega)]; exact p3 k hk⟩
theorem I_t_c {σ τ : zS} (h : I_t σ) (e1 : τ 35 = σ 35) (e2 : τ 36 = σ 36) (e3 : τ 90 13 = σ 90 13) (e4 : τ 95 = σ 95) : I_t τ := by
  unfold I_t at *
  rw [e1, e2, e3, e4]
  exact h
theorem I_s_c {σ τ : zS} (h : I_s σ) (e1 : τ 44 = σ 44) (e2 : τ 45 = σ 45) (e3 : τ 46 = σ 46) (e4 : τ 90 26 = σ 90 26) (e5 : τ 100 = σ 100) : I_s τ := by
  unfold I_s at *
  rw [e1, e2, e3, e4, e5]
  exact h
theorem I_h_c {σ τ : zS} (h : I_h σ) (e : ∀ k, (82 ≤ k ∧ k ≤ 89) ∨ (102 ≤ k ∧ k ≤ 104) → τ k = σ k) : I_h τ := by
  unfold I_h I_h1 at *
  rw [e 82 (by omega), e 83 (by omega), e 84 (by omega), e 85 (by omega), e 86 (by omega), e 87 (by omega), e 88 (by omega), e 89 (by omega), e 102 (by omega), e 103 (by omega), e 104 (by omega)]
  exact h
theorem I_f_c {σ τ : zS} (h : I_f σ) (e1 : τ 0 9 = σ 0 9) (e2 : τ 0 10 = σ 0 10) (e3 : τ 90 14 = σ 90 14) (e4 : τ 90 31 = σ 90 31) : I_f τ := by
  unfold I_f at *
  rw [e1, e2, e3, e4]
  exact h
theorem I_c_c {σ τ : zS} (h : I_c σ) (e1 : τ 96 = σ 96) (e2 : τ 97 = σ 97) : I_c τ := by
  unfold I_c at *
  rw [e1, e2]
  exact h
theorem hg_M_c2 {σ τ : zS} {W H R : Nat} (h : hg_M σ W H R) (e1 : τ 90 1 = σ 90 1) (e2 : τ 90 2 = σ 90 2) (e3 : τ 90 3 = σ 90 3) (e4 : τ 92 = σ 92) : hg_M τ W H R := by
  unfold hg_M at *
  rw [e1, e2, e3, e4]
  exact h
theorem hg_boolE {b : Bool} {x : Int32} (h : x = nI (if b = true then 1 else 0)) : x = 0 ↔ b = false := by
  rw [h]
  cases b with
  | true => exact ⟨fun z => absurd z (by decide), fun z => by cases z⟩
  | false => exact ⟨fun _ => rfl, fun _ => rfl⟩
theorem hg_narB : vp_nar .boolean (1 : Int32) = nI 1 := by decide
theorem c_keep {σ : zS} (h : z_Inv σ) (a : Int32) : hc_B (f_Y_keep a) (f_M_keep a) σ := by
  obtain ⟨W, H, R, p, h⟩ := h
  obtain ⟨hD, hV, hG, hQ, hX, hB⟩ := id h
  obtain ⟨n1, n2⟩ := hg_D_N hD
  obtain ⟨d1, d2, d3, d4, d5⟩ := id hD
  obtain ⟨G0, G1, G2, G3, G4, G5, G6, G7, G8, G9, G10, G11, G12, G13, G14, G15, G16, G17⟩ := id hG
  have hM := hX.1
  have q := hg_Q0 hQ
  have hI : z_Inv σ := ⟨W, H, R, p, h⟩
  obtain ⟨b0, b1, k1, k2, k3, k4, k5⟩ := hX.2.1
  by_cases ha : 0 ≤ a.toInt ∧ a.toInt ≤ 1
  · obtain ⟨k, -, hk, rfl⟩ := hg_arg2 (lo := 0) (hi := 1) (by omega) ha
    have hk2 : k = 0 ∨ k = 1 := by omega
    rcases hk2 with rfl | rfl
    ·
      obtain ⟨τ, t1, t2, t3⟩ := yy_copy_50_1 d5 hG
      obtain ⟨υ, u1, u2, u3⟩ := mm_copies (A := 0) (B := 110) (by omega) (by omega) (by omega) (z_u τ 0 8 (nI (1 + (if b1 = true then 2 else 0))))
      have x0 : τ 0 8 = nI ((if b0 = true then 1 else 0) + (if b1 = true then 2 else 0)) := by rw [t3 0 (by omega)]; exact k1
      have x1 : υ 101 0 = nI (if b0 = true then 1 else 0) := by rw [u3.1 101 (by omega), hg_u_n (by omega), t3 101 (by omega)]; exact k2
      refine ⟨nI (if b0 = true then 1 else 0), z_u τ 0 8 (nI (1 + (if b1 = true then 2 else 0))), z_u υ 101 0 (nI 1), ?_, ?_, ?_⟩
      · unfold f_Y_keep
        rw [nl1, nl0, ki_0_1, z_bs, if_pos ha, if_neg (show ¬ nI 1 = nI 0 by decide), z_let_e, k1, z_ubit (by cases b0 <;> cases b1 <;> decide) (by omega)]
        rw [if_pos (show nI 0 = nI 0 from rfl), t1, z_bs, z_let_e, x0]
        cases b0 <;> cases b1 <;> rfl
      · unfold f_M_keep
        rw [km_0_1, z_bs, if_pos ha, if_neg (show ¬ nI 1 = 0 by decide), nl110, nl1, nI_add, pk_mul, nl0, show 110 * (0 + 1) = 110 by omega, u1, z_bs, if_pos ((z_ibn (show 0 < 2 ^ 31 by omega)).mpr (by omega))]
        simp only [z_join]
        rw [nI_clamp (show 0 < 2 ^ 31 by omega), x1, if_pos ((z_ibn (show 0 < 2 ^ 31 by omega)).mpr (show 0 < 2 by omega)), ← nl1, hg_narB, z_let_e]
        cases b0 <;> rfl
      · have hGn : hg_G50 (z_u υ 101 0 (nI 1)) p W H R := hg_G50_c t2 (fun k a b => by rw [hg_u_n (by omega), u3.1 k (by omega), hg_u_n (by omega)])
        have fr : ∀ k, k ≠ 0 → k ≠ 91 → k ≠ 101 → (k < 50 ∨ 63 < k) → z_u υ 101 0 (nI 1) k = σ k := fun k a b c d => by rw [hg_u_n c, u3.1 k b, hg_u_n a, t3 k d]
        have fr0 : ∀ j, j ≠ 8 → z_u υ 101 0 (nI 1) 0 j = σ 0 j := fun j hj => by rw [hg_u_n (by omega), u3.1 0 (by omega), hg_u_j hj, t3 0 (by omega)]
        have fr91 : ∀ j, (j < 110 ∨ 220 ≤ j) → z_u υ 101 0 (nI 1) 91 j = σ 91 j := fun j hj => by rw [hg_u_n (by omega), u3.2 j hj, hg_u_n (by omega), t3 91 (by omega)]
        refine ⟨W, H, R, p, hD, hV, hg_G1_c hG (fun k a b => fr k (by omega) (by omega) (by omega) (by omega)), fun k hk => by rw [fr91 _ (by omega)]; exact hQ k hk, ⟨hg_M_c hM (fr 90 (by omega) (by omega) (by omega) (by omega)) (fr 92 (by omega) (by omega) (by omega) (by omega)), ⟨true, b1, ?_, ?_, ?_, fun hb => ?_, fun hb => ?_⟩, I_t_c hX.2.2.1 (fr 35 (by omega) (by omega) (by omega) (by omega)) (fr 36 (by omega) (by omega) (by omega) (by omega)) (by rw [fr 90 (by omega) (by omega) (by omega) (by omega)]) (fr 95 (by omega) (by omega) (by omega) (by omega)), I_s_c hX.2.2.2.1 (fr 44 (by omega) (by omega) (by omega) (by omega)) (fr 45 (by omega) (by omega) (by omega) (by omega)) (fr 46 (by omega) (by omega) (by omega) (by omega)) (by rw [fr 90 (by omega) (by omega) (by omega) (by omega)]) (fr 100 (by omega) (by omega) (by omega) (by omega)), I_h_c hX.2.2.2.2.1 (fun k hk => fr k (by omega) (by omega) (by omega) (by omega)), I_f_c hX.2.2.2.2.2.1 (fr0 9 (by omega)) (fr0 10 (by omega)) (by rw [fr 90 (by omega) (by omega) (by omega) (by omega)]) (by rw [fr 90 (by omega) (by omega) (by omega) (by omega)]), I_c_c hX.2.2.2.2.2.2 (fr 96 (by omega) (by omega) (by omega) (by omega)) (fr 97 (by omega) (by omega) (by omega) (by omega))⟩, hB⟩
        · rw [hg_u_n (by omega), u3.1 0 (by omega), hg_u_s]
          rfl
        · rw [hg_u_s]; rfl
        · rw [hg_u_j (by omega), u3.1 101 (by omega), hg_u_n (by omega), t3 101 (by omega)]; exact k3
        · exact ⟨p, ⟨hV, hB⟩, hGn, fun k hk => by rw [hg_u_n (by omega), u2 k hk, hg_u_n (by omega), t3 91 (by omega)]; exact hQ k hk⟩
        · obtain ⟨p', p1, p2, p3⟩ := k5 hb
          exact ⟨p', p1, hg_G66_c p2 (fun k a b => fr k (by omega) (by omega) (by omega) (by omega)), fun k hk => by rw [fr91 _ (by omega)]; exact p3 k hk⟩
    ·
      obtain ⟨τ, t1, t2, t3⟩ := yy_copy_66_1 d5 hG
      obtain ⟨υ, u1, u2, u3⟩ := mm_copies (A := 0) (B := 220) (by omega) (by omega) (by omega) (z_u τ 0 8 (nI ((if b0 = true then 1 else 0) + 2)))
      have x0 : τ 0 8 = nI ((if b0 = true then 1 else 0) + (if b1 = true then 2 else 0)) := by rw [t3 0 (by omega)]; exact k1
      have x1 : υ 101 1 = nI (if b1 = true then 1 else 0) := by rw [u3.1 101 (by omega), hg_u_n (by omega), t3 101 (by omega)]; exact k3
      refine ⟨nI (if b1 = true then 1 else 0), z_u τ 0 8 (nI ((if b0 = true then 1 else 0) + 2)), z_u υ 101 1 (nI 1), ?_, ?_, ?_⟩
      · unfold f_Y_keep
        rw [nl1, nl0, ki_0_1, z_bs, if_pos ha, if_neg (show ¬ nI 1 = nI 0 by decide), z_let_e, k1, z_ubit (by cases b0 <;> cases b1 <;> decide) (by omega)]
        rw [if_neg (show ¬ nI 1 = nI 0 by decide), if_pos (show nI 1 = nI 1 from rfl), t1, z_bs, z_let_e, x0]
        cases b0 <;> cases b1 <;> rfl
      · unfold f_M_keep
        rw [km_0_1, z_bs, if_pos ha, if_neg (show ¬ nI 1 = 0 by decide), nl110, nl1, nI_add, pk_mul, nl0, show 110 * (1 + 1) = 220 by omega, u1, z_bs, if_pos ((z_ibn (show 1 < 2 ^ 31 by omega)).mpr (by omega))]
        simp only [z_join]
        rw [nI_clamp (show 1 < 2 ^ 31 by omega), x1, if_pos ((z_ibn (show 1 < 2 ^ 31 by omega)).mpr (show 1 < 2 by omega)), ← nl1, hg_narB, z_let_e]
        cases b1 <;> rfl
      · have hGn : hg_G66 (z_u υ 101 1 (nI 1)) p W H R := hg_G66_c t2 (fun k a b => by rw [hg_u_n (by omega), u3.1 k (by omega), hg_u_n (by omega)])
        have fr : ∀ k, k ≠ 0 → k ≠ 91 → k ≠ 101 → (k < 66 ∨ 79 < k) → z_u υ 101 1 (nI 1) k = σ k := fun k a b c d => by rw [hg_u_n c, u3.1 k b, hg_u_n a, t3 k d]
        have fr0 : ∀ j, j ≠ 8 → z_u υ 101 1 (nI 1) 0 j = σ 0 j := fun j hj => by rw [hg_u_n (by omega), u3.1 0 (by omega), hg_u_j hj, t3 0 (by omega)]
        have fr91 : ∀ j, (j < 220 ∨ 330 ≤ j) → z_u υ 101 1 (nI 1) 91 j = σ 91 j := fun j hj => by rw [hg_u_n (by omega), u3.2 j hj, hg_u_n (by omega), t3 91 (by omega)]
        refine ⟨W, H, R, p, hD, hV, hg_G1_c hG (fun k a b => fr k (by omega) (by omega) (by omega) (by omega)), fun k hk => by rw [fr91 _ (by omega)]; exact hQ k hk, ⟨hg_M_c hM (fr 90 (by omega) (by omega) (by omega) (by omega)) (fr 92 (by omega) (by omega) (by omega) (by omega)), ⟨b0, true, ?_, ?_, ?_, fun hb => ?_, fun hb => ?_⟩, I_t_c hX.2.2.1 (fr 35 (by omega) (by omega) (by omega) (by omega)) (fr 36 (by omega) (by omega) (by omega) (by omega)) (by rw [fr 90 (by omega) (by omega) (by omega) (by omega)]) (fr 95 (by omega) (by omega) (by omega) (by omega)), I_s_c hX.2.2.2.1 (fr 44 (by omega) (by omega) (by omega) (by omega)) (fr 45 (by omega) (by omega) (by omega) (by omega)) (fr 46 (by omega) (by omega) (by omega) (by omega)) (by rw [fr 90 (by omega) (by omega) (by omega) (by omega)]) (fr 100 (by omega) (by omega) (by omega) (by omega)), I_h_c hX.2.2.2.2.1 (fun k hk => fr k (by omega) (by omega) (by omega) (by omega)), I_f_c hX.2.2.2.2.2.1 (fr0 9 (by omega)) (fr0 10 (by omega)) (by rw [fr 90 (by omega) (by omega) (by omega) (by omega)]) (by rw [fr 90 (by omega) (by omega) (by omega) (by omega)]), I_c_c hX.2.2.2.2.2.2 (fr 96 (by omega) (by omega) (by omega) (by omega)) (fr 97 (by omega) (by omega) (by omega) (by omega))⟩, hB⟩
        · rw [hg_u_n (by omega), u3.1 0 (by omega), hg_u_s]
          rfl
        · rw [hg_u_j (by omega), u3.1 101 (by omega), hg_u_n (by omega), t3 101 (by omega)]; exact k2
        · rw [hg_u_s]; rfl
        · obtain ⟨p', p1, p2, p3⟩ := k4 hb
          exact ⟨p', p1, hg_G50_c p2 (fun k a b => fr k (by omega) (by omega) (by omega) (by omega)), fun k hk => by rw [fr91 _ (by omega)]; exact p3 k hk⟩
        · exact ⟨p, ⟨hV, hB⟩, hGn, fun k hk => by rw [hg_u_n (by omega), u2 k hk, hg_u_n (by omega), t3 91 (by omega)]; exact hQ k hk⟩
  · refine ⟨-1, σ, σ, ?_, ?_, hI⟩
    · unfold f_Y_keep
      rw [nl1, nl0, ki_0_1, z_bs, if_neg ha, if_pos (show nI 0 = nI 0 from rfl)]
    · unfold f_M_keep
      rw [km_0_1, z_bs, if_neg ha, if_pos (show nI 0 = 0 from rfl)]
theorem c_back {σ : zS} (h : z_Inv σ) (a : Int32) : hc_B (f_Y_back a) (f_M_back a) σ := by
  obtain ⟨W, H, R, p, h⟩ := h
  obtain ⟨hD, hV, hG, hQ, hX, hB⟩ := id h
  obtain ⟨n1, n2⟩ := hg_D_N hD
  obtain ⟨d1, d2, d3, d4, d5⟩ := id hD
  obtain ⟨G0, G1, G2, G3, G4, G5, G6, G7, G8, G9, G10, G11, G12, G13, G14, G15, G16, G17⟩ := id hG
  have hM := hX.1
  have q := hg_Q0 hQ
  have hI : z_Inv σ := ⟨W, H, R, p, h⟩
  obtain ⟨b0, b1, k1, k2, k3, k4, k5⟩ := hX.2.1
  by_cases ha : 0 ≤ a.toInt ∧ a.toInt ≤ 1
  · obtain ⟨k, -, hk, rfl⟩ := hg_arg2 (lo := 0) (hi := 1) (by omega) ha
    have hk2 : k = 0 ∨ k = 1 := by omega
    rcases hk2 with rfl | rfl
    · cases hb : b0 with
      | false =>
        have z1 : σ 101 0 = 0 := (hg_boolE k2).mpr hb
        refine ⟨- nI 2, σ, σ, ?_, ?_, hI⟩
        · unfold f_Y_back
          rw [nl1, nl0, ki_0_1, z_bs, if_pos ha, if_neg (show ¬ nI 1 = nI 0 by decide), k1, z_ubit (by cases b0 <;> cases b1 <;> decide) (by omega), if_pos (by rw [hb]; cases b1 <;> rfl)]
          rfl
        · unfold f_M_back
          rw [km_0_1, z_bs, if_pos ha, if_neg (show ¬ nI 1 = 0 by decide), if_pos ((z_ibn (show 0 < 2 ^ 31 by omega)).mpr (show 0 < 2 by omega)), nI_clamp (show 0 < 2 ^ 31 by omega), if_pos z1]
          rfl
      | true =>
        obtain ⟨p', p1, p2, p3⟩ := k4 hb
        obtain ⟨τ, t1, t2, t3⟩ := yy_copy_1_50 d5 p2
        obtain ⟨υ, u1, u2, u3⟩ := mm_copies (A := 110) (B := 0) (by omega) (by omega) (by omega) τ
        have x1 : τ 101 0 = nI 1 := by rw [t3 101 (by omega), k2, hb]; rfl
        have hQn : hg_Q υ 0 p' := fun k hk => by rw [u2 k hk, t3 91 (by omega)]; exact p3 k hk
        refine ⟨nI (p' 105), τ, υ, ?_, ?_, hg_mk2 h p1.1 p1.2 t2 hQn (fun k hk => t3 k (by omega)) (fun k k1 _ => u3.1 k k1) (fun j j1 j2 => by rw [u3.2 j (by omega), t3 91 (by omega)])⟩
        · unfold f_Y_back
          rw [nl1, nl0, ki_0_1, z_bs, if_pos ha, if_neg (show ¬ nI 1 = nI 0 by decide), k1, z_ubit (by cases b0 <;> cases b1 <;> decide) (by omega), if_neg (by rw [hb]; cases b1 <;> decide)]
          rw [if_pos (show nI 0 = nI 0 from rfl), t1, z_bs, t2.2.2.2.2.2.2.2.2.2.2.2.2.2.2.2.1]
        · unfold f_M_back
          rw [km_0_1, z_bs, if_pos ha, if_neg (show ¬ nI 1 = 0 by decide), if_pos ((z_ibn (show 0 < 2 ^ 31 by omega)).mpr (show 0 < 2 by omega)), nI_clamp (show 0 < 2 ^ 31 by omega), x1, if_neg (show ¬ nI 1 = 0 by decide), nl110, nl1, nI_add, pk_mul, nl0, show 110 * (0 + 1) = 110 by omega, u1, z_bs, show (105 : Int32).toNatClampNeg = 105 from rfl, hg_Q0 hQn 105 (by omega)]
    · cases hb : b1 with
      | false =>
        have z1 : σ 101 1 = 0 := (hg_boolE k3).mpr hb
        refine ⟨- nI 2, σ, σ, ?_, ?_, hI⟩
        · unfold f_Y_back
          rw [nl1, nl0, ki_0_1, z_bs, if_pos ha, if_neg (show ¬ nI 1 = nI 0 by decide), k1, z_ubit (by cases b0 <;> cases b1 <;> decide) (by omega), if_pos (by rw [hb]; cases b0 <;> rfl)]
          rfl
        · unfold f_M_back
          rw [km_0_1, z_bs, if_pos ha, if_neg (show ¬ nI 1 = 0 by decide), if_pos ((z_ibn (show 1 < 2 ^ 31 by omega)).mpr (show 1 < 2 by omega)), nI_clamp (show 1 < 2 ^ 31 by omega), if_pos z1]
          rfl
      | true =>
        obtain ⟨p', p1, p2, p3⟩ := k5 hb
        obtain ⟨τ, t1, t2, t3⟩ := yy_copy_1_66 d5 p2
        obtain ⟨υ, u1, u2, u3⟩ := mm_copies (A := 220) (B := 0) (by omega) (by omega) (by omega) τ
        have x1 : τ 101 1 = nI 1 := by rw [t3 101 (by omega), k3, hb]; rfl
        have hQn : hg_Q υ 0 p' := fun k hk => by rw [u2 k hk, t3 91 (by omega)]; exact p3 k hk
        refine ⟨nI (p' 105), τ, υ, ?_, ?_, hg_mk2 h p1.1 p1.2 t2 hQn (fun k hk => t3 k (by omega)) (fun k k1 _ => u3.1 k k1) (fun j j1 j2 => by rw [u3.2 j (by omega), t3 91 (by omega)])⟩
        · unfold f_Y_back
          rw [nl1, nl0, ki_0_1, z_bs, if_pos ha, if_neg (show ¬ nI 1 = nI 0 by decide), k1, z_ubit (by cases b0 <;> cases b1 <;> decide) (by omega), if_neg (by rw [hb]; cases b0 <;> decide)]
          rw [if_neg (show ¬ nI 1 = nI 0 by decide), if_pos (show nI 1 = nI 1 from rfl), t1, z_bs, t2.2.2.2.2.2.2.2.2.2.2.2.2.2.2.2.1]
        · unfold f_M_back
          rw [km_0_1, z_bs, if_pos ha, if_neg (show ¬ nI 1 = 0 by decide), if_pos ((z_ibn (show 1 < 2 ^ 31 by omega)).mpr (show 1 < 2 by omega)), nI_clamp (show 1 < 2 ^ 31 by omega), x1, if_neg (show ¬ nI 1 = 0 by decide), nl110, nl1, nI_add, pk_mul, nl0, show 110 * (1 + 1) = 220 by omega, u1, z_bs, show (105 : Int32).toNatClampNeg = 105 from rfl, hg_Q0 hQn 105 (by omega)]
  · refine ⟨-1, σ, σ, ?_, ?_, hI⟩
    · unfold f_Y_back
      rw [nl1, nl0, ki_0_1, z_bs, if_neg ha, if_pos (show nI 0 = nI 0 from rfl)]
    · unfold f_M_back
      rw [km_0_1, z_bs, if_neg ha, if_pos (show nI 0 = 0 from rfl)]
theorem hg_byte {b : Nat} (hb : b < 128) : vp_nar .byte ((nI b).toInt8.toInt32) = nI b := by
  rw [pk_vb]
  have h : ∀ b, b < 128 → (nI b).toInt8.toInt32 = nI b := by decide +kernel
  exact h b hb
theorem hg_I_tp {σ τ : zS} {W H R : Nat} {p : Nat → Nat} (h : hg_I σ W H R p) (e : ∀ k, k ≠ 35 → k ≠ 36 → k ≠ 90 → k ≠ 95 → τ k = σ k) (e90 : ∀ j, j ≠ 13 → τ 90 j = σ 90 j) (ht : I_t τ) : z_Inv τ := by
  obtain ⟨hD, hV, hG, hQ, hX, hB⟩ := h
  refine ⟨W, H, R, p, hD, hV, hg_G1_c hG (fun k a b => e k (by omega) (by omega) (by omega) (by omega)), hg_Q_c hQ (e 91 (by omega) (by omega) (by omega) (by omega)), ⟨hg_M_c2 hX.1 (e90 1 (by omega)) (e90 2 (by omega)) (e90 3 (by omega)) (e 92 (by omega) (by omega) (by omega) (by omega)), I_k_c hX.2.1 (by rw [e 0 (by omega) (by omega) (by omega) (by omega)]) (e 101 (by omega) (by omega) (by omega) (by omega)) (fun k hk => e k (by omega) (by omega) (by omega) (by omega)) (fun j _ _ => by rw [e 91 (by omega) (by omega) (by omega) (by omega)]), ht, I_s_c hX.2.2.2.1 (e 44 (by omega) (by omega) (by omega) (by omega)) (e 45 (by omega) (by omega) (by omega) (by omega)) (e 46 (by omega) (by omega) (by omega) (by omega)) (e90 26 (by omega)) (e 100 (by omega) (by omega) (by omega) (by omega)), I_h_c hX.2.2.2.2.1 (fun k hk => e k (by omega) (by omega) (by omega) (by omega)), I_f_c hX.2.2.2.2.2.1 (by rw [e 0 (by omega) (by omega) (by omega) (by omega)]) (by rw [e 0 (by omega) (by omega) (by omega) (by omega)]) (e90 14 (by omega)) (e90 31 (by omega)), I_c_c hX.2.2.2.2.2.2 (e 96 (by omega) (by omega) (by omega) (by omega)) (e 97 (by omega) (by omega) (by omega) (by omega))⟩, hB⟩
theorem c_feed {σ : zS} (h : z_Inv σ) (a : Int32) : hc_B (f_Y_feed a) (f_M_feed a) σ := by
  obtain ⟨W, H, R, p, h⟩ := h
  obtain ⟨hD, hV, hG, hQ, hX, hB⟩ := id h
  obtain ⟨n1, n2⟩ := hg_D_N hD
  obtain ⟨d1, d2, d3, d4, d5⟩ := id hD
  obtain ⟨G0, G1, G2, G3, G4, G5, G6, G7, G8, G9, G10, G11, G12, G13, G14, G15, G16, G17⟩ := id hG
  have hM := hX.1
  have q := hg_Q0 hQ
  have hI : z_Inv σ := ⟨W, H, R, p, h⟩
  obtain ⟨T, z1, z2, z3, z4⟩ := hX.2.2.1
  by_cases ha : 0 ≤ a.toInt ∧ a.toInt ≤ 127
  · by_cases hf : T = 160
    · refine ⟨- nI 3, σ, σ, ?_, ?_, hI⟩
      · simp (disch := omega) only [f_Y_feed, f_Tp_add_35, ki_0_1, ki_0_10, ki_0_127, ki_0_13, ki_0_15, ki_0_2, ki_0_3, ki_0_4, ki_0_60, ki_0_7, ki_0_99, ki_0_999, ki_1_12, ki_1_4, ki_1_5, ki_1_6, ki_1_60, ki_1_8, ki_1_9, ki_48_57, ki_97_122, nl0, nl1, nl2, nl3, nl4, nl5, nl6, nl7, nl8, nl9, nl10, nl11, nl12, nl13, nl14, nl15, nl16, nl20, nl24, nl30, nl31, nl32, nl36, nl37, nl40, nl48, nl49, nl50, nl57, nl59, nl60, nl80, nl81, nl82, nl83, nl96, nl97, nl99, nl104, nl105, nl106, nl107, nl108, nl109, nl110, nl122, nl127, nl150, nl160, nl330, nl440, nl777, nl999, nl1000, nl1050, nl100000, nl1000000, nl111, z_bs, z_let, z_join, k_eq, k_ne, k_leT, k_leF, k_ltT, k_ltF, k_ib, k_ngT, nI_clamp, nI_add, pk_mul, pk_sub, if_true, if_false, true_or, or_true, false_or, or_false, true_and, and_true, false_and, and_false, not_true_eq_false, not_false_eq_true, hg_uu, ha, z2, hf]
      · simp (disch := omega) only [f_M_feed, km_0_1, km_0_127, km_0_13, km_0_2, km_0_3, km_0_4, km_0_60, km_0_999, km_0_99, km_0_10, km_0_7, km_1_12, km_1_5, km_1_4, km_1_6, km_1_60, km_1_9, km_1_8, km_1_3, km_11_49, km_48_57, km_97_122, nl0, nl1, nl2, nl3, nl4, nl5, nl6, nl7, nl8, nl9, nl10, nl11, nl12, nl13, nl14, nl15, nl16, nl20, nl24, nl30, nl31, nl32, nl36, nl37, nl40, nl48, nl49, nl50, nl57, nl59, nl60, nl80, nl81, nl82, nl83, nl96, nl97, nl99, nl104, nl105, nl106, nl107, nl108, nl109, nl110, nl122, nl127, nl150, nl160, nl330, nl440, nl777, nl999, nl1000, nl1050, nl100000, nl1000000, nl111, z_bs, z_let, z_join, k_eq, k_ne, k_leT, k_leF, k_ltT, k_ltF, k_ib, k_ngT, nI_clamp, nI_add, pk_mul, pk_sub, if_true, if_false, true_or, or_true, false_or, or_false, true_and, and_true, false_and, and_false, not_true_eq_false, not_false_eq_true, hg_uu, ha, z3, hf]
    · obtain ⟨b, -, hb, rfl⟩ := hg_arg2 (lo := 0) (hi := 127) (by omega) ha
      refine ⟨nI (T + 1), z_u (z_u σ 36 T (nI b)) 35 1 (nI (T + 1)), z_u (z_u (z_u (z_u σ 36 T (nI b)) 35 1 (nI (T + 1))) 95 T (nI b)) 90 13 (nI (T + 1)), ?_, ?_, ?_⟩
      · simp (disch := omega) only [f_Y_feed, f_Tp_add_35, ki_0_1, ki_0_10, ki_0_127, ki_0_13, ki_0_15, ki_0_2, ki_0_3, ki_0_4, ki_0_60, ki_0_7, ki_0_99, ki_0_999, ki_1_12, ki_1_4, ki_1_5, ki_1_6, ki_1_60, ki_1_8, ki_1_9, ki_48_57, ki_97_122, nl0, nl1, nl2, nl3, nl4, nl5, nl6, nl7, nl8, nl9, nl10, nl11, nl12, nl13, nl14, nl15, nl16, nl20, nl24, nl30, nl31, nl32, nl36, nl37, nl40, nl48, nl49, nl50, nl57, nl59, nl60, nl80, nl81, nl82, nl83, nl96, nl97, nl99, nl104, nl105, nl106, nl107, nl108, nl109, nl110, nl122, nl127, nl150, nl160, nl330, nl440, nl777, nl999, nl1000, nl1050, nl100000, nl1000000, nl111, z_bs, z_let, z_join, k_eq, k_ne, k_leT, k_leF, k_ltT, k_ltF, k_ib, k_ngT, nI_clamp, nI_add, pk_mul, pk_sub, if_true, if_false, true_or, or_true, false_or, or_false, true_and, and_true, false_and, and_false, not_true_eq_false, not_false_eq_true, hg_uu, ha, z2, hg_u_n, hg_u_s, hg_byte]
      · simp (disch := omega) only [f_M_feed, km_0_1, km_0_127, km_0_13, km_0_2, km_0_3, km_0_4, km_0_60, km_0_999, km_0_99, km_0_10, km_0_7, km_1_12, km_1_5, km_1_4, km_1_6, km_1_60, km_1_9, km_1_8, km_1_3, km_11_49, km_48_57, km_97_122, nl0, nl1, nl2, nl3, nl4, nl5, nl6, nl7, nl8, nl9, nl10, nl11, nl12, nl13, nl14, nl15, nl16, nl20, nl24, nl30, nl31, nl32, nl36, nl37, nl40, nl48, nl49, nl50, nl57, nl59, nl60, nl80, nl81, nl82, nl83, nl96, nl97, nl99, nl104, nl105, nl106, nl107, nl108, nl109, nl110, nl122, nl127, nl150, nl160, nl330, nl440, nl777, nl999, nl1000, nl1050, nl100000, nl1000000, nl111, z_bs, z_let, z_join, k_eq, k_ne, k_leT, k_leF, k_ltT, k_ltF, k_ib, k_ngT, nI_clamp, nI_add, pk_mul, pk_sub, if_true, if_false, true_or, or_true, false_or, or_false, true_and, and_true, false_and, and_false, not_true_eq_false, not_false_eq_true, hg_uu, ha, z3, hg_u_n, hg_u_s]
      · refine hg_I_tp h (fun k k1 k2 k3 k4 => by simp (disch := omega) only [hg_u_n]) (fun j hj => by rw [hg_u_j hj]; simp (disch := omega) only [hg_u_n]) ⟨T + 1, by omega, ?_, ?_, fun j hj => ?_⟩
        · simp (disch := omega) only [hg_u_n, hg_u_s]
        · simp (disch := omega) only [hg_u_s]
        · by_cases cj : j = T
          · subst cj
            refine ⟨b, by omega, ?_, ?_⟩ <;> simp (disch := omega) only [hg_u_n, hg_u_s]
          · obtain ⟨b', q1, q2, q3⟩ := z4 j (by omega)
            refine ⟨b', q1, ?_, ?_⟩
            · rw [← q2]; simp (disch := omega) only [hg_u_n, hg_u_j]
            · rw [← q3]; simp (disch := omega) only [hg_u_n, hg_u_j]
  · exact ⟨-1, σ, σ, by simp (disch := omega) only [f_Y_feed, ki_0_1, ki_0_10, ki_0_127, ki_0_13, ki_0_15, ki_0_2, ki_0_3, ki_0_4, ki_0_60, ki_0_7, ki_0_99, ki_0_999, ki_1_12, ki_1_4, ki_1_5, ki_1_6, ki_1_60, ki_1_8, ki_1_9, ki_48_57, ki_97_122, nl0, nl1, nl2, nl3, nl4, nl5, nl6, nl7, nl8, nl9, nl10, nl11, nl12, nl13, nl14, nl15, nl16, nl20, nl24, nl30, nl31, nl32, nl36, nl37, nl40, nl48, nl49, nl50, nl57, nl59, nl60, nl80, nl81, nl82, nl83, nl96, nl97, nl99, nl104, nl105, nl106, nl107, nl108, nl109, nl110, nl122, nl127, nl150, nl160, nl330, nl440, nl777, nl999, nl1000, nl1050, nl100000, nl1000000, nl111, z_bs, z_let, z_join, k_eq, k_ne, k_leT, k_leF, k_ltT, k_ltF, k_ib, k_ngT, nI_clamp, nI_add, pk_mul, pk_sub, if_true, if_false, true_or, or_true, false_or, or_false, true_and, and_true, false_and, and_false, not_true_eq_false, not_false_eq_true, hg_uu, ha], by simp (disch := omega) only [f_M_feed, km_0_1, km_0_127, km_0_13, km_0_2, km_0_3, km_0_4, km_0_60, km_0_999, km_0_99, km_0_10, km_0_7, km_1_12, km_1_5, km_1_4, km_1_6, km_1_60, km_1_9, km_1_8, km_1_3, km_11_49, km_48_57, km_97_122, nl0, nl1, nl2, nl3, nl4, nl5, nl6, nl7, nl8, nl9, nl10, nl11, nl12, nl13, nl14, nl15, nl16, nl20, nl24, nl30, nl31, nl32, nl36, nl37, nl40, nl48, nl49, nl50, nl57, nl59, nl60, nl80, nl81, nl82, nl83, nl96, nl97, nl99, nl104, nl105, nl106, nl107, nl108, nl109, nl110, nl122, nl127, nl150, nl160, nl330, nl440, nl777, nl999, nl1000, nl1050, nl100000, nl1000000, nl111, z_bs, z_let, z_join, k_eq, k_ne, k_leT, k_leF, k_ltT, k_ltF, k_ib, k_ngT, nI_clamp, nI_add, pk_mul, pk_sub, if_true, if_false, true_or, or_true, false_or, or_false, true_and, and_true, false_and, and_false, not_true_eq_false, not_false_eq_true, hg_uu, ha], hI⟩
theorem c_end {σ : zS} (h : z_Inv σ) (a : Int32) : hc_B (f_Y_end a) (f_M_end a) σ := by
  obtain ⟨W, H, R, p, h⟩ := h
  obtain ⟨hD, hV, hG, hQ, hX, hB⟩ := id h
  obtain ⟨n1, n2⟩ := hg_D_N hD
  obtain ⟨d1, d2, d3, d4, d5⟩ := id hD
  obtain ⟨G0, G1, G2, G3, G4, G5, G6, G7, G8, G9, G10, G11, G12, G13, G14, G15, G16, G17⟩ := id hG
  have hM := hX.1
  have q := hg_Q0 hQ
  have hI : z_Inv σ := ⟨W, H, R, p, h⟩
  obtain ⟨Z, z1, z2, z3, z4⟩ := hX.2.2.1
  unfold hc_B f_Y_end f_M_end
  rw [z2, nl0, y_isIn, nI_toInt (show 0 < 2 ^ 31 by omega), nI_toInt (show Z < 2 ^ 31 by omega), z_bs]
  by_cases ha : ((0 : Nat) : Int) ≤ a.toInt ∧ a.toInt ≤ (Z : Int)
  · obtain ⟨n, -, hn, rfl⟩ := hg_arg2 (lo := 0) (hi := Z) (by omega) ha
    rw [if_pos ha, if_neg (show ¬ nI 1 = nI 0 by decide), z_let_e]
    refine ⟨nI Z, z_u σ 35 1 (nI n), z_u (z_u σ 35 1 (nI n)) 90 13 (nI n), rfl, ?_, ?_⟩
    · rw [hg_u_n (show 90 ≠ 35 by omega), z3, mm_inI, Int32.toInt_toInt64, nI_toInt (show Z < 2 ^ 31 by omega), show (0 : Int64).toInt = ((0 : Nat) : Int) from rfl, z_bs, if_pos ha, if_neg (show ¬ nI 1 = nI 0 by decide), z_let_e]
    · refine hg_I_tp h (fun k k1 k2 k3 k4 => by simp (disch := omega) only [hg_u_n]) (fun j hj => by rw [hg_u_j hj, hg_u_n (by omega)]) ⟨n, by omega, ?_, ?_, fun j hj => ?_⟩
      · rw [hg_u_n (by omega), hg_u_s]
      · rw [hg_u_s]
      · simp (disch := omega) only [hg_u_n]
        exact z4 j (by omega)
  · rw [if_neg ha, if_pos (show nI 0 = nI 0 from rfl)]
    refine ⟨-1, σ, σ, rfl, ?_, hI⟩
    rw [z3, mm_inI, Int32.toInt_toInt64, nI_toInt (show Z < 2 ^ 31 by omega), show (0 : Int64).toInt = ((0 : Nat) : Int) from rfl, z_bs, if_neg ha, if_pos (show nI 0 = nI 0 from rfl)]
theorem g_ct_t {q : Nat → Bool} {n : Nat} (h : q n = true) : g_ct q (n + 1) = g_ct q n + 1 := by
  rw [g_ct, if_pos h]
theorem g_ct_f {q : Nat → Bool} {n : Nat} (h : q n = false) : g_ct q (n + 1) = g_ct q n + 0 := by
  rw [g_ct, if_neg (by rw [h]; exact Bool.false_ne_true)]
section CN
variable {σ : zS} {p : Nat → Nat} {W H R : Nat}
def g_cb (p : Nat → Nat) (c : Nat) : Bool := decide (g_l p c = 4)
def g_cc (p : Nat → Nat) (c : Nat) : Bool := !decide (p (5 * c + 2) = 0)
def g_cy (p : Nat → Nat) (c : Nat) : Nat := p (5 * c + 1)
theorem yy_bare (hD : hg_D W H R) (hV : hg_V p R) (h : hg_G1 σ p W H R) : f_G_bareCells_1 σ = some (nI (g_ct (g_cb p) (W * H))) := by
  obtain ⟨n1, n2⟩ := hg_D_N hD
  unfold f_G_bareCells_1
  refine z_ex (z_lp' (fun i (s : Int32 × Int32) => s.2 = nI i ∧ i ≤ W * H ∧ s.1 = nI (g_ct (g_cb p) i)) (W * H) ?_ ?_ ?_)
  · exact ⟨rfl, by omega, rfl⟩
  · intro i s hi hP
    obtain ⟨e1, e2, e3⟩ := hP
    have hl := hg_V_l hV (show i < 16 by omega)
    rw [e1, e3, y_cells_1 hD h, z_bs, if_neg (nI_ge hi (by omega)), if_pos ((z_ibn (show i < 2 ^ 31 by omega)).mpr (show i < 16 by omega)), nI_clamp (by omega), h.2.2.2.1 i (by omega)]
    simp only [z_join]
    refine ⟨(nI (g_ct (g_cb p) (i + 1)), nI (i + 1)), ?_, rfl, by omega, rfl⟩
    rw [g_ct]
    unfold g_cb
    by_cases c : g_l p i = 4
    · rw [if_pos (show nI (g_l p i) = 4 by rw [c]; rfl), if_pos (decide_eq_true c), nl1, nI_add, nI_add]
    · rw [if_neg (show ¬ nI (g_l p i) = 4 by rw [nl4, nI_eq (by omega) (by omega)]; exact c), if_neg (by rw [decide_eq_true_iff]; exact c), nl1, nl0, nI_add, nI_add]
  · intro s hP
    obtain ⟨e1, e2, e3⟩ := hP
    rw [e1, e3, y_cells_1 hD h, z_bs, if_pos (nI_le (Nat.le_refl _) (by omega))]
    exact ⟨_, rfl, _, rfl, rfl⟩
theorem yy_crops (hD : hg_D W H R) (hV : hg_V p R) (h : hg_G1 σ p W H R) : f_G_cropsSown_1 σ = some (nI (g_ct (g_cc p) (W * H))) := by
  obtain ⟨n1, n2⟩ := hg_D_N hD
  unfold f_G_cropsSown_1
  refine z_ex (z_lp' (fun i (s : Int32 × Int32) => s.2 = nI i ∧ i ≤ W * H ∧ s.1 = nI (g_ct (g_cc p) i)) (W * H) ?_ ?_ ?_)
  · exact ⟨rfl, by omega, rfl⟩
  · intro i s hi hP
    obtain ⟨e1, e2, e3⟩ := hP
    have v3 := (hV.1 i (by omega)).2.2.1
    rw [e1, e3, y_cells_1 hD h, z_bs, if_neg (nI_ge hi (by omega)), if_pos ((z_ibn (show i < 2 ^ 31 by omega)).mpr (show i < 16 by omega)), nI_clamp (by omega), h.2.2.2.2.2.1 i (by omega), z_lit4]
    simp only [z_join]
    refine ⟨(nI (g_ct (g_cc p) (i + 1)), nI (i + 1)), ?_, rfl, by omega, rfl⟩
    rw [g_ct]
    unfold g_cc
    by_cases c : p (5 * i + 2) = 0
    · rw [if_pos ((g_k_0 v3).mpr c), decide_eq_true c, nl1, nl0, nI_add, nI_add]
      rfl
    · rw [if_neg (fun z => c ((g_k_0 v3).mp z)), decide_eq_false c, nl1, nI_add, nI_add]
      rfl
  · intro s hP
    obtain ⟨e1, e2, e3⟩ := hP
    rw [e1, e3, y_cells_1 hD h, z_bs, if_pos (nI_le (Nat.le_refl _) (by omega))]
    exact ⟨_, rfl, _, rfl, rfl⟩
theorem yy_yards (hD : hg_D W H R) (h : hg_G1 σ p W H R) : f_G_yardsInAll_1 σ = some (nI (g_s5 (g_cy p) (W * H))) := by
  obtain ⟨n1, n2⟩ := hg_D_N hD
  unfold f_G_yardsInAll_1
  refine z_ex (z_lp' (fun i (s : Int32 × Int32) => s.2 = nI i ∧ i ≤ W * H ∧ s.1 = nI (g_s5 (g_cy p) i)) (W * H) ?_ ?_ ?_)
  · exact ⟨rfl, by omega, rfl⟩
  · intro i s hi hP
    obtain ⟨e1, e2, e3⟩ := hP
    rw [e1, e3, y_cells_1 hD h, z_bs, if_neg (nI_ge hi (by omega)), if_pos ((z_ibn (show i < 2 ^ 31 by omega)).mpr (show i < 16 by omega)), nI_clamp (by omega), h.2.2.2.2.1 i (by omega), nI_add, z_let_e, nl1, nI_add]
    exact ⟨_, rfl, rfl, by omega, rfl⟩
  · intro s hP
    obtain ⟨e1, e2, e3⟩ := hP
    rw [e1, e3, y_cells_1 hD h, z_bs, if_pos (nI_le (Nat.le_refl _) (by omega))]
    exact ⟨_, rfl, _, rfl, rfl⟩
end CN
theorem hg_bc2 (b0 b1 : Bool) : g_ct (fun i => ((if b0 = true then 1 else 0) + (if b1 = true then 2 else 0)).testBit i) 32 = (if b0 = true then 1 else 0) + (if b1 = true then 1 else 0) := by
  cases b0 <;> cases b1 <;> decide +kernel
theorem c_count {σ : zS} (h : z_Inv σ) (a : Int32) : hc_P (f_Y_count a) (f_M_count a) σ := by
  obtain ⟨W, H, R, p, h⟩ := h
  obtain ⟨hD, hV, hG, hQ, hX, hB⟩ := id h
  obtain ⟨n1, n2⟩ := hg_D_N hD
  obtain ⟨d1, d2, d3, d4, d5⟩ := id hD
  obtain ⟨G0, G1, G2, G3, G4, G5, G6, G7, G8, G9, G10, G11, G12, G13, G14, G15, G16, G17⟩ := id hG
  have hM := hX.1
  have q := hg_Q0 hQ
  have hI : z_Inv σ := ⟨W, H, R, p, h⟩
  obtain ⟨b0, b1, k1, k2, k3, k4, k5⟩ := hX.2.1
  obtain ⟨T, z1, z2, z3, z4⟩ := hX.2.2.1
  obtain ⟨Z, y1, y2, y3, y4⟩ := hX.2.2.2.1
  have hs0 := hX.2.2.2.2.1.1
  have hMc : ∀ (v : Int32), (if a = 0 then some (σ 90 26) else if a = 1 then some (nI ((if b0 = true then 1 else 0) + (if b1 = true then 1 else 0))) else if a = 2 then some (σ 90 13) else if a = 3 then (if (σ 102 0) = -4 then some (-4 : Int32) else some (σ 103 0)) else if a = 4 then some (nI (g_ct (g_cb p) (W * H))) else if a = 5 then some (nI (g_ct (g_cc p) (W * H))) else if a = 6 then some (nI (g_s5 (g_cy p) (W * H))) else if a = 7 then some (nI (g_ct (fun i => (p 80).testBit i) 32)) else some (-1 : Int32)) = some v → f_M_count a σ = some v := by
    intro v hv
    unfold f_M_count
    refine z_ex (z_lp' (fun i (s : Int32 × Int32 × Int32 × Int32) => s.2.2.2 = nI i ∧ i ≤ W * H ∧ s.1 = nI (g_ct (g_cb p) i) ∧ s.2.1 = nI (g_ct (g_cc p) i) ∧ s.2.2.1 = nI (g_s5 (g_cy p) i)) (W * H) ?_ ?_ ?_)
    · exact ⟨rfl, by omega, rfl, rfl, rfl⟩
    · intro i s hi hP
      obtain ⟨e1, e2, e3, e4, e5⟩ := hP
      have hl := hg_V_l hV (show i < 16 by omega)
      have v3 := (hV.1 i (by omega)).2.2.1
      have l0 : f_M_lies (nI 0) (nI i) σ = some (nI (g_l p i)) := mm_lies hV hQ (by omega) (by omega)
      have l1 : f_M_cropIn (nI 0) (nI i) σ = some (g_k p i) := mm_cropIn hV hQ (by omega) (by omega)
      have x3 : g_s5 (g_cy p) (i + 1) = g_s5 (g_cy p) i + p (5 * i + 1) := rfl
      refine ⟨(nI (g_ct (g_cb p) (i + 1)), nI (g_ct (g_cc p) (i + 1)), nI (g_s5 (g_cy p) (i + 1)), nI (i + 1)), ?_, rfl, by omega, rfl, rfl, rfl⟩
      rw [e1, e3, e4, e5, hM.1, hM.2.1, pk_mul, if_neg (nI_ge hi (by omega)), nl0, l0, z_bs]
      simp (disch := omega) only [z_join, l1, z_bs, nl0, nl1, nl4, nl5, pk_mul, nI_add, k_ib, if_true, nI_clamp, q, z_let]
      by_cases c1 : g_l p i = 4
      · have x1 := g_ct_t (q := g_cb p) (n := i) (decide_eq_true c1)
        rw [if_pos (show nI (g_l p i) = nI 4 by rw [c1])]
        by_cases c2 : p (5 * i + 2) = 0
        · have x2 := g_ct_f (q := g_cc p) (n := i) (by unfold g_cc; rw [decide_eq_true c2]; rfl)
          rw [if_pos ((g_k_0 v3).mpr c2), x1, x2, x3]
        · have x2 := g_ct_t (q := g_cc p) (n := i) (by unfold g_cc; rw [decide_eq_false c2]; rfl)
          rw [if_neg (fun z => c2 ((g_k_0 v3).mp z)), x1, x2, x3]
      · have x1 := g_ct_f (q := g_cb p) (n := i) (decide_eq_false c1)
        rw [if_neg (show ¬ nI (g_l p i) = nI 4 by rw [nI_eq (by omega) (by omega)]; exact c1)]
        by_cases c2 : p (5 * i + 2) = 0
        · have x2 := g_ct_f (q := g_cc p) (n := i) (by unfold g_cc; rw [decide_eq_true c2]; rfl)
          rw [if_pos ((g_k_0 v3).mpr c2), x1, x2, x3]
        · have x2 := g_ct_t (q := g_cc p) (n := i) (by unfold g_cc; rw [decide_eq_false c2]; rfl)
          rw [if_neg (fun z => c2 ((g_k_0 v3).mp z)), x1, x2, x3]
    · intro s hP
      obtain ⟨e1, e2, e3, e4, e5⟩ := hP
      rw [e1, e3, e4, e5, hM.1, hM.2.1, pk_mul, if_pos (nI_le (Nat.le_refl _) (by omega))]
      refine ⟨_, rfl, ?_⟩
      refine z_lp' (fun i (s : Int32 × Int32) => s.2 = nI i ∧ i ≤ 32 ∧ s.1 = nI (g_ct (fun i => (p 80).testBit i) i)) 32 ?_ ?_ ?_
      · exact ⟨rfl, by omega, rfl⟩
      · intro i s hi hP
        obtain ⟨f1, f2, f3⟩ := hP
        rw [f1, f3, nl32, if_neg (nI_ge hi (by omega)), show (80 : Int32).toNatClampNeg = 80 from rfl, q 80 (by omega), nl1, show (31 : Int32) = nI 31 from rfl, z_sbit hV.2.1 hi, nI_add, z_let_e, nI_add]
        exact ⟨_, rfl, rfl, by omega, rfl⟩
      · intro s hP
        obtain ⟨f1, f2, f3⟩ := hP
        rw [f1, f3, nl32, if_pos (nI_le (Nat.le_refl _) (by omega))]
        refine ⟨_, rfl, v, ?_, rfl⟩
        rw [← hv]
        simp only [z_join]
        rw [show (0 : Int32).toNatClampNeg = 0 from rfl, show (1 : Int32).toNatClampNeg = 1 from rfl, k2, k3]
        cases b0 <;> cases b1 <;> rfl
  by_cases a0 : a = 0
  · exact ⟨nI Z, by unfold f_Y_count; rw [if_pos a0, y2], hMc _ (by rw [if_pos a0, y3])⟩
  by_cases a1 : a = 1
  · refine ⟨nI ((if b0 = true then 1 else 0) + (if b1 = true then 1 else 0)), ?_, hMc _ (by rw [if_neg a0, if_pos a1])⟩
    unfold f_Y_count
    rw [if_neg a0, if_pos a1, k1, y_bitCount (by cases b0 <;> cases b1 <;> decide), z_bs, hg_bc2]
  by_cases a2 : a = 2
  · exact ⟨nI T, by unfold f_Y_count; rw [if_neg a0, if_neg a1, if_pos a2, z2], hMc _ (by rw [if_neg a0, if_neg a1, if_pos a2, z3])⟩
  by_cases a3 : a = 3
  · rcases hs0 with ⟨s1, s2⟩ | ⟨l, n, s1, s2, s3, s4, s5, s6, s7⟩
    · refine ⟨-4, ?_, hMc _ (by rw [if_neg a0, if_neg a1, if_neg a2, if_pos a3, s2]; exact if_pos rfl)⟩
      unfold f_Y_count f_Sh_isThere_82
      rw [if_neg a0, if_neg a1, if_neg a2, if_pos a3, s1, if_pos (show (- nI 4 : Int32) = -4 from rfl), z_bs, if_pos rfl]
    · refine ⟨nI n, ?_, hMc _ (by rw [if_neg a0, if_neg a1, if_neg a2, if_pos a3, s5, s6]; exact if_neg (z_neg (b := 4) (by omega) (by omega) _ (by omega)))⟩
      unfold f_Y_count f_Sh_isThere_82
      rw [if_neg a0, if_neg a1, if_neg a2, if_pos a3, s4, if_neg (show ¬ nI n = -4 from z_neg (b := 4) (by omega) (by omega) _ (by omega)), z_bs]
      exact if_neg (by decide)
  by_cases a4 : a = 4
  · refine ⟨_, ?_, hMc _ (by rw [if_neg a0, if_neg a1, if_neg a2, if_neg a3, if_pos a4])⟩
    unfold f_Y_count
    rw [if_neg a0, if_neg a1, if_neg a2, if_neg a3, if_pos a4, yy_bare hD hV hG, z_bs]
  by_cases a5 : a = 5
  · refine ⟨_, ?_, hMc _ (by rw [if_neg a0, if_neg a1, if_neg a2, if_neg a3, if_neg a4, if_pos a5])⟩
    unfold f_Y_count
    rw [if_neg a0, if_neg a1, if_neg a2, if_neg a3, if_neg a4, if_pos a5, yy_crops hD hV hG, z_bs]
  by_cases a6 : a = 6
  · refine ⟨_, ?_, hMc _ (by rw [if_neg a0, if_neg a1, if_neg a2, if_neg a3, if_neg a4, if_neg a5, if_pos a6])⟩
    unfold f_Y_count
    rw [if_neg a0, if_neg a1, if_neg a2, if_neg a3, if_neg a4, if_neg a5, if_pos a6, yy_yards hD hG, z_bs]
  by_cases a7 : a = 7
  · refine ⟨_, ?_, hMc _ (by rw [if_neg a0, if_neg a1, if_neg a2, if_neg a3, if_neg a4, if_neg a5, if_neg a6, if_pos a7])⟩
    unfold f_Y_count
    rw [if_neg a0, if_neg a1, if_neg a2, if_neg a3, if_neg a4, if_neg a5, if_neg a6, if_pos a7, G8, y_bitCount hV.2.1, z_bs]
  refine ⟨-1, ?_, hMc _ (by rw [if_neg a0, if_neg a1, if_neg a2, if_neg a3, if_neg a4, if_neg a5, if_neg a6, if_neg a7])⟩
  unfold f_Y_count
  rw [if_neg a0, if_neg a1, if_neg a2, if_neg a3, if_neg a4, if_neg a5, if_neg a6, if_neg a7]
