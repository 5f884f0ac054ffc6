/-! the text: purse, size, rule, sow -/
section SL3
variable {b : Nat → Nat} {L W H R : Nat} {p t : Nat → Nat} {o m c0 c7 n : Nat}
theorem ty_take_7 {s9 : zS} {v : Nat} (h0 : s9 39 0 = nI v) (hz : s9 38 7 = nI 0) : f_Tr_take_37 (nI 7) s9 = some (z_u (z_u s9 38 7 (nI 1)) 27 2 (nI v)) := by
  unfold f_Tr_take_37
  rw [hg_join_to (x := (0 : Int32)) (fun j => by rfl), show f_Y_isIn (nI 7) (0 : Int32) (7 : Int32) s9 = some (nI 1) from by rw [y_isIn]; rfl, z_bs, z_join_e, if_neg (show ¬ nI 1 = 0 by decide), if_pos (show z_ib (nI 7) 8 = true by decide), if_pos (show z_ib (nI 7) 8 = true by decide), z_let_e]
  dsimp only
  rw [if_neg (show ¬ nI 7 = (0 : Int32) by decide), if_neg (show ¬ nI 7 = (1 : Int32) by decide), if_neg (show ¬ nI 7 = (2 : Int32) by decide), if_neg (show ¬ nI 7 = (3 : Int32) by decide), if_neg (show ¬ nI 7 = (4 : Int32) by decide), if_neg (show ¬ nI 7 = (5 : Int32) by decide), if_neg (show ¬ nI 7 = (6 : Int32) by decide), show (0 : Int32).toNatClampNeg = 0 from rfl, show (nI 7).toNatClampNeg = 7 from rfl, hz, show (nI 0 ||| ((1 : Int32) <<< ((0 : Int32) &&& 31))) = nI 1 from by decide, hg_u_n (show (39 : Nat) ≠ 38 by omega), h0, z_let_e]
theorem ty_take_0 {s9 : zS} {v a : Nat} (h0 : s9 39 0 = nI v) (h1 : s9 39 1 = nI a) (hz : s9 38 0 = nI 0) : f_Tr_take_37 (nI 0) s9 = some (z_u (z_u (z_u s9 38 0 (nI 1)) 17 0 (nI v)) 17 1 (nI a)) := by
  unfold f_Tr_take_37
  rw [hg_join_to (x := (0 : Int32)) (fun j => by rfl), show f_Y_isIn (nI 0) (0 : Int32) (7 : Int32) s9 = some (nI 1) from by rw [y_isIn]; rfl, z_bs, z_join_e, if_neg (show ¬ nI 1 = 0 by decide), if_pos (show z_ib (nI 0) 8 = true by decide), if_pos (show z_ib (nI 0) 8 = true by decide), z_let_e]
  dsimp only
  rw [if_pos (show nI 0 = (0 : Int32) from rfl), show (0 : Int32).toNatClampNeg = 0 from rfl, show (1 : Int32).toNatClampNeg = 1 from rfl, show (nI 0).toNatClampNeg = 0 from rfl, hz, show (nI 0 ||| ((1 : Int32) <<< ((0 : Int32) &&& 31))) = nI 1 from by decide, z_let_e, z_let_e, hg_u_n (show (39 : Nat) ≠ 38 by omega), h0, hg_u_n (show (39 : Nat) ≠ 17 by omega), hg_u_n (show (39 : Nat) ≠ 38 by omega), h1]
theorem ty_take_5 {s9 : zS} {v a d R : Nat} (h0 : s9 39 0 = nI v) (h1 : s9 39 1 = nI a) (h2 : s9 39 2 = nI d) (hr : s9 23 3 = nI R) (hR : R < 5) : ∃ w, f_Tr_take_37 (nI 5) s9 = some (z_u (z_u (z_u (z_u (z_u s9 38 5 w) 24 R (nI v)) 25 R (nI a)) 26 R (nI d)) 23 3 (nI (R + 1))) := by
  unfold f_Tr_take_37
  rw [hg_join_to (x := (0 : Int32)) (fun j => by rfl), show f_Y_isIn (nI 5) (0 : Int32) (7 : Int32) s9 = some (nI 1) from by rw [y_isIn]; rfl, z_bs, z_join_e, if_neg (show ¬ nI 1 = 0 by decide), if_pos (show z_ib (nI 5) 8 = true by decide), if_pos (show z_ib (nI 5) 8 = true by decide), z_let_e]
  dsimp only
  rw [if_neg (show ¬ nI 5 = (0 : Int32) by decide), if_neg (show ¬ nI 5 = (1 : Int32) by decide), if_neg (show ¬ nI 5 = (2 : Int32) by decide), if_neg (show ¬ nI 5 = (3 : Int32) by decide), if_neg (show ¬ nI 5 = (4 : Int32) by decide), if_pos (show nI 5 = (5 : Int32) from rfl), show (0 : Int32).toNatClampNeg = 0 from rfl, show (1 : Int32).toNatClampNeg = 1 from rfl, show (2 : Int32).toNatClampNeg = 2 from rfl, show (nI 5).toNatClampNeg = 5 from rfl]
  generalize (s9 38 5 ||| ((1 : Int32) <<< ((0 : Int32) &&& 31))) = w
  refine ⟨w, ?_⟩
  rw [hg_u_n (show (39 : Nat) ≠ 38 by omega), h0, h1, h2]
  unfold f_Lw_add_23
  rw [hg_u_n (show (23 : Nat) ≠ 38 by omega), hr, show (5 : Int32) = nI 5 from rfl, if_neg (nI_ge hR (by omega)), if_pos ((z_ibn (by omega)).mpr hR), nI_clamp (by omega), z_let_e, hg_u_n (show (23 : Nat) ≠ 24 by omega), hg_u_n (show (23 : Nat) ≠ 38 by omega), hr, if_pos ((z_ibn (by omega)).mpr hR), nI_clamp (by omega), z_let_e, hg_u_n (show (23 : Nat) ≠ 25 by omega), hg_u_n (show (23 : Nat) ≠ 24 by omega), hg_u_n (show (23 : Nat) ≠ 38 by omega), hr, if_pos ((z_ibn (by omega)).mpr hR), nI_clamp (by omega), z_let_e, z_let_e, hg_u_n (show (23 : Nat) ≠ 26 by omega), hg_u_n (show (23 : Nat) ≠ 25 by omega), hg_u_n (show (23 : Nat) ≠ 24 by omega), hg_u_n (show (23 : Nat) ≠ 38 by omega), hr, nl1, nI_add, z_bs]
theorem gs_size_17 {σ : zS} {W' H' : Nat} (h : hg_G17 σ p W H R) : hg_G17 (z_u (z_u σ 17 0 (nI W')) 17 1 (nI H')) p W' H' R := by
  have e : ∀ q, q ≠ 17 → (z_u (z_u σ 17 0 (nI W')) 17 1 (nI H')) q = σ q := fun q hq => by rw [hg_u_n hq, hg_u_n hq]
  have e17 : ∀ j, j ≠ 0 → j ≠ 1 → (z_u (z_u σ 17 0 (nI W')) 17 1 (nI H')) 17 j = σ 17 j := fun j a c => by rw [hg_u_j c, hg_u_j a]
  have w0 : (z_u (z_u σ 17 0 (nI W')) 17 1 (nI H')) 17 0 = nI W' := by rw [hg_u_j (by omega), hg_u_s]
  have w1 : (z_u (z_u σ 17 0 (nI W')) 17 1 (nI H')) 17 1 = nI H' := by rw [hg_u_s]
  generalize z_u (z_u σ 17 0 (nI W')) 17 1 (nI H') = τ at e e17 w0 w1
  unfold hg_G17 at *
  rw [e 18 (by omega), e 19 (by omega), e 20 (by omega), e 21 (by omega), e 22 (by omega), e 23 (by omega), e 24 (by omega), e 25 (by omega), e 26 (by omega), e 27 (by omega), e 28 (by omega), e 29 (by omega), e 30 (by omega), e17 7 (by omega) (by omega), e17 10 (by omega) (by omega), e17 12 (by omega) (by omega)]
  exact ⟨w0, w1, h.2.2⟩
theorem gs_rule_17 {σ : zS} {v a d : Nat} (hR : R < 5) (h : hg_G17 σ p W H R) : hg_G17 (z_u (z_u (z_u (z_u σ 24 R (nI v)) 25 R (nI a)) 26 R (nI d)) 23 3 (nI (R + 1))) (g_up (g_up (g_up p (81 + 3 * R) v) (82 + 3 * R) a) (83 + 3 * R) d) W H (R + 1) := by
  obtain ⟨G0, G1, G2, G3, G4, G5, G6, G7, G8, G9, G10, G11, G12, G13, G14, G15, G16, G17⟩ := h
  have gu : ∀ k, (k < 81 ∨ 95 < k) → (g_up (g_up (g_up p (81 + 3 * R) v) (82 + 3 * R) a) (83 + 3 * R) d) k = p k := fun k hk => by rw [g_up_n (by omega), g_up_n (by omega), g_up_n (by omega)]
  have e : ∀ q, q ≠ 23 → q ≠ 24 → q ≠ 25 → q ≠ 26 → (z_u (z_u (z_u (z_u σ 24 R (nI v)) 25 R (nI a)) 26 R (nI d)) 23 3 (nI (R + 1))) q = σ q := fun q a b c d => by rw [hg_u_n a, hg_u_n d, hg_u_n c, hg_u_n b]
  refine ⟨?_, ?_, ?_, fun c hc => ?_, fun c hc => ?_, fun c hc => ?_, fun c hc => ?_, fun c hc => ?_, ?_, fun k hk => ?_, fun k hk => ?_, fun k hk => ?_, fun s hs => ?_, fun s hs => ?_, ?_, ?_, fun o ho => ?_, ?_⟩
  · rw [e 17 (by omega) (by omega) (by omega) (by omega)]; exact G0
  · rw [e 17 (by omega) (by omega) (by omega) (by omega)]; exact G1
  · rw [hg_u_s]
  · unfold g_l
    rw [e 18 (by omega) (by omega) (by omega) (by omega), gu _ (by omega), gu _ (by omega)]; exact G3 c hc
  · rw [e 19 (by omega) (by omega) (by omega) (by omega), gu _ (by omega)]; exact G4 c hc
  · unfold g_k
    rw [e 20 (by omega) (by omega) (by omega) (by omega), gu _ (by omega)]; exact G5 c hc
  · rw [e 21 (by omega) (by omega) (by omega) (by omega), gu _ (by omega)]; exact G6 c hc
  · rw [e 22 (by omega) (by omega) (by omega) (by omega), gu _ (by omega)]; exact G7 c hc
  · rw [e 17 (by omega) (by omega) (by omega) (by omega), gu _ (by omega)]; exact G8
  · rw [hg_u_n (by omega), hg_u_n (by omega), hg_u_n (by omega)]
    by_cases z : k = R
    · rw [z, hg_u_s, g_up_n (by omega), g_up_n (by omega), g_up_s]
    · rw [hg_u_j z, g_up_n (by omega), g_up_n (by omega), g_up_n (by omega)]; exact G9 k (by omega)
  · rw [hg_u_n (by omega), hg_u_n (by omega)]
    by_cases z : k = R
    · rw [z, hg_u_s, g_up_n (by omega), g_up_s]
    · rw [hg_u_j z, hg_u_n (by omega), g_up_n (by omega), g_up_n (by omega), g_up_n (by omega)]; exact G10 k (by omega)
  · rw [hg_u_n (by omega)]
    by_cases z : k = R
    · rw [z, hg_u_s, g_up_s]
    · rw [hg_u_j z, hg_u_n (by omega), hg_u_n (by omega), g_up_n (by omega), g_up_n (by omega), g_up_n (by omega)]; exact G11 k (by omega)
  · rw [e 28 (by omega) (by omega) (by omega) (by omega), gu _ (by omega)]; exact G12 s hs
  · rw [e 29 (by omega) (by omega) (by omega) (by omega), gu _ (by omega)]; exact G13 s hs
  · rw [e 27 (by omega) (by omega) (by omega) (by omega), gu _ (by omega)]; exact G14
  · rw [e 17 (by omega) (by omega) (by omega) (by omega), gu _ (by omega)]; exact G15
  · rw [e 30 (by omega) (by omega) (by omega) (by omega), gu _ (by omega)]; exact G16 o ho
  · rw [e 17 (by omega) (by omega) (by omega) (by omega), gu _ (by omega)]; exact G17
theorem tx_SP_R {v a d : Nat} (hP : tx_SP W H R p t o m) (hR : R < 5) (hv : v ≤ 3) (ha : a ≤ 4) (hd : 1 ≤ d) (hd2 : d ≤ 4) : tx_SP W H (R + 1) (g_up (g_up (g_up p (81 + 3 * R) v) (82 + 3 * R) a) (83 + 3 * R) d) t o m := by
  obtain ⟨P1, P2, P3, P4, P5, P6, P7, P8, P9, P10⟩ := hP
  obtain ⟨V1, V2, V3, V4, V5⟩ := P2
  have gu : ∀ k, (k < 81 ∨ 95 < k) → (g_up (g_up (g_up p (81 + 3 * R) v) (82 + 3 * R) a) (83 + 3 * R) d) k = p k := fun k hk => by rw [g_up_n (by omega), g_up_n (by omega), g_up_n (by omega)]
  obtain ⟨D1, D2, D3, D4, D5⟩ := P1
  refine ⟨⟨D1, D2, D3, D4, by omega⟩, ⟨fun c hc => ?_, ?_, fun k hk => ?_, fun s hs => ?_, ?_⟩, hg_B_up (by omega) (hg_B_up (by omega) (hg_B_up (by omega) P3)), fun c hc => ?_, P5, P6, ?_, P8, P9, P10⟩
  · rw [gu _ (by omega), gu _ (by omega), gu _ (by omega), gu _ (by omega), gu _ (by omega)]; exact V1 c hc
  · rw [gu _ (by omega)]; exact V2
  · by_cases z : k = R
    · subst z
      rw [show g_up (g_up (g_up p (81 + 3 * k) v) (82 + 3 * k) a) (83 + 3 * k) d (81 + 3 * k) = v by rw [g_up_n (by omega), g_up_n (by omega), g_up_s], show g_up (g_up (g_up p (81 + 3 * k) v) (82 + 3 * k) a) (83 + 3 * k) d (82 + 3 * k) = a by rw [g_up_n (by omega), g_up_s], g_up_s]
      exact ⟨hv, ha, hd, hd2⟩
    · have g2 : ∀ i, i = 81 + 3 * k ∨ i = 82 + 3 * k ∨ i = 83 + 3 * k → (g_up (g_up (g_up p (81 + 3 * R) v) (82 + 3 * R) a) (83 + 3 * R) d) i = p i := fun i hi => by rw [g_up_n (by omega), g_up_n (by omega), g_up_n (by omega)]
      rw [g2 _ (by omega), g2 _ (by omega), g2 _ (by omega)]
      exact V3 k (by omega)
  · rw [gu _ (by omega), gu _ (by omega)]; exact V4 s hs
  · rw [gu _ (by omega)]; exact V5
  · rw [gu _ (by omega)]; exact P4 c hc
  · rw [gu _ (by omega)]; exact P7
theorem tx_SP_W {W' H' : Nat} (hP : tx_SP W H R p t o m) (hD : hg_D W' H' R) : tx_SP W' H' R p t o m := ⟨hD, hP.2⟩
theorem tx_l_7 {x y : zS} {u f e k v : Nat} (hP : tx_SP W H R p t o m) (hY : tx_SY x b L W H R p t (tx_b o 0) 0 n) (h0 : x 37 6 = nI 0) (hu : x 40 4 = nI u) (hM : tx_SM y b L W H R p t o m) (hT : tx_T b L u f e k v) (hK : tx_tk y f e k v) (hb7 : tx_b o 7 = 1) : ∃ g x' z, (z_loop (ty_ls 7) (nI 0, x)).bind (ty_lc 7) = some (g, x') ∧ (f_M_readMore (nI 7) y).bind tm_fc = some z ∧ tyF x x' ∧ tmF y z ∧ tx_O b L n u x' z g := by
  obtain ⟨P1, P2, P3, P4, P5, P6, P7, P8, P9, P10⟩ := id hP
  obtain ⟨D1, D2, D3, D4, D5⟩ := id P1
  obtain ⟨F1, F2, F3, F4, F5, F6, F7⟩ := tx_T_f hT
  have hL := hM.1.2.1
  obtain ⟨r0, y1, a1, a2, a3, a4⟩ := tm_other (lo := 0) (hi := 99) (s := 0) hM.1 hK hT (by omega) (by omega) (by omega)
  obtain ⟨s1, d1, d2, d3, d4⟩ := ty_field_7_0 hY.2.1 hu hT h0
  rw [ty_ls_go (m := 1) (by omega) rfl (by omega) (by omega) h0 d1]
  unfold f_M_readMore
  rw [if_neg (show ¬ nI 7 = (4 : Int32) by decide), if_neg (show ¬ nI 7 = (5 : Int32) by decide), if_neg (show ¬ nI 7 = (6 : Int32) by decide), if_pos (show nI 7 = (7 : Int32) from rfl), show f_M_other (0 : Int32) (99 : Int32) (0 : Int32) y = some (nI r0, y1) from a1, z_bs]
  dsimp only
  rw [show (104 : Int32).toNatClampNeg = 104 from rfl, z_let_e, z_bs]
  by_cases q0 : tx_q k 0 99 0 v = 0
  · obtain ⟨hr, f1, e1, k1, v1, T1, K1⟩ := a4 q0
    obtain ⟨qk, qlo, qhi, -⟩ := tx_q_0 q0
    obtain ⟨z0, z1, z2, z3⟩ := d4 q0
    have hY1 := tx_SY_fr hY d2
    rw [hr]
    refine tx_tail (m' := 1) (by omega) rfl (by omega) hY1.2.1 z0 z3 (by omega) T1 (tk_93 K1) (tx_SP_p hP (hg_V_pur D5 P2 qhi) (by omega) (by intros; omega) (by omega)) (tx_SM_p (tx_SM_fr hM a2)) (tyF_fr d2) (tmF_u93 (tmF_fr a2)) (fun s9 h9 h9q => ?_)
    have hY9 := tx_SY_c hY1 (fun q _ _ _ => h9q q (by omega)) (by rw [h9q 37 (by omega)])
    refine ⟨_, ty_take_7 (v := v) (by rw [h9q 39 (by omega)]; exact z1) hY9.2.2.2.2.1, ?_, ?_, ?_, ?_⟩
    · rw [hg_u_n (by omega), hg_u_n (by omega)]
    · rw [hg_u_n (by omega), hg_u_n (by omega)]
    · obtain ⟨g1, g2, g3, g4, g5, g6⟩ := hY9
      have hY10 : tx_SY (z_u s9 38 7 (nI 1)) b L W H R p t (tx_b o 0) (tx_b o 7) n := ⟨hg_G17_c g1 (fun q _ _ => hg_u_n (by omega)), tx_Y_c g2 (hg_u_n (by omega)) (hg_u_n (by omega)), by rw [hg_u_n (by omega)]; exact g3, by rw [hg_u_j (by omega)]; exact g4, by rw [hg_u_s, hb7], fun j hj => by rw [hg_u_j (by unfold tx_J at hj; omega)]; exact g6 j hj⟩
      exact tx_SY_G hY10 (gs_purse_17 D5 hY10.1) (fun q hq => by rw [hg_u_n (by omega)])
    · exact tyF_u (tyF_u (tyF_r s9) (by omega)) (by omega)
  · exact tx_bad (m' := 1) (by omega) rfl (by omega) (by omega) (d3 q0) (tm_bk_93 (a3 q0).2) (tyF_fr d2) (tmF_u93 (tmF_fr a2))
theorem tx_l_0 {x y : zS} {u f e k v : Nat} (hP : tx_SP W H R p t o m) (hY : tx_SY x b L W H R p t 0 (tx_b o 7) n) (h0 : x 37 6 = nI 0) (hu : x 40 4 = nI u) (hM : tx_SM y b L W H R p t o m) (hT : tx_T b L u f e k v) (hK : tx_tk y f e k v) (hb0 : tx_b o 0 = 1) : ∃ g x' z, (z_loop (ty_ls 0) (nI 0, x)).bind (ty_lc 0) = some (g, x') ∧ (f_M_readMore (nI 0) y).bind tm_fc = some z ∧ tyF x x' ∧ tmF y z ∧ tx_O b L n u x' z g := by
  obtain ⟨P1, P2, P3, P4, P5, P6, P7, P8, P9, P10⟩ := id hP
  obtain ⟨D1, D2, D3, D4, D5⟩ := id P1
  obtain ⟨F1, F2, F3, F4, F5, F6, F7⟩ := tx_T_f hT
  have hL := hM.1.2.1
  obtain ⟨r0, y1, a1, a2, a3, a4⟩ := tm_other (lo := 2) (hi := 4) (s := 0) hM.1 hK hT (by omega) (by omega) (by omega)
  obtain ⟨s1, d1, d2, d3, d4⟩ := ty_field_0_0 hY.2.1 hu hT h0
  rw [ty_ls_go (m := 2) (by omega) rfl (by omega) (by omega) h0 d1]
  unfold f_M_readMore
  rw [if_neg (show ¬ nI 0 = (4 : Int32) by decide), if_neg (show ¬ nI 0 = (5 : Int32) by decide), if_neg (show ¬ nI 0 = (6 : Int32) by decide), if_neg (show ¬ nI 0 = (7 : Int32) by decide), show f_M_other (2 : Int32) (4 : Int32) (0 : Int32) y = some (nI r0, y1) from a1, z_bs]
  dsimp only
  rw [z_let_e]
  by_cases q0 : tx_q k 2 4 0 v = 0
  · obtain ⟨hr, f1, e1, k1, v1, T1, K1⟩ := a4 q0
    obtain ⟨qk, qlo, qhi, -⟩ := tx_q_0 q0
    obtain ⟨z0, z1, z2, z3⟩ := d4 q0
    have hY1 := tx_SY_fr hY d2
    obtain ⟨G1, G2, G3, G4, G5, G6, G7⟩ := tx_T_f T1
    have M1 := tx_SM_W (v := v) (tx_SM_fr hM a2)
    obtain ⟨r1, y2, b1, b2, b3, b4⟩ := tm_other (lo := 2) (hi := 4) (s := 0) M1.1 (tk_90 K1 (by omega)) T1 (by omega) (by omega) (by omega)
    obtain ⟨s2, g1, g2, g3, g4⟩ := ty_field_0_1 hY1.2.1 z3 T1 z0
    rw [hr, show f_M_other (2 : Int32) (4 : Int32) (0 : Int32) (z_u y1 90 6 (nI v)) = some (nI r1, y2) from b1, z_bs]
    dsimp only
    rw [z_let_e, z_bs, ty_ls_go (m := 2) (by omega) rfl (by omega) (by omega) z0 g1]
    by_cases q1 : tx_q k1 2 4 0 v1 = 0
    · obtain ⟨hr1, f2, e2, k2, v2, T2, K2⟩ := b4 q1
      obtain ⟨wk, wlo, whi, -⟩ := tx_q_0 q1
      obtain ⟨w0, w1, w2, w3⟩ := g4 q1
      have hY2 := tx_SY_fr hY1 g2
      rw [hr1]
      refine tx_tail (W := v) (H := v1) (m' := 2) (by omega) rfl (by omega) hY2.2.1 w0 w3 (by omega) T2 (tk_90 K2 (by omega)) (tx_SP_W hP ⟨qlo, qhi, wlo, whi, D5⟩) (tx_SM_H (tx_SM_fr M1 b2)) (tyF_t (tyF_fr d2) (tyF_fr g2)) (tmF_u90 (tmF_t (tmF_u90 (tmF_fr a2) (by omega)) (tmF_fr b2)) (by omega)) (fun s9 h9 h9q => ?_)
      have hY9 := tx_SY_c hY2 (fun q _ _ _ => h9q q (by omega)) (by rw [h9q 37 (by omega)])
      refine ⟨_, ty_take_0 (v := v) (a := v1) (by rw [h9q 39 (by omega), w2 0 (by omega)]; exact z1) (by rw [h9q 39 (by omega)]; exact w1) hY9.2.2.2.1, ?_, ?_, ?_, ?_⟩
      · rw [hg_u_n (by omega), hg_u_n (by omega), hg_u_n (by omega)]
      · rw [hg_u_n (by omega), hg_u_n (by omega), hg_u_n (by omega)]
      · obtain ⟨j1, j2, j3, j4, j5, j6⟩ := hY9
        have hY10 : tx_SY (z_u s9 38 0 (nI 1)) b L W H R p t (tx_b o 0) (tx_b o 7) n := ⟨hg_G17_c j1 (fun q _ _ => hg_u_n (by omega)), tx_Y_c j2 (hg_u_n (by omega)) (hg_u_n (by omega)), by rw [hg_u_n (by omega)]; exact j3, by rw [hg_u_s, hb0], by rw [hg_u_j (by omega)]; exact j5, fun j hj => by rw [hg_u_j (by unfold tx_J at hj; omega)]; exact j6 j hj⟩
        exact tx_SY_G hY10 (gs_size_17 hY10.1) (fun q hq => by rw [hg_u_n (by omega), hg_u_n (by omega)])
      · exact tyF_u (tyF_u (tyF_u (tyF_r s9) (by omega)) (by omega)) (by omega)
    · exact tx_bad (m' := 2) (by omega) rfl (by omega) (by omega) (g3 q1) (tm_bk_90 (b3 q1).2 (by omega)) (tyF_t (tyF_fr d2) (tyF_fr g2)) (tmF_u90 (tmF_t (tmF_u90 (tmF_fr a2) (by omega)) (tmF_fr b2)) (by omega))
  · rw [tm_otherK (tm_bk_90 (a3 q0).2 (by omega)), z_bs]
    dsimp only
    rw [z_let_e, z_bs]
    exact tx_bad (m' := 2) (by omega) rfl (by omega) (by omega) (d3 q0) (tm_bk_90 (tm_bk_90 (a3 q0).2 (by omega)) (by omega)) (tyF_fr d2) (tmF_u90 (tmF_u90 (tmF_fr a2) (by omega)) (by omega))
theorem tx_l_5 {x y : zS} {u f e k v : Nat} (hP : tx_SP W H R p t o m) (hY : tx_SY x b L W H R p t (tx_b o 0) (tx_b o 7) n) (h0 : x 37 6 = nI 0) (hu : x 40 4 = nI u) (hM : tx_SM y b L W H R p t o m) (hT : tx_T b L u f e k v) (hK : tx_tk y f e k v) (hR5 : R < 5) : ∃ g x' z, (z_loop (ty_ls 5) (nI 0, x)).bind (ty_lc 5) = some (g, x') ∧ (f_M_readMore (nI 5) y).bind tm_fc = some z ∧ tyF x x' ∧ tmF y z ∧ tx_O b L n u x' z g := by
  obtain ⟨P1, P2, P3, P4, P5, P6, P7, P8, P9, P10⟩ := id hP
  obtain ⟨D1, D2, D3, D4, D5⟩ := id P1
  obtain ⟨F1, F2, F3, F4, F5, F6, F7⟩ := tx_T_f hT
  have hL := hM.1.2.1
  obtain ⟨r0, y1, a1, a2, a3, a4⟩ := tm_other (lo := 0) (hi := 3) (s := 0) hM.1 hK hT (by omega) (by omega) (by omega)
  obtain ⟨s1, d1, d2, d3, d4⟩ := ty_field_5_0 hY.2.1 hu hT h0
  rw [ty_ls_go (m := 3) (by omega) rfl (by omega) (by omega) h0 d1]
  unfold f_M_readMore
  rw [if_neg (show ¬ nI 5 = (4 : Int32) by decide), if_pos (show nI 5 = (5 : Int32) from rfl), hM.2.2.2.2.2.2.1, show (81 : Int32) = nI 81 from rfl, show (3 : Int32) * nI R = nI (3 * R) from pk_mul 3 R, nI_add, z_let_e, show f_M_other (0 : Int32) (3 : Int32) (0 : Int32) y = some (nI r0, y1) from a1, z_bs, if_pos ((z_ibn (by omega)).mpr (by omega)), nI_clamp (by omega)]
  dsimp only
  rw [z_let_e, if_pos ((z_ibn (by omega)).mpr (by omega))]
  by_cases q0 : tx_q k 0 3 0 v = 0
  · obtain ⟨hr, f1, e1, k1, v1, T1, K1⟩ := a4 q0
    obtain ⟨qk, qlo, qhi, -⟩ := tx_q_0 q0
    obtain ⟨z0, z1, z2, z3⟩ := d4 q0
    have hY1 := tx_SY_fr hY d2
    obtain ⟨G1, G2, G3, G4, G5, G6, G7⟩ := tx_T_f T1
    have M1 := tx_SM_p (i := 81 + 3 * R) (v := v) (tx_SM_fr hM a2)
    have h2v : 2 ^ v < 2 ^ 32 := Nat.pow_lt_pow_right (by omega) (by omega)
    obtain ⟨r1, y2, b1, b2, b3, b4⟩ := tm_other (lo := 0) (hi := 4) (s := 2 ^ v) M1.1 (tk_93 K1) T1 (by omega) (by omega) h2v
    obtain ⟨s2, g1, g2, g3, g4⟩ := ty_field_5_1 (a := v) hY1.2.1 z3 T1 z0 z1 qhi
    rw [hr, hg_u_s, show ((1 : Int32) <<< (nI v &&& 31)) = nI (2 ^ v) from z_shl (by omega), show f_M_other (0 : Int32) (4 : Int32) (nI (2 ^ v)) (z_u y1 93 (81 + 3 * R) (nI v)) = some (nI r1, y2) from b1, z_bs, show nI (81 + 3 * R) + (1 : Int32) = nI (82 + 3 * R) by rw [nl1, nI_add, show 81 + 3 * R + 1 = 82 + 3 * R by omega], if_pos ((z_ibn (by omega)).mpr (by omega)), nI_clamp (by omega)]
    dsimp only
    rw [z_let_e, ty_ls_go (m := 3) (by omega) rfl (by omega) (by omega) z0 g1]
    by_cases q1 : tx_q k1 0 4 (2 ^ v) v1 = 0
    · obtain ⟨hr1, f2, e2, k2, v2, T2, K2⟩ := b4 q1
      obtain ⟨wk, wlo, whi, -⟩ := tx_q_0 q1
      obtain ⟨w0, w1, w2, w3⟩ := g4 q1
      have hY2 := tx_SY_fr hY1 g2
      have M2 := tx_SM_p (i := 82 + 3 * R) (v := v1) (tx_SM_fr M1 b2)
      obtain ⟨J1, J2, J3, J4, J5, J6, J7⟩ := tx_T_f T2
      obtain ⟨r2, y3, m1, m2, m3, m4⟩ := tm_other (lo := 1) (hi := 4) (s := 0) M2.1 (tk_93 K2) T2 (by omega) (by omega) (by omega)
      obtain ⟨s3, i1, i2, i3, i4⟩ := ty_field_5_2 hY2.2.1 w3 T2 w0
      rw [hr1, show f_M_other (1 : Int32) (4 : Int32) (0 : Int32) (z_u y2 93 (82 + 3 * R) (nI v1)) = some (nI r2, y3) from m1, z_bs, show nI (81 + 3 * R) + (2 : Int32) = nI (83 + 3 * R) by rw [show (2 : Int32) = nI 2 from rfl, nI_add, show 81 + 3 * R + 2 = 83 + 3 * R by omega], if_pos ((z_ibn (by omega)).mpr (by omega)), nI_clamp (by omega)]
      dsimp only
      rw [z_let_e, z_let_e, z_bs, ty_ls_go (m := 3) (by omega) rfl (by omega) (by omega) w0 i1]
      by_cases q2 : tx_q k2 1 4 0 v2 = 0
      · obtain ⟨hr2, f3, e3, k3, v3, T3, K3⟩ := m4 q2
        obtain ⟨xk, xlo, xhi, -⟩ := tx_q_0 q2
        obtain ⟨x0, x1, x2, x3⟩ := i4 q2
        have hY3 := tx_SY_fr hY2 i2
        have M3 := tx_SM_p (i := 83 + 3 * R) (v := v2) (tx_SM_fr M2 m2)
        rw [hr2, M3.2.2.2.2.2.2.1, nl1, nI_add]
        refine tx_tail (m' := 3) (by omega) rfl (by omega) hY3.2.1 x0 x3 (by omega) T3 (tk_90 (tk_93 K3) (by omega)) (tx_SP_R hP hR5 qhi whi xlo xhi) (tx_SM_R M3) (tyF_t (tyF_t (tyF_fr d2) (tyF_fr g2)) (tyF_fr i2)) (tmF_u90 (tmF_u93 (tmF_t (tmF_u93 (tmF_t (tmF_u93 (tmF_fr a2)) (tmF_fr b2))) (tmF_fr m2))) (by omega)) (fun s9 h9 h9q => ?_)
        have hY9 := tx_SY_c hY3 (fun q _ _ _ => h9q q (by omega)) (by rw [h9q 37 (by omega)])
        obtain ⟨w9, hw9⟩ := ty_take_5 (s9 := s9) (v := v) (a := v1) (d := v2) (R := R) (by rw [h9q 39 (by omega), x2 0 (by omega), w2 0 (by omega)]; exact z1) (by rw [h9q 39 (by omega), x2 1 (by omega)]; exact w1) (by rw [h9q 39 (by omega)]; exact x1) hY9.1.2.2.1 hR5
        refine ⟨_, hw9, ?_, ?_, ?_, ?_⟩
        · rw [hg_u_n (by omega), hg_u_n (by omega), hg_u_n (by omega), hg_u_n (by omega), hg_u_n (by omega)]
        · rw [hg_u_n (by omega), hg_u_n (by omega), hg_u_n (by omega), hg_u_n (by omega), hg_u_n (by omega)]
        · obtain ⟨j1, j2, j3, j4, j5, j6⟩ := hY9
          have hY10 : tx_SY (z_u s9 38 5 w9) b L W H R p t (tx_b o 0) (tx_b o 7) n := ⟨hg_G17_c j1 (fun q _ _ => hg_u_n (by omega)), tx_Y_c j2 (hg_u_n (by omega)) (hg_u_n (by omega)), by rw [hg_u_n (by omega)]; exact j3, by rw [hg_u_j (by omega)]; exact j4, by rw [hg_u_j (by omega)]; exact j5, fun j hj => by rw [hg_u_j (by unfold tx_J at hj; omega)]; exact j6 j hj⟩
          exact tx_SY_G hY10 (gs_rule_17 hR5 hY10.1) (fun q hq => by rw [hg_u_n (by omega), hg_u_n (by omega), hg_u_n (by omega), hg_u_n (by omega)])
        · exact tyF_u (tyF_u (tyF_u (tyF_u (tyF_u (tyF_r s9) (by omega)) (by omega)) (by omega)) (by omega)) (by omega)
      · exact tx_bad (m' := 3) (by omega) rfl (by omega) (by omega) (i3 q2) (tm_bk_90 (tm_bk_93 (m3 q2).2) (by omega)) (tyF_t (tyF_t (tyF_fr d2) (tyF_fr g2)) (tyF_fr i2)) (tmF_u90 (tmF_u93 (tmF_t (tmF_u93 (tmF_t (tmF_u93 (tmF_fr a2)) (tmF_fr b2))) (tmF_fr m2))) (by omega))
    · rw [tm_otherK (tm_bk_93 (b3 q1).2), z_bs, show nI (81 + 3 * R) + (2 : Int32) = nI (83 + 3 * R) by rw [show (2 : Int32) = nI 2 from rfl, nI_add, show 81 + 3 * R + 2 = 83 + 3 * R by omega], if_pos ((z_ibn (by omega)).mpr (by omega)), nI_clamp (by omega)]
      dsimp only
      rw [z_let_e, z_let_e, z_bs]
      exact tx_bad (m' := 3) (by omega) rfl (by omega) (by omega) (g3 q1) (tm_bk_90 (tm_bk_93 (tm_bk_93 (b3 q1).2)) (by omega)) (tyF_t (tyF_fr d2) (tyF_fr g2)) (tmF_u90 (tmF_u93 (tmF_u93 (tmF_t (tmF_u93 (tmF_fr a2)) (tmF_fr b2)))) (by omega))
  · rw [tm_otherK (tm_bk_93 (a3 q0).2), z_bs, show nI (81 + 3 * R) + (1 : Int32) = nI (82 + 3 * R) by rw [nl1, nI_add, show 81 + 3 * R + 1 = 82 + 3 * R by omega], if_pos ((z_ibn (by omega)).mpr (by omega)), nI_clamp (by omega)]
    dsimp only
    rw [z_let_e, tm_otherK (tm_bk_93 (tm_bk_93 (a3 q0).2)), z_bs, show nI (81 + 3 * R) + (2 : Int32) = nI (83 + 3 * R) by rw [show (2 : Int32) = nI 2 from rfl, nI_add, show 81 + 3 * R + 2 = 83 + 3 * R by omega], if_pos ((z_ibn (by omega)).mpr (by omega)), nI_clamp (by omega)]
    dsimp only
    rw [z_let_e, z_let_e, z_bs]
    exact tx_bad (m' := 3) (by omega) rfl (by omega) (by omega) (d3 q0) (tm_bk_90 (tm_bk_93 (tm_bk_93 (tm_bk_93 (a3 q0).2))) (by omega)) (tyF_fr d2) (tmF_u90 (tmF_u93 (tmF_u93 (tmF_u93 (tmF_fr a2)))) (by omega))
theorem tx_l_2 {x y : zS} {u f e k v : Nat} (hP : tx_SP W H R p t o m) (hY : tx_SY x b L W H R p t (tx_b o 0) (tx_b o 7) n) (h0 : x 37 6 = nI 0) (hu : x 40 4 = nI u) (hM : tx_SM y b L W H R p t o m) (hT : tx_T b L u f e k v) (hK : tx_tk y f e k v) : ∃ g x' z, (z_loop (ty_ls 2) (nI 0, x)).bind (ty_lc 2) = some (g, x') ∧ (f_M_readCell (nI 2) y).bind tm_fc = some z ∧ tyF x x' ∧ tmF y z ∧ tx_O b L n u x' z g := by
  obtain ⟨P1, P2, P3, P4, P5, P6, P7, P8, P9, P10⟩ := id hP
  obtain ⟨D1, D2, D3, D4, D5⟩ := id P1
  obtain ⟨F1, F2, F3, F4, F5, F6, F7⟩ := tx_T_f hT
  have hL := hM.1.2.1
  have hJ : tx_J 2 := by unfold tx_J; omega
  obtain ⟨r0, y1, a1, a2, a3, a4⟩ := tm_fresh (l := 2) (hi := 15) hJ hP hM hK hT (by omega)
  obtain ⟨s1, d1, d2, d3, d4⟩ := ty_field_2_0 hY.2.1 hu hT h0 (hY.2.2.2.2.2 2 hJ) (P6 2 hJ)
  rw [ty_ls_go (m := 2) (by omega) rfl (by omega) (by omega) h0 d1]
  unfold f_M_readCell
  rw [show (15 : Int32) = nI 15 from rfl, a1, z_bs]
  dsimp only
  rw [if_neg (show ¬ nI 2 = (1 : Int32) by decide), if_neg (show ¬ nI 2 = (3 : Int32) by decide), show (5 : Int32) = nI 5 from rfl, show (2 : Int32) = nI 2 from rfl, pk_mul, nI_add]
  have hM1 : tx_M y1 b L := tx_M_c hM.1 (a2.2 13 (by omega)) (a2.1 95 (by omega) (by omega) (by omega)) (a2.1 96 (by omega) (by omega) (by omega)) (a2.1 97 (by omega) (by omega) (by omega))
  by_cases q0 : tx_q k 0 15 (t 2) v = 0
  · obtain ⟨hr, M1, f1, e1, k1, v1, T1, K1⟩ := a4 q0
    obtain ⟨qk, qlo, qhi, qt⟩ := tx_q_0 q0
    obtain ⟨z0, z1, z2, z3⟩ := d4 q0
    have hY1 := tx_SY_fr hY d2
    obtain ⟨G1, G2, G3, G4, G5, G6, G7⟩ := tx_T_f T1
    obtain ⟨n1, hN⟩ := tx_N_ex b f1 e1 k1
    have hn1 := tx_N_le hN
    obtain ⟨s2, g1, g2, g3, g4⟩ := ty_crop hY1.2.1 z3 T1 hN z0
    obtain ⟨k1a, k1b, k1c, k1d⟩ := id K1
    rw [hr, ty_ls_go (m := 2) (by omega) rfl (by omega) (by omega) z0 g1]
    by_cases c4 : k1 = 4
    · have hn13 : n1 = 13 := by
        rcases hN with ⟨u1, u2, u3⟩ | ⟨u1, u2⟩ <;> omega
      obtain ⟨kb1, kb2, k', kk1, kk2, kk3⟩ := k1c c4
      have hN' : tx_N b f1 e1 k' 13 := Or.inr ⟨rfl, fun z => by omega⟩
      have hb : tm_bk y1 (if k1 = 4 then 1 else 2) f1 := ⟨by rw [if_pos c4]; omega, by rw [if_pos c4]; omega, by omega, by rw [if_pos c4]; exact kb1, kb2⟩
      rw [tm_name hM1 kk3 k1a k1b (by omega) G2 G3 hN', z_bs, hg_join_to (x := y1) (fun j => by rw [if_neg (show ¬ y1 90 15 = 0 by rw [kb1]; decide)]), if_pos ((z_ibn (by omega)).mpr (by omega)), nI_clamp (by omega), z_let_e, tm_stepB (w := 1) (by rw [hg_u_n (by omega)]; exact kb1) (by omega) (by omega), z_bs, z_bs]
      exact tx_bad (m' := 2) (by omega) rfl (by omega) (by omega) (g3 (by omega)) (tm_bk_93 hb) (tyF_t (tyF_fr d2) (tyF_fr g2)) (tmF_u93 a2)
    · obtain ⟨kb1, kb2, kb3⟩ := k1d c4
      rw [tm_name hM1 kb2 k1a k1b (by omega) G2 G3 hN, z_bs]
      by_cases cn : 8 ≤ n1 ∧ n1 < 13
      · obtain ⟨w0, w1, w2, w3⟩ := g4 cn
        have hY2 := tx_SY_fr hY1 g2
        obtain ⟨f2, e2, k2, v2, T2⟩ := tx_T_ex (b := b) G3
        have M2 := tx_SM_p (i := 5 * v + 2) (v := n1 - 7) M1
        obtain ⟨y2, m1, m2, m3⟩ := tm_step (t := e1) M2.1 (by rw [hg_u_n (by omega)]; exact k1b) (by rw [hg_u_n (by omega)]; exact kb1) T2
        rw [if_pos cn.2, show (8 : Int32) = nI 8 from rfl, pk_sub cn.1, hg_join_to (x := y1) (fun j => by rw [if_pos (show y1 90 15 = 0 from kb1), if_pos (show (0 : Int32) ≤ nI (n1 - 8) from nI_le (a := 0) (by omega) (by omega))]), if_pos ((z_ibn (by omega)).mpr (by omega)), nI_clamp (by omega), nl1, nI_add, show n1 - 8 + 1 = n1 - 7 by omega, z_let_e, m1, z_bs, z_bs]
        have hPt := tx_SP_t hP (l := 2) (v := v) (by omega) qhi
        have hPp := tx_SP_p hPt (hg_V_crop (c := v) (k := n1 - 7) D5 P2 (by omega) (by omega)) (by omega) (by intros; omega) (by omega)
        have hst := hPp.2.2.2.1 v (by omega)
        have hee : ∀ q, g_up (g_up p (5 * v + 2) (n1 - 7)) (5 * v + 3) 0 q = g_up p (5 * v + 2) (n1 - 7) q := fun q => by
          by_cases z : q = 5 * v + 3
          · rw [z, g_up_s, hst]
          · rw [g_up_n z]
        refine tx_tail (m' := 2) (by omega) rfl (by omega) hY2.2.1 w0 w3 (by omega) T2 m2 hPp (tx_SM_fr M2 m3) (tyF_t (tyF_fr d2) (tyF_fr g2)) (tmF_t (tmF_u93 a2) (tmF_fr m3)) (fun s9 h9 h9q => ?_)
        have hY9 := tx_SY_c hY2 (fun q _ _ _ => h9q q (by omega)) (by rw [h9q 37 (by omega)])
        refine ⟨_, ty_take_2 (c := v) (a := n1 - 8) (z := t 2) (by omega) (hY9.2.2.2.2.2 2 hJ) (by rw [h9q 39 (by omega), w2 0 (by omega)]; exact z1) (by rw [h9q 39 (by omega)]; exact w1), ?_, ?_, ?_, ?_⟩
        · rw [hg_u_n (by omega), hg_u_n (by omega), hg_u_n (by omega)]
        · rw [hg_u_n (by omega), hg_u_n (by omega), hg_u_n (by omega)]
        · have hY10 := tx_SY_t (l := 2) (w := t 2 ||| 2 ^ v) hY9 hJ
          have hG := gs_crop_17 (c := v) (k := n1 - 7) D5 hY10.1 (by omega)
          rw [if_neg (show ¬ n1 - 7 = 0 by omega), show n1 - 7 - 1 = n1 - 8 by omega, funext hee] at hG
          exact tx_SY_G hY10 hG (fun q hq => by rw [hg_u_n (by omega), hg_u_n (by omega)])
        · exact tyF_u (tyF_u (tyF_u (tyF_r s9) (by omega)) (by omega)) (by omega)
      · have gb := g3 cn
        rw [if_neg c4] at gb
        have hng : ¬ (0 : Int32) ≤ (if n1 < 13 then nI n1 else -4) - 8 := by
          by_cases z : n1 < 13
          · rw [if_pos z]
            have : ∀ i, i < 8 → ¬ (0 : Int32) ≤ nI i - 8 := by decide
            exact this n1 (by omega)
          · rw [if_neg z]; decide
        generalize (if n1 < 13 then nI n1 else -4) = Z at hng
        have g2' : (z_u (z_u y1 90 15 (2 : Int32)) 90 16 (nI f1)) 90 15 = nI 2 := by rw [hg_u_j (by omega), hg_u_s]; rfl
        have hb : tm_bk (z_u (z_u y1 90 15 (2 : Int32)) 90 16 (nI f1)) 2 f1 := ⟨by omega, by omega, by omega, g2', by rw [hg_u_s]⟩
        rw [hg_join_to (x := z_u (z_u y1 90 15 (2 : Int32)) 90 16 (nI f1)) (fun j => by rw [if_pos (show y1 90 15 = 0 from kb1), if_neg hng, show f_M_fails (nI 2) y1 = some (z_u (z_u y1 90 15 (2 : Int32)) 90 16 (nI f1)) from tm_fails kb1 k1a, z_bs]), if_pos ((z_ibn (by omega)).mpr (by omega)), nI_clamp (by omega), z_let_e, tm_stepB (w := 2) (by rw [hg_u_n (by omega)]; exact g2') (by omega) (by omega), z_bs, z_bs]
        exact tx_bad (m' := 2) (by omega) rfl (by omega) (by omega) gb (tm_bk_93 hb) (tyF_t (tyF_fr d2) (tyF_fr g2)) (tmF_u93 (tmF_t a2 (tmF_fr (tx_fr_u (tx_fr_u (tx_fr_r y1) (by omega) (by omega)) (by omega) (by omega)))))
  · obtain ⟨⟨hr, hj⟩, hb⟩ := a3 q0
    obtain ⟨ka, kb, kc, kd⟩ := id hK
    have hk' : ∃ k', k' ≤ 4 ∧ y 90 19 = nI k' := by
      by_cases c4 : k = 4
      · obtain ⟨-, -, k', u1, u2, u3⟩ := kc c4
        exact ⟨k', by omega, u3⟩
      · exact ⟨k, F4, (kd c4).2.1⟩
    obtain ⟨k', u1, u2⟩ := hk'
    obtain ⟨n1, hN⟩ := tx_N_ex b f e k'
    have hz : ¬ y1 90 15 = 0 := by
      rw [hb.2.2.2.1, nl0, nI_eq (by have := hb.2.1; omega) (by omega)]
      have := hb.1
      omega
    rw [hr, tm_name hM1 (by rw [hj 19 (by omega)]; exact u2) (by rw [hj 18 (by omega)]; exact ka) (by rw [hj 17 (by omega)]; exact kb) u1 F2 F3 hN, z_bs, hg_join_to (x := y1) (fun j => by rw [if_neg hz]), if_pos ((z_ibn (by omega)).mpr (by omega)), nI_clamp (by omega), z_let_e, tm_stepB (w := tx_q k 0 15 (t 2) v) (by rw [hg_u_n (by omega)]; exact hb.2.2.2.1) q0 (by have := hb.2.1; omega), z_bs, z_bs]
    exact tx_bad (m' := 2) (by omega) rfl (by omega) (by omega) (d3 q0) (tm_bk_93 hb) (tyF_fr d2) (tmF_u93 a2)
end SL3
