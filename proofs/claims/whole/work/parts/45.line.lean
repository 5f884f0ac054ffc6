/-! the text: the lines -/
section SL
variable {b : Nat → Nat} {L W H R : Nat} {p t : Nat → Nat} {o m c0 c7 n : Nat}
theorem tx_SY_G {s s' : zS} {W' H' R' : Nat} {p' : Nat → Nat} (h : tx_SY s b L W H R p t c0 c7 n) (hG : hg_G17 s' p' W' H' R') (e : ∀ q, (q < 17 ∨ 30 < q) → s' q = s q) : tx_SY s' b L W' H' R' p' t c0 c7 n := by
  obtain ⟨h1, h2, h3, h4, h5, h6⟩ := h
  refine ⟨hG, tx_Y_c h2 (e 35 (by omega)) (e 36 (by omega)), by rw [e 37 (by omega)]; exact h3, by rw [e 38 (by omega)]; exact h4, by rw [e 38 (by omega)]; exact h5, fun j hj => by rw [e 38 (by omega)]; exact h6 j hj⟩
theorem tx_SY_t {s : zS} {l w : Nat} (h : tx_SY s b L W H R p t c0 c7 n) (hl : tx_J l) : tx_SY (z_u s 38 l (nI w)) b L W H R p (g_up t l w) c0 c7 n := by
  obtain ⟨h1, h2, h3, h4, h5, h6⟩ := h
  unfold tx_J at hl
  refine ⟨hg_G17_c h1 (fun q _ _ => hg_u_n (by omega)), tx_Y_c h2 (hg_u_n (by omega)) (hg_u_n (by omega)), by rw [hg_u_n (by omega)]; exact h3, by rw [hg_u_j (by omega)]; exact h4, by rw [hg_u_j (by omega)]; exact h5, fun j hj => ?_⟩
  by_cases z : j = l
  · rw [z, hg_u_s, g_up_s]
  · rw [hg_u_j z, g_up_n z]; exact h6 j hj
theorem tx_SP_p {i v : Nat} (h : tx_SP W H R p t o m) (hV : hg_V (g_up p i v) R) (hi : i < 105) (hs : ∀ c, c < 16 → 5 * c + 3 ≠ i) (h8 : i ≠ 80) : tx_SP W H R (g_up p i v) t o m := by
  obtain ⟨P1, P2, P3, P4, P5, P6, P7, P8, P9, P10⟩ := h
  exact ⟨P1, hV, hg_B_up hi P3, fun c hc => by rw [g_up_n (hs c hc)]; exact P4 c hc, P5, P6, by rw [g_up_n (by omega)]; exact P7, P8, P9, P10⟩
theorem tyF_u {x s : zS} {k j : Nat} {v : Int32} (h : tyF x s) (hk : (17 ≤ k ∧ k ≤ 30) ∨ k = 37 ∨ k = 38 ∨ k = 39 ∨ k = 40) : tyF x (z_u s k j v) := fun q a c d e f => by rw [hg_u_n (by omega)]; exact h q a c d e f
theorem hg_V_crop {R c k : Nat} {p : Nat → Nat} (hR : R ≤ 5) (hV : hg_V p R) (hc : c < 16) (hk : k ≤ 5) : hg_V (g_up p (5 * c + 2) k) R :=
  (hg_V_up hR hV (by intros; omega) (by intros; omega) (by intros; omega) (by intros; omega) (by intros; omega) (by intros; omega) (by intros; omega) (by intros; omega) (by intros; omega) (by intros; omega) (by intros; omega) (by intros; omega))
theorem hg_V_own {R c k : Nat} {p : Nat → Nat} (hR : R ≤ 5) (hV : hg_V p R) (hc : c < 16) (hk : k ≤ 2) : hg_V (g_up p (5 * c + 4) k) R :=
  (hg_V_up hR hV (by intros; omega) (by intros; omega) (by intros; omega) (by intros; omega) (by intros; omega) (by intros; omega) (by intros; omega) (by intros; omega) (by intros; omega) (by intros; omega) (by intros; omega) (by intros; omega))
theorem hg_V_stk {R s k : Nat} {p : Nat → Nat} (hR : R ≤ 5) (hV : hg_V p R) (hc : s < 4) (hk : k ≤ 99) : hg_V (g_up p (96 + 2 * s) k) R :=
  (hg_V_up hR hV (by intros; omega) (by intros; omega) (by intros; omega) (by intros; omega) (by intros; omega) (by intros; omega) (by intros; omega) (by intros; omega) (by intros; omega) (by intros; omega) (by intros; omega) (by intros; omega))
theorem hg_V_prc {R s k : Nat} {p : Nat → Nat} (hR : R ≤ 5) (hV : hg_V p R) (hc : s < 4) (hk : k ≤ 8) : hg_V (g_up p (97 + 2 * s) k) R :=
  (hg_V_up hR hV (by intros; omega) (by intros; omega) (by intros; omega) (by intros; omega) (by intros; omega) (by intros; omega) (by intros; omega) (by intros; omega) (by intros; omega) (by intros; omega) (by intros; omega) (by intros; omega))
theorem hg_V_pur {R k : Nat} {p : Nat → Nat} (hR : R ≤ 5) (hV : hg_V p R) (hk : k ≤ 99) : hg_V (g_up p 104 k) R :=
  (hg_V_up hR hV (by intros; omega) (by intros; omega) (by intros; omega) (by intros; omega) (by intros; omega) (by intros; omega) (by intros; omega) (by intros; omega) (by intros; omega) (by intros; omega) (by intros; omega) (by intros; omega))
theorem ty_take_1 {s9 : zS} {c z a d : Nat} (hc : c < 16) (hz : s9 38 1 = nI z) (h0 : s9 39 0 = nI c) (h1 : s9 39 1 = nI a) (h2 : s9 39 2 = nI d) : f_Tr_take_37 (nI 1) s9 = some (z_u (z_u (z_u s9 38 1 (nI (z ||| 2 ^ c))) 18 c (nI a)) 19 c (nI d)) := by
  unfold f_Tr_take_37
  rw [hg_join_to (x := s9 39 (0 : Int32).toNatClampNeg) (fun j => by rfl), show f_Y_isIn (nI 1) (0 : Int32) (7 : Int32) s9 = some (nI 1) from by rw [y_isIn]; rfl, z_bs, z_join_e, if_neg (show ¬ nI 1 = 0 by decide), if_pos (show z_ib (nI 1) 8 = true by decide), if_pos (show z_ib (nI 1) 8 = true by decide), z_let_e]
  dsimp only
  rw [if_neg (show ¬ nI 1 = (0 : Int32) by decide), if_pos (show nI 1 = (1 : Int32) from rfl), show (0 : Int32).toNatClampNeg = 0 from rfl, h0, show (nI 1).toNatClampNeg = 1 from rfl, hz, show ((1 : Int32) <<< (nI c &&& 31)) = nI (2 ^ c) from z_shl (by omega), z_or]
  rw [show (1 : Int32).toNatClampNeg = 1 from rfl, hg_u_n (show (39 : Nat) ≠ 38 by omega), h1]
  rw [show (2 : Int32).toNatClampNeg = 2 from rfl, h2]
  unfold f_G_set_17
  rw [show f_Y_isIn (nI c) (0 : Int32) (15 : Int32) (z_u s9 38 1 (nI (z ||| 2 ^ c))) = some (nI 1) from by rw [show (0 : Int32) = nI 0 from rfl, show (15 : Int32) = nI 15 from rfl, ty_isIn (by omega) (by omega) (by omega), if_pos (by omega)], z_bs, if_neg (show ¬ nI 1 = 0 by decide), if_pos ((z_ibn (by omega)).mpr hc), z_let_e, if_pos ((z_ibn (by omega)).mpr hc), z_let_e, nI_clamp (by omega), z_bs]
theorem ty_take_2 {s9 : zS} {c z a : Nat} (hc : c < 16) (hz : s9 38 2 = nI z) (h0 : s9 39 0 = nI c) (h1 : s9 39 1 = nI a) : f_Tr_take_37 (nI 2) s9 = some (z_u (z_u (z_u s9 38 2 (nI (z ||| 2 ^ c))) 20 c (nI a)) 21 c 0) := by
  unfold f_Tr_take_37
  rw [hg_join_to (x := s9 39 (0 : Int32).toNatClampNeg) (fun j => by rfl), show f_Y_isIn (nI 2) (0 : Int32) (7 : Int32) s9 = some (nI 1) from by rw [y_isIn]; rfl, z_bs, z_join_e, if_neg (show ¬ nI 1 = 0 by decide), if_pos (show z_ib (nI 2) 8 = true by decide), if_pos (show z_ib (nI 2) 8 = true by decide), z_let_e]
  dsimp only
  rw [if_neg (show ¬ nI 2 = (0 : Int32) by decide), if_neg (show ¬ nI 2 = (1 : Int32) by decide), if_pos (show nI 2 = (2 : Int32) from rfl), show (0 : Int32).toNatClampNeg = 0 from rfl, h0, show (nI 2).toNatClampNeg = 2 from rfl, hz, show ((1 : Int32) <<< (nI c &&& 31)) = nI (2 ^ c) from z_shl (by omega), z_or]
  rw [show (1 : Int32).toNatClampNeg = 1 from rfl, hg_u_n (show (39 : Nat) ≠ 38 by omega), h1]
  unfold f_G_setCrop_17
  rw [show f_Y_isIn (nI c) (0 : Int32) (15 : Int32) (z_u s9 38 2 (nI (z ||| 2 ^ c))) = some (nI 1) from by rw [show (0 : Int32) = nI 0 from rfl, show (15 : Int32) = nI 15 from rfl, ty_isIn (by omega) (by omega) (by omega), if_pos (by omega)], z_bs, if_neg (show ¬ nI 1 = 0 by decide), if_pos ((z_ibn (by omega)).mpr hc), z_let_e, if_pos ((z_ibn (by omega)).mpr hc), z_let_e, nI_clamp (by omega), z_bs]
theorem ty_take_3 {s9 : zS} {c z a : Nat} (hc : c < 16) (hz : s9 38 3 = nI z) (h0 : s9 39 0 = nI c) (h1 : s9 39 1 = nI a) : f_Tr_take_37 (nI 3) s9 = some (z_u (z_u s9 38 3 (nI (z ||| 2 ^ c))) 22 c (nI a)) := by
  unfold f_Tr_take_37
  rw [hg_join_to (x := s9 39 (0 : Int32).toNatClampNeg) (fun j => by rfl), show f_Y_isIn (nI 3) (0 : Int32) (7 : Int32) s9 = some (nI 1) from by rw [y_isIn]; rfl, z_bs, z_join_e, if_neg (show ¬ nI 1 = 0 by decide), if_pos (show z_ib (nI 3) 8 = true by decide), if_pos (show z_ib (nI 3) 8 = true by decide), z_let_e]
  dsimp only
  rw [if_neg (show ¬ nI 3 = (0 : Int32) by decide), if_neg (show ¬ nI 3 = (1 : Int32) by decide), if_neg (show ¬ nI 3 = (2 : Int32) by decide), if_pos (show nI 3 = (3 : Int32) from rfl), show (0 : Int32).toNatClampNeg = 0 from rfl, h0, show (nI 3).toNatClampNeg = 3 from rfl, hz, show ((1 : Int32) <<< (nI c &&& 31)) = nI (2 ^ c) from z_shl (by omega), z_or]
  rw [show (1 : Int32).toNatClampNeg = 1 from rfl, hg_u_n (show (39 : Nat) ≠ 38 by omega), h1]
  unfold f_G_setOwner_17
  rw [show f_Y_isIn (nI c) (0 : Int32) (15 : Int32) (z_u s9 38 3 (nI (z ||| 2 ^ c))) = some (nI 1) from by rw [show (0 : Int32) = nI 0 from rfl, show (15 : Int32) = nI 15 from rfl, ty_isIn (by omega) (by omega) (by omega), if_pos (by omega)], z_bs, if_neg (show ¬ nI 1 = 0 by decide), if_pos ((z_ibn (by omega)).mpr hc), z_let_e, nI_clamp (by omega), z_bs]
theorem ty_take_4 {s9 : zS} {c z q7 : Nat} (hc : c < 32) (hz : s9 38 4 = nI z) (h0 : s9 39 0 = nI c) (h7 : s9 17 7 = nI q7) : f_Tr_take_37 (nI 4) s9 = some (z_u (z_u s9 38 4 (nI (z ||| 2 ^ c))) 17 7 (nI (q7 ||| 2 ^ c))) := by
  unfold f_Tr_take_37
  rw [hg_join_to (x := s9 39 (0 : Int32).toNatClampNeg) (fun j => by rfl), show f_Y_isIn (nI 4) (0 : Int32) (7 : Int32) s9 = some (nI 1) from by rw [y_isIn]; rfl, z_bs, z_join_e, if_neg (show ¬ nI 1 = 0 by decide), if_pos (show z_ib (nI 4) 8 = true by decide), if_pos (show z_ib (nI 4) 8 = true by decide), z_let_e]
  dsimp only
  rw [if_neg (show ¬ nI 4 = (0 : Int32) by decide), if_neg (show ¬ nI 4 = (1 : Int32) by decide), if_neg (show ¬ nI 4 = (2 : Int32) by decide), if_neg (show ¬ nI 4 = (3 : Int32) by decide), if_pos (show nI 4 = (4 : Int32) from rfl), show (0 : Int32).toNatClampNeg = 0 from rfl, h0, show (nI 4).toNatClampNeg = 4 from rfl, hz, show ((1 : Int32) <<< (nI c &&& 31)) = nI (2 ^ c) from z_shl (by omega), z_or]
  rw [show f_G_setWall_17 (nI c) (1 : Int32) (z_u s9 38 4 (nI (z ||| 2 ^ c))) = _ from yy_setWall1_17 (w := q7) (by rw [hg_u_n (by omega)]; exact h7) hc, z_bs]
theorem ty_take_6 {s9 : zS} {c z a d : Nat} (hc : c < 4) (hz : s9 38 6 = nI z) (h0 : s9 39 0 = nI c) (h1 : s9 39 1 = nI a) (h2 : s9 39 2 = nI d) : f_Tr_take_37 (nI 6) s9 = some (z_u (z_u (z_u s9 38 6 (nI (z ||| 2 ^ c))) 28 c (nI a)) 29 c (nI d)) := by
  unfold f_Tr_take_37
  rw [hg_join_to (x := s9 39 (0 : Int32).toNatClampNeg) (fun j => by rfl), show f_Y_isIn (nI 6) (0 : Int32) (7 : Int32) s9 = some (nI 1) from by rw [y_isIn]; rfl, z_bs, z_join_e, if_neg (show ¬ nI 1 = 0 by decide), if_pos (show z_ib (nI 6) 8 = true by decide), if_pos (show z_ib (nI 6) 8 = true by decide), z_let_e]
  dsimp only
  rw [if_neg (show ¬ nI 6 = (0 : Int32) by decide), if_neg (show ¬ nI 6 = (1 : Int32) by decide), if_neg (show ¬ nI 6 = (2 : Int32) by decide), if_neg (show ¬ nI 6 = (3 : Int32) by decide), if_neg (show ¬ nI 6 = (4 : Int32) by decide), if_neg (show ¬ nI 6 = (5 : Int32) by decide), if_pos (show nI 6 = (6 : Int32) from rfl), show (0 : Int32).toNatClampNeg = 0 from rfl, h0, show (nI 6).toNatClampNeg = 6 from rfl, hz, show ((1 : Int32) <<< (nI c &&& 31)) = nI (2 ^ c) from z_shl (by omega), z_or]
  rw [show (1 : Int32).toNatClampNeg = 1 from rfl, hg_u_n (show (39 : Nat) ≠ 38 by omega), h1]
  rw [show (2 : Int32).toNatClampNeg = 2 from rfl, h2]
  unfold f_Sp_offer_27 f_Y_isSeason
  rw [show f_Y_isIn (nI c) (0 : Int32) (3 : Int32) (z_u s9 38 6 (nI (z ||| 2 ^ c))) = some (nI 1) from by rw [show (0 : Int32) = nI 0 from rfl, show (3 : Int32) = nI 3 from rfl, ty_isIn (by omega) (by omega) (by omega), if_pos (by omega)], z_bs, if_pos (show nI 1 = 0 ∨ nI 1 = 1 from Or.inr rfl), z_bs, if_neg (show ¬ nI 1 = 0 by decide), if_pos ((z_ibn (by omega)).mpr hc), z_let_e, if_pos ((z_ibn (by omega)).mpr hc), z_let_e, nI_clamp (by omega), z_bs]
theorem tx_l_3 {x y : zS} {u f e k v : Nat} (hP : tx_SP W H R p t o m) (hY : tx_SY x b L W H R p t (tx_b o 0) (tx_b o 7) n) (h0 : x 37 6 = nI 0) (hu : x 40 4 = nI u) (hM : tx_SM y b L W H R p t o m) (hT : tx_T b L u f e k v) (hK : tx_tk y f e k v) : ∃ g x' z, (z_loop (ty_ls 3) (nI 0, x)).bind (ty_lc 3) = some (g, x') ∧ (f_M_readCell (nI 3) y).bind tm_fc = some z ∧ tyF x x' ∧ tmF y z ∧ tx_O b L n u x' z g := by
  obtain ⟨P1, P2, P3, P4, P5, P6, P7, P8, P9, P10⟩ := id hP
  obtain ⟨D1, D2, D3, D4, D5⟩ := id P1
  obtain ⟨F1, F2, F3, F4, F5, F6, F7⟩ := tx_T_f hT
  have hL := hM.1.2.1
  have hJ : tx_J 3 := by unfold tx_J; omega
  obtain ⟨r0, y1, a1, a2, a3, a4⟩ := tm_fresh (l := 3) (hi := 15) hJ hP hM hK hT (by omega)
  obtain ⟨s1, d1, d2, d3, d4⟩ := ty_field_3_0 hY.2.1 hu hT h0 (hY.2.2.2.2.2 3 hJ) (P6 3 hJ)
  rw [ty_ls_go (m := 2) (by omega) rfl (by omega) (by omega) h0 d1]
  unfold f_M_readCell
  rw [show (15 : Int32) = nI 15 from rfl, a1, z_bs]
  dsimp only
  rw [if_neg (show ¬ nI 3 = (1 : Int32) by decide), if_pos (show nI 3 = (3 : Int32) from rfl), show (5 : Int32) = nI 5 from rfl, show (4 : Int32) = nI 4 from rfl]
  by_cases q0 : tx_q k 0 15 (t 3) v = 0
  · obtain ⟨hr, M1, f1, e1, k1, v1, T1, K1⟩ := a4 q0
    obtain ⟨qk, qlo, qhi, qt⟩ := tx_q_0 q0
    obtain ⟨z0, z1, z2, z3⟩ := d4 q0
    have hY1 := tx_SY_fr hY d2
    obtain ⟨G1, G2, G3, G4, G5, G6, G7⟩ := tx_T_f T1
    obtain ⟨r1, y2, b1, b2, b3, b4⟩ := tm_other (lo := 0) (hi := 2) (s := 0) M1.1 K1 T1 (by omega) (by omega) (by omega)
    obtain ⟨s2, g1, g2, g3, g4⟩ := ty_field_3_1 hY1.2.1 z3 T1 z0
    rw [hr, show f_M_other (0 : Int32) (2 : Int32) (0 : Int32) y1 = some (nI r1, y2) from b1, z_bs, pk_mul, nI_add, if_pos ((z_ibn (by omega)).mpr (by omega)), nI_clamp (by omega)]
    dsimp only
    rw [z_let_e, z_bs, ty_ls_go (m := 2) (by omega) rfl (by omega) (by omega) z0 g1]
    by_cases q1 : tx_q k1 0 2 0 v1 = 0
    · obtain ⟨hr1, f2, e2, k2, v2, T2, K2⟩ := b4 q1
      obtain ⟨wk, wlo, whi, -⟩ := tx_q_0 q1
      obtain ⟨w0, w1, w2, w3⟩ := g4 q1
      have hY2 := tx_SY_fr hY1 g2
      rw [hr1]
      refine tx_tail (m' := 2) (by omega) rfl (by omega) hY2.2.1 w0 w3 (by omega) T2 (tk_93 K2) (tx_SP_p (tx_SP_t hP (by omega) qhi) (hg_V_own D5 P2 (by omega) whi) (by omega) (by intros; omega) (by omega)) (tx_SM_p (tx_SM_fr M1 b2)) (tyF_t (tyF_fr d2) (tyF_fr g2)) (tmF_u93 (tmF_t a2 (tmF_fr b2))) (fun s9 h9 h9q => ?_)
      have hY9 := tx_SY_c hY2 (fun q _ _ _ => h9q q (by omega)) (by rw [h9q 37 (by omega)])
      refine ⟨_, ty_take_3 (c := v) (a := v1) (z := t 3) (by omega) (hY9.2.2.2.2.2 3 hJ) (by rw [h9q 39 (by omega), w2 0 (by omega)]; exact z1) (by rw [h9q 39 (by omega)]; exact w1), ?_, ?_, ?_, ?_⟩
      · rw [hg_u_n (by omega), hg_u_n (by omega)]
      · rw [hg_u_n (by omega), hg_u_n (by omega)]
      · have hY10 := tx_SY_t (l := 3) (w := t 3 ||| 2 ^ v) hY9 hJ
        exact tx_SY_G hY10 (gs_own_17 D5 hY10.1 (by omega)) (fun q hq => by rw [hg_u_n (by omega)])
      · exact tyF_u (tyF_u (tyF_r s9) (by omega)) (by omega)
    · exact tx_bad (m' := 2) (by omega) rfl (by omega) (by omega) (g3 q1) (tm_bk_93 (b3 q1).2) (tyF_t (tyF_fr d2) (tyF_fr g2)) (tmF_u93 (tmF_t a2 (tmF_fr b2)))
  · obtain ⟨⟨hr, hj⟩, hb⟩ := a3 q0
    rw [hr, tm_otherK hb, z_bs, pk_mul, nI_add, if_pos ((z_ibn (by omega)).mpr (by omega)), nI_clamp (by omega)]
    dsimp only
    rw [z_let_e, z_bs]
    exact tx_bad (m' := 2) (by omega) rfl (by omega) (by omega) (d3 q0) (tm_bk_93 hb) (tyF_fr d2) (tmF_u93 a2)
end SL
