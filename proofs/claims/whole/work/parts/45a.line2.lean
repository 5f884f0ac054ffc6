/-! the text: more lines -/
section SL2
variable {b : Nat → Nat} {L W H R : Nat} {p t : Nat → Nat} {o m c0 c7 n : Nat}
theorem tx_mx_n {l v : Nat} (h : ¬ l < 4) : tx_mx l m v = m := if_neg (fun z => h z.1)
theorem tx_SP_4 {v : Nat} (hP : tx_SP W H R p t o m) (hv : v < 32) : tx_SP W H R (g_up p 80 (p 80 ||| 2 ^ v)) (g_up t 4 (t 4 ||| 2 ^ v)) o m := by
  obtain ⟨P1, P2, P3, P4, P5, P6, P7, P8, P9, P10⟩ := hP
  refine ⟨P1, hg_V_wall P1.2.2.2.2 P2 hv, hg_B_up (by omega) P3, fun c hc => by rw [g_up_n (by omega)]; exact P4 c hc, P5, fun j hj => ?_, by rw [g_up_s, g_up_s, P7], P8, ?_, ?_⟩
  · by_cases z : j = 4
    · rw [z, g_up_s]
      exact hg_or_lt (P6 4 (z ▸ hj)) hv
    · rw [g_up_n z]; exact P6 j hj
  · rw [g_up_n (by omega), g_up_n (by omega), g_up_n (by omega)]; exact P9
  · rw [g_up_n (by omega), g_up_n (by omega), g_up_n (by omega)]; exact P10
theorem tx_SP_6 {w : Nat} (hP : tx_SP W H R p t o m) (hw : w < 2 ^ 32) : tx_SP W H R p (g_up t 6 w) o m := by
  obtain ⟨P1, P2, P3, P4, P5, P6, P7, P8, P9, P10⟩ := hP
  refine ⟨P1, P2, P3, P4, P5, fun j hj => ?_, by rw [g_up_n (by omega)]; exact P7, P8, ?_, ?_⟩
  · by_cases z : j = 6
    · rw [z, g_up_s]; exact hw
    · rw [g_up_n z]; exact P6 j hj
  · rw [g_up_n (by omega), g_up_n (by omega), g_up_n (by omega)]; exact P9
  · rw [g_up_n (by omega), g_up_n (by omega), g_up_n (by omega)]; exact P10
theorem tx_l_4 {x y : zS} {u f e k v : Nat} (hP : tx_SP W H R p t o m) (hY : tx_SY x b L W H R p t (tx_b o 0) (tx_b o 7) n) (h0 : x 37 6 = nI 0) (hu : x 40 4 = nI u) (hM : tx_SM y b L W H R p t o m) (hT : tx_T b L u f e k v) (hK : tx_tk y f e k v) : ∃ g x' z, (z_loop (ty_ls 4) (nI 0, x)).bind (ty_lc 4) = some (g, x') ∧ (f_M_readMore (nI 4) y).bind tm_fc = some z ∧ tyF x x' ∧ tmF y z ∧ tx_O b L n u x' z g := by
  obtain ⟨P1, P2, P3, P4, P5, P6, P7, P8, P9, P10⟩ := id hP
  obtain ⟨D1, D2, D3, D4, D5⟩ := id P1
  obtain ⟨F1, F2, F3, F4, F5, F6, F7⟩ := tx_T_f hT
  have hL := hM.1.2.1
  have hJ : tx_J 4 := by unfold tx_J; omega
  obtain ⟨r0, y1, a1, a2, a3, a4⟩ := tm_fresh (l := 4) (hi := 31) hJ hP hM hK hT (by omega)
  obtain ⟨s1, d1, d2, d3, d4⟩ := ty_field_4_0 hY.2.1 hu hT h0 (hY.2.2.2.2.2 4 hJ) (P6 4 hJ)
  rw [ty_ls_go (m := 1) (by omega) rfl (by omega) (by omega) h0 d1]
  unfold f_M_readMore
  rw [if_pos (show nI 4 = (4 : Int32) from rfl), show (31 : Int32) = nI 31 from rfl, a1, z_bs]
  dsimp only
  rw [show (80 : Int32).toNatClampNeg = 80 from rfl, z_let_e, z_bs]
  by_cases q0 : tx_q k 0 31 (t 4) v = 0
  · obtain ⟨hr, M1, f1, e1, k1, v1, T1, K1⟩ := a4 q0
    obtain ⟨qk, qlo, qhi, qt⟩ := tx_q_0 q0
    obtain ⟨z0, z1, z2, z3⟩ := d4 q0
    have hY1 := tx_SY_fr hY d2
    rw [tx_mx_n (by omega)] at M1
    rw [hr, M1.2.2.2.1 80 (by omega), show ((1 : Int32) <<< (nI v &&& nI 31)) = nI (2 ^ v) from z_shl (by omega), z_or]
    refine tx_tail (m' := 1) (by omega) rfl (by omega) hY1.2.1 z0 z3 (by omega) T1 (tk_93 K1) (tx_SP_4 hP (by omega)) (tx_SM_p M1) (tyF_fr d2) (tmF_u93 a2) (fun s9 h9 h9q => ?_)
    have hY9 := tx_SY_c hY1 (fun q _ _ _ => h9q q (by omega)) (by rw [h9q 37 (by omega)])
    refine ⟨_, ty_take_4 (c := v) (q7 := p 80) (z := t 4) (by omega) (hY9.2.2.2.2.2 4 hJ) (by rw [h9q 39 (by omega)]; exact z1) hY9.1.2.2.2.2.2.2.2.2.1, ?_, ?_, ?_, ?_⟩
    · rw [hg_u_n (by omega), hg_u_n (by omega)]
    · rw [hg_u_n (by omega), hg_u_n (by omega)]
    · have hY10 := tx_SY_t (l := 4) (w := t 4 ||| 2 ^ v) hY9 hJ
      exact tx_SY_G hY10 (gs_wall_17 D5 hY10.1) (fun q hq => by rw [hg_u_n (by omega)])
    · exact tyF_u (tyF_u (tyF_r s9) (by omega)) (by omega)
  · obtain ⟨⟨hr, hj⟩, hb⟩ := a3 q0
    exact tx_bad (m' := 1) (by omega) rfl (by omega) (by omega) (d3 q0) (tm_bk_93 hb) (tyF_fr d2) (tmF_u93 a2)
theorem tx_l_1 {x y : zS} {u f e k v : Nat} (hP : tx_SP W H R p t o m) (hY : tx_SY x b L W H R p t (tx_b o 0) (tx_b o 7) n) (h0 : x 37 6 = nI 0) (hu : x 40 4 = nI u) (hM : tx_SM y b L W H R p t o m) (hT : tx_T b L u f e k v) (hK : tx_tk y f e k v) : ∃ g x' z, (z_loop (ty_ls 1) (nI 0, x)).bind (ty_lc 1) = some (g, x') ∧ (f_M_readCell (nI 1) y).bind tm_fc = some z ∧ tyF x x' ∧ tmF y z ∧ tx_O b L n u x' z g := by
  obtain ⟨P1, P2, P3, P4, P5, P6, P7, P8, P9, P10⟩ := id hP
  obtain ⟨D1, D2, D3, D4, D5⟩ := id P1
  obtain ⟨F1, F2, F3, F4, F5, F6, F7⟩ := tx_T_f hT
  have hL := hM.1.2.1
  have hJ : tx_J 1 := by unfold tx_J; omega
  obtain ⟨r0, y1, a1, a2, a3, a4⟩ := tm_fresh (l := 1) (hi := 15) hJ hP hM hK hT (by omega)
  obtain ⟨s1, d1, d2, d3, d4⟩ := ty_field_1_0 hY.2.1 hu hT h0 (hY.2.2.2.2.2 1 hJ) (P6 1 hJ)
  rw [ty_ls_go (m := 3) (by omega) rfl (by omega) (by omega) h0 d1]
  unfold f_M_readCell
  rw [show (15 : Int32) = nI 15 from rfl, a1, z_bs]
  dsimp only
  rw [if_pos (show nI 1 = (1 : Int32) from rfl), show (5 : Int32) = nI 5 from rfl]
  by_cases q0 : tx_q k 0 15 (t 1) v = 0
  · obtain ⟨hr, M1, f1, e1, k1, v1, T1, K1⟩ := a4 q0
    obtain ⟨qk, qlo, qhi, qt⟩ := tx_q_0 q0
    obtain ⟨z0, z1, z2, z3⟩ := d4 q0
    have hY1 := tx_SY_fr hY d2
    obtain ⟨G1, G2, G3, G4, G5, G6, G7⟩ := tx_T_f T1
    obtain ⟨r1, y2, b1, b2, b3, b4⟩ := tm_other (lo := 0) (hi := 3) (s := 0) M1.1 K1 T1 (by omega) (by omega) (by omega)
    obtain ⟨s2, g1, g2, g3, g4⟩ := ty_field_1_1 hY1.2.1 z3 T1 z0
    rw [hr, show f_M_other (0 : Int32) (3 : Int32) (0 : Int32) y1 = some (nI r1, y2) from b1, z_bs, pk_mul, if_pos ((z_ibn (by omega)).mpr (by omega)), nI_clamp (by omega)]
    dsimp only
    rw [z_let_e, ty_ls_go (m := 3) (by omega) rfl (by omega) (by omega) z0 g1]
    by_cases q1 : tx_q k1 0 3 0 v1 = 0
    · obtain ⟨hr1, f2, e2, k2, v2, T2, K2⟩ := b4 q1
      obtain ⟨wk, wlo, whi, -⟩ := tx_q_0 q1
      obtain ⟨w0, w1, w2, w3⟩ := g4 q1
      have hY2 := tx_SY_fr hY1 g2
      have M2 := tx_SM_p (i := 5 * v) (v := v1) (tx_SM_fr M1 b2)
      obtain ⟨J1, J2, J3, J4, J5, J6, J7⟩ := tx_T_f T2
      obtain ⟨r2, y3, m1, m2, m3, m4⟩ := tm_other (lo := 1) (hi := 9) (s := 0) M2.1 (tk_93 K2) T2 (by omega) (by omega) (by omega)
      obtain ⟨s3, i1, i2, i3, i4⟩ := ty_field_1_2 hY2.2.1 w3 T2 w0
      rw [hr1, show f_M_other (1 : Int32) (9 : Int32) (0 : Int32) (z_u y2 93 (5 * v) (nI v1)) = some (nI r2, y3) from m1, z_bs, nl1, nI_add, if_pos ((z_ibn (by omega)).mpr (by omega)), nI_clamp (by omega)]
      dsimp only
      rw [z_let_e, z_bs, ty_ls_go (m := 3) (by omega) rfl (by omega) (by omega) w0 i1]
      by_cases q2 : tx_q k2 1 9 0 v2 = 0
      · obtain ⟨hr2, f3, e3, k3, v3, T3, K3⟩ := m4 q2
        obtain ⟨xk, xlo, xhi, -⟩ := tx_q_0 q2
        obtain ⟨x0, x1, x2, x3⟩ := i4 q2
        have hY3 := tx_SY_fr hY2 i2
        have hPt := tx_SP_t hP (l := 1) (v := v) (by omega) qhi
        rw [hr2]
        refine tx_tail (m' := 3) (by omega) rfl (by omega) hY3.2.1 x0 x3 (by omega) T3 (tk_93 K3) (tx_SP_p (tx_SP_p hPt (hg_V_up D5 P2 (by intros; omega) (by intros; omega) (by intros; omega) (by intros; omega) (by intros; omega) (by intros; omega) (by intros; omega) (by intros; omega) (by intros; omega) (by intros; omega) (by intros; omega) (by intros; omega)) (by omega) (by intros; omega) (by omega)) (hg_V_lay D5 P2 (by omega) whi xhi) (by omega) (by intros; omega) (by omega)) (tx_SM_p (tx_SM_fr M2 m2)) (tyF_t (tyF_t (tyF_fr d2) (tyF_fr g2)) (tyF_fr i2)) (tmF_u93 (tmF_t (tmF_u93 (tmF_t a2 (tmF_fr b2))) (tmF_fr m2))) (fun s9 h9 h9q => ?_)
        have hY9 := tx_SY_c hY3 (fun q _ _ _ => h9q q (by omega)) (by rw [h9q 37 (by omega)])
        refine ⟨_, ty_take_1 (c := v) (a := v1) (d := v2) (z := t 1) (by omega) (hY9.2.2.2.2.2 1 hJ) (by rw [h9q 39 (by omega), x2 0 (by omega), w2 0 (by omega)]; exact z1) (by rw [h9q 39 (by omega), x2 1 (by omega)]; exact w1) (by rw [h9q 39 (by omega)]; exact x1), ?_, ?_, ?_, ?_⟩
        · rw [hg_u_n (by omega), hg_u_n (by omega), hg_u_n (by omega)]
        · rw [hg_u_n (by omega), hg_u_n (by omega), hg_u_n (by omega)]
        · have hY10 := tx_SY_t (l := 1) (w := t 1 ||| 2 ^ v) hY9 hJ
          exact tx_SY_G hY10 (gs_lay_17 D5 hY10.1 (by omega) (by omega)) (fun q hq => by rw [hg_u_n (by omega), hg_u_n (by omega)])
        · exact tyF_u (tyF_u (tyF_u (tyF_r s9) (by omega)) (by omega)) (by omega)
      · exact tx_bad (m' := 3) (by omega) rfl (by omega) (by omega) (i3 q2) (tm_bk_93 (m3 q2).2) (tyF_t (tyF_t (tyF_fr d2) (tyF_fr g2)) (tyF_fr i2)) (tmF_u93 (tmF_t (tmF_u93 (tmF_t a2 (tmF_fr b2))) (tmF_fr m2)))
    · rw [tm_otherK (tm_bk_93 (b3 q1).2), z_bs, nl1, nI_add, if_pos ((z_ibn (by omega)).mpr (by omega)), nI_clamp (by omega)]
      dsimp only
      rw [z_let_e, z_bs]
      exact tx_bad (m' := 3) (by omega) rfl (by omega) (by omega) (g3 q1) (tm_bk_93 (tm_bk_93 (b3 q1).2)) (tyF_t (tyF_fr d2) (tyF_fr g2)) (tmF_u93 (tmF_u93 (tmF_t a2 (tmF_fr b2))))
  · obtain ⟨⟨hr, hj⟩, hb⟩ := a3 q0
    rw [hr, tm_otherK hb, z_bs, pk_mul, if_pos ((z_ibn (by omega)).mpr (by omega)), nI_clamp (by omega)]
    dsimp only
    rw [z_let_e, tm_otherK (tm_bk_93 hb), z_bs, nl1, nI_add, if_pos ((z_ibn (by omega)).mpr (by omega)), nI_clamp (by omega)]
    dsimp only
    rw [z_let_e, z_bs]
    exact tx_bad (m' := 3) (by omega) rfl (by omega) (by omega) (d3 q0) (tm_bk_93 (tm_bk_93 hb)) (tyF_fr d2) (tmF_u93 (tmF_u93 a2))
theorem tx_l_6 {x y : zS} {u f e k v : Nat} (hP : tx_SP W H R p t o m) (hY : tx_SY x b L W H R p t (tx_b o 0) (tx_b o 7) n) (h0 : x 37 6 = nI 0) (hu : x 40 4 = nI u) (hM : tx_SM y b L W H R p t o m) (hT : tx_T b L u f e k v) (hK : tx_tk y f e k v) : ∃ g x' z, (z_loop (ty_ls 6) (nI 0, x)).bind (ty_lc 6) = some (g, x') ∧ (f_M_readMore (nI 6) y).bind tm_fc = some z ∧ tyF x x' ∧ tmF y z ∧ tx_O b L n u x' z g := by
  obtain ⟨P1, P2, P3, P4, P5, P6, P7, P8, P9, P10⟩ := id hP
  obtain ⟨D1, D2, D3, D4, D5⟩ := id P1
  obtain ⟨F1, F2, F3, F4, F5, F6, F7⟩ := tx_T_f hT
  have hL := hM.1.2.1
  have hJ : tx_J 6 := by unfold tx_J; omega
  obtain ⟨r0, y1, a1, a2, a3, a4⟩ := tm_fresh (l := 6) (hi := 3) hJ hP hM hK hT (by omega)
  obtain ⟨s1, d1, d2, d3, d4⟩ := ty_field_6_0 hY.2.1 hu hT h0 (hY.2.2.2.2.2 6 hJ) (P6 6 hJ)
  rw [ty_ls_go (m := 3) (by omega) rfl (by omega) (by omega) h0 d1]
  unfold f_M_readMore
  rw [if_neg (show ¬ nI 6 = (4 : Int32) by decide), if_neg (show ¬ nI 6 = (5 : Int32) by decide), if_pos (show nI 6 = (6 : Int32) from rfl), show f_M_fresh (nI 6) (3 : Int32) y = some (nI r0, y1) from a1, z_bs, z_let_e]
  dsimp only
  rw [show (96 : Int32) = nI 96 from rfl, show (2 : Int32) = nI 2 from rfl, pk_mul, nI_add]
  by_cases q0 : tx_q k 0 3 (t 6) v = 0
  · obtain ⟨hr, M1, f1, e1, k1, v1, T1, K1⟩ := a4 q0
    obtain ⟨qk, qlo, qhi, qt⟩ := tx_q_0 q0
    obtain ⟨z0, z1, z2, z3⟩ := d4 q0
    have hY1 := tx_SY_fr hY d2
    rw [tx_mx_n (by omega)] at M1
    obtain ⟨G1, G2, G3, G4, G5, G6, G7⟩ := tx_T_f T1
    obtain ⟨r1, y2, b1, b2, b3, b4⟩ := tm_other (lo := 0) (hi := 99) (s := 0) M1.1 K1 T1 (by omega) (by omega) (by omega)
    obtain ⟨s2, g1, g2, g3, g4⟩ := ty_field_6_1 hY1.2.1 z3 T1 z0
    rw [hr, show f_M_other (0 : Int32) (99 : Int32) (0 : Int32) y1 = some (nI r1, y2) from b1, z_bs, if_pos ((z_ibn (by omega)).mpr (by omega)), nI_clamp (by omega)]
    dsimp only
    rw [z_let_e, ty_ls_go (m := 3) (by omega) rfl (by omega) (by omega) z0 g1]
    by_cases q1 : tx_q k1 0 99 0 v1 = 0
    · obtain ⟨hr1, f2, e2, k2, v2, T2, K2⟩ := b4 q1
      obtain ⟨wk, wlo, whi, -⟩ := tx_q_0 q1
      obtain ⟨w0, w1, w2, w3⟩ := g4 q1
      have hY2 := tx_SY_fr hY1 g2
      have M2 := tx_SM_p (i := 96 + 2 * v) (v := v1) (tx_SM_fr M1 b2)
      obtain ⟨J1, J2, J3, J4, J5, J6, J7⟩ := tx_T_f T2
      obtain ⟨r2, y3, m1, m2, m3, m4⟩ := tm_other (lo := 1) (hi := 9) (s := 0) M2.1 (tk_93 K2) T2 (by omega) (by omega) (by omega)
      obtain ⟨s3, i1, i2, i3, i4⟩ := ty_field_6_2 hY2.2.1 w3 T2 w0
      rw [hr1, show f_M_other (1 : Int32) (9 : Int32) (0 : Int32) (z_u y2 93 (96 + 2 * v) (nI v1)) = some (nI r2, y3) from m1, z_bs, nl1, nI_add, if_pos ((z_ibn (by omega)).mpr (by omega)), nI_clamp (by omega)]
      dsimp only
      rw [z_let_e, z_bs, ty_ls_go (m := 3) (by omega) rfl (by omega) (by omega) w0 i1]
      by_cases q2 : tx_q k2 1 9 0 v2 = 0
      · obtain ⟨hr2, f3, e3, k3, v3, T3, K3⟩ := m4 q2
        obtain ⟨xk, xlo, xhi, -⟩ := tx_q_0 q2
        obtain ⟨x0, x1, x2, x3⟩ := i4 q2
        have hY3 := tx_SY_fr hY2 i2
        have hPt : tx_SP W H R p (g_up t 6 (t 6 ||| 2 ^ v)) o m := tx_SP_6 hP (hg_or_lt (P6 6 hJ) (by omega))
        rw [hr2, pk_sub xlo, show 96 + 2 * v + 1 = 97 + 2 * v by omega]
        refine tx_tail (m' := 3) (by omega) rfl (by omega) hY3.2.1 x0 x3 (by omega) T3 (tk_93 K3) (tx_SP_p (tx_SP_p hPt (hg_V_stk D5 P2 (by omega) whi) (by omega) (by intros; omega) (by omega)) (hg_V_prc D5 (hg_V_stk D5 P2 (by omega) whi) (by omega) (by omega)) (by omega) (by intros; omega) (by omega)) (tx_SM_p (tx_SM_fr M2 m2)) (tyF_t (tyF_t (tyF_fr d2) (tyF_fr g2)) (tyF_fr i2)) (tmF_u93 (tmF_t (tmF_u93 (tmF_t a2 (tmF_fr b2))) (tmF_fr m2))) (fun s9 h9 h9q => ?_)
        have hY9 := tx_SY_c hY3 (fun q _ _ _ => h9q q (by omega)) (by rw [h9q 37 (by omega)])
        refine ⟨_, ty_take_6 (c := v) (a := v1) (d := v2) (z := t 6) (by omega) (hY9.2.2.2.2.2 6 hJ) (by rw [h9q 39 (by omega), x2 0 (by omega), w2 0 (by omega)]; exact z1) (by rw [h9q 39 (by omega), x2 1 (by omega)]; exact w1) (by rw [h9q 39 (by omega)]; exact x1), ?_, ?_, ?_, ?_⟩
        · rw [hg_u_n (by omega), hg_u_n (by omega), hg_u_n (by omega)]
        · rw [hg_u_n (by omega), hg_u_n (by omega), hg_u_n (by omega)]
        · have hY10 := tx_SY_t (l := 6) (w := t 6 ||| 2 ^ v) hY9 hJ
          have hG := gs_price_17 (s := v) (w := v2 - 1) D5 (gs_stock_17 (s := v) (w := v1) D5 hY10.1 (by omega)) (by omega)
          rw [show v2 - 1 + 1 = v2 by omega] at hG
          exact tx_SY_G hY10 hG (fun q hq => by rw [hg_u_n (by omega), hg_u_n (by omega)])
        · exact tyF_u (tyF_u (tyF_u (tyF_r s9) (by omega)) (by omega)) (by omega)
      · exact tx_bad (m' := 3) (by omega) rfl (by omega) (by omega) (i3 q2) (tm_bk_93 (m3 q2).2) (tyF_t (tyF_t (tyF_fr d2) (tyF_fr g2)) (tyF_fr i2)) (tmF_u93 (tmF_t (tmF_u93 (tmF_t a2 (tmF_fr b2))) (tmF_fr m2)))
    · rw [tm_otherK (tm_bk_93 (b3 q1).2), z_bs, nl1, nI_add, if_pos ((z_ibn (by omega)).mpr (by omega)), nI_clamp (by omega)]
      dsimp only
      rw [z_let_e, z_bs]
      exact tx_bad (m' := 3) (by omega) rfl (by omega) (by omega) (g3 q1) (tm_bk_93 (tm_bk_93 (b3 q1).2)) (tyF_t (tyF_fr d2) (tyF_fr g2)) (tmF_u93 (tmF_u93 (tmF_t a2 (tmF_fr b2))))
  · obtain ⟨⟨hr, hj⟩, hb⟩ := a3 q0
    rw [hr, tm_otherK hb, z_bs, if_pos ((z_ibn (by omega)).mpr (by omega)), nI_clamp (by omega)]
    dsimp only
    rw [z_let_e, tm_otherK (tm_bk_93 hb), z_bs, nl1, nI_add, if_pos ((z_ibn (by omega)).mpr (by omega)), nI_clamp (by omega)]
    dsimp only
    rw [z_let_e, z_bs]
    exact tx_bad (m' := 3) (by omega) rfl (by omega) (by omega) (d3 q0) (tm_bk_93 (tm_bk_93 hb)) (tyF_fr d2) (tmF_u93 (tmF_u93 a2))
end SL2
