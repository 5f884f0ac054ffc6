/-! the text: a line, all lines -/
section RD
variable {b : Nat → Nat} {L W H R : Nat} {p t : Nat → Nat} {o m c0 c7 n : Nat}
theorem ty_nf {x : zS} {k l : Nat} (hl : l < 8) (h1 : x 40 1 = nI k) (hk : k ≤ 4) (hk4 : ¬ k = 4) (hR : R ≤ 5) (hr : x 23 3 = nI R) (h0 : x 38 0 = nI (tx_b o 0)) (h7 : x 38 7 = nI (tx_b o 7)) : f_Tr_nameFault_37 (nI l) x = some (nI (if (l = 0 ∨ l = 7) ∧ o.testBit l = true then 4 else if l = 5 ∧ R = 5 then 5 else 0)) := by
  unfold f_Tr_nameFault_37
  rw [h1, show (4 : Int32) = nI 4 from rfl, if_neg (show ¬ nI k = nI 4 by rw [nI_eq (by omega) (by omega)]; exact hk4), show f_Y_isIn (nI l) (0 : Int32) (7 : Int32) x = some (nI 1) from by rw [show (0 : Int32) = nI 0 from rfl, show (7 : Int32) = nI 7 from rfl, ty_isIn (by omega) (by omega) (by omega), if_pos (by omega)], z_bs, if_neg (show ¬ nI 1 = 0 by decide)]
  have ht : ∀ i, (i = 0 ∨ i = 7) → f_Tr_isTold_37 (nI i) (0 : Int32) x = some (nI (if o.testBit i = true then 1 else 0)) := fun i hi => by
    have hb : x 38 i = nI (tx_b o i) := by
      rcases hi with rfl | rfl
      · exact h0
      · exact h7
    have hb2 : tx_b o i < 2 ^ 32 := by unfold tx_b; split <;> omega
    rw [show (0 : Int32) = nI 0 from rfl, ty_told (by omega) hb hb2 (by omega)]
    unfold tx_b
    by_cases c : o.testBit i = true
    · rw [if_pos c]; rfl
    · rw [if_neg c]; rfl
  by_cases c07 : l = 0 ∨ l = 7
  · rw [z_join_e, z_join_e]
    have e : ∀ {γ : Type} (A B : γ), (if nI l = 0 then A else if nI l = (7 : Int32) then A else B) = A := fun A B => by
      rcases c07 with rfl | rfl
      · exact if_pos rfl
      · rw [if_neg (by decide), if_pos (show nI 7 = (7 : Int32) from rfl)]
    rw [e, ht l c07, z_bs]
    by_cases c : o.testBit l = true
    · rw [if_pos c, if_neg (show ¬ nI 1 = 0 by decide), if_pos ⟨c07, c⟩]
    · rw [if_neg c, if_pos (show nI 0 = 0 from rfl)]
      dsimp only
      rw [show (5 : Int32) = nI 5 from rfl, if_neg (show ¬ nI l = nI 5 by rw [nI_eq (by omega) (by omega)]; omega), show (if (l = 0 ∨ l = 7) ∧ o.testBit l = true then 4 else if l = 5 ∧ R = 5 then 5 else 0) = 0 from by rw [if_neg (fun z => c z.2), if_neg (fun z => by omega)]]
      rfl
  · rw [z_join_e, z_join_e, nl0, if_neg (show ¬ nI l = nI 0 by rw [nI_eq (by omega) (by omega)]; omega), show (7 : Int32) = nI 7 from rfl, if_neg (show ¬ nI l = nI 7 by rw [nI_eq (by omega) (by omega)]; omega), show (if (l = 0 ∨ l = 7) ∧ o.testBit l = true then 4 else if l = 5 ∧ R = 5 then 5 else 0) = if l = 5 ∧ R = 5 then 5 else 0 from if_neg (fun z => c07 z.1)]
    dsimp only
    rw [show (5 : Int32) = nI 5 from rfl]
    by_cases c5 : l = 5
    · rw [if_pos (show nI l = nI 5 by rw [c5]), hr]
      by_cases cr : R = 5
      · rw [if_neg (nI_nlt (show 5 ≤ R by omega) (by omega)), show (if l = 5 ∧ R = 5 then 5 else 0) = 5 from if_pos ⟨c5, cr⟩]
      · rw [if_pos (nI_lt (show R < 5 by omega) (by omega)), show (if l = 5 ∧ R = 5 then 5 else 0) = 0 from if_neg (fun z => cr z.2)]
    · rw [if_neg (show ¬ nI l = nI 5 by rw [nI_eq (by omega) (by omega)]; exact c5), show (if l = 5 ∧ R = 5 then 5 else 0) = 0 from if_neg (fun z => c5 z.1)]
theorem tx_O_m {u u' : Nat} {x y : zS} {g : Int32} (h : tx_O b L n u' x y g) (hu : u ≤ u') : tx_O b L n u x y g := by
  rcases h with h | ⟨h1, W, H, R, p, t, o, m, w, f, e, k, v, a1, a2, a3, a4, a5, a6, a7⟩
  · exact Or.inl h
  · exact Or.inr ⟨h1, W, H, R, p, t, o, m, w, f, e, k, v, a1, a2, a3, a4, a5, by omega, a7⟩
theorem tx_b_or {l i : Nat} (h : i ≠ l) : tx_b (o ||| 2 ^ l) i = tx_b o i := by
  unfold tx_b
  rw [Nat.testBit_or, Nat.testBit_two_pow_of_ne (Ne.symm h), Bool.or_false]
theorem tx_b_or1 {l : Nat} : tx_b (o ||| 2 ^ l) l = 1 := by
  unfold tx_b
  rw [Nat.testBit_or, Nat.testBit_two_pow_self, Bool.or_true, if_pos rfl]
theorem tm_goF {y : zS} {l f w : Nat} (hl : l < 8) (hn : f_M_nameHere y = some (nI l)) (ho : o < 2 ^ 32) (h9 : y 90 9 = nI o) (h8 : y 90 8 = nI R) (hR : R ≤ 5) (hz : y 90 15 = nI 0) (hf : y 90 18 = nI f) (hf2 : f ≤ 160) (hw : w = if (l = 0 ∨ l = 7) ∧ o.testBit l = true then 4 else if l = 5 ∧ R = 5 then 5 else 0) (hw0 : ¬ w = 0) : ∃ z, f_M_readLine y = some z ∧ tm_bk z w f ∧ tmF y z := by
  have hw7 : w ≤ 5 := by rw [hw]; split <;> (try split) <;> omega
  have g1 : (z_u (z_u y 90 15 (nI w)) 90 16 (nI f)) 90 15 = nI w := by rw [hg_u_j (by omega), hg_u_s]
  have gF : tmF y (z_u (z_u y 90 15 (nI w)) 90 16 (nI f)) := tmF_fr (tx_fr_u (tx_fr_u (tx_fr_r y) (by omega) (by omega)) (by omega) (by omega))
  have gb : tm_bk (z_u (z_u y 90 15 (nI w)) 90 16 (nI f)) w f := ⟨by omega, by omega, hf2, g1, hg_u_s⟩
  have g9 : (z_u (z_u y 90 15 (nI w)) 90 16 (nI f)) 90 9 = nI o := by rw [hg_u_j (by omega), hg_u_j (by omega), h9]
  have gf : f_M_fails (nI w) y = some (z_u (z_u y 90 15 (nI w)) 90 16 (nI f)) := tm_fails hz hf
  generalize z_u (z_u y 90 15 (nI w)) 90 16 (nI f) = Y at g1 gF gb g9 gf
  have fin : ∀ (V : Int32), ∃ z, ((f_M_step (z_u Y 90 9 V)).bind fun r8 => if (r8 90 15) ≤ 0 then ((f_M_in (nI l).toInt64 (1 : Int64) (3 : Int64) r8).bind fun r10 => z_join (T := zS) tm_fc (fun j11 => if r10 = 0 then (f_M_readMore (nI l) r8).bind fun r18 => j11 r18 else (f_M_readCell (nI l) r8).bind fun r19 => j11 r19)) else some r8) = some z ∧ tm_bk z w f ∧ tmF y z := fun V => by
    rw [tm_stepB (w := w) (by rw [hg_u_j (by omega)]; exact g1) hw0 (by omega), z_bs, hg_u_j (by omega), g1, nl0, if_neg (nI_ge (show 0 < w by omega) (by omega))]
    exact ⟨_, rfl, tm_bk_90 gb (by omega), tmF_u90 gF (by omega)⟩
  unfold f_M_readLine
  rw [hn, z_bs, tm_in (lo := 0) (hi := 7) (by omega) rfl rfl, if_pos (show 0 ≤ l ∧ l ≤ 7 by omega), z_bs, if_neg (show ¬ nI 1 = 0 by decide)]
  by_cases c : (l = 0 ∨ l = 7) ∧ o.testBit l = true
  · rw [if_pos c] at hw
    subst hw
    rw [hg_join_to (x := y) (fun j => by rw [show (5 : Int32) = nI 5 from rfl, if_neg (show ¬ nI l = nI 5 by rw [nI_eq (by omega) (by omega)]; omega)])]
    rw [hg_join_to (x := Y) (fun j => by
      rw [z_join_e]
      have e : ∀ {γ : Type} (A B : γ), (if nI l = 0 then A else if nI l = (7 : Int32) then A else B) = A := fun A B => by
        rcases c.1 with rfl | rfl
        · exact if_pos rfl
        · rw [if_neg (by decide), if_pos (show nI 7 = (7 : Int32) from rfl)]
      rw [e, h9, show (31 : Int32) = nI 31 from rfl, nl1, z_sbit ho (by omega), if_pos c.2, if_pos rfl, show (4 : Int32) = nI 4 from rfl, gf, z_bs])]
    rw [z_let_e]
    exact fin _
  · rw [if_neg c] at hw
    have c5 : l = 5 ∧ R = 5 := Classical.byContradiction (fun z => by rw [if_neg z] at hw; exact hw0 hw)
    rw [if_pos c5] at hw
    subst hw
    obtain ⟨rfl, rfl⟩ := c5
    rw [hg_join_to (x := Y) (fun j => by rw [if_pos (show nI 5 = (5 : Int32) from rfl), h8, if_pos (show nI 5 = (5 : Int32) from rfl), show (5 : Int32) = nI 5 from rfl, gf, z_bs])]
    rw [hg_join_to (x := Y) (fun j => by rw [z_join_e, if_neg (show ¬ nI 5 = 0 by decide), if_neg (show ¬ nI 5 = (7 : Int32) by decide)])]
    rw [z_let_e]
    exact fin _
theorem tx_line {x y : zS} {u f e k v : Nat} (hP : tx_SP W H R p t o m) (hY : tx_SY x b L W H R p t (tx_b o 0) (tx_b o 7) n) (h0 : x 37 6 = nI 0) (hu : x 40 4 = nI u) (hM : tx_SM y b L W H R p t o m) (hT : tx_T b L u f e k v) (hK : tx_tk y f e k v) (hk0 : ¬ k = 0) (hk4 : ¬ k = 4) : ∃ g x' z, f_Tr_readLine_37 x = some (g, x') ∧ f_M_readLine y = some z ∧ tyF x x' ∧ tmF y z ∧ tx_O b L n u x' z g := by
  obtain ⟨P1, P2, P3, P4, P5, P6, P7, P8, P9, P10⟩ := id hP
  obtain ⟨D1, D2, D3, D4, D5⟩ := id P1
  obtain ⟨F1, F2, F3, F4, F5, F6, F7⟩ := tx_T_f hT
  have hL := hM.1.2.1
  obtain ⟨ka, kb, kc, kd⟩ := id hK
  obtain ⟨b1, b2, b3⟩ := kd hk4
  obtain ⟨x1, m0, m1, m2, m3, m4, m5⟩ := ty_move hY.2.1 hu hT
  obtain ⟨l, hN⟩ := tx_N_ex b f e k
  have hY1 := tx_SY_c hY (fun q _ _ _ => m5 q (by omega)) (by rw [m5 37 (by omega)])
  have hln := ty_lineNamed hY1.2.1 m1 m2 m3 F4 F2 F3 hN
  have hmn := tm_name hM.1 b2 ka kb F4 F2 F3 hN
  have hx1F : tyF x x1 := fun q _ _ _ _ q5 => m5 q q5
  by_cases c8 : l < 8
  · rw [if_pos c8] at hln
    rw [if_pos (show l < 13 by omega)] at hmn
    have hnf := ty_nf (o := o) (R := R) c8 m1 F4 hk4 D5 hY1.1.2.2.1 hY1.2.2.2.1 hY1.2.2.2.2.1
    by_cases cw : (if (l = 0 ∨ l = 7) ∧ o.testBit l = true then 4 else if l = 5 ∧ R = 5 then 5 else 0) = 0
    · rw [cw] at hnf
      have g07 : (l = 0 ∨ l = 7) → o.testBit l = false := fun z => by
        cases hc : o.testBit l with
        | false => rfl
        | true => rw [if_pos ⟨z, hc⟩] at cw; omega
      have g5 : l = 5 → R < 5 := fun z => by
        rw [if_neg (fun q => by have := g07 q.1; rw [this] at q; exact absurd q.2 (by decide))] at cw
        by_cases q : l = 5 ∧ R = 5
        · rw [if_pos q] at cw; omega
        · omega
      have hgo := ty_go m0 m1 hk0 F4 hln hnf
      obtain ⟨f', e', k', v', hT'⟩ := tx_T_ex (b := b) F3
      have hMo := tx_SM_o (v := o ||| 2 ^ l) hM
      obtain ⟨y2, s1, s2, s3⟩ := tm_step (t := e) hMo.1 (by rw [hg_u_j (by omega)]; exact kb) (by rw [hg_u_j (by omega)]; exact b1) hT'
      obtain ⟨t1, t2⟩ := tm_go c8 hmn (by omega) hM.2.1 hM.2.2.2.2.2.2.1 D5 g5 g07 s1
      have hM2 := tx_SM_fr hMo s3
      have hmF : tmF y y2 := tmF_t (tmF_u90 (tmF_r y) (by omega)) (tmF_fr s3)
      have h10 : x1 37 6 = nI 0 := by rw [m5 37 (by omega)]; exact h0
      have ho : o ||| 2 ^ l < 2 ^ 8 := Nat.or_lt_two_pow P5 (Nat.pow_lt_pow_right (by omega) c8)
      have hP2 : tx_SP W H R p t (o ||| 2 ^ l) m := ⟨P1, P2, P3, P4, ho, P6, P7, P8, P9, P10⟩
      have hfe := F6 hk0
      obtain ⟨ga, gb, gc, gd⟩ := id s2
      by_cases c4 : k' = 4
      · obtain ⟨y15, y16, -⟩ := gc c4
        obtain ⟨E1, E2, E3, E4, E5, E6, E7⟩ := tx_T_f hT'
        rw [hgo, t1 y15]
        have hbk : tm_bk y2 1 f' := ⟨by omega, by omega, by omega, y15, y16⟩
        have fb : ∀ (s' : zS) (m' : Nat), (z_sv.getD 1 []).getD l 0 = nI m' → m' ≤ 3 → 0 < m' → f_Tr_readField_37 (nI l) (nI 0) x1 = some s' → ty_fr x1 s' → ty_bk s' 1 f' → ∃ g x' z, (z_loop (ty_ls l) (nI 0, x1)).bind (ty_lc l) = some (g, x') ∧ some y2 = some z ∧ tyF x x' ∧ tmF y z ∧ tx_O b L n u x' z g := fun s' m' q1 q2 q3 q4 q5 q6 => by
          rw [ty_ls_go c8 q1 q2 q3 h10 q4, ty_ls_bad c8 q1 q2 (by omega) q6, z_bs, ty_lc_bad q6]
          exact ⟨_, _, _, rfl, rfl, tyF_t hx1F (tyF_fr q5), hmF, Or.inl ⟨rfl, 1, f', q6, hbk⟩⟩
        have hq : ∀ lo hi s, tx_q k' lo hi s v' = 1 := fun lo hi s => if_pos c4
        have h6 := hY1.2.2.2.2.2
        have l8 : l = 0 ∨ l = 1 ∨ l = 2 ∨ l = 3 ∨ l = 4 ∨ l = 5 ∨ l = 6 ∨ l = 7 := by omega
        rcases l8 with rfl | rfl | rfl | rfl | rfl | rfl | rfl | rfl
        · obtain ⟨s', d1, d2, d3, d4⟩ := ty_field_0_0 hY1.2.1 m3 hT' h10
          have d5 := d3 (by rw [hq]; omega)
          rw [hq] at d5
          exact fb s' 2 rfl (by omega) (by omega) d1 d2 d5
        · obtain ⟨s', d1, d2, d3, d4⟩ := ty_field_1_0 hY1.2.1 m3 hT' h10 (h6 1 (by unfold tx_J; omega)) (P6 1 (by unfold tx_J; omega))
          have d5 := d3 (by rw [hq]; omega)
          rw [hq] at d5
          exact fb s' 3 rfl (by omega) (by omega) d1 d2 d5
        · obtain ⟨s', d1, d2, d3, d4⟩ := ty_field_2_0 hY1.2.1 m3 hT' h10 (h6 2 (by unfold tx_J; omega)) (P6 2 (by unfold tx_J; omega))
          have d5 := d3 (by rw [hq]; omega)
          rw [hq] at d5
          exact fb s' 2 rfl (by omega) (by omega) d1 d2 d5
        · obtain ⟨s', d1, d2, d3, d4⟩ := ty_field_3_0 hY1.2.1 m3 hT' h10 (h6 3 (by unfold tx_J; omega)) (P6 3 (by unfold tx_J; omega))
          have d5 := d3 (by rw [hq]; omega)
          rw [hq] at d5
          exact fb s' 2 rfl (by omega) (by omega) d1 d2 d5
        · obtain ⟨s', d1, d2, d3, d4⟩ := ty_field_4_0 hY1.2.1 m3 hT' h10 (h6 4 (by unfold tx_J; omega)) (P6 4 (by unfold tx_J; omega))
          have d5 := d3 (by rw [hq]; omega)
          rw [hq] at d5
          exact fb s' 1 rfl (by omega) (by omega) d1 d2 d5
        · obtain ⟨s', d1, d2, d3, d4⟩ := ty_field_5_0 hY1.2.1 m3 hT' h10
          have d5 := d3 (by rw [hq]; omega)
          rw [hq] at d5
          exact fb s' 3 rfl (by omega) (by omega) d1 d2 d5
        · obtain ⟨s', d1, d2, d3, d4⟩ := ty_field_6_0 hY1.2.1 m3 hT' h10 (h6 6 (by unfold tx_J; omega)) (P6 6 (by unfold tx_J; omega))
          have d5 := d3 (by rw [hq]; omega)
          rw [hq] at d5
          exact fb s' 3 rfl (by omega) (by omega) d1 d2 d5
        · obtain ⟨s', d1, d2, d3, d4⟩ := ty_field_7_0 hY1.2.1 m3 hT' h10
          have d5 := d3 (by rw [hq]; omega)
          rw [hq] at d5
          exact fb s' 1 rfl (by omega) (by omega) d1 d2 d5
      · obtain ⟨y15, y19, y20⟩ := gd c4
        have t2' := t2 y15
        rw [hgo, t2']
        have fin : ∀ (B : Option zS), (∃ g x' z, (z_loop (ty_ls l) (nI 0, x1)).bind (ty_lc l) = some (g, x') ∧ B = some z ∧ tyF x1 x' ∧ tmF y2 z ∧ tx_O b L n e x' z g) → ∃ g x' z, (z_loop (ty_ls l) (nI 0, x1)).bind (ty_lc l) = some (g, x') ∧ B = some z ∧ tyF x x' ∧ tmF y z ∧ tx_O b L n u x' z g := fun B hB => by
          obtain ⟨g, x', z, q1, q2, q3, q4, q5⟩ := hB
          exact ⟨g, x', z, q1, q2, tyF_t hx1F q3, tmF_t hmF q4, tx_O_m q5 (by omega)⟩
        refine fin _ ?_
        have l8 : l = 0 ∨ l = 1 ∨ l = 2 ∨ l = 3 ∨ l = 4 ∨ l = 5 ∨ l = 6 ∨ l = 7 := by omega
        rcases l8 with rfl | rfl | rfl | rfl | rfl | rfl | rfl | rfl
        · rw [if_neg (by omega)]
          have hb : tx_b o 0 = 0 := by
            unfold tx_b
            rw [g07 (Or.inl rfl)]
            rfl
          rw [hb] at hY1
          rw [← tx_b_or (o := o) (l := 0) (i := 7) (by omega)] at hY1
          exact tx_l_0 hP2 hY1 h10 m3 hM2 hT' s2 tx_b_or1
        · rw [if_pos (by omega)]
          rw [← tx_b_or (o := o) (l := 1) (i := 0) (by omega), ← tx_b_or (o := o) (l := 1) (i := 7) (by omega)] at hY1
          exact tx_l_1 hP2 hY1 h10 m3 hM2 hT' s2
        · rw [if_pos (by omega)]
          rw [← tx_b_or (o := o) (l := 2) (i := 0) (by omega), ← tx_b_or (o := o) (l := 2) (i := 7) (by omega)] at hY1
          exact tx_l_2 hP2 hY1 h10 m3 hM2 hT' s2
        · rw [if_pos (by omega)]
          rw [← tx_b_or (o := o) (l := 3) (i := 0) (by omega), ← tx_b_or (o := o) (l := 3) (i := 7) (by omega)] at hY1
          exact tx_l_3 hP2 hY1 h10 m3 hM2 hT' s2
        · rw [if_neg (by omega)]
          rw [← tx_b_or (o := o) (l := 4) (i := 0) (by omega), ← tx_b_or (o := o) (l := 4) (i := 7) (by omega)] at hY1
          exact tx_l_4 hP2 hY1 h10 m3 hM2 hT' s2
        · rw [if_neg (by omega)]
          rw [← tx_b_or (o := o) (l := 5) (i := 0) (by omega), ← tx_b_or (o := o) (l := 5) (i := 7) (by omega)] at hY1
          exact tx_l_5 hP2 hY1 h10 m3 hM2 hT' s2 (g5 rfl)
        · rw [if_neg (by omega)]
          rw [← tx_b_or (o := o) (l := 6) (i := 0) (by omega), ← tx_b_or (o := o) (l := 6) (i := 7) (by omega)] at hY1
          exact tx_l_6 hP2 hY1 h10 m3 hM2 hT' s2
        · rw [if_neg (by omega)]
          have hb : tx_b o 7 = 0 := by
            unfold tx_b
            rw [g07 (Or.inr rfl)]
            rfl
          rw [hb] at hY1
          rw [← tx_b_or (o := o) (l := 7) (i := 0) (by omega)] at hY1
          exact tx_l_7 hP2 hY1 h10 m3 hM2 hT' s2 tx_b_or1
    · obtain ⟨x', i1, i2, i3⟩ := ty_goF m0 m1 hk0 F4 hln hnf (by omega) (by split <;> (try split) <;> omega) m2 (by omega) m5
      obtain ⟨z, j1, j2, j3⟩ := tm_goF (o := o) (R := R) c8 hmn (by omega) hM.2.1 hM.2.2.2.2.2.2.1 D5 b1 ka (by omega) rfl cw
      rw [i1, j1]
      exact ⟨_, _, _, rfl, rfl, fun q _ q2 _ _ q5 => i3 q q2 q5, j3, Or.inl ⟨rfl, _, f, i2, j2⟩⟩
  · rw [if_neg c8] at hln
    obtain ⟨x', i1, i2, i3⟩ := ty_goF (w := 2) m0 m1 hk0 F4 hln (by
      unfold f_Tr_nameFault_37
      rw [m1, show (4 : Int32) = nI 4 from rfl, if_neg (show ¬ nI k = nI 4 by rw [nI_eq (by omega) (by omega)]; exact hk4), show f_Y_isIn (- nI 4) (0 : Int32) (7 : Int32) x1 = some (nI 0) from by rw [y_isIn]; rfl, z_bs, if_pos (show nI 0 = 0 from rfl)]
      rfl) (by omega) (by omega) m2 (by omega) m5
    rw [i1]
    unfold f_M_readLine
    have hin : f_M_in (if l < 13 then nI l else -4).toInt64 (0 : Int64) (7 : Int64) y = some (nI 0) := by
      by_cases c13 : l < 13
      · rw [if_pos c13, tm_in (lo := 0) (hi := 7) (by omega) rfl rfl, if_neg (by omega)]
      · rw [if_neg c13, tm_in4 (lo := 0) (hi := 7) rfl]
    rw [hmn, z_bs, hin, z_bs, if_pos (show nI 0 = 0 from rfl), tm_fails b1 ka, z_bs]
    exact ⟨_, _, _, rfl, rfl, fun q _ q2 _ _ q5 => i3 q q2 q5, tmF_fr (tx_fr_u (tx_fr_u (tx_fr_r y) (by omega) (by omega)) (by omega) (by omega)), Or.inl ⟨rfl, 2, f, i2, ⟨by omega, by omega, by omega, by rw [hg_u_j (by omega), hg_u_s]; rfl, hg_u_s⟩⟩⟩
/-- all lines -/
noncomputable def ty_as : Int32 × Int32 × zS → Option ((Int32 × Int32 × zS) ⊕ zS) := fun s7 =>
  if (160 : Int32) < s7.2.1 then
    some (.inr s7.2.2)
  else
    if s7.1 = 0 then
      some (.inr s7.2.2)
    else
      (f_Tr_readLine_37 s7.2.2).bind fun r10 =>
      some (.inl (r10.1, (s7.2.1 + (1 : Int32)), r10.2))
noncomputable def tm_as : Int32 × zS → Option ((Int32 × zS) ⊕ (Int32 × zS)) := fun s15 =>
  if (s15.2 90 15) = 0 then
    if (s15.2 90 19) = 0 then
      some (.inr (s15.1, s15.2))
    else
      (f_M_readLine s15.2).bind fun r18 =>
      some (.inl ((s15.1 + (1 : Int32)), r18))
  else
    some (.inr (s15.1, s15.2))
theorem ty_as_0 {i : Nat} {x : zS} (hi : i < 2 ^ 31) : z_loop ty_as ((0 : Int32), nI i, x) = some x := by
  rw [z_loop_eq ty_as]
  have e : ty_as ((0 : Int32), nI i, x) = some (.inr x) := by
    unfold ty_as
    dsimp only
    rw [if_pos rfl]
    split <;> rfl
  rw [e]
  rfl
theorem ty_as_1 {i : Nat} {x x' : zS} {g : Int32} (hi : i ≤ 160) (h : f_Tr_readLine_37 x = some (g, x')) : z_loop ty_as ((1 : Int32), nI i, x) = z_loop ty_as (g, nI (i + 1), x') := by
  rw [z_loop_eq ty_as]
  have e : ty_as ((1 : Int32), nI i, x) = some (.inl (g, nI (i + 1), x')) := by
    unfold ty_as
    dsimp only
    rw [show (160 : Int32) = nI 160 from rfl, if_neg (nI_nlt hi (by omega)), if_neg (show ¬ (1 : Int32) = 0 by decide), h, z_bs, nl1, nI_add]
  rw [e]
  rfl
theorem tm_as_b {N : Int32} {y : zS} {w f : Nat} (h : tm_bk y w f) : z_loop tm_as (N, y) = some (N, y) := by
  rw [z_loop_eq tm_as]
  have e : tm_as (N, y) = some (.inr (N, y)) := by
    unfold tm_as
    dsimp only
    rw [if_neg (show ¬ y 90 15 = 0 by rw [h.2.2.2.1, nl0, nI_eq (by have := h.2.1; omega) (by omega)]; have := h.1; omega)]
  rw [e]
  rfl
theorem tm_as_0 {N : Int32} {y : zS} (h : y 90 15 = nI 0) (h2 : y 90 19 = nI 0) : z_loop tm_as (N, y) = some (N, y) := by
  rw [z_loop_eq tm_as]
  have e : tm_as (N, y) = some (.inr (N, y)) := by
    unfold tm_as
    dsimp only
    rw [if_pos (show y 90 15 = 0 from h), if_pos (show y 90 19 = 0 from h2)]
  rw [e]
  rfl
theorem tm_as_1 {N k : Nat} {y z : zS} (h : y 90 15 = nI 0) (h2 : y 90 19 = nI k) (hk : ¬ k = 0) (hk4 : k ≤ 4) (hr : f_M_readLine y = some z) : z_loop tm_as (nI N, y) = z_loop tm_as (nI (N + 1), z) := by
  rw [z_loop_eq tm_as]
  have e : tm_as (nI N, y) = some (.inl (nI (N + 1), z)) := by
    unfold tm_as
    dsimp only
    rw [if_pos (show y 90 15 = 0 from h), if_neg (show ¬ y 90 19 = 0 by rw [h2, nl0, nI_eq (by omega) (by omega)]; exact hk), hr, z_bs, nl1, nI_add]
  rw [e]
  rfl
def tx_E (b : Nat → Nat) (L : Nat) (x' y' : zS) (N : Nat) : Prop := (∃ w f, ty_bk x' w f ∧ tm_bk y' w f) ∨ ∃ W H R p t o m, tx_SP W H R p t o m ∧ tx_SY x' b L W H R p t (tx_b o 0) (tx_b o 7) N ∧ tx_SM y' b L W H R p t o m ∧ x' 37 6 = nI 0 ∧ y' 90 15 = nI 0 ∧ y' 90 18 = nI L ∧ N ≤ L
theorem tx_n0 {L u u' : Nat} (h : L - u ≤ 0) (h2 : u < u') (h3 : u' ≤ L) : False := by omega
theorem tx_n1 {L u u' d i n : Nat} (h : L - u ≤ d + 1) (h2 : u < u') (h3 : i + (d + 1) ≤ 160) (h4 : n ≤ u) : L - u' ≤ d ∧ i + 1 + d ≤ 160 ∧ n + 1 ≤ u' := by omega
theorem tx_all : ∀ (d : Nat) {W H R : Nat} {p t : Nat → Nat} {o m n i u f e k v : Nat} {x y : zS}, L - u ≤ d → i + d ≤ 160 → n ≤ u → tx_SP W H R p t o m → tx_SY x b L W H R p t (tx_b o 0) (tx_b o 7) n → x 37 6 = nI 0 → x 40 4 = nI u → tx_SM y b L W H R p t o m → tx_T b L u f e k v → tx_tk y f e k v → ∃ x' y' N, z_loop ty_as ((1 : Int32), nI i, x) = some x' ∧ z_loop tm_as (nI n, y) = some (nI N, y') ∧ tyF x x' ∧ tmF y y' ∧ tx_E b L x' y' N := by
  intro d
  induction d with
  | zero =>
    exact fun {W H R p t o m n i u f e k v x y} hd hi hn hP hY h0 hu hM hT hK => by
      have hL := hM.1.2.1
      obtain ⟨F1, F2, F3, F4, F5, F6, F7⟩ := tx_T_f hT
      obtain ⟨ka, kb, kc, kd⟩ := id hK
      by_cases ck0 : k = 0
      · obtain ⟨b1, b2, b3⟩ := kd (by omega)
        obtain ⟨x1, m0, m1, m2, m3, m4, m5⟩ := ty_move hY.2.1 hu hT
        have hr : f_Tr_readLine_37 x = some ((0 : Int32), x1) := by
          unfold f_Tr_readLine_37
          rw [m0, z_bs, if_pos (show x1 40 1 = 0 by rw [m1, ck0]; rfl)]
        rw [ty_as_1 (by omega) hr, ty_as_0 (by omega), tm_as_0 b1 (by rw [b2, ck0])]
        exact ⟨_, _, _, rfl, rfl, fun q _ _ _ _ q5 => m5 q q5, tmF_r y, Or.inr ⟨W, H, R, p, t, o, m, hP, tx_SY_c hY (fun q _ _ _ => m5 q (by omega)) (by rw [m5 37 (by omega)]), hM, by rw [m5 37 (by omega)]; exact h0, b1, by rw [ka, F7 ck0], by omega⟩⟩
      · by_cases ck4 : k = 4
        · obtain ⟨b1, b2, -⟩ := kc ck4
          have hb : tm_bk y 1 f := ⟨by omega, by omega, by omega, b1, b2⟩
          obtain ⟨x1, m0, m1, m2, m3, m4, m5⟩ := ty_move hY.2.1 hu hT
          obtain ⟨l, hN⟩ := tx_N_ex b f e k
          have hY1 := tx_SY_c hY (fun q _ _ _ => m5 q (by omega)) (by rw [m5 37 (by omega)])
          obtain ⟨x', i1, i2, i3⟩ := ty_goF (w := 1) m0 m1 ck0 F4 (ty_lineNamed hY1.2.1 m1 m2 m3 F4 F2 F3 hN) (by
            unfold f_Tr_nameFault_37
            rw [m1, if_pos (show nI k = (4 : Int32) by rw [ck4]; rfl)]
            rfl) (by omega) (by omega) m2 (by omega) m5
          rw [ty_as_1 (by omega) i1, ty_as_0 (by omega), tm_as_b hb]
          exact ⟨_, _, _, rfl, rfl, fun q _ q2 _ _ q5 => i3 q q2 q5, tmF_r y, Or.inl ⟨1, f, i2, hb⟩⟩
        · obtain ⟨b1, b2, b3⟩ := kd ck4
          obtain ⟨g, x', z, h1, h2, h3, h4, h5⟩ := tx_line hP hY h0 hu hM hT hK ck0 ck4
          rw [ty_as_1 (by omega) h1, tm_as_1 b1 b2 ck0 F4 h2]
          rcases h5 with ⟨rfl, w, f', q1, q2⟩ | ⟨rfl, W', H', R', p', t', o', m', u', f', e', k', v', q1, q2, q3, q4, q5, q6, q7, q8, q9⟩
          · rw [ty_as_0 (by omega), tm_as_b q2]
            exact ⟨_, _, _, rfl, rfl, h3, h4, Or.inl ⟨w, f', q1, q2⟩⟩
          · exact (tx_n0 hd q6 q7).elim
  | succ d ih =>
    exact fun {W H R p t o m n i u f e k v x y} hd hi hn hP hY h0 hu hM hT hK => by
      have hL := hM.1.2.1
      obtain ⟨F1, F2, F3, F4, F5, F6, F7⟩ := tx_T_f hT
      obtain ⟨ka, kb, kc, kd⟩ := id hK
      by_cases ck0 : k = 0
      · obtain ⟨b1, b2, b3⟩ := kd (by omega)
        obtain ⟨x1, m0, m1, m2, m3, m4, m5⟩ := ty_move hY.2.1 hu hT
        have hr : f_Tr_readLine_37 x = some ((0 : Int32), x1) := by
          unfold f_Tr_readLine_37
          rw [m0, z_bs, if_pos (show x1 40 1 = 0 by rw [m1, ck0]; rfl)]
        rw [ty_as_1 (by omega) hr, ty_as_0 (by omega), tm_as_0 b1 (by rw [b2, ck0])]
        exact ⟨_, _, _, rfl, rfl, fun q _ _ _ _ q5 => m5 q q5, tmF_r y, Or.inr ⟨W, H, R, p, t, o, m, hP, tx_SY_c hY (fun q _ _ _ => m5 q (by omega)) (by rw [m5 37 (by omega)]), hM, by rw [m5 37 (by omega)]; exact h0, b1, by rw [ka, F7 ck0], by omega⟩⟩
      · by_cases ck4 : k = 4
        · obtain ⟨b1, b2, -⟩ := kc ck4
          have hb : tm_bk y 1 f := ⟨by omega, by omega, by omega, b1, b2⟩
          obtain ⟨x1, m0, m1, m2, m3, m4, m5⟩ := ty_move hY.2.1 hu hT
          obtain ⟨l, hN⟩ := tx_N_ex b f e k
          have hY1 := tx_SY_c hY (fun q _ _ _ => m5 q (by omega)) (by rw [m5 37 (by omega)])
          obtain ⟨x', i1, i2, i3⟩ := ty_goF (w := 1) m0 m1 ck0 F4 (ty_lineNamed hY1.2.1 m1 m2 m3 F4 F2 F3 hN) (by
            unfold f_Tr_nameFault_37
            rw [m1, if_pos (show nI k = (4 : Int32) by rw [ck4]; rfl)]
            rfl) (by omega) (by omega) m2 (by omega) m5
          rw [ty_as_1 (by omega) i1, ty_as_0 (by omega), tm_as_b hb]
          exact ⟨_, _, _, rfl, rfl, fun q _ q2 _ _ q5 => i3 q q2 q5, tmF_r y, Or.inl ⟨1, f, i2, hb⟩⟩
        · obtain ⟨b1, b2, b3⟩ := kd ck4
          obtain ⟨g, x', z, h1, h2, h3, h4, h5⟩ := tx_line hP hY h0 hu hM hT hK ck0 ck4
          rw [ty_as_1 (by omega) h1, tm_as_1 b1 b2 ck0 F4 h2]
          rcases h5 with ⟨rfl, w, f', q1, q2⟩ | ⟨rfl, W', H', R', p', t', o', m', u', f', e', k', v', q1, q2, q3, q4, q5, q6, q7, q8, q9⟩
          · rw [ty_as_0 (by omega), tm_as_b q2]
            exact ⟨_, _, _, rfl, rfl, h3, h4, Or.inl ⟨w, f', q1, q2⟩⟩
          · obtain ⟨l1, l2, l3⟩ := tx_n1 hd q6 hi hn
            obtain ⟨x2, y2, N, r1, r2, r3, r4, r5⟩ := ih (i := i + 1) (n := n + 1) l1 l2 l3 q1 q2 q4 q5 q3 q8 q9
            exact ⟨x2, y2, N, r1, r2, tyF_t h3 r3, tmF_t h4 r4, r5⟩
end RD
