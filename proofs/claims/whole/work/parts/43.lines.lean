/-! the text: what all lines share -/
noncomputable def ty_ls (l : Nat) : Int32 × zS → Option ((Int32 × zS) ⊕ zS) := fun s6 =>
  if z_ib (nI l) 8 = true then
  if ((z_sv.getD 1 []).getD (nI l).toNatClampNeg 0) ≤ s6.1 then
    some (.inr s6.2)
  else
    if (s6.2 37 6) = 0 then
      (f_Tr_readField_37 (nI l) s6.1 s6.2).bind fun r10 =>
      some (.inl ((s6.1 + (1 : Int32)), r10))
    else
      some (.inr s6.2)
  else none
noncomputable def ty_lc (l : Nat) : zS → Option (Int32 × zS) := fun b6 =>
  z_join (T := zS) (fun t11 =>
      z_join (T := zS) (fun t12 =>
          if (t12 37 6) = 0 then
            some ((1 : Int32), t12)
          else
            some ((0 : Int32), t12)
        ) (fun j12 =>
          if (t11 37 6) = 0 then
            (f_Tr_take_37 (nI l) t11).bind fun r15 =>
            z_let (z_u r15 37 5 ((r15 37 5) + (1 : Int32))) fun τ16 =>
            j12 τ16
          else
            j12 t11
        )
    ) (fun j11 =>
      if (b6 37 6) = 0 then
        (f_Tr_readSemicolon_37 b6).bind fun r18 =>
        j11 r18
      else
        j11 b6
    )
theorem ty_go {x x1 : zS} {l k : Nat} (h1 : f_Tk_move_40 x = some x1) (h2 : x1 40 1 = nI k) (hk : ¬ k = 0) (hk4 : k ≤ 4) (h3 : f_Tr_lineNamed_37 x1 = some (nI l)) (h4 : f_Tr_nameFault_37 (nI l) x1 = some (nI 0)) : f_Tr_readLine_37 x = (z_loop (ty_ls l) (nI 0, x1)).bind (ty_lc l) := by
  unfold f_Tr_readLine_37
  rw [h1, z_bs, h2, nl0, if_neg (show ¬ nI k = nI 0 by rw [nI_eq (by omega) (by omega)]; exact hk), h3, z_bs, h4, z_bs, if_pos rfl]
  rfl
theorem ty_goF {x x1 : zS} {k w f : Nat} {l : Int32} (h1 : f_Tk_move_40 x = some x1) (h2 : x1 40 1 = nI k) (hk : ¬ k = 0) (hk4 : k ≤ 4) (h3 : f_Tr_lineNamed_37 x1 = some l) (h4 : f_Tr_nameFault_37 l x1 = some (nI w)) (hw : 1 ≤ w) (hw7 : w ≤ 7) (hf : x1 40 2 = nI f) (hf2 : f ≤ 160) (h5 : ∀ q, q ≠ 40 → x1 q = x q) : ∃ x', f_Tr_readLine_37 x = some ((0 : Int32), x') ∧ ty_bk x' w f ∧ ∀ q, q ≠ 37 → q ≠ 40 → x' q = x q := by
  unfold f_Tr_readLine_37
  rw [h1, z_bs, h2, nl0, if_neg (show ¬ nI k = nI 0 by rw [nI_eq (by omega) (by omega)]; exact hk), h3, z_bs, h4, z_bs, if_neg (show ¬ nI w = nI 0 by rw [nI_eq (by omega) (by omega)]; omega), hf, ty_fail, z_bs]
  exact ⟨_, rfl, ⟨hw, hw7, hf2, by rw [hg_u_j (by omega), hg_u_s], by rw [hg_u_s]⟩, fun q q1 q2 => by rw [hg_u_n q1, hg_u_n q1, h5 q q2]⟩
theorem ty_ls_go {s s' : zS} {l m i : Nat} (hl : l < 8) (hm : (z_sv.getD 1 []).getD l 0 = nI m) (hm3 : m ≤ 3) (hi : i < m) (h0 : s 37 6 = nI 0) (hf : f_Tr_readField_37 (nI l) (nI i) s = some s') : z_loop (ty_ls l) (nI i, s) = z_loop (ty_ls l) (nI (i + 1), s') := by
  rw [z_loop_eq (ty_ls l) (nI i, s)]
  have e : ty_ls l (nI i, s) = some (.inl (nI (i + 1), s')) := by
    unfold ty_ls
    dsimp only
    rw [if_pos ((z_ibn (by omega)).mpr hl), nI_clamp (by omega), hm, if_neg (nI_ge hi (by omega)), if_pos (show s 37 6 = 0 from h0), hf, z_bs, nl1, nI_add]
  rw [e]
  rfl
theorem ty_ls_end {s : zS} {l m i : Nat} (hl : l < 8) (hm : (z_sv.getD 1 []).getD l 0 = nI m) (hi : i = m) (hm3 : m ≤ 3) : z_loop (ty_ls l) (nI i, s) = some s := by
  rw [z_loop_eq (ty_ls l) (nI i, s)]
  have e : ty_ls l (nI i, s) = some (.inr s) := by
    unfold ty_ls
    dsimp only
    rw [if_pos ((z_ibn (by omega)).mpr hl), nI_clamp (by omega), hm, if_pos (nI_le (show m ≤ i by omega) (by omega))]
  rw [e]
  rfl
theorem ty_ls_bad {s : zS} {l m i w f : Nat} (hl : l < 8) (hm : (z_sv.getD 1 []).getD l 0 = nI m) (hm3 : m ≤ 3) (hi : i ≤ m) (h0 : ty_bk s w f) : z_loop (ty_ls l) (nI i, s) = some s := by
  obtain ⟨w1, w2, w3, w4, w5⟩ := h0
  rw [z_loop_eq (ty_ls l) (nI i, s)]
  have e : ty_ls l (nI i, s) = some (.inr s) := by
    unfold ty_ls
    dsimp only
    rw [if_pos ((z_ibn (by omega)).mpr hl), nI_clamp (by omega), hm]
    by_cases c : i < m
    · rw [if_neg (nI_ge c (by omega)), if_neg (show ¬ s 37 6 = 0 by rw [w4, nl0, nI_eq (by omega) (by omega)]; omega)]
    · rw [if_pos (nI_le (show m ≤ i by omega) (by omega))]
  rw [e]
  rfl
theorem ty_lc_bad {s : zS} {l w f : Nat} (h0 : ty_bk s w f) : ty_lc l s = some ((0 : Int32), s) := by
  obtain ⟨w1, w2, w3, w4, w5⟩ := h0
  have hz : ¬ s 37 6 = 0 := by rw [w4, nl0, nI_eq (by omega) (by omega)]; omega
  unfold ty_lc
  rw [z_join_e, if_neg hz]
  dsimp only
  rw [z_join_e, if_neg hz]
  dsimp only
  rw [if_neg hz]
theorem ty_lc_semi {s : zS} {b : Nat → Nat} {L l t f e k v : Nat} (h : tx_Y s b L) (h0 : s 37 6 = nI 0) (ht : s 40 4 = nI t) (hT : tx_T b L t f e k v) (hk : ¬ k = 3) : ∃ s', ty_lc l s = some ((0 : Int32), s') ∧ ty_bk s' (if k = 4 then 1 else 2) f ∧ ∀ q, q ≠ 37 → q ≠ 40 → s' q = s q := by
  obtain ⟨s1, m0, m1, m2, m3, m4, m5⟩ := ty_move h ht hT
  obtain ⟨f1, f2, f3, f4, f5, f6, f7⟩ := tx_T_f hT
  have hL := h.2.1
  unfold ty_lc
  rw [z_join_e, if_pos (show s 37 6 = 0 from h0)]
  unfold f_Tr_readSemicolon_37
  rw [m0, z_bs, m1]
  by_cases c4 : k = 4
  · rw [if_pos (show nI k = (4 : Int32) by rw [c4]; rfl), ty_fail, z_bs, z_bs, m2, if_pos c4]
    have hz : ¬ (z_u (z_u s1 37 6 (1 : Int32)) 37 7 (nI f)) 37 6 = 0 := by rw [hg_u_j (by omega), hg_u_s]; decide
    dsimp only
    rw [z_join_e, if_neg hz]
    dsimp only
    rw [if_neg hz]
    exact ⟨_, rfl, ⟨by omega, by omega, by omega, by rw [hg_u_j (by omega), hg_u_s]; rfl, by rw [hg_u_s]⟩, fun q q1 q2 => by rw [hg_u_n q1, hg_u_n q1, m5 q q2]⟩
  · rw [show (4 : Int32) = nI 4 from rfl, if_neg (show ¬ nI k = nI 4 by rw [nI_eq (by omega) (by omega)]; exact c4), show (3 : Int32) = nI 3 from rfl, if_neg (show ¬ nI k = nI 3 by rw [nI_eq (by omega) (by omega)]; exact hk), ty_fail, z_bs, z_bs, m2, if_neg c4]
    have hz : ¬ (z_u (z_u s1 37 6 (2 : Int32)) 37 7 (nI f)) 37 6 = 0 := by rw [hg_u_j (by omega), hg_u_s]; decide
    dsimp only
    rw [z_join_e, if_neg hz]
    dsimp only
    rw [if_neg hz]
    exact ⟨_, rfl, ⟨by omega, by omega, by omega, by rw [hg_u_j (by omega), hg_u_s]; rfl, by rw [hg_u_s]⟩, fun q q1 q2 => by rw [hg_u_n q1, hg_u_n q1, m5 q q2]⟩
theorem ty_lc_good {s : zS} {b : Nat → Nat} {L l t f e v n : Nat} (h : tx_Y s b L) (h0 : s 37 6 = nI 0) (ht : s 40 4 = nI t) (hT : tx_T b L t f e 3 v) : ∃ s1, s1 40 4 = nI e ∧ (∀ q, q ≠ 40 → s1 q = s q) ∧ ∀ s2, f_Tr_take_37 (nI l) s1 = some s2 → s2 37 6 = nI 0 → s2 37 5 = nI n → ty_lc l s = some ((1 : Int32), z_u s2 37 5 (nI (n + 1))) := by
  obtain ⟨s1, m0, m1, m2, m3, m4, m5⟩ := ty_move h ht hT
  refine ⟨s1, m3, m5, fun s2 g1 g2 g3 => ?_⟩
  unfold ty_lc
  rw [z_join_e, if_pos (show s 37 6 = 0 from h0)]
  unfold f_Tr_readSemicolon_37
  rw [m0, z_bs, m1, if_neg (show ¬ nI 3 = (4 : Int32) by decide), if_pos (show nI 3 = (3 : Int32) from rfl), z_bs]
  dsimp only
  rw [z_join_e, if_pos (show s1 37 6 = 0 by rw [m5 37 (by omega)]; exact h0), g1, z_bs, z_let_e, g3, nl1, nI_add]
  dsimp only
  rw [if_pos (show (z_u s2 37 5 (nI (n + 1))) 37 6 = 0 by rw [hg_u_j (by omega)]; exact g2)]
noncomputable def tm_fc : zS → Option zS := fun t11 =>
  z_join (T := zS) (fun t12 =>
      (f_M_step t12).bind fun r13 =>
      some r13
    ) (fun j12 =>
      if (t11 90 15) = 0 then
        if (t11 90 19) = (3 : Int32) then
          j12 t11
        else
          (f_M_fails (2 : Int32) t11).bind fun r16 =>
          j12 r16
      else
        j12 t11
    )
theorem tm_fc_bad {y : zS} {w f : Nat} (h : tm_bk y w f) : tm_fc y = some y := by
  obtain ⟨w1, w2, w3, w4, w5⟩ := h
  unfold tm_fc
  rw [z_join_e, w4, nl0, if_neg (show ¬ nI w = nI 0 by rw [nI_eq (by omega) (by omega)]; omega)]
  dsimp only
  rw [tm_stepB w4 (by omega) (by omega), z_bs]
theorem tm_fc_semi {y : zS} {b : Nat → Nat} {L t f e k v : Nat} (h : tx_M y b L) (hK : tx_tk y f e k v) (hT : tx_T b L t f e k v) (hk : ¬ k = 3) : ∃ y', tm_fc y = some y' ∧ tm_bk y' (if k = 4 then 1 else 2) f ∧ tx_fr y y' := by
  obtain ⟨k1, k2, k3, k4⟩ := id hK
  obtain ⟨f1, f2, f3, f4, f5, f6, f7⟩ := tx_T_f hT
  have hL := h.2.1
  by_cases c4 : k = 4
  · obtain ⟨b1, b2⟩ := k3 c4
    have hb : tm_bk y 1 f := ⟨by omega, by omega, by omega, b1, b2.1⟩
    rw [if_pos c4]
    exact ⟨y, tm_fc_bad hb, hb, tx_fr_r y⟩
  · obtain ⟨b1, b2, b3⟩ := k4 c4
    rw [if_neg c4]
    unfold tm_fc
    have g2 : (z_u (z_u y 90 15 (2 : Int32)) 90 16 (nI f)) 90 15 = nI 2 := by rw [hg_u_j (by omega), hg_u_s]; rfl
    rw [z_join_e, if_pos (show y 90 15 = 0 from b1), b2, show (3 : Int32) = nI 3 from rfl, if_neg (show ¬ nI k = nI 3 by rw [nI_eq (by omega) (by omega)]; exact hk), tm_fails b1 k1, z_bs]
    dsimp only
    rw [tm_stepB g2 (by omega) (by omega), z_bs]
    exact ⟨_, rfl, ⟨by omega, by omega, by omega, g2, by rw [hg_u_s]⟩, tx_fr_u (tx_fr_u (tx_fr_r y) (by omega) (by omega)) (by omega) (by omega)⟩
theorem tm_fc_good {y : zS} {b : Nat → Nat} {L t f e v : Nat} (h : tx_M y b L) (hK : tx_tk y f e 3 v) (hT : tx_T b L t f e 3 v) : ∃ y' f' e' k' v', tm_fc y = some y' ∧ tx_T b L e f' e' k' v' ∧ tx_tk y' f' e' k' v' ∧ tx_fr y y' := by
  obtain ⟨k1, k2, k3, k4⟩ := id hK
  obtain ⟨f1, f2, f3, f4, f5, f6, f7⟩ := tx_T_f hT
  obtain ⟨b1, b2, b3⟩ := k4 (by omega)
  obtain ⟨f', e', k', v', hT'⟩ := tx_T_ex (b := b) f3
  obtain ⟨y', s1, s2, s3⟩ := tm_step h k2 b1 hT'
  unfold tm_fc
  rw [z_join_e, if_pos (show y 90 15 = 0 from b1), b2, if_pos (show nI 3 = (3 : Int32) from rfl)]
  dsimp only
  rw [s1, z_bs]
  exact ⟨y', f', e', k', v', rfl, hT', s2, s3⟩
theorem tm_go {y y2 : zS} {l o R : Nat} (hl : l < 8) (hn : f_M_nameHere y = some (nI l)) (ho : o < 2 ^ 32) (h9 : y 90 9 = nI o) (h8 : y 90 8 = nI R) (hR : R ≤ 5) (h5 : l = 5 → R < 5) (h07 : (l = 0 ∨ l = 7) → o.testBit l = false) (hs : f_M_step (z_u y 90 9 (nI (o ||| 2 ^ l))) = some y2) : (y2 90 15 = nI 1 → f_M_readLine y = some y2) ∧ (y2 90 15 = nI 0 → f_M_readLine y = ((if 1 ≤ l ∧ l ≤ 3 then f_M_readCell (nI l) y2 else f_M_readMore (nI l) y2).bind tm_fc)) := by
  have e : f_M_readLine y = if (y2 90 15) ≤ 0 then ((f_M_in (nI l).toInt64 (1 : Int64) (3 : Int64) y2).bind fun r10 => z_join (T := zS) tm_fc (fun j11 => if r10 = 0 then (f_M_readMore (nI l) y2).bind fun r18 => j11 r18 else (f_M_readCell (nI l) y2).bind fun r19 => j11 r19)) else some y2 := by
    unfold f_M_readLine
    rw [hn, z_bs, tm_in (lo := 0) (hi := 7) (by omega) rfl rfl, if_pos (show 0 ≤ l ∧ l ≤ 7 by omega), z_bs, if_neg (show ¬ nI 1 = 0 by decide)]
    rw [hg_join_to (x := y) (fun j => by
      by_cases c : l = 5
      · rw [if_pos (show nI l = (5 : Int32) by rw [c]; rfl), h8, show (5 : Int32) = nI 5 from rfl, if_neg (show ¬ nI R = nI 5 by rw [nI_eq (by omega) (by omega)]; have := h5 c; omega)]
      · rw [show (5 : Int32) = nI 5 from rfl, if_neg (show ¬ nI l = nI 5 by rw [nI_eq (by omega) (by omega)]; exact c)])]
    rw [hg_join_to (x := y) (fun j => by
      rw [z_join_e]
      have hn : ∀ {γ : Type} (A B : γ), (l = 0 ∨ l = 7) → (if ((y 90 9) >>> (nI l &&& 31)) &&& (1 : Int32) = (1 : Int32) then A else B) = B := fun A B hc => by
        rw [h9, show (31 : Int32) = nI 31 from rfl, nl1, z_sbit ho (by omega), h07 hc]
        exact if_neg (by decide)
      by_cases c0 : l = 0
      · rw [if_pos (show nI l = 0 by rw [c0]; rfl), hn _ _ (Or.inl c0)]
      · rw [show (0 : Int32) = nI 0 from rfl, if_neg (show ¬ nI l = nI 0 by rw [nI_eq (by omega) (by omega)]; exact c0)]
        by_cases c7 : l = 7
        · rw [if_pos (show nI l = (7 : Int32) by rw [c7]; rfl), hn _ _ (Or.inr c7)]
        · rw [show (7 : Int32) = nI 7 from rfl, if_neg (show ¬ nI l = nI 7 by rw [nI_eq (by omega) (by omega)]; exact c7)])]
    rw [z_let_e, h9, show ((1 : Int32) <<< (nI l &&& 31)) = nI (2 ^ l) from z_shl (by omega), z_or, hs, z_bs]
    rfl
  refine ⟨fun hb => ?_, fun hb => ?_⟩
  · rw [e, hb, if_neg (show ¬ nI 1 ≤ 0 by decide)]
  · rw [e, hb, if_pos (show nI 0 ≤ 0 by decide), tm_in (lo := 1) (hi := 3) (by omega) rfl rfl, z_bs, z_join_e]
    by_cases c : 1 ≤ l ∧ l ≤ 3
    · rw [if_pos c, if_pos c, if_neg (show ¬ nI 1 = 0 by decide)]
    · rw [if_neg c, if_neg c, if_pos (show nI 0 = 0 from rfl)]
