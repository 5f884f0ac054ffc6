/-! the text: the starts -/
theorem y_fill_18 (a : Int32) (σ : zS) : f_JA_fill_18 a σ = some (hg_fl σ 18 16 a) := by
  unfold f_JA_fill_18
  rw [hg_fill 18 16 16 rfl (by omega)]
  rfl
theorem y_fill_19 (a : Int32) (σ : zS) : f_JA_fill_19 a σ = some (hg_fl σ 19 16 a) := by
  unfold f_JA_fill_19
  rw [hg_fill 19 16 16 rfl (by omega)]
  rfl
theorem y_fill_20 (a : Int32) (σ : zS) : f_JA_fill_20 a σ = some (hg_fl σ 20 16 a) := by
  unfold f_JA_fill_20
  rw [hg_fill 20 16 16 rfl (by omega)]
  rfl
theorem y_fill_21 (a : Int32) (σ : zS) : f_JA_fill_21 a σ = some (hg_fl σ 21 16 a) := by
  unfold f_JA_fill_21
  rw [hg_fill 21 16 16 rfl (by omega)]
  rfl
theorem y_fill_22 (a : Int32) (σ : zS) : f_JA_fill_22 a σ = some (hg_fl σ 22 16 a) := by
  unfold f_JA_fill_22
  rw [hg_fill 22 16 16 rfl (by omega)]
  rfl
theorem y_fill_28 (a : Int32) (σ : zS) : f_JA_fill_28 a σ = some (hg_fl σ 28 4 a) := by
  unfold f_JA_fill_28
  rw [hg_fill 28 4 4 rfl (by omega)]
  rfl
theorem y_fill_29 (a : Int32) (σ : zS) : f_JA_fill_29 a σ = some (hg_fl σ 29 4 a) := by
  unfold f_JA_fill_29
  rw [hg_fill 29 4 4 rfl (by omega)]
  rfl
theorem y_fill_30 (a : Int32) (σ : zS) : f_JA_fill_30 a σ = some (hg_fl σ 30 3 a) := by
  unfold f_JA_fill_30
  rw [hg_fill 30 3 3 rfl (by omega)]
  rfl
theorem y_fill_38 (a : Int32) (σ : zS) : f_JA_fill_38 a σ = some (hg_fl σ 38 8 a) := by
  unfold f_JA_fill_38
  rw [hg_fill 38 8 8 rfl (by omega)]
  rfl
theorem yy_clear (σ : zS) : ∃ x, f_G_clear_17 σ = some x ∧ hg_G17 x (fun _ => 0) 2 2 0 ∧ ∀ k, (k < 17 ∨ 30 < k) → x k = σ k := by
  unfold f_G_clear_17 f_Sp_clear_27
  rw [z_let_e, z_let_e, y_fill_18, z_bs, y_fill_19, z_bs, y_fill_20, z_bs, y_fill_21, z_bs, y_fill_22, z_bs, z_let_e, z_let_e, y_fill_28, z_bs, y_fill_29, z_bs, z_let_e, z_bs, z_let_e, y_fill_30, z_bs, z_let_e, z_let_e]
  refine ⟨_, rfl, ⟨?_, ?_, ?_, fun c hc => ?_, fun c hc => ?_, fun c hc => ?_, fun c hc => ?_, fun c hc => ?_, ?_, fun k hk => ?_, fun k hk => ?_, fun k hk => ?_, fun s hs => ?_, fun s hs => ?_, ?_, ?_, fun o ho => ?_, ?_⟩, fun k hk => ?_⟩
  · simp (disch := omega) only [hg_u_s, hg_u_j, hg_u_n, hg_fl_s, hg_fl_n]; rfl
  · simp (disch := omega) only [hg_u_s, hg_u_j, hg_u_n, hg_fl_s, hg_fl_n]; rfl
  · simp (disch := omega) only [hg_u_s, hg_u_j, hg_u_n, hg_fl_s, hg_fl_n]; rfl
  · simp (disch := omega) only [hg_u_s, hg_u_j, hg_u_n, hg_fl_s, hg_fl_n]; rfl
  · simp (disch := omega) only [hg_u_s, hg_u_j, hg_u_n, hg_fl_s, hg_fl_n]; rfl
  · simp (disch := omega) only [hg_u_s, hg_u_j, hg_u_n, hg_fl_s, hg_fl_n]; rfl
  · simp (disch := omega) only [hg_u_s, hg_u_j, hg_u_n, hg_fl_s, hg_fl_n]; rfl
  · simp (disch := omega) only [hg_u_s, hg_u_j, hg_u_n, hg_fl_s, hg_fl_n]; rfl
  · simp (disch := omega) only [hg_u_s, hg_u_j, hg_u_n, hg_fl_s, hg_fl_n]; rfl
  · omega
  · omega
  · omega
  · simp (disch := omega) only [hg_u_s, hg_u_j, hg_u_n, hg_fl_s, hg_fl_n]; rfl
  · simp (disch := omega) only [hg_u_s, hg_u_j, hg_u_n, hg_fl_s, hg_fl_n]; rfl
  · simp (disch := omega) only [hg_u_s, hg_u_j, hg_u_n, hg_fl_s, hg_fl_n]; rfl
  · simp (disch := omega) only [hg_u_s, hg_u_j, hg_u_n, hg_fl_s, hg_fl_n]; rfl
  · simp (disch := omega) only [hg_u_s, hg_u_j, hg_u_n, hg_fl_s, hg_fl_n]; rfl
  · simp (disch := omega) only [hg_u_s, hg_u_j, hg_u_n, hg_fl_s, hg_fl_n]; rfl
  · simp (disch := omega) only [hg_u_n, hg_fl_n]
noncomputable def ty_ac : zS → Option (Int32 × zS) := fun b7 =>
  z_join (T := zS) (fun t11 =>
      if (t11 37 6) = 0 then
        some ((1 : Int32), t11)
      else
        some ((0 : Int32), t11)
    ) (fun j11 =>
      if (b7 37 6) = 0 then
        (f_Tr_checkAll_37 b7).bind fun r14 =>
        j11 r14
      else
        j11 b7
    )
theorem ty_begin {σ : zS} {b : Nat → Nat} {L : Nat} (h : tx_Y σ b L) : ∃ x0, f_Tr_readAll_37 σ = (z_loop ty_as ((1 : Int32), nI 0, x0)).bind ty_ac ∧ tx_SY x0 b L 2 2 0 (fun _ => 0) (fun _ => 0) 0 0 0 ∧ x0 37 6 = nI 0 ∧ x0 40 4 = nI 0 ∧ tyF σ x0 := by
  obtain ⟨x, c1, c2, c3⟩ := yy_clear σ
  have e : f_Tr_readAll_37 σ = (z_loop ty_as ((1 : Int32), nI 0, (z_u (z_u (z_u (hg_fl (z_u x 40 4 0) 38 8 0) 37 5 0) 37 6 0) 37 7 0))).bind ty_ac := by
    unfold f_Tr_readAll_37 f_Tk_begin_40
    rw [c1, z_bs, z_let_e, z_bs, y_fill_38, z_bs, z_let_e, z_let_e, z_let_e]
    rfl
  rw [e]
  refine ⟨_, rfl, ⟨hg_G17_c c2 (fun q _ _ => ?_), tx_Y_c h ?_ ?_, ?_, ?_, ?_, fun j hj => ?_⟩, ?_, ?_, fun q q1 q2 q3 q4 q5 => ?_⟩
  · rw [hg_u_n (by omega), hg_u_n (by omega), hg_u_n (by omega), hg_fl_n (by omega), hg_u_n (by omega)]
  · rw [hg_u_n (by omega), hg_u_n (by omega), hg_u_n (by omega), hg_fl_n (by omega), hg_u_n (by omega), c3 35 (by omega)]
  · rw [hg_u_n (by omega), hg_u_n (by omega), hg_u_n (by omega), hg_fl_n (by omega), hg_u_n (by omega), c3 36 (by omega)]
  · rw [hg_u_j (by omega), hg_u_j (by omega), hg_u_s]; rfl
  · rw [hg_u_n (by omega), hg_u_n (by omega), hg_u_n (by omega), hg_fl_s (by omega)]; rfl
  · rw [hg_u_n (by omega), hg_u_n (by omega), hg_u_n (by omega), hg_fl_s (by omega)]; rfl
  · rw [hg_u_n (by omega), hg_u_n (by omega), hg_u_n (by omega), hg_fl_s (by unfold tx_J at hj; omega)]; rfl
  · rw [hg_u_j (by omega), hg_u_s]; rfl
  · rw [hg_u_n (by omega), hg_u_n (by omega), hg_u_n (by omega), hg_fl_n (by omega), hg_u_s]; rfl
  · rw [hg_u_n q2, hg_u_n q2, hg_u_n q2, hg_fl_n q3, hg_u_n q5, c3 q q1]
noncomputable def tm_ac : Int32 × zS → Option (Int32 × zS) := fun b15 =>
          z_join (T := zS) (fun t19 =>
              (z_loop (S := Int32 × zS) (β := zS) (fun s20 =>
                  if (32 : Int32) ≤ s20.1 then
                    some (.inr s20.2)
                  else
                    if (s20.2 90 15) = 0 then
                      z_join (T := zS) (fun t23 =>
                          some (.inl ((s20.1 + (1 : Int32)), t23))
                        ) (fun j23 =>
                          if (((s20.2 93 (80 : Int32).toNatClampNeg) >>> (s20.1 &&& 31)) &&& (1 : Int32)) = (1 : Int32) then
                            (f_M_isEdgeOf s20.1 (s20.2 90 6) (s20.2 90 7) s20.2).bind fun r25 =>
                            if r25 = 0 then
                              (f_M_fails (7 : Int32) s20.2).bind fun r27 =>
                              j23 r27
                            else
                              j23 s20.2
                          else
                            j23 s20.2
                        )
                    else
                      some (.inr s20.2)
                ) ((0 : Int32), t19)).bind (fun b20 =>
                  z_let (z_u b20 90 13 (0 : Int32)) fun τ28 =>
                  z_let (z_u τ28 90 14 (τ28 90 15)) fun τ29 =>
                  if (τ29 90 15) ≤ 0 then
                    (z_loop (S := Int32 × zS) (β := zS) (fun s31 =>
                        if (110 : Int32) ≤ s31.1 then
                          some (.inr s31.2)
                        else
                          if z_ib s31.1 110 = true then
                          if z_ib s31.1 550 = true then
                          z_let (z_u s31.2 91 s31.1.toNatClampNeg (s31.2 93 s31.1.toNatClampNeg)) fun τ35 =>
                          some (.inl ((s31.1 + (1 : Int32)), τ35))
                          else none
                          else none
                      ) ((0 : Int32), τ29)).bind (fun b31 =>
                        z_let (z_u b31 90 1 (b31 90 6)) fun τ36 =>
                        z_let (z_u τ36 90 2 (τ36 90 7)) fun τ37 =>
                        z_let (z_u τ37 90 3 (τ37 90 8)) fun τ38 =>
                        z_let (z_u τ38 90 26 (0 : Int32)) fun τ39 =>
                        z_let (z_u τ39 101 (0 : Int32).toNatClampNeg (vp_nar .boolean (0 : Int32))) fun τ40 =>
                        z_let (z_u τ40 101 (1 : Int32).toNatClampNeg (vp_nar .boolean (0 : Int32))) fun τ41 =>
                        some (b15.1, τ41)
                      )
                  else
                    some (((-10 : Int32) - (τ29 90 16)), τ29)
                )
            ) (fun j19 =>
              if (b15.2 90 15) = 0 then
                if (b15.2 90 11) < ((b15.2 90 6) * (b15.2 90 7)) then
                  j19 b15.2
                else
                  (f_M_fails (6 : Int32) b15.2).bind fun r44 =>
                  j19 r44
              else
                j19 b15.2
            )
        
theorem tm_begin {σ : zS} {b : Nat → Nat} {L : Nat} (h : tx_M σ b L) : ∃ y0, f_M_text σ = ((f_M_step y0).bind fun r14 => (z_loop tm_as (nI 0, r14)).bind tm_ac) ∧ tx_SM y0 b L 2 2 0 (fun _ => 0) (fun _ => 0) 0 0 ∧ y0 90 15 = nI 0 ∧ y0 90 17 = nI 0 ∧ (∀ q, q ≠ 90 → q ≠ 93 → q ≠ 94 → y0 q = σ q) ∧ ∀ j, (j < 6 ∨ j = 10 ∨ j = 12 ∨ j = 13 ∨ j = 14 ∨ 20 < j) → y0 90 j = σ 90 j := by
  obtain ⟨τ, hτ⟩ : ∃ τ, τ = z_u (z_u (z_u (z_u (z_u (z_u (z_u σ 90 15 0) 90 17 0) 90 6 2) 90 7 2) 90 8 0) 90 9 0) 90 11 (-1) := ⟨_, rfl⟩
  have w15 : τ 90 15 = nI 0 := by rw [hτ]; simp (disch := omega) only [hg_u_s, hg_u_j]; rfl
  have w17 : τ 90 17 = nI 0 := by rw [hτ]; simp (disch := omega) only [hg_u_s, hg_u_j]; rfl
  have w6 : τ 90 6 = nI 2 := by rw [hτ]; simp (disch := omega) only [hg_u_s, hg_u_j]; rfl
  have w7 : τ 90 7 = nI 2 := by rw [hτ]; simp (disch := omega) only [hg_u_s, hg_u_j]; rfl
  have w8 : τ 90 8 = nI 0 := by rw [hτ]; simp (disch := omega) only [hg_u_s, hg_u_j]; rfl
  have w9 : τ 90 9 = nI 0 := by rw [hτ]; simp (disch := omega) only [hg_u_s, hg_u_j]; rfl
  have w11 : τ 90 11 = nI 0 - nI 1 := by rw [hτ]; simp (disch := omega) only [hg_u_s, hg_u_j]; rfl
  have wq : ∀ q, q ≠ 90 → τ q = σ q := fun q hq => by rw [hτ]; simp (disch := omega) only [hg_u_n]
  have wj : ∀ j, (j < 6 ∨ j = 10 ∨ j = 12 ∨ j = 13 ∨ j = 14 ∨ 20 < j) → τ 90 j = σ 90 j := fun j hj => by rw [hτ]; simp (disch := omega) only [hg_u_j]
  have hlp : ∃ y0, z_loop (S := Int32 × zS) (β := zS) (fun s8 =>
      if (110 : Int32) ≤ s8.1 then
        some (.inr s8.2)
      else
        if z_ib s8.1 110 = true then
        z_let (z_u s8.2 93 s8.1.toNatClampNeg (0 : Int32)) fun τ11 =>
        if z_ib (s8.1 - s8.1 / (8 : Int32) * (8 : Int32)) 8 = true then
        z_let (z_u τ11 94 (s8.1 - s8.1 / (8 : Int32) * (8 : Int32)).toNatClampNeg (0 : Int32)) fun τ13 =>
        some (.inl ((s8.1 + (1 : Int32)), τ13))
        else none
        else none
    ) ((0 : Int32), τ) = some y0 ∧ ((∀ k, k < 110 → y0 93 k = nI 0) ∧ (∀ j, j < 8 → y0 94 j = nI 0) ∧ ∀ q, q ≠ 93 → q ≠ 94 → y0 q = τ q) := by
    refine z_for' (fun i (s : Int32 × zS) => s.1 = nI i ∧ (∀ k, k < i → s.2 93 k = nI 0) ∧ (∀ j, j < i → j < 8 → s.2 94 j = nI 0) ∧ ∀ q, q ≠ 93 → q ≠ 94 → s.2 q = τ q) _ 110 ⟨rfl, fun k hk => by omega, fun k hk => by omega, fun _ _ _ => rfl⟩ (fun i s hi hs => ?_) (fun s hs => ?_)
    · obtain ⟨i', s⟩ := s
      obtain ⟨s1, s2, s3, s4⟩ := hs
      dsimp only at s1 s2 s3 s4
      subst s1
      dsimp only
      rw [show (110 : Int32) = nI 110 from rfl, if_neg (nI_ge hi (by omega)), if_pos ((z_ibn (by omega)).mpr hi), nI_clamp (by omega), z_let_e, show (8 : Int32) = nI 8 from rfl, pk_rem (by omega) (by omega) (by omega), if_pos ((z_ibn (by omega)).mpr (by omega)), nI_clamp (by omega), z_let_e, nl1, nI_add]
      refine ⟨_, rfl, rfl, fun k hk => ?_, fun j hj hj8 => ?_, fun q q1 q2 => by dsimp only; rw [hg_u_n q2, hg_u_n q1, s4 q q1 q2]⟩
      · dsimp only
        rw [hg_u_n (by omega)]
        by_cases z : k = i
        · rw [z, hg_u_s]; rfl
        · rw [hg_u_j z]; exact s2 k (by omega)
      · dsimp only
        by_cases z : j = i % 8
        · rw [z, hg_u_s]; rfl
        · rw [hg_u_j z, hg_u_n (by omega)]; exact s3 j (by omega) hj8
    · obtain ⟨i', s⟩ := s
      obtain ⟨s1, s2, s3, s4⟩ := hs
      dsimp only at s1 s2 s3 s4
      subst s1
      dsimp only
      rw [if_pos (show (110 : Int32) ≤ nI 110 by decide)]
      exact ⟨_, rfl, s2, fun j hj => s3 j (by omega) hj, s4⟩
  obtain ⟨y0, l1, l2, l3, l4⟩ := hlp
  have e : f_M_text σ = ((f_M_step y0).bind fun r14 => (z_loop tm_as (nI 0, r14)).bind tm_ac) := by
    unfold f_M_text
    rw [z_let_e, z_let_e, z_let_e, z_let_e, z_let_e, z_let_e, z_let_e, ← hτ, l1, z_bs]
    rfl
  refine ⟨y0, e, ⟨tx_M_c h (by rw [l4 90 (by omega) (by omega), wj 13 (by omega)]) (by rw [l4 95 (by omega) (by omega), wq 95 (by omega)]) (by rw [l4 96 (by omega) (by omega), wq 96 (by omega)]) (by rw [l4 97 (by omega) (by omega), wq 97 (by omega)]), ?_, fun j hj => l3 j (by unfold tx_J at hj; omega), l2, ?_, ?_, ?_, ?_⟩, ?_, ?_, fun q q1 q2 q3 => by rw [l4 q q2 q3, wq q q1], fun j hj => by rw [l4 90 (by omega) (by omega), wj j hj]⟩
  · rw [l4 90 (by omega) (by omega)]; exact w9
  · rw [l4 90 (by omega) (by omega)]; exact w6
  · rw [l4 90 (by omega) (by omega)]; exact w7
  · rw [l4 90 (by omega) (by omega)]; exact w8
  · rw [l4 90 (by omega) (by omega)]; exact w11
  · rw [l4 90 (by omega) (by omega)]; exact w15
  · rw [l4 90 (by omega) (by omega)]; exact w17
