/-! the text: the reference's end -/
section EM
variable {b : Nat → Nat} {L W H R : Nat} {p t : Nat → Nat} {o m n : Nat}
theorem tm_fail_e {y : zS} {w : Nat} (hz : y 90 15 = nI 0) (hh : y 90 18 = nI L) (hL : L ≤ 160) (h1 : 1 ≤ w) (h7 : w ≤ 7) : f_M_fails (nI w) y = some (z_u (z_u y 90 15 (nI w)) 90 16 (nI L)) ∧ tm_bk (z_u (z_u y 90 15 (nI w)) 90 16 (nI L)) w L :=
  ⟨tm_fails hz hh, h1, h7, hL, by rw [hg_u_j (by omega), hg_u_s], hg_u_s⟩
theorem tm_lt {W H m : Nat} (hm : m ≤ 16) (n2 : W * H ≤ 16) : (nI m - nI 1 < nI (W * H)) ↔ m ≤ W * H := by
  have hmi : (nI m - nI 1).toInt = (m : Int) - 1 := by
    rcases Nat.eq_zero_or_pos m with z | z
    · subst z; rfl
    · rw [pk_sub z, nI_toInt (by omega)]; omega
  rw [Int32.lt_iff_toInt_lt, hmi, nI_toInt (by omega)]
  omega
theorem tm_end6 {y : zS} {N : Int32} (hP : tx_SP W H R p t o m) (hM : tx_SM y b L W H R p t o m) (hz : y 90 15 = nI 0) (hh : y 90 18 = nI L) (hF : W * H < m) : tm_ac (N, y) = tm_ac (N, z_u (z_u y 90 15 (nI 6)) 90 16 (nI L)) := by
  obtain ⟨P1, P2, P3, P4, P5, P6, P7, P8, P9, P10⟩ := id hP
  obtain ⟨M1, M2, M3, M4, M5, M6, M7, M8⟩ := id hM
  obtain ⟨n1, n2⟩ := hg_D_N P1
  obtain ⟨g1, g2⟩ := tm_fail_e (w := 6) hz hh M1.2.1 (by omega) (by omega)
  have hzF : ¬ (z_u (z_u y 90 15 (nI 6)) 90 16 (nI L)) 90 15 = 0 := by rw [g2.2.2.2.1]; decide
  unfold tm_ac
  rw [z_join_e, z_join_e]
  dsimp only
  rw [if_pos (show y 90 15 = 0 from hz), if_neg (show ¬ y 90 11 < y 90 6 * y 90 7 from fun z => by rw [M8, M5, M6, pk_mul] at z; have := (tm_lt P8 n2).mp z; omega), show (6 : Int32) = nI 6 from rfl, g1, z_bs, if_neg hzF]
theorem tm_end7 {y : zS} {N : Int32} (hP : tx_SP W H R p t o m) (hM : tx_SM y b L W H R p t o m) (hz : y 90 15 = nI 0) (hh : y 90 18 = nI L) (hF : m ≤ W * H) : ∃ b20 : zS, ((b20 = y ∧ ∀ e, e < 32 → ¬ tx_be W H p e) ∨ ((∃ e, e < 32 ∧ tx_be W H p e) ∧ b20 = z_u (z_u y 90 15 (nI 7)) 90 16 (nI L))) ∧ tm_ac (N, y) = (z_let (z_u b20 90 13 (0 : Int32)) fun τ28 =>
                  z_let (z_u τ28 90 14 (τ28 90 15)) fun τ29 =>
                  if (τ29 90 15) ≤ 0 then
                    (z_loop (S := Int32 × zS) (β := zS) (fun s31 =>
                        if (110 : Int32) ≤ s31.1 then
                          some (.inr s31.2)
                        else
                          if z_ib s31.1 110 = true then
                          if z_ib s31.1 550 = true then
                          z_let (z_u s31.2 91 s31.1.toNatClampNeg (s31.2 93 s31.1.toNatClampNeg)) fun τ35 =>
                          some (.inl ((s31.1 + (1 : Int32)), τ35))
                          else none
                          else none
                      ) ((0 : Int32), τ29)).bind (fun b31 =>
                        z_let (z_u b31 90 1 (b31 90 6)) fun τ36 =>
                        z_let (z_u τ36 90 2 (τ36 90 7)) fun τ37 =>
                        z_let (z_u τ37 90 3 (τ37 90 8)) fun τ38 =>
                        z_let (z_u τ38 90 26 (0 : Int32)) fun τ39 =>
                        z_let (z_u τ39 101 (0 : Int32).toNatClampNeg (vp_nar .boolean (0 : Int32))) fun τ40 =>
                        z_let (z_u τ40 101 (1 : Int32).toNatClampNeg (vp_nar .boolean (0 : Int32))) fun τ41 =>
                        some (N, τ41)
                      )
                  else
                    some (((-10 : Int32) - (τ29 90 16)), τ29)) := by
  obtain ⟨P1, P2, P3, P4, P5, P6, P7, P8, P9, P10⟩ := id hP
  obtain ⟨M1, M2, M3, M4, M5, M6, M7, M8⟩ := id hM
  obtain ⟨n1, n2⟩ := hg_D_N P1
  obtain ⟨g1, g2⟩ := tm_fail_e (w := 7) hz hh M1.2.1 (by omega) (by omega)
  unfold tm_ac
  rw [z_join_e]
  dsimp only
  rw [if_pos (show y 90 15 = 0 from hz), if_pos (show y 90 11 < y 90 6 * y 90 7 by rw [M8, M5, M6, pk_mul]; exact (tm_lt P8 n2).mpr hF)]
  have hlp : ∃ b20, z_loop (S := Int32 × zS) (β := zS) (fun s20 =>
                  if (32 : Int32) ≤ s20.1 then
                    some (.inr s20.2)
                  else
                    if (s20.2 90 15) = 0 then
                      z_join (T := zS) (fun t23 =>
                          some (.inl ((s20.1 + (1 : Int32)), t23))
                        ) (fun j23 =>
                          if (((s20.2 93 (80 : Int32).toNatClampNeg) >>> (s20.1 &&& 31)) &&& (1 : Int32)) = (1 : Int32) then
                            (f_M_isEdgeOf s20.1 (s20.2 90 6) (s20.2 90 7) s20.2).bind fun r25 =>
                            if r25 = 0 then
                              (f_M_fails (7 : Int32) s20.2).bind fun r27 =>
                              j23 r27
                            else
                              j23 s20.2
                          else
                            j23 s20.2
                        )
                    else
                      some (.inr s20.2)
                ) ((0 : Int32), y) = some b20 ∧ ((b20 = y ∧ ∀ e, e < 32 → ¬ tx_be W H p e) ∨ ((∃ e, e < 32 ∧ tx_be W H p e) ∧ b20 = z_u (z_u y 90 15 (nI 7)) 90 16 (nI L))) := by
    refine z_for (fun i (s : Int32 × zS) => s.1 = nI i ∧ ((s.2 = y ∧ ∀ e, e < i → ¬ tx_be W H p e) ∨ ((∃ e, e < i ∧ tx_be W H p e) ∧ s.2 = z_u (z_u y 90 15 (nI 7)) 90 16 (nI L)))) _ 32 ⟨rfl, Or.inl ⟨rfl, fun e he => by omega⟩⟩ (fun i s hi hs => ?_) (fun s hs => ?_)
    · obtain ⟨i', s⟩ := s
      obtain ⟨s1, s3⟩ := hs
      dsimp only at s1 s3
      subst s1
      dsimp only
      rw [show (32 : Int32) = nI 32 from rfl, if_neg (nI_ge hi (by omega))]
      rcases s3 with ⟨rfl, q2⟩ | ⟨⟨e, q1, q2⟩, rfl⟩
      · left
        have hc : s 93 (80 : Int32).toNatClampNeg >>> (nI i &&& 31) &&& (1 : Int32) = nI (if (p 80).testBit i = true then 1 else 0) := by
          rw [show (80 : Int32).toNatClampNeg = 80 from rfl, M4 80 (by omega), show (31 : Int32) = nI 31 from rfl, nl1, z_sbit P2.2.1 hi]
        have hn : nI i + (1 : Int32) = nI (i + 1) := by rw [nl1, nI_add]
        rw [if_pos (show s 90 15 = 0 from hz), hn]
        have keep : ¬ tx_be W H p i → ∀ e, e < i + 1 → ¬ tx_be W H p e := fun hb e he => by
          by_cases z : e = i
          · rw [z]; exact hb
          · exact q2 e (by omega)
        by_cases ct : (p 80).testBit i = true
        · by_cases cg : g_ed W H i = true
          · rw [hg_join_to (x := s) (fun j => by rw [if_pos (show s 93 (80 : Int32).toNatClampNeg >>> (nI i &&& 31) &&& (1 : Int32) = 1 by rw [hc, if_pos ct]; rfl), M5, M6, mm_isEdgeOf P1, nI_toInt (by omega), Int.toNat_natCast, if_pos ⟨by omega, cg⟩, z_bs, if_neg (show ¬ nI 1 = 0 by decide)])]
            exact ⟨_, rfl, rfl, Or.inl ⟨rfl, keep (fun z => z.2 cg)⟩⟩
          · rw [hg_join_to (x := z_u (z_u s 90 15 (nI 7)) 90 16 (nI L)) (fun j => by rw [if_pos (show s 93 (80 : Int32).toNatClampNeg >>> (nI i &&& 31) &&& (1 : Int32) = 1 by rw [hc, if_pos ct]; rfl), M5, M6, mm_isEdgeOf P1, nI_toInt (by omega), Int.toNat_natCast, if_neg (fun z => cg z.2), z_bs, if_pos (show nI 0 = 0 from rfl), show (7 : Int32) = nI 7 from rfl, g1, z_bs])]
            exact ⟨_, rfl, rfl, Or.inr ⟨⟨i, by omega, ct, cg⟩, rfl⟩⟩
        · rw [hg_join_to (x := s) (fun j => by rw [if_neg (show ¬ s 93 (80 : Int32).toNatClampNeg >>> (nI i &&& 31) &&& (1 : Int32) = 1 by rw [hc, if_neg ct]; decide)])]
          exact ⟨_, rfl, rfl, Or.inl ⟨rfl, keep (fun z => ct z.1)⟩⟩
      · right
        rw [if_neg (show ¬ (z_u (z_u y 90 15 (nI 7)) 90 16 (nI L)) 90 15 = 0 by rw [g2.2.2.2.1]; decide)]
        exact ⟨_, rfl, Or.inr ⟨⟨e, by omega, q2⟩, rfl⟩⟩
    · obtain ⟨i', s⟩ := s
      obtain ⟨s1, s3⟩ := hs
      dsimp only at s1 s3
      subst s1
      dsimp only
      rw [if_pos (show (32 : Int32) ≤ nI 32 by decide)]
      exact ⟨_, rfl, s3⟩
  obtain ⟨b20, l1, l2⟩ := hlp
  refine ⟨b20, l2, ?_⟩
  rw [l1, z_bs]
end EM
