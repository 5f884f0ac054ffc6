/-! the text: the ends -/
def tx_be (W H : Nat) (p : Nat → Nat) (e : Nat) : Prop := (p 80).testBit e = true ∧ ¬ g_ed W H e = true
/-- what the whole text shows: 6 a cell, 7 an edge that is not there, 0 nothing -/
def tx_F (W H : Nat) (p : Nat → Nat) (m w : Nat) : Prop := (w = 6 ∧ W * H < m) ∨ (m ≤ W * H ∧ ((w = 7 ∧ ∃ e, e < 32 ∧ tx_be W H p e) ∨ (w = 0 ∧ ∀ e, e < 32 → ¬ tx_be W H p e)))
theorem tx_F_ex (W H : Nat) (p : Nat → Nat) (m : Nat) : ∃ w, tx_F W H p m w := by
  by_cases c : W * H < m
  · exact ⟨6, Or.inl ⟨rfl, c⟩⟩
  · by_cases d : ∃ e, e < 32 ∧ tx_be W H p e
    · exact ⟨7, Or.inr ⟨by omega, Or.inl ⟨rfl, d⟩⟩⟩
    · exact ⟨0, Or.inr ⟨by omega, Or.inr ⟨rfl, fun e he hb => d ⟨e, he, hb⟩⟩⟩⟩
section EN
variable {b : Nat → Nat} {L W H R : Nat} {p t : Nat → Nat} {o m n : Nat}
def ty_f7 (x x' : zS) : Prop := (∀ q, q ≠ 37 → x' q = x q) ∧ ∀ j, j ≠ 6 → j ≠ 7 → x' 37 j = x 37 j
theorem ty_check {x : zS} {c0 c7 w : Nat} (hP : tx_SP W H R p t o m) (hY : tx_SY x b L W H R p t c0 c7 n) (hF : tx_F W H p m w) (h0 : x 37 6 = nI 0) : ∃ x', f_Tr_checkAll_37 x = some x' ∧ ty_f7 x x' ∧ (¬ w = 0 → ty_bk x' w L) ∧ (w = 0 → x' = x) := by
  obtain ⟨P1, P2, P3, P4, P5, P6, P7, P8, P9, P10⟩ := id hP
  obtain ⟨Y1, Y2, Y3, Y4, Y5, Y6⟩ := id hY
  obtain ⟨n1, n2⟩ := hg_D_N P1
  have hL := Y2.2.1
  have hp : 2 ^ m ≤ 2 ^ 16 := Nat.pow_le_pow_right (by omega) P8
  have hfl : ∀ (s : zS) (c : Nat), 1 ≤ c → c ≤ 7 → ty_f7 x s → ty_f7 x (z_u (z_u s 37 6 (nI c)) 37 7 (nI L)) ∧ ty_bk (z_u (z_u s 37 6 (nI c)) 37 7 (nI L)) c L := fun s c h1 h2 h3 => ⟨⟨fun q hq => by rw [hg_u_n hq, hg_u_n hq, h3.1 q hq], fun j h6 h7 => by rw [hg_u_j h7, hg_u_j h6, h3.2 j h6 h7]⟩, h1, h2, by omega, by rw [hg_u_j (by omega), hg_u_s], by rw [hg_u_s]⟩
  unfold f_Tr_checkAll_37
  rw [y_cells_17 P1 Y1, z_bs, show (1 : Int32).toNatClampNeg = 1 from rfl, show (2 : Int32).toNatClampNeg = 2 from rfl, show (3 : Int32).toNatClampNeg = 3 from rfl, Y6 1 (by unfold tx_J; omega), Y6 2 (by unfold tx_J; omega), Y6 3 (by unfold tx_J; omega), z_or, z_or, hg_us (W * H) (by omega) (by omega)]
  rcases hF with ⟨rfl, hF⟩ | ⟨hF, hF2⟩
  · have hge : 2 ^ (W * H) ≤ t 1 ||| t 2 ||| t 3 := by
      rcases P10 with z | z
      · omega
      · exact Nat.le_trans (Nat.pow_le_pow_right (by omega) (by omega)) z
    have hdv : 1 ≤ (t 1 ||| t 2 ||| t 3) / 2 ^ (W * H) := (Nat.one_le_div_iff (Nat.two_pow_pos _)).mpr hge
    have hdl : (t 1 ||| t 2 ||| t 3) / 2 ^ (W * H) ≤ t 1 ||| t 2 ||| t 3 := Nat.div_le_self _ _
    rw [nl0, if_neg (show ¬ nI ((t 1 ||| t 2 ||| t 3) / 2 ^ (W * H)) = nI 0 by rw [nI_eq (by omega) (by omega)]; omega), Y2.1, ty_fail, z_bs]
    obtain ⟨q1, q2⟩ := hfl x 6 (by omega) (by omega) ⟨fun _ _ => rfl, fun _ _ _ => rfl⟩
    exact ⟨_, rfl, q1, fun _ => q2, fun z => absurd z (by omega)⟩
  · have hlt : t 1 ||| t 2 ||| t 3 < 2 ^ (W * H) := Nat.lt_of_lt_of_le P9 (Nat.pow_le_pow_right (by omega) hF)
    rw [Nat.div_eq_of_lt hlt, if_pos (show nI 0 = 0 from rfl)]
    refine z_lp (fun i (s : Int32 × zS) => s.1 = nI i ∧ ty_f7 x s.2 ∧ ((s.2 = x ∧ ∀ e, e < i → ¬ tx_be W H p e) ∨ ((∃ e, e < i ∧ tx_be W H p e) ∧ ty_bk s.2 7 L))) 32 ⟨rfl, ⟨fun _ _ => rfl, fun _ _ _ => rfl⟩, Or.inl ⟨rfl, fun e he => by omega⟩⟩ (fun i s hi hs => ?_) (fun s hs => ?_)
    · obtain ⟨i', s⟩ := s
      obtain ⟨s1, s2, s3⟩ := hs
      dsimp only at s1 s2 s3
      subst s1
      left
      dsimp only
      have e38 : s 38 4 = nI (p 80) := by rw [s2.1 38 (by omega), Y6 4 (by unfold tx_J; omega), P7]
      have hG : hg_G17 s p W H R := hg_G17_c Y1 (fun q _ _ => s2.1 q (by omega))
      have e35 : s 35 1 = nI L := by rw [s2.1 35 (by omega)]; exact Y2.1
      rw [show (32 : Int32) = nI 32 from rfl, if_neg (nI_ge hi (by omega)), show (4 : Int32) = nI 4 from rfl, ty_told (by omega) e38 P2.2.1 hi, z_bs, nl1, nI_add]
      have keep : ¬ tx_be W H p i → ∃ s', some (Sum.inl (nI (i + 1), s)) = (some (Sum.inl s') : Option ((Int32 × zS) ⊕ zS)) ∧ s'.1 = nI (i + 1) ∧ ty_f7 x s'.2 ∧ ((s'.2 = x ∧ ∀ e, e < i + 1 → ¬ tx_be W H p e) ∨ ((∃ e, e < i + 1 ∧ tx_be W H p e) ∧ ty_bk s'.2 7 L)) := fun hb => by
        refine ⟨_, rfl, rfl, s2, ?_⟩
        rcases s3 with ⟨q1, q2⟩ | ⟨⟨e, q1, q2⟩, q3⟩
        · refine Or.inl ⟨q1, fun e he => ?_⟩
          by_cases z : e = i
          · rw [z]; exact hb
          · exact q2 e (by omega)
        · exact Or.inr ⟨⟨e, by omega, q2⟩, q3⟩
      by_cases ct : (p 80).testBit i = true
      · by_cases cg : g_ed W H i = true
        · rw [hg_join_to (x := s) (fun j => by rw [if_pos ct, if_neg (show ¬ nI 1 = 0 by decide), yy_hasEdge_17 P1 hG, nI_toInt (by omega), Int.toNat_natCast, if_pos ⟨by omega, cg⟩, z_bs, if_neg (show ¬ nI 1 = 0 by decide)])]
          exact keep (fun z => z.2 cg)
        · rw [hg_join_to (x := z_u (z_u s 37 6 (nI 7)) 37 7 (nI L)) (fun j => by rw [if_pos ct, if_neg (show ¬ nI 1 = 0 by decide), yy_hasEdge_17 P1 hG, nI_toInt (by omega), Int.toNat_natCast, if_neg (fun z => cg z.2), z_bs, if_pos (show nI 0 = 0 from rfl), e35, show (7 : Int32) = nI 7 from rfl, ty_fail, z_bs])]
          obtain ⟨q1, q2⟩ := hfl s 7 (by omega) (by omega) s2
          exact ⟨_, rfl, rfl, q1, Or.inr ⟨⟨i, by omega, ct, cg⟩, q2⟩⟩
      · rw [hg_join_to (x := s) (fun j => by rw [if_neg ct, if_pos (show nI 0 = 0 from rfl)])]
        exact keep (fun z => ct z.1)
    · obtain ⟨i', s⟩ := s
      obtain ⟨s1, s2, s3⟩ := hs
      dsimp only at s1 s2 s3
      subst s1
      dsimp only
      rw [if_pos (show (32 : Int32) ≤ nI 32 by decide)]
      refine ⟨_, rfl, _, rfl, s2, fun hw => ?_, fun hw => ?_⟩
      · rcases hF2 with ⟨rfl, e, e1, e2⟩ | ⟨z, -⟩
        · rcases s3 with ⟨q1, q2⟩ | ⟨q1, q2⟩
          · exact absurd e2 (q2 e e1)
          · exact q2
        · exact absurd z hw
      · rcases hF2 with ⟨rfl, e, e1, e2⟩ | ⟨z, z2⟩
        · omega
        · rcases s3 with ⟨q1, q2⟩ | ⟨⟨e, e1, e2⟩, q2⟩
          · exact q1
          · exact absurd e2 (z2 e e1)
theorem tm_endB {y : zS} {N : Int32} {w f : Nat} (h : tm_bk y w f) : tm_ac (N, y) = some ((-10 : Int32) - nI f, z_u (z_u y 90 13 0) 90 14 (nI w)) := by
  obtain ⟨w1, w2, w3, w4, w5⟩ := h
  have hz : ¬ y 90 15 = 0 := by rw [w4, nl0, nI_eq (by omega) (by omega)]; omega
  unfold tm_ac
  rw [z_join_e]
  dsimp only
  rw [if_neg hz, z_loop_eq]
  dsimp only
  rw [if_neg (show ¬ (32 : Int32) ≤ 0 by decide), if_neg hz, z_bs]
  dsimp only
  rw [z_bs, z_let_e, z_let_e]
  have e15 : (z_u (z_u y 90 13 0) 90 14 ((z_u y 90 13 0) 90 15)) 90 15 = nI w := by rw [hg_u_j (by omega), hg_u_j (by omega), w4]
  rw [e15, nl0, if_neg (nI_ge (show 0 < w by omega) (by omega)), hg_u_j (by omega), hg_u_j (by omega), w5, hg_u_j (by omega), w4]
end EN
