/-! the text: the reference takes the page -/
noncomputable def tm_tl (N : Int32) (b20 : zS) : Option (Int32 × zS) := (z_let (z_u b20 90 13 (0 : Int32)) fun τ28 =>
                  z_let (z_u τ28 90 14 (τ28 90 15)) fun τ29 =>
                  if (τ29 90 15) ≤ 0 then
                    (z_loop (S := Int32 × zS) (β := zS) (fun s31 =>
                        if (110 : Int32) ≤ s31.1 then
                          some (.inr s31.2)
                        else
                          if z_ib s31.1 110 = true then
                          if z_ib s31.1 550 = true then
                          z_let (z_u s31.2 91 s31.1.toNatClampNeg (s31.2 93 s31.1.toNatClampNeg)) fun τ35 =>
                          some (.inl ((s31.1 + (1 : Int32)), τ35))
                          else none
                          else none
                      ) ((0 : Int32), τ29)).bind (fun b31 =>
                        z_let (z_u b31 90 1 (b31 90 6)) fun τ36 =>
                        z_let (z_u τ36 90 2 (τ36 90 7)) fun τ37 =>
                        z_let (z_u τ37 90 3 (τ37 90 8)) fun τ38 =>
                        z_let (z_u τ38 90 26 (0 : Int32)) fun τ39 =>
                        z_let (z_u τ39 101 (0 : Int32).toNatClampNeg (vp_nar .boolean (0 : Int32))) fun τ40 =>
                        z_let (z_u τ40 101 (1 : Int32).toNatClampNeg (vp_nar .boolean (0 : Int32))) fun τ41 =>
                        some (N, τ41)
                      )
                  else
                    some (((-10 : Int32) - (τ29 90 16)), τ29))
theorem z_pr {α β : Type} {ob : Option (α × β)} {a : α} {P : β → Prop} (h : ∃ g, ob = some g ∧ ∃ z, g = (a, z) ∧ P z) : ∃ z, ob = some (a, z) ∧ P z := by
  obtain ⟨g, h1, z, h2, h3⟩ := h
  exact ⟨z, by rw [h1, h2], h3⟩
section EC
variable {b : Nat → Nat} {L W H R : Nat} {p t : Nat → Nat} {o m n : Nat}
theorem tm_end7' {y : zS} {N : Int32} (hP : tx_SP W H R p t o m) (hM : tx_SM y b L W H R p t o m) (hz : y 90 15 = nI 0) (hh : y 90 18 = nI L) (hF : m ≤ W * H) : ∃ b20 : zS, ((b20 = y ∧ ∀ e, e < 32 → ¬ tx_be W H p e) ∨ ((∃ e, e < 32 ∧ tx_be W H p e) ∧ b20 = z_u (z_u y 90 15 (nI 7)) 90 16 (nI L))) ∧ tm_ac (N, y) = tm_tl N b20 := tm_end7 hP hM hz hh hF
theorem tm_tlB {y : zS} {N : Int32} {w f : Nat} (h : tm_bk y w f) : tm_tl N y = some ((-10 : Int32) - nI f, z_u (z_u y 90 13 0) 90 14 (nI w)) := by
  obtain ⟨w1, w2, w3, w4, w5⟩ := h
  unfold tm_tl
  rw [z_let_e, z_let_e]
  have e15 : (z_u (z_u y 90 13 0) 90 14 ((z_u y 90 13 0) 90 15)) 90 15 = nI w := by rw [hg_u_j (by omega), hg_u_j (by omega), w4]
  rw [e15, nl0, if_neg (nI_ge (show 0 < w by omega) (by omega)), hg_u_j (by omega), hg_u_j (by omega), w5, hg_u_j (by omega), w4]
theorem tm_tlG {y : zS} {N : Int32} (hM : tx_SM y b L W H R p t o m) (hz : y 90 15 = nI 0) : ∃ z, tm_tl N y = some (N, z) ∧ (∀ k, k < 110 → z 91 k = nI (p k)) ∧ z 90 1 = nI W ∧ z 90 2 = nI H ∧ z 90 3 = nI R ∧ z 90 26 = nI 0 ∧ z 90 13 = nI 0 ∧ z 90 14 = nI 0 ∧ z 101 0 = nI 0 ∧ z 101 1 = nI 0 ∧ (∀ q, q ≠ 90 → q ≠ 91 → q ≠ 101 → z q = y q) ∧ ∀ j, j ≠ 1 → j ≠ 2 → j ≠ 3 → j ≠ 13 → j ≠ 14 → j ≠ 26 → z 90 j = y 90 j := by
  obtain ⟨M1, M2, M3, M4, M5, M6, M7, M8⟩ := id hM
  unfold tm_tl
  rw [z_let_e, z_let_e]
  obtain ⟨τ, hτ⟩ : ∃ τ, τ = z_u (z_u y 90 13 (0 : Int32)) 90 14 ((z_u y 90 13 (0 : Int32)) 90 15) := ⟨_, rfl⟩
  rw [← hτ]
  have e15 : τ 90 15 = nI 0 := by rw [hτ, hg_u_j (by omega), hg_u_j (by omega), hz]
  have e13 : τ 90 13 = nI 0 := by rw [hτ, hg_u_j (by omega), hg_u_s]; rfl
  have e14 : τ 90 14 = nI 0 := by rw [hτ, hg_u_s, hg_u_j (by omega), hz]
  have eq : ∀ q, q ≠ 90 → τ q = y q := fun q hq => by rw [hτ, hg_u_n hq, hg_u_n hq]
  have ej : ∀ j, j ≠ 13 → j ≠ 14 → τ 90 j = y 90 j := fun j h1 h2 => by rw [hτ, hg_u_j h2, hg_u_j h1]
  rw [if_pos (show τ 90 15 ≤ 0 by rw [e15]; decide)]
  refine z_pr ?_
  refine z_lp' (s := ((0 : Int32), τ)) (fun i (s : Int32 × zS) => s.1 = nI i ∧ (∀ k, k < i → s.2 91 k = nI (p k)) ∧ ∀ q, q ≠ 91 → s.2 q = τ q) 110 ⟨rfl, fun k hk => by omega, fun _ _ => rfl⟩ (fun i s hi hs => ?_) (fun s hs => ?_)
  · obtain ⟨i', s⟩ := s
    obtain ⟨s1, s2, s3⟩ := hs
    dsimp only at s1 s2 s3
    subst s1
    dsimp only
    rw [show (110 : Int32) = nI 110 from rfl, if_neg (nI_ge hi (by omega)), if_pos ((z_ibn (by omega)).mpr hi), if_pos ((z_ibn (by omega)).mpr (by omega)), z_let_e, nI_clamp (by omega), s3 93 (by omega), eq 93 (by omega), M4 i hi, nl1, nI_add]
    refine ⟨_, rfl, rfl, fun k hk => ?_, fun q hq => ?_⟩
    · dsimp only
      by_cases z : k = i
      · rw [z, hg_u_s]
      · rw [hg_u_j z]; exact s2 k (by omega)
    · dsimp only
      rw [hg_u_n hq, s3 q hq]
  · obtain ⟨i', s⟩ := s
    obtain ⟨s1, s2, s3⟩ := hs
    dsimp only at s1 s2 s3
    subst s1
    dsimp only
    rw [if_pos (show (110 : Int32) ≤ nI 110 by decide)]
    refine ⟨_, rfl, ?_⟩
    have s90 := s3 90 (by omega)
    rw [z_let_e, z_let_e, z_let_e, z_let_e, z_let_e, z_let_e, show (0 : Int32).toNatClampNeg = 0 from rfl, show (1 : Int32).toNatClampNeg = 1 from rfl, show vp_nar .boolean (0 : Int32) = nI 0 from rfl, show (0 : Int32) = nI 0 from rfl]
    refine ⟨_, rfl, _, rfl, fun k hk => ?_, ?_, ?_, ?_, ?_, ?_, ?_, ?_, ?_, fun q q1 q2 q3 => ?_, fun j j1 j2 j3 j4 j5 j6 => ?_⟩
    · simp (disch := omega) only [hg_u_n]; exact s2 k hk
    · simp (disch := omega) only [hg_u_s, hg_u_j, hg_u_n, s90]; rw [ej 6 (by omega) (by omega)]; exact M5
    · simp (disch := omega) only [hg_u_s, hg_u_j, hg_u_n, s90]; rw [ej 7 (by omega) (by omega)]; exact M6
    · simp (disch := omega) only [hg_u_s, hg_u_j, hg_u_n, s90]; rw [ej 8 (by omega) (by omega)]; exact M7
    · simp (disch := omega) only [hg_u_s, hg_u_j, hg_u_n]
    · simp (disch := omega) only [hg_u_s, hg_u_j, hg_u_n, s90]; exact e13
    · simp (disch := omega) only [hg_u_s, hg_u_j, hg_u_n, s90]; exact e14
    · simp (disch := omega) only [hg_u_s, hg_u_j, hg_u_n]
    · simp (disch := omega) only [hg_u_s, hg_u_j, hg_u_n]
    · simp (disch := omega) only [hg_u_n]; rw [s3 q q2, eq q q1]
    · simp (disch := omega) only [hg_u_j, hg_u_n, s90]; rw [ej j j4 j5]
end EC
