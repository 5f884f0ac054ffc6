/-! the call text() -/
theorem c_text {σ : zS} (h : z_Inv σ) : hc_B f_Y_text f_M_text σ := by
  obtain ⟨W0, H0, R0, p0, h⟩ := h
  obtain ⟨hD, hV, hG, hQ, ⟨X1, X2, ⟨L, T1, T2, T3, T4⟩, X4, X5, X6, X7⟩, hB⟩ := id h
  obtain ⟨b, hb⟩ : ∃ b : Nat → Nat, ∀ j, j < L → b j < 128 ∧ σ 36 j = nI (b j) ∧ σ 95 j = nI (b j) :=
    ⟨fun j => if hj : j < L then Classical.choose (T4 j hj) else 0, fun j hj => by
      dsimp only
      rw [dif_pos hj]
      exact Classical.choose_spec (T4 j hj)⟩
  have hx : tx_Y σ b L := ⟨T2, T1, fun j hj => ⟨(hb j hj).1, (hb j hj).2.1⟩⟩
  have hy : tx_M σ b L := ⟨T3, T1, fun j hj => ⟨(hb j hj).1, (hb j hj).2.2⟩, X7.1, X7.2⟩
  obtain ⟨r1, τ1, υ1, a1, -, a3⟩ := tx_both hx hy
  have hq : ∀ q, (q = 90 ∨ q = 95 ∨ q = 96 ∨ q = 97) → τ1 q = σ q := fun q hq => by
    rcases a3 with ⟨w, g1, g2, g3, g4, g5, g6, g7, g8⟩ | ⟨W, H, R, p, g1, g2, g3, g4, g5, g6, g7, g8, g9, g10, -⟩
    · exact g6 q (by omega) (by omega) (by omega) (by omega) (by omega) (by omega) (by omega)
    · exact g10 q (by omega) (by omega) (by omega) (by omega) (by omega) (by omega) (by omega)
  have hy1 : tx_M τ1 b L := tx_M_c hy (by rw [hq 90 (by omega)]) (hq 95 (by omega)) (hq 96 (by omega)) (hq 97 (by omega))
  obtain ⟨r, τ, υ, c1, c2, c3⟩ := tx_both hx hy1
  have e : (r, τ) = (r1, τ1) := by
    rw [a1] at c1
    exact (Option.some.inj c1).symm
  obtain ⟨e1, e2⟩ := Prod.mk.inj e
  subst e1 e2
  refine ⟨r, τ, υ, c1, c2, ?_⟩
  rcases c3 with ⟨w, g1, g2, g3, g4, g5, g6, g7, g8⟩ | ⟨W, H, R, p, g1, g2, g3, g4, g5, g6, g7, g8, g9, g10, g11, g12, g13, g14, g15, g16, g17, g18, g19, g20, g21⟩
  · have eq : ∀ q, q ≠ 0 → q ≠ 35 → (q < 17 ∨ 30 < q) → q ≠ 37 → q ≠ 38 → q ≠ 39 → q ≠ 40 → q ≠ 90 → q ≠ 93 → q ≠ 94 → υ q = σ q := fun q q1 q2 q3 q4 q5 q6 q7 q8 q9 q10 => by rw [g7 q q8 q9 q10, g6 q q1 q2 q3 q4 q5 q6 q7]
    have ej : ∀ j, (j < 6 ∨ 20 < j) → υ 90 j = σ 90 j := fun j hj => by rw [g8 j hj, hq 90 (by omega)]
    have e0 : ∀ j, j ≠ 9 → υ 0 j = σ 0 j := fun j hj => by rw [g7 0 (by omega) (by omega) (by omega), g5 j hj]
    refine ⟨W0, H0, R0, p0, hD, hV, hg_G1_c hG (fun k k1 k2 => eq k (by omega) (by omega) (by omega) (by omega) (by omega) (by omega) (by omega) (by omega) (by omega) (by omega)), hg_Q_c hQ (eq 91 (by omega) (by omega) (by omega) (by omega) (by omega) (by omega) (by omega) (by omega) (by omega) (by omega)), ⟨⟨by rw [ej 1 (by omega)]; exact X1.1, by rw [ej 2 (by omega)]; exact X1.2.1, by rw [ej 3 (by omega)]; exact X1.2.2.1, fun k hk => by rw [eq 92 (by omega) (by omega) (by omega) (by omega) (by omega) (by omega) (by omega) (by omega) (by omega) (by omega)]; exact X1.2.2.2 k hk⟩, I_k_c X2 (e0 8 (by omega)) (eq 101 (by omega) (by omega) (by omega) (by omega) (by omega) (by omega) (by omega) (by omega) (by omega) (by omega)) (fun k hk => eq k (by omega) (by omega) (by omega) (by omega) (by omega) (by omega) (by omega) (by omega) (by omega) (by omega)) (fun j _ _ => by rw [eq 91 (by omega) (by omega) (by omega) (by omega) (by omega) (by omega) (by omega) (by omega) (by omega) (by omega)]), ⟨0, by omega, by rw [g7 35 (by omega) (by omega) (by omega)]; exact g3, g4, fun j hj => by omega⟩, I_s_c X4 (eq 44 (by omega) (by omega) (by omega) (by omega) (by omega) (by omega) (by omega) (by omega) (by omega) (by omega)) (eq 45 (by omega) (by omega) (by omega) (by omega) (by omega) (by omega) (by omega) (by omega) (by omega) (by omega)) (eq 46 (by omega) (by omega) (by omega) (by omega) (by omega) (by omega) (by omega) (by omega) (by omega) (by omega)) (ej 26 (by omega)) (eq 100 (by omega) (by omega) (by omega) (by omega) (by omega) (by omega) (by omega) (by omega) (by omega) (by omega)), I_h_c X5 (fun k hk => eq k (by omega) (by omega) (by omega) (by omega) (by omega) (by omega) (by omega) (by omega) (by omega) (by omega)), ⟨by rw [g7 0 (by omega) (by omega) (by omega), g1, g2], by rw [e0 10 (by omega), ej 31 (by omega)]; exact X6.2⟩, I_c_c X7 (eq 96 (by omega) (by omega) (by omega) (by omega) (by omega) (by omega) (by omega) (by omega) (by omega) (by omega)) (eq 97 (by omega) (by omega) (by omega) (by omega) (by omega) (by omega) (by omega) (by omega) (by omega) (by omega))⟩, hB⟩
  · have eq : ∀ q, 30 < q → q ≠ 35 → q ≠ 37 → q ≠ 38 → q ≠ 39 → q ≠ 40 → q ≠ 44 → q ≠ 90 → q ≠ 91 → q ≠ 93 → q ≠ 94 → q ≠ 101 → υ q = σ q := fun q q1 q2 q3 q4 q5 q6 q7 q8 q9 q10 q11 q12 => by rw [g20 q q8 q9 q10 q11 q12, g10 q q1 q2 q3 q4 q5 q6 q7]
    have eu : ∀ q, q ≠ 90 → q ≠ 91 → q ≠ 93 → q ≠ 94 → q ≠ 101 → υ q = τ q := g20
    refine ⟨W, H, R, p, g1, g2, hg_G1_c g4 (fun k k1 k2 => eu k (by omega) (by omega) (by omega) (by omega) (by omega)), fun k hk => by rw [Nat.zero_add]; exact g11 k hk, ⟨⟨g12, g13, g14, fun k hk => by rw [eq 92 (by omega) (by omega) (by omega) (by omega) (by omega) (by omega) (by omega) (by omega) (by omega) (by omega) (by omega) (by omega)]; exact X1.2.2.2 k hk⟩, ⟨false, false, by rw [eu 0 (by omega) (by omega) (by omega) (by omega) (by omega)]; exact g6, g18, g19, fun z => absurd z (by decide), fun z => absurd z (by decide)⟩, ⟨0, by omega, by rw [eu 35 (by omega) (by omega) (by omega) (by omega) (by omega)]; exact g8, g16, fun j hj => by omega⟩, ⟨0, by omega, by rw [eu 44 (by omega) (by omega) (by omega) (by omega) (by omega)]; exact g5, g15, fun j hj => by omega⟩, I_h_c X5 (fun k hk => eq k (by omega) (by omega) (by omega) (by omega) (by omega) (by omega) (by omega) (by omega) (by omega) (by omega) (by omega) (by omega)), ⟨by rw [eu 0 (by omega) (by omega) (by omega) (by omega) (by omega), g7, g17], by rw [eu 0 (by omega) (by omega) (by omega) (by omega) (by omega), g9 10 (by omega) (by omega), g21 31 (by omega) (by omega), hq 90 (by omega)]; exact X6.2⟩, I_c_c X7 (eq 96 (by omega) (by omega) (by omega) (by omega) (by omega) (by omega) (by omega) (by omega) (by omega) (by omega) (by omega) (by omega)) (eq 97 (by omega) (by omega) (by omega) (by omega) (by omega) (by omega) (by omega) (by omega) (by omega) (by omega) (by omega) (by omega))⟩, g3⟩
