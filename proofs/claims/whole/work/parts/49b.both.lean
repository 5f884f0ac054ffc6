/-! the text: both answer alike -/
def tx_pf (x y τ υ : zS) : Prop := ∃ w, τ 0 9 = nI w ∧ υ 90 14 = nI w ∧ τ 35 1 = nI 0 ∧ υ 90 13 = nI 0 ∧ (∀ j, j ≠ 9 → τ 0 j = x 0 j) ∧ (∀ q, q ≠ 0 → q ≠ 35 → (q < 17 ∨ 30 < q) → q ≠ 37 → q ≠ 38 → q ≠ 39 → q ≠ 40 → τ q = x q) ∧ (∀ q, q ≠ 90 → q ≠ 93 → q ≠ 94 → υ q = y q) ∧ ∀ j, (j < 6 ∨ 20 < j) → υ 90 j = y 90 j
def tx_pg (x y τ υ : zS) : Prop := ∃ W H R p, hg_D W H R ∧ hg_V p R ∧ hg_B p ∧ hg_G1 τ p W H R ∧ τ 44 2 = nI 0 ∧ τ 0 8 = nI 0 ∧ τ 0 9 = nI 0 ∧ τ 35 1 = nI 0 ∧ (∀ j, j ≠ 8 → j ≠ 9 → τ 0 j = x 0 j) ∧ (∀ q, 30 < q → q ≠ 35 → q ≠ 37 → q ≠ 38 → q ≠ 39 → q ≠ 40 → q ≠ 44 → τ q = x q) ∧ (∀ k, k < 110 → υ 91 k = nI (p k)) ∧ υ 90 1 = nI W ∧ υ 90 2 = nI H ∧ υ 90 3 = nI R ∧ υ 90 26 = nI 0 ∧ υ 90 13 = nI 0 ∧ υ 90 14 = nI 0 ∧ υ 101 0 = nI 0 ∧ υ 101 1 = nI 0 ∧ (∀ q, q ≠ 90 → q ≠ 91 → q ≠ 93 → q ≠ 94 → q ≠ 101 → υ q = y q) ∧ ∀ j, 20 < j → j ≠ 26 → υ 90 j = y 90 j
section BO
variable {b : Nat → Nat} {L : Nat}
theorem tx_pf_of {x y X Y : zS} {w f : Nat} (hF : tyF x X) (hG : tmF y Y) : tx_pf x y (z_u (z_u X 0 9 (nI w)) 35 1 0) (z_u (z_u Y 90 13 0) 90 14 (nI w)) :=
  ⟨w, by rw [hg_u_n (by omega), hg_u_s], by rw [hg_u_s], by rw [hg_u_s]; rfl, by rw [hg_u_j (by omega), hg_u_s]; rfl, fun j hj => by rw [hg_u_n (by omega), hg_u_j hj, hF 0 (by omega) (by omega) (by omega) (by omega) (by omega)], fun q q1 q2 q3 q4 q5 q6 q7 => by rw [hg_u_n q2, hg_u_n q1, hF q q3 q4 q5 q6 q7], fun q q1 q2 q3 => by rw [hg_u_n q1, hg_u_n q1, hG.1 q q1 q2 q3], fun j hj => by rw [hg_u_j (by omega), hg_u_j (by omega), hG.2 j (by omega)]⟩
theorem tx_both {x y : zS} (hx : tx_Y x b L) (hy : tx_M y b L) : ∃ r τ υ, f_Y_text x = some (r, τ) ∧ f_M_text y = some (r, υ) ∧ (tx_pf x y τ υ ∨ tx_pg x y τ υ) := by
  obtain ⟨X, Y, N, a1, a2, a3, a4, a5⟩ := tx_run hx hy
  rcases a5 with ⟨w, f, b1, b2⟩ | ⟨W, H, R, p, t, o, m, hP, hY, hM, h6, h15, h18, hN⟩
  · rw [ty_acB b1] at a1
    rw [tm_endB b2] at a2
    exact ⟨_, _, _, ty_textF a1 b1, a2, Or.inl (tx_pf_of (w := w) (f := f) a3 a4)⟩
  · obtain ⟨w, hF⟩ := tx_F_ex W H p m
    have hL := hM.1.2.1
    have hb := fun (c : Nat) (h1 : 1 ≤ c) (h7 : c ≤ 7) => (tm_fail_e (w := c) h15 h18 hL h1 h7).2
    have hG : ∀ c : Nat, tmF y (z_u (z_u Y 90 15 (nI c)) 90 16 (nI L)) := fun c => tmF_t a4 (tmF_fr (tx_fr_u (tx_fr_u (tx_fr_r Y) (by omega) (by omega)) (by omega) (by omega)))
    have hX : ∀ X', ty_f7 X X' → tyF x X' := fun X' h q q1 q2 q3 q4 q5 => by rw [h.1 q q2, a3 q q1 q2 q3 q4 q5]
    by_cases hw : w = 0
    · subst hw
      have hm : m ≤ W * H := by
        rcases hF with ⟨z, -⟩ | ⟨z, -⟩
        · omega
        · exact z
      rw [ty_acG hP hY hF h6] at a1
      obtain ⟨b20, c1, c2⟩ := tm_end7' (N := nI N) hP hM h15 h18 hm
      have cb : b20 = Y := by
        rcases c1 with ⟨z, -⟩ | ⟨⟨e, e1, e2⟩, -⟩
        · exact z
        · rcases hF with ⟨z, -⟩ | ⟨-, ⟨z, -⟩ | ⟨-, z⟩⟩
          · omega
          · omega
          · exact absurd e2 (z e e1)
      subst cb
      obtain ⟨z, d1, d2, d3, d4, d5, d6, d7, d8, d9, d10, d11, d12⟩ := tm_tlG (N := nI N) hM h15
      obtain ⟨τ, e1, e2, e3, e4, e5, e6, e7, e8⟩ := ty_textG hP.1.2.2.2.2 a1 hY.1
      rw [hY.2.2.1] at e1
      rw [a2, c2, d1]
      refine ⟨_, τ, z, e1, rfl, Or.inr ⟨W, H, R, p, hP.1, hP.2.1, hP.2.2.1, e2, e3, e4, by rw [e5, h6], e6, fun j j1 j2 => by rw [e7 j j1 j2, a3 0 (by omega) (by omega) (by omega) (by omega) (by omega)], fun q q1 q2 q3 q4 q5 q6 q7 => by rw [e8 q (by omega) q2 q7, a3 q (by omega) q3 q4 q5 q6], d2, d3, d4, d5, d6, d7, d8, d9, d10, fun q q1 q2 q3 q4 q5 => by rw [d11 q q1 q2 q5, a4.1 q q1 q3 q4], fun j j1 j2 => by rw [d12 j (by omega) (by omega) (by omega) (by omega) (by omega) j2, a4.2 j (by omega)]⟩⟩
    · obtain ⟨X', f1, f2, f3⟩ := ty_acF hP hY hF h6 hw
      rw [f1] at a1
      rcases hF with ⟨rfl, z⟩ | ⟨z, ⟨rfl, z2⟩ | ⟨z2, -⟩⟩
      · rw [tm_end6 hP hM h15 h18 z, tm_endB (hb 6 (by omega) (by omega))] at a2
        exact ⟨_, _, _, ty_textF a1 f3, a2, Or.inl (tx_pf_of (w := 6) (f := L) (hX X' f2) (hG 6))⟩
      · obtain ⟨b20, c1, c2⟩ := tm_end7' (N := nI N) hP hM h15 h18 z
        have cb : b20 = z_u (z_u Y 90 15 (nI 7)) 90 16 (nI L) := by
          rcases c1 with ⟨-, z3⟩ | ⟨-, z3⟩
          · obtain ⟨e, e1, e2⟩ := z2
            exact absurd e2 (z3 e e1)
          · exact z3
        rw [c2, cb, tm_tlB (hb 7 (by omega) (by omega))] at a2
        exact ⟨_, _, _, ty_textF a1 f3, a2, Or.inl (tx_pf_of (w := 7) (f := L) (hX X' f2) (hG 7))⟩
      · exact absurd z2 hw
end BO
