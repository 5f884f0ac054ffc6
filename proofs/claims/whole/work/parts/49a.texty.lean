/-! the text: the class's call -/
section TE
variable {b : Nat → Nat} {L W H R : Nat} {p t : Nat → Nat} {o m n : Nat}
theorem ty_acB {x : zS} {w f : Nat} (h : ty_bk x w f) : ty_ac x = some ((0 : Int32), x) := by
  have hz : ¬ x 37 6 = 0 := by rw [h.2.2.2.1, nl0, nI_eq (by have := h.2.1; omega) (by omega)]; have := h.1; omega
  unfold ty_ac
  rw [z_join_e, if_neg hz]
  dsimp only
  rw [if_neg hz]
theorem ty_acF {x : zS} {c0 c7 w : Nat} (hP : tx_SP W H R p t o m) (hY : tx_SY x b L W H R p t c0 c7 n) (hF : tx_F W H p m w) (h0 : x 37 6 = nI 0) (hw : ¬ w = 0) : ∃ x', ty_ac x = some ((0 : Int32), x') ∧ ty_f7 x x' ∧ ty_bk x' w L := by
  obtain ⟨x', a1, a2, a3, a4⟩ := ty_check hP hY hF h0
  have h := a3 hw
  have hz : ¬ x' 37 6 = 0 := by rw [h.2.2.2.1, nl0, nI_eq (by have := h.2.1; omega) (by omega)]; exact hw
  unfold ty_ac
  rw [z_join_e, if_pos (show x 37 6 = 0 from h0), a1, z_bs]
  dsimp only
  rw [if_neg hz]
  exact ⟨x', rfl, a2, h⟩
theorem ty_acG {x : zS} {c0 c7 : Nat} (hP : tx_SP W H R p t o m) (hY : tx_SY x b L W H R p t c0 c7 n) (hF : tx_F W H p m 0) (h0 : x 37 6 = nI 0) : ty_ac x = some ((1 : Int32), x) := by
  obtain ⟨x', a1, a2, a3, a4⟩ := ty_check hP hY hF h0
  have h := a4 rfl
  subst h
  unfold ty_ac
  rw [z_join_e, if_pos (show x' 37 6 = 0 from h0), a1, z_bs]
  dsimp only
  rw [if_pos (show x' 37 6 = 0 from h0)]
theorem ty_textF {x X : zS} {w f : Nat} (h : f_Tr_readAll_37 x = some ((0 : Int32), X)) (hb : ty_bk X w f) : f_Y_text x = some ((-10 : Int32) - nI f, z_u (z_u X 0 9 (nI w)) 35 1 0) := by
  unfold f_Y_text
  rw [h, z_bs]
  dsimp only
  rw [z_let_e, z_let_e, if_pos rfl, hb.2.2.2.1, hg_u_n (by omega), hg_u_n (by omega), hb.2.2.2.2]
theorem ty_textG {x X : zS} (hR : R ≤ 5) (h : f_Tr_readAll_37 x = some ((1 : Int32), X)) (hG : hg_G17 X p W H R) : ∃ τ, f_Y_text x = some (X 37 5, τ) ∧ hg_G1 τ p W H R ∧ τ 44 2 = nI 0 ∧ τ 0 8 = nI 0 ∧ τ 0 9 = X 37 6 ∧ τ 35 1 = nI 0 ∧ (∀ j, j ≠ 8 → j ≠ 9 → τ 0 j = X 0 j) ∧ ∀ q, 14 < q → q ≠ 35 → q ≠ 44 → τ q = X q := by
  unfold f_Y_text
  rw [h, z_bs]
  dsimp only
  rw [z_let_e, z_let_e, if_neg (show ¬ (1 : Int32) = 0 by decide)]
  obtain ⟨τ, a1, a2, a3⟩ := yy_copy_1_17 hR (hg_G17_c (τ := z_u (z_u X 0 9 (X 37 6)) 35 1 0) hG (fun q _ _ => by rw [hg_u_n (by omega), hg_u_n (by omega)]))
  rw [a1, z_bs, z_let_e, z_let_e]
  refine ⟨_, by rw [hg_u_n (by omega), hg_u_n (by omega), a3 37 (by omega), hg_u_n (by omega), hg_u_n (by omega)], hg_G1_c a2 (fun q _ _ => by rw [hg_u_n (by omega), hg_u_n (by omega)]), ?_, ?_, ?_, ?_, fun j j1 j2 => ?_, fun q q1 q2 q3 => ?_⟩
  · rw [hg_u_n (by omega), hg_u_s]; rfl
  · rw [hg_u_s]; rfl
  · rw [hg_u_j (by omega), hg_u_n (by omega), a3 0 (by omega), hg_u_n (by omega), hg_u_s]
  · rw [hg_u_n (by omega), hg_u_n (by omega), a3 35 (by omega), hg_u_s]; rfl
  · rw [hg_u_j j1, hg_u_n (by omega), a3 0 (by omega), hg_u_n (by omega), hg_u_j j2]
  · rw [hg_u_n (by omega), hg_u_n q3, a3 q (by omega), hg_u_n q2, hg_u_n (by omega)]
end TE
