/-! the text: both run -/
theorem tx_run {x y : zS} {b : Nat → Nat} {L : Nat} (hx : tx_Y x b L) (hy : tx_M y b L) : ∃ x' y' N, f_Tr_readAll_37 x = ty_ac x' ∧ f_M_text y = tm_ac (nI N, y') ∧ tyF x x' ∧ tmF y y' ∧ tx_E b L x' y' N := by
  obtain ⟨x0, a1, a2, a3, a4, a5⟩ := ty_begin hx
  obtain ⟨y0, b1, b2, b3, b4, b5, b6⟩ := tm_begin hy
  obtain ⟨f, e, k, v, hT⟩ := tx_T_ex (b := b) (L := L) (t := 0) (Nat.zero_le _)
  obtain ⟨y1, c1, c2, c3⟩ := tm_step b2.1 b4 b3 hT
  have hP : tx_SP 2 2 0 (fun _ => 0) (fun _ => 0) 0 0 := by
    refine ⟨⟨by omega, by omega, by omega, by omega, by omega⟩, ⟨fun c hc => ?_, by dsimp only; omega, fun k hk => by omega, fun s hs => ?_, by dsimp only; omega⟩, ⟨by dsimp only; omega, fun o ho => by dsimp only; omega⟩, fun c hc => rfl, by omega, fun j hj => by dsimp only; omega, rfl, by omega, by decide, Or.inl rfl⟩
    · dsimp only; omega
    · dsimp only; omega
  have hL := hx.2.1
  obtain ⟨x', y', N, d1, d2, d3, d4, d5⟩ := tx_all (b := b) (L := L) L (i := 0) (n := 0) (u := 0) (by omega) (by omega) (by omega) hP a2 a3 a4 (tx_SM_fr b2 c3) hT c2
  refine ⟨x', y', N, ?_, ?_, tyF_t a5 d3, tmF_t (tmF_t ⟨b5, b6⟩ (tmF_fr c3)) d4, d5⟩
  · rw [a1, d1, z_bs]
  · rw [b1, c1, z_bs, d2, z_bs]
