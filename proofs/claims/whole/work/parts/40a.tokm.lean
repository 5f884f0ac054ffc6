/-! the text: tokens, the reference -/
def tx_fr (y y' : zS) : Prop := (∀ q, q ≠ 90 → y' q = y q) ∧ ∀ j, (j < 15 ∨ 20 < j) → y' 90 j = y 90 j
def tx_tk (y : zS) (f e k v : Nat) : Prop := y 90 18 = nI f ∧ y 90 17 = nI e ∧ (k = 4 → y 90 15 = nI 1 ∧ y 90 16 = nI f ∧ ∃ k', 2 ≤ k' ∧ k' ≤ 3 ∧ y 90 19 = nI k') ∧ (¬ k = 4 → y 90 15 = nI 0 ∧ y 90 19 = nI k ∧ (k = 2 → y 90 20 = nI v))
theorem tx_fr_r (y : zS) : tx_fr y y := ⟨fun _ _ => rfl, fun _ _ => rfl⟩
theorem tx_fr_u {y s : zS} {j : Nat} {v : Int32} (h : tx_fr y s) (h1 : 15 ≤ j) (h2 : j ≤ 20) : tx_fr y (z_u s 90 j v) :=
  ⟨fun q hq => by rw [hg_u_n hq]; exact h.1 q hq, fun i hi => by rw [hg_u_j (by omega)]; exact h.2 i hi⟩
theorem tx_fr_t {y s u : zS} (h : tx_fr y s) (h2 : tx_fr s u) : tx_fr y u :=
  ⟨fun q hq => by rw [h2.1 q hq, h.1 q hq], fun i hi => by rw [h2.2 i hi, h.2 i hi]⟩
section TM
variable {y : zS} {b : Nat → Nat} {L : Nat}
theorem tx_M_c {y' : zS} (h : tx_M y b L) (e0 : y' 90 13 = y 90 13) (e1 : y' 95 = y 95) (e2 : y' 96 = y 96) (e3 : y' 97 = y 97) : tx_M y' b L := by
  unfold tx_M at *
  rw [e0, e1, e2, e3]
  exact h
theorem tx_M_fr {y' : zS} (h : tx_M y b L) (e : tx_fr y y') : tx_M y' b L := tx_M_c h (e.2 13 (by omega)) (e.1 95 (by omega)) (e.1 96 (by omega)) (e.1 97 (by omega))
theorem tm_at (h : tx_M y b L) {i : Nat} (hi : i < L) : f_M_byteAt (nI i) y = some (nI (b i)) := by
  obtain ⟨h1, h2, h3, -⟩ := h
  unfold f_M_byteAt
  rw [h1, if_neg (nI_ge hi (by omega)), if_pos ((z_ibn (by omega)).mpr (by omega)), nI_clamp (by omega), (h3 i hi).2]
theorem tm_atE (h : tx_M y b L) {i : Nat} (hi : L ≤ i) (hi2 : i < 2 ^ 31) : f_M_byteAt (nI i) y = some (-4) := by
  obtain ⟨h1, h2, h3, -⟩ := h
  unfold f_M_byteAt
  rw [h1, if_pos (nI_le hi (by omega))]
theorem tm_in {a lo hi : Nat} {lo' hi' : Int64} (ha : a < 2 ^ 31) (hlo : lo'.toInt = lo) (hhi : hi'.toInt = hi) : f_M_in (nI a).toInt64 lo' hi' y = some (nI (if lo ≤ a ∧ a ≤ hi then 1 else 0)) := by
  rw [mm_inI, nI_toInt ha, hlo, hhi]
  by_cases c : lo ≤ a ∧ a ≤ hi
  · rw [if_pos c, if_pos (show (lo : Int) ≤ (a : Int) ∧ (a : Int) ≤ (hi : Int) by omega)]
  · rw [if_neg c, if_neg (show ¬ ((lo : Int) ≤ (a : Int) ∧ (a : Int) ≤ (hi : Int)) by omega)]
theorem tm_in4 {lo' hi' : Int64} {lo hi : Nat} (hlo : lo'.toInt = lo) : f_M_in (-4 : Int32).toInt64 lo' hi' y = some (nI 0) := by
  rw [mm_inI, hlo, if_neg]
  intro z
  have z1 := z.1
  rw [show (-4 : Int32).toInt = -4 from rfl] at z1
  omega
theorem tm_fails {c : Int32} {f : Nat} (h : y 90 15 = nI 0) (h2 : y 90 18 = nI f) : f_M_fails c y = some (z_u (z_u y 90 15 c) 90 16 (nI f)) := by
  unfold f_M_fails
  rw [if_pos (show y 90 15 = 0 from h), z_let_e, z_let_e, hg_u_j (by omega), h2]
theorem tm_failsB {c : Int32} {w : Nat} (h : y 90 15 = nI w) (h2 : ¬ w = 0) (h3 : w < 2 ^ 31) : f_M_fails c y = some y := by
  unfold f_M_fails
  rw [h, nl0, if_neg (show ¬ nI w = nI 0 by rw [nI_eq h3 (by omega)]; exact h2)]
theorem tm_stepB {w : Nat} (h : y 90 15 = nI w) (h2 : ¬ w = 0) (h3 : w < 2 ^ 31) : f_M_step y = some y := by
  unfold f_M_step
  rw [h, nl0, if_neg (nI_ge (show 0 < w by omega) h3)]
theorem tm_step (h : tx_M y b L) {t f e k v : Nat} (h0 : y 90 17 = nI t) (h1 : y 90 15 = nI 0) (hT : tx_T b L t f e k v) : ∃ y', f_M_step y = some y' ∧ tx_tk y' f e k v ∧ tx_fr y y' := by
  obtain ⟨hf, hT⟩ := hT
  obtain ⟨f1, f2, f3, f4⟩ := id hf
  have hL := h.2.1
  unfold f_M_step
  rw [h1, if_pos (show nI 0 ≤ (0 : Int32) from nI_le (b := 0) (Nat.le_refl _) (by omega))]
  refine z_lp (fun i s => s 90 17 = nI (t + i) ∧ s 90 15 = nI 0 ∧ tx_fr y s) (f - t) ⟨by rw [Nat.add_zero]; exact h0, h1, tx_fr_r y⟩ (fun i s hi hP => ?_) (fun s hP => ?_)
  · obtain ⟨s1, s2, s3⟩ := hP
    left
    have hs := tx_M_fr h s3
    have r := f3 (t + i) (by omega) (by omega)
    rw [s1, tm_at hs (by omega), z_bs, if_pos (show nI (b (t + i)) = (32 : Int32) by rw [show b (t + i) = 32 by omega]; rfl), z_let_e, nl1, nI_add]
    exact ⟨_, rfl, by rw [hg_u_s]; rfl, by rw [hg_u_j (by omega)]; exact s2, tx_fr_u s3 (by omega) (by omega)⟩
  · obtain ⟨s1, s2, s3⟩ := hP
    rw [show t + (f - t) = f by omega] at s1
    have hs := tx_M_fr h s3
    refine ⟨s, ?_, ?_⟩
    · rw [s1]
      by_cases z : f = L
      · rw [tm_atE hs (by omega) (by omega), z_bs, if_neg (show ¬ (-4 : Int32) = 32 by decide)]
      · have hb := (h.2.2.1 f (by omega)).1
        rw [tm_at hs (by omega), z_bs, show (32 : Int32) = nI 32 from rfl, if_neg (show ¬ nI (b f) = nI 32 by rw [nI_eq (by omega) (by omega)]; omega)]
    · rw [z_let_e, s1, hg_u_j (by omega), s1]
      have g1 : (z_u s 90 18 (nI f)) 90 17 = nI f := by rw [hg_u_j (by omega), s1]
      have g2 : (z_u s 90 18 (nI f)) 90 15 = nI 0 := by rw [hg_u_j (by omega), s2]
      have g3 : tx_fr y (z_u s 90 18 (nI f)) := tx_fr_u s3 (by omega) (by omega)
      have g4 : (z_u s 90 18 (nI f)) 90 18 = nI f := hg_u_s
      generalize z_u s 90 18 (nI f) = s' at g1 g2 g3 g4
      clear s1 s2 s3 hs
      have hs := tx_M_fr h g3
      rcases hT with ⟨a1, a2, a3⟩ | ⟨a0, hT⟩
      · subst a1 a2 a3
        rw [tm_atE hs (Nat.le_refl _) (by omega), z_bs, z_let_e, if_pos rfl, z_let_e]
        refine ⟨_, rfl, ⟨?_, ?_, fun z => absurd z (by omega), fun _ => ⟨?_, ?_, fun z => absurd z (by omega)⟩⟩, tx_fr_u (tx_fr_u g3 (by omega) (by omega)) (by omega) (by omega)⟩
        · rw [hg_u_j (by omega), hg_u_j (by omega), g4]
        · rw [hg_u_j (by omega), hg_u_j (by omega), g1]
        · rw [hg_u_j (by omega), hg_u_j (by omega), g2]
        · rw [hg_u_s, nl0]
      · have hb := (h.2.2.1 f a0).1
        rw [tm_at hs a0, z_bs, z_let_e, z_lit4, if_neg (z_neg (by omega) (by omega) (b f) (by omega))]
        have w1 : (z_u s' 90 20 0) 90 17 = nI f := by rw [hg_u_j (by omega), g1]
        have w2 : (z_u s' 90 20 0) 90 15 = nI 0 := by rw [hg_u_j (by omega), g2]
        have w3 : tx_fr y (z_u s' 90 20 0) := tx_fr_u g3 (by omega) (by omega)
        have w4 : (z_u s' 90 20 0) 90 18 = nI f := by rw [hg_u_j (by omega), g4]
        have w5 : (z_u s' 90 20 0) 90 20 = nI 0 := hg_u_s
        generalize z_u s' 90 20 0 = w at w1 w2 w3 w4 w5
        clear g1 g2 g3 g4 hs
        rw [tm_in (lo := 97) (hi := 122) (by omega) rfl rfl, z_bs, tm_in (lo := 48) (hi := 57) (by omega) rfl rfl, z_bs]
        rcases hT with ⟨a1, a2, a3⟩ | ⟨a1, a2, a3, a4⟩ | ⟨a1, a2, a3, a4⟩ | ⟨a1, a2, a3, a4, a5⟩
        · subst a1 a3
          rw [if_neg (show ¬ (97 ≤ b f ∧ b f ≤ 122) by omega), if_pos (show nI 0 = 0 from rfl), if_neg (show ¬ (48 ≤ b f ∧ b f ≤ 57) by omega), if_pos (show nI 0 = 0 from rfl), z_let_e, z_let_e, hg_u_j (by omega), w1, if_pos (show nI (b f) = (59 : Int32) by rw [a2]; rfl), nl1, nI_add]
          refine ⟨_, rfl, ⟨?_, ?_, fun z => absurd z (by omega), fun _ => ⟨?_, ?_, fun z => absurd z (by omega)⟩⟩, tx_fr_u (tx_fr_u w3 (by omega) (by omega)) (by omega) (by omega)⟩
          · rw [hg_u_j (by omega), hg_u_j (by omega), w4]
          · rw [hg_u_s]
          · rw [hg_u_j (by omega), hg_u_j (by omega), w2]
          · rw [hg_u_j (by omega), hg_u_s]; rfl
        · subst a1
          obtain ⟨e1, e2, e3, e4⟩ := a4
          rw [if_pos (show 97 ≤ b f ∧ b f ≤ 122 from ⟨a2, a3⟩), if_neg (show ¬ nI 1 = 0 by decide)]
          refine z_lp (fun i s => s 90 17 = nI (f + i) ∧ s 90 15 = nI 0 ∧ s 90 18 = nI f ∧ tx_fr y s) (e - f) ⟨by rw [Nat.add_zero]; exact w1, w2, w4, w3⟩ (fun i s hi hP => ?_) (fun s hP => ?_)
          · obtain ⟨s1, s2, s4, s3⟩ := hP
            left
            have r := e3 (f + i) (by omega) (by omega)
            rw [s1, tm_at (tx_M_fr h s3) (by omega), z_bs, tm_in (lo := 97) (hi := 122) (by omega) rfl rfl, z_bs, if_pos r, if_neg (show ¬ nI 1 = 0 by decide), z_let_e, nl1, nI_add]
            exact ⟨_, rfl, by rw [hg_u_s]; rfl, by rw [hg_u_j (by omega)]; exact s2, by rw [hg_u_j (by omega)]; exact s4, tx_fr_u s3 (by omega) (by omega)⟩
          · obtain ⟨s1, s2, s4, s3⟩ := hP
            rw [show f + (e - f) = e by omega] at s1
            refine ⟨s, ?_, ?_⟩
            · rw [s1]
              by_cases z : e = L
              · rw [tm_atE (tx_M_fr h s3) (by omega) (by omega), z_bs, tm_in4 (lo := 97) (hi := 122) rfl, z_bs, if_pos (show nI 0 = 0 from rfl)]
              · have hb2 := (h.2.2.1 e (by omega)).1
                rw [tm_at (tx_M_fr h s3) (by omega), z_bs, tm_in (lo := 97) (hi := 122) (by omega) rfl rfl, z_bs, if_neg (show ¬ (97 ≤ b e ∧ b e ≤ 122) by omega), if_pos (show nI 0 = 0 from rfl)]
            · rw [z_let_e]
              refine ⟨_, rfl, ⟨?_, ?_, fun z => absurd z (by omega), fun _ => ⟨?_, ?_, fun z => absurd z (by omega)⟩⟩, tx_fr_u s3 (by omega) (by omega)⟩
              · rw [hg_u_j (by omega), s4]
              · rw [hg_u_j (by omega), s1]
              · rw [hg_u_j (by omega), s2]
              · rw [hg_u_s]; rfl
        · rw [if_neg (show ¬ (97 ≤ b f ∧ b f ≤ 122) by omega), if_pos (show nI 0 = 0 from rfl), if_pos (show 48 ≤ b f ∧ b f ≤ 57 from ⟨a1, a2⟩), if_neg (show ¬ nI 1 = 0 by decide)]
          obtain ⟨e1, e2, e3, e4⟩ := id a3
          refine z_lp (fun i s => s 90 17 = nI (f + i) ∧ s 90 15 = nI 0 ∧ s 90 18 = nI f ∧ tx_fr y s ∧ (i ≤ 2 → s 90 20 = nI (tx_n b f i))) (e - f) ⟨by rw [Nat.add_zero]; exact w1, w2, w4, w3, fun _ => w5⟩ (fun i s hi hP => ?_) (fun s hP => ?_)
          · obtain ⟨s1, s2, s4, s3, s5⟩ := hP
            left
            have r := e3 (f + i) (by omega) (by omega)
            rw [s1, tm_at (tx_M_fr h s3) (by omega), z_bs, tm_in (lo := 48) (hi := 57) (by omega) rfl rfl, z_bs, if_pos r, if_neg (show ¬ nI 1 = 0 by decide), s4, pk_sub (by omega), show f + i - f = i by omega, show (2 : Int32) = nI 2 from rfl]
            by_cases ci : 2 ≤ i
            · rw [hg_join_to (x := s 90 20) (fun j => if_pos (nI_le ci (by omega))), z_let_e, z_let_e, hg_u_j (by omega), s1, nl1, nI_add]
              refine ⟨_, rfl, ?_, ?_, ?_, ?_, fun z => absurd z (by omega)⟩
              · rw [hg_u_s]; rfl
              · rw [hg_u_j (by omega), hg_u_j (by omega), s2]
              · rw [hg_u_j (by omega), hg_u_j (by omega), s4]
              · exact tx_fr_u (tx_fr_u s3 (by omega) (by omega)) (by omega) (by omega)
            · obtain ⟨n1, n2⟩ := tx_n_s a3 hi (by omega)
              have n3 := tx_n_le a3 i (by omega)
              rw [hg_join_to (x := nI (tx_n b f (i + 1))) (fun j => by
                rw [if_neg (nI_ge (show i < 2 by omega) (by omega)), z_bs, s5 (by omega), show (10 : Int32) = nI 10 from rfl, show (48 : Int32) = nI 48 from rfl, pk_mul, nI_add, pk_sub n2, n1]), z_let_e, z_let_e, hg_u_j (by omega), s1, nl1, nI_add]
              refine ⟨_, rfl, ?_, ?_, ?_, ?_, fun z => ?_⟩
              · rw [hg_u_s]; rfl
              · rw [hg_u_j (by omega), hg_u_j (by omega), s2]
              · rw [hg_u_j (by omega), hg_u_j (by omega), s4]
              · exact tx_fr_u (tx_fr_u s3 (by omega) (by omega)) (by omega) (by omega)
              · rw [hg_u_j (by omega), hg_u_s]
          · obtain ⟨s1, s2, s4, s3, s5⟩ := hP
            rw [show f + (e - f) = e by omega] at s1
            refine ⟨s, ?_, ?_⟩
            · rw [s1]
              by_cases z : e = L
              · rw [tm_atE (tx_M_fr h s3) (by omega) (by omega), z_bs, tm_in4 (lo := 48) (hi := 57) rfl, z_bs, if_pos (show nI 0 = 0 from rfl)]
              · have hb2 := (h.2.2.1 e (by omega)).1
                rw [tm_at (tx_M_fr h s3) (by omega), z_bs, tm_in (lo := 48) (hi := 57) (by omega) rfl rfl, z_bs, if_neg (show ¬ (48 ≤ b e ∧ b e ≤ 57) by omega), if_pos (show nI 0 = 0 from rfl)]
            · rw [z_let_e, hg_u_j (by omega), hg_u_j (by omega), s1, s4, pk_sub (by omega), show (2 : Int32) = nI 2 from rfl]
              rcases a4 with ⟨b1, b2, b3⟩ | ⟨b1, b2⟩
              · subst b1 b3
                rw [if_pos (nI_le b2 (by omega))]
                refine ⟨_, rfl, ⟨?_, ?_, fun z => absurd z (by omega), fun _ => ⟨?_, ?_, fun z => ?_⟩⟩, tx_fr_u s3 (by omega) (by omega)⟩
                · rw [hg_u_j (by omega), s4]
                · rw [hg_u_j (by omega), s1]
                · rw [hg_u_j (by omega), s2]
                · rw [hg_u_s]
                · rw [hg_u_j (by omega), s5 b2]
              · subst b1
                rw [if_neg (nI_ge b2 (by omega)), tm_fails (f := f) (by rw [hg_u_j (by omega), s2]) (by rw [hg_u_j (by omega), s4]), z_bs]
                refine ⟨_, rfl, ⟨?_, ?_, fun _ => ⟨?_, ?_, 2, by omega, by omega, by rw [hg_u_j (by omega), hg_u_j (by omega), hg_u_s]⟩, fun z => absurd rfl z⟩, tx_fr_u (tx_fr_u (tx_fr_u s3 (by omega) (by omega)) (by omega) (by omega)) (by omega) (by omega)⟩
                · rw [hg_u_j (by omega), hg_u_j (by omega), hg_u_j (by omega), s4]
                · rw [hg_u_j (by omega), hg_u_j (by omega), hg_u_j (by omega), s1]
                · rw [hg_u_j (by omega), hg_u_s]; rfl
                · rw [hg_u_s]
        · subst a1 a5
          rw [if_neg a3, if_pos (show nI 0 = 0 from rfl), if_neg a4, if_pos (show nI 0 = 0 from rfl), z_let_e, z_let_e, hg_u_j (by omega), w1, show (59 : Int32) = nI 59 from rfl, if_neg (show ¬ nI (b f) = nI 59 by rw [nI_eq (by omega) (by omega)]; exact a2), tm_fails (f := f) (by rw [hg_u_j (by omega), hg_u_j (by omega), w2]) (by rw [hg_u_j (by omega), hg_u_j (by omega), w4]), z_bs]
          refine ⟨_, rfl, ⟨?_, ?_, fun _ => ⟨?_, ?_, 3, by omega, by omega, by rw [hg_u_j (by omega), hg_u_j (by omega), hg_u_j (by omega), hg_u_s]; rfl⟩, fun z => absurd rfl z⟩, tx_fr_u (tx_fr_u (tx_fr_u (tx_fr_u w3 (by omega) (by omega)) (by omega) (by omega)) (by omega) (by omega)) (by omega) (by omega)⟩
          · rw [hg_u_j (by omega), hg_u_j (by omega), hg_u_j (by omega), hg_u_j (by omega), w4]
          · rw [hg_u_j (by omega), hg_u_j (by omega), hg_u_s, nl1, nI_add]
          · rw [hg_u_j (by omega), hg_u_s]; rfl
          · rw [hg_u_s]
end TM
