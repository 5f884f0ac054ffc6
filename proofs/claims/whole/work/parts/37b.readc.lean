/-! the call read -/
theorem hg_rd {σ τ υ : zS} {W H R : Nat} {p p' : Nat → Nat} {x : Int32} (h : hg_I σ W H R p) (hV' : hg_V p' R) (hB' : hg_B p') (hG' : hg_G1 τ p' W H R) (hQ' : hg_Q υ 0 p') (a1 : τ 0 10 = x) (a2 : ∀ j, j ≠ 10 → τ 0 j = σ 0 j) (a3 : ∀ k, k ≠ 0 → (k < 1 ∨ 32 < k) → τ k = σ k) (b1 : υ 90 31 = x) (b2 : ∀ j, j ≠ 31 → υ 90 j = τ 90 j) (b3 : ∀ k, k ≠ 90 → k ≠ 91 → υ k = τ k) (b4 : ∀ j, 110 ≤ j → j < 330 → υ 91 j = τ 91 j) : z_Inv υ := by
  obtain ⟨hD, hV, hG, hQ, hX, hB⟩ := h
  have e : ∀ k, k ≠ 0 → 33 ≤ k → k ≠ 90 → k ≠ 91 → υ k = σ k := fun k k1 k2 k3 k4 => by rw [b3 k k3 k4, a3 k k1 (by omega)]
  have e90 : ∀ j, j ≠ 31 → υ 90 j = σ 90 j := fun j hj => by rw [b2 j hj, a3 90 (by omega) (by omega)]
  have e0 : ∀ j, j ≠ 10 → υ 0 j = σ 0 j := fun j hj => by rw [b3 0 (by omega) (by omega), a2 j hj]
  have e91 : ∀ j, 110 ≤ j → j < 330 → υ 91 j = σ 91 j := fun j j1 j2 => by rw [b4 j j1 j2, a3 91 (by omega) (by omega)]
  refine ⟨W, H, R, p', hD, hV', hg_G1_c hG' (fun k k1 k2 => b3 k (by omega) (by omega)), hQ', ⟨hg_M_c2 hX.1 (e90 1 (by omega)) (e90 2 (by omega)) (e90 3 (by omega)) (e 92 (by omega) (by omega) (by omega) (by omega)), I_k_c hX.2.1 (e0 8 (by omega)) (e 101 (by omega) (by omega) (by omega) (by omega)) (fun k hk => e k (by omega) (by omega) (by omega) (by omega)) e91, I_t_c hX.2.2.1 (e 35 (by omega) (by omega) (by omega) (by omega)) (e 36 (by omega) (by omega) (by omega) (by omega)) (e90 13 (by omega)) (e 95 (by omega) (by omega) (by omega) (by omega)), I_s_c hX.2.2.2.1 (e 44 (by omega) (by omega) (by omega) (by omega)) (e 45 (by omega) (by omega) (by omega) (by omega)) (e 46 (by omega) (by omega) (by omega) (by omega)) (e90 26 (by omega)) (e 100 (by omega) (by omega) (by omega) (by omega)), I_h_c hX.2.2.2.2.1 (fun k hk => e k (by omega) (by omega) (by omega) (by omega)), ⟨?_, ?_⟩, I_c_c hX.2.2.2.2.2.2 (e 96 (by omega) (by omega) (by omega) (by omega)) (e 97 (by omega) (by omega) (by omega) (by omega))⟩, hB'⟩
  · rw [e0 9 (by omega), e90 14 (by omega)]
    exact hX.2.2.2.2.2.1.1
  · rw [b3 0 (by omega) (by omega), a1, b1]
section RC
variable {σ : zS} {p : Nat → Nat} {W H R : Nat} {V : Nat → Int32}
theorem mm_read0 (hQ : hg_Q σ 0 p) {k l : Nat} (ha : 0 ≤ (nI k).toInt ∧ (nI k).toInt ≤ 3) (hb : 0 ≤ (nI l).toInt ∧ (nI l).toInt ≤ 2) (hd : 0 ≤ (nI 0).toInt ∧ (nI 0).toInt ≤ 13) (a : Int32) : ∃ g, f_M_read (nI k) (nI l) a (nI 0) σ = some g ∧ g.1 = nI 0 ∧ hg_Q g.2 0 p ∧ g.2 90 31 = nI 0 ∧ (∀ j, j ≠ 31 → g.2 90 j = σ 90 j) ∧ (∀ k, k ≠ 90 → k ≠ 91 → g.2 k = σ k) ∧ ∀ j, 110 ≤ j → j < 330 → g.2 91 j = σ 91 j := by
  obtain ⟨τ0, t1, t2, t3⟩ := mm_copies (A := 0) (B := 330) (by omega) (by omega) (by omega) σ
  unfold f_M_read
  rw [km_0_3, z_bs, if_pos ha, if_neg (show ¬ nI 1 = 0 by decide), km_0_2, z_bs, if_pos hb, if_neg (show ¬ nI 1 = 0 by decide), km_0_13, z_bs, if_pos hd, if_neg (show ¬ nI 1 = 0 by decide), nl330, nl0, t1, z_bs]
  refine z_lp (fun _ (x : Int32 × Int32 × Int32 × zS) => x = (nI 0, nI 0, nI 0, τ0)) 0 ?_ ?_ ?_
  · rfl
  · intro i s hi
    exact absurd hi (by omega)
  · intro x hP
    subst hP
    dsimp only
    rw [nl3, pk_mul, if_pos (nI_le (by omega) (by omega))]
    refine ⟨_, rfl, _, rfl, rfl, fun j hj => ?_, by dsimp only; rw [hg_u_s], fun j hj => by dsimp only; rw [hg_u_j hj, t3.1 90 (by omega)], fun c c1 c2 => by dsimp only; rw [hg_u_n c1, t3.1 c c2], fun j j1 j2 => by dsimp only; rw [hg_u_n (by omega), t3.2 j (by omega)]⟩
    dsimp only
    rw [hg_u_n (by omega), t3.2 _ (by omega)]
    exact hQ j hj
theorem yy_rF_0 (hD : hg_D W H R) (hG : hg_G1 σ p W H R) {N : Nat} {t : Int32} (hN : N ≤ 13) (ht : (N = 0 ∧ t = 0) ∨ (1 ≤ N ∧ ¬ t = 0)) (a : Int32) : ∃ g, ((f_G_copyFrom_17_1 σ).bind fun r8 =>
              (z_loop (S := Int32 × Int32 × Int32 × zS) (β := (Int32 × Int32 × zS) ⊕ (Int32 × zS)) (fun s9 =>
                  if nI N ≤ s9.2.2.1 then
                    some (.inr (.inl (s9.1, s9.2.1, s9.2.2.2)))
                  else
                    if s9.1 = 0 then
                      z_let (a + ((3 : Int32) * s9.2.2.1)) fun v12 =>
                      (f_Sh_hasThree_82 v12 s9.2.2.2).bind fun r13 =>
                      z_join (T := Int32 × Int32 × zS) (fun t14 =>
                          some (.inl (t14.1, t14.2.1, (s9.2.2.1 + (1 : Int32)), t14.2.2))
                        ) (fun j14 =>
                          if r13 = 0 then
                            j14 ((2 : Int32), s9.2.1, s9.2.2.2)
                          else
                            if z_ib v12 40 = true then
                            if z_ib (v12 + (1 : Int32)) 40 = true then
                            if z_ib (v12 + (2 : Int32)) 40 = true then
                            (f_G_buyAndSet_17 (s9.2.2.2 83 v12.toNatClampNeg) (s9.2.2.2 83 (v12 + (1 : Int32)).toNatClampNeg) (s9.2.2.2 83 (v12 + (2 : Int32)).toNatClampNeg) s9.2.2.2).bind fun r19 =>
                            if 0 ≤ r19.1 then
                              j14 (s9.1, (s9.2.1 + (1 : Int32)), r19.2)
                            else
                              some (.inr (.inr (((-20 : Int32) - s9.2.2.1), r19.2)))
                            else none
                            else none
                            else none
                        )
                    else
                      some (.inr (.inl (s9.1, s9.2.1, s9.2.2.2)))
                ) (t, (0 : Int32), (0 : Int32), r8)).bind (fun bb => match bb with
                | .inl b9 =>
                  (f_G_copyFrom_1_17 b9.2.2).bind fun r21 =>
                  z_let (z_u r21 0 10 b9.1) fun τ22 =>
                  some (b9.2.1, τ22)
                | .inr g => some g)) = some g ∧ g.1 = nI 0 ∧ hg_G1 g.2 p W H R ∧ g.2 0 10 = t ∧ (∀ j, j ≠ 10 → g.2 0 j = σ 0 j) ∧ ∀ k, k ≠ 0 → (k < 1 ∨ 32 < k) → g.2 k = σ k := by
  obtain ⟨τ0, t1, t2, t3⟩ := yy_copy_17_1 hD.2.2.2.2 hG
  obtain ⟨τ, u1, u2, u3⟩ := yy_copy_1_17 hD.2.2.2.2 t2
  rw [t1, z_bs]
  refine z_lp (fun _ (x : Int32 × Int32 × Int32 × zS) => x = (t, 0, 0, τ0)) 0 ?_ ?_ ?_
  · rfl
  · intro i s hi
    exact absurd hi (by omega)
  · intro x hP
    subst hP
    dsimp only
    have key : ∃ g, ((f_G_copyFrom_1_17 τ0).bind fun r21 => z_let (z_u r21 0 10 t) fun τ22 => some ((0 : Int32), τ22)) = some g ∧ g.1 = nI 0 ∧ hg_G1 g.2 p W H R ∧ g.2 0 10 = t ∧ (∀ j, j ≠ 10 → g.2 0 j = σ 0 j) ∧ ∀ k, k ≠ 0 → (k < 1 ∨ 32 < k) → g.2 k = σ k := by
      rw [u1, z_bs, z_let_e]
      refine ⟨_, rfl, rfl, hg_G1_c u2 (fun k k1 k2 => hg_u_n (by omega)), by dsimp only; rw [hg_u_s], fun j hj => by dsimp only; rw [hg_u_j hj, u3 0 (by omega), t3 0 (by omega)], fun c c1 c2 => by dsimp only; rw [hg_u_n c1, u3 c (by omega), t3 c (by omega)]⟩
    rcases ht with ⟨rfl, rfl⟩ | ⟨h1, h2⟩
    · rw [if_pos (show nI 0 ≤ 0 from by decide)]
      exact ⟨_, rfl, key⟩
    · rw [if_neg (show ¬ nI N ≤ 0 from nI_ge h1 (by omega)), if_neg h2]
      exact ⟨_, rfl, key⟩
theorem yy_fA_0 {l : Nat} {t : Int32} (h : (σ 82 2 = - nI 4 ∧ t = nI 1) ∨ (∃ l' n, l' ≤ 2 ∧ l ≤ 2 ∧ n ≤ 40 ∧ σ 82 1 = nI l' ∧ σ 82 2 = nI n ∧ t = (if l = l' then 0 else nI 3))) : f_Sh_faultAs_82 (nI l) σ = some t := by
  unfold f_Sh_faultAs_82
  rcases h with ⟨h1, rfl⟩ | ⟨l', n, q1, q2, q3, q4, q5, rfl⟩
  · rw [y_isThere_82, z_bs, if_pos h1]
    exact if_pos rfl
  · rw [y_isThere_82, z_bs, if_neg (show ¬ σ 82 2 = - nI 4 by rw [q5]; exact z_neg (b := 4) (by omega) (by omega) _ (by omega)), if_neg (show ¬ nI 1 = 0 by decide), q4]
    by_cases c : l = l'
    · rw [if_pos (show nI l = nI l' by rw [c]), if_pos c]
    · rw [if_neg (show ¬ nI l = nI l' by rw [nI_eq (by omega) (by omega)]; exact c), if_neg c]
      rfl
theorem yy_readF_0 (hD : hg_D W H R) (hG : hg_G1 σ p W H R) {N l : Nat} {t : Int32} (ha : 0 ≤ (nI 0).toInt ∧ (nI 0).toInt ≤ 3) (hb : 0 ≤ (nI l).toInt ∧ (nI l).toInt ≤ 2) (hd : 0 ≤ (nI N).toInt ∧ (nI N).toInt ≤ 13) (hN : N ≤ 13) (ht : (N = 0 ∧ t = 0) ∨ (1 ≤ N ∧ ¬ t = 0 ∧ f_Sh_faultAs_82 (nI l) σ = some t)) (a : Int32) : ∃ g, f_Y_read (nI 0) (nI l) a (nI N) σ = some g ∧ g.1 = nI 0 ∧ hg_G1 g.2 p W H R ∧ g.2 0 10 = t ∧ (∀ j, j ≠ 10 → g.2 0 j = σ 0 j) ∧ ∀ k, k ≠ 0 → (k < 1 ∨ 32 < k) → g.2 k = σ k := by
  have ht2 : (N = 0 ∧ t = 0) ∨ (1 ≤ N ∧ ¬ t = 0) := ht.imp id (fun z => ⟨z.1, z.2.1⟩)
  obtain ⟨g, g1, g2⟩ := yy_rF_0 hD hG hN ht2 a
  refine ⟨g, ?_, g2⟩
  unfold f_Y_read
  rw [show f_Y_isIn (nI 0) (0 : Int32) (3 : Int32) σ = some (nI (if 0 ≤ (nI 0).toInt ∧ (nI 0).toInt ≤ 3 then 1 else 0)) from ki_0_3 _ _, z_bs, if_pos ha, if_neg (show ¬ nI 1 = 0 by decide), show f_Y_isIn (nI l) (0 : Int32) (2 : Int32) σ = some (nI (if 0 ≤ (nI l).toInt ∧ (nI l).toInt ≤ 2 then 1 else 0)) from ki_0_2 _ _, z_bs, if_pos hb, if_neg (show ¬ nI 1 = 0 by decide), show f_Y_isIn (nI N) (0 : Int32) (13 : Int32) σ = some (nI (if 0 ≤ (nI N).toInt ∧ (nI N).toInt ≤ 13 then 1 else 0)) from ki_0_13 _ _, z_bs, if_pos hd, if_neg (show ¬ nI 1 = 0 by decide), if_pos (show nI 0 = 0 from rfl)]
  rw [hg_join_to (x := t) (by
    intro j
    rcases ht with ⟨rfl, rfl⟩ | ⟨h1, h2, h3⟩
    · exact if_pos rfl
    · rw [if_neg (show ¬ nI N = 0 by rw [nl0, nI_eq (by omega) (by omega)]; omega), h3, z_bs])]
  exact g1
theorem yy_readG_0 (hD : hg_D W H R) (hV : hg_V p R) (hG : hg_G1 σ p W H R) {N l n : Nat} (ha : 0 ≤ (nI 0).toInt ∧ (nI 0).toInt ≤ 3) (hb : 0 ≤ (nI l).toInt ∧ (nI l).toInt ≤ 2) (hd : 0 ≤ (nI N).toInt ∧ (nI N).toInt ≤ 13) (hN1 : 1 ≤ N) (hN : N ≤ 13) (hl : l ≤ 2) (hn : n ≤ 40) (h1 : σ 82 1 = nI l) (h2 : σ 82 2 = nI n) (hv : ∀ i, i < 40 → σ 83 i = V i) (a : Int32) : ∃ g, f_Y_read (nI 0) (nI l) a (nI N) σ = some g ∧ ge_rQ W H R V a n N p σ g := by
  obtain ⟨g, g1, g2⟩ := yy_rloop_0 hD hV hG hn hN h2 hv a
  refine ⟨g, ?_, g2⟩
  unfold f_Y_read
  rw [show f_Y_isIn (nI 0) (0 : Int32) (3 : Int32) σ = some (nI (if 0 ≤ (nI 0).toInt ∧ (nI 0).toInt ≤ 3 then 1 else 0)) from ki_0_3 _ _, z_bs, if_pos ha, if_neg (show ¬ nI 1 = 0 by decide), show f_Y_isIn (nI l) (0 : Int32) (2 : Int32) σ = some (nI (if 0 ≤ (nI l).toInt ∧ (nI l).toInt ≤ 2 then 1 else 0)) from ki_0_2 _ _, z_bs, if_pos hb, if_neg (show ¬ nI 1 = 0 by decide), show f_Y_isIn (nI N) (0 : Int32) (13 : Int32) σ = some (nI (if 0 ≤ (nI N).toInt ∧ (nI N).toInt ≤ 13 then 1 else 0)) from ki_0_13 _ _, z_bs, if_pos hd, if_neg (show ¬ nI 1 = 0 by decide), if_pos (show nI 0 = 0 from rfl)]
  rw [hg_join_to (x := (0 : Int32)) (by
    intro j
    rw [if_neg (show ¬ nI N = 0 by rw [nl0, nI_eq (by omega) (by omega)]; omega), yy_fA_0 (t := 0) (Or.inr ⟨l, n, hl, hl, hn, h1, h2, by rw [if_pos rfl]⟩), z_bs])]
  exact g1
theorem yc_read_0 {N l : Nat} (h : hg_I σ W H R p) (ha : 0 ≤ (nI 0).toInt ∧ (nI 0).toInt ≤ 3) (hb : 0 ≤ (nI l).toInt ∧ (nI l).toInt ≤ 2) (hd : 0 ≤ (nI N).toInt ∧ (nI N).toInt ≤ 13) (hN : N ≤ 13) (hl : l ≤ 2) (a : Int32) : hc_B (f_Y_read (nI 0) (nI l) a (nI N)) (f_M_read (nI 0) (nI l) a (nI N)) σ := by
  obtain ⟨hD, hV, hG, hQ, hX, hB⟩ := id h
  have hh : I_h1 σ 82 83 0 := I_h_iff.mp hX.2.2.2.2.1 0 (by omega)
  by_cases hN0 : N = 0
  · subst hN0
    obtain ⟨⟨r, τ⟩, g1, g2, g3, g4, g5, g6⟩ := yy_readF_0 (t := 0) hD hG ha hb hd hN (Or.inl ⟨rfl, rfl⟩) a
    dsimp only at g2 g3 g4 g5 g6
    obtain ⟨⟨r2, υ⟩, m1, m2, m3, m4, m5, m6, m7⟩ := mm_read0 (σ := τ) (hg_Q_c hQ (g6 91 (by omega) (by omega))) ha hb hd a
    dsimp only at m2 m3 m4 m5 m6 m7
    exact ⟨nI 0, τ, υ, by rw [g1, g2], by rw [m1, m2], hg_rd h hV hB g3 m3 g4 g5 g6 m4 m5 m6 m7⟩
  have fault : ∀ t : Int32, ¬ t = 0 → f_Sh_faultAs_82 (nI l) σ = some t → ((σ 102 0 = -4 ∧ t = nI 1) ∨ (¬ σ 102 0 = -4 ∧ ¬ σ 102 0 = nI l ∧ t = nI 3)) → hc_B (f_Y_read (nI 0) (nI l) a (nI N)) (f_M_read (nI 0) (nI l) a (nI N)) σ := by
    intro t t0 tf t2
    obtain ⟨⟨r, τ⟩, g1, g2, g3, g4, g5, g6⟩ := yy_readF_0 hD hG ha hb hd hN (Or.inr ⟨by omega, t0, tf⟩) a
    dsimp only at g2 g3 g4 g5 g6
    obtain ⟨⟨r2, υ⟩, m1, m2, m3, m4, m5, m6, m7⟩ := mm_readF (σ := τ) (t := t) (hg_Q_c hQ (g6 91 (by omega) (by omega))) (show 0 < 4 by omega) (by omega) hN ha hb hd (by rw [g6 102 (by omega) (by omega)]; exact t2) a
    dsimp only at m2 m3 m4 m5 m6 m7
    exact ⟨nI 0, τ, υ, by rw [g1, g2], by rw [m1, m2], hg_rd h hV hB g3 m3 g4 g5 g6 m4 m5 m6 m7⟩
  rcases hh with ⟨s1, s2⟩ | ⟨l', n, s1, s2, s3, s4, s5, s6, s7⟩
  · exact fault (nI 1) (by decide) (yy_fA_0 (Or.inl ⟨s1, rfl⟩)) (Or.inl ⟨s2, rfl⟩)
  · by_cases c : l = l'
    · subst c
      obtain ⟨⟨r, τ⟩, g1, g2⟩ := yy_readG_0 (V := fun i => σ 83 i) hD hV hG ha hb hd (by omega) hN hl s2 s3 s4 (fun _ _ => rfl) a
      have fr : ∀ c, c = 90 ∨ c = 91 ∨ c = 92 ∨ (102 ≤ c ∧ c ≤ 104) → τ c = σ c := fun c hc => by
        rcases g2 with ⟨s, q1, q2, q3, q4, q5⟩ | ⟨s, q1, q2, q3, q4, q5, q6, q7⟩
        · exact q5 c (by omega)
        · exact q7 c (by omega) (by omega)
      obtain ⟨⟨r2, υ⟩, m1, m2⟩ := mm_read (σ := τ) (k := 0) (V := fun i => σ 83 i) hD (hg_M_c hX.1 (fr 90 (by omega)) (fr 92 (by omega))) hV (hg_Q_c hQ (fr 91 (by omega))) (by omega) hl s2 hN ha hb hd (by rw [fr 102 (by omega)]; exact s5) (by rw [fr 103 (by omega)]; exact s6) (fun i hi => by rw [fr 104 (by omega)]; exact (s7 i hi).symm) a
      rcases g2 with ⟨s, q1, q2, q3, q4, q5⟩ | ⟨s, q1, q2, q3, q4, q5, q6, q7⟩
      · rcases m2 with ⟨s', w1, w2, w3, w4, w5, w6, w7⟩ | ⟨s', w1, w2, w3, w4, w5, w6, w7, w8⟩
        · dsimp only at q4 q5 w4 w5 w6 w7
          have es : s' = s := by rw [← w2, ← q2]
          subst es
          refine ⟨-20 - nI s', τ, υ, by rw [g1, q4], by rw [m1, w4], hg_mk0 h q5 (fun k k1 _ => w5 k k1) (fun j hj => ?_)⟩
          by_cases cj : j < 110
          · rw [hg_Q0 w6 j cj, hg_Q0 hQ j cj]
          · rw [w7 j (by omega) hj, q5 91 (by omega)]
        · exfalso
          have es : s' = s := by rw [← w1, ← q2]
          subst es
          rw [w2 q1] at q3
          cases q3
      · rcases m2 with ⟨s', w1, w2, w3, w4, w5, w6, w7⟩ | ⟨s', w1, w2, w3, w4, w5, w6, w7, w8⟩
        · exfalso
          have es : s' = s := by rw [← w2, ← q1]
          subst es
          rw [q2 w1] at w3
          cases w3
        · dsimp only at q3 q4 q5 q6 q7 w3 w4 w5 w6 w7 w8
          have es : s' = s := by rw [← w1, ← q1]
          subst es
          exact ⟨nI s', τ, υ, by rw [g1, q3], by rw [m1, w3], hg_rd h (ge_rp_V hD hV s') (ge_rp_B hD hB s') q4 w4 q5 q6 q7 w5 w6 w7 w8⟩
    · exact fault (nI 3) (by decide) (yy_fA_0 (Or.inr ⟨l', n, s1, hl, s2, s3, s4, by rw [if_neg c]⟩)) (Or.inr ⟨by rw [s5]; exact z_neg (b := 4) (by omega) (by omega) _ (by omega), by rw [s5, nI_eq (by omega) (by omega)]; exact fun z => c z.symm, rfl⟩)
theorem yy_rF_1 (hD : hg_D W H R) (hG : hg_G1 σ p W H R) {N : Nat} {t : Int32} (hN : N ≤ 13) (ht : (N = 0 ∧ t = 0) ∨ (1 ≤ N ∧ ¬ t = 0)) (a : Int32) : ∃ g, ((f_G_copyFrom_17_1 σ).bind fun r8 =>
              (z_loop (S := Int32 × Int32 × Int32 × zS) (β := (Int32 × Int32 × zS) ⊕ (Int32 × zS)) (fun s9 =>
                  if nI N ≤ s9.2.2.1 then
                    some (.inr (.inl (s9.1, s9.2.1, s9.2.2.2)))
                  else
                    if s9.1 = 0 then
                      z_let (a + ((3 : Int32) * s9.2.2.1)) fun v12 =>
                      (f_Sh_hasThree_84 v12 s9.2.2.2).bind fun r13 =>
                      z_join (T := Int32 × Int32 × zS) (fun t14 =>
                          some (.inl (t14.1, t14.2.1, (s9.2.2.1 + (1 : Int32)), t14.2.2))
                        ) (fun j14 =>
                          if r13 = 0 then
                            j14 ((2 : Int32), s9.2.1, s9.2.2.2)
                          else
                            if z_ib v12 40 = true then
                            if z_ib (v12 + (1 : Int32)) 40 = true then
                            if z_ib (v12 + (2 : Int32)) 40 = true then
                            (f_G_buyAndSet_17 (s9.2.2.2 85 v12.toNatClampNeg) (s9.2.2.2 85 (v12 + (1 : Int32)).toNatClampNeg) (s9.2.2.2 85 (v12 + (2 : Int32)).toNatClampNeg) s9.2.2.2).bind fun r19 =>
                            if 0 ≤ r19.1 then
                              j14 (s9.1, (s9.2.1 + (1 : Int32)), r19.2)
                            else
                              some (.inr (.inr (((-20 : Int32) - s9.2.2.1), r19.2)))
                            else none
                            else none
                            else none
                        )
                    else
                      some (.inr (.inl (s9.1, s9.2.1, s9.2.2.2)))
                ) (t, (0 : Int32), (0 : Int32), r8)).bind (fun bb => match bb with
                | .inl b9 =>
                  (f_G_copyFrom_1_17 b9.2.2).bind fun r21 =>
                  z_let (z_u r21 0 10 b9.1) fun τ22 =>
                  some (b9.2.1, τ22)
                | .inr g => some g)) = some g ∧ g.1 = nI 0 ∧ hg_G1 g.2 p W H R ∧ g.2 0 10 = t ∧ (∀ j, j ≠ 10 → g.2 0 j = σ 0 j) ∧ ∀ k, k ≠ 0 → (k < 1 ∨ 32 < k) → g.2 k = σ k := by
  obtain ⟨τ0, t1, t2, t3⟩ := yy_copy_17_1 hD.2.2.2.2 hG
  obtain ⟨τ, u1, u2, u3⟩ := yy_copy_1_17 hD.2.2.2.2 t2
  rw [t1, z_bs]
  refine z_lp (fun _ (x : Int32 × Int32 × Int32 × zS) => x = (t, 0, 0, τ0)) 0 ?_ ?_ ?_
  · rfl
  · intro i s hi
    exact absurd hi (by omega)
  · intro x hP
    subst hP
    dsimp only
    have key : ∃ g, ((f_G_copyFrom_1_17 τ0).bind fun r21 => z_let (z_u r21 0 10 t) fun τ22 => some ((0 : Int32), τ22)) = some g ∧ g.1 = nI 0 ∧ hg_G1 g.2 p W H R ∧ g.2 0 10 = t ∧ (∀ j, j ≠ 10 → g.2 0 j = σ 0 j) ∧ ∀ k, k ≠ 0 → (k < 1 ∨ 32 < k) → g.2 k = σ k := by
      rw [u1, z_bs, z_let_e]
      refine ⟨_, rfl, rfl, hg_G1_c u2 (fun k k1 k2 => hg_u_n (by omega)), by dsimp only; rw [hg_u_s], fun j hj => by dsimp only; rw [hg_u_j hj, u3 0 (by omega), t3 0 (by omega)], fun c c1 c2 => by dsimp only; rw [hg_u_n c1, u3 c (by omega), t3 c (by omega)]⟩
    rcases ht with ⟨rfl, rfl⟩ | ⟨h1, h2⟩
    · rw [if_pos (show nI 0 ≤ 0 from by decide)]
      exact ⟨_, rfl, key⟩
    · rw [if_neg (show ¬ nI N ≤ 0 from nI_ge h1 (by omega)), if_neg h2]
      exact ⟨_, rfl, key⟩
theorem yy_fA_1 {l : Nat} {t : Int32} (h : (σ 84 2 = - nI 4 ∧ t = nI 1) ∨ (∃ l' n, l' ≤ 2 ∧ l ≤ 2 ∧ n ≤ 40 ∧ σ 84 1 = nI l' ∧ σ 84 2 = nI n ∧ t = (if l = l' then 0 else nI 3))) : f_Sh_faultAs_84 (nI l) σ = some t := by
  unfold f_Sh_faultAs_84
  rcases h with ⟨h1, rfl⟩ | ⟨l', n, q1, q2, q3, q4, q5, rfl⟩
  · rw [y_isThere_84, z_bs, if_pos h1]
    exact if_pos rfl
  · rw [y_isThere_84, z_bs, if_neg (show ¬ σ 84 2 = - nI 4 by rw [q5]; exact z_neg (b := 4) (by omega) (by omega) _ (by omega)), if_neg (show ¬ nI 1 = 0 by decide), q4]
    by_cases c : l = l'
    · rw [if_pos (show nI l = nI l' by rw [c]), if_pos c]
    · rw [if_neg (show ¬ nI l = nI l' by rw [nI_eq (by omega) (by omega)]; exact c), if_neg c]
      rfl
theorem yy_readF_1 (hD : hg_D W H R) (hG : hg_G1 σ p W H R) {N l : Nat} {t : Int32} (ha : 0 ≤ (nI 1).toInt ∧ (nI 1).toInt ≤ 3) (hb : 0 ≤ (nI l).toInt ∧ (nI l).toInt ≤ 2) (hd : 0 ≤ (nI N).toInt ∧ (nI N).toInt ≤ 13) (hN : N ≤ 13) (ht : (N = 0 ∧ t = 0) ∨ (1 ≤ N ∧ ¬ t = 0 ∧ f_Sh_faultAs_84 (nI l) σ = some t)) (a : Int32) : ∃ g, f_Y_read (nI 1) (nI l) a (nI N) σ = some g ∧ g.1 = nI 0 ∧ hg_G1 g.2 p W H R ∧ g.2 0 10 = t ∧ (∀ j, j ≠ 10 → g.2 0 j = σ 0 j) ∧ ∀ k, k ≠ 0 → (k < 1 ∨ 32 < k) → g.2 k = σ k := by
  have ht2 : (N = 0 ∧ t = 0) ∨ (1 ≤ N ∧ ¬ t = 0) := ht.imp id (fun z => ⟨z.1, z.2.1⟩)
  obtain ⟨g, g1, g2⟩ := yy_rF_1 hD hG hN ht2 a
  refine ⟨g, ?_, g2⟩
  unfold f_Y_read
  rw [show f_Y_isIn (nI 1) (0 : Int32) (3 : Int32) σ = some (nI (if 0 ≤ (nI 1).toInt ∧ (nI 1).toInt ≤ 3 then 1 else 0)) from ki_0_3 _ _, z_bs, if_pos ha, if_neg (show ¬ nI 1 = 0 by decide), show f_Y_isIn (nI l) (0 : Int32) (2 : Int32) σ = some (nI (if 0 ≤ (nI l).toInt ∧ (nI l).toInt ≤ 2 then 1 else 0)) from ki_0_2 _ _, z_bs, if_pos hb, if_neg (show ¬ nI 1 = 0 by decide), show f_Y_isIn (nI N) (0 : Int32) (13 : Int32) σ = some (nI (if 0 ≤ (nI N).toInt ∧ (nI N).toInt ≤ 13 then 1 else 0)) from ki_0_13 _ _, z_bs, if_pos hd, if_neg (show ¬ nI 1 = 0 by decide), if_neg (show ¬ nI 1 = 0 by decide), if_pos (show nI 1 = 1 from rfl)]
  rw [hg_join_to (x := t) (by
    intro j
    rcases ht with ⟨rfl, rfl⟩ | ⟨h1, h2, h3⟩
    · exact if_pos rfl
    · rw [if_neg (show ¬ nI N = 0 by rw [nl0, nI_eq (by omega) (by omega)]; omega), h3, z_bs])]
  exact g1
theorem yy_readG_1 (hD : hg_D W H R) (hV : hg_V p R) (hG : hg_G1 σ p W H R) {N l n : Nat} (ha : 0 ≤ (nI 1).toInt ∧ (nI 1).toInt ≤ 3) (hb : 0 ≤ (nI l).toInt ∧ (nI l).toInt ≤ 2) (hd : 0 ≤ (nI N).toInt ∧ (nI N).toInt ≤ 13) (hN1 : 1 ≤ N) (hN : N ≤ 13) (hl : l ≤ 2) (hn : n ≤ 40) (h1 : σ 84 1 = nI l) (h2 : σ 84 2 = nI n) (hv : ∀ i, i < 40 → σ 85 i = V i) (a : Int32) : ∃ g, f_Y_read (nI 1) (nI l) a (nI N) σ = some g ∧ ge_rQ W H R V a n N p σ g := by
  obtain ⟨g, g1, g2⟩ := yy_rloop_1 hD hV hG hn hN h2 hv a
  refine ⟨g, ?_, g2⟩
  unfold f_Y_read
  rw [show f_Y_isIn (nI 1) (0 : Int32) (3 : Int32) σ = some (nI (if 0 ≤ (nI 1).toInt ∧ (nI 1).toInt ≤ 3 then 1 else 0)) from ki_0_3 _ _, z_bs, if_pos ha, if_neg (show ¬ nI 1 = 0 by decide), show f_Y_isIn (nI l) (0 : Int32) (2 : Int32) σ = some (nI (if 0 ≤ (nI l).toInt ∧ (nI l).toInt ≤ 2 then 1 else 0)) from ki_0_2 _ _, z_bs, if_pos hb, if_neg (show ¬ nI 1 = 0 by decide), show f_Y_isIn (nI N) (0 : Int32) (13 : Int32) σ = some (nI (if 0 ≤ (nI N).toInt ∧ (nI N).toInt ≤ 13 then 1 else 0)) from ki_0_13 _ _, z_bs, if_pos hd, if_neg (show ¬ nI 1 = 0 by decide), if_neg (show ¬ nI 1 = 0 by decide), if_pos (show nI 1 = 1 from rfl)]
  rw [hg_join_to (x := (0 : Int32)) (by
    intro j
    rw [if_neg (show ¬ nI N = 0 by rw [nl0, nI_eq (by omega) (by omega)]; omega), yy_fA_1 (t := 0) (Or.inr ⟨l, n, hl, hl, hn, h1, h2, by rw [if_pos rfl]⟩), z_bs])]
  exact g1
theorem yc_read_1 {N l : Nat} (h : hg_I σ W H R p) (ha : 0 ≤ (nI 1).toInt ∧ (nI 1).toInt ≤ 3) (hb : 0 ≤ (nI l).toInt ∧ (nI l).toInt ≤ 2) (hd : 0 ≤ (nI N).toInt ∧ (nI N).toInt ≤ 13) (hN : N ≤ 13) (hl : l ≤ 2) (a : Int32) : hc_B (f_Y_read (nI 1) (nI l) a (nI N)) (f_M_read (nI 1) (nI l) a (nI N)) σ := by
  obtain ⟨hD, hV, hG, hQ, hX, hB⟩ := id h
  have hh : I_h1 σ 84 85 1 := I_h_iff.mp hX.2.2.2.2.1 1 (by omega)
  by_cases hN0 : N = 0
  · subst hN0
    obtain ⟨⟨r, τ⟩, g1, g2, g3, g4, g5, g6⟩ := yy_readF_1 (t := 0) hD hG ha hb hd hN (Or.inl ⟨rfl, rfl⟩) a
    dsimp only at g2 g3 g4 g5 g6
    obtain ⟨⟨r2, υ⟩, m1, m2, m3, m4, m5, m6, m7⟩ := mm_read0 (σ := τ) (hg_Q_c hQ (g6 91 (by omega) (by omega))) ha hb hd a
    dsimp only at m2 m3 m4 m5 m6 m7
    exact ⟨nI 0, τ, υ, by rw [g1, g2], by rw [m1, m2], hg_rd h hV hB g3 m3 g4 g5 g6 m4 m5 m6 m7⟩
  have fault : ∀ t : Int32, ¬ t = 0 → f_Sh_faultAs_84 (nI l) σ = some t → ((σ 102 1 = -4 ∧ t = nI 1) ∨ (¬ σ 102 1 = -4 ∧ ¬ σ 102 1 = nI l ∧ t = nI 3)) → hc_B (f_Y_read (nI 1) (nI l) a (nI N)) (f_M_read (nI 1) (nI l) a (nI N)) σ := by
    intro t t0 tf t2
    obtain ⟨⟨r, τ⟩, g1, g2, g3, g4, g5, g6⟩ := yy_readF_1 hD hG ha hb hd hN (Or.inr ⟨by omega, t0, tf⟩) a
    dsimp only at g2 g3 g4 g5 g6
    obtain ⟨⟨r2, υ⟩, m1, m2, m3, m4, m5, m6, m7⟩ := mm_readF (σ := τ) (t := t) (hg_Q_c hQ (g6 91 (by omega) (by omega))) (show 1 < 4 by omega) (by omega) hN ha hb hd (by rw [g6 102 (by omega) (by omega)]; exact t2) a
    dsimp only at m2 m3 m4 m5 m6 m7
    exact ⟨nI 0, τ, υ, by rw [g1, g2], by rw [m1, m2], hg_rd h hV hB g3 m3 g4 g5 g6 m4 m5 m6 m7⟩
  rcases hh with ⟨s1, s2⟩ | ⟨l', n, s1, s2, s3, s4, s5, s6, s7⟩
  · exact fault (nI 1) (by decide) (yy_fA_1 (Or.inl ⟨s1, rfl⟩)) (Or.inl ⟨s2, rfl⟩)
  · by_cases c : l = l'
    · subst c
      obtain ⟨⟨r, τ⟩, g1, g2⟩ := yy_readG_1 (V := fun i => σ 85 i) hD hV hG ha hb hd (by omega) hN hl s2 s3 s4 (fun _ _ => rfl) a
      have fr : ∀ c, c = 90 ∨ c = 91 ∨ c = 92 ∨ (102 ≤ c ∧ c ≤ 104) → τ c = σ c := fun c hc => by
        rcases g2 with ⟨s, q1, q2, q3, q4, q5⟩ | ⟨s, q1, q2, q3, q4, q5, q6, q7⟩
        · exact q5 c (by omega)
        · exact q7 c (by omega) (by omega)
      obtain ⟨⟨r2, υ⟩, m1, m2⟩ := mm_read (σ := τ) (k := 1) (V := fun i => σ 85 i) hD (hg_M_c hX.1 (fr 90 (by omega)) (fr 92 (by omega))) hV (hg_Q_c hQ (fr 91 (by omega))) (by omega) hl s2 hN ha hb hd (by rw [fr 102 (by omega)]; exact s5) (by rw [fr 103 (by omega)]; exact s6) (fun i hi => by rw [fr 104 (by omega)]; exact (s7 i hi).symm) a
      rcases g2 with ⟨s, q1, q2, q3, q4, q5⟩ | ⟨s, q1, q2, q3, q4, q5, q6, q7⟩
      · rcases m2 with ⟨s', w1, w2, w3, w4, w5, w6, w7⟩ | ⟨s', w1, w2, w3, w4, w5, w6, w7, w8⟩
        · dsimp only at q4 q5 w4 w5 w6 w7
          have es : s' = s := by rw [← w2, ← q2]
          subst es
          refine ⟨-20 - nI s', τ, υ, by rw [g1, q4], by rw [m1, w4], hg_mk0 h q5 (fun k k1 _ => w5 k k1) (fun j hj => ?_)⟩
          by_cases cj : j < 110
          · rw [hg_Q0 w6 j cj, hg_Q0 hQ j cj]
          · rw [w7 j (by omega) hj, q5 91 (by omega)]
        · exfalso
          have es : s' = s := by rw [← w1, ← q2]
          subst es
          rw [w2 q1] at q3
          cases q3
      · rcases m2 with ⟨s', w1, w2, w3, w4, w5, w6, w7⟩ | ⟨s', w1, w2, w3, w4, w5, w6, w7, w8⟩
        · exfalso
          have es : s' = s := by rw [← w2, ← q1]
          subst es
          rw [q2 w1] at w3
          cases w3
        · dsimp only at q3 q4 q5 q6 q7 w3 w4 w5 w6 w7 w8
          have es : s' = s := by rw [← w1, ← q1]
          subst es
          exact ⟨nI s', τ, υ, by rw [g1, q3], by rw [m1, w3], hg_rd h (ge_rp_V hD hV s') (ge_rp_B hD hB s') q4 w4 q5 q6 q7 w5 w6 w7 w8⟩
    · exact fault (nI 3) (by decide) (yy_fA_1 (Or.inr ⟨l', n, s1, hl, s2, s3, s4, by rw [if_neg c]⟩)) (Or.inr ⟨by rw [s5]; exact z_neg (b := 4) (by omega) (by omega) _ (by omega), by rw [s5, nI_eq (by omega) (by omega)]; exact fun z => c z.symm, rfl⟩)
theorem yy_rF_2 (hD : hg_D W H R) (hG : hg_G1 σ p W H R) {N : Nat} {t : Int32} (hN : N ≤ 13) (ht : (N = 0 ∧ t = 0) ∨ (1 ≤ N ∧ ¬ t = 0)) (a : Int32) : ∃ g, ((f_G_copyFrom_17_1 σ).bind fun r8 =>
              (z_loop (S := Int32 × Int32 × Int32 × zS) (β := (Int32 × Int32 × zS) ⊕ (Int32 × zS)) (fun s9 =>
                  if nI N ≤ s9.2.2.1 then
                    some (.inr (.inl (s9.1, s9.2.1, s9.2.2.2)))
                  else
                    if s9.1 = 0 then
                      z_let (a + ((3 : Int32) * s9.2.2.1)) fun v12 =>
                      (f_Sh_hasThree_86 v12 s9.2.2.2).bind fun r13 =>
                      z_join (T := Int32 × Int32 × zS) (fun t14 =>
                          some (.inl (t14.1, t14.2.1, (s9.2.2.1 + (1 : Int32)), t14.2.2))
                        ) (fun j14 =>
                          if r13 = 0 then
                            j14 ((2 : Int32), s9.2.1, s9.2.2.2)
                          else
                            if z_ib v12 40 = true then
                            if z_ib (v12 + (1 : Int32)) 40 = true then
                            if z_ib (v12 + (2 : Int32)) 40 = true then
                            (f_G_buyAndSet_17 (s9.2.2.2 87 v12.toNatClampNeg) (s9.2.2.2 87 (v12 + (1 : Int32)).toNatClampNeg) (s9.2.2.2 87 (v12 + (2 : Int32)).toNatClampNeg) s9.2.2.2).bind fun r19 =>
                            if 0 ≤ r19.1 then
                              j14 (s9.1, (s9.2.1 + (1 : Int32)), r19.2)
                            else
                              some (.inr (.inr (((-20 : Int32) - s9.2.2.1), r19.2)))
                            else none
                            else none
                            else none
                        )
                    else
                      some (.inr (.inl (s9.1, s9.2.1, s9.2.2.2)))
                ) (t, (0 : Int32), (0 : Int32), r8)).bind (fun bb => match bb with
                | .inl b9 =>
                  (f_G_copyFrom_1_17 b9.2.2).bind fun r21 =>
                  z_let (z_u r21 0 10 b9.1) fun τ22 =>
                  some (b9.2.1, τ22)
                | .inr g => some g)) = some g ∧ g.1 = nI 0 ∧ hg_G1 g.2 p W H R ∧ g.2 0 10 = t ∧ (∀ j, j ≠ 10 → g.2 0 j = σ 0 j) ∧ ∀ k, k ≠ 0 → (k < 1 ∨ 32 < k) → g.2 k = σ k := by
  obtain ⟨τ0, t1, t2, t3⟩ := yy_copy_17_1 hD.2.2.2.2 hG
  obtain ⟨τ, u1, u2, u3⟩ := yy_copy_1_17 hD.2.2.2.2 t2
  rw [t1, z_bs]
  refine z_lp (fun _ (x : Int32 × Int32 × Int32 × zS) => x = (t, 0, 0, τ0)) 0 ?_ ?_ ?_
  · rfl
  · intro i s hi
    exact absurd hi (by omega)
  · intro x hP
    subst hP
    dsimp only
    have key : ∃ g, ((f_G_copyFrom_1_17 τ0).bind fun r21 => z_let (z_u r21 0 10 t) fun τ22 => some ((0 : Int32), τ22)) = some g ∧ g.1 = nI 0 ∧ hg_G1 g.2 p W H R ∧ g.2 0 10 = t ∧ (∀ j, j ≠ 10 → g.2 0 j = σ 0 j) ∧ ∀ k, k ≠ 0 → (k < 1 ∨ 32 < k) → g.2 k = σ k := by
      rw [u1, z_bs, z_let_e]
      refine ⟨_, rfl, rfl, hg_G1_c u2 (fun k k1 k2 => hg_u_n (by omega)), by dsimp only; rw [hg_u_s], fun j hj => by dsimp only; rw [hg_u_j hj, u3 0 (by omega), t3 0 (by omega)], fun c c1 c2 => by dsimp only; rw [hg_u_n c1, u3 c (by omega), t3 c (by omega)]⟩
    rcases ht with ⟨rfl, rfl⟩ | ⟨h1, h2⟩
    · rw [if_pos (show nI 0 ≤ 0 from by decide)]
      exact ⟨_, rfl, key⟩
    · rw [if_neg (show ¬ nI N ≤ 0 from nI_ge h1 (by omega)), if_neg h2]
      exact ⟨_, rfl, key⟩
theorem yy_fA_2 {l : Nat} {t : Int32} (h : (σ 86 2 = - nI 4 ∧ t = nI 1) ∨ (∃ l' n, l' ≤ 2 ∧ l ≤ 2 ∧ n ≤ 40 ∧ σ 86 1 = nI l' ∧ σ 86 2 = nI n ∧ t = (if l = l' then 0 else nI 3))) : f_Sh_faultAs_86 (nI l) σ = some t := by
  unfold f_Sh_faultAs_86
  rcases h with ⟨h1, rfl⟩ | ⟨l', n, q1, q2, q3, q4, q5, rfl⟩
  · rw [y_isThere_86, z_bs, if_pos h1]
    exact if_pos rfl
  · rw [y_isThere_86, z_bs, if_neg (show ¬ σ 86 2 = - nI 4 by rw [q5]; exact z_neg (b := 4) (by omega) (by omega) _ (by omega)), if_neg (show ¬ nI 1 = 0 by decide), q4]
    by_cases c : l = l'
    · rw [if_pos (show nI l = nI l' by rw [c]), if_pos c]
    · rw [if_neg (show ¬ nI l = nI l' by rw [nI_eq (by omega) (by omega)]; exact c), if_neg c]
      rfl
theorem yy_readF_2 (hD : hg_D W H R) (hG : hg_G1 σ p W H R) {N l : Nat} {t : Int32} (ha : 0 ≤ (nI 2).toInt ∧ (nI 2).toInt ≤ 3) (hb : 0 ≤ (nI l).toInt ∧ (nI l).toInt ≤ 2) (hd : 0 ≤ (nI N).toInt ∧ (nI N).toInt ≤ 13) (hN : N ≤ 13) (ht : (N = 0 ∧ t = 0) ∨ (1 ≤ N ∧ ¬ t = 0 ∧ f_Sh_faultAs_86 (nI l) σ = some t)) (a : Int32) : ∃ g, f_Y_read (nI 2) (nI l) a (nI N) σ = some g ∧ g.1 = nI 0 ∧ hg_G1 g.2 p W H R ∧ g.2 0 10 = t ∧ (∀ j, j ≠ 10 → g.2 0 j = σ 0 j) ∧ ∀ k, k ≠ 0 → (k < 1 ∨ 32 < k) → g.2 k = σ k := by
  have ht2 : (N = 0 ∧ t = 0) ∨ (1 ≤ N ∧ ¬ t = 0) := ht.imp id (fun z => ⟨z.1, z.2.1⟩)
  obtain ⟨g, g1, g2⟩ := yy_rF_2 hD hG hN ht2 a
  refine ⟨g, ?_, g2⟩
  unfold f_Y_read
  rw [show f_Y_isIn (nI 2) (0 : Int32) (3 : Int32) σ = some (nI (if 0 ≤ (nI 2).toInt ∧ (nI 2).toInt ≤ 3 then 1 else 0)) from ki_0_3 _ _, z_bs, if_pos ha, if_neg (show ¬ nI 1 = 0 by decide), show f_Y_isIn (nI l) (0 : Int32) (2 : Int32) σ = some (nI (if 0 ≤ (nI l).toInt ∧ (nI l).toInt ≤ 2 then 1 else 0)) from ki_0_2 _ _, z_bs, if_pos hb, if_neg (show ¬ nI 1 = 0 by decide), show f_Y_isIn (nI N) (0 : Int32) (13 : Int32) σ = some (nI (if 0 ≤ (nI N).toInt ∧ (nI N).toInt ≤ 13 then 1 else 0)) from ki_0_13 _ _, z_bs, if_pos hd, if_neg (show ¬ nI 1 = 0 by decide), if_neg (show ¬ nI 2 = 0 by decide), if_neg (show ¬ nI 2 = 1 by decide), if_pos (show nI 2 = 2 from rfl)]
  rw [hg_join_to (x := t) (by
    intro j
    rcases ht with ⟨rfl, rfl⟩ | ⟨h1, h2, h3⟩
    · exact if_pos rfl
    · rw [if_neg (show ¬ nI N = 0 by rw [nl0, nI_eq (by omega) (by omega)]; omega), h3, z_bs])]
  exact g1
theorem yy_readG_2 (hD : hg_D W H R) (hV : hg_V p R) (hG : hg_G1 σ p W H R) {N l n : Nat} (ha : 0 ≤ (nI 2).toInt ∧ (nI 2).toInt ≤ 3) (hb : 0 ≤ (nI l).toInt ∧ (nI l).toInt ≤ 2) (hd : 0 ≤ (nI N).toInt ∧ (nI N).toInt ≤ 13) (hN1 : 1 ≤ N) (hN : N ≤ 13) (hl : l ≤ 2) (hn : n ≤ 40) (h1 : σ 86 1 = nI l) (h2 : σ 86 2 = nI n) (hv : ∀ i, i < 40 → σ 87 i = V i) (a : Int32) : ∃ g, f_Y_read (nI 2) (nI l) a (nI N) σ = some g ∧ ge_rQ W H R V a n N p σ g := by
  obtain ⟨g, g1, g2⟩ := yy_rloop_2 hD hV hG hn hN h2 hv a
  refine ⟨g, ?_, g2⟩
  unfold f_Y_read
  rw [show f_Y_isIn (nI 2) (0 : Int32) (3 : Int32) σ = some (nI (if 0 ≤ (nI 2).toInt ∧ (nI 2).toInt ≤ 3 then 1 else 0)) from ki_0_3 _ _, z_bs, if_pos ha, if_neg (show ¬ nI 1 = 0 by decide), show f_Y_isIn (nI l) (0 : Int32) (2 : Int32) σ = some (nI (if 0 ≤ (nI l).toInt ∧ (nI l).toInt ≤ 2 then 1 else 0)) from ki_0_2 _ _, z_bs, if_pos hb, if_neg (show ¬ nI 1 = 0 by decide), show f_Y_isIn (nI N) (0 : Int32) (13 : Int32) σ = some (nI (if 0 ≤ (nI N).toInt ∧ (nI N).toInt ≤ 13 then 1 else 0)) from ki_0_13 _ _, z_bs, if_pos hd, if_neg (show ¬ nI 1 = 0 by decide), if_neg (show ¬ nI 2 = 0 by decide), if_neg (show ¬ nI 2 = 1 by decide), if_pos (show nI 2 = 2 from rfl)]
  rw [hg_join_to (x := (0 : Int32)) (by
    intro j
    rw [if_neg (show ¬ nI N = 0 by rw [nl0, nI_eq (by omega) (by omega)]; omega), yy_fA_2 (t := 0) (Or.inr ⟨l, n, hl, hl, hn, h1, h2, by rw [if_pos rfl]⟩), z_bs])]
  exact g1
theorem yc_read_2 {N l : Nat} (h : hg_I σ W H R p) (ha : 0 ≤ (nI 2).toInt ∧ (nI 2).toInt ≤ 3) (hb : 0 ≤ (nI l).toInt ∧ (nI l).toInt ≤ 2) (hd : 0 ≤ (nI N).toInt ∧ (nI N).toInt ≤ 13) (hN : N ≤ 13) (hl : l ≤ 2) (a : Int32) : hc_B (f_Y_read (nI 2) (nI l) a (nI N)) (f_M_read (nI 2) (nI l) a (nI N)) σ := by
  obtain ⟨hD, hV, hG, hQ, hX, hB⟩ := id h
  have hh : I_h1 σ 86 87 2 := I_h_iff.mp hX.2.2.2.2.1 2 (by omega)
  by_cases hN0 : N = 0
  · subst hN0
    obtain ⟨⟨r, τ⟩, g1, g2, g3, g4, g5, g6⟩ := yy_readF_2 (t := 0) hD hG ha hb hd hN (Or.inl ⟨rfl, rfl⟩) a
    dsimp only at g2 g3 g4 g5 g6
    obtain ⟨⟨r2, υ⟩, m1, m2, m3, m4, m5, m6, m7⟩ := mm_read0 (σ := τ) (hg_Q_c hQ (g6 91 (by omega) (by omega))) ha hb hd a
    dsimp only at m2 m3 m4 m5 m6 m7
    exact ⟨nI 0, τ, υ, by rw [g1, g2], by rw [m1, m2], hg_rd h hV hB g3 m3 g4 g5 g6 m4 m5 m6 m7⟩
  have fault : ∀ t : Int32, ¬ t = 0 → f_Sh_faultAs_86 (nI l) σ = some t → ((σ 102 2 = -4 ∧ t = nI 1) ∨ (¬ σ 102 2 = -4 ∧ ¬ σ 102 2 = nI l ∧ t = nI 3)) → hc_B (f_Y_read (nI 2) (nI l) a (nI N)) (f_M_read (nI 2) (nI l) a (nI N)) σ := by
    intro t t0 tf t2
    obtain ⟨⟨r, τ⟩, g1, g2, g3, g4, g5, g6⟩ := yy_readF_2 hD hG ha hb hd hN (Or.inr ⟨by omega, t0, tf⟩) a
    dsimp only at g2 g3 g4 g5 g6
    obtain ⟨⟨r2, υ⟩, m1, m2, m3, m4, m5, m6, m7⟩ := mm_readF (σ := τ) (t := t) (hg_Q_c hQ (g6 91 (by omega) (by omega))) (show 2 < 4 by omega) (by omega) hN ha hb hd (by rw [g6 102 (by omega) (by omega)]; exact t2) a
    dsimp only at m2 m3 m4 m5 m6 m7
    exact ⟨nI 0, τ, υ, by rw [g1, g2], by rw [m1, m2], hg_rd h hV hB g3 m3 g4 g5 g6 m4 m5 m6 m7⟩
  rcases hh with ⟨s1, s2⟩ | ⟨l', n, s1, s2, s3, s4, s5, s6, s7⟩
  · exact fault (nI 1) (by decide) (yy_fA_2 (Or.inl ⟨s1, rfl⟩)) (Or.inl ⟨s2, rfl⟩)
  · by_cases c : l = l'
    · subst c
      obtain ⟨⟨r, τ⟩, g1, g2⟩ := yy_readG_2 (V := fun i => σ 87 i) hD hV hG ha hb hd (by omega) hN hl s2 s3 s4 (fun _ _ => rfl) a
      have fr : ∀ c, c = 90 ∨ c = 91 ∨ c = 92 ∨ (102 ≤ c ∧ c ≤ 104) → τ c = σ c := fun c hc => by
        rcases g2 with ⟨s, q1, q2, q3, q4, q5⟩ | ⟨s, q1, q2, q3, q4, q5, q6, q7⟩
        · exact q5 c (by omega)
        · exact q7 c (by omega) (by omega)
      obtain ⟨⟨r2, υ⟩, m1, m2⟩ := mm_read (σ := τ) (k := 2) (V := fun i => σ 87 i) hD (hg_M_c hX.1 (fr 90 (by omega)) (fr 92 (by omega))) hV (hg_Q_c hQ (fr 91 (by omega))) (by omega) hl s2 hN ha hb hd (by rw [fr 102 (by omega)]; exact s5) (by rw [fr 103 (by omega)]; exact s6) (fun i hi => by rw [fr 104 (by omega)]; exact (s7 i hi).symm) a
      rcases g2 with ⟨s, q1, q2, q3, q4, q5⟩ | ⟨s, q1, q2, q3, q4, q5, q6, q7⟩
      · rcases m2 with ⟨s', w1, w2, w3, w4, w5, w6, w7⟩ | ⟨s', w1, w2, w3, w4, w5, w6, w7, w8⟩
        · dsimp only at q4 q5 w4 w5 w6 w7
          have es : s' = s := by rw [← w2, ← q2]
          subst es
          refine ⟨-20 - nI s', τ, υ, by rw [g1, q4], by rw [m1, w4], hg_mk0 h q5 (fun k k1 _ => w5 k k1) (fun j hj => ?_)⟩
          by_cases cj : j < 110
          · rw [hg_Q0 w6 j cj, hg_Q0 hQ j cj]
          · rw [w7 j (by omega) hj, q5 91 (by omega)]
        · exfalso
          have es : s' = s := by rw [← w1, ← q2]
          subst es
          rw [w2 q1] at q3
          cases q3
      · rcases m2 with ⟨s', w1, w2, w3, w4, w5, w6, w7⟩ | ⟨s', w1, w2, w3, w4, w5, w6, w7, w8⟩
        · exfalso
          have es : s' = s := by rw [← w2, ← q1]
          subst es
          rw [q2 w1] at w3
          cases w3
        · dsimp only at q3 q4 q5 q6 q7 w3 w4 w5 w6 w7 w8
          have es : s' = s := by rw [← w1, ← q1]
          subst es
          exact ⟨nI s', τ, υ, by rw [g1, q3], by rw [m1, w3], hg_rd h (ge_rp_V hD hV s') (ge_rp_B hD hB s') q4 w4 q5 q6 q7 w5 w6 w7 w8⟩
    · exact fault (nI 3) (by decide) (yy_fA_2 (Or.inr ⟨l', n, s1, hl, s2, s3, s4, by rw [if_neg c]⟩)) (Or.inr ⟨by rw [s5]; exact z_neg (b := 4) (by omega) (by omega) _ (by omega), by rw [s5, nI_eq (by omega) (by omega)]; exact fun z => c z.symm, rfl⟩)
theorem yy_rF_3 (hD : hg_D W H R) (hG : hg_G1 σ p W H R) {N : Nat} {t : Int32} (hN : N ≤ 13) (ht : (N = 0 ∧ t = 0) ∨ (1 ≤ N ∧ ¬ t = 0)) (a : Int32) : ∃ g, ((f_G_copyFrom_17_1 σ).bind fun r8 =>
              (z_loop (S := Int32 × Int32 × Int32 × zS) (β := (Int32 × Int32 × zS) ⊕ (Int32 × zS)) (fun s9 =>
                  if nI N ≤ s9.2.2.1 then
                    some (.inr (.inl (s9.1, s9.2.1, s9.2.2.2)))
                  else
                    if s9.1 = 0 then
                      z_let (a + ((3 : Int32) * s9.2.2.1)) fun v12 =>
                      (f_Sh_hasThree_88 v12 s9.2.2.2).bind fun r13 =>
                      z_join (T := Int32 × Int32 × zS) (fun t14 =>
                          some (.inl (t14.1, t14.2.1, (s9.2.2.1 + (1 : Int32)), t14.2.2))
                        ) (fun j14 =>
                          if r13 = 0 then
                            j14 ((2 : Int32), s9.2.1, s9.2.2.2)
                          else
                            if z_ib v12 40 = true then
                            if z_ib (v12 + (1 : Int32)) 40 = true then
                            if z_ib (v12 + (2 : Int32)) 40 = true then
                            (f_G_buyAndSet_17 (s9.2.2.2 89 v12.toNatClampNeg) (s9.2.2.2 89 (v12 + (1 : Int32)).toNatClampNeg) (s9.2.2.2 89 (v12 + (2 : Int32)).toNatClampNeg) s9.2.2.2).bind fun r19 =>
                            if 0 ≤ r19.1 then
                              j14 (s9.1, (s9.2.1 + (1 : Int32)), r19.2)
                            else
                              some (.inr (.inr (((-20 : Int32) - s9.2.2.1), r19.2)))
                            else none
                            else none
                            else none
                        )
                    else
                      some (.inr (.inl (s9.1, s9.2.1, s9.2.2.2)))
                ) (t, (0 : Int32), (0 : Int32), r8)).bind (fun bb => match bb with
                | .inl b9 =>
                  (f_G_copyFrom_1_17 b9.2.2).bind fun r21 =>
                  z_let (z_u r21 0 10 b9.1) fun τ22 =>
                  some (b9.2.1, τ22)
                | .inr g => some g)) = some g ∧ g.1 = nI 0 ∧ hg_G1 g.2 p W H R ∧ g.2 0 10 = t ∧ (∀ j, j ≠ 10 → g.2 0 j = σ 0 j) ∧ ∀ k, k ≠ 0 → (k < 1 ∨ 32 < k) → g.2 k = σ k := by
  obtain ⟨τ0, t1, t2, t3⟩ := yy_copy_17_1 hD.2.2.2.2 hG
  obtain ⟨τ, u1, u2, u3⟩ := yy_copy_1_17 hD.2.2.2.2 t2
  rw [t1, z_bs]
  refine z_lp (fun _ (x : Int32 × Int32 × Int32 × zS) => x = (t, 0, 0, τ0)) 0 ?_ ?_ ?_
  · rfl
  · intro i s hi
    exact absurd hi (by omega)
  · intro x hP
    subst hP
    dsimp only
    have key : ∃ g, ((f_G_copyFrom_1_17 τ0).bind fun r21 => z_let (z_u r21 0 10 t) fun τ22 => some ((0 : Int32), τ22)) = some g ∧ g.1 = nI 0 ∧ hg_G1 g.2 p W H R ∧ g.2 0 10 = t ∧ (∀ j, j ≠ 10 → g.2 0 j = σ 0 j) ∧ ∀ k, k ≠ 0 → (k < 1 ∨ 32 < k) → g.2 k = σ k := by
      rw [u1, z_bs, z_let_e]
      refine ⟨_, rfl, rfl, hg_G1_c u2 (fun k k1 k2 => hg_u_n (by omega)), by dsimp only; rw [hg_u_s], fun j hj => by dsimp only; rw [hg_u_j hj, u3 0 (by omega), t3 0 (by omega)], fun c c1 c2 => by dsimp only; rw [hg_u_n c1, u3 c (by omega), t3 c (by omega)]⟩
    rcases ht with ⟨rfl, rfl⟩ | ⟨h1, h2⟩
    · rw [if_pos (show nI 0 ≤ 0 from by decide)]
      exact ⟨_, rfl, key⟩
    · rw [if_neg (show ¬ nI N ≤ 0 from nI_ge h1 (by omega)), if_neg h2]
      exact ⟨_, rfl, key⟩
theorem yy_fA_3 {l : Nat} {t : Int32} (h : (σ 88 2 = - nI 4 ∧ t = nI 1) ∨ (∃ l' n, l' ≤ 2 ∧ l ≤ 2 ∧ n ≤ 40 ∧ σ 88 1 = nI l' ∧ σ 88 2 = nI n ∧ t = (if l = l' then 0 else nI 3))) : f_Sh_faultAs_88 (nI l) σ = some t := by
  unfold f_Sh_faultAs_88
  rcases h with ⟨h1, rfl⟩ | ⟨l', n, q1, q2, q3, q4, q5, rfl⟩
  · rw [y_isThere_88, z_bs, if_pos h1]
    exact if_pos rfl
  · rw [y_isThere_88, z_bs, if_neg (show ¬ σ 88 2 = - nI 4 by rw [q5]; exact z_neg (b := 4) (by omega) (by omega) _ (by omega)), if_neg (show ¬ nI 1 = 0 by decide), q4]
    by_cases c : l = l'
    · rw [if_pos (show nI l = nI l' by rw [c]), if_pos c]
    · rw [if_neg (show ¬ nI l = nI l' by rw [nI_eq (by omega) (by omega)]; exact c), if_neg c]
      rfl
theorem yy_readF_3 (hD : hg_D W H R) (hG : hg_G1 σ p W H R) {N l : Nat} {t : Int32} (ha : 0 ≤ (nI 3).toInt ∧ (nI 3).toInt ≤ 3) (hb : 0 ≤ (nI l).toInt ∧ (nI l).toInt ≤ 2) (hd : 0 ≤ (nI N).toInt ∧ (nI N).toInt ≤ 13) (hN : N ≤ 13) (ht : (N = 0 ∧ t = 0) ∨ (1 ≤ N ∧ ¬ t = 0 ∧ f_Sh_faultAs_88 (nI l) σ = some t)) (a : Int32) : ∃ g, f_Y_read (nI 3) (nI l) a (nI N) σ = some g ∧ g.1 = nI 0 ∧ hg_G1 g.2 p W H R ∧ g.2 0 10 = t ∧ (∀ j, j ≠ 10 → g.2 0 j = σ 0 j) ∧ ∀ k, k ≠ 0 → (k < 1 ∨ 32 < k) → g.2 k = σ k := by
  have ht2 : (N = 0 ∧ t = 0) ∨ (1 ≤ N ∧ ¬ t = 0) := ht.imp id (fun z => ⟨z.1, z.2.1⟩)
  obtain ⟨g, g1, g2⟩ := yy_rF_3 hD hG hN ht2 a
  refine ⟨g, ?_, g2⟩
  unfold f_Y_read
  rw [show f_Y_isIn (nI 3) (0 : Int32) (3 : Int32) σ = some (nI (if 0 ≤ (nI 3).toInt ∧ (nI 3).toInt ≤ 3 then 1 else 0)) from ki_0_3 _ _, z_bs, if_pos ha, if_neg (show ¬ nI 1 = 0 by decide), show f_Y_isIn (nI l) (0 : Int32) (2 : Int32) σ = some (nI (if 0 ≤ (nI l).toInt ∧ (nI l).toInt ≤ 2 then 1 else 0)) from ki_0_2 _ _, z_bs, if_pos hb, if_neg (show ¬ nI 1 = 0 by decide), show f_Y_isIn (nI N) (0 : Int32) (13 : Int32) σ = some (nI (if 0 ≤ (nI N).toInt ∧ (nI N).toInt ≤ 13 then 1 else 0)) from ki_0_13 _ _, z_bs, if_pos hd, if_neg (show ¬ nI 1 = 0 by decide), if_neg (show ¬ nI 3 = 0 by decide), if_neg (show ¬ nI 3 = 1 by decide), if_neg (show ¬ nI 3 = 2 by decide), if_pos (show nI 3 = 3 from rfl)]
  rw [hg_join_to (x := t) (by
    intro j
    rcases ht with ⟨rfl, rfl⟩ | ⟨h1, h2, h3⟩
    · exact if_pos rfl
    · rw [if_neg (show ¬ nI N = 0 by rw [nl0, nI_eq (by omega) (by omega)]; omega), h3, z_bs])]
  exact g1
theorem yy_readG_3 (hD : hg_D W H R) (hV : hg_V p R) (hG : hg_G1 σ p W H R) {N l n : Nat} (ha : 0 ≤ (nI 3).toInt ∧ (nI 3).toInt ≤ 3) (hb : 0 ≤ (nI l).toInt ∧ (nI l).toInt ≤ 2) (hd : 0 ≤ (nI N).toInt ∧ (nI N).toInt ≤ 13) (hN1 : 1 ≤ N) (hN : N ≤ 13) (hl : l ≤ 2) (hn : n ≤ 40) (h1 : σ 88 1 = nI l) (h2 : σ 88 2 = nI n) (hv : ∀ i, i < 40 → σ 89 i = V i) (a : Int32) : ∃ g, f_Y_read (nI 3) (nI l) a (nI N) σ = some g ∧ ge_rQ W H R V a n N p σ g := by
  obtain ⟨g, g1, g2⟩ := yy_rloop_3 hD hV hG hn hN h2 hv a
  refine ⟨g, ?_, g2⟩
  unfold f_Y_read
  rw [show f_Y_isIn (nI 3) (0 : Int32) (3 : Int32) σ = some (nI (if 0 ≤ (nI 3).toInt ∧ (nI 3).toInt ≤ 3 then 1 else 0)) from ki_0_3 _ _, z_bs, if_pos ha, if_neg (show ¬ nI 1 = 0 by decide), show f_Y_isIn (nI l) (0 : Int32) (2 : Int32) σ = some (nI (if 0 ≤ (nI l).toInt ∧ (nI l).toInt ≤ 2 then 1 else 0)) from ki_0_2 _ _, z_bs, if_pos hb, if_neg (show ¬ nI 1 = 0 by decide), show f_Y_isIn (nI N) (0 : Int32) (13 : Int32) σ = some (nI (if 0 ≤ (nI N).toInt ∧ (nI N).toInt ≤ 13 then 1 else 0)) from ki_0_13 _ _, z_bs, if_pos hd, if_neg (show ¬ nI 1 = 0 by decide), if_neg (show ¬ nI 3 = 0 by decide), if_neg (show ¬ nI 3 = 1 by decide), if_neg (show ¬ nI 3 = 2 by decide), if_pos (show nI 3 = 3 from rfl)]
  rw [hg_join_to (x := (0 : Int32)) (by
    intro j
    rw [if_neg (show ¬ nI N = 0 by rw [nl0, nI_eq (by omega) (by omega)]; omega), yy_fA_3 (t := 0) (Or.inr ⟨l, n, hl, hl, hn, h1, h2, by rw [if_pos rfl]⟩), z_bs])]
  exact g1
theorem yc_read_3 {N l : Nat} (h : hg_I σ W H R p) (ha : 0 ≤ (nI 3).toInt ∧ (nI 3).toInt ≤ 3) (hb : 0 ≤ (nI l).toInt ∧ (nI l).toInt ≤ 2) (hd : 0 ≤ (nI N).toInt ∧ (nI N).toInt ≤ 13) (hN : N ≤ 13) (hl : l ≤ 2) (a : Int32) : hc_B (f_Y_read (nI 3) (nI l) a (nI N)) (f_M_read (nI 3) (nI l) a (nI N)) σ := by
  obtain ⟨hD, hV, hG, hQ, hX, hB⟩ := id h
  have hh : I_h1 σ 88 89 3 := I_h_iff.mp hX.2.2.2.2.1 3 (by omega)
  by_cases hN0 : N = 0
  · subst hN0
    obtain ⟨⟨r, τ⟩, g1, g2, g3, g4, g5, g6⟩ := yy_readF_3 (t := 0) hD hG ha hb hd hN (Or.inl ⟨rfl, rfl⟩) a
    dsimp only at g2 g3 g4 g5 g6
    obtain ⟨⟨r2, υ⟩, m1, m2, m3, m4, m5, m6, m7⟩ := mm_read0 (σ := τ) (hg_Q_c hQ (g6 91 (by omega) (by omega))) ha hb hd a
    dsimp only at m2 m3 m4 m5 m6 m7
    exact ⟨nI 0, τ, υ, by rw [g1, g2], by rw [m1, m2], hg_rd h hV hB g3 m3 g4 g5 g6 m4 m5 m6 m7⟩
  have fault : ∀ t : Int32, ¬ t = 0 → f_Sh_faultAs_88 (nI l) σ = some t → ((σ 102 3 = -4 ∧ t = nI 1) ∨ (¬ σ 102 3 = -4 ∧ ¬ σ 102 3 = nI l ∧ t = nI 3)) → hc_B (f_Y_read (nI 3) (nI l) a (nI N)) (f_M_read (nI 3) (nI l) a (nI N)) σ := by
    intro t t0 tf t2
    obtain ⟨⟨r, τ⟩, g1, g2, g3, g4, g5, g6⟩ := yy_readF_3 hD hG ha hb hd hN (Or.inr ⟨by omega, t0, tf⟩) a
    dsimp only at g2 g3 g4 g5 g6
    obtain ⟨⟨r2, υ⟩, m1, m2, m3, m4, m5, m6, m7⟩ := mm_readF (σ := τ) (t := t) (hg_Q_c hQ (g6 91 (by omega) (by omega))) (show 3 < 4 by omega) (by omega) hN ha hb hd (by rw [g6 102 (by omega) (by omega)]; exact t2) a
    dsimp only at m2 m3 m4 m5 m6 m7
    exact ⟨nI 0, τ, υ, by rw [g1, g2], by rw [m1, m2], hg_rd h hV hB g3 m3 g4 g5 g6 m4 m5 m6 m7⟩
  rcases hh with ⟨s1, s2⟩ | ⟨l', n, s1, s2, s3, s4, s5, s6, s7⟩
  · exact fault (nI 1) (by decide) (yy_fA_3 (Or.inl ⟨s1, rfl⟩)) (Or.inl ⟨s2, rfl⟩)
  · by_cases c : l = l'
    · subst c
      obtain ⟨⟨r, τ⟩, g1, g2⟩ := yy_readG_3 (V := fun i => σ 89 i) hD hV hG ha hb hd (by omega) hN hl s2 s3 s4 (fun _ _ => rfl) a
      have fr : ∀ c, c = 90 ∨ c = 91 ∨ c = 92 ∨ (102 ≤ c ∧ c ≤ 104) → τ c = σ c := fun c hc => by
        rcases g2 with ⟨s, q1, q2, q3, q4, q5⟩ | ⟨s, q1, q2, q3, q4, q5, q6, q7⟩
        · exact q5 c (by omega)
        · exact q7 c (by omega) (by omega)
      obtain ⟨⟨r2, υ⟩, m1, m2⟩ := mm_read (σ := τ) (k := 3) (V := fun i => σ 89 i) hD (hg_M_c hX.1 (fr 90 (by omega)) (fr 92 (by omega))) hV (hg_Q_c hQ (fr 91 (by omega))) (by omega) hl s2 hN ha hb hd (by rw [fr 102 (by omega)]; exact s5) (by rw [fr 103 (by omega)]; exact s6) (fun i hi => by rw [fr 104 (by omega)]; exact (s7 i hi).symm) a
      rcases g2 with ⟨s, q1, q2, q3, q4, q5⟩ | ⟨s, q1, q2, q3, q4, q5, q6, q7⟩
      · rcases m2 with ⟨s', w1, w2, w3, w4, w5, w6, w7⟩ | ⟨s', w1, w2, w3, w4, w5, w6, w7, w8⟩
        · dsimp only at q4 q5 w4 w5 w6 w7
          have es : s' = s := by rw [← w2, ← q2]
          subst es
          refine ⟨-20 - nI s', τ, υ, by rw [g1, q4], by rw [m1, w4], hg_mk0 h q5 (fun k k1 _ => w5 k k1) (fun j hj => ?_)⟩
          by_cases cj : j < 110
          · rw [hg_Q0 w6 j cj, hg_Q0 hQ j cj]
          · rw [w7 j (by omega) hj, q5 91 (by omega)]
        · exfalso
          have es : s' = s := by rw [← w1, ← q2]
          subst es
          rw [w2 q1] at q3
          cases q3
      · rcases m2 with ⟨s', w1, w2, w3, w4, w5, w6, w7⟩ | ⟨s', w1, w2, w3, w4, w5, w6, w7, w8⟩
        · exfalso
          have es : s' = s := by rw [← w2, ← q1]
          subst es
          rw [q2 w1] at w3
          cases w3
        · dsimp only at q3 q4 q5 q6 q7 w3 w4 w5 w6 w7 w8
          have es : s' = s := by rw [← w1, ← q1]
          subst es
          exact ⟨nI s', τ, υ, by rw [g1, q3], by rw [m1, w3], hg_rd h (ge_rp_V hD hV s') (ge_rp_B hD hB s') q4 w4 q5 q6 q7 w5 w6 w7 w8⟩
    · exact fault (nI 3) (by decide) (yy_fA_3 (Or.inr ⟨l', n, s1, hl, s2, s3, s4, by rw [if_neg c]⟩)) (Or.inr ⟨by rw [s5]; exact z_neg (b := 4) (by omega) (by omega) _ (by omega), by rw [s5, nI_eq (by omega) (by omega)]; exact fun z => c z.symm, rfl⟩)
end RC
theorem c_read {σ : zS} (h : z_Inv σ) (a b f d : Int32) : hc_B (f_Y_read a b f d) (f_M_read a b f d) σ := by
  obtain ⟨W, H, R, p, h⟩ := h
  obtain ⟨hD, hV, hG, hQ, hX, hB⟩ := id h
  obtain ⟨n1, n2⟩ := hg_D_N hD
  obtain ⟨d1, d2, d3, d4, d5⟩ := id hD
  obtain ⟨G0, G1, G2, G3, G4, G5, G6, G7, G8, G9, G10, G11, G12, G13, G14, G15, G16, G17⟩ := id hG
  have hM := hX.1
  have q := hg_Q0 hQ
  have hI : z_Inv σ := ⟨W, H, R, p, h⟩
  by_cases ha : 0 ≤ a.toInt ∧ a.toInt ≤ 3
  · by_cases hb : 0 ≤ b.toInt ∧ b.toInt ≤ 2
    · by_cases hd : 0 ≤ d.toInt ∧ d.toInt ≤ 13
      · obtain ⟨k, -, hk, rfl⟩ := hg_arg2 (lo := 0) (hi := 3) (by omega) ha
        obtain ⟨l, -, hl, rfl⟩ := hg_arg2 (lo := 0) (hi := 2) (by omega) hb
        obtain ⟨N, -, hN, rfl⟩ := hg_arg2 (lo := 0) (hi := 13) (by omega) hd
        revert ha
        refine hg_k4 (P := fun k => 0 ≤ (nI k).toInt ∧ (nI k).toInt ≤ 3 → hc_B (f_Y_read (nI k) (nI l) f (nI N)) (f_M_read (nI k) (nI l) f (nI N)) σ) (show k < 4 by omega) ?_ ?_ ?_ ?_
        · exact fun ha => yc_read_0 h ha hb hd hN hl f
        · exact fun ha => yc_read_1 h ha hb hd hN hl f
        · exact fun ha => yc_read_2 h ha hb hd hN hl f
        · exact fun ha => yc_read_3 h ha hb hd hN hl f
      · refine ⟨-1, σ, σ, ?_, ?_, hI⟩
        · unfold f_Y_read
          rw [show f_Y_isIn a (0 : Int32) (3 : Int32) σ = some (nI (if 0 ≤ a.toInt ∧ a.toInt ≤ 3 then 1 else 0)) from ki_0_3 _ _, z_bs, if_pos ha, if_neg (show ¬ nI 1 = 0 by decide), show f_Y_isIn b (0 : Int32) (2 : Int32) σ = some (nI (if 0 ≤ b.toInt ∧ b.toInt ≤ 2 then 1 else 0)) from ki_0_2 _ _, z_bs, if_pos hb, if_neg (show ¬ nI 1 = 0 by decide), show f_Y_isIn d (0 : Int32) (13 : Int32) σ = some (nI (if 0 ≤ d.toInt ∧ d.toInt ≤ 13 then 1 else 0)) from ki_0_13 _ _, z_bs, if_neg hd, if_pos (show nI 0 = 0 from rfl)]
        · unfold f_M_read
          rw [km_0_3, z_bs, if_pos ha, if_neg (show ¬ nI 1 = 0 by decide), km_0_2, z_bs, if_pos hb, if_neg (show ¬ nI 1 = 0 by decide), km_0_13, z_bs, if_neg hd, if_pos (show nI 0 = 0 from rfl)]
    · refine ⟨-1, σ, σ, ?_, ?_, hI⟩
      · unfold f_Y_read
        rw [show f_Y_isIn a (0 : Int32) (3 : Int32) σ = some (nI (if 0 ≤ a.toInt ∧ a.toInt ≤ 3 then 1 else 0)) from ki_0_3 _ _, z_bs, if_pos ha, if_neg (show ¬ nI 1 = 0 by decide), show f_Y_isIn b (0 : Int32) (2 : Int32) σ = some (nI (if 0 ≤ b.toInt ∧ b.toInt ≤ 2 then 1 else 0)) from ki_0_2 _ _, z_bs, if_neg hb, if_pos (show nI 0 = 0 from rfl)]
      · unfold f_M_read
        rw [km_0_3, z_bs, if_pos ha, if_neg (show ¬ nI 1 = 0 by decide), km_0_2, z_bs, if_neg hb, if_pos (show nI 0 = 0 from rfl)]
  · refine ⟨-1, σ, σ, ?_, ?_, hI⟩
    · unfold f_Y_read
      rw [show f_Y_isIn a (0 : Int32) (3 : Int32) σ = some (nI (if 0 ≤ a.toInt ∧ a.toInt ≤ 3 then 1 else 0)) from ki_0_3 _ _, z_bs, if_neg ha, if_pos (show nI 0 = 0 from rfl)]
    · unfold f_M_read
      rw [km_0_3, z_bs, if_neg ha, if_pos (show nI 0 = 0 from rfl)]
