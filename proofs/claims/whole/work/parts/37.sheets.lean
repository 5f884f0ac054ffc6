/-! sheets -/
theorem I_h_iff {σ : zS} : I_h σ ↔ ∀ k, k < 4 → I_h1 σ (82 + 2 * k) (83 + 2 * k) k := by
  constructor
  · rintro ⟨h0, h1, h2, h3⟩ k hk
    have hk2 : k = 0 ∨ k = 1 ∨ k = 2 ∨ k = 3 := by omega
    rcases hk2 with rfl | rfl | rfl | rfl
    · exact h0
    · exact h1
    · exact h2
    · exact h3
  · intro h
    exact ⟨h 0 (by omega), h 1 (by omega), h 2 (by omega), h 3 (by omega)⟩
theorem I_h1_c {σ τ : zS} {o v k : Nat} (h : I_h1 σ o v k) (e1 : τ o = σ o) (e2 : τ v = σ v) (e3 : τ 102 k = σ 102 k) (e4 : τ 103 k = σ 103 k) (e5 : ∀ i, i < 40 → τ 104 (40 * k + i) = σ 104 (40 * k + i)) : I_h1 τ o v k := by
  rcases h with ⟨s1, s2⟩ | ⟨l, n, s1, s2, s3, s4, s5, s6, s7⟩
  · exact Or.inl ⟨by rw [e1]; exact s1, by rw [e3]; exact s2⟩
  · exact Or.inr ⟨l, n, s1, s2, by rw [e1]; exact s3, by rw [e1]; exact s4, by rw [e3]; exact s5, by rw [e4]; exact s6, fun i hi => by rw [e2, e5 i hi]; exact s7 i hi⟩
theorem hg_I_sh {σ τ : zS} {W H R : Nat} {p : Nat → Nat} (h : hg_I σ W H R p) (e : ∀ k, ¬ (82 ≤ k ∧ k ≤ 89) → ¬ (102 ≤ k ∧ k ≤ 104) → τ k = σ k) (hh : I_h τ) : z_Inv τ := by
  obtain ⟨hD, hV, hG, hQ, hX, hB⟩ := h
  exact ⟨W, H, R, p, hD, hV, hg_G1_c hG (fun k a b => e k (by omega) (by omega)), hg_Q_c hQ (e 91 (by omega) (by omega)), ⟨hg_M_c hX.1 (e 90 (by omega) (by omega)) (e 92 (by omega) (by omega)), I_k_c hX.2.1 (by rw [e 0 (by omega) (by omega)]) (e 101 (by omega) (by omega)) (fun k hk => e k (by omega) (by omega)) (fun j _ _ => by rw [e 91 (by omega) (by omega)]), I_t_c hX.2.2.1 (e 35 (by omega) (by omega)) (e 36 (by omega) (by omega)) (by rw [e 90 (by omega) (by omega)]) (e 95 (by omega) (by omega)), I_s_c hX.2.2.2.1 (e 44 (by omega) (by omega)) (e 45 (by omega) (by omega)) (e 46 (by omega) (by omega)) (by rw [e 90 (by omega) (by omega)]) (e 100 (by omega) (by omega)), hh, I_f_c hX.2.2.2.2.2.1 (by rw [e 0 (by omega) (by omega)]) (by rw [e 0 (by omega) (by omega)]) (by rw [e 90 (by omega) (by omega)]) (by rw [e 90 (by omega) (by omega)]), I_c_c hX.2.2.2.2.2.2 (e 96 (by omega) (by omega)) (e 97 (by omega) (by omega))⟩, hB⟩
theorem y_fill_83 (a : Int32) (σ : zS) : f_JA_fill_83 a σ = some (hg_fl σ 83 40 a) := by
  unfold f_JA_fill_83
  rw [hg_fill 83 40 40 rfl (by omega)]
  rfl
theorem y_begin_82 (a b : Int32) (σ : zS) : f_Sh_begin_82 a b σ = some (hg_fl (z_u (z_u σ 82 1 a) 82 2 b) 83 40 0) := by
  unfold f_Sh_begin_82
  rw [z_let_e, z_let_e, y_fill_83, z_bs]
theorem y_fill_85 (a : Int32) (σ : zS) : f_JA_fill_85 a σ = some (hg_fl σ 85 40 a) := by
  unfold f_JA_fill_85
  rw [hg_fill 85 40 40 rfl (by omega)]
  rfl
theorem y_begin_84 (a b : Int32) (σ : zS) : f_Sh_begin_84 a b σ = some (hg_fl (z_u (z_u σ 84 1 a) 84 2 b) 85 40 0) := by
  unfold f_Sh_begin_84
  rw [z_let_e, z_let_e, y_fill_85, z_bs]
theorem y_fill_87 (a : Int32) (σ : zS) : f_JA_fill_87 a σ = some (hg_fl σ 87 40 a) := by
  unfold f_JA_fill_87
  rw [hg_fill 87 40 40 rfl (by omega)]
  rfl
theorem y_begin_86 (a b : Int32) (σ : zS) : f_Sh_begin_86 a b σ = some (hg_fl (z_u (z_u σ 86 1 a) 86 2 b) 87 40 0) := by
  unfold f_Sh_begin_86
  rw [z_let_e, z_let_e, y_fill_87, z_bs]
theorem y_fill_89 (a : Int32) (σ : zS) : f_JA_fill_89 a σ = some (hg_fl σ 89 40 a) := by
  unfold f_JA_fill_89
  rw [hg_fill 89 40 40 rfl (by omega)]
  rfl
theorem y_begin_88 (a b : Int32) (σ : zS) : f_Sh_begin_88 a b σ = some (hg_fl (z_u (z_u σ 88 1 a) 88 2 b) 89 40 0) := by
  unfold f_Sh_begin_88
  rw [z_let_e, z_let_e, y_fill_89, z_bs]
theorem hg_k4 {P : Nat → Prop} {k : Nat} (hk : k < 4) (h0 : P 0) (h1 : P 1) (h2 : P 2) (h3 : P 3) : P k := by
  have hk2 : k = 0 ∨ k = 1 ∨ k = 2 ∨ k = 3 := by omega
  rcases hk2 with rfl | rfl | rfl | rfl
  · exact h0
  · exact h1
  · exact h2
  · exact h3
section SH
variable {σ : zS}
/-- a sheet begun, the class's -/
def hg_bg (σ : zS) (k l n : Nat) : zS := hg_fl (z_u (z_u σ (82 + 2 * k) 1 (nI l)) (82 + 2 * k) 2 (nI n)) (83 + 2 * k) 40 0
theorem yy_sheet {k l n : Nat} (hk : k < 4) (ha : 0 ≤ (nI k).toInt ∧ (nI k).toInt ≤ 3) (hb : 0 ≤ (nI l).toInt ∧ (nI l).toInt ≤ 2) (hn : n ≤ 40) : f_Y_sheet (nI k) (nI l) (nI n) σ = some (nI 1, hg_bg σ k l n) := by
  unfold f_Y_sheet
  rw [nl0, nl3, ki_0_3, z_bs, if_pos ha, if_neg (show ¬ nI 1 = nI 0 by decide), nl2, ki_0_2, z_bs, if_pos hb, if_neg (show ¬ nI 1 = nI 0 by decide), nl40, if_pos (nI_le hn (by omega)), if_pos (nI_le (by omega) (by omega)), y_begin_82, y_begin_84, y_begin_86, y_begin_88, z_bs, z_bs, z_bs, z_bs]
  have hk2 : k = 0 ∨ k = 1 ∨ k = 2 ∨ k = 3 := by omega
  rcases hk2 with rfl | rfl | rfl | rfl <;> rfl
theorem mm_sheet {k l n : Nat} (hk : k < 4) (ha : 0 ≤ (nI k).toInt ∧ (nI k).toInt ≤ 3) (hb : 0 ≤ (nI l).toInt ∧ (nI l).toInt ≤ 2) (hn : n ≤ 40) : ∃ g, f_M_sheet (nI k) (nI l) (nI n) σ = some g ∧ g.1 = nI 1 ∧ g.2 102 k = nI l ∧ g.2 103 k = nI n ∧ (∀ i, i < 40 → g.2 104 (40 * k + i) = nI 0) ∧ (∀ j, j ≠ k → g.2 102 j = σ 102 j ∧ g.2 103 j = σ 103 j) ∧ (∀ j, (j < 40 * k ∨ 40 * k + 40 ≤ j) → g.2 104 j = σ 104 j) ∧ ∀ c, c ≠ 102 → c ≠ 103 → c ≠ 104 → g.2 c = σ c := by
  unfold f_M_sheet
  rw [km_0_3, z_bs, if_pos ha, if_neg (show ¬ nI 1 = 0 by decide), km_0_2, z_bs, if_pos hb, if_neg (show ¬ nI 1 = 0 by decide), nl40, if_pos (nI_le hn (by omega)), nl0, if_pos (nI_le (by omega) (by omega)), if_pos ((z_ibn (show k < 2 ^ 31 by omega)).mpr hk), z_let_e, if_pos ((z_ibn (show k < 2 ^ 31 by omega)).mpr hk), z_let_e, nI_clamp (show k < 2 ^ 31 by omega)]
  refine z_lp' (fun i (x : Int32 × zS) => x.1 = nI i ∧ x.2 102 k = nI l ∧ x.2 103 k = nI n ∧ (∀ j, j < i → x.2 104 (40 * k + j) = nI 0) ∧ (∀ j, j ≠ k → x.2 102 j = σ 102 j ∧ x.2 103 j = σ 103 j) ∧ (∀ j, (j < 40 * k ∨ 40 * k + 40 ≤ j) → x.2 104 j = σ 104 j) ∧ ∀ c, c ≠ 102 → c ≠ 103 → c ≠ 104 → x.2 c = σ c) 40 ?_ ?_ ?_
  · refine ⟨rfl, ?_, ?_, fun j hj => absurd hj (by omega), fun j hj => ⟨?_, ?_⟩, fun j hj => ?_, fun c c1 c2 c3 => ?_⟩ <;> simp (disch := omega) only [hg_u_s, hg_u_n, hg_u_j]
  · intro i x hi hP
    obtain ⟨e1, e2, e3, e4, e5, e6, e7⟩ := hP
    rw [e1, if_neg (nI_ge hi (by omega)), pk_mul, nI_add, if_pos ((z_ibn (show 40 * k + i < 2 ^ 31 by omega)).mpr (by omega)), nI_clamp (show 40 * k + i < 2 ^ 31 by omega), z_let_e, nl1, nI_add]
    refine ⟨_, rfl, rfl, ?_⟩
    dsimp only
    refine ⟨?_, ?_, fun j hj => ?_, fun j hj => ⟨?_, ?_⟩, fun j hj => ?_, fun c c1 c2 c3 => ?_⟩
    · rw [hg_u_n (by omega)]; exact e2
    · rw [hg_u_n (by omega)]; exact e3
    · by_cases cj : j = i
      · rw [cj, hg_u_s]
      · rw [hg_u_j (by omega)]; exact e4 j (by omega)
    · rw [hg_u_n (by omega)]; exact (e5 j hj).1
    · rw [hg_u_n (by omega)]; exact (e5 j hj).2
    · rw [hg_u_j (by omega)]; exact e6 j hj
    · rw [hg_u_n c3]; exact e7 c c1 c2 c3
  · intro x hP
    obtain ⟨e1, e2, e3, e4, e5, e6, e7⟩ := hP
    rw [e1, if_pos (nI_le (Nat.le_refl _) (by omega))]
    exact ⟨_, rfl, _, rfl, rfl, e2, e3, e4, e5, e6, e7⟩
end SH
theorem c_sheet {σ : zS} (h : z_Inv σ) (a b d : Int32) : hc_B (f_Y_sheet a b d) (f_M_sheet a b d) σ := by
  obtain ⟨W, H, R, p, h⟩ := h
  obtain ⟨hD, hV, hG, hQ, hX, hB⟩ := id h
  obtain ⟨n1, n2⟩ := hg_D_N hD
  obtain ⟨d1, d2, d3, d4, d5⟩ := id hD
  obtain ⟨G0, G1, G2, G3, G4, G5, G6, G7, G8, G9, G10, G11, G12, G13, G14, G15, G16, G17⟩ := id hG
  have hM := hX.1
  have q := hg_Q0 hQ
  have hI : z_Inv σ := ⟨W, H, R, p, h⟩
  have hh := I_h_iff.mp hX.2.2.2.2.1
  by_cases ha : 0 ≤ a.toInt ∧ a.toInt ≤ 3
  · by_cases hb : 0 ≤ b.toInt ∧ b.toInt ≤ 2
    · by_cases h1 : d ≤ (40 : Int32)
      · by_cases h2 : (0 : Int32) ≤ d
        · obtain ⟨k, -, hk, rfl⟩ := hg_arg2 (lo := 0) (hi := 3) (by omega) ha
          obtain ⟨l, -, hl, rfl⟩ := hg_arg2 (lo := 0) (hi := 2) (by omega) hb
          obtain ⟨n, -, hn, rfl⟩ := hg_arg2 (a := d) (lo := 0) (hi := 40) (by omega) ⟨Int32.le_iff_toInt_le.mp h2, Int32.le_iff_toInt_le.mp h1⟩
          obtain ⟨g, g1, g2, g3, g4, g5, g6, g7, g8⟩ := mm_sheet (σ := hg_bg σ k l n) (show k < 4 by omega) ha hb hn
          have fr : ∀ c, c ≠ 82 + 2 * k → c ≠ 83 + 2 * k → hg_bg σ k l n c = σ c := fun c c1 c2 => by unfold hg_bg; rw [hg_fl_n c2, hg_u_n c1, hg_u_n c1]
          refine ⟨nI 1, hg_bg σ k l n, g.2, yy_sheet (by omega) ha hb hn, by rw [g1, ← g2], hg_I_sh h (fun c c1 c2 => by rw [g8 c (by omega) (by omega) (by omega), fr c (by omega) (by omega)]) (I_h_iff.mpr (fun k' hk' => ?_))⟩
          by_cases ck : k' = k
          · subst ck
            refine Or.inr ⟨l, n, hl, hn, ?_, ?_, g3, g4, fun i hi => ?_⟩
            · rw [g8 _ (by omega) (by omega) (by omega)]
              unfold hg_bg
              rw [hg_fl_n (by omega), hg_u_j (by omega), hg_u_s]
            · rw [g8 _ (by omega) (by omega) (by omega)]
              unfold hg_bg
              rw [hg_fl_n (by omega), hg_u_s]
            · rw [g8 _ (by omega) (by omega) (by omega), g5 i hi]
              unfold hg_bg
              rw [hg_fl_s hi]
              rfl
          · exact I_h1_c (hh k' hk') (by rw [g8 _ (by omega) (by omega) (by omega), fr _ (by omega) (by omega)]) (by rw [g8 _ (by omega) (by omega) (by omega), fr _ (by omega) (by omega)]) (by rw [(g6 k' ck).1, fr 102 (by omega) (by omega)]) (by rw [(g6 k' ck).2, fr 103 (by omega) (by omega)]) (fun i hi => by rw [g7 _ (by omega), fr 104 (by omega) (by omega)])
        · refine ⟨-14, σ, σ, ?_, ?_, hI⟩
          · unfold f_Y_sheet
            rw [nl0, nl3, ki_0_3, z_bs, if_pos ha, if_neg (show ¬ nI 1 = nI 0 by decide), nl2, ki_0_2, z_bs, if_pos hb, if_neg (show ¬ nI 1 = nI 0 by decide), if_pos h1, if_neg (show ¬ nI 0 ≤ d from h2)]
          · unfold f_M_sheet
            rw [km_0_3, z_bs, if_pos ha, if_neg (show ¬ nI 1 = 0 by decide), km_0_2, z_bs, if_pos hb, if_neg (show ¬ nI 1 = 0 by decide), if_pos h1, if_neg h2]
      · refine ⟨-1, σ, σ, ?_, ?_, hI⟩
        · unfold f_Y_sheet
          rw [nl0, nl3, ki_0_3, z_bs, if_pos ha, if_neg (show ¬ nI 1 = nI 0 by decide), nl2, ki_0_2, z_bs, if_pos hb, if_neg (show ¬ nI 1 = nI 0 by decide), if_neg h1]
        · unfold f_M_sheet
          rw [km_0_3, z_bs, if_pos ha, if_neg (show ¬ nI 1 = 0 by decide), km_0_2, z_bs, if_pos hb, if_neg (show ¬ nI 1 = 0 by decide), if_neg h1]
    · refine ⟨-1, σ, σ, ?_, ?_, hI⟩
      · unfold f_Y_sheet
        rw [nl0, nl3, ki_0_3, z_bs, if_pos ha, if_neg (show ¬ nI 1 = nI 0 by decide), nl2, ki_0_2, z_bs, if_neg hb, if_pos (show nI 0 = nI 0 from rfl)]
      · unfold f_M_sheet
        rw [km_0_3, z_bs, if_pos ha, if_neg (show ¬ nI 1 = 0 by decide), km_0_2, z_bs, if_neg hb, if_pos (show nI 0 = 0 from rfl)]
  · refine ⟨-1, σ, σ, ?_, ?_, hI⟩
    · unfold f_Y_sheet
      rw [nl0, nl3, ki_0_3, z_bs, if_neg ha, if_pos (show nI 0 = nI 0 from rfl)]
    · unfold f_M_sheet
      rw [km_0_3, z_bs, if_neg ha, if_pos (show nI 0 = 0 from rfl)]
theorem hg_toIntE (x : Int32) : x.toInt = if 2 * x.toBitVec.toNat < 2 ^ 32 then (x.toBitVec.toNat : Int) else (x.toBitVec.toNat : Int) - (2 ^ 32 : Nat) := by
  rw [show x.toInt = x.toBitVec.toInt from rfl, BitVec.toInt_eq_toNat_cond]
theorem hg_sb8 (x : Int32) : (x <<< ((24 : Int32) &&& 31)) >>> ((24 : Int32) &&& 31) = x.toInt8.toInt32 := by
  apply Int32.toInt_inj.mp
  rw [pk_shr _ ((24 : Int32) &&& 31) 24 (by decide), Int8.toInt_toInt32, Int32.toInt_toInt8, Int.shiftRight_eq_div_pow]
  have h1 := pk_shl x ((24 : Int32) &&& 31) 24 (by decide)
  have h2 := hg_toIntE (x <<< ((24 : Int32) &&& 31))
  have h3 := hg_toIntE x
  have h4 := x.toBitVec.isLt
  rw [h1] at h2
  rw [h2, h3]
  rw [show ∀ (y : Int) (m : Nat), y.bmod m = if y % m < (m + 1) / 2 then y % m else y % m - m from fun _ _ => rfl]
  generalize x.toBitVec.toNat = n at *
  split <;> split <;> split <;> omega
theorem hg_sb16 (x : Int32) : (x <<< ((16 : Int32) &&& 31)) >>> ((16 : Int32) &&& 31) = x.toInt16.toInt32 := by
  apply Int32.toInt_inj.mp
  rw [pk_shr _ ((16 : Int32) &&& 31) 16 (by decide), Int16.toInt_toInt32, Int32.toInt_toInt16, Int.shiftRight_eq_div_pow]
  have h1 := pk_shl x ((16 : Int32) &&& 31) 16 (by decide)
  have h2 := hg_toIntE (x <<< ((16 : Int32) &&& 31))
  have h3 := hg_toIntE x
  have h4 := x.toBitVec.isLt
  rw [h1] at h2
  rw [h2, h3]
  rw [show ∀ (y : Int) (m : Nat), y.bmod m = if y % m < (m + 1) / 2 then y % m else y % m - m from fun _ _ => rfl]
  generalize x.toBitVec.toNat = n at *
  split <;> split <;> split <;> omega
def g_nar (l : Nat) (x : Int32) : Int32 := if l = 0 then x.toInt8.toInt32 else if l = 1 then x.toInt16.toInt32 else x
section PU
variable {σ : zS}
theorem y_isThere_82 (σ : zS) : f_Sh_isThere_82 σ = some (nI (if σ 82 2 = - nI 4 then 0 else 1)) := by
  unfold f_Sh_isThere_82
  rw [z_lit4]
  by_cases c : σ 82 2 = - nI 4
  · rw [if_pos c, if_pos c]; rfl
  · rw [if_neg c, if_neg c]; rfl
theorem y_low_82 {l : Nat} (hl : l ≤ 2) (h : σ 82 1 = nI l) (x : Int32) : f_Sh_lowestBits_82 x σ = some (g_nar l x) := by
  unfold f_Sh_lowestBits_82 g_nar
  have hl2 : l = 0 ∨ l = 1 ∨ l = 2 := by omega
  rw [h]
  rcases hl2 with rfl | rfl | rfl <;> rfl
theorem y_three_82 {n : Nat} (hn : n ≤ 40) (h : σ 82 2 = nI n) (a : Int32) : f_Sh_hasThree_82 a σ = some (nI (if 0 ≤ a.toInt ∧ a.toInt ≤ (n : Int) - 3 then 1 else 0)) := by
  unfold f_Sh_hasThree_82
  have e1 : (nI n - nI 3).toInt = (n : Int) - 3 := pk_sub_toInt (by omega) (by omega)
  have e2 : (37 : Int32).toInt = 37 := rfl
  have e3 : (0 : Int32).toInt = 0 := rfl
  rw [h, nl3]
  simp only [Int32.lt_iff_toInt_lt, e1, e2, e3]
  by_cases c1 : a.toInt < 0
  · rw [if_pos c1, if_neg (by omega)]; rfl
  · rw [if_neg c1]
    by_cases c2 : (n : Int) - 3 < a.toInt
    · rw [if_pos c2, if_neg (by omega)]; rfl
    · rw [if_neg c2, if_neg (by omega), if_pos (by omega)]; rfl
theorem y_isThere_84 (σ : zS) : f_Sh_isThere_84 σ = some (nI (if σ 84 2 = - nI 4 then 0 else 1)) := by
  unfold f_Sh_isThere_84
  rw [z_lit4]
  by_cases c : σ 84 2 = - nI 4
  · rw [if_pos c, if_pos c]; rfl
  · rw [if_neg c, if_neg c]; rfl
theorem y_low_84 {l : Nat} (hl : l ≤ 2) (h : σ 84 1 = nI l) (x : Int32) : f_Sh_lowestBits_84 x σ = some (g_nar l x) := by
  unfold f_Sh_lowestBits_84 g_nar
  have hl2 : l = 0 ∨ l = 1 ∨ l = 2 := by omega
  rw [h]
  rcases hl2 with rfl | rfl | rfl <;> rfl
theorem y_three_84 {n : Nat} (hn : n ≤ 40) (h : σ 84 2 = nI n) (a : Int32) : f_Sh_hasThree_84 a σ = some (nI (if 0 ≤ a.toInt ∧ a.toInt ≤ (n : Int) - 3 then 1 else 0)) := by
  unfold f_Sh_hasThree_84
  have e1 : (nI n - nI 3).toInt = (n : Int) - 3 := pk_sub_toInt (by omega) (by omega)
  have e2 : (37 : Int32).toInt = 37 := rfl
  have e3 : (0 : Int32).toInt = 0 := rfl
  rw [h, nl3]
  simp only [Int32.lt_iff_toInt_lt, e1, e2, e3]
  by_cases c1 : a.toInt < 0
  · rw [if_pos c1, if_neg (by omega)]; rfl
  · rw [if_neg c1]
    by_cases c2 : (n : Int) - 3 < a.toInt
    · rw [if_pos c2, if_neg (by omega)]; rfl
    · rw [if_neg c2, if_neg (by omega), if_pos (by omega)]; rfl
theorem y_isThere_86 (σ : zS) : f_Sh_isThere_86 σ = some (nI (if σ 86 2 = - nI 4 then 0 else 1)) := by
  unfold f_Sh_isThere_86
  rw [z_lit4]
  by_cases c : σ 86 2 = - nI 4
  · rw [if_pos c, if_pos c]; rfl
  · rw [if_neg c, if_neg c]; rfl
theorem y_low_86 {l : Nat} (hl : l ≤ 2) (h : σ 86 1 = nI l) (x : Int32) : f_Sh_lowestBits_86 x σ = some (g_nar l x) := by
  unfold f_Sh_lowestBits_86 g_nar
  have hl2 : l = 0 ∨ l = 1 ∨ l = 2 := by omega
  rw [h]
  rcases hl2 with rfl | rfl | rfl <;> rfl
theorem y_three_86 {n : Nat} (hn : n ≤ 40) (h : σ 86 2 = nI n) (a : Int32) : f_Sh_hasThree_86 a σ = some (nI (if 0 ≤ a.toInt ∧ a.toInt ≤ (n : Int) - 3 then 1 else 0)) := by
  unfold f_Sh_hasThree_86
  have e1 : (nI n - nI 3).toInt = (n : Int) - 3 := pk_sub_toInt (by omega) (by omega)
  have e2 : (37 : Int32).toInt = 37 := rfl
  have e3 : (0 : Int32).toInt = 0 := rfl
  rw [h, nl3]
  simp only [Int32.lt_iff_toInt_lt, e1, e2, e3]
  by_cases c1 : a.toInt < 0
  · rw [if_pos c1, if_neg (by omega)]; rfl
  · rw [if_neg c1]
    by_cases c2 : (n : Int) - 3 < a.toInt
    · rw [if_pos c2, if_neg (by omega)]; rfl
    · rw [if_neg c2, if_neg (by omega), if_pos (by omega)]; rfl
theorem y_isThere_88 (σ : zS) : f_Sh_isThere_88 σ = some (nI (if σ 88 2 = - nI 4 then 0 else 1)) := by
  unfold f_Sh_isThere_88
  rw [z_lit4]
  by_cases c : σ 88 2 = - nI 4
  · rw [if_pos c, if_pos c]; rfl
  · rw [if_neg c, if_neg c]; rfl
theorem y_low_88 {l : Nat} (hl : l ≤ 2) (h : σ 88 1 = nI l) (x : Int32) : f_Sh_lowestBits_88 x σ = some (g_nar l x) := by
  unfold f_Sh_lowestBits_88 g_nar
  have hl2 : l = 0 ∨ l = 1 ∨ l = 2 := by omega
  rw [h]
  rcases hl2 with rfl | rfl | rfl <;> rfl
theorem y_three_88 {n : Nat} (hn : n ≤ 40) (h : σ 88 2 = nI n) (a : Int32) : f_Sh_hasThree_88 a σ = some (nI (if 0 ≤ a.toInt ∧ a.toInt ≤ (n : Int) - 3 then 1 else 0)) := by
  unfold f_Sh_hasThree_88
  have e1 : (nI n - nI 3).toInt = (n : Int) - 3 := pk_sub_toInt (by omega) (by omega)
  have e2 : (37 : Int32).toInt = 37 := rfl
  have e3 : (0 : Int32).toInt = 0 := rfl
  rw [h, nl3]
  simp only [Int32.lt_iff_toInt_lt, e1, e2, e3]
  by_cases c1 : a.toInt < 0
  · rw [if_pos c1, if_neg (by omega)]; rfl
  · rw [if_neg c1]
    by_cases c2 : (n : Int) - 3 < a.toInt
    · rw [if_pos c2, if_neg (by omega)]; rfl
    · rw [if_neg c2, if_neg (by omega), if_pos (by omega)]; rfl
theorem mm_put0 {k : Nat} (hk : k < 4) (ha : 0 ≤ (nI k).toInt ∧ (nI k).toInt ≤ 3) (h : σ 102 k = - nI 4) (b d : Int32) : f_M_put (nI k) b d σ = some (-11, σ) := by
  unfold f_M_put
  rw [km_0_3, z_bs, if_pos ha, if_neg (show ¬ nI 1 = 0 by decide), if_pos ((z_ibn (show k < 2 ^ 31 by omega)).mpr hk), nI_clamp (show k < 2 ^ 31 by omega), h, z_lit4]
  exact if_pos rfl
theorem mm_putB {k l n : Nat} (hk : k < 4) (ha : 0 ≤ (nI k).toInt ∧ (nI k).toInt ≤ 3) (hl : l ≤ 2) (hn : n ≤ 40) (h : σ 102 k = nI l) (h3 : σ 103 k = nI n) {b : Int32} (hb : ¬ (0 ≤ b.toInt ∧ b.toInt ≤ (n : Int) - 1)) (d : Int32) : f_M_put (nI k) b d σ = some (-12, σ) := by
  have e1 : (nI n - nI 1).toInt = (n : Int) - 1 := pk_sub_toInt (by omega) (by omega)
  unfold f_M_put
  rw [km_0_3, z_bs, if_pos ha, if_neg (show ¬ nI 1 = 0 by decide), if_pos ((z_ibn (show k < 2 ^ 31 by omega)).mpr hk), nI_clamp (show k < 2 ^ 31 by omega), h, if_neg (show ¬ nI l = -4 from z_neg (b := 4) (by omega) (by omega) _ (by omega)), if_pos ((z_ibn (show k < 2 ^ 31 by omega)).mpr hk), h3, nl1, mm_inI, Int32.toInt_toInt64, e1, show (0 : Int64).toInt = 0 from rfl, z_bs, if_neg hb]
  exact if_pos rfl
theorem mm_putG {k l n i : Nat} (hk : k < 4) (ha : 0 ≤ (nI k).toInt ∧ (nI k).toInt ≤ 3) (hl : l ≤ 2) (hn : n ≤ 40) (h : σ 102 k = nI l) (h3 : σ 103 k = nI n) (hb : 0 ≤ (nI i).toInt ∧ (nI i).toInt ≤ (n : Int) - 1) (hi : i < 40) (d : Int32) : f_M_put (nI k) (nI i) d σ = some (nI 1, z_u σ 104 (40 * k + i) (g_nar l d)) := by
  have e1 : (nI n - nI 1).toInt = (n : Int) - 1 := pk_sub_toInt (by omega) (by omega)
  unfold f_M_put
  rw [km_0_3, z_bs, if_pos ha, if_neg (show ¬ nI 1 = 0 by decide), if_pos ((z_ibn (show k < 2 ^ 31 by omega)).mpr hk), nI_clamp (show k < 2 ^ 31 by omega), h, if_neg (show ¬ nI l = -4 from z_neg (b := 4) (by omega) (by omega) _ (by omega)), if_pos ((z_ibn (show k < 2 ^ 31 by omega)).mpr hk), h3, nl1, mm_inI, Int32.toInt_toInt64, e1, show (0 : Int64).toInt = 0 from rfl, z_bs, if_pos hb, if_neg (show ¬ nI 1 = 0 by decide), if_pos ((z_ibn (show k < 2 ^ 31 by omega)).mpr hk)]
  have hl2 : l = 0 ∨ l = 1 ∨ l = 2 := by omega
  rw [hg_join_to (x := (g_nar l d, nI (40 * k + i))) (by
    intro j
    rw [nl40, pk_mul, nI_add, if_pos ((z_ibn (show k < 2 ^ 31 by omega)).mpr hk), hg_sb8, hg_sb16]
    rcases hl2 with rfl | rfl | rfl <;> rfl)]
  rw [if_pos ((z_ibn (show 40 * k + i < 2 ^ 31 by omega)).mpr (by omega)), nI_clamp (show 40 * k + i < 2 ^ 31 by omega), z_let_e]
end PU
theorem yy_put_0 {σ : zS} {W H R : Nat} {p : Nat → Nat} (h : hg_I σ W H R p) (ha : 0 ≤ (nI 0).toInt ∧ (nI 0).toInt ≤ 3) (b d : Int32) : hc_B (f_Y_put (nI 0) b d) (f_M_put (nI 0) b d) σ := by
  obtain ⟨hD, hV, hG, hQ, hX, hB⟩ := id h
  have hh := I_h_iff.mp hX.2.2.2.2.1
  have hI : z_Inv σ := ⟨W, H, R, p, h⟩
  rcases (hh 0 (by omega) : I_h1 σ 82 83 0) with ⟨s1, s2⟩ | ⟨l, n, s1, s2, s3, s4, s5, s6, s7⟩
  · refine ⟨-11, σ, σ, ?_, mm_put0 (by omega) ha s2 b d, hI⟩
    unfold f_Y_put
    rw [nl0, nl3, ki_0_3, z_bs, if_pos ha, if_neg (show ¬ nI 1 = nI 0 by decide), if_pos (show nI 0 = nI 0 from rfl), y_isThere_82, z_bs, if_pos s1]
    exact if_pos rfl
  · have e1 : (nI n - nI 1).toInt = (n : Int) - 1 := pk_sub_toInt (by omega) (by omega)
    have hne : ¬ σ 82 2 = - nI 4 := by
      rw [s4]
      exact z_neg (b := 4) (by omega) (by omega) _ (by omega)
    by_cases hb : 0 ≤ b.toInt ∧ b.toInt ≤ (n : Int) - 1
    · obtain ⟨i, -, hi, rfl⟩ := hg_arg2 (a := b) (lo := 0) (hi := 39) (by omega) ⟨hb.1, by omega⟩
      refine ⟨nI 1, z_u σ 83 i (g_nar l d), z_u (z_u σ 83 i (g_nar l d)) 104 (40 * 0 + i) (g_nar l d), ?_, mm_putG (by omega) ha s1 s2 (by rw [hg_u_n (by omega)]; exact s5) (by rw [hg_u_n (by omega)]; exact s6) hb (by omega) d, hg_I_sh h (fun c c1 c2 => by rw [hg_u_n (by omega), hg_u_n (by omega)]) (I_h_iff.mpr (fun k' hk' => ?_))⟩
      · unfold f_Y_put
        rw [nl0, nl3, ki_0_3, z_bs, if_pos ha, if_neg (show ¬ nI 1 = nI 0 by decide), if_pos (show nI 0 = nI 0 from rfl), y_isThere_82, z_bs, if_neg hne, if_neg (show ¬ nI 1 = nI 0 by decide), s4, nl1, y_isIn, e1, nI_toInt (show 0 < 2 ^ 31 by omega), z_bs, if_pos (show ((0 : Nat) : Int) ≤ (nI i).toInt ∧ (nI i).toInt ≤ (n : Int) - 1 from hb), if_neg (show ¬ nI 1 = nI 0 by decide), y_low_82 s1 s3, z_bs, if_pos ((z_ibn (show i < 2 ^ 31 by omega)).mpr (by omega)), nI_clamp (show i < 2 ^ 31 by omega), z_let_e]
      · by_cases ck : k' = 0
        · subst ck
          refine Or.inr ⟨l, n, s1, s2, ?_, ?_, ?_, ?_, fun j hj => ?_⟩
          · rw [hg_u_n (by omega), hg_u_n (by omega)]; exact s3
          · rw [hg_u_n (by omega), hg_u_n (by omega)]; exact s4
          · rw [hg_u_n (by omega), hg_u_n (by omega)]; exact s5
          · rw [hg_u_n (by omega), hg_u_n (by omega)]; exact s6
          · rw [hg_u_n (by omega)]
            by_cases cj : j = i
            · rw [cj, hg_u_s, hg_u_s]
            · rw [hg_u_j cj, hg_u_j (by omega), hg_u_n (by omega)]
              exact s7 j hj
        · exact I_h1_c (hh k' hk') (by rw [hg_u_n (by omega), hg_u_n (by omega)]) (by rw [hg_u_n (by omega), hg_u_n (by omega)]) (by rw [hg_u_n (by omega), hg_u_n (by omega)]) (by rw [hg_u_n (by omega), hg_u_n (by omega)]) (fun i hi => by rw [hg_u_j (by omega), hg_u_n (by omega)])
    · refine ⟨-12, σ, σ, ?_, mm_putB (by omega) ha s1 s2 s5 s6 hb d, hI⟩
      unfold f_Y_put
      rw [nl0, nl3, ki_0_3, z_bs, if_pos ha, if_neg (show ¬ nI 1 = nI 0 by decide), if_pos (show nI 0 = nI 0 from rfl), y_isThere_82, z_bs, if_neg hne, if_neg (show ¬ nI 1 = nI 0 by decide), s4, nl1, y_isIn, e1, nI_toInt (show 0 < 2 ^ 31 by omega), z_bs, if_neg (show ¬ (((0 : Nat) : Int) ≤ b.toInt ∧ b.toInt ≤ (n : Int) - 1) from hb)]
      exact if_pos rfl
theorem yy_put_1 {σ : zS} {W H R : Nat} {p : Nat → Nat} (h : hg_I σ W H R p) (ha : 0 ≤ (nI 1).toInt ∧ (nI 1).toInt ≤ 3) (b d : Int32) : hc_B (f_Y_put (nI 1) b d) (f_M_put (nI 1) b d) σ := by
  obtain ⟨hD, hV, hG, hQ, hX, hB⟩ := id h
  have hh := I_h_iff.mp hX.2.2.2.2.1
  have hI : z_Inv σ := ⟨W, H, R, p, h⟩
  rcases (hh 1 (by omega) : I_h1 σ 84 85 1) with ⟨s1, s2⟩ | ⟨l, n, s1, s2, s3, s4, s5, s6, s7⟩
  · refine ⟨-11, σ, σ, ?_, mm_put0 (by omega) ha s2 b d, hI⟩
    unfold f_Y_put
    rw [nl0, nl3, ki_0_3, z_bs, if_pos ha, if_neg (show ¬ nI 1 = nI 0 by decide), nl1, if_neg (show ¬ nI 1 = nI 0 by decide), if_pos (show nI 1 = nI 1 from rfl), y_isThere_84, z_bs, if_pos s1]
    exact if_pos rfl
  · have e1 : (nI n - nI 1).toInt = (n : Int) - 1 := pk_sub_toInt (by omega) (by omega)
    have hne : ¬ σ 84 2 = - nI 4 := by
      rw [s4]
      exact z_neg (b := 4) (by omega) (by omega) _ (by omega)
    by_cases hb : 0 ≤ b.toInt ∧ b.toInt ≤ (n : Int) - 1
    · obtain ⟨i, -, hi, rfl⟩ := hg_arg2 (a := b) (lo := 0) (hi := 39) (by omega) ⟨hb.1, by omega⟩
      refine ⟨nI 1, z_u σ 85 i (g_nar l d), z_u (z_u σ 85 i (g_nar l d)) 104 (40 * 1 + i) (g_nar l d), ?_, mm_putG (by omega) ha s1 s2 (by rw [hg_u_n (by omega)]; exact s5) (by rw [hg_u_n (by omega)]; exact s6) hb (by omega) d, hg_I_sh h (fun c c1 c2 => by rw [hg_u_n (by omega), hg_u_n (by omega)]) (I_h_iff.mpr (fun k' hk' => ?_))⟩
      · unfold f_Y_put
        rw [nl0, nl3, ki_0_3, z_bs, if_pos ha, if_neg (show ¬ nI 1 = nI 0 by decide), nl1, if_neg (show ¬ nI 1 = nI 0 by decide), if_pos (show nI 1 = nI 1 from rfl), y_isThere_84, z_bs, if_neg hne, if_neg (show ¬ nI 1 = nI 0 by decide), s4, y_isIn, e1, nI_toInt (show 0 < 2 ^ 31 by omega), z_bs, if_pos (show ((0 : Nat) : Int) ≤ (nI i).toInt ∧ (nI i).toInt ≤ (n : Int) - 1 from hb), if_neg (show ¬ nI 1 = nI 0 by decide), y_low_84 s1 s3, z_bs, if_pos ((z_ibn (show i < 2 ^ 31 by omega)).mpr (by omega)), nI_clamp (show i < 2 ^ 31 by omega), z_let_e]
      · by_cases ck : k' = 1
        · subst ck
          refine Or.inr ⟨l, n, s1, s2, ?_, ?_, ?_, ?_, fun j hj => ?_⟩
          · rw [hg_u_n (by omega), hg_u_n (by omega)]; exact s3
          · rw [hg_u_n (by omega), hg_u_n (by omega)]; exact s4
          · rw [hg_u_n (by omega), hg_u_n (by omega)]; exact s5
          · rw [hg_u_n (by omega), hg_u_n (by omega)]; exact s6
          · rw [hg_u_n (by omega)]
            by_cases cj : j = i
            · rw [cj, hg_u_s, hg_u_s]
            · rw [hg_u_j cj, hg_u_j (by omega), hg_u_n (by omega)]
              exact s7 j hj
        · exact I_h1_c (hh k' hk') (by rw [hg_u_n (by omega), hg_u_n (by omega)]) (by rw [hg_u_n (by omega), hg_u_n (by omega)]) (by rw [hg_u_n (by omega), hg_u_n (by omega)]) (by rw [hg_u_n (by omega), hg_u_n (by omega)]) (fun i hi => by rw [hg_u_j (by omega), hg_u_n (by omega)])
    · refine ⟨-12, σ, σ, ?_, mm_putB (by omega) ha s1 s2 s5 s6 hb d, hI⟩
      unfold f_Y_put
      rw [nl0, nl3, ki_0_3, z_bs, if_pos ha, if_neg (show ¬ nI 1 = nI 0 by decide), nl1, if_neg (show ¬ nI 1 = nI 0 by decide), if_pos (show nI 1 = nI 1 from rfl), y_isThere_84, z_bs, if_neg hne, if_neg (show ¬ nI 1 = nI 0 by decide), s4, y_isIn, e1, nI_toInt (show 0 < 2 ^ 31 by omega), z_bs, if_neg (show ¬ (((0 : Nat) : Int) ≤ b.toInt ∧ b.toInt ≤ (n : Int) - 1) from hb)]
      exact if_pos rfl
theorem yy_put_2 {σ : zS} {W H R : Nat} {p : Nat → Nat} (h : hg_I σ W H R p) (ha : 0 ≤ (nI 2).toInt ∧ (nI 2).toInt ≤ 3) (b d : Int32) : hc_B (f_Y_put (nI 2) b d) (f_M_put (nI 2) b d) σ := by
  obtain ⟨hD, hV, hG, hQ, hX, hB⟩ := id h
  have hh := I_h_iff.mp hX.2.2.2.2.1
  have hI : z_Inv σ := ⟨W, H, R, p, h⟩
  rcases (hh 2 (by omega) : I_h1 σ 86 87 2) with ⟨s1, s2⟩ | ⟨l, n, s1, s2, s3, s4, s5, s6, s7⟩
  · refine ⟨-11, σ, σ, ?_, mm_put0 (by omega) ha s2 b d, hI⟩
    unfold f_Y_put
    rw [nl0, nl3, ki_0_3, z_bs, if_pos ha, if_neg (show ¬ nI 1 = nI 0 by decide), nl1, nl2, if_neg (show ¬ nI 2 = nI 0 by decide), if_neg (show ¬ nI 2 = nI 1 by decide), if_pos (show nI 2 = nI 2 from rfl), y_isThere_86, z_bs, if_pos s1]
    exact if_pos rfl
  · have e1 : (nI n - nI 1).toInt = (n : Int) - 1 := pk_sub_toInt (by omega) (by omega)
    have hne : ¬ σ 86 2 = - nI 4 := by
      rw [s4]
      exact z_neg (b := 4) (by omega) (by omega) _ (by omega)
    by_cases hb : 0 ≤ b.toInt ∧ b.toInt ≤ (n : Int) - 1
    · obtain ⟨i, -, hi, rfl⟩ := hg_arg2 (a := b) (lo := 0) (hi := 39) (by omega) ⟨hb.1, by omega⟩
      refine ⟨nI 1, z_u σ 87 i (g_nar l d), z_u (z_u σ 87 i (g_nar l d)) 104 (40 * 2 + i) (g_nar l d), ?_, mm_putG (by omega) ha s1 s2 (by rw [hg_u_n (by omega)]; exact s5) (by rw [hg_u_n (by omega)]; exact s6) hb (by omega) d, hg_I_sh h (fun c c1 c2 => by rw [hg_u_n (by omega), hg_u_n (by omega)]) (I_h_iff.mpr (fun k' hk' => ?_))⟩
      · unfold f_Y_put
        rw [nl0, nl3, ki_0_3, z_bs, if_pos ha, if_neg (show ¬ nI 1 = nI 0 by decide), nl1, nl2, if_neg (show ¬ nI 2 = nI 0 by decide), if_neg (show ¬ nI 2 = nI 1 by decide), if_pos (show nI 2 = nI 2 from rfl), y_isThere_86, z_bs, if_neg hne, if_neg (show ¬ nI 1 = nI 0 by decide), s4, y_isIn, e1, nI_toInt (show 0 < 2 ^ 31 by omega), z_bs, if_pos (show ((0 : Nat) : Int) ≤ (nI i).toInt ∧ (nI i).toInt ≤ (n : Int) - 1 from hb), if_neg (show ¬ nI 1 = nI 0 by decide), y_low_86 s1 s3, z_bs, if_pos ((z_ibn (show i < 2 ^ 31 by omega)).mpr (by omega)), nI_clamp (show i < 2 ^ 31 by omega), z_let_e]
      · by_cases ck : k' = 2
        · subst ck
          refine Or.inr ⟨l, n, s1, s2, ?_, ?_, ?_, ?_, fun j hj => ?_⟩
          · rw [hg_u_n (by omega), hg_u_n (by omega)]; exact s3
          · rw [hg_u_n (by omega), hg_u_n (by omega)]; exact s4
          · rw [hg_u_n (by omega), hg_u_n (by omega)]; exact s5
          · rw [hg_u_n (by omega), hg_u_n (by omega)]; exact s6
          · rw [hg_u_n (by omega)]
            by_cases cj : j = i
            · rw [cj, hg_u_s, hg_u_s]
            · rw [hg_u_j cj, hg_u_j (by omega), hg_u_n (by omega)]
              exact s7 j hj
        · exact I_h1_c (hh k' hk') (by rw [hg_u_n (by omega), hg_u_n (by omega)]) (by rw [hg_u_n (by omega), hg_u_n (by omega)]) (by rw [hg_u_n (by omega), hg_u_n (by omega)]) (by rw [hg_u_n (by omega), hg_u_n (by omega)]) (fun i hi => by rw [hg_u_j (by omega), hg_u_n (by omega)])
    · refine ⟨-12, σ, σ, ?_, mm_putB (by omega) ha s1 s2 s5 s6 hb d, hI⟩
      unfold f_Y_put
      rw [nl0, nl3, ki_0_3, z_bs, if_pos ha, if_neg (show ¬ nI 1 = nI 0 by decide), nl1, nl2, if_neg (show ¬ nI 2 = nI 0 by decide), if_neg (show ¬ nI 2 = nI 1 by decide), if_pos (show nI 2 = nI 2 from rfl), y_isThere_86, z_bs, if_neg hne, if_neg (show ¬ nI 1 = nI 0 by decide), s4, y_isIn, e1, nI_toInt (show 0 < 2 ^ 31 by omega), z_bs, if_neg (show ¬ (((0 : Nat) : Int) ≤ b.toInt ∧ b.toInt ≤ (n : Int) - 1) from hb)]
      exact if_pos rfl
theorem yy_put_3 {σ : zS} {W H R : Nat} {p : Nat → Nat} (h : hg_I σ W H R p) (ha : 0 ≤ (nI 3).toInt ∧ (nI 3).toInt ≤ 3) (b d : Int32) : hc_B (f_Y_put (nI 3) b d) (f_M_put (nI 3) b d) σ := by
  obtain ⟨hD, hV, hG, hQ, hX, hB⟩ := id h
  have hh := I_h_iff.mp hX.2.2.2.2.1
  have hI : z_Inv σ := ⟨W, H, R, p, h⟩
  rcases (hh 3 (by omega) : I_h1 σ 88 89 3) with ⟨s1, s2⟩ | ⟨l, n, s1, s2, s3, s4, s5, s6, s7⟩
  · refine ⟨-11, σ, σ, ?_, mm_put0 (by omega) ha s2 b d, hI⟩
    unfold f_Y_put
    rw [nl0, nl3, ki_0_3, z_bs, if_pos ha, if_neg (show ¬ nI 1 = nI 0 by decide), nl1, nl2, if_neg (show ¬ nI 3 = nI 0 by decide), if_neg (show ¬ nI 3 = nI 1 by decide), if_neg (show ¬ nI 3 = nI 2 by decide), if_pos (show nI 3 = nI 3 from rfl), y_isThere_88, z_bs, if_pos s1]
    exact if_pos rfl
  · have e1 : (nI n - nI 1).toInt = (n : Int) - 1 := pk_sub_toInt (by omega) (by omega)
    have hne : ¬ σ 88 2 = - nI 4 := by
      rw [s4]
      exact z_neg (b := 4) (by omega) (by omega) _ (by omega)
    by_cases hb : 0 ≤ b.toInt ∧ b.toInt ≤ (n : Int) - 1
    · obtain ⟨i, -, hi, rfl⟩ := hg_arg2 (a := b) (lo := 0) (hi := 39) (by omega) ⟨hb.1, by omega⟩
      refine ⟨nI 1, z_u σ 89 i (g_nar l d), z_u (z_u σ 89 i (g_nar l d)) 104 (40 * 3 + i) (g_nar l d), ?_, mm_putG (by omega) ha s1 s2 (by rw [hg_u_n (by omega)]; exact s5) (by rw [hg_u_n (by omega)]; exact s6) hb (by omega) d, hg_I_sh h (fun c c1 c2 => by rw [hg_u_n (by omega), hg_u_n (by omega)]) (I_h_iff.mpr (fun k' hk' => ?_))⟩
      · unfold f_Y_put
        rw [nl0, nl3, ki_0_3, z_bs, if_pos ha, if_neg (show ¬ nI 1 = nI 0 by decide), nl1, nl2, if_neg (show ¬ nI 3 = nI 0 by decide), if_neg (show ¬ nI 3 = nI 1 by decide), if_neg (show ¬ nI 3 = nI 2 by decide), if_pos (show nI 3 = nI 3 from rfl), y_isThere_88, z_bs, if_neg hne, if_neg (show ¬ nI 1 = nI 0 by decide), s4, y_isIn, e1, nI_toInt (show 0 < 2 ^ 31 by omega), z_bs, if_pos (show ((0 : Nat) : Int) ≤ (nI i).toInt ∧ (nI i).toInt ≤ (n : Int) - 1 from hb), if_neg (show ¬ nI 1 = nI 0 by decide), y_low_88 s1 s3, z_bs, if_pos ((z_ibn (show i < 2 ^ 31 by omega)).mpr (by omega)), nI_clamp (show i < 2 ^ 31 by omega), z_let_e]
      · by_cases ck : k' = 3
        · subst ck
          refine Or.inr ⟨l, n, s1, s2, ?_, ?_, ?_, ?_, fun j hj => ?_⟩
          · rw [hg_u_n (by omega), hg_u_n (by omega)]; exact s3
          · rw [hg_u_n (by omega), hg_u_n (by omega)]; exact s4
          · rw [hg_u_n (by omega), hg_u_n (by omega)]; exact s5
          · rw [hg_u_n (by omega), hg_u_n (by omega)]; exact s6
          · rw [hg_u_n (by omega)]
            by_cases cj : j = i
            · rw [cj, hg_u_s, hg_u_s]
            · rw [hg_u_j cj, hg_u_j (by omega), hg_u_n (by omega)]
              exact s7 j hj
        · exact I_h1_c (hh k' hk') (by rw [hg_u_n (by omega), hg_u_n (by omega)]) (by rw [hg_u_n (by omega), hg_u_n (by omega)]) (by rw [hg_u_n (by omega), hg_u_n (by omega)]) (by rw [hg_u_n (by omega), hg_u_n (by omega)]) (fun i hi => by rw [hg_u_j (by omega), hg_u_n (by omega)])
    · refine ⟨-12, σ, σ, ?_, mm_putB (by omega) ha s1 s2 s5 s6 hb d, hI⟩
      unfold f_Y_put
      rw [nl0, nl3, ki_0_3, z_bs, if_pos ha, if_neg (show ¬ nI 1 = nI 0 by decide), nl1, nl2, if_neg (show ¬ nI 3 = nI 0 by decide), if_neg (show ¬ nI 3 = nI 1 by decide), if_neg (show ¬ nI 3 = nI 2 by decide), if_pos (show nI 3 = nI 3 from rfl), y_isThere_88, z_bs, if_neg hne, if_neg (show ¬ nI 1 = nI 0 by decide), s4, y_isIn, e1, nI_toInt (show 0 < 2 ^ 31 by omega), z_bs, if_neg (show ¬ (((0 : Nat) : Int) ≤ b.toInt ∧ b.toInt ≤ (n : Int) - 1) from hb)]
      exact if_pos rfl
theorem c_put {σ : zS} (h : z_Inv σ) (a b d : Int32) : hc_B (f_Y_put a b d) (f_M_put a b d) σ := by
  obtain ⟨W, H, R, p, h⟩ := h
  obtain ⟨hD, hV, hG, hQ, hX, hB⟩ := id h
  obtain ⟨n1, n2⟩ := hg_D_N hD
  obtain ⟨d1, d2, d3, d4, d5⟩ := id hD
  obtain ⟨G0, G1, G2, G3, G4, G5, G6, G7, G8, G9, G10, G11, G12, G13, G14, G15, G16, G17⟩ := id hG
  have hM := hX.1
  have q := hg_Q0 hQ
  have hI : z_Inv σ := ⟨W, H, R, p, h⟩
  by_cases ha : 0 ≤ a.toInt ∧ a.toInt ≤ 3
  · obtain ⟨k, -, hk, rfl⟩ := hg_arg2 (lo := 0) (hi := 3) (by omega) ha
    revert ha
    refine hg_k4 (P := fun k => 0 ≤ (nI k).toInt ∧ (nI k).toInt ≤ 3 → hc_B (f_Y_put (nI k) b d) (f_M_put (nI k) b d) σ) (show k < 4 by omega) ?_ ?_ ?_ ?_
    · exact fun ha => yy_put_0 h ha b d
    · exact fun ha => yy_put_1 h ha b d
    · exact fun ha => yy_put_2 h ha b d
    · exact fun ha => yy_put_3 h ha b d
  · refine ⟨-1, σ, σ, ?_, ?_, hI⟩
    · unfold f_Y_put
      rw [nl0, nl3, ki_0_3, z_bs, if_neg ha, if_pos (show nI 0 = nI 0 from rfl)]
    · unfold f_M_put
      rw [km_0_3, z_bs, if_neg ha, if_pos (show nI 0 = 0 from rfl)]
