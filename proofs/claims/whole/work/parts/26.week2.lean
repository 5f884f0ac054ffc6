/-! a week over a garden, as the class goes: what fits, and the spreading -/
theorem z_lp {S β γ : Type} {step : S → Option (S ⊕ β)} {k : β → Option γ} {s : S} {Q : γ → Prop} (P : Nat → S → Prop) (n : Nat) (h0 : P 0 s) (hs : ∀ i s, i < n → P i s → (∃ s', step s = some (.inl s') ∧ P (i + 1) s') ∨ (∃ b, step s = some (.inr b) ∧ ∃ g, k b = some g ∧ Q g)) (he : ∀ s, P n s → ∃ b, step s = some (.inr b) ∧ ∃ g, k b = some g ∧ Q g) : ∃ g, (z_loop step s).bind k = some g ∧ Q g := by
  obtain ⟨b, hb, g, hg, hq⟩ := z_for P (fun b => ∃ g, k b = some g ∧ Q g) n h0 hs he
  rw [hb]
  exact ⟨g, hg, hq⟩
theorem z_lp' {S β γ : Type} {step : S → Option (S ⊕ β)} {k : β → Option γ} {s : S} {Q : γ → Prop} (P : Nat → S → Prop) (n : Nat) (h0 : P 0 s) (hs : ∀ i s, i < n → P i s → ∃ s', step s = some (.inl s') ∧ P (i + 1) s') (he : ∀ s, P n s → ∃ b, step s = some (.inr b) ∧ ∃ g, k b = some g ∧ Q g) : ∃ g, (z_loop step s).bind k = some g ∧ Q g :=
  z_lp P n h0 (fun i s h p => Or.inl (hs i s h p)) he
theorem z_lpw {S β γ : Type} {step : S → Option (S ⊕ β)} {k : β → Option γ} {s : S} {Q : γ → Prop} (P : S → Prop) (μ : S → Nat) (h0 : P s) (hs : ∀ s, P s → (∃ s', step s = some (.inl s') ∧ P s' ∧ μ s' < μ s) ∨ (∃ b, step s = some (.inr b) ∧ ∃ g, k b = some g ∧ Q g)) : ∃ g, (z_loop step s).bind k = some g ∧ Q g := by
  obtain ⟨b, hb, g, hg, hq⟩ := z_whl P μ (fun b => ∃ g, k b = some g ∧ Q g) hs s h0
  rw [hb]
  exact ⟨g, hg, hq⟩
theorem z_ex {α : Type} {o : Option α} {x : α} (h : ∃ g, o = some g ∧ g = x) : o = some x := by
  obtain ⟨g, h1, h2⟩ := h
  rw [h1, h2]
theorem hg_D_mono {c N : Nat} (h : c < N) (n2 : N ≤ 16) : c < 16 := by omega
def g_y1 (p : Nat → Nat) (W H R c : Nat) : Nat := if g_f p W H R c < R then (if p (5 * c + 1) = 0 then 1 else p (5 * c + 1)) else p (5 * c + 1)
def g_s1 (p : Nat → Nat) (W H R c : Nat) : Nat := if g_f p W H R c < R then p (81 + 3 * g_f p W H R c) else p (5 * c)
def g_l1 (p : Nat → Nat) (W H R c : Nat) : Nat := if g_y1 p W H R c = 0 then 4 else g_s1 p W H R c
def g_t1 (p : Nat → Nat) (W H R c : Nat) : Nat := g_sb (p (5 * c + 2) - 1) (p (5 * c + 3)) (g_l1 p W H R c)
theorem g_l1_in {p : Nat → Nat} {W H R c : Nat} (h : g_f p W H R c < R) : g_l1 p W H R c = p (81 + 3 * g_f p W H R c) := by
  unfold g_l1 g_y1 g_s1
  rw [if_pos h, if_pos h, if_neg]
  split <;> omega
theorem g_l1_out {p : Nat → Nat} {W H R c : Nat} (h : ¬ g_f p W H R c < R) : g_l1 p W H R c = g_l p c := by
  unfold g_l1 g_y1 g_s1 g_l
  rw [if_neg h, if_neg h]
theorem g_l1_le {p : Nat → Nat} {W H R c : Nat} (hV : hg_V p R) (hc : c < 16) : g_l1 p W H R c ≤ 4 := by
  by_cases h : g_f p W H R c < R
  · rw [g_l1_in h]
    have := (hV.2.2.1 _ h).1
    omega
  · rw [g_l1_out h]
    exact hg_V_l hV hc
theorem g_y1_le {p : Nat → Nat} {W H R c : Nat} (hV : hg_V p R) (hc : c < 16) : g_y1 p W H R c ≤ 9 := by
  have := (hV.1 c hc).2.1
  unfold g_y1
  split
  · split <;> omega
  · exact this
section W1
variable {σ : zS} {p : Nat → Nat} {W H R : Nat}
/-- the places noted -/
def hg_P1 (σ : zS) (p : Nat → Nat) (n : Nat) : Prop := ∀ s, s < 5 → σ 15 s = nI (g_bs (fun k => decide (g_l p k = s)) n)
theorem yy_notePlaces_1 (hD : hg_D W H R) (hV : hg_V p R) (h : hg_G1 σ p W H R) : ∃ τ, f_G_notePlaces_1 σ = some τ ∧ hg_P1 τ p (W * H) ∧ ∀ k, k ≠ 15 → τ k = σ k := by
  obtain ⟨n1, n2⟩ := hg_D_N hD
  unfold f_G_notePlaces_1
  rw [y_fill_15, z_bs]
  refine z_lp' (fun i (s : Int32 × zS) => s.1 = nI i ∧ i ≤ W * H ∧ hg_P1 s.2 p i ∧ ∀ k, k ≠ 15 → s.2 k = σ k) (W * H) ?_ ?_ ?_
  · exact ⟨rfl, by omega, fun s hs => (by show hg_fl σ 15 5 0 15 s = _; rw [hg_fl_s hs]; rfl), fun k hk => hg_fl_n hk⟩
  ·
      intro i s hi hP
      obtain ⟨e1, e2, e3, e4⟩ := hP
      rw [e1]
      have hG : hg_G1 s.2 p W H R := hg_G1_c h (fun k k1 k2 => e4 k (by omega))
      have hl := hg_V_l hV (show i < 16 by omega)
      rw [y_cells_1 hD hG, z_bs, if_neg (nI_ge hi (by omega)), if_pos ((z_ibn (by omega)).mpr (by omega)), nI_clamp (by omega), hG.2.2.2.1 i (by omega), y_isIn, z_bs]
      simp only [z_join]
      rw [if_neg (by rw [nI_toInt (by omega), if_pos (show ((0 : Int32).toInt ≤ (g_l p i : Int) ∧ (g_l p i : Int) ≤ (4 : Int32).toInt) from ⟨by show (0 : Int) ≤ _; omega, by show _ ≤ (4 : Int); omega⟩)]; decide), if_pos ((z_ibn (by omega)).mpr (by omega)), nI_clamp (by omega)]
      simp only [z_let, if_pos ((z_ibn (show g_l p i < 2 ^ 31 by omega)).mpr (show g_l p i < 5 by omega))]
      rw [e3 (g_l p i) (by omega), nl31, nl1, z_shl (by omega), z_or, nI_add]
      refine ⟨(nI (i + 1), _), rfl, rfl, by omega, fun s hs => ?_, fun k hk => ?_⟩
      · dsimp only
        by_cases c : s = g_l p i
        · subst c
          rw [hg_u_s, g_bs, if_pos (by simp)]
        · rw [hg_u_j c, e3 s hs, g_bs, if_neg (by simp only [decide_eq_true_eq]; exact fun z => c z.symm)]
      · dsimp only
        rw [hg_u_n hk]
        exact e4 k hk
  ·
      intro s hP
      obtain ⟨e1, e2, e3, e4⟩ := hP
      rw [e1]
      have hG : hg_G1 s.2 p W H R := hg_G1_c h (fun k k1 k2 => e4 k (by omega))
      rw [y_cells_1 hD hG, z_bs, if_pos (nI_le (Nat.le_refl _) (by omega))]
      exact ⟨_, rfl, _, rfl, e3, e4⟩
theorem yy_fits_1 (hD : hg_D W H R) (hV : hg_V p R) (h : hg_G1 σ p W H R) (hP : hg_P1 σ p (W * H)) {k c : Nat} (hk : k < R) (hc : c < W * H) : f_G_fits_1 (nI k) (nI c) σ = some (nI (if g_q p W H c k = true then 1 else 0)) := by
  obtain ⟨n1, n2⟩ := hg_D_N hD
  obtain ⟨-, -, -, -, r5⟩ := id hD
  obtain ⟨v1, v2, v3, v4⟩ := hV.2.2.1 k hk
  have la := h.2.2.2.2.2.2.2.2.2.1 k hk
  have lb := h.2.2.2.2.2.2.2.2.2.2.1 k hk
  have ln := h.2.2.2.2.2.2.2.2.2.2.2.1 k hk
  unfold f_G_fits_1
  simp only [if_pos ((z_ibn (show k < 2 ^ 31 by omega)).mpr (show k < 5 by omega))]
  rw [nI_clamp (by omega), la, lb, ln, y_isSeason, z_bs, nI_toInt (show p (81 + 3 * k) < 2 ^ 31 by omega)]
  rw [if_neg (by rw [if_pos (by omega)]; decide), y_isIn, z_bs, nI_toInt (show p (82 + 3 * k) < 2 ^ 31 by omega)]
  rw [if_neg (by rw [if_pos (show ((0 : Int32).toInt ≤ (p (82 + 3 * k) : Int) ∧ (p (82 + 3 * k) : Int) ≤ (4 : Int32).toInt) from ⟨by show (0 : Int) ≤ _; omega, by show _ ≤ (4 : Int); omega⟩)]; decide), if_pos ((z_ibn (by omega)).mpr (by omega)), nI_clamp (by omega), nI_clamp (by omega), hP _ (show p (82 + 3 * k) < 5 by omega), hP _ (show p (81 + 3 * k) < 5 by omega)]
  have bl := fun s => g_bs_lt (fun k => decide (g_l p k = s)) (W * H)
  have b32 : ∀ s, g_bs (fun k => decide (g_l p k = s)) (W * H) < 2 ^ 32 := fun s => Nat.lt_of_lt_of_le (bl s) (Nat.pow_le_pow_right (by omega) (by omega))
  rw [nl1, nl0, z_ubit (b32 _) (show c < 32 by omega), g_bs_t]
  by_cases cl : g_l p c = p (82 + 3 * k)
  · rw [if_neg (by simp only [hc, cl, decide_true, Bool.and_self, if_true]; decide), if_pos ((z_ibn (by omega)).mpr (by omega)), y_nextTo_1 hD hV h hc, z_bs, z_and, y_bitCount (Nat.and_lt_two_pow _ (g_nb_lt p hD hc)), z_bs, g_nx_ct hD hc]
    have hx : g_nx p W H c (p (81 + 3 * k)) < 2 ^ 31 := by
      unfold g_nx
      have : ∀ (P : Prop) [Decidable P], (if P then 1 else 0) ≤ 1 := by
        intro P _
        split <;> omega
      have t1 := this (g_e p W c = true ∧ g_l p (c + 1) = p (81 + 3 * k))
      have t2 := this (g_w p W c = true ∧ g_l p (c - 1) = p (81 + 3 * k))
      have t3 := this (g_s p W H c = true ∧ g_l p (c + W) = p (81 + 3 * k))
      have t4 := this (g_n p W c = true ∧ g_l p (c - W) = p (81 + 3 * k))
      omega
    simp only [nI_ltI hx (show p (83 + 3 * k) < 2 ^ 31 by omega)]
    by_cases cn : p (83 + 3 * k) ≤ g_nx p W H c (p (81 + 3 * k))
    · rw [if_neg (by omega), if_pos (by simp only [g_q, cl, cn, decide_true, Bool.and_self])]
    · rw [if_pos (by omega), if_neg (by simp only [g_q, cl, cn, decide_true, decide_false, Bool.and_false]; exact Bool.false_ne_true)]
  · rw [if_pos (by simp [cl, nI_0]), if_neg (by simp [g_q, cl])]
theorem yy_first_1 (hD : hg_D W H R) (hV : hg_V p R) (h : hg_G1 σ p W H R) (hP : hg_P1 σ p (W * H)) {c : Nat} (hc : c < W * H) : f_G_firstFitting_1 (nI c) σ = some (g_F p W H R c) := by
  obtain ⟨-, -, -, -, r5⟩ := id hD
  unfold f_G_firstFitting_1
  refine z_ex (z_lp (fun i (s : Int32) => s = nI i ∧ i ≤ R ∧ ∀ j, j < i → g_q p W H c j = false) R ?_ ?_ ?_)
  · exact ⟨rfl, by omega, fun j hj => by omega⟩
  ·
      intro i s hi hP2
      obtain ⟨e1, e2, e3⟩ := hP2
      subst e1
      rw [h.2.2.1, if_neg (nI_ge hi (by omega)), nl5, if_neg (nI_ge (by omega) (by omega)), yy_fits_1 hD hV h hP hi hc, z_bs]
      cases hqk : g_q p W H c i with
      | false =>
        left
        refine ⟨_, if_pos rfl, nI_1 i, by omega, fun j hj => ?_⟩
        by_cases cj : j = i
        · rw [cj]; exact hqk
        · exact e3 j (by omega)
      | true =>
        right
        refine ⟨_, if_neg (by simp only [if_true]; decide), _, rfl, ?_⟩
        have := g_ft_is (g_q p W H c) R i (by omega) e3 (fun _ => hqk)
        unfold g_F g_f
        rw [this, if_pos hi]
  ·
      intro s hP2
      obtain ⟨e1, e2, e3⟩ := hP2
      subst e1
      rw [h.2.2.1, if_pos (nI_le (Nat.le_refl _) (by omega))]
      refine ⟨_, rfl, _, rfl, ?_⟩
      have := g_ft_is (g_q p W H c) R R (Nat.le_refl _) e3 (fun z => absurd z (by omega))
      unfold g_F g_f
      rw [this, if_neg (by omega)]
      rfl
theorem yy_has_1 (hR : R ≤ 5) (h : σ 7 3 = nI R) (a : Int32) : f_Lw_has_7 a σ = some (nI (if 0 ≤ a.toInt ∧ a.toInt < (R : Int) then 1 else 0)) := by
  unfold f_Lw_has_7
  rw [h]
  simp only [Int32.lt_iff_toInt_lt, Int32.le_iff_toInt_le, nI_toInt (show R < 2 ^ 31 by omega)]
  have e0 : (0 : Int32).toInt = 0 := rfl
  have e5 : (5 : Int32).toInt = 5 := rfl
  rw [e0, e5]
  by_cases h1 : a.toInt < 0
  · rw [if_pos h1, if_neg (by omega)]; rfl
  · rw [if_neg h1]
    by_cases h2 : (R : Int) ≤ a.toInt
    · rw [if_pos h2, if_neg (by omega)]; rfl
    · rw [if_neg h2, if_neg (by omega), if_pos (by omega)]; rfl
/-- behind the spreading -/
def hg_S1 (σ τ : zS) (p : Nat → Nat) (W H R n : Nat) : Prop := (∀ c, c < 16 → τ 2 c = nI (if c < n then g_l1 p W H R c else g_l p c)) ∧ (∀ c, c < 16 → τ 3 c = nI (if c < n then g_y1 p W H R c else p (5 * c + 1))) ∧ ∀ k, k ≠ 2 → k ≠ 3 → k ≠ 15 → k ≠ 16 → τ k = σ k
theorem yy_spread_1 (hD : hg_D W H R) (hV : hg_V p R) (h : hg_G1 σ p W H R) : ∃ τ, f_G_spread_1 σ = some τ ∧ hg_S1 σ τ p W H R (W * H) := by
  obtain ⟨n1, n2⟩ := hg_D_N hD
  obtain ⟨-, -, -, -, r5⟩ := id hD
  unfold f_G_spread_1
  rw [h.2.2.1]
  by_cases r0 : R = 0
  · subst r0
    rw [if_pos (show nI 0 = 0 from rfl)]
    refine ⟨_, rfl, fun c hc => ?_, fun c hc => ?_, fun k _ _ _ _ => rfl⟩
    · rw [h.2.2.2.1 c hc, g_l1_out (Nat.not_lt_zero _), ite_self]
    · rw [h.2.2.2.2.1 c hc]
      unfold g_y1
      rw [if_neg (Nat.not_lt_zero _), ite_self]
  · rw [if_neg (nI_ne0 (by omega) (by omega))]
    obtain ⟨τ, hτ, hτP, hτf⟩ := yy_notePlaces_1 hD hV h
    rw [hτ, z_bs]
    have hG1 : hg_G1 τ p W H R := hg_G1_c h (fun k k1 k2 => hτf k (by omega))
    refine z_lp' (fun i (s : Int32 × zS) => s.1 = nI i ∧ i ≤ W * H ∧ (∀ c, c < i → s.2 16 c = g_F p W H R c) ∧ ∀ k, k ≠ 16 → s.2 k = τ k) (W * H) ?_ ?_ ?_
    · exact ⟨rfl, by omega, fun c hc => by omega, fun k hk => rfl⟩
    ·
        intro i s hi hP
        obtain ⟨e1, e2, e3, e4⟩ := hP
        rw [e1]
        have hG : hg_G1 s.2 p W H R := hg_G1_c hG1 (fun k k1 k2 => e4 k (by omega))
        have hPs : hg_P1 s.2 p (W * H) := fun s hs => by rw [e4 15 (by omega)]; exact hτP s hs
        rw [y_cells_1 hD hG, z_bs, if_neg (nI_ge hi (by omega)), yy_first_1 hD hV hG hPs hi, z_bs, if_pos ((z_ibn (by omega)).mpr (by omega)), nI_clamp (by omega)]
        simp only [z_let]
        refine ⟨_, rfl, nI_1 i, by omega, fun c hc => ?_, fun k hk => ?_⟩
        · dsimp only
          by_cases ci : c = i
          · rw [ci, hg_u_s]
          · rw [hg_u_j ci]
            exact e3 c (by omega)
        · dsimp only
          rw [hg_u_n hk]
          exact e4 k hk
    ·
        intro s hP
        obtain ⟨e1, e2, e3, e4⟩ := hP
        rw [e1]
        have hG : hg_G1 s.2 p W H R := hg_G1_c hG1 (fun k k1 k2 => e4 k (by omega))
        rw [y_cells_1 hD hG, z_bs, if_pos (nI_le (Nat.le_refl _) (by omega))]
        refine ⟨_, rfl, ?_⟩
        clear hG
        revert e3 e4
        generalize s.2 = b1
        intro hq1 hf1
        clear e2
        have hG2 : hg_G1 b1 p W H R := hg_G1_c hG1 (fun k k1 k2 => hf1 k (by omega))
        refine z_lp' (fun i (s : Int32 × zS) => s.1 = nI i ∧ i ≤ W * H ∧ hg_S1 b1 s.2 p W H R i ∧ ∀ c, c < W * H → s.2 16 c = g_F p W H R c) (W * H) ?_ ?_ ?_
        · exact ⟨rfl, by omega, ⟨fun c hc => by dsimp only; rw [hG2.2.2.2.1 c hc, if_neg (by omega)], fun c hc => by dsimp only; rw [hG2.2.2.2.2.1 c hc, if_neg (by omega)], fun k _ _ _ _ => rfl⟩, hq1⟩
        ·
            intro i s hi hP
            obtain ⟨e1, e2, ⟨e3, e4, e5⟩, e6⟩ := hP
            rw [e1]
            have w0 : s.2 1 0 = nI W := by rw [e5 1 (by omega) (by omega) (by omega) (by omega)]; exact hG2.1
            have w1 : s.2 1 1 = nI H := by rw [e5 1 (by omega) (by omega) (by omega) (by omega)]; exact hG2.2.1
            have w2 : s.2 7 3 = nI R := by rw [e5 7 (by omega) (by omega) (by omega) (by omega)]; exact hG2.2.2.1
            have hcl : f_G_cells_1 s.2 = some (nI (W * H)) := by
              unfold f_G_cells_1
              rw [w0, w1, pk_mul, nl16]
              simp only [nI_leI (show 16 < 2 ^ 31 by omega) (show W * H < 2 ^ 31 by omega)]
              by_cases c : 16 ≤ W * H
              · rw [if_pos c, show W * H = 16 by omega]
              · rw [if_neg c]
            rw [hcl, z_bs, if_neg (nI_ge hi (by omega))]
            simp only [z_join, z_let, if_pos ((z_ibn (show i < 2 ^ 31 by omega)).mpr (show i < 16 by omega)), nI_clamp (show i < 2 ^ 31 by omega), e6 i hi, yy_has_1 r5 w2, z_bs, nI_1]
            have y0 := (hV.1 i (by omega)).2.1
            by_cases cf : g_f p W H R i < R
            · have eF : g_F p W H R i = nI (g_f p W H R i) := if_pos cf
              rw [eF, nI_toInt (by omega), if_neg (by rw [if_pos (by omega)]; decide)]
              rw [if_pos ((z_ibn (by omega)).mpr (by omega)), nI_clamp (by omega)]
              refine ⟨_, rfl, rfl, by omega, ⟨fun c hc => ?_, fun c hc => ?_, fun k k1 k2 k3 k4 => ?_⟩, fun c hc => ?_⟩
              · dsimp only
                rw [hg_u_n (by omega)]
                by_cases ci : c = i
                · subst ci
                  rw [hg_u_s, e5 8 (by omega) (by omega) (by omega) (by omega), hG2.2.2.2.2.2.2.2.2.2.1 _ cf, if_pos (by omega), g_l1_in cf]
                · rw [hg_u_j ci, e3 c hc]
                  by_cases c2 : c < i
                  · rw [if_pos c2, if_pos (by omega)]
                  · rw [if_neg c2, if_neg (by omega)]
              · dsimp only
                by_cases ci : c = i
                · subst ci
                  rw [hg_u_s, hg_u_n (by omega), e4 c hc, if_neg (show ¬ c < c by omega), if_pos (show c < c + 1 by omega), nl1]
                  simp only [nI_ltI (show p (5 * c + 1) < 2 ^ 31 by omega) (show 1 < 2 ^ 31 by omega)]
                  unfold g_y1
                  rw [if_pos cf]
                  by_cases cy : p (5 * c + 1) = 0
                  · rw [if_pos (by omega), if_pos cy]
                  · rw [if_neg (by omega), if_neg cy]
                · rw [hg_u_j ci, hg_u_n (by omega), e4 c hc]
                  by_cases c2 : c < i
                  · rw [if_pos c2, if_pos (by omega)]
                  · rw [if_neg c2, if_neg (by omega)]
              · dsimp only
                rw [hg_u_n k2, hg_u_n k1]
                exact e5 k k1 k2 k3 k4
              · dsimp only
                rw [hg_u_n (by omega), hg_u_n (by omega)]
                exact e6 c hc
            · have eF : g_F p W H R i = - nI 4 := if_neg cf
              rw [eF, if_pos (by rw [if_neg (by rw [show (-nI 4 : Int32).toInt = -4 from by decide]; omega)]; rfl)]
              refine ⟨_, rfl, rfl, by omega, ⟨fun c hc => ?_, fun c hc => ?_, e5⟩, e6⟩
              · dsimp only
                rw [e3 c hc]
                by_cases ci : c = i
                · subst ci
                  rw [if_neg (show ¬ c < c by omega), if_pos (by omega), g_l1_out cf]
                · by_cases c2 : c < i
                  · rw [if_pos c2, if_pos (by omega)]
                  · rw [if_neg c2, if_neg (by omega)]
              · dsimp only
                rw [e4 c hc]
                by_cases ci : c = i
                · subst ci
                  rw [if_neg (show ¬ c < c by omega), if_pos (by omega)]
                  unfold g_y1
                  rw [if_neg cf]
                · by_cases c2 : c < i
                  · rw [if_pos c2, if_pos (by omega)]
                  · rw [if_neg c2, if_neg (by omega)]
        ·
            intro s hP
            obtain ⟨e1, e2, ⟨e3, e4, e5⟩, e6⟩ := hP
            rw [e1]
            have w0 : s.2 1 0 = nI W := by rw [e5 1 (by omega) (by omega) (by omega) (by omega)]; exact hG2.1
            have w1 : s.2 1 1 = nI H := by rw [e5 1 (by omega) (by omega) (by omega) (by omega)]; exact hG2.2.1
            have hcl : f_G_cells_1 s.2 = some (nI (W * H)) := by
              unfold f_G_cells_1
              rw [w0, w1, pk_mul, nl16]
              simp only [nI_leI (show 16 < 2 ^ 31 by omega) (show W * H < 2 ^ 31 by omega)]
              by_cases c : 16 ≤ W * H
              · rw [if_pos c, show W * H = 16 by omega]
              · rw [if_neg c]
            rw [hcl, z_bs, if_pos (nI_le (Nat.le_refl _) (by omega))]
            refine ⟨_, rfl, _, rfl, e3, e4, fun k k1 k2 k3 k4 => ?_⟩
            rw [e5 k k1 k2 k3 k4, hf1 k k4, hτf k k3]
        
end W1
section W17
variable {σ : zS} {p : Nat → Nat} {W H R : Nat}
/-- the places noted -/
def hg_P17 (σ : zS) (p : Nat → Nat) (n : Nat) : Prop := ∀ s, s < 5 → σ 31 s = nI (g_bs (fun k => decide (g_l p k = s)) n)
theorem yy_notePlaces_17 (hD : hg_D W H R) (hV : hg_V p R) (h : hg_G17 σ p W H R) : ∃ τ, f_G_notePlaces_17 σ = some τ ∧ hg_P17 τ p (W * H) ∧ ∀ k, k ≠ 31 → τ k = σ k := by
  obtain ⟨n1, n2⟩ := hg_D_N hD
  unfold f_G_notePlaces_17
  rw [y_fill_31, z_bs]
  refine z_lp' (fun i (s : Int32 × zS) => s.1 = nI i ∧ i ≤ W * H ∧ hg_P17 s.2 p i ∧ ∀ k, k ≠ 31 → s.2 k = σ k) (W * H) ?_ ?_ ?_
  · exact ⟨rfl, by omega, fun s hs => (by show hg_fl σ 31 5 0 31 s = _; rw [hg_fl_s hs]; rfl), fun k hk => hg_fl_n hk⟩
  ·
      intro i s hi hP
      obtain ⟨e1, e2, e3, e4⟩ := hP
      rw [e1]
      have hG : hg_G17 s.2 p W H R := hg_G17_c h (fun k k1 k2 => e4 k (by omega))
      have hl := hg_V_l hV (show i < 16 by omega)
      rw [y_cells_17 hD hG, z_bs, if_neg (nI_ge hi (by omega)), if_pos ((z_ibn (by omega)).mpr (by omega)), nI_clamp (by omega), hG.2.2.2.1 i (by omega), y_isIn, z_bs]
      simp only [z_join]
      rw [if_neg (by rw [nI_toInt (by omega), if_pos (show ((0 : Int32).toInt ≤ (g_l p i : Int) ∧ (g_l p i : Int) ≤ (4 : Int32).toInt) from ⟨by show (0 : Int) ≤ _; omega, by show _ ≤ (4 : Int); omega⟩)]; decide), if_pos ((z_ibn (by omega)).mpr (by omega)), nI_clamp (by omega)]
      simp only [z_let, if_pos ((z_ibn (show g_l p i < 2 ^ 31 by omega)).mpr (show g_l p i < 5 by omega))]
      rw [e3 (g_l p i) (by omega), nl31, nl1, z_shl (by omega), z_or, nI_add]
      refine ⟨(nI (i + 1), _), rfl, rfl, by omega, fun s hs => ?_, fun k hk => ?_⟩
      · dsimp only
        by_cases c : s = g_l p i
        · subst c
          rw [hg_u_s, g_bs, if_pos (by simp)]
        · rw [hg_u_j c, e3 s hs, g_bs, if_neg (by simp only [decide_eq_true_eq]; exact fun z => c z.symm)]
      · dsimp only
        rw [hg_u_n hk]
        exact e4 k hk
  ·
      intro s hP
      obtain ⟨e1, e2, e3, e4⟩ := hP
      rw [e1]
      have hG : hg_G17 s.2 p W H R := hg_G17_c h (fun k k1 k2 => e4 k (by omega))
      rw [y_cells_17 hD hG, z_bs, if_pos (nI_le (Nat.le_refl _) (by omega))]
      exact ⟨_, rfl, _, rfl, e3, e4⟩
theorem yy_fits_17 (hD : hg_D W H R) (hV : hg_V p R) (h : hg_G17 σ p W H R) (hP : hg_P17 σ p (W * H)) {k c : Nat} (hk : k < R) (hc : c < W * H) : f_G_fits_17 (nI k) (nI c) σ = some (nI (if g_q p W H c k = true then 1 else 0)) := by
  obtain ⟨n1, n2⟩ := hg_D_N hD
  obtain ⟨-, -, -, -, r5⟩ := id hD
  obtain ⟨v1, v2, v3, v4⟩ := hV.2.2.1 k hk
  have la := h.2.2.2.2.2.2.2.2.2.1 k hk
  have lb := h.2.2.2.2.2.2.2.2.2.2.1 k hk
  have ln := h.2.2.2.2.2.2.2.2.2.2.2.1 k hk
  unfold f_G_fits_17
  simp only [if_pos ((z_ibn (show k < 2 ^ 31 by omega)).mpr (show k < 5 by omega))]
  rw [nI_clamp (by omega), la, lb, ln, y_isSeason, z_bs, nI_toInt (show p (81 + 3 * k) < 2 ^ 31 by omega)]
  rw [if_neg (by rw [if_pos (by omega)]; decide), y_isIn, z_bs, nI_toInt (show p (82 + 3 * k) < 2 ^ 31 by omega)]
  rw [if_neg (by rw [if_pos (show ((0 : Int32).toInt ≤ (p (82 + 3 * k) : Int) ∧ (p (82 + 3 * k) : Int) ≤ (4 : Int32).toInt) from ⟨by show (0 : Int) ≤ _; omega, by show _ ≤ (4 : Int); omega⟩)]; decide), if_pos ((z_ibn (by omega)).mpr (by omega)), nI_clamp (by omega), nI_clamp (by omega), hP _ (show p (82 + 3 * k) < 5 by omega), hP _ (show p (81 + 3 * k) < 5 by omega)]
  have bl := fun s => g_bs_lt (fun k => decide (g_l p k = s)) (W * H)
  have b32 : ∀ s, g_bs (fun k => decide (g_l p k = s)) (W * H) < 2 ^ 32 := fun s => Nat.lt_of_lt_of_le (bl s) (Nat.pow_le_pow_right (by omega) (by omega))
  rw [nl1, nl0, z_ubit (b32 _) (show c < 32 by omega), g_bs_t]
  by_cases cl : g_l p c = p (82 + 3 * k)
  · rw [if_neg (by simp only [hc, cl, decide_true, Bool.and_self, if_true]; decide), if_pos ((z_ibn (by omega)).mpr (by omega)), y_nextTo_17 hD hV h hc, z_bs, z_and, y_bitCount (Nat.and_lt_two_pow _ (g_nb_lt p hD hc)), z_bs, g_nx_ct hD hc]
    have hx : g_nx p W H c (p (81 + 3 * k)) < 2 ^ 31 := by
      unfold g_nx
      have : ∀ (P : Prop) [Decidable P], (if P then 1 else 0) ≤ 1 := by
        intro P _
        split <;> omega
      have t1 := this (g_e p W c = true ∧ g_l p (c + 1) = p (81 + 3 * k))
      have t2 := this (g_w p W c = true ∧ g_l p (c - 1) = p (81 + 3 * k))
      have t3 := this (g_s p W H c = true ∧ g_l p (c + W) = p (81 + 3 * k))
      have t4 := this (g_n p W c = true ∧ g_l p (c - W) = p (81 + 3 * k))
      omega
    simp only [nI_ltI hx (show p (83 + 3 * k) < 2 ^ 31 by omega)]
    by_cases cn : p (83 + 3 * k) ≤ g_nx p W H c (p (81 + 3 * k))
    · rw [if_neg (by omega), if_pos (by simp only [g_q, cl, cn, decide_true, Bool.and_self])]
    · rw [if_pos (by omega), if_neg (by simp only [g_q, cl, cn, decide_true, decide_false, Bool.and_false]; exact Bool.false_ne_true)]
  · rw [if_pos (by simp [cl, nI_0]), if_neg (by simp [g_q, cl])]
theorem yy_first_17 (hD : hg_D W H R) (hV : hg_V p R) (h : hg_G17 σ p W H R) (hP : hg_P17 σ p (W * H)) {c : Nat} (hc : c < W * H) : f_G_firstFitting_17 (nI c) σ = some (g_F p W H R c) := by
  obtain ⟨-, -, -, -, r5⟩ := id hD
  unfold f_G_firstFitting_17
  refine z_ex (z_lp (fun i (s : Int32) => s = nI i ∧ i ≤ R ∧ ∀ j, j < i → g_q p W H c j = false) R ?_ ?_ ?_)
  · exact ⟨rfl, by omega, fun j hj => by omega⟩
  ·
      intro i s hi hP2
      obtain ⟨e1, e2, e3⟩ := hP2
      subst e1
      rw [h.2.2.1, if_neg (nI_ge hi (by omega)), nl5, if_neg (nI_ge (by omega) (by omega)), yy_fits_17 hD hV h hP hi hc, z_bs]
      cases hqk : g_q p W H c i with
      | false =>
        left
        refine ⟨_, if_pos rfl, nI_1 i, by omega, fun j hj => ?_⟩
        by_cases cj : j = i
        · rw [cj]; exact hqk
        · exact e3 j (by omega)
      | true =>
        right
        refine ⟨_, if_neg (by simp only [if_true]; decide), _, rfl, ?_⟩
        have := g_ft_is (g_q p W H c) R i (by omega) e3 (fun _ => hqk)
        unfold g_F g_f
        rw [this, if_pos hi]
  ·
      intro s hP2
      obtain ⟨e1, e2, e3⟩ := hP2
      subst e1
      rw [h.2.2.1, if_pos (nI_le (Nat.le_refl _) (by omega))]
      refine ⟨_, rfl, _, rfl, ?_⟩
      have := g_ft_is (g_q p W H c) R R (Nat.le_refl _) e3 (fun z => absurd z (by omega))
      unfold g_F g_f
      rw [this, if_neg (by omega)]
      rfl
theorem yy_has_17 (hR : R ≤ 5) (h : σ 23 3 = nI R) (a : Int32) : f_Lw_has_23 a σ = some (nI (if 0 ≤ a.toInt ∧ a.toInt < (R : Int) then 1 else 0)) := by
  unfold f_Lw_has_23
  rw [h]
  simp only [Int32.lt_iff_toInt_lt, Int32.le_iff_toInt_le, nI_toInt (show R < 2 ^ 31 by omega)]
  have e0 : (0 : Int32).toInt = 0 := rfl
  have e5 : (5 : Int32).toInt = 5 := rfl
  rw [e0, e5]
  by_cases h1 : a.toInt < 0
  · rw [if_pos h1, if_neg (by omega)]; rfl
  · rw [if_neg h1]
    by_cases h2 : (R : Int) ≤ a.toInt
    · rw [if_pos h2, if_neg (by omega)]; rfl
    · rw [if_neg h2, if_neg (by omega), if_pos (by omega)]; rfl
/-- behind the spreading -/
def hg_S17 (σ τ : zS) (p : Nat → Nat) (W H R n : Nat) : Prop := (∀ c, c < 16 → τ 18 c = nI (if c < n then g_l1 p W H R c else g_l p c)) ∧ (∀ c, c < 16 → τ 19 c = nI (if c < n then g_y1 p W H R c else p (5 * c + 1))) ∧ ∀ k, k ≠ 18 → k ≠ 19 → k ≠ 31 → k ≠ 32 → τ k = σ k
theorem yy_spread_17 (hD : hg_D W H R) (hV : hg_V p R) (h : hg_G17 σ p W H R) : ∃ τ, f_G_spread_17 σ = some τ ∧ hg_S17 σ τ p W H R (W * H) := by
  obtain ⟨n1, n2⟩ := hg_D_N hD
  obtain ⟨-, -, -, -, r5⟩ := id hD
  unfold f_G_spread_17
  rw [h.2.2.1]
  by_cases r0 : R = 0
  · subst r0
    rw [if_pos (show nI 0 = 0 from rfl)]
    refine ⟨_, rfl, fun c hc => ?_, fun c hc => ?_, fun k _ _ _ _ => rfl⟩
    · rw [h.2.2.2.1 c hc, g_l1_out (Nat.not_lt_zero _), ite_self]
    · rw [h.2.2.2.2.1 c hc]
      unfold g_y1
      rw [if_neg (Nat.not_lt_zero _), ite_self]
  · rw [if_neg (nI_ne0 (by omega) (by omega))]
    obtain ⟨τ, hτ, hτP, hτf⟩ := yy_notePlaces_17 hD hV h
    rw [hτ, z_bs]
    have hG1 : hg_G17 τ p W H R := hg_G17_c h (fun k k1 k2 => hτf k (by omega))
    refine z_lp' (fun i (s : Int32 × zS) => s.1 = nI i ∧ i ≤ W * H ∧ (∀ c, c < i → s.2 32 c = g_F p W H R c) ∧ ∀ k, k ≠ 32 → s.2 k = τ k) (W * H) ?_ ?_ ?_
    · exact ⟨rfl, by omega, fun c hc => by omega, fun k hk => rfl⟩
    ·
        intro i s hi hP
        obtain ⟨e1, e2, e3, e4⟩ := hP
        rw [e1]
        have hG : hg_G17 s.2 p W H R := hg_G17_c hG1 (fun k k1 k2 => e4 k (by omega))
        have hPs : hg_P17 s.2 p (W * H) := fun s hs => by rw [e4 31 (by omega)]; exact hτP s hs
        rw [y_cells_17 hD hG, z_bs, if_neg (nI_ge hi (by omega)), yy_first_17 hD hV hG hPs hi, z_bs, if_pos ((z_ibn (by omega)).mpr (by omega)), nI_clamp (by omega)]
        simp only [z_let]
        refine ⟨_, rfl, nI_1 i, by omega, fun c hc => ?_, fun k hk => ?_⟩
        · dsimp only
          by_cases ci : c = i
          · rw [ci, hg_u_s]
          · rw [hg_u_j ci]
            exact e3 c (by omega)
        · dsimp only
          rw [hg_u_n hk]
          exact e4 k hk
    ·
        intro s hP
        obtain ⟨e1, e2, e3, e4⟩ := hP
        rw [e1]
        have hG : hg_G17 s.2 p W H R := hg_G17_c hG1 (fun k k1 k2 => e4 k (by omega))
        rw [y_cells_17 hD hG, z_bs, if_pos (nI_le (Nat.le_refl _) (by omega))]
        refine ⟨_, rfl, ?_⟩
        clear hG
        revert e3 e4
        generalize s.2 = b1
        intro hq1 hf1
        clear e2
        have hG2 : hg_G17 b1 p W H R := hg_G17_c hG1 (fun k k1 k2 => hf1 k (by omega))
        refine z_lp' (fun i (s : Int32 × zS) => s.1 = nI i ∧ i ≤ W * H ∧ hg_S17 b1 s.2 p W H R i ∧ ∀ c, c < W * H → s.2 32 c = g_F p W H R c) (W * H) ?_ ?_ ?_
        · exact ⟨rfl, by omega, ⟨fun c hc => by dsimp only; rw [hG2.2.2.2.1 c hc, if_neg (by omega)], fun c hc => by dsimp only; rw [hG2.2.2.2.2.1 c hc, if_neg (by omega)], fun k _ _ _ _ => rfl⟩, hq1⟩
        ·
            intro i s hi hP
            obtain ⟨e1, e2, ⟨e3, e4, e5⟩, e6⟩ := hP
            rw [e1]
            have w0 : s.2 17 0 = nI W := by rw [e5 17 (by omega) (by omega) (by omega) (by omega)]; exact hG2.1
            have w1 : s.2 17 1 = nI H := by rw [e5 17 (by omega) (by omega) (by omega) (by omega)]; exact hG2.2.1
            have w2 : s.2 23 3 = nI R := by rw [e5 23 (by omega) (by omega) (by omega) (by omega)]; exact hG2.2.2.1
            have hcl : f_G_cells_17 s.2 = some (nI (W * H)) := by
              unfold f_G_cells_17
              rw [w0, w1, pk_mul, nl16]
              simp only [nI_leI (show 16 < 2 ^ 31 by omega) (show W * H < 2 ^ 31 by omega)]
              by_cases c : 16 ≤ W * H
              · rw [if_pos c, show W * H = 16 by omega]
              · rw [if_neg c]
            rw [hcl, z_bs, if_neg (nI_ge hi (by omega))]
            simp only [z_join, z_let, if_pos ((z_ibn (show i < 2 ^ 31 by omega)).mpr (show i < 16 by omega)), nI_clamp (show i < 2 ^ 31 by omega), e6 i hi, yy_has_17 r5 w2, z_bs, nI_1]
            have y0 := (hV.1 i (by omega)).2.1
            by_cases cf : g_f p W H R i < R
            · have eF : g_F p W H R i = nI (g_f p W H R i) := if_pos cf
              rw [eF, nI_toInt (by omega), if_neg (by rw [if_pos (by omega)]; decide)]
              rw [if_pos ((z_ibn (by omega)).mpr (by omega)), nI_clamp (by omega)]
              refine ⟨_, rfl, rfl, by omega, ⟨fun c hc => ?_, fun c hc => ?_, fun k k1 k2 k3 k4 => ?_⟩, fun c hc => ?_⟩
              · dsimp only
                rw [hg_u_n (by omega)]
                by_cases ci : c = i
                · subst ci
                  rw [hg_u_s, e5 24 (by omega) (by omega) (by omega) (by omega), hG2.2.2.2.2.2.2.2.2.2.1 _ cf, if_pos (by omega), g_l1_in cf]
                · rw [hg_u_j ci, e3 c hc]
                  by_cases c2 : c < i
                  · rw [if_pos c2, if_pos (by omega)]
                  · rw [if_neg c2, if_neg (by omega)]
              · dsimp only
                by_cases ci : c = i
                · subst ci
                  rw [hg_u_s, hg_u_n (by omega), e4 c hc, if_neg (show ¬ c < c by omega), if_pos (show c < c + 1 by omega), nl1]
                  simp only [nI_ltI (show p (5 * c + 1) < 2 ^ 31 by omega) (show 1 < 2 ^ 31 by omega)]
                  unfold g_y1
                  rw [if_pos cf]
                  by_cases cy : p (5 * c + 1) = 0
                  · rw [if_pos (by omega), if_pos cy]
                  · rw [if_neg (by omega), if_neg cy]
                · rw [hg_u_j ci, hg_u_n (by omega), e4 c hc]
                  by_cases c2 : c < i
                  · rw [if_pos c2, if_pos (by omega)]
                  · rw [if_neg c2, if_neg (by omega)]
              · dsimp only
                rw [hg_u_n k2, hg_u_n k1]
                exact e5 k k1 k2 k3 k4
              · dsimp only
                rw [hg_u_n (by omega), hg_u_n (by omega)]
                exact e6 c hc
            · have eF : g_F p W H R i = - nI 4 := if_neg cf
              rw [eF, if_pos (by rw [if_neg (by rw [show (-nI 4 : Int32).toInt = -4 from by decide]; omega)]; rfl)]
              refine ⟨_, rfl, rfl, by omega, ⟨fun c hc => ?_, fun c hc => ?_, e5⟩, e6⟩
              · dsimp only
                rw [e3 c hc]
                by_cases ci : c = i
                · subst ci
                  rw [if_neg (show ¬ c < c by omega), if_pos (by omega), g_l1_out cf]
                · by_cases c2 : c < i
                  · rw [if_pos c2, if_pos (by omega)]
                  · rw [if_neg c2, if_neg (by omega)]
              · dsimp only
                rw [e4 c hc]
                by_cases ci : c = i
                · subst ci
                  rw [if_neg (show ¬ c < c by omega), if_pos (by omega)]
                  unfold g_y1
                  rw [if_neg cf]
                · by_cases c2 : c < i
                  · rw [if_pos c2, if_pos (by omega)]
                  · rw [if_neg c2, if_neg (by omega)]
        ·
            intro s hP
            obtain ⟨e1, e2, ⟨e3, e4, e5⟩, e6⟩ := hP
            rw [e1]
            have w0 : s.2 17 0 = nI W := by rw [e5 17 (by omega) (by omega) (by omega) (by omega)]; exact hG2.1
            have w1 : s.2 17 1 = nI H := by rw [e5 17 (by omega) (by omega) (by omega) (by omega)]; exact hG2.2.1
            have hcl : f_G_cells_17 s.2 = some (nI (W * H)) := by
              unfold f_G_cells_17
              rw [w0, w1, pk_mul, nl16]
              simp only [nI_leI (show 16 < 2 ^ 31 by omega) (show W * H < 2 ^ 31 by omega)]
              by_cases c : 16 ≤ W * H
              · rw [if_pos c, show W * H = 16 by omega]
              · rw [if_neg c]
            rw [hcl, z_bs, if_pos (nI_le (Nat.le_refl _) (by omega))]
            refine ⟨_, rfl, _, rfl, e3, e4, fun k k1 k2 k3 k4 => ?_⟩
            rw [e5 k k1 k2 k3 k4, hf1 k k4, hτf k k3]
        
end W17
