/-! what holds between two calls; copies of gardens -/
theorem hg_cp_s {σ : zS} {ks kd n j : Nat} (h : j < n) : z_cp σ ks kd 0 0 n kd j = σ ks j := by
  unfold z_cp
  rw [if_pos rfl]
  exact sb_cpy0 h
theorem hg_cp_n {σ : zS} {ks kd n k : Nat} (h : k ≠ kd) : z_cp σ ks kd 0 0 n k = σ k := by
  unfold z_cp
  rw [if_neg h]
theorem hg_arg {a : Int32} {N : Nat} (hN : N ≤ 2 ^ 31) (h : 0 ≤ a.toInt ∧ a.toInt < (N : Int)) : ∃ c, c < N ∧ a = nI c := by
  obtain ⟨c, h1, h2, h3⟩ := z_cst (x := a) (lo := 0) (hi := N - 1) (by omega) h.1 (by omega)
  exact ⟨c, by omega, h3⟩
theorem hg_arg2 {a : Int32} {lo hi : Nat} (hh : hi < 2 ^ 31) (h : (lo : Int) ≤ a.toInt ∧ a.toInt ≤ (hi : Int)) : ∃ c, lo ≤ c ∧ c ≤ hi ∧ a = nI c := z_cst hh h.1 h.2
theorem hg_10 : ¬ nI 1 = nI 0 := by decide
/-- the counts are bounded by the weeks -/
def hg_B (p : Nat → Nat) : Prop := p 105 ≤ 999 ∧ ∀ o, o < 3 → p (106 + o) ≤ 16 * p 105
/-- images -/
def I_k (σ : zS) (W H R : Nat) : Prop := ∃ b0 b1 : Bool, σ 0 8 = nI ((if b0 = true then 1 else 0) + (if b1 = true then 2 else 0)) ∧ σ 101 0 = nI (if b0 = true then 1 else 0) ∧ σ 101 1 = nI (if b1 = true then 1 else 0) ∧ (b0 = true → ∃ p, (hg_V p R ∧ hg_B p) ∧ hg_G50 σ p W H R ∧ hg_Q σ 110 p) ∧ (b1 = true → ∃ p, (hg_V p R ∧ hg_B p) ∧ hg_G66 σ p W H R ∧ hg_Q σ 220 p)
/-- the tape -/
def I_t (σ : zS) : Prop := ∃ T, T ≤ 160 ∧ σ 35 1 = nI T ∧ σ 90 13 = nI T ∧ ∀ j, j < T → ∃ b, b < 128 ∧ σ 36 j = nI b ∧ σ 95 j = nI b
/-- the stubble -/
def I_s (σ : zS) : Prop := ∃ Z, Z ≤ 6 ∧ σ 44 2 = nI Z ∧ σ 90 26 = nI Z ∧ ∀ j, j < Z → ∃ w s, w ≤ 4 ∧ s ≤ 4 ∧ σ 45 j = nI w ∧ σ 46 j = nI s ∧ σ 100 (2 * j) = nI w ∧ σ 100 (2 * j + 1) = nI s
/-- a sheet -/
def I_h1 (σ : zS) (o v k : Nat) : Prop := (σ o 2 = - nI 4 ∧ σ 102 k = - nI 4) ∨ ∃ l n, l ≤ 2 ∧ n ≤ 40 ∧ σ o 1 = nI l ∧ σ o 2 = nI n ∧ σ 102 k = nI l ∧ σ 103 k = nI n ∧ ∀ i, i < 40 → σ v i = σ 104 (40 * k + i)
def I_h (σ : zS) : Prop := I_h1 σ 82 83 0 ∧ I_h1 σ 84 85 1 ∧ I_h1 σ 86 87 2 ∧ I_h1 σ 88 89 3
def I_f (σ : zS) : Prop := σ 0 9 = σ 90 14 ∧ σ 0 10 = σ 90 31
def I_c (σ : zS) : Prop := (∀ j, j < 14 → σ 96 j = z_iv 96 j) ∧ ∀ j, j < 51 → σ 97 j = z_iv 97 j
/-- all but the garden itself -/
def hg_X (σ : zS) (W H R : Nat) : Prop := hg_M σ W H R ∧ I_k σ W H R ∧ I_t σ ∧ I_s σ ∧ I_h σ ∧ I_f σ ∧ I_c σ
def hg_I (σ : zS) (W H R : Nat) (p : Nat → Nat) : Prop := hg_D W H R ∧ hg_V p R ∧ hg_G1 σ p W H R ∧ hg_Q σ 0 p ∧ hg_X σ W H R ∧ hg_B p
def z_Inv (σ : zS) : Prop := ∃ W H R p, hg_I σ W H R p
theorem hg_X_c {σ τ : zS} {W H R : Nat} (h : hg_X σ W H R) (e : ∀ k, (k = 0 ∨ 33 ≤ k) → k ≠ 91 → k ≠ 98 → τ k = σ k) (e2 : ∀ j, 110 ≤ j → j < 330 → τ 91 j = σ 91 j) : hg_X τ W H R := by
  obtain ⟨h1, ⟨b0, b1, k1, k2, k3, k4, k5⟩, h3, h4, h5, h6, h7⟩ := h
  refine ⟨hg_M_c h1 (e 90 (by omega) (by omega) (by omega)) (e 92 (by omega) (by omega) (by omega)), ⟨b0, b1, ?_, ?_, ?_, fun hb => ?_, fun hb => ?_⟩, ?_, ?_, ?_, ?_, ?_⟩
  · rw [e 0 (by omega) (by omega) (by omega)]; exact k1
  · rw [e 101 (by omega) (by omega) (by omega)]; exact k2
  · rw [e 101 (by omega) (by omega) (by omega)]; exact k3
  · obtain ⟨p, p1, p2, p3⟩ := k4 hb
    exact ⟨p, p1, hg_G50_c p2 (fun k a b => e k (by omega) (by omega) (by omega)), fun k hk => by rw [e2 _ (by omega) (by omega)]; exact p3 k hk⟩
  · obtain ⟨p, p1, p2, p3⟩ := k5 hb
    exact ⟨p, p1, hg_G66_c p2 (fun k a b => e k (by omega) (by omega) (by omega)), fun k hk => by rw [e2 _ (by omega) (by omega)]; exact p3 k hk⟩
  · unfold I_t at *
    rw [e 35 (by omega) (by omega) (by omega), e 90 (by omega) (by omega) (by omega), e 36 (by omega) (by omega) (by omega), e 95 (by omega) (by omega) (by omega)]
    exact h3
  · unfold I_s at *
    rw [e 44 (by omega) (by omega) (by omega), e 90 (by omega) (by omega) (by omega), e 45 (by omega) (by omega) (by omega), e 46 (by omega) (by omega) (by omega), e 100 (by omega) (by omega) (by omega)]
    exact h4
  · unfold I_h I_h1 at *
    rw [e 82 (by omega) (by omega) (by omega), e 83 (by omega) (by omega) (by omega), e 84 (by omega) (by omega) (by omega), e 85 (by omega) (by omega) (by omega), e 86 (by omega) (by omega) (by omega), e 87 (by omega) (by omega) (by omega), e 88 (by omega) (by omega) (by omega), e 89 (by omega) (by omega) (by omega), e 102 (by omega) (by omega) (by omega), e 103 (by omega) (by omega) (by omega), e 104 (by omega) (by omega) (by omega)]
    exact h5
  · unfold I_f at *
    rw [e 0 (by omega) (by omega) (by omega), e 90 (by omega) (by omega) (by omega)]
    exact h6
  · unfold I_c at *
    rw [e 96 (by omega) (by omega) (by omega), e 97 (by omega) (by omega) (by omega)]
    exact h7
/-- a call that leaves the garden as it was -/
theorem hg_I_c {σ τ : zS} {W H R : Nat} {p : Nat → Nat} (h : hg_I σ W H R p) (e : ∀ k, (k ≤ 14 ∨ 33 ≤ k) → k ≠ 91 → k ≠ 98 → τ k = σ k) (e2 : ∀ j, j < 330 → τ 91 j = σ 91 j) : hg_I τ W H R p :=
  ⟨h.1, h.2.1, hg_G1_c h.2.2.1 (fun k a b => e k (by omega) (by omega) (by omega)), fun k hk => by rw [e2 _ (by omega)]; exact h.2.2.2.1 k hk, hg_X_c h.2.2.2.2.1 (fun k a b c => e k (by omega) b c) (fun j a b => e2 j b), h.2.2.2.2.2⟩
theorem yy_copy_17_1 {σ : zS} {p : Nat → Nat} {W H R : Nat} (hR : R ≤ 5) (h : hg_G1 σ p W H R) : ∃ τ, f_G_copyFrom_17_1 σ = some τ ∧ hg_G17 τ p W H R ∧ ∀ k, (k < 17 ∨ 30 < k) → τ k = σ k := by
  obtain ⟨G0, G1, G2, G3, G4, G5, G6, G7, G8, G9, G10, G11, G12, G13, G14, G15, G16, G17⟩ := h
  unfold f_G_copyFrom_17_1 f_Lw_copyFrom_23_7 f_Sp_copyFrom_27_11
  simp only [z_let, z_bs]
  refine ⟨_, rfl, ⟨?_, ?_, ?_, fun c hc => ?_, fun c hc => ?_, fun c hc => ?_, fun c hc => ?_, fun c hc => ?_, ?_, fun k hk => ?_, fun k hk => ?_, fun k hk => ?_, fun s hs => ?_, fun s hs => ?_, ?_, ?_, fun o ho => ?_, ?_⟩, fun k hk => ?_⟩
  · rw [← G0]; simp (disch := omega) only [hg_u_s, hg_u_j, hg_u_n, hg_cp_s, hg_cp_n]
  · rw [← G1]; simp (disch := omega) only [hg_u_s, hg_u_j, hg_u_n, hg_cp_s, hg_cp_n]
  · rw [← G2]; simp (disch := omega) only [hg_u_s, hg_u_j, hg_u_n, hg_cp_s, hg_cp_n]
  · rw [← G3 c hc]; simp (disch := omega) only [hg_u_s, hg_u_j, hg_u_n, hg_cp_s, hg_cp_n]
  · rw [← G4 c hc]; simp (disch := omega) only [hg_u_s, hg_u_j, hg_u_n, hg_cp_s, hg_cp_n]
  · rw [← G5 c hc]; simp (disch := omega) only [hg_u_s, hg_u_j, hg_u_n, hg_cp_s, hg_cp_n]
  · rw [← G6 c hc]; simp (disch := omega) only [hg_u_s, hg_u_j, hg_u_n, hg_cp_s, hg_cp_n]
  · rw [← G7 c hc]; simp (disch := omega) only [hg_u_s, hg_u_j, hg_u_n, hg_cp_s, hg_cp_n]
  · rw [← G8]; simp (disch := omega) only [hg_u_s, hg_u_j, hg_u_n, hg_cp_s, hg_cp_n]
  · rw [← G9 k hk]; simp (disch := omega) only [hg_u_s, hg_u_j, hg_u_n, hg_cp_s, hg_cp_n]
  · rw [← G10 k hk]; simp (disch := omega) only [hg_u_s, hg_u_j, hg_u_n, hg_cp_s, hg_cp_n]
  · rw [← G11 k hk]; simp (disch := omega) only [hg_u_s, hg_u_j, hg_u_n, hg_cp_s, hg_cp_n]
  · rw [← G12 s hs]; simp (disch := omega) only [hg_u_s, hg_u_j, hg_u_n, hg_cp_s, hg_cp_n]
  · rw [← G13 s hs]; simp (disch := omega) only [hg_u_s, hg_u_j, hg_u_n, hg_cp_s, hg_cp_n]
  · rw [← G14]; simp (disch := omega) only [hg_u_s, hg_u_j, hg_u_n, hg_cp_s, hg_cp_n]
  · rw [← G15]; simp (disch := omega) only [hg_u_s, hg_u_j, hg_u_n, hg_cp_s, hg_cp_n]
  · rw [← G16 o ho]; simp (disch := omega) only [hg_u_s, hg_u_j, hg_u_n, hg_cp_s, hg_cp_n]
  · rw [← G17]; simp (disch := omega) only [hg_u_s, hg_u_j, hg_u_n, hg_cp_s, hg_cp_n]
  · simp (disch := omega) only [hg_u_n, hg_cp_n]
theorem yy_copy_1_17 {σ : zS} {p : Nat → Nat} {W H R : Nat} (hR : R ≤ 5) (h : hg_G17 σ p W H R) : ∃ τ, f_G_copyFrom_1_17 σ = some τ ∧ hg_G1 τ p W H R ∧ ∀ k, (k < 1 ∨ 14 < k) → τ k = σ k := by
  obtain ⟨G0, G1, G2, G3, G4, G5, G6, G7, G8, G9, G10, G11, G12, G13, G14, G15, G16, G17⟩ := h
  unfold f_G_copyFrom_1_17 f_Lw_copyFrom_7_23 f_Sp_copyFrom_11_27
  simp only [z_let, z_bs]
  refine ⟨_, rfl, ⟨?_, ?_, ?_, fun c hc => ?_, fun c hc => ?_, fun c hc => ?_, fun c hc => ?_, fun c hc => ?_, ?_, fun k hk => ?_, fun k hk => ?_, fun k hk => ?_, fun s hs => ?_, fun s hs => ?_, ?_, ?_, fun o ho => ?_, ?_⟩, fun k hk => ?_⟩
  · rw [← G0]; simp (disch := omega) only [hg_u_s, hg_u_j, hg_u_n, hg_cp_s, hg_cp_n]
  · rw [← G1]; simp (disch := omega) only [hg_u_s, hg_u_j, hg_u_n, hg_cp_s, hg_cp_n]
  · rw [← G2]; simp (disch := omega) only [hg_u_s, hg_u_j, hg_u_n, hg_cp_s, hg_cp_n]
  · rw [← G3 c hc]; simp (disch := omega) only [hg_u_s, hg_u_j, hg_u_n, hg_cp_s, hg_cp_n]
  · rw [← G4 c hc]; simp (disch := omega) only [hg_u_s, hg_u_j, hg_u_n, hg_cp_s, hg_cp_n]
  · rw [← G5 c hc]; simp (disch := omega) only [hg_u_s, hg_u_j, hg_u_n, hg_cp_s, hg_cp_n]
  · rw [← G6 c hc]; simp (disch := omega) only [hg_u_s, hg_u_j, hg_u_n, hg_cp_s, hg_cp_n]
  · rw [← G7 c hc]; simp (disch := omega) only [hg_u_s, hg_u_j, hg_u_n, hg_cp_s, hg_cp_n]
  · rw [← G8]; simp (disch := omega) only [hg_u_s, hg_u_j, hg_u_n, hg_cp_s, hg_cp_n]
  · rw [← G9 k hk]; simp (disch := omega) only [hg_u_s, hg_u_j, hg_u_n, hg_cp_s, hg_cp_n]
  · rw [← G10 k hk]; simp (disch := omega) only [hg_u_s, hg_u_j, hg_u_n, hg_cp_s, hg_cp_n]
  · rw [← G11 k hk]; simp (disch := omega) only [hg_u_s, hg_u_j, hg_u_n, hg_cp_s, hg_cp_n]
  · rw [← G12 s hs]; simp (disch := omega) only [hg_u_s, hg_u_j, hg_u_n, hg_cp_s, hg_cp_n]
  · rw [← G13 s hs]; simp (disch := omega) only [hg_u_s, hg_u_j, hg_u_n, hg_cp_s, hg_cp_n]
  · rw [← G14]; simp (disch := omega) only [hg_u_s, hg_u_j, hg_u_n, hg_cp_s, hg_cp_n]
  · rw [← G15]; simp (disch := omega) only [hg_u_s, hg_u_j, hg_u_n, hg_cp_s, hg_cp_n]
  · rw [← G16 o ho]; simp (disch := omega) only [hg_u_s, hg_u_j, hg_u_n, hg_cp_s, hg_cp_n]
  · rw [← G17]; simp (disch := omega) only [hg_u_s, hg_u_j, hg_u_n, hg_cp_s, hg_cp_n]
  · simp (disch := omega) only [hg_u_n, hg_cp_n]
theorem yy_copy_50_1 {σ : zS} {p : Nat → Nat} {W H R : Nat} (hR : R ≤ 5) (h : hg_G1 σ p W H R) : ∃ τ, f_G_copyFrom_50_1 σ = some τ ∧ hg_G50 τ p W H R ∧ ∀ k, (k < 50 ∨ 63 < k) → τ k = σ k := by
  obtain ⟨G0, G1, G2, G3, G4, G5, G6, G7, G8, G9, G10, G11, G12, G13, G14, G15, G16, G17⟩ := h
  unfold f_G_copyFrom_50_1 f_Lw_copyFrom_56_7 f_Sp_copyFrom_60_11
  simp only [z_let, z_bs]
  refine ⟨_, rfl, ⟨?_, ?_, ?_, fun c hc => ?_, fun c hc => ?_, fun c hc => ?_, fun c hc => ?_, fun c hc => ?_, ?_, fun k hk => ?_, fun k hk => ?_, fun k hk => ?_, fun s hs => ?_, fun s hs => ?_, ?_, ?_, fun o ho => ?_, ?_⟩, fun k hk => ?_⟩
  · rw [← G0]; simp (disch := omega) only [hg_u_s, hg_u_j, hg_u_n, hg_cp_s, hg_cp_n]
  · rw [← G1]; simp (disch := omega) only [hg_u_s, hg_u_j, hg_u_n, hg_cp_s, hg_cp_n]
  · rw [← G2]; simp (disch := omega) only [hg_u_s, hg_u_j, hg_u_n, hg_cp_s, hg_cp_n]
  · rw [← G3 c hc]; simp (disch := omega) only [hg_u_s, hg_u_j, hg_u_n, hg_cp_s, hg_cp_n]
  · rw [← G4 c hc]; simp (disch := omega) only [hg_u_s, hg_u_j, hg_u_n, hg_cp_s, hg_cp_n]
  · rw [← G5 c hc]; simp (disch := omega) only [hg_u_s, hg_u_j, hg_u_n, hg_cp_s, hg_cp_n]
  · rw [← G6 c hc]; simp (disch := omega) only [hg_u_s, hg_u_j, hg_u_n, hg_cp_s, hg_cp_n]
  · rw [← G7 c hc]; simp (disch := omega) only [hg_u_s, hg_u_j, hg_u_n, hg_cp_s, hg_cp_n]
  · rw [← G8]; simp (disch := omega) only [hg_u_s, hg_u_j, hg_u_n, hg_cp_s, hg_cp_n]
  · rw [← G9 k hk]; simp (disch := omega) only [hg_u_s, hg_u_j, hg_u_n, hg_cp_s, hg_cp_n]
  · rw [← G10 k hk]; simp (disch := omega) only [hg_u_s, hg_u_j, hg_u_n, hg_cp_s, hg_cp_n]
  · rw [← G11 k hk]; simp (disch := omega) only [hg_u_s, hg_u_j, hg_u_n, hg_cp_s, hg_cp_n]
  · rw [← G12 s hs]; simp (disch := omega) only [hg_u_s, hg_u_j, hg_u_n, hg_cp_s, hg_cp_n]
  · rw [← G13 s hs]; simp (disch := omega) only [hg_u_s, hg_u_j, hg_u_n, hg_cp_s, hg_cp_n]
  · rw [← G14]; simp (disch := omega) only [hg_u_s, hg_u_j, hg_u_n, hg_cp_s, hg_cp_n]
  · rw [← G15]; simp (disch := omega) only [hg_u_s, hg_u_j, hg_u_n, hg_cp_s, hg_cp_n]
  · rw [← G16 o ho]; simp (disch := omega) only [hg_u_s, hg_u_j, hg_u_n, hg_cp_s, hg_cp_n]
  · rw [← G17]; simp (disch := omega) only [hg_u_s, hg_u_j, hg_u_n, hg_cp_s, hg_cp_n]
  · simp (disch := omega) only [hg_u_n, hg_cp_n]
theorem yy_copy_66_1 {σ : zS} {p : Nat → Nat} {W H R : Nat} (hR : R ≤ 5) (h : hg_G1 σ p W H R) : ∃ τ, f_G_copyFrom_66_1 σ = some τ ∧ hg_G66 τ p W H R ∧ ∀ k, (k < 66 ∨ 79 < k) → τ k = σ k := by
  obtain ⟨G0, G1, G2, G3, G4, G5, G6, G7, G8, G9, G10, G11, G12, G13, G14, G15, G16, G17⟩ := h
  unfold f_G_copyFrom_66_1 f_Lw_copyFrom_72_7 f_Sp_copyFrom_76_11
  simp only [z_let, z_bs]
  refine ⟨_, rfl, ⟨?_, ?_, ?_, fun c hc => ?_, fun c hc => ?_, fun c hc => ?_, fun c hc => ?_, fun c hc => ?_, ?_, fun k hk => ?_, fun k hk => ?_, fun k hk => ?_, fun s hs => ?_, fun s hs => ?_, ?_, ?_, fun o ho => ?_, ?_⟩, fun k hk => ?_⟩
  · rw [← G0]; simp (disch := omega) only [hg_u_s, hg_u_j, hg_u_n, hg_cp_s, hg_cp_n]
  · rw [← G1]; simp (disch := omega) only [hg_u_s, hg_u_j, hg_u_n, hg_cp_s, hg_cp_n]
  · rw [← G2]; simp (disch := omega) only [hg_u_s, hg_u_j, hg_u_n, hg_cp_s, hg_cp_n]
  · rw [← G3 c hc]; simp (disch := omega) only [hg_u_s, hg_u_j, hg_u_n, hg_cp_s, hg_cp_n]
  · rw [← G4 c hc]; simp (disch := omega) only [hg_u_s, hg_u_j, hg_u_n, hg_cp_s, hg_cp_n]
  · rw [← G5 c hc]; simp (disch := omega) only [hg_u_s, hg_u_j, hg_u_n, hg_cp_s, hg_cp_n]
  · rw [← G6 c hc]; simp (disch := omega) only [hg_u_s, hg_u_j, hg_u_n, hg_cp_s, hg_cp_n]
  · rw [← G7 c hc]; simp (disch := omega) only [hg_u_s, hg_u_j, hg_u_n, hg_cp_s, hg_cp_n]
  · rw [← G8]; simp (disch := omega) only [hg_u_s, hg_u_j, hg_u_n, hg_cp_s, hg_cp_n]
  · rw [← G9 k hk]; simp (disch := omega) only [hg_u_s, hg_u_j, hg_u_n, hg_cp_s, hg_cp_n]
  · rw [← G10 k hk]; simp (disch := omega) only [hg_u_s, hg_u_j, hg_u_n, hg_cp_s, hg_cp_n]
  · rw [← G11 k hk]; simp (disch := omega) only [hg_u_s, hg_u_j, hg_u_n, hg_cp_s, hg_cp_n]
  · rw [← G12 s hs]; simp (disch := omega) only [hg_u_s, hg_u_j, hg_u_n, hg_cp_s, hg_cp_n]
  · rw [← G13 s hs]; simp (disch := omega) only [hg_u_s, hg_u_j, hg_u_n, hg_cp_s, hg_cp_n]
  · rw [← G14]; simp (disch := omega) only [hg_u_s, hg_u_j, hg_u_n, hg_cp_s, hg_cp_n]
  · rw [← G15]; simp (disch := omega) only [hg_u_s, hg_u_j, hg_u_n, hg_cp_s, hg_cp_n]
  · rw [← G16 o ho]; simp (disch := omega) only [hg_u_s, hg_u_j, hg_u_n, hg_cp_s, hg_cp_n]
  · rw [← G17]; simp (disch := omega) only [hg_u_s, hg_u_j, hg_u_n, hg_cp_s, hg_cp_n]
  · simp (disch := omega) only [hg_u_n, hg_cp_n]
theorem yy_copy_1_50 {σ : zS} {p : Nat → Nat} {W H R : Nat} (hR : R ≤ 5) (h : hg_G50 σ p W H R) : ∃ τ, f_G_copyFrom_1_50 σ = some τ ∧ hg_G1 τ p W H R ∧ ∀ k, (k < 1 ∨ 14 < k) → τ k = σ k := by
  obtain ⟨G0, G1, G2, G3, G4, G5, G6, G7, G8, G9, G10, G11, G12, G13, G14, G15, G16, G17⟩ := h
  unfold f_G_copyFrom_1_50 f_Lw_copyFrom_7_56 f_Sp_copyFrom_11_60
  simp only [z_let, z_bs]
  refine ⟨_, rfl, ⟨?_, ?_, ?_, fun c hc => ?_, fun c hc => ?_, fun c hc => ?_, fun c hc => ?_, fun c hc => ?_, ?_, fun k hk => ?_, fun k hk => ?_, fun k hk => ?_, fun s hs => ?_, fun s hs => ?_, ?_, ?_, fun o ho => ?_, ?_⟩, fun k hk => ?_⟩
  · rw [← G0]; simp (disch := omega) only [hg_u_s, hg_u_j, hg_u_n, hg_cp_s, hg_cp_n]
  · rw [← G1]; simp (disch := omega) only [hg_u_s, hg_u_j, hg_u_n, hg_cp_s, hg_cp_n]
  · rw [← G2]; simp (disch := omega) only [hg_u_s, hg_u_j, hg_u_n, hg_cp_s, hg_cp_n]
  · rw [← G3 c hc]; simp (disch := omega) only [hg_u_s, hg_u_j, hg_u_n, hg_cp_s, hg_cp_n]
  · rw [← G4 c hc]; simp (disch := omega) only [hg_u_s, hg_u_j, hg_u_n, hg_cp_s, hg_cp_n]
  · rw [← G5 c hc]; simp (disch := omega) only [hg_u_s, hg_u_j, hg_u_n, hg_cp_s, hg_cp_n]
  · rw [← G6 c hc]; simp (disch := omega) only [hg_u_s, hg_u_j, hg_u_n, hg_cp_s, hg_cp_n]
  · rw [← G7 c hc]; simp (disch := omega) only [hg_u_s, hg_u_j, hg_u_n, hg_cp_s, hg_cp_n]
  · rw [← G8]; simp (disch := omega) only [hg_u_s, hg_u_j, hg_u_n, hg_cp_s, hg_cp_n]
  · rw [← G9 k hk]; simp (disch := omega) only [hg_u_s, hg_u_j, hg_u_n, hg_cp_s, hg_cp_n]
  · rw [← G10 k hk]; simp (disch := omega) only [hg_u_s, hg_u_j, hg_u_n, hg_cp_s, hg_cp_n]
  · rw [← G11 k hk]; simp (disch := omega) only [hg_u_s, hg_u_j, hg_u_n, hg_cp_s, hg_cp_n]
  · rw [← G12 s hs]; simp (disch := omega) only [hg_u_s, hg_u_j, hg_u_n, hg_cp_s, hg_cp_n]
  · rw [← G13 s hs]; simp (disch := omega) only [hg_u_s, hg_u_j, hg_u_n, hg_cp_s, hg_cp_n]
  · rw [← G14]; simp (disch := omega) only [hg_u_s, hg_u_j, hg_u_n, hg_cp_s, hg_cp_n]
  · rw [← G15]; simp (disch := omega) only [hg_u_s, hg_u_j, hg_u_n, hg_cp_s, hg_cp_n]
  · rw [← G16 o ho]; simp (disch := omega) only [hg_u_s, hg_u_j, hg_u_n, hg_cp_s, hg_cp_n]
  · rw [← G17]; simp (disch := omega) only [hg_u_s, hg_u_j, hg_u_n, hg_cp_s, hg_cp_n]
  · simp (disch := omega) only [hg_u_n, hg_cp_n]
theorem yy_copy_1_66 {σ : zS} {p : Nat → Nat} {W H R : Nat} (hR : R ≤ 5) (h : hg_G66 σ p W H R) : ∃ τ, f_G_copyFrom_1_66 σ = some τ ∧ hg_G1 τ p W H R ∧ ∀ k, (k < 1 ∨ 14 < k) → τ k = σ k := by
  obtain ⟨G0, G1, G2, G3, G4, G5, G6, G7, G8, G9, G10, G11, G12, G13, G14, G15, G16, G17⟩ := h
  unfold f_G_copyFrom_1_66 f_Lw_copyFrom_7_72 f_Sp_copyFrom_11_76
  simp only [z_let, z_bs]
  refine ⟨_, rfl, ⟨?_, ?_, ?_, fun c hc => ?_, fun c hc => ?_, fun c hc => ?_, fun c hc => ?_, fun c hc => ?_, ?_, fun k hk => ?_, fun k hk => ?_, fun k hk => ?_, fun s hs => ?_, fun s hs => ?_, ?_, ?_, fun o ho => ?_, ?_⟩, fun k hk => ?_⟩
  · rw [← G0]; simp (disch := omega) only [hg_u_s, hg_u_j, hg_u_n, hg_cp_s, hg_cp_n]
  · rw [← G1]; simp (disch := omega) only [hg_u_s, hg_u_j, hg_u_n, hg_cp_s, hg_cp_n]
  · rw [← G2]; simp (disch := omega) only [hg_u_s, hg_u_j, hg_u_n, hg_cp_s, hg_cp_n]
  · rw [← G3 c hc]; simp (disch := omega) only [hg_u_s, hg_u_j, hg_u_n, hg_cp_s, hg_cp_n]
  · rw [← G4 c hc]; simp (disch := omega) only [hg_u_s, hg_u_j, hg_u_n, hg_cp_s, hg_cp_n]
  · rw [← G5 c hc]; simp (disch := omega) only [hg_u_s, hg_u_j, hg_u_n, hg_cp_s, hg_cp_n]
  · rw [← G6 c hc]; simp (disch := omega) only [hg_u_s, hg_u_j, hg_u_n, hg_cp_s, hg_cp_n]
  · rw [← G7 c hc]; simp (disch := omega) only [hg_u_s, hg_u_j, hg_u_n, hg_cp_s, hg_cp_n]
  · rw [← G8]; simp (disch := omega) only [hg_u_s, hg_u_j, hg_u_n, hg_cp_s, hg_cp_n]
  · rw [← G9 k hk]; simp (disch := omega) only [hg_u_s, hg_u_j, hg_u_n, hg_cp_s, hg_cp_n]
  · rw [← G10 k hk]; simp (disch := omega) only [hg_u_s, hg_u_j, hg_u_n, hg_cp_s, hg_cp_n]
  · rw [← G11 k hk]; simp (disch := omega) only [hg_u_s, hg_u_j, hg_u_n, hg_cp_s, hg_cp_n]
  · rw [← G12 s hs]; simp (disch := omega) only [hg_u_s, hg_u_j, hg_u_n, hg_cp_s, hg_cp_n]
  · rw [← G13 s hs]; simp (disch := omega) only [hg_u_s, hg_u_j, hg_u_n, hg_cp_s, hg_cp_n]
  · rw [← G14]; simp (disch := omega) only [hg_u_s, hg_u_j, hg_u_n, hg_cp_s, hg_cp_n]
  · rw [← G15]; simp (disch := omega) only [hg_u_s, hg_u_j, hg_u_n, hg_cp_s, hg_cp_n]
  · rw [← G16 o ho]; simp (disch := omega) only [hg_u_s, hg_u_j, hg_u_n, hg_cp_s, hg_cp_n]
  · rw [← G17]; simp (disch := omega) only [hg_u_s, hg_u_j, hg_u_n, hg_cp_s, hg_cp_n]
  · simp (disch := omega) only [hg_u_n, hg_cp_n]
def fb_s3 (p : Nat → Nat) : Nat → Nat
  | 0 => 0
  | n + 1 => fb_s3 p n + p (106 + n)
def g_fa (p : Nat → Nat) (c : Nat) (b : Int32) : Int32 := if b = 0 then nI (g_l p c) else if b = 1 then nI (p (5 * c + 1)) else if b = 2 then g_k p c else if b = 3 then nI (p (5 * c + 3)) else if b = 4 then nI (p (5 * c + 4)) else -1
section F1
variable {σ : zS} {p : Nat → Nat} {W H R : Nat}
theorem yy_ripe_1 (h : ∀ o, o < 3 → σ 14 o = nI (p (106 + o))) : f_G_ripeOfAll_1 σ = some (nI (p 106 + p 107 + p 108)) := by
  unfold f_G_ripeOfAll_1
  refine z_ex (z_lp' (fun i (s : Int32 × Int32) => s.2 = nI i ∧ i ≤ 3 ∧ s.1 = nI (fb_s3 p i)) 3 ?_ ?_ ?_)
  · exact ⟨rfl, by omega, rfl⟩
  ·
      intro i s hi hP
      obtain ⟨e1, e2, e3⟩ := hP
      rw [e1, nl3, if_neg (nI_ge hi (by omega)), if_pos ((z_ibn (by omega)).mpr hi), nI_clamp (by omega), h i hi, e3, nI_add, nI_1]
      exact ⟨_, rfl, rfl, by omega, rfl⟩
  ·
      intro s hP
      obtain ⟨e1, e2, e3⟩ := hP
      rw [e1, nl3, if_pos (nI_le (Nat.le_refl _) (by omega))]
      refine ⟨_, rfl, _, rfl, ?_⟩
      rw [e3]
      simp only [fb_s3, Nat.zero_add]
/-- what cell() tells -/
theorem yy_facet_1 (hD : hg_D W H R) (h : hg_G1 σ p W H R) {c : Nat} (hc : c < W * H) (b : Int32) : f_G_facet_1 (nI c) b σ = some (g_fa p c b) := by
  obtain ⟨n1, n2⟩ := hg_D_N hD
  unfold f_G_facet_1
  rw [y_hasCelln_1 hD h (by omega), z_bs, if_pos hc, if_neg (by decide)]
  simp only [if_pos ((z_ibn (show c < 2 ^ 31 by omega)).mpr (show c < 16 by omega)), nI_clamp (show c < 2 ^ 31 by omega), h.2.2.2.1 c (by omega), h.2.2.2.2.1 c (by omega), h.2.2.2.2.2.1 c (by omega), h.2.2.2.2.2.2.1 c (by omega), h.2.2.2.2.2.2.2.1 c (by omega)]
  unfold g_fa
  (repeat' split) <;> rfl
theorem yy_facetx_1 (hD : hg_D W H R) (h : hg_G1 σ p W H R) {a : Int32} (ha : ¬ (0 ≤ a.toInt ∧ a.toInt < ((W * H : Nat) : Int))) (b : Int32) : f_G_facet_1 a b σ = some (-1) := by
  unfold f_G_facet_1
  rw [y_hasCell_1 hD h, z_bs, if_neg ha]
  rfl
end F1
section F17
variable {σ : zS} {p : Nat → Nat} {W H R : Nat}
theorem yy_ripe_17 (h : ∀ o, o < 3 → σ 30 o = nI (p (106 + o))) : f_G_ripeOfAll_17 σ = some (nI (p 106 + p 107 + p 108)) := by
  unfold f_G_ripeOfAll_17
  refine z_ex (z_lp' (fun i (s : Int32 × Int32) => s.2 = nI i ∧ i ≤ 3 ∧ s.1 = nI (fb_s3 p i)) 3 ?_ ?_ ?_)
  · exact ⟨rfl, by omega, rfl⟩
  ·
      intro i s hi hP
      obtain ⟨e1, e2, e3⟩ := hP
      rw [e1, nl3, if_neg (nI_ge hi (by omega)), if_pos ((z_ibn (by omega)).mpr hi), nI_clamp (by omega), h i hi, e3, nI_add, nI_1]
      exact ⟨_, rfl, rfl, by omega, rfl⟩
  ·
      intro s hP
      obtain ⟨e1, e2, e3⟩ := hP
      rw [e1, nl3, if_pos (nI_le (Nat.le_refl _) (by omega))]
      refine ⟨_, rfl, _, rfl, ?_⟩
      rw [e3]
      simp only [fb_s3, Nat.zero_add]
/-- what cell() tells -/
theorem yy_facet_17 (hD : hg_D W H R) (h : hg_G17 σ p W H R) {c : Nat} (hc : c < W * H) (b : Int32) : f_G_facet_17 (nI c) b σ = some (g_fa p c b) := by
  obtain ⟨n1, n2⟩ := hg_D_N hD
  unfold f_G_facet_17
  rw [y_hasCelln_17 hD h (by omega), z_bs, if_pos hc, if_neg (by decide)]
  simp only [if_pos ((z_ibn (show c < 2 ^ 31 by omega)).mpr (show c < 16 by omega)), nI_clamp (show c < 2 ^ 31 by omega), h.2.2.2.1 c (by omega), h.2.2.2.2.1 c (by omega), h.2.2.2.2.2.1 c (by omega), h.2.2.2.2.2.2.1 c (by omega), h.2.2.2.2.2.2.2.1 c (by omega)]
  unfold g_fa
  (repeat' split) <;> rfl
theorem yy_facetx_17 (hD : hg_D W H R) (h : hg_G17 σ p W H R) {a : Int32} (ha : ¬ (0 ≤ a.toInt ∧ a.toInt < ((W * H : Nat) : Int))) (b : Int32) : f_G_facet_17 a b σ = some (-1) := by
  unfold f_G_facet_17
  rw [y_hasCell_17 hD h, z_bs, if_neg ha]
  rfl
end F17
