/-! a week over a garden, as the class goes: the crops, the yards -/
/-- what a cell holds behind a week -/
def g_cv (p : Nat → Nat) (W H R c j : Nat) : Nat := if j = 0 then g_s1 p W H R c else if j = 1 then g_y1 p W H R c - 1 else if j = 2 then (if p (5 * c + 2) = 0 ∨ 3 ≤ g_t1 p W H R c then 0 else p (5 * c + 2)) else if j = 3 then (if p (5 * c + 2) = 0 then p (5 * c + 3) else if 3 ≤ g_t1 p W H R c then 0 else g_t1 p W H R c) else p (5 * c + 4)
def g_rp (p : Nat → Nat) (W H R o c : Nat) : Bool := decide (¬ p (5 * c + 2) = 0) && decide (g_t1 p W H R c = 3) && decide (p (5 * c + 4) = o)
def g_rs (p : Nat → Nat) (W H R c : Nat) : Bool := decide (¬ p (5 * c + 2) = 0) && decide (g_t1 p W H R c = 4)
def g_rj (p : Nat → Nat) (W H R c : Nat) : Bool := decide (¬ p (5 * c + 2) = 0) && decide (g_t1 p W H R c = 3)
/-- the garden behind a week -/
def g_wk (W H R : Nat) (p : Nat → Nat) (i : Nat) : Nat := if i < 80 then (if i / 5 < W * H then g_cv p W H R (i / 5) (i % 5) else p i) else if i = 105 then p 105 + 1 else if i = 106 then p 106 + g_ct (g_rp p W H R 0) (W * H) else if i = 107 then p 107 + g_ct (g_rp p W H R 1) (W * H) else if i = 108 then p 108 + g_ct (g_rp p W H R 2) (W * H) else if i = 109 then p 109 + g_ct (g_rs p W H R) (W * H) else p i
theorem g_wk_c {W H R c j : Nat} {p : Nat → Nat} (hc : c < 16) (hj : j < 5) : g_wk W H R p (5 * c + j) = if c < W * H then g_cv p W H R c j else p (5 * c + j) := by
  unfold g_wk
  rw [if_pos (by omega), show (5 * c + j) / 5 = c by omega, show (5 * c + j) % 5 = j by omega]
theorem g_wk_0 {W H R c : Nat} {p : Nat → Nat} (hc : c < 16) : g_wk W H R p (5 * c) = if c < W * H then g_s1 p W H R c else p (5 * c) := g_wk_c (j := 0) hc (by omega)
theorem g_wk_1 {W H R c : Nat} {p : Nat → Nat} (hc : c < 16) : g_wk W H R p (5 * c + 1) = if c < W * H then g_y1 p W H R c - 1 else p (5 * c + 1) := g_wk_c (j := 1) hc (by omega)
theorem g_wk_2 {W H R c : Nat} {p : Nat → Nat} (hc : c < 16) : g_wk W H R p (5 * c + 2) = if c < W * H then (if p (5 * c + 2) = 0 ∨ 3 ≤ g_t1 p W H R c then 0 else p (5 * c + 2)) else p (5 * c + 2) := g_wk_c (j := 2) hc (by omega)
theorem g_wk_3 {W H R c : Nat} {p : Nat → Nat} (hc : c < 16) : g_wk W H R p (5 * c + 3) = if c < W * H then (if p (5 * c + 2) = 0 then p (5 * c + 3) else if 3 ≤ g_t1 p W H R c then 0 else g_t1 p W H R c) else p (5 * c + 3) := g_wk_c (j := 3) hc (by omega)
theorem g_wk_4 {W H R c : Nat} {p : Nat → Nat} (hc : c < 16) : g_wk W H R p (5 * c + 4) = p (5 * c + 4) := by
  rw [g_wk_c (j := 4) hc (by omega)]
  exact ite_self _
theorem g_wk_m {W H R i : Nat} {p : Nat → Nat} (h1 : 80 ≤ i) (h2 : i < 105) : g_wk W H R p i = p i := by
  unfold g_wk
  rw [if_neg (by omega), if_neg (by omega), if_neg (by omega), if_neg (by omega), if_neg (by omega), if_neg (by omega)]
theorem g_wk_r {W H R o : Nat} {p : Nat → Nat} (h : o < 3) : g_wk W H R p (106 + o) = p (106 + o) + g_ct (g_rp p W H R o) (W * H) := by
  rcases o with _ | _ | _ | o
  · rfl
  · rfl
  · rfl
  · omega
theorem hg_V_wk {W H R : Nat} {p : Nat → Nat} (hR : R ≤ 5) (hV : hg_V p R) : hg_V (g_wk W H R p) R := by
  refine ⟨fun c hc => ?_, ?_, fun k hk => ?_, fun s hs => ?_, ?_⟩
  · obtain ⟨v1, v2, v3, v4, v5⟩ := hV.1 c hc
    rw [g_wk_0 hc, g_wk_1 hc, g_wk_2 hc, g_wk_3 hc, g_wk_4 hc]
    have y := g_y1_le (W := W) (H := H) hV hc
    refine ⟨?_, ?_, ?_, ?_, v5⟩
    · split
      · unfold g_s1
        split
        · rename_i h
          exact (hV.2.2.1 _ h).1
        · exact v1
      · exact v1
    · split <;> omega
    · split
      · split <;> omega
      · omega
    · split
      · split
        · omega
        · split <;> omega
      · omega
  · rw [g_wk_m (by omega) (by omega)]
    exact hV.2.1
  · rw [g_wk_m (by omega) (by omega), g_wk_m (by omega) (by omega), g_wk_m (by omega) (by omega)]
    exact hV.2.2.1 k hk
  · rw [g_wk_m (by omega) (by omega), g_wk_m (by omega) (by omega)]
    exact hV.2.2.2.1 s hs
  · rw [g_wk_m (by omega) (by omega)]
    exact hV.2.2.2.2
def g_wks (W H R : Nat) : Nat → (Nat → Nat) → Nat → Nat
  | 0, p => p
  | n + 1, p => g_wk W H R (g_wks W H R n p)
theorem hg_V_wks {W H R : Nat} {p : Nat → Nat} (hR : R ≤ 5) (hV : hg_V p R) : ∀ n, hg_V (g_wks W H R n p) R
  | 0 => hV
  | n + 1 => hg_V_wk hR (hg_V_wks hR hV n)
section C1
variable {σ : zS} {p : Nat → Nat} {W H R : Nat}
theorem yy_set_1 {c : Nat} (hc : c < 16) (a b : Int32) (σ : zS) : f_G_set_1 (nI c) a b σ = some (z_u (z_u σ 2 c a) 3 c b) := by
  unfold f_G_set_1
  rw [y_isIn, z_bs, if_neg (by rw [nI_toInt (by omega), if_pos (show ((0 : Int32).toInt ≤ (c : Int) ∧ (c : Int) ≤ (15 : Int32).toInt) from ⟨by show (0 : Int) ≤ _; omega, by show _ ≤ (15 : Int); omega⟩)]; decide)]
  simp only [if_pos ((z_ibn (show c < 2 ^ 31 by omega)).mpr hc), nI_clamp (show c < 2 ^ 31 by omega), z_let]
theorem yy_setCrop_1 {c : Nat} (hc : c < 16) (a : Int32) (σ : zS) : f_G_setCrop_1 (nI c) a σ = some (z_u (z_u σ 4 c a) 5 c (nI 0)) := by
  unfold f_G_setCrop_1
  rw [y_isIn, z_bs, if_neg (by rw [nI_toInt (by omega), if_pos (show ((0 : Int32).toInt ≤ (c : Int) ∧ (c : Int) ≤ (15 : Int32).toInt) from ⟨by show (0 : Int) ≤ _; omega, by show _ ≤ (15 : Int); omega⟩)]; decide)]
  simp only [if_pos ((z_ibn (show c < 2 ^ 31 by omega)).mpr hc), nI_clamp (show c < 2 ^ 31 by omega), z_let, nl0]
theorem yy_growCrop_1 {c k t l o : Nat} (hc : c < 16) (hk : k < 5) (ht : t < 3) (hl : l < 5) (ho : o < 3) (e3 : σ 4 c = nI k) (e4 : σ 5 c = nI t) (e1 : σ 2 c = nI l) (e5 : σ 6 c = nI o) : ∃ τ, f_G_growCrop_1 (nI c) σ = some τ ∧ (∀ j, j ≠ c → τ 4 j = σ 4 j) ∧ (∀ j, j ≠ c → τ 5 j = σ 5 j) ∧ τ 4 c = (if 3 ≤ g_sb k t l then - nI 4 else nI k) ∧ τ 5 c = nI (if 3 ≤ g_sb k t l then 0 else g_sb k t l) ∧ (∀ q, τ 14 q = if g_sb k t l = 3 ∧ o = q then σ 14 q + nI 1 else σ 14 q) ∧ τ 1 12 = (if g_sb k t l = 4 then σ 1 12 + nI 1 else σ 1 12) ∧ τ 1 13 = (if g_sb k t l = 3 then σ 1 13 ||| nI (2 ^ c) else σ 1 13) ∧ (∀ j, j ≠ 12 → j ≠ 13 → τ 1 j = σ 1 j) ∧ ∀ q, q ≠ 1 → q ≠ 4 → q ≠ 5 → q ≠ 14 → τ q = σ q := by
  have hsb := g_sb_le (k := k) (s := l) ht
  unfold f_G_growCrop_1
  simp only [if_pos ((z_ibn (show c < 2 ^ 31 by omega)).mpr hc), nI_clamp (show c < 2 ^ 31 by omega), e3, e4, e1, e5, y_behind hk ht hl, z_bs, nl3, nl4, nI_eq (show g_sb k t l < 2 ^ 31 by omega) (show 3 < 2 ^ 31 by omega), nI_eq (show g_sb k t l < 2 ^ 31 by omega) (show 4 < 2 ^ 31 by omega)]
  by_cases c3 : g_sb k t l = 3
  · rw [if_pos c3, y_isIn, z_bs]
    simp only [z_join, z_let]
    rw [if_neg (by rw [nI_toInt (by omega), if_pos (show ((0 : Int32).toInt ≤ (o : Int) ∧ (o : Int) ≤ (2 : Int32).toInt) from ⟨by show (0 : Int) ≤ _; omega, by show _ ≤ (2 : Int); omega⟩)]; decide)]
    simp only [if_pos ((z_ibn (show o < 2 ^ 31 by omega)).mpr ho), nI_clamp (show o < 2 ^ 31 by omega), nl31, nl1, z_shl (show c < 32 by omega), yy_setCrop_1 hc, z_bs]
    refine ⟨_, rfl, fun j hj => ?_, fun j hj => ?_, ?_, ?_, fun q => ?_, ?_, ?_, fun j j1 j2 => ?_, fun q q1 q2 q3 q4 => ?_⟩
    · rw [hg_u_n (by omega), hg_u_j hj, hg_u_n (by omega), hg_u_n (by omega)]
    · rw [hg_u_j hj, hg_u_n (by omega), hg_u_n (by omega), hg_u_n (by omega)]
    · rw [hg_u_n (by omega), hg_u_s, if_pos (by omega)]
    · rw [hg_u_s, if_pos (by omega)]
    · rw [hg_u_n (by omega), hg_u_n (by omega), hg_u_n (by omega)]
      by_cases qo : q = o
      · subst qo
        rw [hg_u_s, if_pos ⟨c3, rfl⟩]
      · rw [hg_u_j qo, if_neg (fun z => qo z.2.symm)]
    · rw [hg_u_n (by omega), hg_u_n (by omega), hg_u_j (by omega), hg_u_n (by omega), if_neg (by omega)]
    · rw [hg_u_n (by omega), hg_u_n (by omega), hg_u_s, hg_u_n (by omega), if_pos c3]
    · rw [hg_u_n (by omega), hg_u_n (by omega), hg_u_j j2, hg_u_n (by omega)]
    · rw [hg_u_n q3, hg_u_n q2, hg_u_n q1, hg_u_n q4]
  · rw [if_neg c3]
    by_cases c4 : g_sb k t l = 4
    · rw [if_pos c4]
      simp only [z_let, yy_setCrop_1 hc, z_bs, nl1]
      refine ⟨_, rfl, fun j hj => ?_, fun j hj => ?_, ?_, ?_, fun q => ?_, ?_, ?_, fun j j1 j2 => ?_, fun q q1 q2 q3 q4 => ?_⟩
      · rw [hg_u_n (by omega), hg_u_j hj, hg_u_n (by omega)]
      · rw [hg_u_j hj, hg_u_n (by omega), hg_u_n (by omega)]
      · rw [hg_u_n (by omega), hg_u_s, if_pos (by omega)]
      · rw [hg_u_s, if_pos (by omega)]
      · rw [hg_u_n (by omega), hg_u_n (by omega), hg_u_n (by omega), if_neg (fun z => c3 z.1)]
      · rw [hg_u_n (by omega), hg_u_n (by omega), hg_u_s, if_pos c4]
      · rw [hg_u_n (by omega), hg_u_n (by omega), hg_u_j (by omega), if_neg c3]
      · rw [hg_u_n (by omega), hg_u_n (by omega), hg_u_j j1]
      · rw [hg_u_n q3, hg_u_n q2, hg_u_n q1]
    · rw [if_neg c4]
      simp only [z_let]
      refine ⟨_, rfl, fun j hj => ?_, fun j hj => ?_, ?_, ?_, fun q => ?_, ?_, ?_, fun j j1 j2 => ?_, fun q q1 q2 q3 q4 => ?_⟩
      · rw [hg_u_n (by omega)]
      · rw [hg_u_j hj]
      · rw [hg_u_n (by omega), if_neg (by omega), e3]
      · rw [hg_u_s, if_neg (by omega)]
      · rw [hg_u_n (by omega), if_neg (fun z => c3 z.1)]
      · rw [hg_u_n (by omega), if_neg c4]
      · rw [hg_u_n (by omega), if_neg c3]
      · rw [hg_u_n (by omega)]
      · rw [hg_u_n q3]
/-- behind the growing of n cells -/
def hg_C1 (σ τ : zS) (p : Nat → Nat) (W H R n : Nat) : Prop := (∀ c, c < 16 → τ 4 c = if c < n then (if p (5 * c + 2) = 0 ∨ 3 ≤ g_t1 p W H R c then - nI 4 else g_k p c) else g_k p c) ∧ (∀ c, c < 16 → τ 5 c = nI (if c < n then (if p (5 * c + 2) = 0 then p (5 * c + 3) else if 3 ≤ g_t1 p W H R c then 0 else g_t1 p W H R c) else p (5 * c + 3))) ∧ (∀ o, o < 3 → τ 14 o = nI (p (106 + o) + g_ct (g_rp p W H R o) n)) ∧ τ 1 12 = nI (p 109 + g_ct (g_rs p W H R) n) ∧ τ 1 13 = nI (g_bs (g_rj p W H R) n) ∧ (∀ j, j ≠ 12 → j ≠ 13 → τ 1 j = σ 1 j) ∧ ∀ q, q ≠ 1 → q ≠ 4 → q ≠ 5 → q ≠ 14 → τ q = σ q
theorem yy_cells'_1 (hD : hg_D W H R) (w0 : σ 1 0 = nI W) (w1 : σ 1 1 = nI H) : f_G_cells_1 σ = some (nI (W * H)) := by
  obtain ⟨n1, n2⟩ := hg_D_N hD
  unfold f_G_cells_1
  rw [w0, w1, pk_mul, nl16]
  simp only [nI_leI (show 16 < 2 ^ 31 by omega) (show W * H < 2 ^ 31 by omega)]
  by_cases c : 16 ≤ W * H
  · rw [if_pos c, show W * H = 16 by omega]
  · rw [if_neg c]
theorem yy_growCrops_1 {σ0 : zS} (hD : hg_D W H R) (hV : hg_V p R) (h : hg_G1 σ0 p W H R) (hS : hg_S1 σ0 σ p W H R (W * H)) : ∃ τ, f_G_growCrops_1 σ = some τ ∧ hg_C1 σ τ p W H R (W * H) := by
  obtain ⟨n1, n2⟩ := hg_D_N hD
  obtain ⟨S1, S2, S3⟩ := hS
  have w0 : σ 1 0 = nI W := by rw [S3 1 (by omega) (by omega) (by omega) (by omega)]; exact h.1
  have w1 : σ 1 1 = nI H := by rw [S3 1 (by omega) (by omega) (by omega) (by omega)]; exact h.2.1
  unfold f_G_growCrops_1
  simp only [z_let]
  refine z_lp' (fun i (s : Int32 × zS) => s.1 = nI i ∧ i ≤ W * H ∧ hg_C1 σ s.2 p W H R i) (W * H) ?_ ?_ ?_
  · exact ⟨rfl, by omega, ⟨fun c hc => (by dsimp only; rw [hg_u_n (by omega), S3 4 (by omega) (by omega) (by omega) (by omega), h.2.2.2.2.2.1 c hc, if_neg (by omega)]), fun c hc => (by dsimp only; rw [hg_u_n (by omega), S3 5 (by omega) (by omega) (by omega) (by omega), h.2.2.2.2.2.2.1 c hc, if_neg (by omega)]), fun o ho => (by dsimp only; rw [hg_u_n (by omega), S3 14 (by omega) (by omega) (by omega) (by omega), h.2.2.2.2.2.2.2.2.2.2.2.2.2.2.2.2.1 o ho]; rfl), (by dsimp only; rw [hg_u_j (by omega), S3 1 (by omega) (by omega) (by omega) (by omega), h.2.2.2.2.2.2.2.2.2.2.2.2.2.2.2.2.2]; rfl), (by dsimp only; rw [hg_u_s]; rfl), fun j j1 j2 => (by dsimp only; rw [hg_u_j j2]), fun q q1 _ _ _ => (by dsimp only; rw [hg_u_n q1])⟩⟩
  ·
      intro i s hi hP
      obtain ⟨e1, e2, c1, c2, c3, c4, c5, c6, c7⟩ := hP
      rw [e1]
      obtain ⟨v1, v2, v3, v4, v5⟩ := hV.1 i (by omega)
      have hcl := yy_cells'_1 (σ := s.2) hD (by rw [c6 0 (by omega) (by omega)]; exact w0) (by rw [c6 1 (by omega) (by omega)]; exact w1)
      rw [hcl, z_bs, if_neg (nI_ge hi (by omega)), if_pos ((z_ibn (show i < 2 ^ 31 by omega)).mpr (by omega)), nI_clamp (by omega), c1 i (by omega), if_neg (by omega)]
      simp only [z_join]
      by_cases hk : p (5 * i + 2) = 0
      · rw [if_pos (by unfold g_k; rw [if_pos hk]; rfl), nI_1]
        have r1 : ∀ o, g_rp p W H R o i = false := fun o => by simp [g_rp, hk]
        have r2 : g_rs p W H R i = false := by simp [g_rs, hk]
        have r3 : g_rj p W H R i = false := by simp [g_rj, hk]
        refine ⟨(nI (i + 1), s.2), rfl, rfl, by omega, fun c hc => ?_, fun c hc => ?_, fun o ho => ?_, ?_, ?_, c6, c7⟩
        · dsimp only
          rw [c1 c hc]
          by_cases ci : c = i
          · subst ci
            rw [if_neg (show ¬ c < c by omega), if_pos (by omega), if_pos (Or.inl hk)]
            unfold g_k
            rw [if_pos hk]
          · by_cases cc : c < i
            · rw [if_pos cc, if_pos (show c < i + 1 by omega)]
            · rw [if_neg cc, if_neg (show ¬ c < i + 1 by omega)]
        · dsimp only
          rw [c2 c hc]
          by_cases ci : c = i
          · subst ci
            rw [if_neg (show ¬ c < c by omega), if_pos (show c < c + 1 by omega), if_pos hk]
          · by_cases cc : c < i
            · rw [if_pos cc, if_pos (show c < i + 1 by omega)]
            · rw [if_neg cc, if_neg (show ¬ c < i + 1 by omega)]
        · dsimp only
          rw [c3 o ho, g_ct, r1 o]
          rfl
        · dsimp only
          rw [c4, g_ct, r2]
          rfl
        · dsimp only
          rw [c5, g_bs, r3]
          rfl
      · have ek : g_k p i = nI (p (5 * i + 2) - 1) := by unfold g_k; rw [if_neg hk]
        have el := g_l1_le (W := W) (H := H) hV (show i < 16 by omega)
        obtain ⟨τ, hτ, t1, t2, t3, t4, t5, t6, t7, t8, t9⟩ := yy_growCrop_1 (σ := s.2) (c := i) (k := p (5 * i + 2) - 1) (t := p (5 * i + 3)) (l := g_l1 p W H R i) (o := p (5 * i + 4)) (by omega) (by omega) (by omega) (by omega) (by omega) (by rw [c1 i (by omega), if_neg (by omega), ek]) (by rw [c2 i (by omega), if_neg (by omega)]) (by rw [c7 2 (by omega) (by omega) (by omega) (by omega), S1 i (by omega), if_pos hi]) (by rw [c7 6 (by omega) (by omega) (by omega) (by omega), S3 6 (by omega) (by omega) (by omega) (by omega), h.2.2.2.2.2.2.2.1 i (by omega)])
        have et : g_sb (p (5 * i + 2) - 1) (p (5 * i + 3)) (g_l1 p W H R i) = g_t1 p W H R i := rfl
        rw [et] at t3 t4 t5 t6 t7
        rw [if_neg (by rw [ek]; exact z_neg (b := 4) (by omega) (by omega) _ (by omega)), hτ, z_bs, nI_1]
        refine ⟨(nI (i + 1), τ), rfl, rfl, by omega, fun c hc => ?_, fun c hc => ?_, fun o ho => ?_, ?_, ?_, fun j j1 j2 => ?_, fun q q1 q2 q3 q4 => ?_⟩
        · dsimp only
          by_cases ci : c = i
          · subst ci
            rw [t3, if_pos (show c < c + 1 by omega)]
            by_cases c9 : 3 ≤ g_t1 p W H R c
            · rw [if_pos c9, if_pos (Or.inr c9)]
            · rw [if_neg c9, if_neg (fun z => z.elim hk c9), ek]
          · rw [t1 c ci, c1 c hc]
            by_cases cc : c < i
            · rw [if_pos cc, if_pos (show c < i + 1 by omega)]
            · rw [if_neg cc, if_neg (show ¬ c < i + 1 by omega)]
        · dsimp only
          by_cases ci : c = i
          · subst ci
            rw [t4, if_pos (show c < c + 1 by omega), if_neg hk]
          · rw [t2 c ci, c2 c hc]
            by_cases cc : c < i
            · rw [if_pos cc, if_pos (show c < i + 1 by omega)]
            · rw [if_neg cc, if_neg (show ¬ c < i + 1 by omega)]
        · dsimp only
          rw [t5 o, c3 o ho, g_ct]
          by_cases c9 : g_t1 p W H R i = 3 ∧ p (5 * i + 4) = o
          · rw [if_pos c9, if_pos (by simp [g_rp, hk, c9.1, c9.2]), nI_add]
            rfl
          · rw [if_neg c9, if_neg (by simp only [g_rp, hk, not_false_eq_true, decide_true, Bool.true_and, Bool.and_eq_true, decide_eq_true_eq]; exact c9)]
            rfl
        · dsimp only
          rw [t6, c4, g_ct]
          by_cases c9 : g_t1 p W H R i = 4
          · rw [if_pos c9, if_pos (by simp [g_rs, hk, c9]), nI_add]
            rfl
          · rw [if_neg c9, if_neg (by simp [g_rs, c9])]
            rfl
        · dsimp only
          rw [t7, c5, g_bs]
          by_cases c9 : g_t1 p W H R i = 3
          · rw [if_pos c9, if_pos (by simp [g_rj, hk, c9]), z_or]
          · rw [if_neg c9, if_neg (by simp [g_rj, c9])]
        · dsimp only
          rw [t8 j j1 j2]
          exact c6 j j1 j2
        · dsimp only
          rw [t9 q q1 q2 q3 q4]
          exact c7 q q1 q2 q3 q4
  ·
      intro s hP
      obtain ⟨e1, e2, hC⟩ := hP
      have hcl := yy_cells'_1 (σ := s.2) hD (by rw [hC.2.2.2.2.2.1 0 (by omega) (by omega)]; exact w0) (by rw [hC.2.2.2.2.2.1 1 (by omega) (by omega)]; exact w1)
      rw [e1, hcl, z_bs, if_pos (nI_le (Nat.le_refl _) (by omega))]
      exact ⟨_, rfl, _, rfl, hC⟩
theorem yy_setBare_1 {c : Nat} (hc : c < 16) (σ : zS) : f_G_setBare_1 (nI c) σ = some (z_u (z_u σ 2 c (nI 4)) 3 c (nI 0)) := by
  unfold f_G_setBare_1
  rw [yy_set_1 hc]
  rfl
/-- behind the losing of n cells -/
def hg_L1 (σ τ : zS) (p : Nat → Nat) (W H R n : Nat) : Prop := (∀ c, c < 16 → τ 2 c = nI (if c < n then (if g_y1 p W H R c - 1 = 0 then 4 else g_s1 p W H R c) else if c < W * H then g_l1 p W H R c else g_l p c)) ∧ (∀ c, c < 16 → τ 3 c = nI (if c < n then g_y1 p W H R c - 1 else if c < W * H then g_y1 p W H R c else p (5 * c + 1))) ∧ ∀ q, q ≠ 2 → q ≠ 3 → τ q = σ q
theorem yy_lose_1 (hD : hg_D W H R) (hV : hg_V p R) (w0 : σ 1 0 = nI W) (w1 : σ 1 1 = nI H) (S1 : ∀ c, c < 16 → σ 2 c = nI (if c < W * H then g_l1 p W H R c else g_l p c)) (S2 : ∀ c, c < 16 → σ 3 c = nI (if c < W * H then g_y1 p W H R c else p (5 * c + 1))) : ∃ τ, f_G_loseYards_1 σ = some τ ∧ hg_L1 σ τ p W H R (W * H) := by
  obtain ⟨n1, n2⟩ := hg_D_N hD
  unfold f_G_loseYards_1
  refine z_lp' (fun i (s : Int32 × zS) => s.1 = nI i ∧ i ≤ W * H ∧ hg_L1 σ s.2 p W H R i) (W * H) ?_ ?_ ?_
  · exact ⟨rfl, by omega, ⟨fun c hc => (by dsimp only; rw [S1 c hc, if_neg (show ¬ c < 0 by omega)]), fun c hc => (by dsimp only; rw [S2 c hc, if_neg (show ¬ c < 0 by omega)]), fun q _ _ => rfl⟩⟩
  ·
      intro i s hi hP
      obtain ⟨e1, e2, c1, c2, c7⟩ := hP
      rw [e1]
      have hcl := yy_cells'_1 (σ := s.2) hD (by rw [c7 1 (by omega) (by omega)]; exact w0) (by rw [c7 1 (by omega) (by omega)]; exact w1)
      have y := g_y1_le (W := W) (H := H) hV (show i < 16 by omega)
      simp only [hcl, z_bs, if_neg (nI_ge hi (show W * H < 2 ^ 31 by omega)), if_pos ((z_ibn (show i < 2 ^ 31 by omega)).mpr (show i < 16 by omega)), nI_clamp (show i < 2 ^ 31 by omega), c2 i (by omega), z_join, z_let, if_neg (show ¬ i < i by omega), if_pos hi, nl1, nI_leI (show g_y1 p W H R i < 2 ^ 31 by omega) (show 1 < 2 ^ 31 by omega), yy_setBare_1 (show i < 16 by omega), nI_add]
      by_cases cy : g_y1 p W H R i ≤ 1
      · rw [if_pos cy]
        refine ⟨_, rfl, rfl, by omega, fun c hc => ?_, fun c hc => ?_, fun q q1 q2 => ?_⟩
        · dsimp only
          rw [hg_u_n (by omega)]
          by_cases ci : c = i
          · subst ci
            rw [hg_u_s, if_pos (show c < c + 1 by omega), if_pos (by omega)]
          · rw [hg_u_j ci, c1 c hc]
            by_cases cc : c < i
            · rw [if_pos cc, if_pos (show c < i + 1 by omega)]
            · rw [if_neg cc, if_neg (show ¬ c < i + 1 by omega)]
        · dsimp only
          by_cases ci : c = i
          · subst ci
            rw [hg_u_s, if_pos (show c < c + 1 by omega), show g_y1 p W H R c - 1 = 0 by omega]
          · rw [hg_u_j ci, hg_u_n (by omega), c2 c hc]
            by_cases cc : c < i
            · rw [if_pos cc, if_pos (show c < i + 1 by omega)]
            · rw [if_neg cc, if_neg (show ¬ c < i + 1 by omega)]
        · dsimp only
          rw [hg_u_n q2, hg_u_n q1]
          exact c7 q q1 q2
      · rw [if_neg cy, pk_sub (show 1 ≤ g_y1 p W H R i by omega)]
        refine ⟨_, rfl, rfl, by omega, fun c hc => ?_, fun c hc => ?_, fun q q1 q2 => ?_⟩
        · dsimp only
          rw [hg_u_n (by omega), c1 c hc]
          by_cases ci : c = i
          · subst ci
            rw [if_neg (show ¬ c < c by omega), if_pos hi, if_pos (show c < c + 1 by omega), if_neg (by omega)]
            unfold g_l1
            rw [if_neg (by omega)]
          · by_cases cc : c < i
            · rw [if_pos cc, if_pos (show c < i + 1 by omega)]
            · rw [if_neg cc, if_neg (show ¬ c < i + 1 by omega)]
        · dsimp only
          by_cases ci : c = i
          · subst ci
            rw [hg_u_s, if_pos (show c < c + 1 by omega)]
          · rw [hg_u_j ci, c2 c hc]
            by_cases cc : c < i
            · rw [if_pos cc, if_pos (show c < i + 1 by omega)]
            · rw [if_neg cc, if_neg (show ¬ c < i + 1 by omega)]
        · dsimp only
          rw [hg_u_n q2]
          exact c7 q q1 q2
  ·
      intro s hP
      obtain ⟨e1, e2, hC⟩ := hP
      have hcl := yy_cells'_1 (σ := s.2) hD (by rw [hC.2.2 1 (by omega) (by omega)]; exact w0) (by rw [hC.2.2 1 (by omega) (by omega)]; exact w1)
      rw [e1, hcl, z_bs, if_pos (nI_le (Nat.le_refl _) (by omega))]
      exact ⟨_, rfl, _, rfl, hC⟩
/-- a week -/
theorem yy_week_1 (hD : hg_D W H R) (hV : hg_V p R) (h : hg_G1 σ p W H R) : ∃ τ1 τ2 τ3, f_G_spread_1 σ = some τ1 ∧ f_G_growCrops_1 τ1 = some τ2 ∧ f_G_loseYards_1 τ2 = some τ3 ∧ ∀ τ, τ = z_u τ3 1 10 (τ3 1 10 + (1 : Int32)) → hg_G1 τ (g_wk W H R p) W H R ∧ τ 1 13 = nI (g_bs (g_rj p W H R) (W * H)) ∧ ∀ k, (k < 1 ∨ 16 < k) → τ k = σ k := by
  obtain ⟨n1, n2⟩ := hg_D_N hD
  obtain ⟨d1, d2, d3, d4, d5⟩ := id hD
  obtain ⟨τ1, h1, S1, S2, S3⟩ := yy_spread_1 hD hV h
  obtain ⟨τ2, h2, C1, C2, C3, C4, C5, C6, C7⟩ := yy_growCrops_1 hD hV h ⟨S1, S2, S3⟩
  obtain ⟨G0, G1, G2, G3, G4, G5, G6, G7, G8, G9, G10, G11, G12, G13, G14, G15, G16, G17⟩ := h
  obtain ⟨τ3, h3, L1, L2, L3⟩ := yy_lose_1 (σ := τ2) hD hV (by rw [C6 0 (by omega) (by omega), S3 1 (by omega) (by omega) (by omega) (by omega)]; exact G0) (by rw [C6 1 (by omega) (by omega), S3 1 (by omega) (by omega) (by omega) (by omega)]; exact G1) (fun c hc => by rw [C7 2 (by omega) (by omega) (by omega) (by omega)]; exact S1 c hc) (fun c hc => by rw [C7 3 (by omega) (by omega) (by omega) (by omega)]; exact S2 c hc)
  refine ⟨τ1, τ2, τ3, h1, h2, h3, fun τ hτ => ?_⟩
  subst hτ
  have E : ∀ j, j ≠ 12 → j ≠ 13 → τ3 1 j = σ 1 j := fun j j1 j2 => by rw [L3 1 (by omega) (by omega), C6 j j1 j2, S3 1 (by omega) (by omega) (by omega) (by omega)]
  have F : ∀ k, k ≠ 1 → k ≠ 2 → k ≠ 3 → k ≠ 4 → k ≠ 5 → k ≠ 14 → k ≠ 15 → k ≠ 16 → z_u τ3 1 10 (τ3 1 10 + (1 : Int32)) k = σ k := fun k k0 k1 k2 k3 k4 k5 k6 k7 => by rw [hg_u_n k0, L3 k k1 k2, C7 k k0 k3 k4 k5, S3 k k1 k2 k6 k7]
  refine ⟨⟨?_, ?_, ?_, fun c hc => ?_, fun c hc => ?_, fun c hc => ?_, fun c hc => ?_, fun c hc => ?_, ?_, fun k hk => ?_, fun k hk => ?_, fun k hk => ?_, fun s hs => ?_, fun s hs => ?_, ?_, ?_, fun o ho => ?_, ?_⟩, ?_, fun k hk => ?_⟩
  · rw [hg_u_j (by omega), E 0 (by omega) (by omega), G0]
  · rw [hg_u_j (by omega), E 1 (by omega) (by omega), G1]
  · rw [F 7 (by omega) (by omega) (by omega) (by omega) (by omega) (by omega) (by omega) (by omega), G2]
  · rw [hg_u_n (by omega), L1 c hc]
    unfold g_l
    rw [g_wk_0 hc, g_wk_1 hc]
    by_cases cn : c < W * H
    · rw [if_pos cn, if_pos cn, if_pos cn]
    · rw [if_neg cn, if_neg cn, if_neg cn, if_neg cn]
  · rw [hg_u_n (by omega), L2 c hc, g_wk_1 hc]
    by_cases cn : c < W * H
    · rw [if_pos cn, if_pos cn]
    · rw [if_neg cn, if_neg cn, if_neg cn]
  · rw [hg_u_n (by omega), L3 4 (by omega) (by omega), C1 c hc]
    unfold g_k
    rw [g_wk_2 hc]
    by_cases cn : c < W * H
    · rw [if_pos cn, if_pos cn]
      by_cases c9 : p (5 * c + 2) = 0 ∨ 3 ≤ g_t1 p W H R c
      · rw [if_pos c9, if_pos c9, if_pos rfl]
      · rw [if_neg c9, if_neg c9]
    · rw [if_neg cn, if_neg cn]
  · rw [hg_u_n (by omega), L3 5 (by omega) (by omega), C2 c hc, g_wk_3 hc]
  · rw [F 6 (by omega) (by omega) (by omega) (by omega) (by omega) (by omega) (by omega) (by omega), G7 c hc, g_wk_4 hc]
  · rw [hg_u_j (by omega), E 7 (by omega) (by omega), G8, g_wk_m (by omega) (by omega)]
  · rw [F 8 (by omega) (by omega) (by omega) (by omega) (by omega) (by omega) (by omega) (by omega), G9 k hk, g_wk_m (by omega) (by omega)]
  · rw [F 9 (by omega) (by omega) (by omega) (by omega) (by omega) (by omega) (by omega) (by omega), G10 k hk, g_wk_m (by omega) (by omega)]
  · rw [F 10 (by omega) (by omega) (by omega) (by omega) (by omega) (by omega) (by omega) (by omega), G11 k hk, g_wk_m (by omega) (by omega)]
  · rw [F 12 (by omega) (by omega) (by omega) (by omega) (by omega) (by omega) (by omega) (by omega), G12 s hs, g_wk_m (by omega) (by omega)]
  · rw [F 13 (by omega) (by omega) (by omega) (by omega) (by omega) (by omega) (by omega) (by omega), G13 s hs, g_wk_m (by omega) (by omega)]
  · rw [F 11 (by omega) (by omega) (by omega) (by omega) (by omega) (by omega) (by omega) (by omega), G14, g_wk_m (by omega) (by omega)]
  · rw [hg_u_s, E 10 (by omega) (by omega), G15, nI_1]
    rfl
  · rw [hg_u_n (by omega), L3 14 (by omega) (by omega), C3 o ho, g_wk_r ho]
  · rw [hg_u_j (by omega), L3 1 (by omega) (by omega), C4]
    rfl
  · rw [hg_u_j (by omega), L3 1 (by omega) (by omega), C5]
  · exact F k (by omega) (by omega) (by omega) (by omega) (by omega) (by omega) (by omega) (by omega)
theorem yy_goOn_1 (hD : hg_D W H R) (hV : hg_V p R) (h : hg_G1 σ p W H R) {n : Nat} (hn : n < 2 ^ 31) : ∃ τ, f_G_goOn_1 (nI n) σ = some τ ∧ hg_G1 τ (g_wks W H R n p) W H R ∧ (n = 1 → τ 1 13 = nI (g_bs (g_rj p W H R) (W * H))) ∧ ∀ k, (k < 1 ∨ 16 < k) → τ k = σ k := by
  obtain ⟨d1, d2, d3, d4, d5⟩ := id hD
  unfold f_G_goOn_1
  refine z_lp' (fun i (s : Int32 × zS) => s.1 = nI i ∧ i ≤ n ∧ hg_G1 s.2 (g_wks W H R i p) W H R ∧ (i = 1 → s.2 1 13 = nI (g_bs (g_rj p W H R) (W * H))) ∧ ∀ k, (k < 1 ∨ 16 < k) → s.2 k = σ k) n ?_ ?_ ?_
  · exact ⟨rfl, by omega, h, fun z => absurd z (by omega), fun k _ => rfl⟩
  ·
      intro i s hi hP
      obtain ⟨e1, e2, e3, e5, e4⟩ := hP
      rw [e1, if_neg (nI_ge hi hn)]
      obtain ⟨τ1, τ2, τ3, h1, h2, h3, h4⟩ := yy_week_1 hD (hg_V_wks d5 hV i) e3
      rw [h1, z_bs, h2, z_bs, h3, z_bs]
      simp only [z_let, nI_1]
      obtain ⟨q1, q2, q3⟩ := h4 _ rfl
      refine ⟨(nI (i + 1), _), rfl, rfl, by omega, q1, fun z => ?_, fun k hk => ?_⟩
      · have i0 : i = 0 := by omega
        subst i0
        exact q2
      · show z_u τ3 1 10 (τ3 1 10 + 1) k = σ k
        rw [q3 k hk]
        exact e4 k hk
  ·
      intro s hP
      obtain ⟨e1, e2, e3, e5, e4⟩ := hP
      rw [e1, if_pos (nI_le (Nat.le_refl _) hn)]
      exact ⟨_, rfl, _, rfl, e3, e5, e4⟩
end C1
section C17
variable {σ : zS} {p : Nat → Nat} {W H R : Nat}
theorem yy_set_17 {c : Nat} (hc : c < 16) (a b : Int32) (σ : zS) : f_G_set_17 (nI c) a b σ = some (z_u (z_u σ 18 c a) 19 c b) := by
  unfold f_G_set_17
  rw [y_isIn, z_bs, if_neg (by rw [nI_toInt (by omega), if_pos (show ((0 : Int32).toInt ≤ (c : Int) ∧ (c : Int) ≤ (15 : Int32).toInt) from ⟨by show (0 : Int) ≤ _; omega, by show _ ≤ (15 : Int); omega⟩)]; decide)]
  simp only [if_pos ((z_ibn (show c < 2 ^ 31 by omega)).mpr hc), nI_clamp (show c < 2 ^ 31 by omega), z_let]
theorem yy_setCrop_17 {c : Nat} (hc : c < 16) (a : Int32) (σ : zS) : f_G_setCrop_17 (nI c) a σ = some (z_u (z_u σ 20 c a) 21 c (nI 0)) := by
  unfold f_G_setCrop_17
  rw [y_isIn, z_bs, if_neg (by rw [nI_toInt (by omega), if_pos (show ((0 : Int32).toInt ≤ (c : Int) ∧ (c : Int) ≤ (15 : Int32).toInt) from ⟨by show (0 : Int) ≤ _; omega, by show _ ≤ (15 : Int); omega⟩)]; decide)]
  simp only [if_pos ((z_ibn (show c < 2 ^ 31 by omega)).mpr hc), nI_clamp (show c < 2 ^ 31 by omega), z_let, nl0]
theorem yy_growCrop_17 {c k t l o : Nat} (hc : c < 16) (hk : k < 5) (ht : t < 3) (hl : l < 5) (ho : o < 3) (e3 : σ 20 c = nI k) (e4 : σ 21 c = nI t) (e1 : σ 18 c = nI l) (e5 : σ 22 c = nI o) : ∃ τ, f_G_growCrop_17 (nI c) σ = some τ ∧ (∀ j, j ≠ c → τ 20 j = σ 20 j) ∧ (∀ j, j ≠ c → τ 21 j = σ 21 j) ∧ τ 20 c = (if 3 ≤ g_sb k t l then - nI 4 else nI k) ∧ τ 21 c = nI (if 3 ≤ g_sb k t l then 0 else g_sb k t l) ∧ (∀ q, τ 30 q = if g_sb k t l = 3 ∧ o = q then σ 30 q + nI 1 else σ 30 q) ∧ τ 17 12 = (if g_sb k t l = 4 then σ 17 12 + nI 1 else σ 17 12) ∧ τ 17 13 = (if g_sb k t l = 3 then σ 17 13 ||| nI (2 ^ c) else σ 17 13) ∧ (∀ j, j ≠ 12 → j ≠ 13 → τ 17 j = σ 17 j) ∧ ∀ q, q ≠ 17 → q ≠ 20 → q ≠ 21 → q ≠ 30 → τ q = σ q := by
  have hsb := g_sb_le (k := k) (s := l) ht
  unfold f_G_growCrop_17
  simp only [if_pos ((z_ibn (show c < 2 ^ 31 by omega)).mpr hc), nI_clamp (show c < 2 ^ 31 by omega), e3, e4, e1, e5, y_behind hk ht hl, z_bs, nl3, nl4, nI_eq (show g_sb k t l < 2 ^ 31 by omega) (show 3 < 2 ^ 31 by omega), nI_eq (show g_sb k t l < 2 ^ 31 by omega) (show 4 < 2 ^ 31 by omega)]
  by_cases c3 : g_sb k t l = 3
  · rw [if_pos c3, y_isIn, z_bs]
    simp only [z_join, z_let]
    rw [if_neg (by rw [nI_toInt (by omega), if_pos (show ((0 : Int32).toInt ≤ (o : Int) ∧ (o : Int) ≤ (2 : Int32).toInt) from ⟨by show (0 : Int) ≤ _; omega, by show _ ≤ (2 : Int); omega⟩)]; decide)]
    simp only [if_pos ((z_ibn (show o < 2 ^ 31 by omega)).mpr ho), nI_clamp (show o < 2 ^ 31 by omega), nl31, nl1, z_shl (show c < 32 by omega), yy_setCrop_17 hc, z_bs]
    refine ⟨_, rfl, fun j hj => ?_, fun j hj => ?_, ?_, ?_, fun q => ?_, ?_, ?_, fun j j1 j2 => ?_, fun q q1 q2 q3 q4 => ?_⟩
    · rw [hg_u_n (by omega), hg_u_j hj, hg_u_n (by omega), hg_u_n (by omega)]
    · rw [hg_u_j hj, hg_u_n (by omega), hg_u_n (by omega), hg_u_n (by omega)]
    · rw [hg_u_n (by omega), hg_u_s, if_pos (by omega)]
    · rw [hg_u_s, if_pos (by omega)]
    · rw [hg_u_n (by omega), hg_u_n (by omega), hg_u_n (by omega)]
      by_cases qo : q = o
      · subst qo
        rw [hg_u_s, if_pos ⟨c3, rfl⟩]
      · rw [hg_u_j qo, if_neg (fun z => qo z.2.symm)]
    · rw [hg_u_n (by omega), hg_u_n (by omega), hg_u_j (by omega), hg_u_n (by omega), if_neg (by omega)]
    · rw [hg_u_n (by omega), hg_u_n (by omega), hg_u_s, hg_u_n (by omega), if_pos c3]
    · rw [hg_u_n (by omega), hg_u_n (by omega), hg_u_j j2, hg_u_n (by omega)]
    · rw [hg_u_n q3, hg_u_n q2, hg_u_n q1, hg_u_n q4]
  · rw [if_neg c3]
    by_cases c4 : g_sb k t l = 4
    · rw [if_pos c4]
      simp only [z_let, yy_setCrop_17 hc, z_bs, nl1]
      refine ⟨_, rfl, fun j hj => ?_, fun j hj => ?_, ?_, ?_, fun q => ?_, ?_, ?_, fun j j1 j2 => ?_, fun q q1 q2 q3 q4 => ?_⟩
      · rw [hg_u_n (by omega), hg_u_j hj, hg_u_n (by omega)]
      · rw [hg_u_j hj, hg_u_n (by omega), hg_u_n (by omega)]
      · rw [hg_u_n (by omega), hg_u_s, if_pos (by omega)]
      · rw [hg_u_s, if_pos (by omega)]
      · rw [hg_u_n (by omega), hg_u_n (by omega), hg_u_n (by omega), if_neg (fun z => c3 z.1)]
      · rw [hg_u_n (by omega), hg_u_n (by omega), hg_u_s, if_pos c4]
      · rw [hg_u_n (by omega), hg_u_n (by omega), hg_u_j (by omega), if_neg c3]
      · rw [hg_u_n (by omega), hg_u_n (by omega), hg_u_j j1]
      · rw [hg_u_n q3, hg_u_n q2, hg_u_n q1]
    · rw [if_neg c4]
      simp only [z_let]
      refine ⟨_, rfl, fun j hj => ?_, fun j hj => ?_, ?_, ?_, fun q => ?_, ?_, ?_, fun j j1 j2 => ?_, fun q q1 q2 q3 q4 => ?_⟩
      · rw [hg_u_n (by omega)]
      · rw [hg_u_j hj]
      · rw [hg_u_n (by omega), if_neg (by omega), e3]
      · rw [hg_u_s, if_neg (by omega)]
      · rw [hg_u_n (by omega), if_neg (fun z => c3 z.1)]
      · rw [hg_u_n (by omega), if_neg c4]
      · rw [hg_u_n (by omega), if_neg c3]
      · rw [hg_u_n (by omega)]
      · rw [hg_u_n q3]
/-- behind the growing of n cells -/
def hg_C17 (σ τ : zS) (p : Nat → Nat) (W H R n : Nat) : Prop := (∀ c, c < 16 → τ 20 c = if c < n then (if p (5 * c + 2) = 0 ∨ 3 ≤ g_t1 p W H R c then - nI 4 else g_k p c) else g_k p c) ∧ (∀ c, c < 16 → τ 21 c = nI (if c < n then (if p (5 * c + 2) = 0 then p (5 * c + 3) else if 3 ≤ g_t1 p W H R c then 0 else g_t1 p W H R c) else p (5 * c + 3))) ∧ (∀ o, o < 3 → τ 30 o = nI (p (106 + o) + g_ct (g_rp p W H R o) n)) ∧ τ 17 12 = nI (p 109 + g_ct (g_rs p W H R) n) ∧ τ 17 13 = nI (g_bs (g_rj p W H R) n) ∧ (∀ j, j ≠ 12 → j ≠ 13 → τ 17 j = σ 17 j) ∧ ∀ q, q ≠ 17 → q ≠ 20 → q ≠ 21 → q ≠ 30 → τ q = σ q
theorem yy_cells'_17 (hD : hg_D W H R) (w0 : σ 17 0 = nI W) (w1 : σ 17 1 = nI H) : f_G_cells_17 σ = some (nI (W * H)) := by
  obtain ⟨n1, n2⟩ := hg_D_N hD
  unfold f_G_cells_17
  rw [w0, w1, pk_mul, nl16]
  simp only [nI_leI (show 16 < 2 ^ 31 by omega) (show W * H < 2 ^ 31 by omega)]
  by_cases c : 16 ≤ W * H
  · rw [if_pos c, show W * H = 16 by omega]
  · rw [if_neg c]
theorem yy_growCrops_17 {σ0 : zS} (hD : hg_D W H R) (hV : hg_V p R) (h : hg_G17 σ0 p W H R) (hS : hg_S17 σ0 σ p W H R (W * H)) : ∃ τ, f_G_growCrops_17 σ = some τ ∧ hg_C17 σ τ p W H R (W * H) := by
  obtain ⟨n1, n2⟩ := hg_D_N hD
  obtain ⟨S1, S2, S3⟩ := hS
  have w0 : σ 17 0 = nI W := by rw [S3 17 (by omega) (by omega) (by omega) (by omega)]; exact h.1
  have w1 : σ 17 1 = nI H := by rw [S3 17 (by omega) (by omega) (by omega) (by omega)]; exact h.2.1
  unfold f_G_growCrops_17
  simp only [z_let]
  refine z_lp' (fun i (s : Int32 × zS) => s.1 = nI i ∧ i ≤ W * H ∧ hg_C17 σ s.2 p W H R i) (W * H) ?_ ?_ ?_
  · exact ⟨rfl, by omega, ⟨fun c hc => (by dsimp only; rw [hg_u_n (by omega), S3 20 (by omega) (by omega) (by omega) (by omega), h.2.2.2.2.2.1 c hc, if_neg (by omega)]), fun c hc => (by dsimp only; rw [hg_u_n (by omega), S3 21 (by omega) (by omega) (by omega) (by omega), h.2.2.2.2.2.2.1 c hc, if_neg (by omega)]), fun o ho => (by dsimp only; rw [hg_u_n (by omega), S3 30 (by omega) (by omega) (by omega) (by omega), h.2.2.2.2.2.2.2.2.2.2.2.2.2.2.2.2.1 o ho]; rfl), (by dsimp only; rw [hg_u_j (by omega), S3 17 (by omega) (by omega) (by omega) (by omega), h.2.2.2.2.2.2.2.2.2.2.2.2.2.2.2.2.2]; rfl), (by dsimp only; rw [hg_u_s]; rfl), fun j j1 j2 => (by dsimp only; rw [hg_u_j j2]), fun q q1 _ _ _ => (by dsimp only; rw [hg_u_n q1])⟩⟩
  ·
      intro i s hi hP
      obtain ⟨e1, e2, c1, c2, c3, c4, c5, c6, c7⟩ := hP
      rw [e1]
      obtain ⟨v1, v2, v3, v4, v5⟩ := hV.1 i (by omega)
      have hcl := yy_cells'_17 (σ := s.2) hD (by rw [c6 0 (by omega) (by omega)]; exact w0) (by rw [c6 1 (by omega) (by omega)]; exact w1)
      rw [hcl, z_bs, if_neg (nI_ge hi (by omega)), if_pos ((z_ibn (show i < 2 ^ 31 by omega)).mpr (by omega)), nI_clamp (by omega), c1 i (by omega), if_neg (by omega)]
      simp only [z_join]
      by_cases hk : p (5 * i + 2) = 0
      · rw [if_pos (by unfold g_k; rw [if_pos hk]; rfl), nI_1]
        have r1 : ∀ o, g_rp p W H R o i = false := fun o => by simp [g_rp, hk]
        have r2 : g_rs p W H R i = false := by simp [g_rs, hk]
        have r3 : g_rj p W H R i = false := by simp [g_rj, hk]
        refine ⟨(nI (i + 1), s.2), rfl, rfl, by omega, fun c hc => ?_, fun c hc => ?_, fun o ho => ?_, ?_, ?_, c6, c7⟩
        · dsimp only
          rw [c1 c hc]
          by_cases ci : c = i
          · subst ci
            rw [if_neg (show ¬ c < c by omega), if_pos (by omega), if_pos (Or.inl hk)]
            unfold g_k
            rw [if_pos hk]
          · by_cases cc : c < i
            · rw [if_pos cc, if_pos (show c < i + 1 by omega)]
            · rw [if_neg cc, if_neg (show ¬ c < i + 1 by omega)]
        · dsimp only
          rw [c2 c hc]
          by_cases ci : c = i
          · subst ci
            rw [if_neg (show ¬ c < c by omega), if_pos (show c < c + 1 by omega), if_pos hk]
          · by_cases cc : c < i
            · rw [if_pos cc, if_pos (show c < i + 1 by omega)]
            · rw [if_neg cc, if_neg (show ¬ c < i + 1 by omega)]
        · dsimp only
          rw [c3 o ho, g_ct, r1 o]
          rfl
        · dsimp only
          rw [c4, g_ct, r2]
          rfl
        · dsimp only
          rw [c5, g_bs, r3]
          rfl
      · have ek : g_k p i = nI (p (5 * i + 2) - 1) := by unfold g_k; rw [if_neg hk]
        have el := g_l1_le (W := W) (H := H) hV (show i < 16 by omega)
        obtain ⟨τ, hτ, t1, t2, t3, t4, t5, t6, t7, t8, t9⟩ := yy_growCrop_17 (σ := s.2) (c := i) (k := p (5 * i + 2) - 1) (t := p (5 * i + 3)) (l := g_l1 p W H R i) (o := p (5 * i + 4)) (by omega) (by omega) (by omega) (by omega) (by omega) (by rw [c1 i (by omega), if_neg (by omega), ek]) (by rw [c2 i (by omega), if_neg (by omega)]) (by rw [c7 18 (by omega) (by omega) (by omega) (by omega), S1 i (by omega), if_pos hi]) (by rw [c7 22 (by omega) (by omega) (by omega) (by omega), S3 22 (by omega) (by omega) (by omega) (by omega), h.2.2.2.2.2.2.2.1 i (by omega)])
        have et : g_sb (p (5 * i + 2) - 1) (p (5 * i + 3)) (g_l1 p W H R i) = g_t1 p W H R i := rfl
        rw [et] at t3 t4 t5 t6 t7
        rw [if_neg (by rw [ek]; exact z_neg (b := 4) (by omega) (by omega) _ (by omega)), hτ, z_bs, nI_1]
        refine ⟨(nI (i + 1), τ), rfl, rfl, by omega, fun c hc => ?_, fun c hc => ?_, fun o ho => ?_, ?_, ?_, fun j j1 j2 => ?_, fun q q1 q2 q3 q4 => ?_⟩
        · dsimp only
          by_cases ci : c = i
          · subst ci
            rw [t3, if_pos (show c < c + 1 by omega)]
            by_cases c9 : 3 ≤ g_t1 p W H R c
            · rw [if_pos c9, if_pos (Or.inr c9)]
            · rw [if_neg c9, if_neg (fun z => z.elim hk c9), ek]
          · rw [t1 c ci, c1 c hc]
            by_cases cc : c < i
            · rw [if_pos cc, if_pos (show c < i + 1 by omega)]
            · rw [if_neg cc, if_neg (show ¬ c < i + 1 by omega)]
        · dsimp only
          by_cases ci : c = i
          · subst ci
            rw [t4, if_pos (show c < c + 1 by omega), if_neg hk]
          · rw [t2 c ci, c2 c hc]
            by_cases cc : c < i
            · rw [if_pos cc, if_pos (show c < i + 1 by omega)]
            · rw [if_neg cc, if_neg (show ¬ c < i + 1 by omega)]
        · dsimp only
          rw [t5 o, c3 o ho, g_ct]
          by_cases c9 : g_t1 p W H R i = 3 ∧ p (5 * i + 4) = o
          · rw [if_pos c9, if_pos (by simp [g_rp, hk, c9.1, c9.2]), nI_add]
            rfl
          · rw [if_neg c9, if_neg (by simp only [g_rp, hk, not_false_eq_true, decide_true, Bool.true_and, Bool.and_eq_true, decide_eq_true_eq]; exact c9)]
            rfl
        · dsimp only
          rw [t6, c4, g_ct]
          by_cases c9 : g_t1 p W H R i = 4
          · rw [if_pos c9, if_pos (by simp [g_rs, hk, c9]), nI_add]
            rfl
          · rw [if_neg c9, if_neg (by simp [g_rs, c9])]
            rfl
        · dsimp only
          rw [t7, c5, g_bs]
          by_cases c9 : g_t1 p W H R i = 3
          · rw [if_pos c9, if_pos (by simp [g_rj, hk, c9]), z_or]
          · rw [if_neg c9, if_neg (by simp [g_rj, c9])]
        · dsimp only
          rw [t8 j j1 j2]
          exact c6 j j1 j2
        · dsimp only
          rw [t9 q q1 q2 q3 q4]
          exact c7 q q1 q2 q3 q4
  ·
      intro s hP
      obtain ⟨e1, e2, hC⟩ := hP
      have hcl := yy_cells'_17 (σ := s.2) hD (by rw [hC.2.2.2.2.2.1 0 (by omega) (by omega)]; exact w0) (by rw [hC.2.2.2.2.2.1 1 (by omega) (by omega)]; exact w1)
      rw [e1, hcl, z_bs, if_pos (nI_le (Nat.le_refl _) (by omega))]
      exact ⟨_, rfl, _, rfl, hC⟩
theorem yy_setBare_17 {c : Nat} (hc : c < 16) (σ : zS) : f_G_setBare_17 (nI c) σ = some (z_u (z_u σ 18 c (nI 4)) 19 c (nI 0)) := by
  unfold f_G_setBare_17
  rw [yy_set_17 hc]
  rfl
/-- behind the losing of n cells -/
def hg_L17 (σ τ : zS) (p : Nat → Nat) (W H R n : Nat) : Prop := (∀ c, c < 16 → τ 18 c = nI (if c < n then (if g_y1 p W H R c - 1 = 0 then 4 else g_s1 p W H R c) else if c < W * H then g_l1 p W H R c else g_l p c)) ∧ (∀ c, c < 16 → τ 19 c = nI (if c < n then g_y1 p W H R c - 1 else if c < W * H then g_y1 p W H R c else p (5 * c + 1))) ∧ ∀ q, q ≠ 18 → q ≠ 19 → τ q = σ q
theorem yy_lose_17 (hD : hg_D W H R) (hV : hg_V p R) (w0 : σ 17 0 = nI W) (w1 : σ 17 1 = nI H) (S1 : ∀ c, c < 16 → σ 18 c = nI (if c < W * H then g_l1 p W H R c else g_l p c)) (S2 : ∀ c, c < 16 → σ 19 c = nI (if c < W * H then g_y1 p W H R c else p (5 * c + 1))) : ∃ τ, f_G_loseYards_17 σ = some τ ∧ hg_L17 σ τ p W H R (W * H) := by
  obtain ⟨n1, n2⟩ := hg_D_N hD
  unfold f_G_loseYards_17
  refine z_lp' (fun i (s : Int32 × zS) => s.1 = nI i ∧ i ≤ W * H ∧ hg_L17 σ s.2 p W H R i) (W * H) ?_ ?_ ?_
  · exact ⟨rfl, by omega, ⟨fun c hc => (by dsimp only; rw [S1 c hc, if_neg (show ¬ c < 0 by omega)]), fun c hc => (by dsimp only; rw [S2 c hc, if_neg (show ¬ c < 0 by omega)]), fun q _ _ => rfl⟩⟩
  ·
      intro i s hi hP
      obtain ⟨e1, e2, c1, c2, c7⟩ := hP
      rw [e1]
      have hcl := yy_cells'_17 (σ := s.2) hD (by rw [c7 17 (by omega) (by omega)]; exact w0) (by rw [c7 17 (by omega) (by omega)]; exact w1)
      have y := g_y1_le (W := W) (H := H) hV (show i < 16 by omega)
      simp only [hcl, z_bs, if_neg (nI_ge hi (show W * H < 2 ^ 31 by omega)), if_pos ((z_ibn (show i < 2 ^ 31 by omega)).mpr (show i < 16 by omega)), nI_clamp (show i < 2 ^ 31 by omega), c2 i (by omega), z_join, z_let, if_neg (show ¬ i < i by omega), if_pos hi, nl1, nI_leI (show g_y1 p W H R i < 2 ^ 31 by omega) (show 1 < 2 ^ 31 by omega), yy_setBare_17 (show i < 16 by omega), nI_add]
      by_cases cy : g_y1 p W H R i ≤ 1
      · rw [if_pos cy]
        refine ⟨_, rfl, rfl, by omega, fun c hc => ?_, fun c hc => ?_, fun q q1 q2 => ?_⟩
        · dsimp only
          rw [hg_u_n (by omega)]
          by_cases ci : c = i
          · subst ci
            rw [hg_u_s, if_pos (show c < c + 1 by omega), if_pos (by omega)]
          · rw [hg_u_j ci, c1 c hc]
            by_cases cc : c < i
            · rw [if_pos cc, if_pos (show c < i + 1 by omega)]
            · rw [if_neg cc, if_neg (show ¬ c < i + 1 by omega)]
        · dsimp only
          by_cases ci : c = i
          · subst ci
            rw [hg_u_s, if_pos (show c < c + 1 by omega), show g_y1 p W H R c - 1 = 0 by omega]
          · rw [hg_u_j ci, hg_u_n (by omega), c2 c hc]
            by_cases cc : c < i
            · rw [if_pos cc, if_pos (show c < i + 1 by omega)]
            · rw [if_neg cc, if_neg (show ¬ c < i + 1 by omega)]
        · dsimp only
          rw [hg_u_n q2, hg_u_n q1]
          exact c7 q q1 q2
      · rw [if_neg cy, pk_sub (show 1 ≤ g_y1 p W H R i by omega)]
        refine ⟨_, rfl, rfl, by omega, fun c hc => ?_, fun c hc => ?_, fun q q1 q2 => ?_⟩
        · dsimp only
          rw [hg_u_n (by omega), c1 c hc]
          by_cases ci : c = i
          · subst ci
            rw [if_neg (show ¬ c < c by omega), if_pos hi, if_pos (show c < c + 1 by omega), if_neg (by omega)]
            unfold g_l1
            rw [if_neg (by omega)]
          · by_cases cc : c < i
            · rw [if_pos cc, if_pos (show c < i + 1 by omega)]
            · rw [if_neg cc, if_neg (show ¬ c < i + 1 by omega)]
        · dsimp only
          by_cases ci : c = i
          · subst ci
            rw [hg_u_s, if_pos (show c < c + 1 by omega)]
          · rw [hg_u_j ci, c2 c hc]
            by_cases cc : c < i
            · rw [if_pos cc, if_pos (show c < i + 1 by omega)]
            · rw [if_neg cc, if_neg (show ¬ c < i + 1 by omega)]
        · dsimp only
          rw [hg_u_n q2]
          exact c7 q q1 q2
  ·
      intro s hP
      obtain ⟨e1, e2, hC⟩ := hP
      have hcl := yy_cells'_17 (σ := s.2) hD (by rw [hC.2.2 17 (by omega) (by omega)]; exact w0) (by rw [hC.2.2 17 (by omega) (by omega)]; exact w1)
      rw [e1, hcl, z_bs, if_pos (nI_le (Nat.le_refl _) (by omega))]
      exact ⟨_, rfl, _, rfl, hC⟩
/-- a week -/
theorem yy_week_17 (hD : hg_D W H R) (hV : hg_V p R) (h : hg_G17 σ p W H R) : ∃ τ1 τ2 τ3, f_G_spread_17 σ = some τ1 ∧ f_G_growCrops_17 τ1 = some τ2 ∧ f_G_loseYards_17 τ2 = some τ3 ∧ ∀ τ, τ = z_u τ3 17 10 (τ3 17 10 + (1 : Int32)) → hg_G17 τ (g_wk W H R p) W H R ∧ τ 17 13 = nI (g_bs (g_rj p W H R) (W * H)) ∧ ∀ k, (k < 17 ∨ 32 < k) → τ k = σ k := by
  obtain ⟨n1, n2⟩ := hg_D_N hD
  obtain ⟨d1, d2, d3, d4, d5⟩ := id hD
  obtain ⟨τ1, h1, S1, S2, S3⟩ := yy_spread_17 hD hV h
  obtain ⟨τ2, h2, C1, C2, C3, C4, C5, C6, C7⟩ := yy_growCrops_17 hD hV h ⟨S1, S2, S3⟩
  obtain ⟨G0, G1, G2, G3, G4, G5, G6, G7, G8, G9, G10, G11, G12, G13, G14, G15, G16, G17⟩ := h
  obtain ⟨τ3, h3, L1, L2, L3⟩ := yy_lose_17 (σ := τ2) hD hV (by rw [C6 0 (by omega) (by omega), S3 17 (by omega) (by omega) (by omega) (by omega)]; exact G0) (by rw [C6 1 (by omega) (by omega), S3 17 (by omega) (by omega) (by omega) (by omega)]; exact G1) (fun c hc => by rw [C7 18 (by omega) (by omega) (by omega) (by omega)]; exact S1 c hc) (fun c hc => by rw [C7 19 (by omega) (by omega) (by omega) (by omega)]; exact S2 c hc)
  refine ⟨τ1, τ2, τ3, h1, h2, h3, fun τ hτ => ?_⟩
  subst hτ
  have E : ∀ j, j ≠ 12 → j ≠ 13 → τ3 17 j = σ 17 j := fun j j1 j2 => by rw [L3 17 (by omega) (by omega), C6 j j1 j2, S3 17 (by omega) (by omega) (by omega) (by omega)]
  have F : ∀ k, k ≠ 17 → k ≠ 18 → k ≠ 19 → k ≠ 20 → k ≠ 21 → k ≠ 30 → k ≠ 31 → k ≠ 32 → z_u τ3 17 10 (τ3 17 10 + (1 : Int32)) k = σ k := fun k k0 k1 k2 k3 k4 k5 k6 k7 => by rw [hg_u_n k0, L3 k k1 k2, C7 k k0 k3 k4 k5, S3 k k1 k2 k6 k7]
  refine ⟨⟨?_, ?_, ?_, fun c hc => ?_, fun c hc => ?_, fun c hc => ?_, fun c hc => ?_, fun c hc => ?_, ?_, fun k hk => ?_, fun k hk => ?_, fun k hk => ?_, fun s hs => ?_, fun s hs => ?_, ?_, ?_, fun o ho => ?_, ?_⟩, ?_, fun k hk => ?_⟩
  · rw [hg_u_j (by omega), E 0 (by omega) (by omega), G0]
  · rw [hg_u_j (by omega), E 1 (by omega) (by omega), G1]
  · rw [F 23 (by omega) (by omega) (by omega) (by omega) (by omega) (by omega) (by omega) (by omega), G2]
  · rw [hg_u_n (by omega), L1 c hc]
    unfold g_l
    rw [g_wk_0 hc, g_wk_1 hc]
    by_cases cn : c < W * H
    · rw [if_pos cn, if_pos cn, if_pos cn]
    · rw [if_neg cn, if_neg cn, if_neg cn, if_neg cn]
  · rw [hg_u_n (by omega), L2 c hc, g_wk_1 hc]
    by_cases cn : c < W * H
    · rw [if_pos cn, if_pos cn]
    · rw [if_neg cn, if_neg cn, if_neg cn]
  · rw [hg_u_n (by omega), L3 20 (by omega) (by omega), C1 c hc]
    unfold g_k
    rw [g_wk_2 hc]
    by_cases cn : c < W * H
    · rw [if_pos cn, if_pos cn]
      by_cases c9 : p (5 * c + 2) = 0 ∨ 3 ≤ g_t1 p W H R c
      · rw [if_pos c9, if_pos c9, if_pos rfl]
      · rw [if_neg c9, if_neg c9]
    · rw [if_neg cn, if_neg cn]
  · rw [hg_u_n (by omega), L3 21 (by omega) (by omega), C2 c hc, g_wk_3 hc]
  · rw [F 22 (by omega) (by omega) (by omega) (by omega) (by omega) (by omega) (by omega) (by omega), G7 c hc, g_wk_4 hc]
  · rw [hg_u_j (by omega), E 7 (by omega) (by omega), G8, g_wk_m (by omega) (by omega)]
  · rw [F 24 (by omega) (by omega) (by omega) (by omega) (by omega) (by omega) (by omega) (by omega), G9 k hk, g_wk_m (by omega) (by omega)]
  · rw [F 25 (by omega) (by omega) (by omega) (by omega) (by omega) (by omega) (by omega) (by omega), G10 k hk, g_wk_m (by omega) (by omega)]
  · rw [F 26 (by omega) (by omega) (by omega) (by omega) (by omega) (by omega) (by omega) (by omega), G11 k hk, g_wk_m (by omega) (by omega)]
  · rw [F 28 (by omega) (by omega) (by omega) (by omega) (by omega) (by omega) (by omega) (by omega), G12 s hs, g_wk_m (by omega) (by omega)]
  · rw [F 29 (by omega) (by omega) (by omega) (by omega) (by omega) (by omega) (by omega) (by omega), G13 s hs, g_wk_m (by omega) (by omega)]
  · rw [F 27 (by omega) (by omega) (by omega) (by omega) (by omega) (by omega) (by omega) (by omega), G14, g_wk_m (by omega) (by omega)]
  · rw [hg_u_s, E 10 (by omega) (by omega), G15, nI_1]
    rfl
  · rw [hg_u_n (by omega), L3 30 (by omega) (by omega), C3 o ho, g_wk_r ho]
  · rw [hg_u_j (by omega), L3 17 (by omega) (by omega), C4]
    rfl
  · rw [hg_u_j (by omega), L3 17 (by omega) (by omega), C5]
  · exact F k (by omega) (by omega) (by omega) (by omega) (by omega) (by omega) (by omega) (by omega)
theorem yy_goOn_17 (hD : hg_D W H R) (hV : hg_V p R) (h : hg_G17 σ p W H R) {n : Nat} (hn : n < 2 ^ 31) : ∃ τ, f_G_goOn_17 (nI n) σ = some τ ∧ hg_G17 τ (g_wks W H R n p) W H R ∧ (n = 1 → τ 17 13 = nI (g_bs (g_rj p W H R) (W * H))) ∧ ∀ k, (k < 17 ∨ 32 < k) → τ k = σ k := by
  obtain ⟨d1, d2, d3, d4, d5⟩ := id hD
  unfold f_G_goOn_17
  refine z_lp' (fun i (s : Int32 × zS) => s.1 = nI i ∧ i ≤ n ∧ hg_G17 s.2 (g_wks W H R i p) W H R ∧ (i = 1 → s.2 17 13 = nI (g_bs (g_rj p W H R) (W * H))) ∧ ∀ k, (k < 17 ∨ 32 < k) → s.2 k = σ k) n ?_ ?_ ?_
  · exact ⟨rfl, by omega, h, fun z => absurd z (by omega), fun k _ => rfl⟩
  ·
      intro i s hi hP
      obtain ⟨e1, e2, e3, e5, e4⟩ := hP
      rw [e1, if_neg (nI_ge hi hn)]
      obtain ⟨τ1, τ2, τ3, h1, h2, h3, h4⟩ := yy_week_17 hD (hg_V_wks d5 hV i) e3
      rw [h1, z_bs, h2, z_bs, h3, z_bs]
      simp only [z_let, nI_1]
      obtain ⟨q1, q2, q3⟩ := h4 _ rfl
      refine ⟨(nI (i + 1), _), rfl, rfl, by omega, q1, fun z => ?_, fun k hk => ?_⟩
      · have i0 : i = 0 := by omega
        subst i0
        exact q2
      · show z_u τ3 17 10 (τ3 17 10 + 1) k = σ k
        rw [q3 k hk]
        exact e4 k hk
  ·
      intro s hP
      obtain ⟨e1, e2, e3, e5, e4⟩ := hP
      rw [e1, if_pos (nI_le (Nat.le_refl _) hn)]
      exact ⟨_, rfl, _, rfl, e3, e5, e4⟩
end C17
