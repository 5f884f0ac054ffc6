/-! gardens: a garden is a page of numbers, as the reference keeps it -/
/-- what lies in a cell -/
def g_l (p : Nat → Nat) (c : Nat) : Nat := if p (5 * c + 1) = 0 then 4 else p (5 * c)
/-- the crop as the class tells it -/
def g_k (p : Nat → Nat) (c : Nat) : Int32 := if p (5 * c + 2) = 0 then - nI 4 else nI (p (5 * c + 2) - 1)
def hg_D (W H R : Nat) : Prop := 2 ≤ W ∧ W ≤ 4 ∧ 2 ≤ H ∧ H ≤ 4 ∧ R ≤ 5
def hg_V (p : Nat → Nat) (R : Nat) : Prop := (∀ c, c < 16 → p (5 * c) ≤ 3 ∧ p (5 * c + 1) ≤ 9 ∧ p (5 * c + 2) ≤ 5 ∧ p (5 * c + 3) ≤ 2 ∧ p (5 * c + 4) ≤ 2) ∧ p 80 < 2 ^ 32 ∧ (∀ k, k < R → p (81 + 3 * k) ≤ 3 ∧ p (82 + 3 * k) ≤ 4 ∧ 1 ≤ p (83 + 3 * k) ∧ p (83 + 3 * k) ≤ 4) ∧ (∀ s, s < 4 → p (96 + 2 * s) ≤ 99 ∧ p (97 + 2 * s) ≤ 8) ∧ p 104 ≤ 999
theorem hg_D_N {W H R : Nat} (h : hg_D W H R) : 4 ≤ W * H ∧ W * H ≤ 16 := by
  obtain ⟨h1, h2, h3, h4, -⟩ := h
  exact ⟨Nat.mul_le_mul h1 h3, Nat.mul_le_mul h2 h4⟩
theorem hg_V_l {p : Nat → Nat} {R c : Nat} (h : hg_V p R) (hc : c < 16) : g_l p c ≤ 4 := by
  have := (h.1 c hc).1
  unfold g_l
  split <;> omega
/-- the edges' neighbours, from a cell -/
def g_e (p : Nat → Nat) (W c : Nat) : Bool := decide (c % W + 1 < W) && !(p 80).testBit (2 * c)
def g_w (p : Nat → Nat) (W c : Nat) : Bool := decide (0 < c) && decide ((c - 1) % W + 1 < W) && !(p 80).testBit (2 * c - 2)
def g_s (p : Nat → Nat) (W H c : Nat) : Bool := decide (c + W < W * H) && !(p 80).testBit (2 * c + 1)
def g_n (p : Nat → Nat) (W c : Nat) : Bool := decide (W ≤ c) && !(p 80).testBit (2 * (c - W) + 1)
theorem y_isIn (a b c : Int32) (σ : zS) : f_Y_isIn a b c σ = some (nI (if b.toInt ≤ a.toInt ∧ a.toInt ≤ c.toInt then 1 else 0)) := by
  unfold f_Y_isIn
  simp only [Int32.lt_iff_toInt_lt]
  by_cases h1 : a.toInt < b.toInt
  · rw [if_pos h1, if_neg (by omega)]; rfl
  · rw [if_neg h1]
    by_cases h2 : c.toInt < a.toInt
    · rw [if_pos h2, if_neg (by omega)]; rfl
    · rw [if_neg h2, if_pos (by omega)]; rfl
theorem hg_b01 (P : Prop) [Decidable P] : (nI (if P then 1 else 0) = nI 0 ∨ nI (if P then 1 else 0) = nI 1) := by
  split
  · exact Or.inr rfl
  · exact Or.inl rfl
theorem y_isSeason (a : Int32) (σ : zS) : f_Y_isSeason a σ = some (nI (if 0 ≤ a.toInt ∧ a.toInt ≤ 3 then 1 else 0)) := by
  unfold f_Y_isSeason
  rw [y_isIn, z_bs]
  exact if_pos (hg_b01 _)
theorem y_isKind (a : Int32) (σ : zS) : f_Cr_isKind a σ = some (nI (if 0 ≤ a.toInt ∧ a.toInt ≤ 4 then 1 else 0)) := by
  unfold f_Cr_isKind
  rw [y_isIn, z_bs]
  exact if_pos (hg_b01 _)
/-- the crop behind a week -/
def g_wt (i : Nat) : Nat := [1, 2, 3, 3, 0, 1, 0, 0, 0, 2, 2, 9, 1, 2, 9].getD i 9
def g_sb (k t s : Nat) : Nat := if s = g_wt (3 * k + t) then (if t < 2 ∧ ¬ g_wt (3 * k + t + 1) = 9 then t + 1 else 3) else if t = 0 ∨ s = g_wt (3 * k + t - 1) then t else 4
theorem hg_d5 {P : Nat → Prop} {k : Nat} (hk : k < 5) (h0 : P 0) (h1 : P 1) (h2 : P 2) (h3 : P 3) (h4 : P 4) : P k := by
  rcases k with _ | _ | _ | _ | _ | k
  · exact h0
  · exact h1
  · exact h2
  · exact h3
  · exact h4
  · omega
theorem hg_d3 {P : Nat → Prop} {k : Nat} (hk : k < 3) (h0 : P 0) (h1 : P 1) (h2 : P 2) : P k := by
  rcases k with _ | _ | _ | k
  · exact h0
  · exact h1
  · exact h2
  · omega
theorem y_behind {k t s : Nat} (hk : k < 5) (ht : t < 3) (hs : s < 5) (σ : zS) : f_Cr_behind (nI k) (nI t) (nI s) σ = some (nI (g_sb k t s)) := by
  revert hs
  refine hg_d5 (P := fun k => s < 5 → f_Cr_behind (nI k) (nI t) (nI s) σ = some (nI (g_sb k t s))) hk ?_ ?_ ?_ ?_ ?_ <;>
  (intro hs; refine hg_d3 (P := fun t => f_Cr_behind (nI _) (nI t) (nI s) σ = some (nI (g_sb _ t s))) ht ?_ ?_ ?_ <;>
  (refine hg_d5 (P := fun s => f_Cr_behind (nI _) (nI _) (nI s) σ = some (nI (g_sb _ _ s))) hs ?_ ?_ ?_ ?_ ?_ <;> rfl))
theorem g_sb_le {k t s : Nat} (ht : t < 3) : g_sb k t s ≤ 4 := by
  unfold g_sb
  split
  · split <;> omega
  · split <;> omega
def hg_G1 (σ : zS) (p : Nat → Nat) (W H R : Nat) : Prop := σ 1 0 = nI W ∧ σ 1 1 = nI H ∧ σ 7 3 = nI R ∧ (∀ c, c < 16 → σ 2 c = nI (g_l p c)) ∧ (∀ c, c < 16 → σ 3 c = nI (p (5 * c + 1))) ∧ (∀ c, c < 16 → σ 4 c = g_k p c) ∧ (∀ c, c < 16 → σ 5 c = nI (p (5 * c + 3))) ∧ (∀ c, c < 16 → σ 6 c = nI (p (5 * c + 4))) ∧ σ 1 7 = nI (p 80) ∧ (∀ k, k < R → σ 8 k = nI (p (81 + 3 * k))) ∧ (∀ k, k < R → σ 9 k = nI (p (82 + 3 * k))) ∧ (∀ k, k < R → σ 10 k = nI (p (83 + 3 * k))) ∧ (∀ s, s < 4 → σ 12 s = nI (p (96 + 2 * s))) ∧ (∀ s, s < 4 → σ 13 s = nI (p (97 + 2 * s) + 1)) ∧ σ 11 2 = nI (p 104) ∧ σ 1 10 = nI (p 105) ∧ (∀ o, o < 3 → σ 14 o = nI (p (106 + o))) ∧ σ 1 12 = nI (p 109)
theorem hg_G1_c {σ τ : zS} {p : Nat → Nat} {W H R : Nat} (h : hg_G1 σ p W H R) (e : ∀ k, 1 ≤ k → k ≤ 14 → τ k = σ k) : hg_G1 τ p W H R := by
  unfold hg_G1 at *
  rw [e 1 (by omega) (by omega), e 2 (by omega) (by omega), e 3 (by omega) (by omega), e 4 (by omega) (by omega), e 5 (by omega) (by omega), e 6 (by omega) (by omega), e 7 (by omega) (by omega), e 8 (by omega) (by omega), e 9 (by omega) (by omega), e 10 (by omega) (by omega), e 11 (by omega) (by omega), e 12 (by omega) (by omega), e 13 (by omega) (by omega), e 14 (by omega) (by omega)]
  exact h
def hg_G17 (σ : zS) (p : Nat → Nat) (W H R : Nat) : Prop := σ 17 0 = nI W ∧ σ 17 1 = nI H ∧ σ 23 3 = nI R ∧ (∀ c, c < 16 → σ 18 c = nI (g_l p c)) ∧ (∀ c, c < 16 → σ 19 c = nI (p (5 * c + 1))) ∧ (∀ c, c < 16 → σ 20 c = g_k p c) ∧ (∀ c, c < 16 → σ 21 c = nI (p (5 * c + 3))) ∧ (∀ c, c < 16 → σ 22 c = nI (p (5 * c + 4))) ∧ σ 17 7 = nI (p 80) ∧ (∀ k, k < R → σ 24 k = nI (p (81 + 3 * k))) ∧ (∀ k, k < R → σ 25 k = nI (p (82 + 3 * k))) ∧ (∀ k, k < R → σ 26 k = nI (p (83 + 3 * k))) ∧ (∀ s, s < 4 → σ 28 s = nI (p (96 + 2 * s))) ∧ (∀ s, s < 4 → σ 29 s = nI (p (97 + 2 * s) + 1)) ∧ σ 27 2 = nI (p 104) ∧ σ 17 10 = nI (p 105) ∧ (∀ o, o < 3 → σ 30 o = nI (p (106 + o))) ∧ σ 17 12 = nI (p 109)
theorem hg_G17_c {σ τ : zS} {p : Nat → Nat} {W H R : Nat} (h : hg_G17 σ p W H R) (e : ∀ k, 17 ≤ k → k ≤ 30 → τ k = σ k) : hg_G17 τ p W H R := by
  unfold hg_G17 at *
  rw [e 17 (by omega) (by omega), e 18 (by omega) (by omega), e 19 (by omega) (by omega), e 20 (by omega) (by omega), e 21 (by omega) (by omega), e 22 (by omega) (by omega), e 23 (by omega) (by omega), e 24 (by omega) (by omega), e 25 (by omega) (by omega), e 26 (by omega) (by omega), e 27 (by omega) (by omega), e 28 (by omega) (by omega), e 29 (by omega) (by omega), e 30 (by omega) (by omega)]
  exact h
def hg_G50 (σ : zS) (p : Nat → Nat) (W H R : Nat) : Prop := σ 50 0 = nI W ∧ σ 50 1 = nI H ∧ σ 56 3 = nI R ∧ (∀ c, c < 16 → σ 51 c = nI (g_l p c)) ∧ (∀ c, c < 16 → σ 52 c = nI (p (5 * c + 1))) ∧ (∀ c, c < 16 → σ 53 c = g_k p c) ∧ (∀ c, c < 16 → σ 54 c = nI (p (5 * c + 3))) ∧ (∀ c, c < 16 → σ 55 c = nI (p (5 * c + 4))) ∧ σ 50 7 = nI (p 80) ∧ (∀ k, k < R → σ 57 k = nI (p (81 + 3 * k))) ∧ (∀ k, k < R → σ 58 k = nI (p (82 + 3 * k))) ∧ (∀ k, k < R → σ 59 k = nI (p (83 + 3 * k))) ∧ (∀ s, s < 4 → σ 61 s = nI (p (96 + 2 * s))) ∧ (∀ s, s < 4 → σ 62 s = nI (p (97 + 2 * s) + 1)) ∧ σ 60 2 = nI (p 104) ∧ σ 50 10 = nI (p 105) ∧ (∀ o, o < 3 → σ 63 o = nI (p (106 + o))) ∧ σ 50 12 = nI (p 109)
theorem hg_G50_c {σ τ : zS} {p : Nat → Nat} {W H R : Nat} (h : hg_G50 σ p W H R) (e : ∀ k, 50 ≤ k → k ≤ 63 → τ k = σ k) : hg_G50 τ p W H R := by
  unfold hg_G50 at *
  rw [e 50 (by omega) (by omega), e 51 (by omega) (by omega), e 52 (by omega) (by omega), e 53 (by omega) (by omega), e 54 (by omega) (by omega), e 55 (by omega) (by omega), e 56 (by omega) (by omega), e 57 (by omega) (by omega), e 58 (by omega) (by omega), e 59 (by omega) (by omega), e 60 (by omega) (by omega), e 61 (by omega) (by omega), e 62 (by omega) (by omega), e 63 (by omega) (by omega)]
  exact h
def hg_G66 (σ : zS) (p : Nat → Nat) (W H R : Nat) : Prop := σ 66 0 = nI W ∧ σ 66 1 = nI H ∧ σ 72 3 = nI R ∧ (∀ c, c < 16 → σ 67 c = nI (g_l p c)) ∧ (∀ c, c < 16 → σ 68 c = nI (p (5 * c + 1))) ∧ (∀ c, c < 16 → σ 69 c = g_k p c) ∧ (∀ c, c < 16 → σ 70 c = nI (p (5 * c + 3))) ∧ (∀ c, c < 16 → σ 71 c = nI (p (5 * c + 4))) ∧ σ 66 7 = nI (p 80) ∧ (∀ k, k < R → σ 73 k = nI (p (81 + 3 * k))) ∧ (∀ k, k < R → σ 74 k = nI (p (82 + 3 * k))) ∧ (∀ k, k < R → σ 75 k = nI (p (83 + 3 * k))) ∧ (∀ s, s < 4 → σ 77 s = nI (p (96 + 2 * s))) ∧ (∀ s, s < 4 → σ 78 s = nI (p (97 + 2 * s) + 1)) ∧ σ 76 2 = nI (p 104) ∧ σ 66 10 = nI (p 105) ∧ (∀ o, o < 3 → σ 79 o = nI (p (106 + o))) ∧ σ 66 12 = nI (p 109)
theorem hg_G66_c {σ τ : zS} {p : Nat → Nat} {W H R : Nat} (h : hg_G66 σ p W H R) (e : ∀ k, 66 ≤ k → k ≤ 79 → τ k = σ k) : hg_G66 τ p W H R := by
  unfold hg_G66 at *
  rw [e 66 (by omega) (by omega), e 67 (by omega) (by omega), e 68 (by omega) (by omega), e 69 (by omega) (by omega), e 70 (by omega) (by omega), e 71 (by omega) (by omega), e 72 (by omega) (by omega), e 73 (by omega) (by omega), e 74 (by omega) (by omega), e 75 (by omega) (by omega), e 76 (by omega) (by omega), e 77 (by omega) (by omega), e 78 (by omega) (by omega), e 79 (by omega) (by omega)]
  exact h
section G1
variable {σ : zS} {p : Nat → Nat} {W H R : Nat}
theorem y_cells_1 (hD : hg_D W H R) (h : hg_G1 σ p W H R) : f_G_cells_1 σ = some (nI (W * H)) := by
  obtain ⟨n1, n2⟩ := hg_D_N hD
  unfold f_G_cells_1
  rw [h.1, h.2.1, pk_mul, nl16]
  simp only [nI_leI (show 16 < 2 ^ 31 by omega) (show W * H < 2 ^ 31 by omega)]
  by_cases c : 16 ≤ W * H
  · rw [if_pos c, show W * H = 16 by omega]
  · rw [if_neg c]
theorem y_hasCell_1 (hD : hg_D W H R) (h : hg_G1 σ p W H R) (a : Int32) : f_G_hasCell_1 a σ = some (nI (if 0 ≤ a.toInt ∧ a.toInt < ((W * H : Nat) : Int) then 1 else 0)) := by
  obtain ⟨n1, n2⟩ := hg_D_N hD
  unfold f_G_hasCell_1
  rw [y_cells_1 hD h, z_bs]
  simp only [Int32.lt_iff_toInt_lt, Int32.le_iff_toInt_le, nI_toInt (show W * H < 2 ^ 31 by omega)]
  have e0 : (0 : Int32).toInt = 0 := rfl
  rw [e0]
  by_cases h1 : a.toInt < 0
  · rw [if_pos h1, if_neg (by omega)]; rfl
  · rw [if_neg h1]
    by_cases h2 : ((W * H : Nat) : Int) ≤ a.toInt
    · rw [if_pos h2, if_neg (by omega)]; rfl
    · rw [if_neg h2, if_pos (by omega)]; rfl
theorem y_hasCelln_1 (hD : hg_D W H R) (h : hg_G1 σ p W H R) {c : Nat} (hc : c < 2 ^ 31) : f_G_hasCell_1 (nI c) σ = some (nI (if c < W * H then 1 else 0)) := by
  rw [y_hasCell_1 hD h, nI_toInt hc]
  by_cases q : c < W * H
  · rw [if_pos q, if_pos (by omega)]
  · rw [if_neg q, if_neg (by omega)]
theorem y_hasEast_1 (hD : hg_D W H R) (h : hg_G1 σ p W H R) {c : Nat} (hc : c < 2 ^ 31) : f_G_hasEast_1 (nI c) σ = some (nI (if c % W + 1 < W then 1 else 0)) := by
  obtain ⟨d1, d2, d3, d4, -⟩ := id hD
  unfold f_G_hasEast_1
  rw [h.1, nl0, nl1, if_neg (by rw [nI_leI (by omega) (by omega)]; omega), if_neg (by rw [nI_eq (by omega) (by omega)]; omega), pk_sub (by omega), pk_rem hc (by omega) (by omega)]
  have hm : c % W < W := Nat.mod_lt _ (by omega)
  simp only [nI_leI (show W - 1 < 2 ^ 31 by omega) (show c % W < 2 ^ 31 by omega)]
  by_cases q : c % W + 1 < W
  · rw [if_neg (by omega), if_pos q]
  · rw [if_pos (by omega), if_neg q]
theorem y_isOpen_1 (hV : p 80 < 2 ^ 32) (h : σ 1 7 = nI (p 80)) {e : Nat} (he : e < 32) : f_G_isOpen_1 (nI e) σ = some (nI (if (p 80).testBit e = true then 0 else 1)) := by
  unfold f_G_isOpen_1
  rw [h, nl1, nl0, z_ubit hV he]
  cases hb : (p 80).testBit e with
  | true =>
    simp only [if_true]
    exact if_neg (by decide)
  | false =>
    rw [if_neg Bool.false_ne_true, if_neg Bool.false_ne_true]
    exact if_pos rfl
end G1
section G17
variable {σ : zS} {p : Nat → Nat} {W H R : Nat}
theorem y_cells_17 (hD : hg_D W H R) (h : hg_G17 σ p W H R) : f_G_cells_17 σ = some (nI (W * H)) := by
  obtain ⟨n1, n2⟩ := hg_D_N hD
  unfold f_G_cells_17
  rw [h.1, h.2.1, pk_mul, nl16]
  simp only [nI_leI (show 16 < 2 ^ 31 by omega) (show W * H < 2 ^ 31 by omega)]
  by_cases c : 16 ≤ W * H
  · rw [if_pos c, show W * H = 16 by omega]
  · rw [if_neg c]
theorem y_hasCell_17 (hD : hg_D W H R) (h : hg_G17 σ p W H R) (a : Int32) : f_G_hasCell_17 a σ = some (nI (if 0 ≤ a.toInt ∧ a.toInt < ((W * H : Nat) : Int) then 1 else 0)) := by
  obtain ⟨n1, n2⟩ := hg_D_N hD
  unfold f_G_hasCell_17
  rw [y_cells_17 hD h, z_bs]
  simp only [Int32.lt_iff_toInt_lt, Int32.le_iff_toInt_le, nI_toInt (show W * H < 2 ^ 31 by omega)]
  have e0 : (0 : Int32).toInt = 0 := rfl
  rw [e0]
  by_cases h1 : a.toInt < 0
  · rw [if_pos h1, if_neg (by omega)]; rfl
  · rw [if_neg h1]
    by_cases h2 : ((W * H : Nat) : Int) ≤ a.toInt
    · rw [if_pos h2, if_neg (by omega)]; rfl
    · rw [if_neg h2, if_pos (by omega)]; rfl
theorem y_hasCelln_17 (hD : hg_D W H R) (h : hg_G17 σ p W H R) {c : Nat} (hc : c < 2 ^ 31) : f_G_hasCell_17 (nI c) σ = some (nI (if c < W * H then 1 else 0)) := by
  rw [y_hasCell_17 hD h, nI_toInt hc]
  by_cases q : c < W * H
  · rw [if_pos q, if_pos (by omega)]
  · rw [if_neg q, if_neg (by omega)]
theorem y_hasEast_17 (hD : hg_D W H R) (h : hg_G17 σ p W H R) {c : Nat} (hc : c < 2 ^ 31) : f_G_hasEast_17 (nI c) σ = some (nI (if c % W + 1 < W then 1 else 0)) := by
  obtain ⟨d1, d2, d3, d4, -⟩ := id hD
  unfold f_G_hasEast_17
  rw [h.1, nl0, nl1, if_neg (by rw [nI_leI (by omega) (by omega)]; omega), if_neg (by rw [nI_eq (by omega) (by omega)]; omega), pk_sub (by omega), pk_rem hc (by omega) (by omega)]
  have hm : c % W < W := Nat.mod_lt _ (by omega)
  simp only [nI_leI (show W - 1 < 2 ^ 31 by omega) (show c % W < 2 ^ 31 by omega)]
  by_cases q : c % W + 1 < W
  · rw [if_neg (by omega), if_pos q]
  · rw [if_pos (by omega), if_neg q]
theorem y_isOpen_17 (hV : p 80 < 2 ^ 32) (h : σ 17 7 = nI (p 80)) {e : Nat} (he : e < 32) : f_G_isOpen_17 (nI e) σ = some (nI (if (p 80).testBit e = true then 0 else 1)) := by
  unfold f_G_isOpen_17
  rw [h, nl1, nl0, z_ubit hV he]
  cases hb : (p 80).testBit e with
  | true =>
    simp only [if_true]
    exact if_neg (by decide)
  | false =>
    rw [if_neg Bool.false_ne_true, if_neg Bool.false_ne_true]
    exact if_pos rfl
end G17
