/-! the reference's weeks -/
def g_gr (q : Nat → Nat) (c : Nat) : Nat → Nat := if q (5 * c + 2) = 0 then q else g_up (g_up (g_up (g_up q (5 * c + 3) (if g_sb (q (5 * c + 2) - 1) (q (5 * c + 3)) (g_l q c) ≤ 2 then g_sb (q (5 * c + 2) - 1) (q (5 * c + 3)) (g_l q c) else 0)) (5 * c + 2) (if g_sb (q (5 * c + 2) - 1) (q (5 * c + 3)) (g_l q c) ≤ 2 then q (5 * c + 2) else 0)) (106 + q (5 * c + 4)) (q (106 + q (5 * c + 4)) + if g_sb (q (5 * c + 2) - 1) (q (5 * c + 3)) (g_l q c) = 3 then 1 else 0)) 109 (q 109 + if g_sb (q (5 * c + 2) - 1) (q (5 * c + 3)) (g_l q c) = 4 then 1 else 0)
/-- the garden when n cells have had their week -/
def g_wn (W H R n : Nat) (p : Nat → Nat) (i : Nat) : Nat := if i < 80 then (if i / 5 < n then g_cv p W H R (i / 5) (i % 5) else p i) else if i = 106 then p 106 + g_ct (g_rp p W H R 0) n else if i = 107 then p 107 + g_ct (g_rp p W H R 1) n else if i = 108 then p 108 + g_ct (g_rp p W H R 2) n else if i = 109 then p 109 + g_ct (g_rs p W H R) n else p i
theorem z_inl {S β : Type} {o : Option (S ⊕ β)} {R : S → Prop} (h : ∃ g, o = some g ∧ ∃ s', g = Sum.inl s' ∧ R s') : ∃ s', o = some (Sum.inl s') ∧ R s' := by
  obtain ⟨g, h1, s', h2, h3⟩ := h
  exact ⟨s', by rw [h1, h2], h3⟩
theorem z_inr {S β : Type} {o : Option (S ⊕ β)} {R : β → Prop} (h : ∃ g, o = some g ∧ ∃ s', g = Sum.inr s' ∧ R s') : ∃ s', o = some (Sum.inr s') ∧ R s' := by
  obtain ⟨g, h1, s', h2, h3⟩ := h
  exact ⟨s', by rw [h1, h2], h3⟩
theorem g_wn_0 {W H R : Nat} {p : Nat → Nat} (k : Nat) : g_wn W H R 0 p k = p k := by
  unfold g_wn
  by_cases h : k < 80
  · rw [if_pos h, if_neg (by omega)]
  · rw [if_neg h]
    by_cases h1 : k = 106
    · rw [if_pos h1, h1]; rfl
    · rw [if_neg h1]
      by_cases h2 : k = 107
      · rw [if_pos h2, h2]; rfl
      · rw [if_neg h2]
        by_cases h3 : k = 108
        · rw [if_pos h3, h3]; rfl
        · rw [if_neg h3]
          by_cases h4 : k = 109
          · rw [if_pos h4, h4]; rfl
          · rw [if_neg h4]
theorem g_wn_c {W H R n c j : Nat} {p : Nat → Nat} (hc : c < 16) (hj : j < 5) : g_wn W H R n p (5 * c + j) = if c < n then g_cv p W H R c j else p (5 * c + j) := by
  unfold g_wn
  rw [if_pos (by omega), show (5 * c + j) / 5 = c by omega, show (5 * c + j) % 5 = j by omega]
theorem g_wn_m {W H R n i : Nat} {p : Nat → Nat} (h1 : 80 ≤ i) (h2 : i < 106) : g_wn W H R n p i = p i := by
  unfold g_wn
  rw [if_neg (by omega), if_neg (by omega), if_neg (by omega), if_neg (by omega), if_neg (by omega)]
theorem g_wn_r {W H R o n : Nat} {p : Nat → Nat} (h : o < 3) : g_wn W H R n p (106 + o) = p (106 + o) + g_ct (g_rp p W H R o) n := by
  rcases o with _ | _ | _ | o
  · rfl
  · rfl
  · rfl
  · omega
theorem g_wn_s {W H R n : Nat} {p : Nat → Nat} : g_wn W H R n p 109 = p 109 + g_ct (g_rs p W H R) n := rfl
theorem g_wn_wk {W H R : Nat} {p : Nat → Nat} (k : Nat) (hk : k < 110) : g_up (g_wn W H R (W * H) p) 105 (p 105 + 1) k = g_wk W H R p k := by
  by_cases h : k = 105
  · subst h
    rw [g_up_s]
    rfl
  · rw [g_up_n h]
    unfold g_wn g_wk
    rw [if_neg h]
theorem hg_cell (k : Nat) (h : k < 80) : ∃ c j, c < 16 ∧ j < 5 ∧ k = 5 * c + j := ⟨k / 5, k % 5, by omega, by omega, by omega⟩
/-- one cell more -/
theorem g_wn_succ {W H R i : Nat} {p q : Nat → Nat} (hR : R ≤ 5) (hV : hg_V p R) (hi : i < 16) (h0 : q (5 * i) = g_s1 p W H R i) (h1 : q (5 * i + 1) = g_y1 p W H R i) (hq : ∀ k, k < 110 → k ≠ 5 * i → k ≠ 5 * i + 1 → q k = g_wn W H R i p k) : ∀ k, k < 110 → g_up (g_gr q i) (5 * i + 1) (g_y1 p W H R i - 1) k = g_wn W H R (i + 1) p k := by
  obtain ⟨v1, v2, v3, v4, v5⟩ := hV.1 i hi
  have h2 : q (5 * i + 2) = p (5 * i + 2) := by rw [hq _ (by omega) (by omega) (by omega), g_wn_c hi (by omega), if_neg (by omega)]
  have h3 : q (5 * i + 3) = p (5 * i + 3) := by rw [hq _ (by omega) (by omega) (by omega), g_wn_c hi (by omega), if_neg (by omega)]
  have h4 : q (5 * i + 4) = p (5 * i + 4) := by rw [hq _ (by omega) (by omega) (by omega), g_wn_c hi (by omega), if_neg (by omega)]
  have hl : g_l q i = g_l1 p W H R i := by
    unfold g_l g_l1
    rw [h1, h0]
  have ht : g_sb (q (5 * i + 2) - 1) (q (5 * i + 3)) (g_l q i) = g_t1 p W H R i := by
    rw [h2, h3, hl]
    rfl
  have gr : ∀ k, k < 110 → g_gr q i k = if p (5 * i + 2) = 0 then q k else if k = 109 then q 109 + (if g_t1 p W H R i = 4 then 1 else 0) else if k = 106 + p (5 * i + 4) then q k + (if g_t1 p W H R i = 3 then 1 else 0) else if k = 5 * i + 2 then (if g_t1 p W H R i ≤ 2 then p (5 * i + 2) else 0) else if k = 5 * i + 3 then (if g_t1 p W H R i ≤ 2 then g_t1 p W H R i else 0) else q k := by
    intro k hk
    unfold g_gr
    rw [ht, h2, h4]
    by_cases a : p (5 * i + 2) = 0
    · rw [if_pos a, if_pos a]
    · rw [if_neg a, if_neg a]
      by_cases b : k = 109
      · subst b
        rw [g_up_s, if_pos rfl]
      · rw [g_up_n b, if_neg b]
        by_cases c : k = 106 + p (5 * i + 4)
        · subst c
          rw [g_up_s, if_pos rfl]
        · rw [g_up_n c, if_neg c]
          by_cases d : k = 5 * i + 2
          · subst d
            rw [g_up_s, if_pos rfl]
          · rw [g_up_n d, if_neg d]
            by_cases e : k = 5 * i + 3
            · subst e
              rw [g_up_s, if_pos rfl]
            · rw [g_up_n e, if_neg e]
  intro k hk
  by_cases k80 : k < 80
  · obtain ⟨c, j, hc, hj, e⟩ := hg_cell k k80
    subst e
    rw [g_wn_c hc hj]
    by_cases ci : c = i
    · subst ci
      rw [if_pos (by omega)]
      unfold g_cv
      by_cases j1 : j = 1
      · subst j1
        rw [g_up_s, if_neg (by omega), if_pos rfl]
      · rw [g_up_n (by omega), gr _ hk]
        have jj : j = 0 ∨ j = 2 ∨ j = 3 ∨ j = 4 := by omega
        rcases jj with e | e | e | e
        · subst e
          simp only [Nat.add_zero, if_true]
          (repeat' split) <;> omega
        · subst e
          (repeat' split) <;> omega
        · subst e
          (repeat' split) <;> omega
        · subst e
          (repeat' split) <;> omega
    · rw [g_up_n (by omega), gr _ hk, if_neg (show ¬ 5 * c + j = 109 by omega), if_neg (show ¬ 5 * c + j = 106 + p (5 * i + 4) by omega), if_neg (show ¬ 5 * c + j = 5 * i + 2 by omega), if_neg (show ¬ 5 * c + j = 5 * i + 3 by omega), ite_self, hq _ hk (by omega) (by omega), g_wn_c hc hj]
      by_cases cc : c < i
      · rw [if_pos cc, if_pos (by omega)]
      · rw [if_neg cc, if_neg (by omega)]
  · rw [g_up_n (by omega), gr _ hk, if_neg (show ¬ k = 5 * i + 2 by omega), if_neg (show ¬ k = 5 * i + 3 by omega)]
    by_cases k109 : k = 109
    · subst k109
      rw [if_pos rfl, hq _ hk (by omega) (by omega), g_wn_s, g_wn_s, g_ct]
      by_cases a : p (5 * i + 2) = 0
      · rw [if_pos a, if_neg (show ¬ g_rs p W H R i = true by simp [g_rs, a])]
        rfl
      · rw [if_neg a]
        by_cases b : g_t1 p W H R i = 4
        · rw [if_pos b, if_pos (show g_rs p W H R i = true by simp [g_rs, a, b])]
          rfl
        · rw [if_neg b, if_neg (show ¬ g_rs p W H R i = true by simp [g_rs, b])]
          rfl
    · rw [if_neg k109]
      by_cases k106 : 106 ≤ k
      · obtain ⟨o, ho, e⟩ : ∃ o, o < 3 ∧ k = 106 + o := ⟨k - 106, by omega, by omega⟩
        subst e
        rw [hq _ hk (by omega) (by omega), g_wn_r ho, g_wn_r ho, g_ct]
        by_cases a : p (5 * i + 2) = 0
        · rw [if_pos a, if_neg (show ¬ g_rp p W H R o i = true by simp [g_rp, a])]
          rfl
        · rw [if_neg a]
          by_cases b : p (5 * i + 4) = o
          · rw [if_pos (by omega)]
            by_cases d : g_t1 p W H R i = 3
            · rw [if_pos d, if_pos (show g_rp p W H R o i = true by simp [g_rp, a, b, d])]
              rfl
            · rw [if_neg d, if_neg (show ¬ g_rp p W H R o i = true by simp [g_rp, d])]
              rfl
          · rw [if_neg (by omega), if_neg (show ¬ g_rp p W H R o i = true by simp [g_rp, b])]
            rfl
      · rw [if_neg (show ¬ k = 106 + p (5 * i + 4) by omega), ite_self, hq _ hk (by omega) (by omega), g_wn_m (by omega) (by omega), g_wn_m (by omega) (by omega)]
section M1
variable {σ : zS} {p q : Nat → Nat} {W H R P : Nat}
theorem mm_lies' (hQ : hg_Q σ P q) (hP : P ≤ 440) {c : Nat} (hc : c < 16) (hy : q (5 * c + 1) < 2 ^ 31) : f_M_lies (nI P) (nI c) σ = some (nI (g_l q c)) := by
  unfold f_M_lies
  simp only [nl5, nl1, nl4, nl0, pk_mul, nI_add, Nat.add_assoc, if_pos ((z_ibn (show P + (5 * c + 1) < 2 ^ 31 by omega)).mpr (show P + (5 * c + 1) < 550 by omega)), if_pos ((z_ibn (show P + 5 * c < 2 ^ 31 by omega)).mpr (show P + 5 * c < 550 by omega)), nI_clamp (show P + (5 * c + 1) < 2 ^ 31 by omega), nI_clamp (show P + 5 * c < 2 ^ 31 by omega), hQ (5 * c + 1) (by omega), hQ (5 * c) (by omega), nI_eq hy (show 0 < 2 ^ 31 by omega)]
  unfold g_l
  by_cases a : q (5 * c + 1) = 0
  · rw [if_pos a, if_pos a]
  · rw [if_neg a, if_neg a]
theorem mm_cropIn' (hQ : hg_Q σ P q) (hP : P ≤ 440) {c : Nat} (hc : c < 16) (hk : q (5 * c + 2) < 2 ^ 31) : f_M_cropIn (nI P) (nI c) σ = some (g_k q c) := by
  unfold f_M_cropIn
  simp only [nl5, nl1, nl2, nl0, pk_mul, nI_add, Nat.add_assoc, if_pos ((z_ibn (show P + (5 * c + 2) < 2 ^ 31 by omega)).mpr (show P + (5 * c + 2) < 550 by omega)), nI_clamp (show P + (5 * c + 2) < 2 ^ 31 by omega), hQ (5 * c + 2) (by omega), nI_eq hk (show 0 < 2 ^ 31 by omega)]
  unfold g_k
  by_cases a : q (5 * c + 2) = 0
  · rw [if_pos a, if_pos a]
    rfl
  · rw [if_neg a, if_neg a, pk_sub (by omega)]
theorem mm_lays (hP : P ≤ 440) {c : Nat} (hc : c < 16) (a b : Int32) : f_M_lays (nI P) (nI c) a b σ = some (z_u (z_u σ 91 (P + 5 * c) a) 91 (P + (5 * c + 1)) b) := by
  unfold f_M_lays
  simp only [nl5, nl1, pk_mul, nI_add, Nat.add_assoc, if_pos ((z_ibn (show P + (5 * c + 1) < 2 ^ 31 by omega)).mpr (show P + (5 * c + 1) < 550 by omega)), if_pos ((z_ibn (show P + 5 * c < 2 ^ 31 by omega)).mpr (show P + 5 * c < 550 by omega)), nI_clamp (show P + (5 * c + 1) < 2 ^ 31 by omega), nI_clamp (show P + 5 * c < 2 ^ 31 by omega), z_let]
/-- only the page changes -/
def hg_O (σ τ : zS) (P : Nat) : Prop := (∀ k, k ≠ 91 → τ k = σ k) ∧ ∀ j, (j < P ∨ P + 110 ≤ j) → τ 91 j = σ 91 j
theorem hg_O_r : hg_O σ σ P := ⟨fun _ _ => rfl, fun _ _ => rfl⟩
theorem hg_O_t {τ υ : zS} (h : hg_O σ τ P) (h2 : hg_O τ υ P) : hg_O σ υ P := ⟨fun k hk => by rw [h2.1 k hk, h.1 k hk], fun j hj => by rw [h2.2 j hj, h.2 j hj]⟩
theorem hg_O_u {i : Nat} {x : Int32} (hi : i < 110) : hg_O σ (z_u σ 91 (P + i) x) P := ⟨fun k hk => hg_u_n hk, fun j hj => hg_u_j (by omega)⟩
theorem mm_grows (hM : hg_M σ W H R) (hQ : hg_Q σ P q) (hP : P ≤ 440) {c : Nat} (hc : c < 16) (v2 : q (5 * c + 1) < 2 ^ 31) (v3 : q (5 * c + 2) ≤ 5) (v4 : q (5 * c + 3) ≤ 2) (v5 : q (5 * c + 4) ≤ 2) (vl : g_l q c ≤ 4) : ∃ τ, f_M_grows (nI P) (nI c) σ = some τ ∧ hg_Q τ P (g_gr q c) ∧ hg_O σ τ P := by
  unfold f_M_grows
  rw [mm_cropIn' hQ hP hc (by omega), z_bs]
  by_cases a : q (5 * c + 2) = 0
  · rw [if_pos (by unfold g_k; rw [if_pos a]; rfl)]
    refine ⟨σ, rfl, ?_, hg_O_r⟩
    unfold g_gr
    rw [if_pos a]
    exact hQ
  · have ek : g_k q c = nI (q (5 * c + 2) - 1) := by unfold g_k; rw [if_neg a]
    rw [if_neg (by rw [ek]; exact z_neg (b := 4) (by omega) (by omega) _ (by omega)), mm_lies' hQ hP hc v2, ek]
    simp only [nl5, nl3, nl2, nl1, nl4, nl0, nl106, nl109, pk_mul, nI_add, Nat.add_assoc, if_pos ((z_ibn (show P + (5 * c + 3) < 2 ^ 31 by omega)).mpr (show P + (5 * c + 3) < 550 by omega)), nI_clamp (show P + (5 * c + 3) < 2 ^ 31 by omega), z_bs, hQ (5 * c + 3) (by omega), mm_stageBy hM (show q (5 * c + 2) - 1 < 5 by omega) (show q (5 * c + 3) < 3 by omega) (show g_l q c < 5 by omega), z_join, z_let]
    have hs4 : g_sb (q (5 * c + 2) - 1) (q (5 * c + 3)) (g_l q c) ≤ 4 := g_sb_le (by omega)
    unfold g_gr
    rw [if_neg a]
    generalize g_sb (q (5 * c + 2) - 1) (q (5 * c + 3)) (g_l q c) = s at hs4 ⊢
    have Q1 : hg_Q (z_u σ 91 (P + (5 * c + 3)) (nI (if s ≤ 2 then s else 0))) P (g_up q (5 * c + 3) (if s ≤ 2 then s else 0)) := hg_Q_up hQ
    have O1 : hg_O σ (z_u σ 91 (P + (5 * c + 3)) (nI (if s ≤ 2 then s else 0))) P := hg_O_u (by omega)
    have Q2 := hg_Q_up (i := 5 * c + 2) (v := if s ≤ 2 then q (5 * c + 2) else 0) Q1
    have O2 := hg_O_t O1 (hg_O_u (i := 5 * c + 2) (x := nI (if s ≤ 2 then q (5 * c + 2) else 0)) (by omega))
    have r4 := Q2 (5 * c + 4) (by omega)
    rw [g_up_n (by omega), g_up_n (by omega)] at r4
    have r6 := Q2 (106 + q (5 * c + 4)) (by omega)
    rw [g_up_n (by omega), g_up_n (by omega)] at r6
    have Q3 := hg_Q_up (i := 106 + q (5 * c + 4)) (v := q (106 + q (5 * c + 4)) + if s = 3 then 1 else 0) Q2
    have O3 := hg_O_t O2 (hg_O_u (i := 106 + q (5 * c + 4)) (x := nI (q (106 + q (5 * c + 4)) + if s = 3 then 1 else 0)) (by omega))
    have r9 := Q3 109 (by omega)
    rw [g_up_n (by omega), g_up_n (by omega), g_up_n (by omega)] at r9
    have Q4 := hg_Q_up (i := 109) (v := q 109 + if s = 4 then 1 else 0) Q3
    have O4 := hg_O_t O3 (hg_O_u (i := 109) (x := nI (q 109 + if s = 4 then 1 else 0)) (by omega))
    refine ⟨_, ?_, Q4, O4⟩
    clear Q4 O4 Q3 O3 O2 O1
    by_cases c2 : s ≤ 2
    · have n3 : ¬ s = 3 := by omega
      have n4 : ¬ s = 4 := by omega
      simp only [if_pos c2, if_neg n3, if_neg n4] at r4 r6 r9 ⊢
      simp only [nI_leI (show s < 2 ^ 31 by omega) (show 2 < 2 ^ 31 by omega), nI_eq (show s < 2 ^ 31 by omega) (show 3 < 2 ^ 31 by omega), nI_eq (show s < 2 ^ 31 by omega) (show 4 < 2 ^ 31 by omega), if_pos c2, if_neg n3, if_neg n4, if_pos ((z_ibn (show P + (5 * c + 3) < 2 ^ 31 by omega)).mpr (show P + (5 * c + 3) < 550 by omega)), nI_clamp (show P + (5 * c + 3) < 2 ^ 31 by omega), if_pos ((z_ibn (show P + (5 * c + 2) < 2 ^ 31 by omega)).mpr (show P + (5 * c + 2) < 550 by omega)), nI_clamp (show P + (5 * c + 2) < 2 ^ 31 by omega), if_pos ((z_ibn (show P + (5 * c + 4) < 2 ^ 31 by omega)).mpr (show P + (5 * c + 4) < 550 by omega)), nI_clamp (show P + (5 * c + 4) < 2 ^ 31 by omega), show q (5 * c + 2) - 1 + 1 = q (5 * c + 2) by omega, r4, nI_add, Nat.add_assoc, if_pos ((z_ibn (show P + (106 + q (5 * c + 4)) < 2 ^ 31 by omega)).mpr (show P + (106 + q (5 * c + 4)) < 550 by omega)), nI_clamp (show P + (106 + q (5 * c + 4)) < 2 ^ 31 by omega), r6, if_pos ((z_ibn (show P + 109 < 2 ^ 31 by omega)).mpr (show P + 109 < 550 by omega)), nI_clamp (show P + 109 < 2 ^ 31 by omega), r9]
    · by_cases n3 : s = 3
      · subst n3
        simp only [if_neg (show ¬ 3 ≤ 2 by omega), if_true, if_neg (show ¬ 3 = 4 by omega)] at r4 r6 r9 ⊢
        simp only [nI_leI (show 3 < 2 ^ 31 by omega) (show 2 < 2 ^ 31 by omega), nI_eq (show 3 < 2 ^ 31 by omega) (show 4 < 2 ^ 31 by omega), if_neg (show ¬ 3 ≤ 2 by omega), if_true, if_neg (show ¬ 3 = 4 by omega), if_pos ((z_ibn (show P + (5 * c + 3) < 2 ^ 31 by omega)).mpr (show P + (5 * c + 3) < 550 by omega)), nI_clamp (show P + (5 * c + 3) < 2 ^ 31 by omega), if_pos ((z_ibn (show P + (5 * c + 2) < 2 ^ 31 by omega)).mpr (show P + (5 * c + 2) < 550 by omega)), nI_clamp (show P + (5 * c + 2) < 2 ^ 31 by omega), if_pos ((z_ibn (show P + (5 * c + 4) < 2 ^ 31 by omega)).mpr (show P + (5 * c + 4) < 550 by omega)), nI_clamp (show P + (5 * c + 4) < 2 ^ 31 by omega), show q (5 * c + 2) - 1 + 1 = q (5 * c + 2) by omega, r4, nI_add, Nat.add_assoc, if_pos ((z_ibn (show P + (106 + q (5 * c + 4)) < 2 ^ 31 by omega)).mpr (show P + (106 + q (5 * c + 4)) < 550 by omega)), nI_clamp (show P + (106 + q (5 * c + 4)) < 2 ^ 31 by omega), r6, if_pos ((z_ibn (show P + 109 < 2 ^ 31 by omega)).mpr (show P + 109 < 550 by omega)), nI_clamp (show P + 109 < 2 ^ 31 by omega), r9]
      · have n4 : s = 4 := by omega
        subst n4
        simp only [if_neg (show ¬ 4 ≤ 2 by omega), if_true, if_neg (show ¬ 4 = 3 by omega)] at r4 r6 r9 ⊢
        simp only [nI_leI (show 4 < 2 ^ 31 by omega) (show 2 < 2 ^ 31 by omega), nI_eq (show 4 < 2 ^ 31 by omega) (show 3 < 2 ^ 31 by omega), if_neg (show ¬ 4 ≤ 2 by omega), if_true, if_neg (show ¬ 4 = 3 by omega), if_pos ((z_ibn (show P + (5 * c + 3) < 2 ^ 31 by omega)).mpr (show P + (5 * c + 3) < 550 by omega)), nI_clamp (show P + (5 * c + 3) < 2 ^ 31 by omega), if_pos ((z_ibn (show P + (5 * c + 2) < 2 ^ 31 by omega)).mpr (show P + (5 * c + 2) < 550 by omega)), nI_clamp (show P + (5 * c + 2) < 2 ^ 31 by omega), if_pos ((z_ibn (show P + (5 * c + 4) < 2 ^ 31 by omega)).mpr (show P + (5 * c + 4) < 550 by omega)), nI_clamp (show P + (5 * c + 4) < 2 ^ 31 by omega), show q (5 * c + 2) - 1 + 1 = q (5 * c + 2) by omega, r4, nI_add, Nat.add_assoc, if_pos ((z_ibn (show P + (106 + q (5 * c + 4)) < 2 ^ 31 by omega)).mpr (show P + (106 + q (5 * c + 4)) < 550 by omega)), nI_clamp (show P + (106 + q (5 * c + 4)) < 2 ^ 31 by omega), r6, if_pos ((z_ibn (show P + 109 < 2 ^ 31 by omega)).mpr (show P + 109 < 550 by omega)), nI_clamp (show P + 109 < 2 ^ 31 by omega), r9]
/-- only the page and the row of what spreads change -/
def hg_O2 (σ τ : zS) (P : Nat) : Prop := (∀ k, k ≠ 91 → k ≠ 98 → τ k = σ k) ∧ ∀ j, (j < P ∨ P + 110 ≤ j) → τ 91 j = σ 91 j
theorem mm_weeks (hD : hg_D W H R) (hM : hg_M σ W H R) (hV : hg_V p R) (hQ : hg_Q σ P p) (hP : P ≤ 440) {n : Nat} (hn : n < 2 ^ 31) : ∃ τ, f_M_weeks (nI P) (nI n) σ = some τ ∧ hg_Q τ P (g_wks W H R n p) ∧ hg_O2 σ τ P := by
  obtain ⟨n1, n2⟩ := hg_D_N hD
  obtain ⟨d1, d2, d3, d4, d5⟩ := id hD
  unfold f_M_weeks
  refine z_lp' (fun i (s : Int32 × zS) => s.1 = nI i ∧ i ≤ n ∧ hg_Q s.2 P (g_wks W H R i p) ∧ hg_O2 σ s.2 P) n ?_ ?_ ?_
  · exact ⟨rfl, by omega, hQ, ⟨fun _ _ _ => rfl, fun _ _ => rfl⟩⟩
  ·
      intro m s hm hP0
      obtain ⟨e1, e2, e3, e4⟩ := hP0
      rw [e1, if_neg (nI_ge hm hn)]
      have hVm := hg_V_wks (W := W) (H := H) d5 hV m
      have hMm : hg_M s.2 W H R := hg_M_c hM (e4.1 90 (by omega) (by omega)) (e4.1 92 (by omega) (by omega))
      show ∃ s' : Int32 × zS, _ = some (Sum.inl s') ∧ s'.1 = nI (m + 1) ∧ m + 1 ≤ n ∧ hg_Q s'.2 P (g_wk W H R (g_wks W H R m p)) ∧ hg_O2 σ s'.2 P
      generalize g_wks W H R m p = r at e3 hVm ⊢
      have K : ∃ b, z_loop (S := Int32 × zS) (β := zS) (fun s3 => if ((s3.2 90 1) * (s3.2 90 2)) ≤ s3.1 then some (.inr s3.2) else (f_M_fitting (nI P) s3.1 s3.2).bind fun r5 => if z_ib s3.1 16 = true then z_let (z_u s3.2 98 s3.1.toNatClampNeg r5) fun τ7 => some (.inl ((s3.1 + (1 : Int32)), τ7)) else none) ((0 : Int32), s.2) = some b ∧ (∀ c, c < W * H → b 98 c = g_F r W H R c) ∧ ∀ k, k ≠ 98 → b k = s.2 k := by
        refine z_for' (fun i (t : Int32 × zS) => t.1 = nI i ∧ i ≤ W * H ∧ (∀ c, c < i → t.2 98 c = g_F r W H R c) ∧ ∀ k, k ≠ 98 → t.2 k = s.2 k) _ (W * H) ⟨rfl, by omega, fun c hc => by omega, fun _ _ => rfl⟩ (fun i t hi hT => ?_) (fun t hT => ?_)
        · obtain ⟨f1, f2, f3, f4⟩ := hT
          have hMt : hg_M t.2 W H R := hg_M_c hMm (f4 90 (by omega)) (f4 92 (by omega))
          have hQt : hg_Q t.2 P r := hg_Q_c e3 (f4 91 (by omega))
          rw [f1, hMt.1, hMt.2.1, pk_mul, if_neg (nI_ge hi (by omega)), mm_fitting hD hMt hVm hQt hP hi, z_bs, if_pos ((z_ibn (by omega)).mpr (by omega)), nI_clamp (by omega)]
          simp only [z_let, nI_1]
          refine ⟨_, rfl, rfl, by omega, fun c hc => ?_, fun k hk => ?_⟩
          · dsimp only
            by_cases ci : c = i
            · rw [ci, hg_u_s]
            · rw [hg_u_j ci]
              exact f3 c (by omega)
          · dsimp only
            rw [hg_u_n hk]
            exact f4 k hk
        · obtain ⟨f1, f2, f3, f4⟩ := hT
          have hMt : hg_M t.2 W H R := hg_M_c hMm (f4 90 (by omega)) (f4 92 (by omega))
          rw [f1, hMt.1, hMt.2.1, pk_mul, if_pos (nI_le (Nat.le_refl _) (by omega))]
          exact ⟨_, rfl, f3, f4⟩
      obtain ⟨b, hb, b1, b2⟩ := K
      rw [hb, z_bs]
      clear hb
      have hMb : hg_M b W H R := hg_M_c hMm (b2 90 (by omega)) (b2 92 (by omega))
      have hQb : hg_Q b P r := hg_Q_c e3 (b2 91 (by omega))
      refine z_inl (z_lp' (fun i (t : Int32 × zS) => t.1 = nI i ∧ i ≤ W * H ∧ hg_Q t.2 P (g_wn W H R i r) ∧ hg_O b t.2 P) (W * H) ?_ ?_ ?_)
      · exact ⟨rfl, by omega, hg_Q_p hQb (fun k _ => (g_wn_0 k).symm), hg_O_r⟩
      ·
          intro i t hi hT
          obtain ⟨f1, f2, f3, f4⟩ := hT
          obtain ⟨v1, v2, v3, v4, v5⟩ := hVm.1 i (by omega)
          have yl := g_y1_le (W := W) (H := H) hVm (show i < 16 by omega)
          have hMt : hg_M t.2 W H R := hg_M_c hMb (f4.1 90 (by omega)) (f4.1 92 (by omega))
          have u0 : t.2 98 i = g_F r W H R i := by rw [f4.1 98 (by omega)]; exact b1 i hi
          have u1 : t.2 91 (P + (5 * i + 1)) = nI (r (5 * i + 1)) := by rw [f3 _ (by omega), g_wn_c (by omega) (by omega), if_neg (by omega)]
          have G : ∀ τ : zS, hg_O b τ P → ∀ q : Nat → Nat, hg_Q τ P q → q (5 * i) = g_s1 r W H R i → q (5 * i + 1) = g_y1 r W H R i → (∀ k, k < 110 → k ≠ 5 * i → k ≠ 5 * i + 1 → q k = g_wn W H R i r k) → ∃ υ, f_M_grows (nI P) (nI i) τ = some υ ∧ υ 91 (P + (5 * i + 1)) = nI (g_y1 r W H R i) ∧ hg_Q (z_u υ 91 (P + (5 * i + 1)) (nI (g_y1 r W H R i - 1))) P (g_wn W H R (i + 1) r) ∧ hg_O b (z_u υ 91 (P + (5 * i + 1)) (nI (g_y1 r W H R i - 1))) P := by
            intro τ hO q hq q0 q1 q2
            have hMτ : hg_M τ W H R := hg_M_c hMb (hO.1 90 (by omega)) (hO.1 92 (by omega))
            have a2 : q (5 * i + 2) = r (5 * i + 2) := by rw [q2 _ (by omega) (by omega) (by omega), g_wn_c (by omega) (by omega), if_neg (by omega)]
            have a3 : q (5 * i + 3) = r (5 * i + 3) := by rw [q2 _ (by omega) (by omega) (by omega), g_wn_c (by omega) (by omega), if_neg (by omega)]
            have a4 : q (5 * i + 4) = r (5 * i + 4) := by rw [q2 _ (by omega) (by omega) (by omega), g_wn_c (by omega) (by omega), if_neg (by omega)]
            have al : g_l q i = g_l1 r W H R i := by
              unfold g_l g_l1
              rw [q1, q0]
            have ll := g_l1_le (W := W) (H := H) hVm (show i < 16 by omega)
            obtain ⟨υ, h1, h2, h3⟩ := mm_grows hMτ hq hP (show i < 16 by omega) (by omega) (by omega) (by omega) (by omega) (by omega)
            refine ⟨υ, h1, ?_, hg_Q_p (hg_Q_up h2) (g_wn_succ d5 hVm (by omega) q0 q1 q2), hg_O_t (hg_O_t hO h3) (hg_O_u (by omega))⟩
            rw [h2 _ (by omega)]
            unfold g_gr
            split
            · rw [q1]
            · rw [g_up_n (by omega), g_up_n (by omega), g_up_n (by omega), g_up_n (by omega), q1]
          rw [f1, hMt.1, hMt.2.1, pk_mul, if_neg (nI_ge hi (by omega))]
          simp only [nl5, nl1, nl0, nl81, nl3, pk_mul, nI_add, Nat.add_assoc, if_pos ((z_ibn (show P + (5 * i + 1) < 2 ^ 31 by omega)).mpr (show P + (5 * i + 1) < 550 by omega)), nI_clamp (show P + (5 * i + 1) < 2 ^ 31 by omega), if_pos ((z_ibn (show i < 2 ^ 31 by omega)).mpr (show i < 16 by omega)), nI_clamp (show i < 2 ^ 31 by omega), u0, u1, z_let, z_join, nI_eq (show r (5 * i + 1) < 2 ^ 31 by omega) (show 0 < 2 ^ 31 by omega)]
          have Fin : ∀ υ : zS, υ 91 (P + (5 * i + 1)) = nI (g_y1 r W H R i) → hg_Q (z_u υ 91 (P + (5 * i + 1)) (nI (g_y1 r W H R i - 1))) P (g_wn W H R (i + 1) r) → hg_O b (z_u υ 91 (P + (5 * i + 1)) (nI (g_y1 r W H R i - 1))) P → ∃ s', (if υ 91 (P + (5 * i + 1)) ≤ nI 0 then some (Sum.inl (nI (i + 1), z_u υ 91 (P + (5 * i + 1)) (υ 91 (P + (5 * i + 1)) - nI 0))) else some (Sum.inl (nI (i + 1), z_u υ 91 (P + (5 * i + 1)) (υ 91 (P + (5 * i + 1)) - nI 1)))) = some (Sum.inl (β := zS) s') ∧ s'.1 = nI (i + 1) ∧ i + 1 ≤ W * H ∧ hg_Q s'.2 P (g_wn W H R (i + 1) r) ∧ hg_O b s'.2 P := by
            intro υ w1 w2 w3
            rw [w1]
            simp only [nI_leI (show g_y1 r W H R i < 2 ^ 31 by omega) (show 0 < 2 ^ 31 by omega)]
            by_cases y0 : g_y1 r W H R i ≤ 0
            · rw [if_pos y0, pk_sub (by omega), show g_y1 r W H R i - 0 = g_y1 r W H R i - 1 by omega]
              exact ⟨_, rfl, rfl, by omega, w2, w3⟩
            · rw [if_neg y0, pk_sub (by omega)]
              exact ⟨_, rfl, rfl, by omega, w2, w3⟩
          by_cases cf : g_f r W H R i < R
          · have eF : g_F r W H R i = nI (g_f r W H R i) := if_pos cf
            have ea : t.2 91 (P + (81 + 3 * g_f r W H R i)) = nI (r (81 + 3 * g_f r W H R i)) := by rw [f3 _ (by omega), g_wn_m (by omega) (by omega)]
            rw [eF, if_neg (show ¬ nI (g_f r W H R i) = -4 from z_neg (b := 4) (by omega) (by omega) _ (by omega)), pk_mul, nI_add, Nat.add_assoc P 81, if_pos ((z_ibn (by omega)).mpr (by omega)), nI_clamp (by omega), ea, mm_lays hP (by omega), mm_lays hP (by omega), z_bs, z_bs]
            have s1 : g_s1 r W H R i = r (81 + 3 * g_f r W H R i) := if_pos cf
            have y1 : g_y1 r W H R i = if r (5 * i + 1) = 0 then 1 else r (5 * i + 1) := if_pos cf
            have E : (if r (5 * i + 1) = 0 then z_u (z_u t.2 91 (P + 5 * i) (nI (r (81 + 3 * g_f r W H R i)))) 91 (P + (5 * i + 1)) (nI 1) else z_u (z_u t.2 91 (P + 5 * i) (nI (r (81 + 3 * g_f r W H R i)))) 91 (P + (5 * i + 1)) (nI (r (5 * i + 1)))) = z_u (z_u t.2 91 (P + 5 * i) (nI (r (81 + 3 * g_f r W H R i)))) 91 (P + (5 * i + 1)) (nI (g_y1 r W H R i)) := by
              rw [y1]
              split <;> rfl
            obtain ⟨υ, h1, h2, h3, h4⟩ := G (z_u (z_u t.2 91 (P + 5 * i) (nI (r (81 + 3 * g_f r W H R i)))) 91 (P + (5 * i + 1)) (nI (g_y1 r W H R i))) (hg_O_t (hg_O_t f4 (hg_O_u (by omega))) (hg_O_u (by omega))) _ (hg_Q_up (hg_Q_up f3)) (by rw [g_up_n (by omega), g_up_s, s1]) (by rw [g_up_s]) (fun k k1 k2 k3 => by rw [g_up_n k3, g_up_n k2])
            by_cases r0 : r (5 * i + 1) = 0
            · rw [if_pos r0] at E ⊢
              rw [E, h1, z_bs]
              exact Fin υ h2 h3 h4
            · rw [if_neg r0] at E ⊢
              rw [E, h1, z_bs]
              exact Fin υ h2 h3 h4
          · have eF : g_F r W H R i = - nI 4 := if_neg cf
            rw [eF, if_pos (show (- nI 4 : Int32) = -4 from rfl)]
            obtain ⟨υ, h1, h2, h3, h4⟩ := G t.2 f4 _ f3 (by rw [show 5 * i = 5 * i + 0 from rfl, g_wn_c (by omega) (by omega), if_neg (by omega)]; unfold g_s1; rw [if_neg cf]; rfl) (by rw [g_wn_c (by omega) (by omega), if_neg (by omega)]; unfold g_y1; rw [if_neg cf]) (fun _ _ _ _ => rfl)
            rw [h1, z_bs]
            exact Fin υ h2 h3 h4
      ·
          intro t hT
          obtain ⟨f1, f2, f3, f4⟩ := hT
          have hMt : hg_M t.2 W H R := hg_M_c hMb (f4.1 90 (by omega)) (f4.1 92 (by omega))
          rw [f1, hMt.1, hMt.2.1, pk_mul, if_pos (nI_le (Nat.le_refl _) (by omega))]
          refine ⟨_, rfl, ?_⟩
          simp only [nl105, nI_add, if_pos ((z_ibn (show P + 105 < 2 ^ 31 by omega)).mpr (show P + 105 < 550 by omega)), nI_clamp (show P + 105 < 2 ^ 31 by omega), f3 105 (by omega), g_wn_m (show 80 ≤ 105 by omega) (show 105 < 106 by omega), z_let, nI_1]
          refine ⟨_, rfl, _, rfl, rfl, by omega, hg_Q_p (hg_Q_up f3) g_wn_wk, fun k k1 k2 => ?_, fun j hj => ?_⟩
          · dsimp only
            rw [hg_u_n k1, f4.1 k k1, b2 k k2, e4.1 k k1 k2]
          · dsimp only
            rw [hg_u_j (by omega), f4.2 j hj, b2 91 (by omega), e4.2 j hj]
  ·
      intro s hP0
      obtain ⟨e1, e2, e3, e4⟩ := hP0
      rw [e1, if_pos (nI_le (Nat.le_refl _) hn)]
      exact ⟨_, rfl, _, rfl, e3, e4⟩
theorem mm_copies {A B : Nat} (hA : A ≤ 440) (hB : B ≤ 440) (hAB : A + 110 ≤ B ∨ B + 110 ≤ A) (σ : zS) : ∃ τ, f_M_copies (nI A) (nI B) σ = some τ ∧ (∀ k, k < 110 → τ 91 (B + k) = σ 91 (A + k)) ∧ hg_O σ τ B := by
  unfold f_M_copies
  refine z_lp' (fun i (s : Int32 × zS) => s.1 = nI i ∧ i ≤ 110 ∧ (∀ k, k < i → s.2 91 (B + k) = σ 91 (A + k)) ∧ hg_O σ s.2 B) 110 ?_ ?_ ?_
  · exact ⟨rfl, by omega, fun k hk => by omega, hg_O_r⟩
  ·
      intro i s hi hP
      obtain ⟨e1, e2, e3, e4⟩ := hP
      rw [e1, nl110, if_neg (nI_ge hi (by omega)), nI_add, nI_add]
      simp only [if_pos ((z_ibn (show A + i < 2 ^ 31 by omega)).mpr (show A + i < 550 by omega)), if_pos ((z_ibn (show B + i < 2 ^ 31 by omega)).mpr (show B + i < 550 by omega)), nI_clamp (show A + i < 2 ^ 31 by omega), nI_clamp (show B + i < 2 ^ 31 by omega), z_let, nI_1]
      refine ⟨_, rfl, rfl, by omega, fun k hk => ?_, hg_O_t e4 (hg_O_u hi)⟩
      dsimp only
      by_cases ki : k = i
      · subst ki
        rw [hg_u_s, e4.2 _ (by omega)]
      · rw [hg_u_j (by omega)]
        exact e3 k (by omega)
  ·
      intro s hP
      obtain ⟨e1, e2, e3, e4⟩ := hP
      rw [e1, nl110, if_pos (nI_le (Nat.le_refl _) (by omega))]
      exact ⟨_, rfl, _, rfl, e3, e4⟩
end M1
