/-! when a crop is ripe: the other crops do not matter -/
/-- two gardens that are alike but for the other crops -/
def g_RL (c : Nat) (p q : Nat → Nat) : Prop := (∀ k, k < 16 → p (5 * k) = q (5 * k) ∧ p (5 * k + 1) = q (5 * k + 1) ∧ p (5 * k + 4) = q (5 * k + 4)) ∧ p (5 * c + 2) = q (5 * c + 2) ∧ p (5 * c + 3) = q (5 * c + 3) ∧ ∀ i, 80 ≤ i → i < 105 → p i = q i
theorem g_RL_l {c : Nat} {p q : Nat → Nat} (h : g_RL c p q) {k : Nat} (hk : k < 16) : g_l p k = g_l q k := by
  obtain ⟨a1, a2, a3⟩ := h.1 k hk
  unfold g_l
  rw [a1, a2]
theorem g_RL_nx {c : Nat} {p q : Nat → Nat} {W H R : Nat} (hD : hg_D W H R) (h : g_RL c p q) {k s : Nat} (hk : k < W * H) : g_nx p W H k s = g_nx q W H k s := by
  obtain ⟨n1, n2⟩ := hg_D_N hD
  obtain ⟨d1, d2, d3, d4, -⟩ := id hD
  have h80 : p 80 = q 80 := h.2.2.2 80 (by omega) (by omega)
  have e1 : g_e p W k = g_e q W k := by unfold g_e; rw [h80]
  have e2 : g_w p W k = g_w q W k := by unfold g_w; rw [h80]
  have e3 : g_s p W H k = g_s q W H k := by unfold g_s; rw [h80]
  have e4 : g_n p W k = g_n q W k := by unfold g_n; rw [h80]
  have l2 : g_l p (k - 1) = g_l q (k - 1) := g_RL_l h (by omega)
  have l4 : g_l p (k - W) = g_l q (k - W) := g_RL_l h (by omega)
  unfold g_nx
  rw [e1, e2, e3, e4, l2, l4]
  congr 1
  · congr 1
    · congr 1
      by_cases z : g_e q W k = true
      · have hc : k % W + 1 < W := by
          unfold g_e at z
          rw [Bool.and_eq_true, decide_eq_true_iff] at z
          exact z.1
        have := hg_east d1 d2 d4 hk hc
        rw [g_RL_l h (show k + 1 < 16 by omega)]
      · rw [if_neg (fun w => z w.1), if_neg (fun w => z w.1)]
    · by_cases z : g_s q W H k = true
      · have hc : k + W < W * H := by
          unfold g_s at z
          rw [Bool.and_eq_true, decide_eq_true_iff] at z
          exact z.1
        rw [g_RL_l h (show k + W < 16 by omega)]
      · rw [if_neg (fun w => z w.1), if_neg (fun w => z w.1)]
theorem g_ft_cong {q r : Nat → Bool} : ∀ {n : Nat}, (∀ k, k < n → q k = r k) → g_ft q n = g_ft r n
  | 0, _ => rfl
  | n + 1, h => by
    rw [g_ft, g_ft, g_ft_cong (fun k hk => h k (by omega)), h n (by omega)]
theorem g_RL_f {c : Nat} {p q : Nat → Nat} {W H R : Nat} (hD : hg_D W H R) (h : g_RL c p q) {k : Nat} (hk : k < W * H) : g_f p W H R k = g_f q W H R k := by
  obtain ⟨n1, n2⟩ := hg_D_N hD
  have hR := hD.2.2.2.2
  unfold g_f
  refine g_ft_cong (fun j hj => ?_)
  unfold g_q
  rw [g_RL_l h (show k < 16 by omega), h.2.2.2 (82 + 3 * j) (by omega) (by omega), h.2.2.2 (83 + 3 * j) (by omega) (by omega), h.2.2.2 (81 + 3 * j) (by omega) (by omega), g_RL_nx hD h hk]
theorem g_RL_l1 {c : Nat} {p q : Nat → Nat} {W H R : Nat} (hD : hg_D W H R) (h : g_RL c p q) {k : Nat} (hk : k < W * H) : g_s1 p W H R k = g_s1 q W H R k ∧ g_y1 p W H R k = g_y1 q W H R k ∧ g_l1 p W H R k = g_l1 q W H R k := by
  obtain ⟨n1, n2⟩ := hg_D_N hD
  have hR := hD.2.2.2.2
  obtain ⟨a1, a2, a3⟩ := h.1 k (by omega)
  have hf := g_RL_f hD h hk
  have e1 : g_s1 p W H R k = g_s1 q W H R k := by
    unfold g_s1
    rw [hf, a1]
    by_cases z : g_f q W H R k < R
    · rw [if_pos z, if_pos z, h.2.2.2 (81 + 3 * g_f q W H R k) (by omega) (by omega)]
    · rw [if_neg z, if_neg z]
  have e2 : g_y1 p W H R k = g_y1 q W H R k := by
    unfold g_y1
    rw [hf, a2]
  refine ⟨e1, e2, ?_⟩
  unfold g_l1
  rw [e1, e2]
theorem g_RL_wk {c : Nat} {p q : Nat → Nat} {W H R : Nat} (hD : hg_D W H R) (hc : c < W * H) (h : g_RL c p q) : g_RL c (g_wk W H R p) (g_wk W H R q) := by
  obtain ⟨n1, n2⟩ := hg_D_N hD
  refine ⟨fun k hk => ⟨?_, ?_, ?_⟩, ?_, ?_, fun i h1 h2 => ?_⟩
  · rw [g_wk_0 hk, g_wk_0 hk]
    by_cases z : k < W * H
    · rw [if_pos z, if_pos z, (g_RL_l1 hD h z).1]
    · rw [if_neg z, if_neg z, (h.1 k hk).1]
  · rw [g_wk_1 hk, g_wk_1 hk]
    by_cases z : k < W * H
    · rw [if_pos z, if_pos z, (g_RL_l1 hD h z).2.1]
    · rw [if_neg z, if_neg z, (h.1 k hk).2.1]
  · rw [g_wk_4 hk, g_wk_4 hk, (h.1 k hk).2.2]
  · rw [g_wk_2 (by omega), g_wk_2 (by omega), if_pos hc, if_pos hc]
    unfold g_t1
    rw [(g_RL_l1 hD h hc).2.2, h.2.1, h.2.2.1]
  · rw [g_wk_3 (by omega), g_wk_3 (by omega), if_pos hc, if_pos hc]
    unfold g_t1
    rw [(g_RL_l1 hD h hc).2.2, h.2.1, h.2.2.1]
  · rw [g_wk_m h1 h2, g_wk_m h1 h2, h.2.2.2 i h1 h2]
theorem g_RL_rj {c : Nat} {p q : Nat → Nat} {W H R : Nat} (hD : hg_D W H R) (hc : c < W * H) (h : g_RL c p q) : g_rj p W H R c = g_rj q W H R c := by
  unfold g_rj g_t1
  rw [(g_RL_l1 hD h hc).2.2, h.2.1, h.2.2.1]
/-- the other crops of n cells taken away -/
def g_clr (c n : Nat) (p : Nat → Nat) (i : Nat) : Nat := if i < 80 ∧ i % 5 = 2 ∧ i / 5 < n ∧ ¬ i / 5 = c then 0 else p i
theorem g_RL_clr {c n : Nat} {p q : Nat → Nat} (h : g_RL c p q) : g_RL c p (g_clr c n q) := by
  refine ⟨fun k hk => ?_, ?_, ?_, fun i h1 h2 => ?_⟩
  · unfold g_clr
    rw [if_neg (by omega), if_neg (by omega), if_neg (by omega)]
    exact h.1 k hk
  · unfold g_clr
    rw [if_neg (by omega)]
    exact h.2.1
  · unfold g_clr
    rw [if_neg (by omega)]
    exact h.2.2.1
  · unfold g_clr
    rw [if_neg (by omega)]
    exact h.2.2.2 i h1 h2
theorem g_clr_V {c n R : Nat} {p : Nat → Nat} (hR : R ≤ 5) (hV : hg_V p R) : hg_V (g_clr c n p) R := by
  have le : ∀ i, g_clr c n p i ≤ p i := fun i => by
    unfold g_clr
    split <;> omega
  have eq : ∀ i, 80 ≤ i → g_clr c n p i = p i := fun i hi => by
    unfold g_clr
    rw [if_neg (by omega)]
  obtain ⟨a, b, d, e, f⟩ := hV
  refine ⟨fun k hk => ?_, by rw [eq 80 (by omega)]; exact b, fun k hk => ?_, fun s hs => ?_, by rw [eq 104 (by omega)]; exact f⟩
  · obtain ⟨a1, a2, a3, a4, a5⟩ := a k hk
    have l1 := le (5 * k)
    have l2 := le (5 * k + 1)
    have l3 := le (5 * k + 2)
    have l4 := le (5 * k + 3)
    have l5 := le (5 * k + 4)
    omega
  · rw [eq _ (by omega), eq _ (by omega), eq _ (by omega)]
    exact d k hk
  · rw [eq _ (by omega), eq _ (by omega)]
    exact e s hs
/-- its own crop alone can be ripe -/
theorem g_clr_ct {c W H R o : Nat} {p : Nat → Nat} (hD : hg_D W H R) (hc : c < W * H) (ho : p (5 * c + 4) = o) : g_ct (g_rp (g_clr c (W * H) p) W H R o) (W * H) = if g_rj (g_clr c (W * H) p) W H R c = true then 1 else 0 := by
  obtain ⟨n1, n2⟩ := hg_D_N hD
  have ho2 : g_clr c (W * H) p (5 * c + 4) = o := by
    unfold g_clr
    rw [if_neg (by omega)]
    exact ho
  have z : ∀ k, k < W * H → k ≠ c → g_rp (g_clr c (W * H) p) W H R o k = false := fun k hk hn => by
    unfold g_rp
    rw [show g_clr c (W * H) p (5 * k + 2) = 0 by unfold g_clr; rw [if_pos (by omega)]]
    rfl
  rw [g_ct_1 (q := fun _ => false) hc rfl (fun k hk hn => z k hk hn), g_ct_0 (fun _ _ => rfl)]
  unfold g_rp g_rj
  rw [ho2, decide_eq_true (rfl : o = o), Bool.and_true, Nat.zero_add]
theorem g_none {W H R c : Nat} {p : Nat → Nat} (hc : c < 16) (h : p (5 * c + 2) = 0) : ∀ n, g_wks W H R n p (5 * c + 2) = 0
  | 0 => h
  | n + 1 => by
    show g_wk W H R (g_wks W H R n p) (5 * c + 2) = 0
    rw [g_wk_2 hc, g_none hc h n]
    simp
theorem g_wks_add {W H R : Nat} {p : Nat → Nat} (m : Nat) : ∀ n, g_wks W H R (m + n) p = g_wks W H R n (g_wks W H R m p)
  | 0 => rfl
  | n + 1 => by
    show g_wk W H R (g_wks W H R (m + n) p) = g_wk W H R (g_wks W H R n (g_wks W H R m p))
    rw [g_wks_add m n]
def g_wq (W H R : Nat) (p : Nat → Nat) (c t : Nat) : Bool := g_rj (g_wks W H R t p) W H R c
/-- in which week a crop is ripe -/
def g_wh (W H R : Nat) (p : Nat → Nat) (c : Nat) : Int32 := if g_ft (g_wq W H R p c) 60 < 60 then nI (g_ft (g_wq W H R p c) 60 + 1) else - nI 4
theorem z_or2 {S β : Type} {o : Option (S ⊕ β)} {P : S → Prop} {Q : β → Prop} (h : ∃ x, o = some x ∧ ((∃ s', x = Sum.inl s' ∧ P s') ∨ (∃ b, x = Sum.inr b ∧ Q b))) : (∃ s', o = some (Sum.inl s') ∧ P s') ∨ (∃ b, o = some (Sum.inr b) ∧ Q b) := by
  obtain ⟨x, h1, h2⟩ := h
  rcases h2 with ⟨s', h3, h4⟩ | ⟨b, h3, h4⟩
  · exact Or.inl ⟨s', by rw [h1, h3], h4⟩
  · exact Or.inr ⟨b, by rw [h1, h3], h4⟩
section W5
variable {σ : zS} {p p' : Nat → Nat} {W H R : Nat}
theorem yy_when (hD : hg_D W H R) (hV : hg_V p R) (hG : hg_G1 σ p W H R) {c : Nat} (hc : c < W * H) (hk : ¬ p (5 * c + 2) = 0) (ha : 0 ≤ (nI c).toInt ∧ (nI c).toInt < ((W * H : Nat) : Int)) : ∃ g, f_Y_when (nI c) σ = some g ∧ g.1 = g_wh W H R p c ∧ ∀ k, (k < 17 ∨ 32 < k) → g.2 k = σ k := by
  obtain ⟨n1, n2⟩ := hg_D_N hD
  have hR := hD.2.2.2.2
  have v3 := (hV.1 c (by omega)).2.2.1
  obtain ⟨τ0, t1, t2, t3⟩ := yy_copy_17_1 hR hG
  have ib : ∀ {α : Type} (x y : α), (if z_ib (nI c) 16 = true then x else y) = x := fun x y => if_pos ((z_ibn (by omega)).mpr (by omega))
  unfold f_Y_when
  rw [y_hasCell_1 hD hG, z_bs, if_pos ha, if_neg (show ¬ nI 1 = 0 by decide)]
  simp only [ib, nI_clamp (show c < 2 ^ 31 by omega)]
  rw [hG.2.2.2.2.2.1 c (by omega), z_lit4, if_neg (fun z => hk ((g_k_0 v3).mp z)), t1, z_bs]
  refine z_lp (fun i (s : Int32 × zS) => s.1 = nI (i + 1) ∧ hg_G17 s.2 (g_wks W H R i p) W H R ∧ (∀ k, (k < 17 ∨ 32 < k) → s.2 k = σ k) ∧ ∀ j, j < i → g_wq W H R p c j = false) 60 ?_ ?_ ?_
  · exact ⟨rfl, t2, fun k hk => t3 k (by omega), fun j hj => absurd hj (by omega)⟩
  · intro i s hi hP
    obtain ⟨e1, e2, e3, e4⟩ := hP
    have hVi := hg_V_wks (W := W) (H := H) hR hV i
    have w3 := (hVi.1 c (by omega)).2.2.1
    rw [e1, nl60, if_neg (nI_nlt (by omega) (by omega)), e2.2.2.2.2.2.1 c (by omega)]
    by_cases hz : g_wks W H R i p (5 * c + 2) = 0
    · rw [if_pos ((g_k_0 w3).mpr hz)]
      right
      refine ⟨_, rfl, _, rfl, ?_, e3⟩
      have hall : ∀ j, j < 60 → g_wq W H R p c j = false := fun j hj => by
        by_cases cj : j < i
        · exact e4 j cj
        · have h0 := g_none (W := W) (H := H) (R := R) (by omega) hz (j - i)
          rw [← g_wks_add, show i + (j - i) = j by omega] at h0
          unfold g_wq g_rj
          rw [h0]
          rfl
      have := g_ft_is (g_wq W H R p c) 60 60 (Nat.le_refl _) hall (fun z => absurd z (by omega))
      unfold g_wh
      rw [this, if_neg (by omega)]
    · rw [if_neg (fun z => hz ((g_k_0 w3).mp z))]
      obtain ⟨τ, u1, u2, u4, u3⟩ := yy_goOn_17 hD hVi e2 (n := 1) (by omega)
      have u2' : hg_G17 τ (g_wks W H R (i + 1) p) W H R := u2
      have u4' := u4 rfl
      have hfr : ∀ k, (k < 17 ∨ 32 < k) → τ k = σ k := fun k hk => by rw [u3 k hk, e3 k hk]
      have hlt : g_bs (g_rj (g_wks W H R i p) W H R) (W * H) < 2 ^ 32 := Nat.lt_of_lt_of_le (g_bs_lt _ _) (Nat.pow_le_pow_right (by omega) (by omega))
      rw [nl1, u1, z_bs, u4', z_ubit hlt (show c < 32 by omega), g_bs_t, decide_eq_true hc, Bool.true_and]
      cases hq : g_rj (g_wks W H R i p) W H R c with
      | false =>
        left
        refine ⟨(nI (i + 1 + 1), τ), ?_, rfl, u2', hfr, fun j hj => ?_⟩
        · rw [nI_add]; exact if_pos rfl
        · by_cases cj : j = i
          · rw [cj]; exact hq
          · exact e4 j (by omega)
      | true =>
        right
        refine ⟨.inr (nI (i + 1), τ), if_neg (show ¬ nI (if true = true then 1 else 0) = 0 by decide), _, rfl, ?_, hfr⟩
        have := g_ft_is (g_wq W H R p c) 60 i (by omega) e4 (fun _ => hq)
        unfold g_wh
        rw [this, if_pos hi]
  · intro s hP
    obtain ⟨e1, e2, e3, e4⟩ := hP
    rw [e1, nl60, if_pos (nI_lt (by omega) (by omega))]
    refine ⟨_, rfl, _, rfl, ?_, e3⟩
    have := g_ft_is (g_wq W H R p c) 60 60 (Nat.le_refl _) e4 (fun z => absurd z (by omega))
    unfold g_wh
    rw [this, if_neg (by omega)]
theorem mm_when (hD : hg_D W H R) (hM : hg_M σ W H R) (hV : hg_V p R) (hB : hg_B p) (hQ : hg_Q σ 0 p) {c : Nat} (hc : c < W * H) (hk : ¬ p (5 * c + 2) = 0) (ha : 0 ≤ (nI c).toInt ∧ (nI c).toInt < ((W * H : Nat) : Int)) : ∃ g, f_M_when (nI c) σ = some g ∧ g.1 = g_wh W H R p c ∧ hg_O2 σ g.2 440 := by
  obtain ⟨n1, n2⟩ := hg_D_N hD
  have hR := hD.2.2.2.2
  have hB1 := hB.1
  have v3 := (hV.1 c (by omega)).2.2.1
  obtain ⟨τ0, t1, t2, t3⟩ := mm_cp0 hQ
  have hc0 : f_M_cropIn (nI 0) (nI c) σ = some (g_k p c) := mm_cropIn hV hQ (by omega) (by omega)
  have ix : nI 440 + nI 5 * nI c + nI 4 = nI (440 + (5 * c + 4)) := by rw [pk_mul, nI_add, nI_add, Nat.add_assoc]
  have ib : ∀ {α : Type} (x y : α), (if z_ib (nI (440 + (5 * c + 4))) 550 = true then x else y) = x := fun x y => if_pos ((z_ibn (by omega)).mpr (by omega))
  unfold f_M_when
  rw [mm_isCell hD hM, z_bs, if_pos ha, if_neg (show ¬ nI 1 = 0 by decide), z_lit4, nl0, nl440, nl5, nl4, hc0, z_bs, if_neg (fun z => hk ((g_k_0 v3).mp z)), t1, z_bs, ix]
  simp only [ib, nI_clamp (show 440 + (5 * c + 4) < 2 ^ 31 by omega), z_let]
  refine z_lp (fun i (s : Int32 × zS) => s.1 = nI (i + 1) ∧ (∃ q, hg_Q s.2 440 q ∧ hg_V q R ∧ g_RL c (g_wks W H R i p) q ∧ q 105 = p 105 + i ∧ ∀ o, o < 3 → q (106 + o) ≤ 16 * q 105) ∧ hg_O2 σ s.2 440 ∧ ∀ j, j < i → g_wq W H R p c j = false) 60 ?_ ?_ ?_
  · refine ⟨rfl, ⟨p, t2, hV, ⟨fun k hk => ⟨rfl, rfl, rfl⟩, rfl, rfl, fun i h1 h2 => rfl⟩, rfl, hB.2⟩, hg_O2_of t3, fun j hj => absurd hj (by omega)⟩
  · intro i s hi hP
    obtain ⟨e1, ⟨q, q1, q2, q3, q4, q5⟩, e3, e4⟩ := hP
    have vo := (q2.1 c (by omega)).2.2.2.2
    rw [e1, nl60, if_neg (nI_nlt (by omega) (by omega)), q1 _ (by omega), show (546 : Int32) + nI (q (5 * c + 4)) = nI (440 + (106 + q (5 * c + 4))) from by rw [show (546 : Int32) = nI 546 from rfl, nI_add, show 546 + q (5 * c + 4) = 440 + (106 + q (5 * c + 4)) by omega]]
    simp only [nl0, nl1, nl2]
    refine z_or2 (z_lp' (fun k (s : Int32 × zS) => s.1 = nI k ∧ hg_Q s.2 440 (g_clr c k q) ∧ hg_O2 σ s.2 440) (W * H) ?_ ?_ ?_)
    · refine ⟨rfl, fun k hk => ?_, e3⟩
      rw [q1 k hk]
      unfold g_clr
      rw [if_neg (by omega)]
    · intro k s hk2 hP
      obtain ⟨f1, f2, f3⟩ := hP
      have hM2 := hg_M_O hM f3
      rw [f1, hM2.1, hM2.2.1, pk_mul, if_neg (nI_ge hk2 (by omega))]
      simp only [z_join, z_let]
      by_cases hkc : k = c
      · rw [if_pos (show nI k = nI c by rw [hkc])]
        refine ⟨(nI (k + 1), s.2), by rw [nI_add], rfl, fun j hj => ?_, f3⟩
        rw [f2 j hj]
        unfold g_clr
        by_cases z : j < 80 ∧ j % 5 = 2 ∧ j / 5 < k ∧ ¬ j / 5 = c
        · rw [if_pos z, if_pos (by omega)]
        · rw [if_neg z, if_neg (by omega)]
      · rw [if_neg (show ¬ nI k = nI c by rw [nI_eq (by omega) (by omega)]; exact hkc)]
        simp (disch := omega) only [pk_mul, nI_add, k_ib, if_true, nI_clamp, Nat.add_assoc]
        refine ⟨(nI (k + 1), z_u s.2 91 (440 + (5 * k + 2)) (nI 0)), rfl, rfl, fun j hj => ?_, hg_O2_t f3 (hg_O2_of (hg_O_u (by omega)))⟩
        have g := hg_Q_up (i := 5 * k + 2) (v := 0) f2 j hj
        show z_u s.2 91 (440 + (5 * k + 2)) (nI 0) 91 (440 + j) = nI (g_clr c (k + 1) q j)
        rw [g]
        unfold g_up g_clr
        by_cases z : j = 5 * k + 2
        · rw [if_pos z, if_pos (by omega)]
        · rw [if_neg z]
          by_cases z : j < 80 ∧ j % 5 = 2 ∧ j / 5 < k ∧ ¬ j / 5 = c
          · rw [if_pos z, if_pos (by omega)]
          · rw [if_neg z, if_neg (by omega)]
    · intro g hP
      obtain ⟨f1, g2, g3⟩ := hP
      have hM2 := hg_M_O hM g3
      rw [f1, hM2.1, hM2.2.1, pk_mul, if_pos (nI_le (Nat.le_refl _) (by omega))]
      refine ⟨_, rfl, ?_⟩
      obtain ⟨τ, u1, u2, u3⟩ := mm_weeks hD (hg_M_O hM g3) (g_clr_V hR q2) g2 (by omega) (n := 1) (by omega)
      have u2' : hg_Q τ 440 (g_wk W H R (g_clr c (W * H) q)) := u2
      have hfr := hg_O2_t g3 u3
      have rl := g_RL_clr (n := W * H) q3
      have rl2 : g_RL c (g_wks W H R (i + 1) p) (g_wk W H R (g_clr c (W * H) q)) := g_RL_wk hD hc rl
      have hrj : g_wq W H R p c i = g_rj (g_clr c (W * H) q) W H R c := g_RL_rj hD hc rl
      have hct := g_clr_ct (R := R) hD hc (rfl : q (5 * c + 4) = q (5 * c + 4))
      have c105 : g_clr c (W * H) q 105 = q 105 := by unfold g_clr; rw [if_neg (by omega)]
      have cown : ∀ o, o < 3 → g_clr c (W * H) q (106 + o) = q (106 + o) := fun o ho => by unfold g_clr; rw [if_neg (by omega)]
      obtain ⟨b1, b2⟩ := hg_B_wk (p := g_clr c (W * H) q) hD (fun o ho => by rw [cown o ho, c105]; exact q5 o ho)
      have x0 : g.2 91 (440 + (106 + q (5 * c + 4))) = nI (q (106 + q (5 * c + 4))) := by rw [g2 _ (by omega), cown _ (by omega)]
      have x1 : τ 91 (440 + (106 + q (5 * c + 4))) = nI (q (106 + q (5 * c + 4)) + (if g_wq W H R p c i = true then 1 else 0)) := by rw [u2' _ (by omega), g_wk_r (by omega), cown _ (by omega), hct, hrj]
      have hle := q5 (q (5 * c + 4)) (by omega)
      rw [if_pos ((z_ibn (by omega)).mpr (by omega)), u1, z_bs, if_pos ((z_ibn (by omega)).mpr (by omega)), nI_clamp (by omega), x0, x1]
      cases hq : g_wq W H R p c i with
      | false =>
        rw [if_pos (show nI (q (106 + q (5 * c + 4)) + (if false = true then 1 else 0)) ≤ nI (q (106 + q (5 * c + 4))) from nI_le (by rw [if_neg Bool.false_ne_true]; omega) (by omega))]
        refine ⟨_, rfl, Or.inl ⟨(nI (i + 1 + 1), τ), by rw [nI_add], rfl, ⟨_, u2', hg_V_wk hR (g_clr_V hR q2), rl2, by rw [b1, c105, q4]; omega, b2⟩, hfr, fun j hj => ?_⟩⟩
        by_cases cj : j = i
        · rw [cj]; exact hq
        · exact e4 j (by omega)
      | true =>
        rw [if_neg (show ¬ nI (q (106 + q (5 * c + 4)) + (if true = true then 1 else 0)) ≤ nI (q (106 + q (5 * c + 4))) from nI_ge (by rw [if_pos rfl]; omega) (by rw [if_pos rfl]; omega))]
        refine ⟨_, rfl, Or.inr ⟨_, rfl, _, rfl, ?_, hfr⟩⟩
        have := g_ft_is (g_wq W H R p c) 60 i (by omega) e4 (fun _ => hq)
        unfold g_wh
        rw [this, if_pos hi]
  · intro s hP
    obtain ⟨e1, e2, e3, e4⟩ := hP
    rw [e1, nl60, if_pos (nI_lt (by omega) (by omega))]
    refine ⟨_, rfl, _, rfl, ?_, e3⟩
    have := g_ft_is (g_wq W H R p c) 60 60 (Nat.le_refl _) e4 (fun z => absurd z (by omega))
    unfold g_wh
    rw [this, if_neg (by omega)]
end W5
theorem c_when {σ : zS} (h : z_Inv σ) (a : Int32) : hc_B (f_Y_when a) (f_M_when a) σ := by
  obtain ⟨W, H, R, p, h⟩ := h
  obtain ⟨hD, hV, hG, hQ, hX, hB⟩ := id h
  obtain ⟨n1, n2⟩ := hg_D_N hD
  obtain ⟨d1, d2, d3, d4, d5⟩ := id hD
  obtain ⟨G0, G1, G2, G3, G4, G5, G6, G7, G8, G9, G10, G11, G12, G13, G14, G15, G16, G17⟩ := id hG
  have hM := hX.1
  have q := hg_Q0 hQ
  have hI : z_Inv σ := ⟨W, H, R, p, h⟩
  by_cases ha : 0 ≤ a.toInt ∧ a.toInt < ((W * H : Nat) : Int)
  · obtain ⟨c, hc, rfl⟩ := hg_arg (by omega) ha
    have v3 := (hV.1 c (by omega)).2.2.1
    by_cases hk : p (5 * c + 2) = 0
    · have hg0 := (g_k_0 v3).mpr hk
      have hc0 : f_M_cropIn (nI 0) (nI c) σ = some (g_k p c) := mm_cropIn hV hQ (by omega) (by omega)
      refine ⟨- nI 2, σ, σ, ?_, ?_, hI⟩
      · simp (disch := omega) only [f_Y_when, y_hasCell_1 hD hG, nl0, nl1, nl2, nl3, nl4, nl5, nl6, nl7, nl8, nl9, nl10, nl11, nl12, nl13, nl14, nl15, nl16, nl20, nl24, nl30, nl31, nl32, nl36, nl37, nl40, nl48, nl49, nl50, nl57, nl59, nl60, nl80, nl81, nl82, nl83, nl96, nl97, nl99, nl104, nl105, nl106, nl107, nl108, nl109, nl110, nl122, nl127, nl150, nl160, nl330, nl440, nl777, nl999, nl1000, nl1050, nl100000, nl1000000, nl111, z_bs, z_let, z_join, k_eq, k_ne, k_leT, k_leF, k_ltT, k_ltF, k_ib, k_ngT, nI_clamp, nI_add, pk_mul, pk_sub, if_true, if_false, true_or, or_true, false_or, or_false, true_and, and_true, false_and, and_false, not_true_eq_false, not_false_eq_true, hg_uu, ha, G5, hg0]
      · simp (disch := omega) only [f_M_when, mm_isCell hD hM, hc0, nl0, nl1, nl2, nl3, nl4, nl5, nl6, nl7, nl8, nl9, nl10, nl11, nl12, nl13, nl14, nl15, nl16, nl20, nl24, nl30, nl31, nl32, nl36, nl37, nl40, nl48, nl49, nl50, nl57, nl59, nl60, nl80, nl81, nl82, nl83, nl96, nl97, nl99, nl104, nl105, nl106, nl107, nl108, nl109, nl110, nl122, nl127, nl150, nl160, nl330, nl440, nl777, nl999, nl1000, nl1050, nl100000, nl1000000, nl111, z_bs, z_let, z_join, k_eq, k_ne, k_leT, k_leF, k_ltT, k_ltF, k_ib, k_ngT, nI_clamp, nI_add, pk_mul, pk_sub, if_true, if_false, true_or, or_true, false_or, or_false, true_and, and_true, false_and, and_false, not_true_eq_false, not_false_eq_true, hg_uu, ha, hg0]
    · exact hg_two h (yy_when hD hV hG hc hk ha) (fun τ _ hM2 hQ2 => mm_when hD hM2 hV hB hQ2 hc hk ha)
  · exact ⟨-1, σ, σ, by simp (disch := omega) only [f_Y_when, y_hasCell_1 hD hG, nl0, nl1, nl2, nl3, nl4, nl5, nl6, nl7, nl8, nl9, nl10, nl11, nl12, nl13, nl14, nl15, nl16, nl20, nl24, nl30, nl31, nl32, nl36, nl37, nl40, nl48, nl49, nl50, nl57, nl59, nl60, nl80, nl81, nl82, nl83, nl96, nl97, nl99, nl104, nl105, nl106, nl107, nl108, nl109, nl110, nl122, nl127, nl150, nl160, nl330, nl440, nl777, nl999, nl1000, nl1050, nl100000, nl1000000, nl111, z_bs, z_let, z_join, k_eq, k_ne, k_leT, k_leF, k_ltT, k_ltF, k_ib, k_ngT, nI_clamp, nI_add, pk_mul, pk_sub, if_true, if_false, true_or, or_true, false_or, or_false, true_and, and_true, false_and, and_false, not_true_eq_false, not_false_eq_true, hg_uu, ha], by simp (disch := omega) only [f_M_when, mm_isCell hD hM, nl0, nl1, nl2, nl3, nl4, nl5, nl6, nl7, nl8, nl9, nl10, nl11, nl12, nl13, nl14, nl15, nl16, nl20, nl24, nl30, nl31, nl32, nl36, nl37, nl40, nl48, nl49, nl50, nl57, nl59, nl60, nl80, nl81, nl82, nl83, nl96, nl97, nl99, nl104, nl105, nl106, nl107, nl108, nl109, nl110, nl122, nl127, nl150, nl160, nl330, nl440, nl777, nl999, nl1000, nl1050, nl100000, nl1000000, nl111, z_bs, z_let, z_join, k_eq, k_ne, k_leT, k_leF, k_ltT, k_ltF, k_ib, k_ngT, nI_clamp, nI_add, pk_mul, pk_sub, if_true, if_false, true_or, or_true, false_or, or_false, true_and, and_true, false_and, and_false, not_true_eq_false, not_false_eq_true, hg_uu, ha], hI⟩
