/-! stubble: the class -/
/-- the cells that count between calls -/
def zk (k : Nat) : Prop := k = 0 ∨ k = 35 ∨ k = 36 ∨ (44 ≤ k ∧ k ≤ 46) ∨ (50 ≤ k ∧ k ≤ 63) ∨ (66 ≤ k ∧ k ≤ 79) ∨ (82 ≤ k ∧ k ≤ 90) ∨ k = 92 ∨ (95 ≤ k ∧ k ≤ 97) ∨ (100 ≤ k ∧ k ≤ 104)
theorem hg_X_c2 {σ τ : zS} {W H R : Nat} (h : hg_X σ W H R) (e : ∀ k, zk k → τ k = σ k) (e2 : ∀ j, 110 ≤ j → j < 330 → τ 91 j = σ 91 j) : hg_X τ W H R := by
  unfold zk at e
  obtain ⟨h1, ⟨b0, b1, k1, k2, k3, k4, k5⟩, h3, h4, h5, h6, h7⟩ := h
  refine ⟨hg_M_c h1 (e 90 (by omega)) (e 92 (by omega)), ⟨b0, b1, ?_, ?_, ?_, fun hb => ?_, fun hb => ?_⟩, ?_, ?_, ?_, ?_, ?_⟩
  · rw [e 0 (by omega)]; exact k1
  · rw [e 101 (by omega)]; exact k2
  · rw [e 101 (by omega)]; exact k3
  · obtain ⟨p, p1, p2, p3⟩ := k4 hb
    exact ⟨p, p1, hg_G50_c p2 (fun k a b => e k (by omega)), fun k hk => by rw [e2 _ (by omega) (by omega)]; exact p3 k hk⟩
  · obtain ⟨p, p1, p2, p3⟩ := k5 hb
    exact ⟨p, p1, hg_G66_c p2 (fun k a b => e k (by omega)), fun k hk => by rw [e2 _ (by omega) (by omega)]; exact p3 k hk⟩
  · unfold I_t at *
    rw [e 35 (by omega), e 90 (by omega), e 36 (by omega), e 95 (by omega)]
    exact h3
  · unfold I_s at *
    rw [e 44 (by omega), e 90 (by omega), e 45 (by omega), e 46 (by omega), e 100 (by omega)]
    exact h4
  · unfold I_h I_h1 at *
    rw [e 82 (by omega), e 83 (by omega), e 84 (by omega), e 85 (by omega), e 86 (by omega), e 87 (by omega), e 88 (by omega), e 89 (by omega), e 102 (by omega), e 103 (by omega), e 104 (by omega)]
    exact h5
  · unfold I_f at *
    rw [e 0 (by omega), e 90 (by omega)]
    exact h6
  · unfold I_c at *
    rw [e 96 (by omega), e 97 (by omega)]
    exact h7
theorem hg_I_c2 {σ τ : zS} {W H R : Nat} {p : Nat → Nat} (h : hg_I σ W H R p) (e : ∀ k, (1 ≤ k ∧ k ≤ 14) ∨ zk k → τ k = σ k) (e2 : ∀ j, j < 330 → τ 91 j = σ 91 j) : z_Inv τ :=
  ⟨W, H, R, p, h.1, h.2.1, hg_G1_c h.2.2.1 (fun k a b => e k (Or.inl ⟨a, b⟩)), fun k hk => by rw [e2 _ (by omega)]; exact h.2.2.2.1 k hk, hg_X_c2 h.2.2.2.2.1 (fun k a => e k (Or.inr a)) (fun j a b => e2 j b), h.2.2.2.2.2⟩
def hg_sY (σ : zS) (Z : Nat) (wk sg : Nat → Nat) : Prop := σ 44 2 = nI Z ∧ Z ≤ 6 ∧ ∀ j, j < Z → wk j ≤ 4 ∧ sg j ≤ 4 ∧ σ 45 j = nI (wk j) ∧ σ 46 j = nI (sg j)
def hg_sM (σ : zS) (Z : Nat) (wk sg : Nat → Nat) : Prop := σ 90 26 = nI Z ∧ ∀ j, j < Z → σ 100 (2 * j) = nI (wk j) ∧ σ 100 (2 * j + 1) = nI (sg j)
theorem hg_sv {σ : zS} (h : I_s σ) : ∃ Z wk sg, hg_sY σ Z wk sg ∧ hg_sM σ Z wk sg := by
  obtain ⟨Z, h1, h2, h3, h4⟩ := h
  refine ⟨Z, fun j => (σ 45 j).toNatClampNeg, fun j => (σ 46 j).toNatClampNeg, ⟨h2, h1, fun j hj => ?_⟩, h3, fun j hj => ?_⟩
  · obtain ⟨w, s, a1, a2, a3, a4, a5, a6⟩ := h4 j hj
    simp only
    rw [a3, a4, nI_clamp (by omega), nI_clamp (by omega)]
    exact ⟨a1, a2, rfl, rfl⟩
  · obtain ⟨w, s, a1, a2, a3, a4, a5, a6⟩ := h4 j hj
    simp only
    rw [a3, a4, a5, a6, nI_clamp (by omega), nI_clamp (by omega)]
    exact ⟨rfl, rfl⟩
theorem hg_sY_c {σ τ : zS} {Z : Nat} {wk sg : Nat → Nat} (h : hg_sY σ Z wk sg) (e : τ 44 = σ 44) (e1 : τ 45 = σ 45) (e2 : τ 46 = σ 46) : hg_sY τ Z wk sg := by
  unfold hg_sY at *
  rw [e, e1, e2]
  exact h
/-- one seen is as told -/
def g_o1 (wk sg : Nat → Nat) (t s j : Nat) : Bool := !decide (wk j = t) || decide (sg j = s)
def g_ok (Z : Nat) (wk sg : Nat → Nat) (t s : Nat) : Bool := g_al (g_o1 wk sg t s) Z
section S1
variable {σ : zS} {Z : Nat} {wk sg : Nat → Nat}
theorem yy_asSeen (h : hg_sY σ Z wk sg) {t s : Nat} (ht : t < 5) (hs : s < 5) : f_St_isAsSeen_44 (nI t) (nI s) σ = some (nI (if g_ok Z wk sg t s = true then 1 else 0)) := by
  obtain ⟨h1, h2, h3⟩ := h
  unfold f_St_isAsSeen_44
  refine z_ex (z_lp (fun i (x : Int32) => x = nI i ∧ i ≤ Z ∧ ∀ j, j < i → g_o1 wk sg t s j = true) Z ?_ ?_ ?_)
  · exact ⟨rfl, by omega, fun j hj => absurd hj (by omega)⟩
  · intro i x hi hP
    obtain ⟨e1, e2, e3⟩ := hP
    subst e1
    obtain ⟨a1, a2, a3, a4⟩ := h3 i hi
    rw [h1, if_neg (nI_ge hi (by omega)), nl6, if_neg (nI_ge (by omega) (by omega))]
    simp only [z_join, if_pos ((z_ibn (show i < 2 ^ 31 by omega)).mpr (show i < 6 by omega)), nI_clamp (show i < 2 ^ 31 by omega), a3, a4, nI_eq (show wk i < 2 ^ 31 by omega) (show t < 2 ^ 31 by omega), nI_eq (show sg i < 2 ^ 31 by omega) (show s < 2 ^ 31 by omega)]
    by_cases c1 : wk i = t
    · rw [if_pos c1]
      by_cases c2 : sg i = s
      · rw [if_pos c2]
        left
        refine ⟨_, rfl, nI_1 i, by omega, fun j hj => ?_⟩
        by_cases cj : j = i
        · rw [cj]; unfold g_o1; rw [decide_eq_true c2, Bool.or_true]
        · exact e3 j (by omega)
      · rw [if_neg c2]
        right
        refine ⟨_, rfl, _, rfl, ?_⟩
        rw [if_neg]
        · rfl
        · intro z
          have := g_al_iff.mp z i hi
          unfold g_o1 at this
          rw [decide_eq_true c1, decide_eq_false c2] at this
          cases this
    · rw [if_neg c1]
      left
      refine ⟨_, rfl, nI_1 i, by omega, fun j hj => ?_⟩
      by_cases cj : j = i
      · rw [cj]; unfold g_o1; rw [decide_eq_false c1]; rfl
      · exact e3 j (by omega)
  · intro x hP
    obtain ⟨e1, e2, e3⟩ := hP
    subst e1
    rw [h1, if_pos (nI_le (Nat.le_refl _) (by omega))]
    refine ⟨_, rfl, _, rfl, ?_⟩
    rw [if_pos (show g_ok Z wk sg t s = true from g_al_iff.mpr e3)]
    rfl
/-- what is told of a row, as it stands in its cell -/
def g_rc (c : Nat → Nat) (t : Nat) : Int32 := if c t = 5 then - nI 1 else nI (c t)
def g_in (k : Nat) (c : Nat → Nat) (Z : Nat) (wk sg : Nat → Nat) (t s s' l : Nat) : Bool := g_ac c t l && decide (g_th k s l = s') && g_ok Z wk sg t s'
theorem yy_goFrom {k t s a : Nat} {c b : Nat → Nat} (hk : k < 5) (ht : t < 5) (hs : s < 5) (h : hg_sY σ Z wk sg) (hc : σ 47 t = g_rc c t) (hct : c t ≤ 5) (hb : ∀ s', s' < 5 → σ 49 s' = nI (b s')) (ha : σ 48 s = nI a) : ∃ τ, f_St_goFrom_44 (nI k) (nI t) (nI s) σ = some τ ∧ (∀ s', s' < 5 → τ 49 s' = nI (b s' + a * g_ct (g_in k c Z wk sg t s s') 5)) ∧ ∀ q, q ≠ 49 → τ q = σ q := by
  unfold f_St_goFrom_44
  refine z_lp' (fun l (x : Int32 × zS) => x.1 = nI l ∧ (∀ s', s' < 5 → x.2 49 s' = nI (b s' + a * g_ct (g_in k c Z wk sg t s s') l)) ∧ ∀ q, q ≠ 49 → x.2 q = σ q) 5 ?_ ?_ ?_
  · exact ⟨rfl, fun s' hs' => by show σ 49 s' = _; rw [hb s' hs', g_ct, Nat.mul_zero, Nat.add_zero], fun _ _ => rfl⟩
  · intro l x hl hP
    obtain ⟨e1, e2, e3⟩ := hP
    have hS2 : hg_sY x.2 Z wk sg := hg_sY_c h (e3 44 (by omega)) (e3 45 (by omega)) (e3 46 (by omega))
    have hth := g_th_lt (k := k) (l := l) hs
    rw [e1, nl4, if_neg (nI_nlt (by omega) (by omega))]
    rw [hg_join_to (x := nI (g_th k s l)) (by
      intro j
      unfold g_th
      by_cases q : s < 3
      · rw [nl3, if_neg (nI_ge q (by omega)), if_pos q, y_behind hk q hl, z_bs]
      · rw [nl3, if_pos (nI_le (by omega) (by omega)), if_neg q])]
    rw [if_pos ((z_ibn (show t < 2 ^ 31 by omega)).mpr ht)]
    rw [hg_join_to (x := nI (if g_ac c t l = true then 1 else 0)) (by
      intro j
      simp only [z_join]
      rw [nI_clamp (show t < 2 ^ 31 by omega), e3 47 (by omega), hc]
      unfold g_rc g_ac
      by_cases q : c t = 5
      · rw [if_pos q, if_pos (show (- nI 1 : Int32) = -1 from rfl), if_pos (by rw [decide_eq_true q]; rfl)]
        rfl
      · rw [if_neg q, if_neg (show ¬ nI (c t) = -1 from z_neg (b := 1) (by omega) (by omega) _ (by omega)), if_pos ((z_ibn (show t < 2 ^ 31 by omega)).mpr ht), decide_eq_false q, Bool.false_or]
        by_cases q2 : c t = l
        · rw [if_pos (show nI (c t) = nI l by rw [q2]), if_pos (decide_eq_true q2)]
          rfl
        · rw [if_neg (show ¬ nI (c t) = nI l by rw [nI_eq (by omega) (by omega)]; exact q2), if_neg (by rw [decide_eq_true_iff]; exact q2)]
          rfl)]
    simp only [z_join]
    cases hac : g_ac c t l with
    | false =>
      rw [if_pos (show nI (if false = true then 1 else 0) = 0 from rfl)]
      refine ⟨(nI (l + 1), x.2), by rw [nl1, nI_add], rfl, fun s' hs' => ?_, e3⟩
      rw [e2 s' hs', g_ct, show g_in k c Z wk sg t s s' l = false by unfold g_in; rw [hac]; rfl]
      rfl
    | true =>
      rw [if_neg (show ¬ nI (if true = true then 1 else 0) = 0 by decide), nl0, ki_0_4, z_bs, nI_toInt (by omega), if_pos (show (0 : Int) ≤ (g_th k s l : Int) ∧ (g_th k s l : Int) ≤ 4 by omega), if_neg (show ¬ nI 1 = nI 0 by decide), yy_asSeen hS2 ht hth, z_bs]
      cases hok : g_ok Z wk sg t (g_th k s l) with
      | false =>
        rw [if_pos (show nI (if false = true then 1 else 0) = nI 0 from rfl)]
        refine ⟨(nI (l + 1), x.2), by rw [nl1, nI_add], rfl, fun s' hs' => ?_, e3⟩
        rw [e2 s' hs', g_ct]
        have hf : g_in k c Z wk sg t s s' l = false := by
          unfold g_in
          by_cases q : g_th k s l = s'
          · rw [← q, hok, Bool.and_false]
          · rw [decide_eq_false q, Bool.and_false, Bool.false_and]
        rw [hf]
        rfl
      | true =>
        rw [if_neg (show ¬ nI (if true = true then 1 else 0) = nI 0 by decide), if_pos ((z_ibn (show g_th k s l < 2 ^ 31 by omega)).mpr hth), if_pos ((z_ibn (show s < 2 ^ 31 by omega)).mpr hs), if_pos ((z_ibn (show g_th k s l < 2 ^ 31 by omega)).mpr hth)]
        simp only [z_let]
        rw [nI_clamp (show g_th k s l < 2 ^ 31 by omega), nI_clamp (show s < 2 ^ 31 by omega), e3 48 (by omega), ha, e2 _ hth, nI_add]
        refine ⟨(nI (l + 1), z_u x.2 49 (g_th k s l) (nI (b (g_th k s l) + a * g_ct (g_in k c Z wk sg t s (g_th k s l)) l + a))), by rw [nl1, nI_add], rfl, fun s' hs' => ?_, fun q hq => by show z_u x.2 49 (g_th k s l) (nI (b (g_th k s l) + a * g_ct (g_in k c Z wk sg t s (g_th k s l)) l + a)) q = σ q; rw [hg_u_n hq]; exact e3 q hq⟩
        show z_u x.2 49 (g_th k s l) (nI (b (g_th k s l) + a * g_ct (g_in k c Z wk sg t s (g_th k s l)) l + a)) 49 s' = _
        rw [g_ct]
        by_cases q : s' = g_th k s l
        · subst q
          have ht2 : g_in k c Z wk sg t s (g_th k s l) l = true := by
            unfold g_in
            rw [hac, hok, decide_eq_true rfl]
            rfl
          rw [hg_u_s, ht2, if_pos rfl, Nat.mul_add, Nat.mul_one, Nat.add_assoc]
        · have hf : g_in k c Z wk sg t s s' l = false := by
            unfold g_in
            rw [decide_eq_false (fun z => q z.symm), Bool.and_false, Bool.false_and]
          rw [hg_u_j q, e2 s' hs', hf]
          rfl
  · intro x hP
    obtain ⟨e1, e2, e3⟩ := hP
    rw [e1, nl4, if_pos (nI_lt (by omega) (by omega))]
    exact ⟨_, rfl, _, rfl, e2, e3⟩
theorem y_fill_47 (a : Int32) (σ : zS) : f_JA_fill_47 a σ = some (hg_fl σ 47 5 a) := by
  unfold f_JA_fill_47
  rw [hg_fill 47 5 5 rfl (by omega)]
  rfl
theorem y_fill_48 (a : Int32) (σ : zS) : f_JA_fill_48 a σ = some (hg_fl σ 48 5 a) := by
  unfold f_JA_fill_48
  rw [hg_fill 48 5 5 rfl (by omega)]
  rfl
theorem y_fill_49 (a : Int32) (σ : zS) : f_JA_fill_49 a σ = some (hg_fl σ 49 5 a) := by
  unfold f_JA_fill_49
  rw [hg_fill 49 5 5 rfl (by omega)]
  rfl
theorem yy_frow {k w : Nat} {c : Nat → Nat} (hk : k < 5) (hw : w ≤ 5) (h : hg_sY σ Z wk sg) (hc : ∀ t, t < 5 → σ 47 t = g_rc c t) (hct : ∀ t, t < 5 → c t ≤ 5) : ∃ g, f_St_fittingRow_44 (nI k) (nI w) σ = some g ∧ g.1 = nI (g_ct (g_fc k c (g_ok Z wk sg) w 0 0) (5 ^ w)) ∧ ∀ q, q ≠ 48 → q ≠ 49 → g.2 q = σ q := by
  unfold f_St_fittingRow_44
  rw [y_fill_48, z_bs, z_let_e]
  refine z_lp' (fun t (x : Int32 × zS) => x.1 = nI t ∧ (∀ s, s < 5 → x.2 48 s = nI (g_wy k c (g_ok Z wk sg) t s)) ∧ ∀ q, q ≠ 48 → q ≠ 49 → x.2 q = σ q) w ?_ ?_ ?_
  · refine ⟨rfl, fun s hs => ?_, fun q h1 h2 => ?_⟩
    · show z_u (hg_fl σ 48 5 0) 48 (0 : Int32).toNatClampNeg 1 48 s = _
      rw [show (0 : Int32).toNatClampNeg = 0 from rfl, g_wy]
      by_cases z : s = 0
      · subst z
        rw [hg_u_s, if_pos rfl]
        rfl
      · rw [hg_u_j z, hg_fl_s hs, if_neg z]
        rfl
    · show z_u (hg_fl σ 48 5 0) 48 (0 : Int32).toNatClampNeg 1 q = _
      rw [hg_u_n h1, hg_fl_n h1]
  · intro t x ht hP
    obtain ⟨e1, e2, e3⟩ := hP
    have hS2 : hg_sY (hg_fl x.2 49 5 0) Z wk sg := hg_sY_c h (by rw [hg_fl_n (by omega), e3 44 (by omega) (by omega)]) (by rw [hg_fl_n (by omega), e3 45 (by omega) (by omega)]) (by rw [hg_fl_n (by omega), e3 46 (by omega) (by omega)])
    rw [e1, if_neg (nI_ge ht (by omega)), y_fill_49, z_bs]
    refine z_inl ?_
    refine z_lp' (fun s (y : Int32 × zS) => y.1 = nI s ∧ (∀ s', s' < 5 → y.2 49 s' = nI (g_s5 (fun s => g_wy k c (g_ok Z wk sg) t s * g_ct (g_in k c Z wk sg t s s') 5) s)) ∧ ∀ q, q ≠ 49 → y.2 q = x.2 q) 5 ?_ ?_ ?_
    · refine ⟨rfl, fun s' hs' => ?_, fun q hq => ?_⟩
      · show hg_fl x.2 49 5 0 49 s' = _
        rw [hg_fl_s hs']
        rfl
      · show hg_fl x.2 49 5 0 q = _
        rw [hg_fl_n hq]
    · intro s y hs hP
      obtain ⟨f1, f2, f3⟩ := hP
      have hS3 : hg_sY y.2 Z wk sg := hg_sY_c h (by rw [f3 44 (by omega), e3 44 (by omega) (by omega)]) (by rw [f3 45 (by omega), e3 45 (by omega) (by omega)]) (by rw [f3 46 (by omega), e3 46 (by omega) (by omega)])
      obtain ⟨τ, g1, g2, g3⟩ := yy_goFrom (a := g_wy k c (g_ok Z wk sg) t s) (c := c) hk (show t < 5 by omega) hs hS3 (by rw [f3 47 (by omega), e3 47 (by omega) (by omega)]; exact hc t (by omega)) (hct t (by omega)) f2 (by rw [f3 48 (by omega)]; exact e2 s hs)
      rw [f1, nl5, if_neg (nI_ge hs (by omega)), g1, z_bs]
      exact ⟨(nI (s + 1), τ), by rw [nl1, nI_add], rfl, g2, fun q hq => by rw [show ((nI (s + 1), τ) : Int32 × zS).2 = τ from rfl, g3 q hq, f3 q hq]⟩
    · intro y hP
      obtain ⟨f1, f2, f3⟩ := hP
      rw [f1, nl5, if_pos (nI_le (Nat.le_refl _) (by omega))]
      refine ⟨_, rfl, ?_⟩
      rw [z_let_e]
      refine ⟨_, rfl, (nI (t + 1), z_cp y.2 49 48 0 0 5), by rw [nl1, nI_add], rfl, fun s hs => ?_, fun q h1 h2 => ?_⟩
      · show z_cp y.2 49 48 0 0 5 48 s = _
        rw [hg_cp_s hs, f2 s hs]
        rfl
      · show z_cp y.2 49 48 0 0 5 q = _
        rw [hg_cp_n h1, f3 q h2, e3 q h1 h2]
  · intro x hP
    obtain ⟨e1, e2, e3⟩ := hP
    rw [e1, if_pos (nI_le (Nat.le_refl _) (by omega))]
    refine ⟨_, rfl, ?_⟩
    refine z_lp' (fun i (y : Int32 × Int32) => y.2 = nI i ∧ i ≤ 5 ∧ y.1 = nI (g_s5 (g_wy k c (g_ok Z wk sg) w) i)) 5 ?_ ?_ ?_
    · exact ⟨rfl, by omega, rfl⟩
    · intro i y hi hP
      obtain ⟨f1, f2, f3⟩ := hP
      rw [f1, f3, nl5, if_neg (nI_ge hi (by omega)), if_pos ((z_ibn (show i < 2 ^ 31 by omega)).mpr hi), nI_clamp (by omega), e2 i hi, nI_add, z_let_e, nl1, nI_add]
      exact ⟨_, rfl, rfl, by omega, rfl⟩
    · intro y hP
      obtain ⟨f1, f2, f3⟩ := hP
      rw [f1, f3, nl5, if_pos (nI_le (Nat.le_refl _) (by omega))]
      refine ⟨_, rfl, _, rfl, ?_, e3⟩
      rw [g_wy_all, g_ct_fc]
theorem yy_fitting {k w : Nat} (hk : k < 5) (hw : w ≤ 5) (h : hg_sY σ Z wk sg) : ∃ g, f_St_fitting_44 (nI k) (nI w) σ = some g ∧ g.1 = nI (g_ct (g_fc k g_any (g_ok Z wk sg) w 0 0) (5 ^ w)) ∧ (∀ t, t < 5 → g.2 47 t = - nI 1) ∧ ∀ q, q ≠ 47 → q ≠ 48 → q ≠ 49 → g.2 q = σ q := by
  have hS2 : hg_sY (hg_fl σ 47 5 (-1)) Z wk sg := hg_sY_c h (hg_fl_n (by omega)) (hg_fl_n (by omega)) (hg_fl_n (by omega))
  obtain ⟨g, g1, g2, g3⟩ := yy_frow (c := g_any) hk hw hS2 (fun t ht => by rw [hg_fl_s ht]; rfl) (fun t ht => Nat.le_refl 5)
  unfold f_St_fitting_44
  rw [y_fill_47, z_bs, g1, z_bs]
  exact ⟨_, rfl, g2, fun t ht => by rw [show (g.1, g.2).2 = g.2 from rfl, g3 47 (by omega) (by omega), hg_fl_s ht]; rfl, fun q h1 h2 h3 => by rw [show (g.1, g.2).2 = g.2 from rfl, g3 q h2 h3, hg_fl_n h1]⟩
/-- the first row, as the class finds it -/
def g_fr (k w : Nat) (ok : Nat → Nat → Bool) : Int32 := if g_ct (g_fc k g_any ok w 0 0) (5 ^ w) = 0 then - nI 4 else nI (g_ft (g_fc k g_any ok w 0 0) (5 ^ w))
theorem g_N_lt (q : Nat → Bool) {w : Nat} (hw : w ≤ 5) : g_ct q (5 ^ w) < 2 ^ 31 := by
  have h1 := g_ct_le q (5 ^ w)
  have h2 : 5 ^ w ≤ 5 ^ 5 := Nat.pow_le_pow_right (by omega) hw
  omega
theorem g_p5 {w : Nat} (hw : w ≤ 5) : 0 < 5 ^ w ∧ 5 ^ w ≤ 3125 := ⟨Nat.pow_pos (by omega), by have h := Nat.pow_le_pow_right (show 0 < 5 by omega) hw; omega⟩
theorem yy_firstRow {k w : Nat} (hk : k < 5) (hw : w ≤ 5) (h : hg_sY σ Z wk sg) : ∃ g, f_St_firstFitting_44 (nI k) (nI w) σ = some g ∧ g.1 = g_fr k w (g_ok Z wk sg) ∧ ∀ q, q ≠ 47 → q ≠ 48 → q ≠ 49 → g.2 q = σ q := by
  obtain ⟨r, r1, r2, r3, r4⟩ := yy_fitting hk hw h
  have hN := g_N_lt (g_fc k g_any (g_ok Z wk sg) w 0 0) hw
  unfold f_St_firstFitting_44 g_fr
  rw [r1, z_bs, r2]
  by_cases hz : g_ct (g_fc k g_any (g_ok Z wk sg) w 0 0) (5 ^ w) = 0
  · rw [if_pos hz, if_pos (show nI (g_ct (g_fc k g_any (g_ok Z wk sg) w 0 0) (5 ^ w)) = 0 by rw [hz]; rfl)]
    exact ⟨_, rfl, rfl, r4⟩
  rw [if_neg hz, if_neg (show ¬ nI (g_ct (g_fc k g_any (g_ok Z wk sg) w 0 0) (5 ^ w)) = 0 by rw [nl0, nI_eq hN (by omega)]; exact hz)]
  have hM : g_ft (g_fc k g_any (g_ok Z wk sg) w 0 0) (5 ^ w) < 5 ^ w := g_ft_pos.mpr (by omega)
  have hgr := fun (t l : Nat) (h1 : t < w) (h2 : l < 5) => g_greedy (k := k) (w := w) (t := t) (l := l) (ok := g_ok Z wk sg) h1 h2 hM
  generalize g_ft (g_fc k g_any (g_ok Z wk sg) w 0 0) (5 ^ w) = M at hM hgr ⊢
  obtain ⟨w0, w1⟩ := g_p5 hw
  refine z_lp' (fun t (x : Int32 × Int32 × zS) => x.1 = nI (M / 5 ^ (w - t)) ∧ x.2.1 = nI t ∧ t ≤ w ∧ (∀ j, j < 5 → x.2.2 47 j = g_rc (g_pf w M t) j) ∧ ∀ q, q ≠ 47 → q ≠ 48 → q ≠ 49 → x.2.2 q = σ q) w ?_ ?_ ?_
  · refine ⟨?_, rfl, by omega, fun j hj => ?_, r4⟩
    · rw [Nat.sub_zero, Nat.div_eq_of_lt hM]
      rfl
    · rw [r3 j hj]
      unfold g_rc
      rw [show g_pf w M 0 j = 5 from if_neg (Nat.not_lt_zero j), if_pos rfl]
  · intro t x ht hP
    obtain ⟨e1, e2, -, e3, e4⟩ := hP
    have hd := Nat.mod_lt (M / 5 ^ (w - 1 - t)) (show 0 < 5 by omega)
    have hdl : M / 5 ^ (w - t) ≤ M := Nat.div_le_self _ _
    rw [e1, e2, if_neg (nI_ge ht (by omega)), if_pos ((z_ibn (show t < 2 ^ 31 by omega)).mpr (show t < 5 by omega)), nI_clamp (show t < 2 ^ 31 by omega), z_let_e]
    refine z_inl ?_
    refine z_lp (fun l (y : zS) => l ≤ M / 5 ^ (w - 1 - t) % 5 ∧ (∀ j, j < 5 → y 47 j = g_rc (fun j => if j = t then l else g_pf w M t j) j) ∧ ∀ q, q ≠ 47 → q ≠ 48 → q ≠ 49 → y q = σ q) 4 ?_ ?_ ?_
    · refine ⟨by omega, fun j hj => ?_, fun q h1 h2 h3 => by rw [hg_u_n h1]; exact e4 q h1 h2 h3⟩
      by_cases cj : j = t
      · subst cj
        rw [hg_u_s]
        unfold g_rc
        simp only [if_true]
        rfl
      · rw [hg_u_j cj, e3 j hj]
        unfold g_rc
        simp only [if_neg cj]
    · intro l y hl hP
      obtain ⟨f1, f2, f3⟩ := hP
      have hS2 : hg_sY y Z wk sg := hg_sY_c h (f3 44 (by omega) (by omega) (by omega)) (f3 45 (by omega) (by omega) (by omega)) (f3 46 (by omega) (by omega) (by omega))
      have vl : y 47 t = nI l := by
        rw [f2 t (by omega)]
        unfold g_rc
        simp only [if_true]
        rw [if_neg (by omega)]
      obtain ⟨g, g1, g2, g3⟩ := yy_frow (c := fun j => if j = t then l else g_pf w M t j) hk hw hS2 f2 (fun j hj => by
        have := Nat.mod_lt (M / 5 ^ (w - 1 - j)) (show 0 < 5 by omega)
        simp only [g_pf]
        split
        · omega
        · split <;> omega)
      have gr := hgr t l ht (by omega) f1
      have hN2 := g_N_lt (g_fc k (fun j => if j = t then l else g_pf w M t j) (g_ok Z wk sg) w 0 0) hw
      rw [if_pos ((z_ibn (show t < 2 ^ 31 by omega)).mpr (show t < 5 by omega)), vl, nl4, if_neg (nI_ge hl (by omega)), g1, z_bs, g2]
      by_cases cl : l < M / 5 ^ (w - 1 - t) % 5
      · rw [if_pos (show nI (g_ct (g_fc k (fun j => if j = t then l else g_pf w M t j) (g_ok Z wk sg) w 0 0) (5 ^ w)) = 0 by rw [gr.mpr cl]; rfl), if_pos ((z_ibn (show t < 2 ^ 31 by omega)).mpr (show t < 5 by omega)), if_pos ((z_ibn (show t < 2 ^ 31 by omega)).mpr (show t < 5 by omega)), z_let_e, g3 47 (by omega) (by omega), vl, nl1, nI_add]
        left
        refine ⟨_, rfl, by omega, fun j hj => ?_, fun q h1 h2 h3 => by rw [hg_u_n h1, g3 q h2 h3, f3 q h1 h2 h3]⟩
        by_cases cj : j = t
        · subst cj
          rw [hg_u_s]
          unfold g_rc
          simp only [if_true]
          rw [if_neg (by omega)]
        · rw [hg_u_j cj, g3 47 (by omega) (by omega), f2 j hj]
          unfold g_rc
          simp only [if_neg cj]
      · rw [if_neg (show ¬ nI (g_ct (g_fc k (fun j => if j = t then l else g_pf w M t j) (g_ok Z wk sg) w 0 0) (5 ^ w)) = 0 by rw [nl0, nI_eq hN2 (by omega)]; exact fun z => cl (gr.mp z))]
        right
        refine ⟨_, rfl, ?_⟩
        rw [if_pos ((z_ibn (show t < 2 ^ 31 by omega)).mpr (show t < 5 by omega)), g3 47 (by omega) (by omega), vl, z_let_e, nl5, pk_mul, nI_add, nl1, nI_add]
        have up := g_up1 (m := M) (a := w - 1 - t)
        rw [show w - 1 - t + 1 = w - t by omega] at up
        refine ⟨_, rfl, _, rfl, ?_, rfl, by omega, fun j hj => ?_, fun q h1 h2 h3 => by show g.2 q = σ q; rw [g3 q h2 h3, f3 q h1 h2 h3]⟩
        · show nI (5 * (M / 5 ^ (w - t)) + l) = nI (M / 5 ^ (w - (t + 1)))
          rw [show w - (t + 1) = w - 1 - t by omega, up, show l = M / 5 ^ (w - 1 - t) % 5 by omega]
        · show g.2 47 j = _
          rw [g3 47 (by omega) (by omega), f2 j hj]
          unfold g_rc g_pf
          by_cases cj : j = t
          · subst cj
            simp only [if_true]
            rw [if_pos (show j < j + 1 by omega), show l = M / 5 ^ (w - 1 - j) % 5 by omega]
          · simp only [if_neg cj]
            by_cases ct : j < t
            · rw [if_pos ct, if_pos (show j < t + 1 by omega)]
            · rw [if_neg ct, if_neg (show ¬ j < t + 1 by omega)]
    · intro y hP
      obtain ⟨f1, f2, f3⟩ := hP
      have vl : y 47 t = nI 4 := by
        rw [f2 t (by omega)]
        unfold g_rc
        simp only [if_true]
        rw [if_neg (by omega)]
      rw [if_pos ((z_ibn (show t < 2 ^ 31 by omega)).mpr (show t < 5 by omega)), vl, nl4, if_pos (nI_le (Nat.le_refl _) (by omega))]
      refine ⟨_, rfl, ?_⟩
      rw [if_pos ((z_ibn (show t < 2 ^ 31 by omega)).mpr (show t < 5 by omega)), vl, z_let_e, nl5, pk_mul, nI_add, nl1, nI_add]
      have up := g_up1 (m := M) (a := w - 1 - t)
      rw [show w - 1 - t + 1 = w - t by omega] at up
      refine ⟨_, rfl, _, rfl, ?_, rfl, by omega, fun j hj => ?_, f3⟩
      · show nI (5 * (M / 5 ^ (w - t)) + 4) = nI (M / 5 ^ (w - (t + 1)))
        rw [show w - (t + 1) = w - 1 - t by omega, up, show M / 5 ^ (w - 1 - t) % 5 = 4 by omega]
      · show y 47 j = _
        rw [f2 j hj]
        unfold g_rc g_pf
        by_cases cj : j = t
        · subst cj
          simp only [if_true]
          rw [if_pos (show j < j + 1 by omega), show M / 5 ^ (w - 1 - j) % 5 = 4 by omega]
        · simp only [if_neg cj]
          by_cases ct : j < t
          · rw [if_pos ct, if_pos (show j < t + 1 by omega)]
          · rw [if_neg ct, if_neg (show ¬ j < t + 1 by omega)]
  · intro x hP
    obtain ⟨e1, e2, -, e3, e4⟩ := hP
    rw [e2, if_pos (nI_le (Nat.le_refl _) (by omega))]
    refine ⟨_, rfl, _, rfl, ?_, e4⟩
    rw [e1, Nat.sub_self, Nat.pow_zero, Nat.div_one]
/-- a season that lay in a week by all rows -/
def g_on (k w t : Nat) (ok : Nat → Nat → Bool) (l : Nat) : Bool := decide (0 < g_ct (g_fc k g_any ok w 0 0) (5 ^ w)) && decide (g_ct (g_fc k (fun j => if j = t then l else 5) ok w 0 0) (5 ^ w) = g_ct (g_fc k g_any ok w 0 0) (5 ^ w))
def g_sr (k w t : Nat) (ok : Nat → Nat → Bool) : Int32 := if g_ft (g_on k w t ok) 5 < 5 then nI (g_ft (g_on k w t ok) 5) else - nI 4
theorem yy_onlyOne {k w t : Nat} (hk : k < 5) (hw : w ≤ 5) (ht : t < w) (h : hg_sY σ Z wk sg) : ∃ g, f_St_onlyOne_44 (nI k) (nI w) (nI t) σ = some g ∧ g.1 = g_sr k w t (g_ok Z wk sg) ∧ ∀ q, q ≠ 47 → q ≠ 48 → q ≠ 49 → g.2 q = σ q := by
  obtain ⟨r, r1, r2, r3, r4⟩ := yy_fitting hk hw h
  have hN := g_N_lt (g_fc k g_any (g_ok Z wk sg) w 0 0) hw
  unfold f_St_onlyOne_44
  rw [r1, z_bs, r2]
  refine z_lp (fun l (x : Int32 × zS) => x.1 = nI l ∧ (∀ j, j < 5 → j ≠ t → x.2 47 j = - nI 1) ∧ (∀ q, q ≠ 47 → q ≠ 48 → q ≠ 49 → x.2 q = σ q) ∧ ∀ j, j < l → g_on k w t (g_ok Z wk sg) j = false) 5 ?_ ?_ ?_
  · exact ⟨rfl, fun j hj _ => r3 j hj, r4, fun j hj => absurd hj (by omega)⟩
  · intro l x hl hP
    obtain ⟨e1, e2, e3, e4⟩ := hP
    rw [e1, nl4, if_neg (nI_nlt (by omega) (by omega))]
    by_cases hz : g_ct (g_fc k g_any (g_ok Z wk sg) w 0 0) (5 ^ w) = 0
    · rw [if_pos (show nI (g_ct (g_fc k g_any (g_ok Z wk sg) w 0 0) (5 ^ w)) ≤ 0 by rw [hz]; decide)]
      right
      refine ⟨_, rfl, _, rfl, ?_, e3⟩
      have hall : ∀ j, j < 5 → g_on k w t (g_ok Z wk sg) j = false := fun j hj => by
        unfold g_on
        rw [hz]
        rfl
      have := g_ft_is (g_on k w t (g_ok Z wk sg)) 5 5 (Nat.le_refl _) hall (fun z => absurd z (by omega))
      unfold g_sr
      rw [this, if_neg (by omega)]
    · rw [nl0, if_neg (nI_ge (show 0 < g_ct (g_fc k g_any (g_ok Z wk sg) w 0 0) (5 ^ w) by omega) hN), if_pos ((z_ibn (show t < 2 ^ 31 by omega)).mpr (show t < 5 by omega)), nI_clamp (show t < 2 ^ 31 by omega), z_let_e]
      have hS2 : hg_sY (z_u x.2 47 t (nI l)) Z wk sg := hg_sY_c h (by rw [hg_u_n (by omega), e3 44 (by omega) (by omega) (by omega)]) (by rw [hg_u_n (by omega), e3 45 (by omega) (by omega) (by omega)]) (by rw [hg_u_n (by omega), e3 46 (by omega) (by omega) (by omega)])
      obtain ⟨g, g1, g2, g3⟩ := yy_frow (c := fun j => if j = t then l else 5) hk hw hS2 (fun j hj => by
        unfold g_rc
        by_cases cj : j = t
        · subst cj
          simp only [if_true]
          rw [hg_u_s, if_neg (by omega)]
        · simp only [if_neg cj, if_true]
          rw [hg_u_j cj, e2 j hj cj]) (fun j hj => by
        show (if j = t then l else 5) ≤ 5
        split <;> omega)
      have hN2 := g_N_lt (g_fc k (fun j => if j = t then l else 5) (g_ok Z wk sg) w 0 0) hw
      have hfr : ∀ q, q ≠ 47 → q ≠ 48 → q ≠ 49 → g.2 q = σ q := fun q h1 h2 h3 => by rw [g3 q h2 h3, hg_u_n h1, e3 q h1 h2 h3]
      rw [g1, z_bs, g2]
      by_cases ce : g_ct (g_fc k (fun j => if j = t then l else 5) (g_ok Z wk sg) w 0 0) (5 ^ w) = g_ct (g_fc k g_any (g_ok Z wk sg) w 0 0) (5 ^ w)
      · rw [if_pos (by rw [ce])]
        right
        refine ⟨_, rfl, _, rfl, ?_, hfr⟩
        have hon : g_on k w t (g_ok Z wk sg) l = true := by
          unfold g_on
          rw [decide_eq_true (show 0 < g_ct (g_fc k g_any (g_ok Z wk sg) w 0 0) (5 ^ w) by omega), decide_eq_true ce]
          rfl
        have := g_ft_is (g_on k w t (g_ok Z wk sg)) 5 l (by omega) e4 (fun _ => hon)
        unfold g_sr
        rw [this, if_pos hl]
      · rw [if_neg (by rw [nI_eq hN2 hN]; exact ce)]
        left
        refine ⟨(nI (l + 1), g.2), by rw [nl1, nI_add], rfl, fun j hj hn => ?_, hfr, fun j hj => ?_⟩
        · show g.2 47 j = _
          rw [g3 47 (by omega) (by omega), hg_u_j hn, e2 j hj hn]
        · by_cases cj : j = l
          · rw [cj]
            unfold g_on
            rw [decide_eq_false ce, Bool.and_false]
          · exact e4 j (by omega)
  · intro x hP
    obtain ⟨e1, e2, e3, e4⟩ := hP
    rw [e1, nl4, if_pos (nI_lt (by omega) (by omega))]
    refine ⟨_, rfl, _, rfl, ?_, e3⟩
    have := g_ft_is (g_on k w t (g_ok Z wk sg)) 5 5 (Nat.le_refl _) e4 (fun z => absurd z (by omega))
    unfold g_sr
    rw [this, if_neg (by omega)]
end S1
