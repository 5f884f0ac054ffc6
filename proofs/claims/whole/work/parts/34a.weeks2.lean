/-! calls of weeks: drift, most, fence, blame -/
theorem hg_V_lay {p : Nat → Nat} {R c s y : Nat} (hR : R ≤ 5) (hV : hg_V p R) (hc : c < 16) (hs : s ≤ 3) (hy : y ≤ 9) : hg_V (g_up (g_up p (5 * c) s) (5 * c + 1) y) R :=
  (hg_V_up hR (hg_V_up hR hV (by intros; omega) (by intros; omega) (by intros; omega) (by intros; omega) (by intros; omega) (by intros; omega) (by intros; omega) (by intros; omega) (by intros; omega) (by intros; omega) (by intros; omega) (by intros; omega)) (by intros; omega) (by intros; omega) (by intros; omega) (by intros; omega) (by intros; omega) (by intros; omega) (by intros; omega) (by intros; omega) (by intros; omega) (by intros; omega) (by intros; omega) (by intros; omega))
def g_sd (x : Int32) : Int32 := x * (1103515245 : Int32) + (12345 : Int32)
def g_bt (x : Int32) : Nat := x.toBitVec.toNat / 2 ^ 16 % 2 ^ 15
theorem g_bt_Y (x : Int32) : ((x.toUInt32 >>> ((16 : Int32).toUInt32 &&& Int32.toUInt32 31)).toInt32) &&& (32767 : Int32) = nI (g_bt x) := by
  rw [pk_and _ 15 (show (32767 : Int32).toBitVec.toNat = 2 ^ 15 - 1 from rfl), pk_ushr x (16 : Int32) 16 (by decide)]
  rfl
theorem g_bt_M (x : Int32) : (x >>> ((16 : Int32) &&& 31)) &&& (32767 : Int32) = nI (g_bt x) := by
  rw [pk_and _ 15 (show (32767 : Int32).toBitVec.toNat = 2 ^ 15 - 1 from rfl)]
  have h1 := pk_shr x ((16 : Int32) &&& 31) 16 (by decide)
  rw [Int.shiftRight_eq_div_pow] at h1
  generalize x >>> ((16 : Int32) &&& 31) = y at h1
  have h2 : y.toInt = y.toBitVec.toInt := rfl
  have h3 : x.toInt = x.toBitVec.toInt := rfl
  rw [h2, h3, BitVec.toInt_eq_toNat_cond, BitVec.toInt_eq_toNat_cond] at h1
  have h4 := y.toBitVec.isLt
  have h5 := x.toBitVec.isLt
  unfold g_bt
  congr 1
  split at h1 <;> split at h1 <;> omega
theorem g_bt_lt (x : Int32) : g_bt x < 2 ^ 15 := Nat.mod_lt _ (by omega)
def g_d1 (W H R : Nat) (s : Int32 × (Nat → Nat)) : Int32 × (Nat → Nat) := (g_sd (g_sd s.1), g_wk W H R (g_up (g_up s.2 (5 * (g_bt (g_sd s.1) % (W * H))) (g_bt (g_sd (g_sd s.1)) % 4)) (5 * (g_bt (g_sd s.1) % (W * H)) + 1) 2))
def g_dr (W H R : Nat) (x : Int32) (p : Nat → Nat) : Nat → Int32 × (Nat → Nat)
  | 0 => (x, p)
  | i + 1 => g_d1 W H R (g_dr W H R x p i)
theorem g_dr_V {W H R : Nat} (hD : hg_D W H R) {x : Int32} {p : Nat → Nat} (hV : hg_V p R) : ∀ i, hg_V (g_dr W H R x p i).2 R
  | 0 => hV
  | i + 1 => by
    obtain ⟨n1, n2⟩ := hg_D_N hD
    have hR := hD.2.2.2.2
    have hm : g_bt (g_sd (g_dr W H R x p i).1) % (W * H) < W * H := Nat.mod_lt _ (by omega)
    exact hg_V_wk hR (hg_V_lay hR (g_dr_V hD hV i) (by omega) (by omega) (by omega))
theorem z_let_e {α β : Type} (x : α) (f : α → β) : z_let x f = f x := Eq.trans (Eq.refl (z_let x f)) (Eq.refl (f x))
theorem g_sd_e (x : Int32) : x * (1103515245 : Int32) + (12345 : Int32) = g_sd x := by
  unfold g_sd
  rfl
theorem g_dr_1 {W H R : Nat} {x : Int32} {p : Nat → Nat} {i : Nat} : (g_dr W H R x p (i + 1)).1 = g_sd (g_sd (g_dr W H R x p i).1) := rfl
section W3
variable {σ : zS} {p p' : Nat → Nat} {W H R : Nat}
theorem yy_drift (hD : hg_D W H R) (hV : hg_V p R) (hG : hg_G1 σ p W H R) (a : Int32) {n : Nat} (ha : 1 ≤ (nI n).toInt ∧ (nI n).toInt ≤ 60) (hn : n ≤ 60) {b : Int32} (hb : 0 ≤ b.toInt ∧ b.toInt ≤ 1) : ∃ g, f_Y_drift a (nI n) b σ = some g ∧ g.1 = g_tr p (g_dr W H R a p n).2 b ∧ ∀ k, (k < 17 ∨ 32 < k) → g.2 k = σ k := by
  obtain ⟨n1, n2⟩ := hg_D_N hD
  have hR := hD.2.2.2.2
  obtain ⟨τ0, t1, t2, t3⟩ := yy_copy_17_1 hR hG
  unfold f_Y_drift
  rw [nl1, nl60, ki_1_60, z_bs, if_pos ha, if_neg (show ¬ nI 1 = 0 by decide), nl0, ki_0_1, z_bs, if_pos hb, if_neg (show ¬ nI 1 = nI 0 by decide), t1, z_bs, y_cells_17 hD t2, z_bs]
  refine z_lp' (fun i (s : Int32 × Int32 × zS) => s.1 = (g_dr W H R a p i).1 ∧ s.2.1 = nI i ∧ hg_G17 s.2.2 (g_dr W H R a p i).2 W H R ∧ ∀ k, (k < 17 ∨ 32 < k) → s.2.2 k = σ k) n ?_ ?_ ?_
  · exact ⟨rfl, rfl, t2, fun k hk => t3 k (by omega)⟩
  · intro i s hi hP
    obtain ⟨e1, e2, e3, e4⟩ := hP
    have hm : g_bt (g_sd (g_dr W H R a p i).1) % (W * H) < W * H := Nat.mod_lt _ (by omega)
    have hlt := g_bt_lt (g_sd (g_dr W H R a p i).1)
    have hlt2 := g_bt_lt (g_sd (g_sd (g_dr W H R a p i).1))
    have g := gs_lay_17 (c := g_bt (g_sd (g_dr W H R a p i).1) % (W * H)) (s := g_bt (g_sd (g_sd (g_dr W H R a p i).1)) % 4) (y := 2) hR e3 (by omega) (by omega)
    obtain ⟨τ, u1, u2, -, u3⟩ := yy_goOn_17 hD (hg_V_lay (c := g_bt (g_sd (g_dr W H R a p i).1) % (W * H)) (s := g_bt (g_sd (g_sd (g_dr W H R a p i).1)) % 4) (y := 2) hR (g_dr_V hD hV i) (by omega) (by omega) (by omega)) g (n := 1) (by omega)
    refine ⟨((g_dr W H R a p (i + 1)).1, nI (i + 1), τ), ?_, rfl, rfl, u2, fun k hk => ?_⟩
    · rw [e1, e2, if_neg (nI_ge hi (by omega)), if_neg (nI_ge (by omega) (by omega))]
      unfold f_Y_nextSeed f_Y_bitsOf
      rw [z_bs, z_bs, g_sd_e, g_bt_Y, if_neg (show ¬ nI (W * H) = nI 0 by rw [nI_eq (by omega) (by omega)]; omega), z_bs, z_bs, g_sd_e, g_bt_Y, pk_rem (by omega) (by omega) (by omega), nl4, pk_rem (by omega) (by omega) (by omega), yy_set_17 (by omega), z_bs, nl2, u1, z_bs, nI_add, g_dr_1]
    · show τ k = σ k
      rw [u3 k hk]
      simp (disch := omega) only [hg_u_n]
      exact e4 k hk
  · intro s hP
    obtain ⟨e1, e2, e3, e4⟩ := hP
    rw [e2, if_pos (nI_le (Nat.le_refl _) (by omega))]
    refine ⟨_, rfl, ?_⟩
    have hG2 : hg_G1 s.2.2 p W H R := hg_G1_c hG (fun k a b => e4 k (by omega))
    unfold g_tr
    by_cases hz : b = nI 0
    · rw [if_pos hz, if_pos (show b = 0 from hz), yy_rit hG2 e3]
      exact ⟨_, rfl, rfl, e4⟩
    · rw [if_neg hz, if_neg (show ¬ b = 0 from hz), yy_sit hG2 e3]
      exact ⟨_, rfl, rfl, e4⟩
theorem mm_drift (hD : hg_D W H R) (hM : hg_M σ W H R) (hV : hg_V p R) (hQ : hg_Q σ 0 p) (a : Int32) {n : Nat} (ha : 1 ≤ (nI n).toInt ∧ (nI n).toInt ≤ 60) (hn : n ≤ 60) {b : Int32} (hb : 0 ≤ b.toInt ∧ b.toInt ≤ 1) : ∃ g, f_M_drift a (nI n) b σ = some g ∧ g.1 = g_tr p (g_dr W H R a p n).2 b ∧ hg_O2 σ g.2 440 := by
  obtain ⟨n1, n2⟩ := hg_D_N hD
  have hR := hD.2.2.2.2
  obtain ⟨τ0, t1, t2, t3⟩ := mm_cp0 hQ
  unfold f_M_drift
  rw [km_1_60, z_bs, if_pos ha, if_neg (show ¬ nI 1 = 0 by decide), km_0_1, z_bs, if_pos hb, if_neg (show ¬ nI 1 = 0 by decide), nl0, nl440, t1, z_bs]
  refine z_lp' (fun i (s : Int32 × Int32 × zS) => s.1 = (g_dr W H R a p i).1 ∧ s.2.1 = nI i ∧ hg_Q s.2.2 440 (g_dr W H R a p i).2 ∧ hg_O2 σ s.2.2 440) n ?_ ?_ ?_
  · exact ⟨rfl, rfl, t2, hg_O2_of t3⟩
  · intro i s hi hP
    obtain ⟨e1, e2, e3, e4⟩ := hP
    have hm : g_bt (g_sd (g_dr W H R a p i).1) % (W * H) < W * H := Nat.mod_lt _ (by omega)
    have hlt := g_bt_lt (g_sd (g_dr W H R a p i).1)
    have hlt2 := g_bt_lt (g_sd (g_sd (g_dr W H R a p i).1))
    have l := mm_lays (σ := s.2.2) (P := 440) (by omega) (show g_bt (g_sd (g_dr W H R a p i).1) % (W * H) < 16 by omega) (nI (g_bt (g_sd (g_sd (g_dr W H R a p i).1)) % 4)) (nI 2)
    have g := hg_Q_up (i := 5 * (g_bt (g_sd (g_dr W H R a p i).1) % (W * H)) + 1) (v := 2) (hg_Q_up (i := 5 * (g_bt (g_sd (g_dr W H R a p i).1) % (W * H))) (v := g_bt (g_sd (g_sd (g_dr W H R a p i).1)) % 4) e3)
    have o1 := hg_O_t (hg_O_u (σ := s.2.2) (P := 440) (i := 5 * (g_bt (g_sd (g_dr W H R a p i).1) % (W * H))) (x := nI (g_bt (g_sd (g_sd (g_dr W H R a p i).1)) % 4)) (by omega)) (hg_O_u (i := 5 * (g_bt (g_sd (g_dr W H R a p i).1) % (W * H)) + 1) (x := nI 2) (by omega))
    have o2 := hg_O2_t e4 (hg_O2_of o1)
    obtain ⟨τ, u1, u2, u3⟩ := mm_weeks hD (hg_M_O hM o2) (hg_V_lay (c := g_bt (g_sd (g_dr W H R a p i).1) % (W * H)) (s := g_bt (g_sd (g_sd (g_dr W H R a p i).1)) % 4) (y := 2) hR (g_dr_V hD hV i) (by omega) (by omega) (by omega)) g (by omega) (n := 1) (by omega)
    have hM2 := hg_M_O hM e4
    refine ⟨((g_dr W H R a p (i + 1)).1, nI (i + 1), τ), ?_, rfl, rfl, u2, hg_O2_t o2 u3⟩
    rw [e1, e2, if_neg (nI_ge hi (by omega)), hM2.1, hM2.2.1, pk_mul]
    rw [g_sd_e, z_let_e, if_neg (show ¬ nI (W * H) = nI 0 by rw [nI_eq (by omega) (by omega)]; omega), g_bt_M, pk_rem (by omega) (by omega) (by omega), z_let_e, g_sd_e, z_let_e, g_bt_M, nl4, pk_rem (by omega) (by omega) (by omega), nl2, l, z_bs, nl1, u1, z_bs, nI_add, g_dr_1]
  · intro s hP
    obtain ⟨e1, e2, e3, e4⟩ := hP
    rw [e2, if_pos (nI_le (Nat.le_refl _) (by omega))]
    refine ⟨_, rfl, ?_⟩
    obtain ⟨υ, w1, w2, w3⟩ := mm_tried hD (hg_M_O hM e4) (g_dr_V hD hV n) (hg_Q_O hQ e4) e3 (n := 0) (by omega) b
    rw [w1, z_bs]
    exact ⟨_, rfl, rfl, hg_O2_t e4 w3⟩
/-- what one laying brings, by 4 times the cell and the season -/
def g_mv (W H R : Nat) (p : Nat → Nat) (n m : Nat) : Int32 := nI (g_sum (g_wks W H R n (g_up (g_up p (5 * (m / 4)) (m % 4)) (5 * (m / 4) + 1) 3))) - nI (g_sum p)
def g_mf (W H R : Nat) (p : Nat → Nat) (n : Nat) : Nat → Int32 × Int32
  | 0 => (-1, nI 0)
  | m + 1 => if g_mv W H R p n m ≤ (g_mf W H R p n m).1 then g_mf W H R p n m else (g_mv W H R p n m, nI (10 * (m / 4) + m % 4))
theorem yy_most (hD : hg_D W H R) (hV : hg_V p R) (hG : hg_G1 σ p W H R) {n : Nat} (ha : 1 ≤ (nI n).toInt ∧ (nI n).toInt ≤ 12) (hn : n ≤ 12) {b : Int32} (hb : 0 ≤ b.toInt ∧ b.toInt ≤ 1) : ∃ g, f_Y_most (nI n) b σ = some g ∧ g.1 = (if b = 0 then (g_mf W H R p n (4 * (W * H))).2 else (g_mf W H R p n (4 * (W * H))).1) ∧ ∀ k, (k < 17 ∨ 32 < k) → g.2 k = σ k := by
  obtain ⟨n1, n2⟩ := hg_D_N hD
  have hR := hD.2.2.2.2
  unfold f_Y_most
  rw [nl12, show f_Y_isIn (nI n) (1 : Int32) (nI 12) σ = some (nI (if 1 ≤ (nI n).toInt ∧ (nI n).toInt ≤ 12 then 1 else 0)) from ki_1_12 _ _, z_bs, if_pos ha, if_neg (show ¬ nI 1 = 0 by decide), show f_Y_isIn b (0 : Int32) (1 : Int32) σ = some (nI (if 0 ≤ b.toInt ∧ b.toInt ≤ 1 then 1 else 0)) from ki_0_1 _ _, z_bs, if_pos hb, if_neg (show ¬ nI 1 = 0 by decide)]
  refine z_lp' (fun c (s : Int32 × Int32 × Int32 × zS) => s.1 = (g_mf W H R p n (4 * c)).1 ∧ s.2.1 = (g_mf W H R p n (4 * c)).2 ∧ s.2.2.1 = nI c ∧ c ≤ W * H ∧ ∀ k, (k < 17 ∨ 32 < k) → s.2.2.2 k = σ k) (W * H) ?_ ?_ ?_
  · exact ⟨rfl, rfl, rfl, by omega, fun k hk => rfl⟩
  · intro c s hc hP
    obtain ⟨e1, e2, e3, -, e4⟩ := hP
    rw [e3, y_cells_1 hD (hg_G1_c hG (fun k a b => e4 k (by omega))), z_bs, if_neg (nI_ge hc (by omega)), e1, e2]
    refine z_inl ?_
    refine z_lp' (fun k (s : Int32 × Int32 × Int32 × zS) => s.1 = (g_mf W H R p n (4 * c + k)).1 ∧ s.2.1 = (g_mf W H R p n (4 * c + k)).2 ∧ s.2.2.1 = nI k ∧ k ≤ 4 ∧ ∀ k, (k < 17 ∨ 32 < k) → s.2.2.2 k = σ k) 4 ?_ ?_ ?_
    · exact ⟨rfl, rfl, rfl, by omega, e4⟩
    · intro m s hm hP
      obtain ⟨f1, f2, f3, -, f4⟩ := hP
      have hG2 := hg_G1_c hG (fun k a b => f4 k (by omega))
      obtain ⟨τ0, t1, t2, t3⟩ := yy_copy_17_1 hR hG2
      have g := gs_lay_17 (c := c) (s := m) (y := 3) hR t2 (by omega) (by omega)
      obtain ⟨τ, u1, u2, -, u3⟩ := yy_goOn_17 hD (hg_V_lay (c := c) (s := m) (y := 3) hR hV (by omega) (by omega) (by omega)) g (n := n) (by omega)
      have hfr : ∀ k, (k < 17 ∨ 32 < k) → τ k = σ k := fun k hk => by
        rw [u3 k hk]
        simp (disch := omega) only [hg_u_n]
        rw [t3 k (by omega), f4 k hk]
      have hr := yy_rit (hg_G1_c hG (fun k a b => hfr k (by omega))) u2
      have hmv : nI (g_sum (g_wks W H R n (g_up (g_up p (5 * c) m) (5 * c + 1) 3))) - nI (g_sum p) = g_mv W H R p n (4 * c + m) := by
        unfold g_mv
        rw [show (4 * c + m) / 4 = c by omega, show (4 * c + m) % 4 = m by omega]
      rw [hmv] at hr
      refine ⟨((g_mf W H R p n (4 * c + (m + 1))).1, (g_mf W H R p n (4 * c + (m + 1))).2, nI (m + 1), τ), ?_, rfl, rfl, rfl, by omega, hfr⟩
      rw [f1, f2, f3, nl4, if_neg (nI_ge hm (by omega)), t1, z_bs, yy_set_17 (by omega), z_bs, nl3, u1, z_bs, hr, z_bs]
      simp only [z_join, z_let, z_bs]
      rw [show g_mf W H R p n (4 * c + (m + 1)) = if g_mv W H R p n (4 * c + m) ≤ (g_mf W H R p n (4 * c + m)).1 then g_mf W H R p n (4 * c + m) else (g_mv W H R p n (4 * c + m), nI (10 * ((4 * c + m) / 4) + (4 * c + m) % 4)) from rfl, show (4 * c + m) / 4 = c by omega, show (4 * c + m) % 4 = m by omega]
      by_cases q : g_mv W H R p n (4 * c + m) ≤ (g_mf W H R p n (4 * c + m)).1
      · rw [if_pos q, if_pos q, nl1, nI_add]
      · rw [if_neg q, if_neg q, nl1, nI_add, nl10, pk_mul, nI_add]
    · intro s hP
      obtain ⟨f1, f2, f3, -, f4⟩ := hP
      rw [f3, nl4, if_pos (nI_le (Nat.le_refl _) (by omega))]
      have q1 : s.1 = (g_mf W H R p n (4 * (c + 1))).1 := by rw [f1, show 4 * (c + 1) = 4 * c + 4 by omega]
      have q2 : s.2.1 = (g_mf W H R p n (4 * (c + 1))).2 := by rw [f2, show 4 * (c + 1) = 4 * c + 4 by omega]
      exact ⟨_, rfl, _, rfl, _, rfl, q1, q2, nI_1 c, by omega, f4⟩
  · intro s hP
    obtain ⟨e1, e2, e3, -, e4⟩ := hP
    rw [e3, y_cells_1 hD (hg_G1_c hG (fun k a b => e4 k (by omega))), z_bs, if_pos (nI_le (Nat.le_refl _) (by omega))]
    refine ⟨_, rfl, ?_⟩
    by_cases hz : b = 0
    · rw [if_pos hz, if_pos hz]
      exact ⟨_, rfl, e2, e4⟩
    · rw [if_neg hz, if_neg hz]
      exact ⟨_, rfl, e1, e4⟩
def g_cd (i : Nat) : Nat := 4 * (i / 10) + min (i % 10) 4
theorem mm_most (hD : hg_D W H R) (hM : hg_M σ W H R) (hV : hg_V p R) (hQ : hg_Q σ 0 p) {n : Nat} (ha : 1 ≤ (nI n).toInt ∧ (nI n).toInt ≤ 12) (hn : n ≤ 12) {b : Int32} (hb : 0 ≤ b.toInt ∧ b.toInt ≤ 1) : ∃ g, f_M_most (nI n) b σ = some g ∧ g.1 = (if b = 0 then (g_mf W H R p n (4 * (W * H))).2 else (g_mf W H R p n (4 * (W * H))).1) ∧ hg_O2 σ g.2 440 := by
  obtain ⟨n1, n2⟩ := hg_D_N hD
  have hR := hD.2.2.2.2
  unfold f_M_most
  rw [km_1_12, z_bs, if_pos ha, if_neg (show ¬ nI 1 = 0 by decide), km_0_1, z_bs, if_pos hb, if_neg (show ¬ nI 1 = 0 by decide)]
  refine z_lp' (fun i (s : Int32 × Int32 × Int32 × zS) => s.1 = (g_mf W H R p n (g_cd i)).1 ∧ s.2.1 = (g_mf W H R p n (g_cd i)).2 ∧ s.2.2.1 = nI i ∧ hg_O2 σ s.2.2.2 440) (10 * (W * H)) ?_ ?_ ?_
  · exact ⟨rfl, rfl, rfl, hg_O2_r⟩
  · intro i s hi hP
    obtain ⟨e1, e2, e3, e4⟩ := hP
    have hM2 := hg_M_O hM e4
    rw [e3, e1, e2, hM2.1, hM2.2.1, nl10, pk_mul, pk_mul, Nat.mul_assoc, if_neg (nI_ge hi (by omega)), pk_rem (by omega) (by omega) (by omega), pk_div (by omega) (by omega) (by omega), nl4]
    simp only [z_join]
    by_cases h4 : 4 ≤ i % 10
    · rw [if_pos (nI_le h4 (by omega))]
      refine ⟨((g_mf W H R p n (g_cd (i + 1))).1, (g_mf W H R p n (g_cd (i + 1))).2, nI (i + 1), s.2.2.2), ?_, rfl, rfl, rfl, e4⟩
      rw [show g_cd (i + 1) = g_cd i by unfold g_cd; omega, nl1, nI_add]
    · rw [if_neg (nI_ge (show i % 10 < 4 by omega) (by omega))]
      obtain ⟨υ0, u1, u2, u3⟩ := mm_cp0 (hg_Q_O hQ e4)
      have l := mm_lays (σ := υ0) (P := 440) (by omega) (show i / 10 < 16 by omega) (nI (i % 10)) (nI 3)
      have g := hg_Q_up (i := 5 * (i / 10) + 1) (v := 3) (hg_Q_up (i := 5 * (i / 10)) (v := i % 10) u2)
      have o1 := hg_O_t (hg_O_u (σ := υ0) (P := 440) (i := 5 * (i / 10)) (x := nI (i % 10)) (by omega)) (hg_O_u (i := 5 * (i / 10) + 1) (x := nI 3) (by omega))
      have o2 := hg_O2_t (hg_O2_t e4 (hg_O2_of u3)) (hg_O2_of o1)
      obtain ⟨υ, w1, w2, w3⟩ := mm_tried hD (hg_M_O hM o2) (hg_V_lay (c := i / 10) (s := i % 10) (y := 3) hR hV (by omega) (by omega) (by omega)) (hg_Q_O hQ o2) g (n := n) (by omega) (nI 0)
      have hcd : g_cd i = 4 * (i / 10) + i % 10 := by unfold g_cd; omega
      have hmv : g_tr p (g_wks W H R n (g_up (g_up p (5 * (i / 10)) (i % 10)) (5 * (i / 10) + 1) 3)) (nI 0) = g_mv W H R p n (g_cd i) := by
        unfold g_mv g_tr
        rw [hcd, show (4 * (i / 10) + i % 10) / 4 = i / 10 by omega, show (4 * (i / 10) + i % 10) % 4 = i % 10 by omega]
        exact if_pos rfl
      rw [hmv] at w1
      refine ⟨((g_mf W H R p n (g_cd (i + 1))).1, (g_mf W H R p n (g_cd (i + 1))).2, nI (i + 1), υ), ?_, rfl, rfl, rfl, hg_O2_t o2 w3⟩
      rw [nl0, nl440, u1, z_bs, nl3, l, z_bs, w1, z_bs, show g_cd (i + 1) = g_cd i + 1 by unfold g_cd; omega, show g_mf W H R p n (g_cd i + 1) = if g_mv W H R p n (g_cd i) ≤ (g_mf W H R p n (g_cd i)).1 then g_mf W H R p n (g_cd i) else (g_mv W H R p n (g_cd i), nI (10 * (g_cd i / 4) + g_cd i % 4)) from rfl, show 10 * (g_cd i / 4) + g_cd i % 4 = i by rw [hcd]; omega]
      by_cases q : g_mv W H R p n (g_cd i) ≤ (g_mf W H R p n (g_cd i)).1
      · simp only [if_pos q]
        rw [nl1, nI_add]
      · simp only [if_neg q]
        rw [nl1, nI_add]
  · intro s hP
    obtain ⟨e1, e2, e3, e4⟩ := hP
    have hM2 := hg_M_O hM e4
    rw [show g_cd (10 * (W * H)) = 4 * (W * H) by unfold g_cd; omega] at e1 e2
    rw [e3, hM2.1, hM2.2.1, nl10, pk_mul, pk_mul, Nat.mul_assoc, if_pos (nI_le (Nat.le_refl _) (by omega))]
    refine ⟨_, rfl, ?_⟩
    by_cases hz : b = 0
    · rw [if_pos hz, if_pos hz]
      exact ⟨_, rfl, e2, e4⟩
    · rw [if_neg hz, if_neg hz]
      exact ⟨_, rfl, e1, e4⟩
end W3
theorem c_drift {σ : zS} (h : z_Inv σ) (a b d : Int32) : hc_B (f_Y_drift a b d) (f_M_drift a b d) σ := by
  obtain ⟨W, H, R, p, h⟩ := h
  obtain ⟨hD, hV, hG, hQ, hX, hB⟩ := id h
  obtain ⟨n1, n2⟩ := hg_D_N hD
  obtain ⟨d1, d2, d3, d4, d5⟩ := id hD
  obtain ⟨G0, G1, G2, G3, G4, G5, G6, G7, G8, G9, G10, G11, G12, G13, G14, G15, G16, G17⟩ := id hG
  have hM := hX.1
  have q := hg_Q0 hQ
  have hI : z_Inv σ := ⟨W, H, R, p, h⟩
  by_cases hb : 1 ≤ b.toInt ∧ b.toInt ≤ 60
  · by_cases hd : 0 ≤ d.toInt ∧ d.toInt ≤ 1
    · obtain ⟨n, hn1, hn, rfl⟩ := hg_arg2 (lo := 1) (hi := 60) (by omega) hb
      exact hg_two h (yy_drift hD hV hG a hb hn hd) (fun τ _ hM2 hQ2 => mm_drift hD hM2 hV hQ2 a hb hn hd)
    · refine ⟨-1, σ, σ, ?_, ?_, hI⟩
      · unfold f_Y_drift
        rw [nl1, nl60, ki_1_60, z_bs, if_pos hb, if_neg (show ¬ nI 1 = 0 by decide), nl0, ki_0_1, z_bs, if_neg hd, if_pos rfl]
      · unfold f_M_drift
        rw [km_1_60, z_bs, if_pos hb, if_neg (show ¬ nI 1 = 0 by decide), km_0_1, z_bs, if_neg hd, if_pos (show nI 0 = 0 from rfl)]
  · refine ⟨-1, σ, σ, ?_, ?_, hI⟩
    · unfold f_Y_drift
      rw [nl1, nl60, ki_1_60, z_bs, if_neg hb, if_pos (show nI 0 = 0 from rfl)]
    · unfold f_M_drift
      rw [km_1_60, z_bs, if_neg hb, if_pos (show nI 0 = 0 from rfl)]
theorem c_most {σ : zS} (h : z_Inv σ) (a b : Int32) : hc_B (f_Y_most a b) (f_M_most a b) σ := by
  obtain ⟨W, H, R, p, h⟩ := h
  obtain ⟨hD, hV, hG, hQ, hX, hB⟩ := id h
  obtain ⟨n1, n2⟩ := hg_D_N hD
  obtain ⟨d1, d2, d3, d4, d5⟩ := id hD
  obtain ⟨G0, G1, G2, G3, G4, G5, G6, G7, G8, G9, G10, G11, G12, G13, G14, G15, G16, G17⟩ := id hG
  have hM := hX.1
  have q := hg_Q0 hQ
  have hI : z_Inv σ := ⟨W, H, R, p, h⟩
  by_cases ha : 1 ≤ a.toInt ∧ a.toInt ≤ 12
  · by_cases hb : 0 ≤ b.toInt ∧ b.toInt ≤ 1
    · obtain ⟨n, hn1, hn, rfl⟩ := hg_arg2 (lo := 1) (hi := 12) (by omega) ha
      exact hg_two h (yy_most hD hV hG ha hn hb) (fun τ _ hM2 hQ2 => mm_most hD hM2 hV hQ2 ha hn hb)
    · exact ⟨-1, σ, σ, by simp (disch := omega) only [f_Y_most, ki_0_1, ki_0_10, ki_0_127, ki_0_13, ki_0_15, ki_0_2, ki_0_3, ki_0_4, ki_0_60, ki_0_7, ki_0_99, ki_0_999, ki_1_12, ki_1_4, ki_1_5, ki_1_6, ki_1_60, ki_1_8, ki_1_9, ki_48_57, ki_97_122, nl0, nl1, nl2, nl3, nl4, nl5, nl6, nl7, nl8, nl9, nl10, nl11, nl12, nl13, nl14, nl15, nl16, nl20, nl24, nl30, nl31, nl32, nl36, nl37, nl40, nl48, nl49, nl50, nl57, nl59, nl60, nl80, nl81, nl82, nl83, nl96, nl97, nl99, nl104, nl105, nl106, nl107, nl108, nl109, nl110, nl122, nl127, nl150, nl160, nl330, nl440, nl777, nl999, nl1000, nl1050, nl100000, nl1000000, nl111, z_bs, z_let, z_join, k_eq, k_ne, k_leT, k_leF, k_ltT, k_ltF, k_ib, k_ngT, nI_clamp, nI_add, pk_mul, pk_sub, if_true, if_false, true_or, or_true, false_or, or_false, true_and, and_true, false_and, and_false, not_true_eq_false, not_false_eq_true, hg_uu, ha, hb], by simp (disch := omega) only [f_M_most, km_0_1, km_0_127, km_0_13, km_0_2, km_0_3, km_0_4, km_0_60, km_0_999, km_0_99, km_0_10, km_0_7, km_1_12, km_1_5, km_1_4, km_1_6, km_1_60, km_1_9, km_1_8, km_1_3, km_11_49, km_48_57, km_97_122, nl0, nl1, nl2, nl3, nl4, nl5, nl6, nl7, nl8, nl9, nl10, nl11, nl12, nl13, nl14, nl15, nl16, nl20, nl24, nl30, nl31, nl32, nl36, nl37, nl40, nl48, nl49, nl50, nl57, nl59, nl60, nl80, nl81, nl82, nl83, nl96, nl97, nl99, nl104, nl105, nl106, nl107, nl108, nl109, nl110, nl122, nl127, nl150, nl160, nl330, nl440, nl777, nl999, nl1000, nl1050, nl100000, nl1000000, nl111, z_bs, z_let, z_join, k_eq, k_ne, k_leT, k_leF, k_ltT, k_ltF, k_ib, k_ngT, nI_clamp, nI_add, pk_mul, pk_sub, if_true, if_false, true_or, or_true, false_or, or_false, true_and, and_true, false_and, and_false, not_true_eq_false, not_false_eq_true, hg_uu, ha, hb], hI⟩
  · exact ⟨-1, σ, σ, by simp (disch := omega) only [f_Y_most, ki_0_1, ki_0_10, ki_0_127, ki_0_13, ki_0_15, ki_0_2, ki_0_3, ki_0_4, ki_0_60, ki_0_7, ki_0_99, ki_0_999, ki_1_12, ki_1_4, ki_1_5, ki_1_6, ki_1_60, ki_1_8, ki_1_9, ki_48_57, ki_97_122, nl0, nl1, nl2, nl3, nl4, nl5, nl6, nl7, nl8, nl9, nl10, nl11, nl12, nl13, nl14, nl15, nl16, nl20, nl24, nl30, nl31, nl32, nl36, nl37, nl40, nl48, nl49, nl50, nl57, nl59, nl60, nl80, nl81, nl82, nl83, nl96, nl97, nl99, nl104, nl105, nl106, nl107, nl108, nl109, nl110, nl122, nl127, nl150, nl160, nl330, nl440, nl777, nl999, nl1000, nl1050, nl100000, nl1000000, nl111, z_bs, z_let, z_join, k_eq, k_ne, k_leT, k_leF, k_ltT, k_ltF, k_ib, k_ngT, nI_clamp, nI_add, pk_mul, pk_sub, if_true, if_false, true_or, or_true, false_or, or_false, true_and, and_true, false_and, and_false, not_true_eq_false, not_false_eq_true, hg_uu, ha], by simp (disch := omega) only [f_M_most, km_0_1, km_0_127, km_0_13, km_0_2, km_0_3, km_0_4, km_0_60, km_0_999, km_0_99, km_0_10, km_0_7, km_1_12, km_1_5, km_1_4, km_1_6, km_1_60, km_1_9, km_1_8, km_1_3, km_11_49, km_48_57, km_97_122, nl0, nl1, nl2, nl3, nl4, nl5, nl6, nl7, nl8, nl9, nl10, nl11, nl12, nl13, nl14, nl15, nl16, nl20, nl24, nl30, nl31, nl32, nl36, nl37, nl40, nl48, nl49, nl50, nl57, nl59, nl60, nl80, nl81, nl82, nl83, nl96, nl97, nl99, nl104, nl105, nl106, nl107, nl108, nl109, nl110, nl122, nl127, nl150, nl160, nl330, nl440, nl777, nl999, nl1000, nl1050, nl100000, nl1000000, nl111, z_bs, z_let, z_join, k_eq, k_ne, k_leT, k_leF, k_ltT, k_ltF, k_ib, k_ngT, nI_clamp, nI_add, pk_mul, pk_sub, if_true, if_false, true_or, or_true, false_or, or_false, true_and, and_true, false_and, and_false, not_true_eq_false, not_false_eq_true, hg_uu, ha], hI⟩
