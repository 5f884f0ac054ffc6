/-! calls of weeks: fence, blame, when -/
/-- how much more is spoiled with one wall more -/
def g_fv (W H R : Nat) (p : Nat → Nat) (n e : Nat) : Int32 := nI (g_wks W H R n (g_up p 80 (p 80 ||| 2 ^ e)) 109) - nI (p 109)
def g_ff (W H R : Nat) (p : Nat → Nat) (n : Nat) : Nat → Int32 × Int32
  | 0 => (nI (g_wks W H R n p 109) - nI (p 109), - nI 4)
  | e + 1 => if g_ed W H e = true ∧ (p 80).testBit e = false then (if (g_ff W H R p n e).1 ≤ g_fv W H R p n e then g_ff W H R p n e else (g_fv W H R p n e, nI e)) else g_ff W H R p n e
theorem g_ff_ge {W H R : Nat} {p : Nat → Nat} {n : Nat} : ∀ k, g_ff W H R p n (2 * (W * H) + k) = g_ff W H R p n (2 * (W * H))
  | 0 => rfl
  | k + 1 => by
    rw [show g_ff W H R p n (2 * (W * H) + (k + 1)) = if g_ed W H (2 * (W * H) + k) = true ∧ (p 80).testBit (2 * (W * H) + k) = false then (if (g_ff W H R p n (2 * (W * H) + k)).1 ≤ g_fv W H R p n (2 * (W * H) + k) then g_ff W H R p n (2 * (W * H) + k) else (g_fv W H R p n (2 * (W * H) + k), nI (2 * (W * H) + k))) else g_ff W H R p n (2 * (W * H) + k) from rfl, if_neg, g_ff_ge k]
    rw [g_ed_iff]
    omega
/-- what fence() answers -/
def g_fe (W H R : Nat) (p : Nat → Nat) (n : Nat) (b : Int32) : Int32 := if (g_ff W H R p n 32).2 = - nI 4 then (g_ff W H R p n 32).2 else if b = nI 0 then (g_ff W H R p n 32).2 else (g_ff W H R p n 32).1
theorem hg_V_wall {p : Nat → Nat} {R e : Nat} (hR : R ≤ 5) (hV : hg_V p R) (he : e < 32) : hg_V (g_up p 80 (p 80 ||| 2 ^ e)) R :=
  have hl := hg_or_lt hV.2.1 he
  (hg_V_up hR hV (by intros; omega) (by intros; omega) (by intros; omega) (by intros; omega) (by intros; omega) (by intros; omega) (by intros; omega) (by intros; omega) (by intros; omega) (by intros; omega) (by intros; omega) (by intros; omega))
theorem hg_V_bare {p : Nat → Nat} {R c : Nat} (hR : R ≤ 5) (hV : hg_V p R) (hc : c < 16) : hg_V (g_up p (5 * c + 1) 0) R :=
  (hg_V_up hR hV (by intros; omega) (by intros; omega) (by intros; omega) (by intros; omega) (by intros; omega) (by intros; omega) (by intros; omega) (by intros; omega) (by intros; omega) (by intros; omega) (by intros; omega) (by intros; omega))
section W4
variable {σ : zS} {p p' : Nat → Nat} {W H R : Nat}
theorem yy_fence (hD : hg_D W H R) (hV : hg_V p R) (hG : hg_G1 σ p W H R) {n : Nat} (ha : 1 ≤ (nI n).toInt ∧ (nI n).toInt ≤ 12) (hn : n ≤ 12) {b : Int32} (hb : 0 ≤ b.toInt ∧ b.toInt ≤ 1) : ∃ g, f_Y_fence (nI n) b σ = some g ∧ g.1 = g_fe W H R p n b ∧ ∀ k, (k < 17 ∨ 32 < k) → g.2 k = σ k := by
  obtain ⟨n1, n2⟩ := hg_D_N hD
  have hR := hD.2.2.2.2
  obtain ⟨τ0, τ, t1, t2, t3, t4⟩ := yy_try hD hV hG (n := n) (by omega)
  have hr := yy_sit (hg_G1_c hG (fun k a b => t4 k (by omega))) t3
  unfold f_Y_fence
  rw [nl12, nl1, nl0, ki_1_12, z_bs, if_pos ha, if_neg (show ¬ nI 1 = nI 0 by decide), ki_0_1, z_bs, if_pos hb, if_neg (show ¬ nI 1 = nI 0 by decide), t1, z_bs, t2, z_bs, hr, z_bs]
  refine z_lp' (fun e (s : Int32 × Int32 × Int32 × zS) => s.1 = (g_ff W H R p n e).1 ∧ s.2.1 = (g_ff W H R p n e).2 ∧ s.2.2.1 = nI e ∧ ∀ k, (k < 17 ∨ 32 < k) → s.2.2.2 k = σ k) 32 ?_ ?_ ?_
  · exact ⟨rfl, rfl, rfl, t4⟩
  · intro e s hi hP
    obtain ⟨e1, e2, e3, e4⟩ := hP
    have hG2 := hg_G1_c hG (fun k a b => e4 k (by omega))
    rw [e3, e1, e2, nl32, if_neg (nI_ge hi (by omega)), yy_hasEdge_1 hD hG2, nI_toInt (by omega), Int.toNat_natCast, z_bs]
    simp only [z_join]
    have es : g_ff W H R p n (e + 1) = if g_ed W H e = true ∧ (p 80).testBit e = false then (if (g_ff W H R p n e).1 ≤ g_fv W H R p n e then g_ff W H R p n e else (g_fv W H R p n e, nI e)) else g_ff W H R p n e := rfl
    cases he : g_ed W H e with
    | false =>
      rw [if_neg (show ¬ ((0 : Int) ≤ (e : Int) ∧ false = true) from fun z => Bool.false_ne_true z.2), if_pos rfl]
      rw [he, if_neg (show ¬ (false = true ∧ (p 80).testBit e = false) from fun z => Bool.false_ne_true z.1)] at es
      exact ⟨((g_ff W H R p n (e + 1)).1, (g_ff W H R p n (e + 1)).2, nI (e + 1), s.2.2.2), by rw [es, nI_add], rfl, rfl, rfl, e4⟩
    | true =>
      rw [if_pos (show ((0 : Int) ≤ (e : Int) ∧ true = true) from ⟨by omega, rfl⟩), if_neg (show ¬ nI 1 = nI 0 by decide), y_isOpen_1 hV.2.1 hG2.2.2.2.2.2.2.2.2.1 hi, z_bs]
      rw [he] at es
      cases hw : (p 80).testBit e with
      | true =>
        rw [hw, if_neg (show ¬ (true = true ∧ true = false) from fun z => Bool.false_ne_true z.2.symm)] at es
        rw [if_pos (show nI (if true = true then 0 else 1) = nI 0 from rfl)]
        exact ⟨((g_ff W H R p n (e + 1)).1, (g_ff W H R p n (e + 1)).2, nI (e + 1), s.2.2.2), by rw [es, nI_add], rfl, rfl, rfl, e4⟩
      | false =>
        rw [hw, if_pos (show (true = true ∧ false = false) from ⟨rfl, rfl⟩)] at es
        rw [if_neg (show ¬ nI (if false = true then 0 else 1) = nI 0 by decide)]
        obtain ⟨υ0, u1, u2, u3⟩ := yy_copy_17_1 hR hG2
        have g := gs_wall_17 (w := p 80 ||| 2 ^ e) hR u2
        obtain ⟨υ, w1, w2, -, w3⟩ := yy_goOn_17 hD (hg_V_wall hR hV hi) g (n := n) (by omega)
        have hfr : ∀ k, (k < 17 ∨ 32 < k) → υ k = σ k := fun k hk => by
          rw [w3 k hk]
          simp (disch := omega) only [hg_u_n]
          rw [u3 k (by omega), e4 k hk]
        have hr := yy_sit (hg_G1_c hG (fun k a b => hfr k (by omega))) w2
        rw [show nI (g_wks W H R n (g_up p 80 (p 80 ||| 2 ^ e)) 109) - nI (p 109) = g_fv W H R p n e from rfl] at hr
        refine ⟨((g_ff W H R p n (e + 1)).1, (g_ff W H R p n (e + 1)).2, nI (e + 1), υ), ?_, rfl, rfl, rfl, hfr⟩
        rw [u1, z_bs, yy_setWall1_17 u2.2.2.2.2.2.2.2.2.1 hi, z_bs, w1, z_bs, hr, z_bs, es]
        by_cases q : (g_ff W H R p n e).1 ≤ g_fv W H R p n e
        · rw [if_pos q, if_pos q, nI_add]
        · rw [if_neg q, if_neg q, z_bs, nI_add]
  · intro s hP
    obtain ⟨e1, e2, e3, e4⟩ := hP
    rw [e3, nl32, if_pos (nI_le (Nat.le_refl _) (by omega))]
    refine ⟨_, rfl, ?_⟩
    simp only [z_join]
    rw [e2, e1, z_lit4]
    unfold g_fe
    by_cases q : (g_ff W H R p n 32).2 = - nI 4
    · rw [if_pos q, if_pos q]
      exact ⟨_, rfl, rfl, e4⟩
    · rw [if_neg q, if_neg q]
      by_cases hz : b = nI 0
      · rw [if_pos hz, if_pos hz]
        exact ⟨_, rfl, rfl, e4⟩
      · rw [if_neg hz, if_neg hz]
        exact ⟨_, rfl, rfl, e4⟩
theorem mm_fence (hD : hg_D W H R) (hM : hg_M σ W H R) (hV : hg_V p R) (hQ : hg_Q σ 0 p) {n : Nat} (ha : 1 ≤ (nI n).toInt ∧ (nI n).toInt ≤ 12) (hn : n ≤ 12) {b : Int32} (hb : 0 ≤ b.toInt ∧ b.toInt ≤ 1) : ∃ g, f_M_fence (nI n) b σ = some g ∧ g.1 = g_fe W H R p n b ∧ hg_O2 σ g.2 440 := by
  obtain ⟨n1, n2⟩ := hg_D_N hD
  have hR := hD.2.2.2.2
  obtain ⟨υ1, u1, u2, u3⟩ := mm_cp0 hQ
  obtain ⟨υ, w1, w2, w3⟩ := mm_tried hD (hg_M_O hM (hg_O2_of u3)) hV (hg_Q_O hQ (hg_O2_of u3)) u2 (n := n) (by omega) (nI 1)
  have w4 := hg_O2_t (hg_O2_of u3) w3
  rw [show g_tr p (g_wks W H R n p) (nI 1) = (g_ff W H R p n 0).1 from if_neg (show ¬ nI 1 = 0 by decide)] at w1
  unfold f_M_fence
  rw [km_1_12, z_bs, if_pos ha, if_neg (show ¬ nI 1 = 0 by decide), km_0_1, z_bs, if_pos hb, if_neg (show ¬ nI 1 = 0 by decide), nl0, nl440, nl1, u1, z_bs, w1, z_bs]
  refine z_lp' (fun e (s : Int32 × Int32 × Int32 × zS) => s.1 = (g_ff W H R p n e).1 ∧ s.2.1 = (g_ff W H R p n e).2 ∧ s.2.2.1 = nI e ∧ hg_O2 σ s.2.2.2 440) (2 * (W * H)) ?_ ?_ ?_
  · exact ⟨rfl, rfl, rfl, w4⟩
  · intro e s hi hP
    obtain ⟨e1, e2, e3, e4⟩ := hP
    have hM2 := hg_M_O hM e4
    have hQ2 := hg_Q_O hQ e4
    rw [e3, e1, e2, hM2.1, hM2.2.1, nl2, pk_mul, pk_mul, Nat.mul_assoc, if_neg (nI_ge hi (by omega)), mm_isEdge hD hM2, nI_toInt (by omega), Int.toNat_natCast, z_bs]
    simp only [z_join]
    have es : g_ff W H R p n (e + 1) = if g_ed W H e = true ∧ (p 80).testBit e = false then (if (g_ff W H R p n e).1 ≤ g_fv W H R p n e then g_ff W H R p n e else (g_fv W H R p n e, nI e)) else g_ff W H R p n e := rfl
    cases he : g_ed W H e with
    | false =>
      rw [if_neg (show ¬ ((0 : Int) ≤ (e : Int) ∧ false = true) from fun z => Bool.false_ne_true z.2), if_pos rfl]
      rw [he, if_neg (show ¬ (false = true ∧ (p 80).testBit e = false) from fun z => Bool.false_ne_true z.1)] at es
      exact ⟨((g_ff W H R p n (e + 1)).1, (g_ff W H R p n (e + 1)).2, nI (e + 1), s.2.2.2), by rw [es, nI_add], rfl, rfl, rfl, e4⟩
    | true =>
      rw [if_pos (show ((0 : Int) ≤ (e : Int) ∧ true = true) from ⟨by omega, rfl⟩), if_neg (show ¬ nI 1 = nI 0 by decide), mm_isWalled hV.2.1 hQ2 (by omega) (show e < 32 by omega), z_bs]
      rw [he] at es
      cases hw : (p 80).testBit e with
      | true =>
        rw [hw, if_neg (show ¬ (true = true ∧ true = false) from fun z => Bool.false_ne_true z.2.symm)] at es
        rw [if_neg (show ¬ nI (if true = true then 1 else 0) = nI 0 by decide)]
        exact ⟨((g_ff W H R p n (e + 1)).1, (g_ff W H R p n (e + 1)).2, nI (e + 1), s.2.2.2), by rw [es, nI_add], rfl, rfl, rfl, e4⟩
      | false =>
        rw [hw, if_pos (show (true = true ∧ false = false) from ⟨rfl, rfl⟩)] at es
        rw [if_pos (show nI (if false = true then 1 else 0) = nI 0 from rfl)]
        obtain ⟨υ0, x1, x2, x3⟩ := mm_cp0 hQ2
        have g := hg_Q_up (i := 80) (v := p 80 ||| 2 ^ e) x2
        have o2 := hg_O2_t (hg_O2_t e4 (hg_O2_of x3)) (hg_O2_of (hg_O_u (P := 440) (i := 80) (x := nI (p 80 ||| 2 ^ e)) (by omega)))
        obtain ⟨υ2, y1, y2, y3⟩ := mm_tried hD (hg_M_O hM o2) (hg_V_wall hR hV (show e < 32 by omega)) (hg_Q_O hQ o2) g (n := n) (by omega) (nI 1)
        rw [show g_tr p (g_wks W H R n (g_up p 80 (p 80 ||| 2 ^ e))) (nI 1) = g_fv W H R p n e from if_neg (show ¬ nI 1 = 0 by decide)] at y1
        refine ⟨((g_ff W H R p n (e + 1)).1, (g_ff W H R p n (e + 1)).2, nI (e + 1), υ2), ?_, rfl, rfl, rfl, hg_O2_t o2 y3⟩
        rw [x1, z_bs]
        simp only [z_let]
        rw [show (520 : Int32).toNatClampNeg = 440 + 80 from rfl, x2 80 (by omega), show (31 : Int32) = nI 31 from rfl, z_shl (show e < 32 by omega), z_or, y1, z_bs, es]
        by_cases q : (g_ff W H R p n e).1 ≤ g_fv W H R p n e
        · simp only [if_pos q]
          rw [nI_add]
        · simp only [if_neg q]
          rw [nI_add]
  · intro s hP
    obtain ⟨e1, e2, e3, e4⟩ := hP
    have hM2 := hg_M_O hM e4
    have hff : g_ff W H R p n (2 * (W * H)) = g_ff W H R p n 32 := by
      rw [show 32 = 2 * (W * H) + (32 - 2 * (W * H)) by omega, g_ff_ge]
    rw [hff] at e1 e2
    rw [e3, hM2.1, hM2.2.1, nl2, pk_mul, pk_mul, Nat.mul_assoc, if_pos (nI_le (Nat.le_refl _) (by omega))]
    refine ⟨_, rfl, ?_⟩
    simp only [z_join]
    rw [e2, e1, z_lit4]
    unfold g_fe
    by_cases q : (g_ff W H R p n 32).2 = - nI 4
    · rw [if_pos q, if_pos q]
      exact ⟨_, rfl, rfl, e4⟩
    · rw [if_neg q, if_neg q]
      by_cases hz : b = nI 0
      · rw [if_pos hz, if_pos hz]
        exact ⟨_, rfl, rfl, e4⟩
      · rw [if_neg hz, if_neg hz]
        exact ⟨_, rfl, rfl, e4⟩
/-- whether a cell, were it bare, makes the crop of another another one -/
def g_bl (W H R : Nat) (p : Nat → Nat) (n c o : Nat) : Bool := !decide (o = c) && !(decide (g_k (g_wks W H R n (g_up p (5 * o + 1) 0)) c = g_k (g_wks W H R n p) c) && decide (nI (g_wks W H R n (g_up p (5 * o + 1) 0) (5 * c + 3)) = nI (g_wks W H R n p (5 * c + 3))))
theorem g_bl_c {n c : Nat} : g_bl W H R p n c c = false := by
  unfold g_bl
  rw [decide_eq_true rfl]
  rfl
theorem g_bl_b {n c o : Nat} (h : p (5 * o + 1) = 0) : g_bl W H R p n c o = false := by
  have e : g_up p (5 * o + 1) 0 = p := by
    funext k
    unfold g_up
    split
    · rename_i q; rw [q, h]
    · rfl
  unfold g_bl
  rw [e, decide_eq_true rfl, decide_eq_true rfl]
  cases decide (o = c) <;> rfl
theorem g_k_0 {c : Nat} (hk : p (5 * c + 2) ≤ 5) : g_k p c = - nI 4 ↔ p (5 * c + 2) = 0 := by
  unfold g_k
  by_cases q : p (5 * c + 2) = 0
  · rw [if_pos q]
    exact ⟨fun _ => q, fun _ => rfl⟩
  · rw [if_neg q]
    exact ⟨fun z => absurd z (z_neg (by omega) (by omega) _ (by omega)), fun z => absurd z q⟩
theorem yy_blame (hD : hg_D W H R) (hV : hg_V p R) (hG : hg_G1 σ p W H R) {c n : Nat} (hc : c < W * H) (hk : ¬ p (5 * c + 2) = 0) (ha : 0 ≤ (nI c).toInt ∧ (nI c).toInt < ((W * H : Nat) : Int)) (hb : 1 ≤ (nI n).toInt ∧ (nI n).toInt ≤ 12) (hn : n ≤ 12) : ∃ g, f_Y_blame (nI c) (nI n) σ = some g ∧ g.1 = nI (g_bs (g_bl W H R p n c) (W * H)) ∧ ∀ k, (k < 17 ∨ 32 < k) → g.2 k = σ k := by
  obtain ⟨n1, n2⟩ := hg_D_N hD
  have hR := hD.2.2.2.2
  have v3 := (hV.1 c (by omega)).2.2.1
  obtain ⟨τ0, τ, t1, t2, t3, t4⟩ := yy_try hD hV hG (n := n) (by omega)
  have ib : ∀ {α : Type} (x y : α), (if z_ib (nI c) 16 = true then x else y) = x := fun x y => if_pos ((z_ibn (by omega)).mpr (by omega))
  unfold f_Y_blame
  rw [y_hasCell_1 hD hG, z_bs, if_pos ha, if_neg (show ¬ nI 1 = 0 by decide), nl12, nl1, ki_1_12, z_bs, if_pos hb, if_neg (show ¬ nI 1 = 0 by decide)]
  simp only [ib, nI_clamp (show c < 2 ^ 31 by omega)]
  rw [hG.2.2.2.2.2.1 c (by omega), z_lit4, if_neg (fun z => hk ((g_k_0 v3).mp z)), t1, z_bs, t2, z_bs, t3.2.2.2.2.2.1 c (by omega), t3.2.2.2.2.2.2.1 c (by omega)]
  refine z_lp' (fun o (s : Int32 × Int32 × zS) => s.1 = nI (g_bs (g_bl W H R p n c) o) ∧ s.2.1 = nI o ∧ o ≤ W * H ∧ ∀ k, (k < 17 ∨ 32 < k) → s.2.2 k = σ k) (W * H) ?_ ?_ ?_
  · exact ⟨rfl, rfl, by omega, t4⟩
  · intro o s hi hP
    obtain ⟨e1, e2, -, e4⟩ := hP
    have hG2 := hg_G1_c hG (fun k a b => e4 k (by omega))
    have v2 := (hV.1 o (by omega)).1
    rw [e1, e2, y_cells_1 hD hG2, z_bs, if_neg (nI_ge hi (by omega))]
    simp only [z_join, z_let]
    by_cases hoc : o = c
    · subst hoc
      rw [if_pos rfl]
      refine ⟨(nI (g_bs (g_bl W H R p n o) (o + 1)), nI (o + 1), s.2.2), ?_, rfl, rfl, by omega, e4⟩
      rw [g_bs_S, g_bl_c, if_neg Bool.false_ne_true, Nat.or_zero, nI_add]
    · rw [if_neg (show ¬ nI o = nI c by rw [nI_eq (by omega) (by omega)]; exact hoc), if_pos ((z_ibn (show o < 2 ^ 31 by omega)).mpr (show o < 16 by omega)), nI_clamp (show o < 2 ^ 31 by omega), hG2.2.2.2.1 o (by omega), nl4]
      by_cases hz : p (5 * o + 1) = 0
      · rw [if_pos (show nI (g_l p o) = nI 4 by unfold g_l; rw [if_pos hz])]
        refine ⟨(nI (g_bs (g_bl W H R p n c) (o + 1)), nI (o + 1), s.2.2), ?_, rfl, rfl, by omega, e4⟩
        rw [g_bs_S, g_bl_b hz, if_neg Bool.false_ne_true, Nat.or_zero, nI_add]
      · rw [if_neg (show ¬ nI (g_l p o) = nI 4 by unfold g_l; rw [if_neg hz, nI_eq (by omega) (by omega)]; omega)]
        obtain ⟨υ0, u1, u2, u3⟩ := yy_copy_17_1 hR hG2
        have g := gs_bare_17 (c := o) hR u2 (by omega)
        obtain ⟨υ, w1, w2, -, w3⟩ := yy_goOn_17 hD (hg_V_bare (c := o) hR hV (by omega)) g (n := n) (by omega)
        have hfr : ∀ k, (k < 17 ∨ 32 < k) → υ k = σ k := fun k hk => by
          rw [w3 k hk]
          simp (disch := omega) only [hg_u_n]
          rw [u3 k (by omega), e4 k hk]
        refine ⟨(nI (g_bs (g_bl W H R p n c) (o + 1)), nI (o + 1), υ), ?_, rfl, rfl, by omega, hfr⟩
        rw [u1, z_bs, yy_setBare_17 (show o < 16 by omega), z_bs, w1, z_bs, w2.2.2.2.2.2.1 c (by omega), w2.2.2.2.2.2.2.1 c (by omega), show (31 : Int32) = nI 31 from rfl, z_shl (show o < 32 by omega), z_or, nI_add, g_bs_S]
        unfold g_bl
        by_cases c1 : g_k (g_wks W H R n (g_up p (5 * o + 1) 0)) c = g_k (g_wks W H R n p) c
        · rw [if_pos c1, decide_eq_true c1]
          by_cases c2 : nI (g_wks W H R n (g_up p (5 * o + 1) 0) (5 * c + 3)) = nI (g_wks W H R n p (5 * c + 3))
          · rw [if_pos c2, decide_eq_true c2, decide_eq_false hoc]
            simp
          · rw [if_neg c2, decide_eq_false c2, decide_eq_false hoc]
            simp
        · rw [if_neg c1, decide_eq_false c1, decide_eq_false hoc]
          simp
  · intro s hP
    obtain ⟨e1, e2, -, e4⟩ := hP
    rw [e1, e2, y_cells_1 hD (hg_G1_c hG (fun k a b => e4 k (by omega))), z_bs, if_pos (nI_le (Nat.le_refl _) (by omega))]
    exact ⟨_, rfl, _, rfl, rfl, e4⟩
theorem mm_blame (hD : hg_D W H R) (hM : hg_M σ W H R) (hV : hg_V p R) (hQ : hg_Q σ 0 p) {c n : Nat} (hc : c < W * H) (hk : ¬ p (5 * c + 2) = 0) (ha : 0 ≤ (nI c).toInt ∧ (nI c).toInt < ((W * H : Nat) : Int)) (hb : 1 ≤ (nI n).toInt ∧ (nI n).toInt ≤ 12) (hn : n ≤ 12) : ∃ g, f_M_blame (nI c) (nI n) σ = some g ∧ g.1 = nI (g_bs (g_bl W H R p n c) (W * H)) ∧ hg_O2 σ g.2 440 := by
  obtain ⟨n1, n2⟩ := hg_D_N hD
  have hR := hD.2.2.2.2
  have v3 := (hV.1 c (by omega)).2.2.1
  obtain ⟨υ1, υ, u1, w1, w2, w3⟩ := mm_try hD hM hV hQ (n := n) (by omega)
  have hc0 : f_M_cropIn (nI 0) (nI c) σ = some (g_k p c) := mm_cropIn hV hQ (by omega) (by omega)
  have hc1 := mm_cropIn (hg_V_wks hR hV n) w2 (by omega) (show c < 16 by omega)
  have ix : nI 440 + nI 5 * nI c + nI 3 = nI (440 + (5 * c + 3)) := by rw [pk_mul, nI_add, nI_add, Nat.add_assoc]
  have ib : ∀ {α : Type} (x y : α), (if z_ib (nI (440 + (5 * c + 3))) 550 = true then x else y) = x := fun x y => if_pos ((z_ibn (by omega)).mpr (by omega))
  unfold f_M_blame
  rw [mm_isCell hD hM, z_bs, if_pos ha, if_neg (show ¬ nI 1 = 0 by decide), km_1_12, z_bs, if_pos hb, if_neg (show ¬ nI 1 = 0 by decide), nl0, nl440, nl5, nl3, hc0, z_bs, z_lit4, if_neg (fun z => hk ((g_k_0 v3).mp z)), u1, z_bs, w1, z_bs, hc1, z_bs, ix]
  simp only [ib, nI_clamp (show 440 + (5 * c + 3) < 2 ^ 31 by omega), z_let]
  rw [w2 _ (by omega)]
  refine z_lp' (fun o (s : Int32 × Int32 × zS) => s.1 = nI (g_bs (g_bl W H R p n c) o) ∧ s.2.1 = nI o ∧ o ≤ W * H ∧ hg_O2 σ s.2.2 440) (W * H) ?_ ?_ ?_
  · exact ⟨rfl, rfl, by omega, w3⟩
  · intro o s hi hP
    obtain ⟨e1, e2, -, e4⟩ := hP
    have hM2 := hg_M_O hM e4
    obtain ⟨υ0, x1, x2, x3⟩ := mm_cp0 (hg_Q_O hQ e4)
    have g := hg_Q_up (i := 5 * o + 1) (v := 0) x2
    have o2 := hg_O2_t (hg_O2_t e4 (hg_O2_of x3)) (hg_O2_of (hg_O_u (P := 440) (i := 5 * o + 1) (x := nI 0) (by omega)))
    obtain ⟨υ2, y1, y2, y3⟩ := mm_weeks hD (hg_M_O hM o2) (hg_V_bare (c := o) hR hV (by omega)) g (by omega) (n := n) (by omega)
    have hc2 := mm_cropIn (hg_V_wks hR (hg_V_bare (c := o) hR hV (by omega)) n) y2 (by omega) (show c < 16 by omega)
    refine ⟨(nI (g_bs (g_bl W H R p n c) (o + 1)), nI (o + 1), υ2), ?_, rfl, rfl, by omega, hg_O2_t o2 y3⟩
    rw [e1, e2, hM2.1, hM2.2.1, pk_mul, if_neg (nI_ge hi (by omega)), x1, z_bs, pk_mul, nI_add, nl1, nI_add, Nat.add_assoc, if_pos ((z_ibn (by omega)).mpr (by omega)), nI_clamp (by omega), y1, z_bs, hc2, z_bs]
    simp only [z_join]
    rw [y2 _ (by omega), show (31 : Int32) = nI 31 from rfl, z_shl (show o < 32 by omega), g_bs_S, nI_add]
    by_cases hoc : o = c
    · have v : g_bl W H R p n c o = false := by
        rw [hoc]
        exact g_bl_c
      rw [v, if_neg Bool.false_ne_true]
      by_cases c1 : g_k (g_wks W H R n (g_up p (5 * o + 1) 0)) c = g_k (g_wks W H R n p) c
      · rw [if_pos c1]
        by_cases c2 : nI (g_wks W H R n (g_up p (5 * o + 1) 0) (5 * c + 3)) = nI (g_wks W H R n p (5 * c + 3))
        · rw [if_pos c2, if_pos (show nI o = nI c by rw [hoc]), z_or]
        · rw [if_neg c2, if_pos (show nI o = nI c by rw [hoc]), z_or]
      · rw [if_neg c1, if_pos (show nI o = nI c by rw [hoc]), z_or]
    · have no : ¬ nI o = nI c := by rw [nI_eq (by omega) (by omega)]; exact hoc
      by_cases c1 : g_k (g_wks W H R n (g_up p (5 * o + 1) 0)) c = g_k (g_wks W H R n p) c
      · rw [if_pos c1]
        by_cases c2 : nI (g_wks W H R n (g_up p (5 * o + 1) 0) (5 * c + 3)) = nI (g_wks W H R n p (5 * c + 3))
        · have v : g_bl W H R p n c o = false := by
            unfold g_bl
            rw [decide_eq_true c1, decide_eq_true c2, Bool.and_self, Bool.not_true, Bool.and_false]
          rw [if_pos c2, if_neg no, if_pos trivial, z_or, v, if_neg Bool.false_ne_true]
        · have v : g_bl W H R p n c o = true := by
            unfold g_bl
            rw [decide_eq_false hoc, decide_eq_false c2, Bool.and_false]
            rfl
          rw [if_neg c2, if_neg no, if_neg (show ¬ nI 1 = nI 0 by decide), z_or, v, if_pos rfl]
      · have v : g_bl W H R p n c o = true := by
          unfold g_bl
          rw [decide_eq_false hoc, decide_eq_false c1, Bool.false_and]
          rfl
        rw [if_neg c1, if_neg no, if_neg (show ¬ nI 1 = nI 0 by decide), z_or, v, if_pos rfl]
  · intro s hP
    obtain ⟨e1, e2, -, e4⟩ := hP
    have hM2 := hg_M_O hM e4
    rw [e1, e2, hM2.1, hM2.2.1, pk_mul, if_pos (nI_le (Nat.le_refl _) (by omega))]
    exact ⟨_, rfl, _, rfl, rfl, e4⟩
end W4
theorem c_fence {σ : zS} (h : z_Inv σ) (a b : Int32) : hc_B (f_Y_fence a b) (f_M_fence a b) σ := by
  obtain ⟨W, H, R, p, h⟩ := h
  obtain ⟨hD, hV, hG, hQ, hX, hB⟩ := id h
  obtain ⟨n1, n2⟩ := hg_D_N hD
  obtain ⟨d1, d2, d3, d4, d5⟩ := id hD
  obtain ⟨G0, G1, G2, G3, G4, G5, G6, G7, G8, G9, G10, G11, G12, G13, G14, G15, G16, G17⟩ := id hG
  have hM := hX.1
  have q := hg_Q0 hQ
  have hI : z_Inv σ := ⟨W, H, R, p, h⟩
  by_cases ha : 1 ≤ a.toInt ∧ a.toInt ≤ 12
  · by_cases hb : 0 ≤ b.toInt ∧ b.toInt ≤ 1
    · obtain ⟨n, hn1, hn, rfl⟩ := hg_arg2 (lo := 1) (hi := 12) (by omega) ha
      exact hg_two h (yy_fence hD hV hG ha hn hb) (fun τ _ hM2 hQ2 => mm_fence hD hM2 hV hQ2 ha hn hb)
    · exact ⟨-1, σ, σ, by simp (disch := omega) only [f_Y_fence, ki_0_1, ki_0_10, ki_0_127, ki_0_13, ki_0_15, ki_0_2, ki_0_3, ki_0_4, ki_0_60, ki_0_7, ki_0_99, ki_0_999, ki_1_12, ki_1_4, ki_1_5, ki_1_6, ki_1_60, ki_1_8, ki_1_9, ki_48_57, ki_97_122, nl0, nl1, nl2, nl3, nl4, nl5, nl6, nl7, nl8, nl9, nl10, nl11, nl12, nl13, nl14, nl15, nl16, nl20, nl24, nl30, nl31, nl32, nl36, nl37, nl40, nl48, nl49, nl50, nl57, nl59, nl60, nl80, nl81, nl82, nl83, nl96, nl97, nl99, nl104, nl105, nl106, nl107, nl108, nl109, nl110, nl122, nl127, nl150, nl160, nl330, nl440, nl777, nl999, nl1000, nl1050, nl100000, nl1000000, nl111, z_bs, z_let, z_join, k_eq, k_ne, k_leT, k_leF, k_ltT, k_ltF, k_ib, k_ngT, nI_clamp, nI_add, pk_mul, pk_sub, if_true, if_false, true_or, or_true, false_or, or_false, true_and, and_true, false_and, and_false, not_true_eq_false, not_false_eq_true, hg_uu, ha, hb], by simp (disch := omega) only [f_M_fence, km_0_1, km_0_127, km_0_13, km_0_2, km_0_3, km_0_4, km_0_60, km_0_999, km_0_99, km_0_10, km_0_7, km_1_12, km_1_5, km_1_4, km_1_6, km_1_60, km_1_9, km_1_8, km_1_3, km_11_49, km_48_57, km_97_122, nl0, nl1, nl2, nl3, nl4, nl5, nl6, nl7, nl8, nl9, nl10, nl11, nl12, nl13, nl14, nl15, nl16, nl20, nl24, nl30, nl31, nl32, nl36, nl37, nl40, nl48, nl49, nl50, nl57, nl59, nl60, nl80, nl81, nl82, nl83, nl96, nl97, nl99, nl104, nl105, nl106, nl107, nl108, nl109, nl110, nl122, nl127, nl150, nl160, nl330, nl440, nl777, nl999, nl1000, nl1050, nl100000, nl1000000, nl111, z_bs, z_let, z_join, k_eq, k_ne, k_leT, k_leF, k_ltT, k_ltF, k_ib, k_ngT, nI_clamp, nI_add, pk_mul, pk_sub, if_true, if_false, true_or, or_true, false_or, or_false, true_and, and_true, false_and, and_false, not_true_eq_false, not_false_eq_true, hg_uu, ha, hb], hI⟩
  · exact ⟨-1, σ, σ, by simp (disch := omega) only [f_Y_fence, ki_0_1, ki_0_10, ki_0_127, ki_0_13, ki_0_15, ki_0_2, ki_0_3, ki_0_4, ki_0_60, ki_0_7, ki_0_99, ki_0_999, ki_1_12, ki_1_4, ki_1_5, ki_1_6, ki_1_60, ki_1_8, ki_1_9, ki_48_57, ki_97_122, nl0, nl1, nl2, nl3, nl4, nl5, nl6, nl7, nl8, nl9, nl10, nl11, nl12, nl13, nl14, nl15, nl16, nl20, nl24, nl30, nl31, nl32, nl36, nl37, nl40, nl48, nl49, nl50, nl57, nl59, nl60, nl80, nl81, nl82, nl83, nl96, nl97, nl99, nl104, nl105, nl106, nl107, nl108, nl109, nl110, nl122, nl127, nl150, nl160, nl330, nl440, nl777, nl999, nl1000, nl1050, nl100000, nl1000000, nl111, z_bs, z_let, z_join, k_eq, k_ne, k_leT, k_leF, k_ltT, k_ltF, k_ib, k_ngT, nI_clamp, nI_add, pk_mul, pk_sub, if_true, if_false, true_or, or_true, false_or, or_false, true_and, and_true, false_and, and_false, not_true_eq_false, not_false_eq_true, hg_uu, ha], by simp (disch := omega) only [f_M_fence, km_0_1, km_0_127, km_0_13, km_0_2, km_0_3, km_0_4, km_0_60, km_0_999, km_0_99, km_0_10, km_0_7, km_1_12, km_1_5, km_1_4, km_1_6, km_1_60, km_1_9, km_1_8, km_1_3, km_11_49, km_48_57, km_97_122, nl0, nl1, nl2, nl3, nl4, nl5, nl6, nl7, nl8, nl9, nl10, nl11, nl12, nl13, nl14, nl15, nl16, nl20, nl24, nl30, nl31, nl32, nl36, nl37, nl40, nl48, nl49, nl50, nl57, nl59, nl60, nl80, nl81, nl82, nl83, nl96, nl97, nl99, nl104, nl105, nl106, nl107, nl108, nl109, nl110, nl122, nl127, nl150, nl160, nl330, nl440, nl777, nl999, nl1000, nl1050, nl100000, nl1000000, nl111, z_bs, z_let, z_join, k_eq, k_ne, k_leT, k_leF, k_ltT, k_ltF, k_ib, k_ngT, nI_clamp, nI_add, pk_mul, pk_sub, if_true, if_false, true_or, or_true, false_or, or_false, true_and, and_true, false_and, and_false, not_true_eq_false, not_false_eq_true, hg_uu, ha], hI⟩
theorem c_blame {σ : zS} (h : z_Inv σ) (a b : Int32) : hc_B (f_Y_blame a b) (f_M_blame a b) σ := by
  obtain ⟨W, H, R, p, h⟩ := h
  obtain ⟨hD, hV, hG, hQ, hX, hB⟩ := id h
  obtain ⟨n1, n2⟩ := hg_D_N hD
  obtain ⟨d1, d2, d3, d4, d5⟩ := id hD
  obtain ⟨G0, G1, G2, G3, G4, G5, G6, G7, G8, G9, G10, G11, G12, G13, G14, G15, G16, G17⟩ := id hG
  have hM := hX.1
  have q := hg_Q0 hQ
  have hI : z_Inv σ := ⟨W, H, R, p, h⟩
  by_cases ha : 0 ≤ a.toInt ∧ a.toInt < ((W * H : Nat) : Int)
  · by_cases hb : 1 ≤ b.toInt ∧ b.toInt ≤ 12
    · obtain ⟨c, hc, rfl⟩ := hg_arg (by omega) ha
      obtain ⟨n, hn1, hn, rfl⟩ := hg_arg2 (lo := 1) (hi := 12) (by omega) hb
      have v3 := (hV.1 c (by omega)).2.2.1
      by_cases hk : p (5 * c + 2) = 0
      · have hg0 := (g_k_0 v3).mpr hk
        have hc0 : f_M_cropIn (nI 0) (nI c) σ = some (g_k p c) := mm_cropIn hV hQ (by omega) (by omega)
        refine ⟨- nI 2, σ, σ, ?_, ?_, hI⟩
        · simp (disch := omega) only [f_Y_blame, y_hasCell_1 hD hG, ki_0_1, ki_0_10, ki_0_127, ki_0_13, ki_0_15, ki_0_2, ki_0_3, ki_0_4, ki_0_60, ki_0_7, ki_0_99, ki_0_999, ki_1_12, ki_1_4, ki_1_5, ki_1_6, ki_1_60, ki_1_8, ki_1_9, ki_48_57, ki_97_122, nl0, nl1, nl2, nl3, nl4, nl5, nl6, nl7, nl8, nl9, nl10, nl11, nl12, nl13, nl14, nl15, nl16, nl20, nl24, nl30, nl31, nl32, nl36, nl37, nl40, nl48, nl49, nl50, nl57, nl59, nl60, nl80, nl81, nl82, nl83, nl96, nl97, nl99, nl104, nl105, nl106, nl107, nl108, nl109, nl110, nl122, nl127, nl150, nl160, nl330, nl440, nl777, nl999, nl1000, nl1050, nl100000, nl1000000, nl111, z_bs, z_let, z_join, k_eq, k_ne, k_leT, k_leF, k_ltT, k_ltF, k_ib, k_ngT, nI_clamp, nI_add, pk_mul, pk_sub, if_true, if_false, true_or, or_true, false_or, or_false, true_and, and_true, false_and, and_false, not_true_eq_false, not_false_eq_true, hg_uu, ha, hb, G5, hg0]
        · simp (disch := omega) only [f_M_blame, mm_isCell hD hM, hc0, km_0_1, km_0_127, km_0_13, km_0_2, km_0_3, km_0_4, km_0_60, km_0_999, km_0_99, km_0_10, km_0_7, km_1_12, km_1_5, km_1_4, km_1_6, km_1_60, km_1_9, km_1_8, km_1_3, km_11_49, km_48_57, km_97_122, nl0, nl1, nl2, nl3, nl4, nl5, nl6, nl7, nl8, nl9, nl10, nl11, nl12, nl13, nl14, nl15, nl16, nl20, nl24, nl30, nl31, nl32, nl36, nl37, nl40, nl48, nl49, nl50, nl57, nl59, nl60, nl80, nl81, nl82, nl83, nl96, nl97, nl99, nl104, nl105, nl106, nl107, nl108, nl109, nl110, nl122, nl127, nl150, nl160, nl330, nl440, nl777, nl999, nl1000, nl1050, nl100000, nl1000000, nl111, z_bs, z_let, z_join, k_eq, k_ne, k_leT, k_leF, k_ltT, k_ltF, k_ib, k_ngT, nI_clamp, nI_add, pk_mul, pk_sub, if_true, if_false, true_or, or_true, false_or, or_false, true_and, and_true, false_and, and_false, not_true_eq_false, not_false_eq_true, hg_uu, ha, hb, hg0]
      · exact hg_two h (yy_blame hD hV hG hc hk ha hb hn) (fun τ _ hM2 hQ2 => mm_blame hD hM2 hV hQ2 hc hk ha hb hn)
    · refine ⟨-1, σ, σ, ?_, ?_, hI⟩
      · unfold f_Y_blame
        rw [y_hasCell_1 hD hG, z_bs, if_pos ha, if_neg (show ¬ nI 1 = 0 by decide), nl12, nl1, ki_1_12, z_bs, if_neg hb, if_pos (show nI 0 = 0 from rfl)]
      · unfold f_M_blame
        rw [mm_isCell hD hM, z_bs, if_pos ha, if_neg (show ¬ nI 1 = 0 by decide), km_1_12, z_bs, if_neg hb, if_pos (show nI 0 = 0 from rfl)]
  · refine ⟨-1, σ, σ, ?_, ?_, hI⟩
    · unfold f_Y_blame
      rw [y_hasCell_1 hD hG, z_bs, if_neg ha, if_pos (show nI 0 = 0 from rfl)]
    · unfold f_M_blame
      rw [mm_isCell hD hM, z_bs, if_neg ha, if_pos (show nI 0 = 0 from rfl)]
