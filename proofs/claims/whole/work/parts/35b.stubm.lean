/-! stubble: the reference, the calls -/
section S2
variable {σ : zS} {Z : Nat} {wk sg : Nat → Nat} {W H R : Nat}
theorem mm_power {w : Nat} (hw : w ≤ 5) (σ : zS) : f_M_power (nI w) σ = some (nI (5 ^ w)) := by
  unfold f_M_power
  refine z_ex (z_lp' (fun i (x : Int32 × Int32) => x.2 = nI i ∧ i ≤ w ∧ x.1 = nI (5 ^ i)) w ?_ ?_ ?_)
  · exact ⟨rfl, by omega, rfl⟩
  · intro i x hi hP
    obtain ⟨e1, e2, e3⟩ := hP
    rw [e1, e3, if_neg (nI_ge hi (by omega)), nl5, pk_mul, nl1, nI_add]
    exact ⟨_, rfl, rfl, by omega, by rw [Nat.pow_succ]⟩
  · intro x hP
    obtain ⟨e1, e2, e3⟩ := hP
    rw [e1, e3, if_pos (nI_le (Nat.le_refl _) (by omega))]
    exact ⟨_, rfl, _, rfl, rfl⟩
theorem mm_rowFits (hM : hg_M σ W H R) (hY : Z ≤ 6 ∧ ∀ j, j < Z → wk j ≤ 4 ∧ sg j ≤ 4) (h : hg_sM σ Z wk sg) {k w m : Nat} (hk : k < 5) (hw : w ≤ 5) (hm : m < 5 ^ w) : f_M_rowFits (nI k) (nI w) (nI m) σ = some (nI (if g_fc k g_any (g_ok Z wk sg) w 0 0 m = true then 1 else 0)) := by
  obtain ⟨h1, h2⟩ := h
  obtain ⟨y1, y2⟩ := hY
  obtain ⟨w0, w1⟩ := g_p5 hw
  unfold f_M_rowFits
  rw [mm_power hw, z_bs]
  refine z_ex (z_lp' (fun t (x : Int32 × Int32 × Int32 × Int32) => ∃ (st : Nat) (b : Bool), x.1 = nI st ∧ st < 5 ∧ x.2.1 = nI (5 ^ (w - t)) ∧ x.2.2.1 = nI (if b = true then 1 else 0) ∧ x.2.2.2 = nI t ∧ t ≤ w ∧ (b && g_fc k g_any (g_ok Z wk sg) (w - t) t st m) = g_fc k g_any (g_ok Z wk sg) w 0 0 m) w ?_ ?_ ?_)
  · exact ⟨0, true, rfl, by omega, rfl, rfl, rfl, by omega, by rw [Bool.true_and, Nat.sub_zero]⟩
  · intro t x ht hP
    obtain ⟨st, b, e1, e2, e3, e4, e5, e6, e7⟩ := hP
    have hp0 : 0 < 5 ^ (w - (t + 1)) := Nat.pow_pos (by omega)
    have hp1 : 5 ^ (w - (t + 1)) ≤ 5 ^ 5 := Nat.pow_le_pow_right (by omega) (by omega)
    have hp2 : 5 ^ (w - t) = 5 ^ (w - (t + 1)) * 5 := by rw [← Nat.pow_succ, show (w - (t + 1)).succ = w - t by omega]
    have hdl : m / 5 ^ (w - (t + 1)) ≤ m := Nat.div_le_self _ _
    have hl := Nat.mod_lt (m / 5 ^ (w - (t + 1))) (show 0 < 5 by omega)
    have hth := g_th_lt (k := k) (l := m / 5 ^ (w - (t + 1)) % 5) e2
    have hpart : nI (5 ^ (w - t)) / nI 5 = nI (5 ^ (w - (t + 1))) := by
      rw [pk_div (by omega) (by omega) (by omega), hp2, Nat.mul_div_cancel _ (by omega)]
    have hrec : g_fc k g_any (g_ok Z wk sg) (w - t) t st m = (g_ok Z wk sg t (g_th k st (m / 5 ^ (w - (t + 1)) % 5)) && g_fc k g_any (g_ok Z wk sg) (w - (t + 1)) (t + 1) (g_th k st (m / 5 ^ (w - (t + 1)) % 5)) m) := by
      rw [show w - t = (w - (t + 1)) + 1 by omega, g_fc, show g_ac g_any t (m / 5 ^ (w - (t + 1)) % 5) = true from rfl, Bool.true_and]
    rw [e1, e3, e4, e5, if_neg (nI_ge ht (by omega)), nl5, hpart]
    rw [hg_join_to (x := nI (g_th k st (m / 5 ^ (w - (t + 1)) % 5))) (by
      intro j
      unfold g_th
      by_cases q : st < 3
      · rw [nl3, if_neg (nI_ge q (by omega)), if_pos q, nl0, if_neg (show ¬ nI (5 ^ (w - (t + 1))) = nI 0 by rw [nI_eq (by omega) (by omega)]; omega), pk_div (by omega) (by omega) (by omega), pk_rem (by omega) (by omega) (by omega), mm_stageBy hM hk q hl, z_bs]
      · rw [nl3, if_pos (nI_le (by omega) (by omega)), if_neg q])]
    refine z_inl ?_
    refine z_lp' (fun j (y : Int32 × Int32) => y.2 = nI j ∧ j ≤ Z ∧ y.1 = nI (if (b && g_al (g_o1 wk sg t (g_th k st (m / 5 ^ (w - (t + 1)) % 5))) j) = true then 1 else 0)) Z ?_ ?_ ?_
    · exact ⟨rfl, by omega, by rw [g_al, Bool.and_true]⟩
    · intro j y hj hP
      obtain ⟨f1, f2, f3⟩ := hP
      obtain ⟨a1, a2⟩ := y2 j hj
      obtain ⟨a3, a4⟩ := h2 j hj
      refine ⟨(nI (if (b && g_al (g_o1 wk sg t (g_th k st (m / 5 ^ (w - (t + 1)) % 5))) (j + 1)) = true then 1 else 0), nI (j + 1)), ?_, rfl, by omega, rfl⟩
      rw [f1, f3, h1, if_neg (nI_ge hj (by omega))]
      simp (disch := omega) only [z_join, nl0, nl1, nl2, pk_mul, nI_add, k_ib, if_true, nI_clamp, a3, a4, nI_eq (show wk j < 2 ^ 31 by omega) (show t < 2 ^ 31 by omega), nI_eq (show sg j < 2 ^ 31 by omega) (show g_th k st (m / 5 ^ (w - (t + 1)) % 5) < 2 ^ 31 by omega)]
      rw [g_al]
      cases hb : b && g_al (g_o1 wk sg t (g_th k st (m / 5 ^ (w - (t + 1)) % 5))) j with
      | false =>
        rw [if_pos (show nI (if false = true then 1 else 0) = nI 0 from rfl), ← Bool.and_assoc, hb]
        rfl
      | true =>
        rw [if_neg (show ¬ nI (if true = true then 1 else 0) = nI 0 by decide), ← Bool.and_assoc, hb, Bool.true_and]
        unfold g_o1
        by_cases c1 : wk j = t
        · rw [if_pos c1]
          by_cases c2 : sg j = g_th k st (m / 5 ^ (w - (t + 1)) % 5)
          · rw [if_pos c2, decide_eq_true c2, Bool.or_true]
            rfl
          · rw [if_neg c2, decide_eq_true c1, decide_eq_false c2]
            rfl
        · rw [if_neg c1, decide_eq_false c1]
          rfl
    · intro y hP
      obtain ⟨f1, f2, f3⟩ := hP
      rw [f1, f3, h1, if_pos (nI_le (Nat.le_refl _) (by omega))]
      refine ⟨_, rfl, _, rfl, _, rfl, g_th k st (m / 5 ^ (w - (t + 1)) % 5), b && g_ok Z wk sg t (g_th k st (m / 5 ^ (w - (t + 1)) % 5)), rfl, hth, rfl, rfl, by rw [nl1, nI_add], by omega, ?_⟩
      rw [← e7, hrec, Bool.and_assoc]
  · intro x hP
    obtain ⟨st, b, e1, e2, e3, e4, e5, e6, e7⟩ := hP
    rw [e4, e5, if_pos (nI_le (Nat.le_refl _) (by omega))]
    refine ⟨_, rfl, ?_⟩
    rw [nl0, nl1, if_pos (hg_b01 _)]
    refine ⟨_, rfl, ?_⟩
    rw [← e7, Nat.sub_self, g_fc, Bool.and_true]
theorem mm_rows (hM : hg_M σ W H R) (hY : Z ≤ 6 ∧ ∀ j, j < Z → wk j ≤ 4 ∧ sg j ≤ 4) (h : hg_sM σ Z wk sg) {k w : Nat} {d : Int32} (ha : 0 ≤ (nI k).toInt ∧ (nI k).toInt ≤ 4) (hb : 1 ≤ (nI w).toInt ∧ (nI w).toInt ≤ 5) (hd : 0 ≤ d.toInt ∧ d.toInt ≤ 1) (hk : k < 5) (hw : w ≤ 5) : f_M_rows (nI k) (nI w) d σ = some (if d = 0 then nI (g_ct (g_fc k g_any (g_ok Z wk sg) w 0 0) (5 ^ w)) else g_fr k w (g_ok Z wk sg)) := by
  obtain ⟨w0, w1⟩ := g_p5 hw
  have hN := g_N_lt (g_fc k g_any (g_ok Z wk sg) w 0 0) hw
  unfold f_M_rows
  rw [km_0_4, z_bs, if_pos ha, if_neg (show ¬ nI 1 = 0 by decide), km_1_5, z_bs, if_pos hb, if_neg (show ¬ nI 1 = 0 by decide), km_0_1, z_bs, if_pos hd, if_neg (show ¬ nI 1 = 0 by decide)]
  refine z_ex (z_lp' (fun i (x : Int32 × Int32 × Int32) => x.2.2 = nI i ∧ i ≤ 5 ^ w ∧ x.1 = nI (g_ct (g_fc k g_any (g_ok Z wk sg) w 0 0) i) ∧ x.2.1 = (if g_ct (g_fc k g_any (g_ok Z wk sg) w 0 0) i = 0 then - nI 4 else nI (g_ft (g_fc k g_any (g_ok Z wk sg) w 0 0) i))) (5 ^ w) ?_ ?_ ?_)
  · exact ⟨rfl, by omega, rfl, rfl⟩
  · intro i x hi hP
    obtain ⟨e1, e2, e3, e4⟩ := hP
    have hci := g_ct_le (g_fc k g_any (g_ok Z wk sg) w 0 0) i
    have hfl := g_ft_le (g_fc k g_any (g_ok Z wk sg) w 0 0) i
    have hfp := g_ft_pos (q := g_fc k g_any (g_ok Z wk sg) w 0 0) (n := i)
    rw [e1, e3, e4, mm_power hw, z_bs, if_neg (nI_ge hi (by omega)), mm_rowFits hM hY h hk hw hi, z_bs]
    simp only [z_join]
    cases hq : g_fc k g_any (g_ok Z wk sg) w 0 0 i with
    | false =>
      rw [if_pos (show nI (if false = true then 1 else 0) = 0 from rfl)]
      refine ⟨_, rfl, nI_1 i, by omega, ?_, ?_⟩
      · rw [g_ct, hq]; rfl
      · rw [g_ct, hq, g_ft, hq]
        by_cases z : g_ct (g_fc k g_any (g_ok Z wk sg) w 0 0) i = 0
        · rw [if_pos z, if_pos (by rw [z]; rfl)]
        · rw [if_neg z, if_neg (by rw [if_neg Bool.false_ne_true]; exact z), if_pos (hfp.mpr (by omega))]
    | true =>
      rw [if_neg (show ¬ nI (if true = true then 1 else 0) = 0 by decide), nl0]
      by_cases z : g_ct (g_fc k g_any (g_ok Z wk sg) w 0 0) i = 0
      · rw [if_pos (show nI (g_ct (g_fc k g_any (g_ok Z wk sg) w 0 0) i) = nI 0 by rw [z])]
        refine ⟨_, rfl, nI_1 i, by omega, ?_, ?_⟩
        · rw [g_ct, hq]; exact nI_1 _
        · rw [g_ct, hq, g_ft, hq, z, if_neg (by rw [if_pos rfl]; omega), if_neg (by rw [hfp]; omega), if_pos rfl]
      · rw [if_neg (show ¬ nI (g_ct (g_fc k g_any (g_ok Z wk sg) w 0 0) i) = nI 0 by rw [nI_eq (by omega) (by omega)]; exact z)]
        refine ⟨_, rfl, nI_1 i, by omega, ?_, ?_⟩
        · rw [g_ct, hq]; exact nI_1 _
        · rw [g_ct, hq, g_ft, hq, if_neg z, if_neg (by rw [if_pos rfl]; omega), if_pos (hfp.mpr (by omega))]
  · intro x hP
    obtain ⟨e1, e2, e3, e4⟩ := hP
    rw [e1, e3, e4, mm_power hw, z_bs, if_pos (nI_le (Nat.le_refl _) (by omega))]
    refine ⟨_, rfl, ?_⟩
    unfold g_fr
    by_cases z : d = 0
    · rw [if_pos z, if_pos z]
      exact ⟨_, rfl, rfl⟩
    · rw [if_neg z, if_neg z]
      exact ⟨_, rfl, rfl⟩
theorem mm_sure (hM : hg_M σ W H R) (hY : Z ≤ 6 ∧ ∀ j, j < Z → wk j ≤ 4 ∧ sg j ≤ 4) (h : hg_sM σ Z wk sg) {k w t : Nat} (ha : 0 ≤ (nI k).toInt ∧ (nI k).toInt ≤ 4) (hb : 1 ≤ (nI w).toInt ∧ (nI w).toInt ≤ 5) (hk : k < 5) (hw : w ≤ 5) (ht : t < w) : f_M_sure (nI k) (nI w) (nI t) σ = some (g_sr k w t (g_ok Z wk sg)) := by
  obtain ⟨w0, w1⟩ := g_p5 hw
  have hN := g_N_lt (g_fc k g_any (g_ok Z wk sg) w 0 0) hw
  have hp0 : 0 < 5 ^ (w - 1 - t) := Nat.pow_pos (by omega)
  have hp1 : 5 ^ (w - 1 - t) ≤ 5 ^ 5 := Nat.pow_le_pow_right (by omega) (by omega)
  have hwk : f_M_in (nI t).toInt64 (0 : Int64) (nI (w - 1)).toInt64 σ = some (nI 1) := by
    rw [mm_inI, Int32.toInt_toInt64, nI_toInt (by omega), nI_toInt (by omega), if_pos]
    refine ⟨?_, by omega⟩
    show (0 : Int) ≤ _
    omega
  unfold f_M_sure
  rw [km_0_4, z_bs, if_pos ha, if_neg (show ¬ nI 1 = 0 by decide), km_1_5, z_bs, if_pos hb, if_neg (show ¬ nI 1 = 0 by decide), nl1, pk_sub (by omega), hwk, z_bs, if_neg (show ¬ nI 1 = 0 by decide), pk_sub (by omega)]
  refine z_ex (z_lp' (fun i (x : Int32 × Int32) => x.2 = nI i ∧ i ≤ 5 ^ w ∧ x.1 = nI (g_so (g_fc k g_any (g_ok Z wk sg) w 0 0) (fun m => m / 5 ^ (w - 1 - t) % 5) i)) (5 ^ w) ?_ ?_ ?_)
  · exact ⟨rfl, by omega, rfl⟩
  · intro i x hi hP
    obtain ⟨e1, e2, e3⟩ := hP
    have hdl : i / 5 ^ (w - 1 - t) ≤ i := Nat.div_le_self _ _
    have hl := Nat.mod_lt (i / 5 ^ (w - 1 - t)) (show 0 < 5 by omega)
    rw [e1, e3, mm_power hw, z_bs, if_neg (nI_ge hi (by omega)), mm_rowFits hM hY h hk hw hi, z_bs]
    simp only [z_join]
    cases hq : g_fc k g_any (g_ok Z wk sg) w 0 0 i with
    | false =>
      rw [if_pos (show nI (if false = true then 1 else 0) = 0 from rfl), nl0, z_or]
      refine ⟨_, rfl, nI_add i 1, by omega, ?_⟩
      rw [g_so, hq]
      rfl
    | true =>
      rw [if_neg (show ¬ nI (if true = true then 1 else 0) = 0 by decide), mm_power (by omega), z_bs, nl0, if_neg (show ¬ nI (5 ^ (w - 1 - t)) = nI 0 by rw [nI_eq (by omega) (by omega)]; omega), pk_div (by omega) (by omega) (by omega), nl5, pk_rem (by omega) (by omega) (by omega), show (31 : Int32) = nI 31 from rfl, z_shl (by omega), z_or]
      refine ⟨_, rfl, nI_add i 1, by omega, ?_⟩
      rw [g_so, hq]
      rfl
  · intro x hP
    obtain ⟨e1, e2, e3⟩ := hP
    have hso := g_so_lt (g_fc k g_any (g_ok Z wk sg) w 0 0) (fun m => m / 5 ^ (w - 1 - t) % 5) (fun m => Nat.mod_lt _ (by omega)) (5 ^ w)
    have his := fun (s : Nat) => g_so_is (q := g_fc k g_any (g_ok Z wk sg) w 0 0) (d := fun m => m / 5 ^ (w - 1 - t) % 5) (n := 5 ^ w) (s := s)
    rw [e1, mm_power hw, z_bs, if_pos (nI_le (Nat.le_refl _) (by omega))]
    refine ⟨_, rfl, ?_⟩
    rw [e3]
    generalize g_so (g_fc k g_any (g_ok Z wk sg) w 0 0) (fun m => m / 5 ^ (w - 1 - t) % 5) (5 ^ w) = some1 at hso his
    have hon : ∀ s, s < 5 → (g_on k w t (g_ok Z wk sg) s = true ↔ some1 = 2 ^ s) := fun s hs => by
      unfold g_on
      rw [Bool.and_eq_true, decide_eq_true_iff, decide_eq_true_iff, g_only ht hs, his]
    refine z_lp (fun s (y : Int32) => y = nI s ∧ ∀ j, j < s → g_on k w t (g_ok Z wk sg) j = false) 5 ?_ ?_ ?_
    · exact ⟨rfl, fun j hj => absurd hj (by omega)⟩
    · intro s y hs hP
      obtain ⟨f1, f2⟩ := hP
      subst f1
      have h2s : 2 ^ s ≤ 2 ^ 4 := Nat.pow_le_pow_right (by omega) (by omega)
      rw [nl5, if_neg (nI_ge hs (by omega)), show (31 : Int32) = nI 31 from rfl, z_shl (by omega)]
      by_cases c : some1 = 2 ^ s
      · rw [if_pos (show nI some1 = nI (2 ^ s) by rw [c])]
        right
        refine ⟨_, rfl, _, rfl, ?_⟩
        have := g_ft_is (g_on k w t (g_ok Z wk sg)) 5 s (by omega) f2 (fun _ => (hon s hs).mpr c)
        unfold g_sr
        rw [this, if_pos hs]
      · rw [if_neg (show ¬ nI some1 = nI (2 ^ s) by rw [nI_eq (by omega) (by omega)]; exact c)]
        left
        refine ⟨_, rfl, nI_add s 1, fun j hj => ?_⟩
        by_cases cj : j = s
        · rw [cj]
          cases hv : g_on k w t (g_ok Z wk sg) s with
          | false => rfl
          | true => exact absurd ((hon s hs).mp hv) c
        · exact f2 j (by omega)
    · intro y hP
      obtain ⟨f1, f2⟩ := hP
      subst f1
      rw [nl5, if_pos (nI_le (Nat.le_refl _) (by omega))]
      refine ⟨_, rfl, _, rfl, ?_⟩
      have := g_ft_is (g_on k w t (g_ok Z wk sg)) 5 5 (Nat.le_refl _) f2 (fun z => absurd z (by omega))
      unfold g_sr
      rw [this, if_neg (by omega)]
      rfl
/-- crops that can be such that some row fits -/
def g_sw (w : Nat) (ok : Nat → Nat → Bool) (k : Nat) : Bool := decide (0 < g_ct (g_fc k g_any ok w 0 0) (5 ^ w))
theorem yy_sown (h : hg_sY σ Z wk sg) {w : Nat} (hb : 1 ≤ (nI w).toInt ∧ (nI w).toInt ≤ 5) (hw : w ≤ 5) : ∃ g, f_Y_sown (nI w) σ = some g ∧ g.1 = nI (g_bs (g_sw w (g_ok Z wk sg)) 5) ∧ ∀ q, q ≠ 47 → q ≠ 48 → q ≠ 49 → g.2 q = σ q := by
  unfold f_Y_sown
  rw [nl1, nl5, ki_1_5, z_bs, if_pos hb, if_neg (show ¬ nI 1 = 0 by decide)]
  refine z_lp' (fun k (x : Int32 × Int32 × zS) => x.1 = nI (g_bs (g_sw w (g_ok Z wk sg)) k) ∧ x.2.1 = nI k ∧ ∀ q, q ≠ 47 → q ≠ 48 → q ≠ 49 → x.2.2 q = σ q) 5 ?_ ?_ ?_
  · exact ⟨rfl, rfl, fun _ _ _ _ => rfl⟩
  · intro k x hk hP
    obtain ⟨e1, e2, e3⟩ := hP
    have hS2 : hg_sY x.2.2 Z wk sg := hg_sY_c h (e3 44 (by omega) (by omega) (by omega)) (e3 45 (by omega) (by omega) (by omega)) (e3 46 (by omega) (by omega) (by omega))
    obtain ⟨r, r1, r2, r3, r4⟩ := yy_fitting hk hw hS2
    have hN := g_N_lt (g_fc k g_any (g_ok Z wk sg) w 0 0) hw
    have hfr : ∀ q, q ≠ 47 → q ≠ 48 → q ≠ 49 → r.2 q = σ q := fun q h1 h2 h3 => by rw [r4 q h1 h2 h3, e3 q h1 h2 h3]
    rw [e1, e2, if_neg (nI_ge hk (by omega)), r1, z_bs, r2]
    simp only [z_join, z_let]
    refine ⟨(nI (g_bs (g_sw w (g_ok Z wk sg)) (k + 1)), nI (k + 1), r.2), ?_, rfl, rfl, hfr⟩
    rw [g_bs_S, nl0, nI_add]
    unfold g_sw
    by_cases z : g_ct (g_fc k g_any (g_ok Z wk sg) w 0 0) (5 ^ w) = 0
    · rw [if_pos (show nI (g_ct (g_fc k g_any (g_ok Z wk sg) w 0 0) (5 ^ w)) ≤ nI 0 by rw [z]; decide), z, if_neg (by decide), Nat.or_zero]
    · rw [if_neg (nI_ge (show 0 < g_ct (g_fc k g_any (g_ok Z wk sg) w 0 0) (5 ^ w) by omega) hN), show (31 : Int32) = nI 31 from rfl, z_shl (by omega), z_or, if_pos (decide_eq_true (show 0 < g_ct (g_fc k g_any (g_ok Z wk sg) w 0 0) (5 ^ w) by omega))]
  · intro x hP
    obtain ⟨e1, e2, e3⟩ := hP
    rw [e1, e2, if_pos (nI_le (Nat.le_refl _) (by omega))]
    exact ⟨_, rfl, _, rfl, rfl, e3⟩
theorem mm_sown (hM : hg_M σ W H R) (hY : Z ≤ 6 ∧ ∀ j, j < Z → wk j ≤ 4 ∧ sg j ≤ 4) (h : hg_sM σ Z wk sg) {w : Nat} (hb : 1 ≤ (nI w).toInt ∧ (nI w).toInt ≤ 5) (hw : w ≤ 5) : f_M_sown (nI w) σ = some (nI (g_bs (g_sw w (g_ok Z wk sg)) 5)) := by
  obtain ⟨w0, w1⟩ := g_p5 hw
  unfold f_M_sown
  rw [km_1_5, z_bs, if_pos hb, if_neg (show ¬ nI 1 = 0 by decide)]
  refine z_ex (z_lp' (fun k (x : Int32 × Int32) => x.1 = nI (g_bs (g_sw w (g_ok Z wk sg)) k) ∧ x.2 = nI k ∧ k ≤ 5) 5 ?_ ?_ ?_)
  · exact ⟨rfl, rfl, by omega⟩
  · intro k x hk hP
    obtain ⟨e1, e2, -⟩ := hP
    rw [e1, e2, nl5, if_neg (nI_ge hk (by omega))]
    refine z_inl ?_
    refine z_lp' (fun i (y : Int32 × Int32) => y.2 = nI i ∧ i ≤ 5 ^ w ∧ y.1 = nI (g_bs (g_sw w (g_ok Z wk sg)) k ||| (if 0 < g_ct (g_fc k g_any (g_ok Z wk sg) w 0 0) i then 2 ^ k else 0))) (5 ^ w) ?_ ?_ ?_
    · exact ⟨rfl, by omega, by rw [if_neg (by rw [g_ct]; omega), Nat.or_zero]⟩
    · intro i y hi hP
      obtain ⟨f1, f2, f3⟩ := hP
      rw [f1, f3, mm_power hw, z_bs, if_neg (nI_ge hi (by omega)), mm_rowFits hM hY h hk hw hi, z_bs]
      simp only [z_join]
      cases hq : g_fc k g_any (g_ok Z wk sg) w 0 0 i with
      | false =>
        rw [if_pos (show nI (if false = true then 1 else 0) = 0 from rfl), nl0, z_or, nl1, nI_add]
        refine ⟨_, rfl, rfl, by omega, ?_⟩
        rw [g_ct, hq, Nat.or_zero]
        rfl
      | true =>
        rw [if_neg (show ¬ nI (if true = true then 1 else 0) = 0 by decide), show (31 : Int32) = nI 31 from rfl, nl1, z_shl (by omega), z_or, nI_add]
        refine ⟨_, rfl, rfl, by omega, ?_⟩
        rw [g_ct, hq, if_pos (show 0 < g_ct (g_fc k g_any (g_ok Z wk sg) w 0 0) i + (if true = true then 1 else 0) by rw [if_pos rfl]; omega), Nat.or_assoc]
        congr 2
        split
        · rw [Nat.or_self]
        · rw [Nat.zero_or]
    · intro y hP
      obtain ⟨f1, f2, f3⟩ := hP
      rw [f1, f3, mm_power hw, z_bs, if_pos (nI_le (Nat.le_refl _) (by omega))]
      refine ⟨_, rfl, _, rfl, _, rfl, ?_, nI_1 k, by omega⟩
      rw [g_bs_S]
      unfold g_sw
      by_cases z : 0 < g_ct (g_fc k g_any (g_ok Z wk sg) w 0 0) (5 ^ w)
      · rw [if_pos z, if_pos (decide_eq_true z)]
      · rw [if_neg z, if_neg (by rw [decide_eq_true_iff]; exact z)]
  · intro x hP
    obtain ⟨e1, e2, -⟩ := hP
    rw [e1, e2, nl5, if_pos (nI_le (Nat.le_refl _) (by omega))]
    exact ⟨_, rfl, _, rfl, rfl⟩
end S2
theorem c_rows {σ : zS} (h : z_Inv σ) (a b d : Int32) : hc_R (f_Y_rows a b d) (f_M_rows a b d) σ := by
  obtain ⟨W, H, R, p, h⟩ := h
  obtain ⟨hD, hV, hG, hQ, hX, hB⟩ := id h
  obtain ⟨n1, n2⟩ := hg_D_N hD
  obtain ⟨d1, d2, d3, d4, d5⟩ := id hD
  obtain ⟨G0, G1, G2, G3, G4, G5, G6, G7, G8, G9, G10, G11, G12, G13, G14, G15, G16, G17⟩ := id hG
  have hM := hX.1
  have q := hg_Q0 hQ
  have hI : z_Inv σ := ⟨W, H, R, p, h⟩
  obtain ⟨Z, wk, sg, hY, hS⟩ := hg_sv hX.2.2.2.1
  have hYb : Z ≤ 6 ∧ ∀ j, j < Z → wk j ≤ 4 ∧ sg j ≤ 4 := ⟨hY.2.1, fun j hj => ⟨(hY.2.2 j hj).1, (hY.2.2 j hj).2.1⟩⟩
  by_cases ha : 0 ≤ a.toInt ∧ a.toInt ≤ 4
  · by_cases hb : 1 ≤ b.toInt ∧ b.toInt ≤ 5
    · by_cases hd : 0 ≤ d.toInt ∧ d.toInt ≤ 1
      · obtain ⟨k, -, hk, rfl⟩ := hg_arg2 (lo := 0) (hi := 4) (by omega) ha
        obtain ⟨w, hw1, hw, rfl⟩ := hg_arg2 (lo := 1) (hi := 5) (by omega) hb
        by_cases hz : d = 0
        · obtain ⟨g, g1, g2, g4, g3⟩ := yy_fitting (k := k) (w := w) (by omega) hw hY
          have hM2 : hg_M g.2 W H R := hg_M_c hM (g3 90 (by omega) (by omega) (by omega)) (g3 92 (by omega) (by omega) (by omega))
          have hS2 : hg_sM g.2 Z wk sg := by
            unfold hg_sM
            rw [g3 90 (by omega) (by omega) (by omega), g3 100 (by omega) (by omega) (by omega)]
            exact hS
          have hI2 : z_Inv g.2 := hg_I_c2 h (fun k hk => g3 k (by unfold zk at hk; omega) (by unfold zk at hk; omega) (by unfold zk at hk; omega)) (fun j hj => by rw [g3 91 (by omega) (by omega) (by omega)])
          refine ⟨g.1, g.2, ?_, ?_, hI2⟩
          · unfold f_Y_rows
            rw [y_isKind, z_bs, if_pos ha, if_neg (show ¬ nI 1 = 0 by decide), nl1, nl5, ki_1_5, z_bs, if_pos hb, if_neg (show ¬ nI 1 = 0 by decide), nl0, ki_0_1, z_bs, if_pos hd, if_neg (show ¬ nI 1 = nI 0 by decide), if_pos (show d = nI 0 from hz), g1, z_bs]
          · rw [mm_rows hM2 hYb hS2 ha hb hd (by omega) hw, if_pos hz, g2]
        · obtain ⟨g, g1, g2, g3⟩ := yy_firstRow (k := k) (w := w) (by omega) hw hY
          have hM2 : hg_M g.2 W H R := hg_M_c hM (g3 90 (by omega) (by omega) (by omega)) (g3 92 (by omega) (by omega) (by omega))
          have hS2 : hg_sM g.2 Z wk sg := by
            unfold hg_sM
            rw [g3 90 (by omega) (by omega) (by omega), g3 100 (by omega) (by omega) (by omega)]
            exact hS
          have hI2 : z_Inv g.2 := hg_I_c2 h (fun k hk => g3 k (by unfold zk at hk; omega) (by unfold zk at hk; omega) (by unfold zk at hk; omega)) (fun j hj => by rw [g3 91 (by omega) (by omega) (by omega)])
          refine ⟨g.1, g.2, ?_, ?_, hI2⟩
          · unfold f_Y_rows
            rw [y_isKind, z_bs, if_pos ha, if_neg (show ¬ nI 1 = 0 by decide), nl1, nl5, ki_1_5, z_bs, if_pos hb, if_neg (show ¬ nI 1 = 0 by decide), nl0, ki_0_1, z_bs, if_pos hd, if_neg (show ¬ nI 1 = nI 0 by decide), if_neg (show ¬ d = nI 0 from hz), g1, z_bs]
          · rw [mm_rows hM2 hYb hS2 ha hb hd (by omega) hw, if_neg hz, g2]
      · refine ⟨-1, σ, ?_, ?_, hI⟩
        · unfold f_Y_rows
          rw [y_isKind, z_bs, if_pos ha, if_neg (show ¬ nI 1 = 0 by decide), nl1, nl5, ki_1_5, z_bs, if_pos hb, if_neg (show ¬ nI 1 = 0 by decide), nl0, ki_0_1, z_bs, if_neg hd, if_pos (show nI 0 = nI 0 from rfl)]
        · unfold f_M_rows
          rw [km_0_4, z_bs, if_pos ha, if_neg (show ¬ nI 1 = 0 by decide), km_1_5, z_bs, if_pos hb, if_neg (show ¬ nI 1 = 0 by decide), km_0_1, z_bs, if_neg hd, if_pos (show nI 0 = 0 from rfl)]
    · refine ⟨-1, σ, ?_, ?_, hI⟩
      · unfold f_Y_rows
        rw [y_isKind, z_bs, if_pos ha, if_neg (show ¬ nI 1 = 0 by decide), nl1, nl5, ki_1_5, z_bs, if_neg hb, if_pos (show nI 0 = 0 from rfl)]
      · unfold f_M_rows
        rw [km_0_4, z_bs, if_pos ha, if_neg (show ¬ nI 1 = 0 by decide), km_1_5, z_bs, if_neg hb, if_pos (show nI 0 = 0 from rfl)]
  · refine ⟨-1, σ, ?_, ?_, hI⟩
    · unfold f_Y_rows
      rw [y_isKind, z_bs, if_neg ha, if_pos (show nI 0 = 0 from rfl)]
    · unfold f_M_rows
      rw [km_0_4, z_bs, if_neg ha, if_pos (show nI 0 = 0 from rfl)]
theorem c_sure {σ : zS} (h : z_Inv σ) (a b d : Int32) : hc_R (f_Y_sure a b d) (f_M_sure a b d) σ := by
  obtain ⟨W, H, R, p, h⟩ := h
  obtain ⟨hD, hV, hG, hQ, hX, hB⟩ := id h
  obtain ⟨n1, n2⟩ := hg_D_N hD
  obtain ⟨d1, d2, d3, d4, d5⟩ := id hD
  obtain ⟨G0, G1, G2, G3, G4, G5, G6, G7, G8, G9, G10, G11, G12, G13, G14, G15, G16, G17⟩ := id hG
  have hM := hX.1
  have q := hg_Q0 hQ
  have hI : z_Inv σ := ⟨W, H, R, p, h⟩
  obtain ⟨Z, wk, sg, hY, hS⟩ := hg_sv hX.2.2.2.1
  have hYb : Z ≤ 6 ∧ ∀ j, j < Z → wk j ≤ 4 ∧ sg j ≤ 4 := ⟨hY.2.1, fun j hj => ⟨(hY.2.2 j hj).1, (hY.2.2 j hj).2.1⟩⟩
  by_cases ha : 0 ≤ a.toInt ∧ a.toInt ≤ 4
  · by_cases hb : 1 ≤ b.toInt ∧ b.toInt ≤ 5
    · obtain ⟨k, -, hk, rfl⟩ := hg_arg2 (lo := 0) (hi := 4) (by omega) ha
      obtain ⟨w, hw1, hw, rfl⟩ := hg_arg2 (lo := 1) (hi := 5) (by omega) hb
      by_cases hd : 0 ≤ d.toInt ∧ d.toInt ≤ ((w - 1 : Nat) : Int)
      · obtain ⟨t, -, ht, rfl⟩ := hg_arg2 (lo := 0) (hi := w - 1) (by omega) hd
        obtain ⟨g, g1, g2, g3⟩ := yy_onlyOne (k := k) (w := w) (t := t) (by omega) hw (by omega) hY
        have hM2 : hg_M g.2 W H R := hg_M_c hM (g3 90 (by omega) (by omega) (by omega)) (g3 92 (by omega) (by omega) (by omega))
        have hS2 : hg_sM g.2 Z wk sg := by
          unfold hg_sM
          rw [g3 90 (by omega) (by omega) (by omega), g3 100 (by omega) (by omega) (by omega)]
          exact hS
        have hI2 : z_Inv g.2 := hg_I_c2 h (fun k hk => g3 k (by unfold zk at hk; omega) (by unfold zk at hk; omega) (by unfold zk at hk; omega)) (fun j hj => by rw [g3 91 (by omega) (by omega) (by omega)])
        refine ⟨g.1, g.2, ?_, ?_, hI2⟩
        · unfold f_Y_sure
          rw [y_isKind, z_bs, if_pos ha, if_neg (show ¬ nI 1 = 0 by decide), nl1, nl5, ki_1_5, z_bs, if_pos hb, if_neg (show ¬ nI 1 = 0 by decide), pk_sub (by omega), nl0, y_isIn, nI_toInt (show 0 < 2 ^ 31 by omega), nI_toInt (show w - 1 < 2 ^ 31 by omega), z_bs, if_pos (show (((0 : Nat) : Int) ≤ (nI t).toInt ∧ (nI t).toInt ≤ ((w - 1 : Nat) : Int)) from hd), if_neg (show ¬ nI 1 = nI 0 by decide), g1, z_bs]
        · rw [mm_sure hM2 hYb hS2 ha hb (by omega) hw (by omega), g2]
      · refine ⟨-1, σ, ?_, ?_, hI⟩
        · unfold f_Y_sure
          rw [y_isKind, z_bs, if_pos ha, if_neg (show ¬ nI 1 = 0 by decide), nl1, nl5, ki_1_5, z_bs, if_pos hb, if_neg (show ¬ nI 1 = 0 by decide), pk_sub (by omega), nl0, y_isIn, nI_toInt (show 0 < 2 ^ 31 by omega), nI_toInt (show w - 1 < 2 ^ 31 by omega), z_bs, if_neg (show ¬ (((0 : Nat) : Int) ≤ d.toInt ∧ d.toInt ≤ ((w - 1 : Nat) : Int)) from hd), if_pos (show nI 0 = nI 0 from rfl)]
        · unfold f_M_sure
          rw [km_0_4, z_bs, if_pos ha, if_neg (show ¬ nI 1 = 0 by decide), km_1_5, z_bs, if_pos hb, if_neg (show ¬ nI 1 = 0 by decide), nl1, pk_sub (by omega), mm_inI, Int32.toInt_toInt64, nI_toInt (show w - 1 < 2 ^ 31 by omega), show (0 : Int64).toInt = 0 from rfl, z_bs, if_neg hd, if_pos (show nI 0 = 0 from rfl)]
    · refine ⟨-1, σ, ?_, ?_, hI⟩
      · unfold f_Y_sure
        rw [y_isKind, z_bs, if_pos ha, if_neg (show ¬ nI 1 = 0 by decide), nl1, nl5, ki_1_5, z_bs, if_neg hb, if_pos (show nI 0 = 0 from rfl)]
      · unfold f_M_sure
        rw [km_0_4, z_bs, if_pos ha, if_neg (show ¬ nI 1 = 0 by decide), km_1_5, z_bs, if_neg hb, if_pos (show nI 0 = 0 from rfl)]
  · refine ⟨-1, σ, ?_, ?_, hI⟩
    · unfold f_Y_sure
      rw [y_isKind, z_bs, if_neg ha, if_pos (show nI 0 = 0 from rfl)]
    · unfold f_M_sure
      rw [km_0_4, z_bs, if_neg ha, if_pos (show nI 0 = 0 from rfl)]
theorem c_sown {σ : zS} (h : z_Inv σ) (a : Int32) : hc_R (f_Y_sown a) (f_M_sown a) σ := by
  obtain ⟨W, H, R, p, h⟩ := h
  obtain ⟨hD, hV, hG, hQ, hX, hB⟩ := id h
  obtain ⟨n1, n2⟩ := hg_D_N hD
  obtain ⟨d1, d2, d3, d4, d5⟩ := id hD
  obtain ⟨G0, G1, G2, G3, G4, G5, G6, G7, G8, G9, G10, G11, G12, G13, G14, G15, G16, G17⟩ := id hG
  have hM := hX.1
  have q := hg_Q0 hQ
  have hI : z_Inv σ := ⟨W, H, R, p, h⟩
  obtain ⟨Z, wk, sg, hY, hS⟩ := hg_sv hX.2.2.2.1
  have hYb : Z ≤ 6 ∧ ∀ j, j < Z → wk j ≤ 4 ∧ sg j ≤ 4 := ⟨hY.2.1, fun j hj => ⟨(hY.2.2 j hj).1, (hY.2.2 j hj).2.1⟩⟩
  by_cases hb : 1 ≤ a.toInt ∧ a.toInt ≤ 5
  · obtain ⟨w, hw1, hw, rfl⟩ := hg_arg2 (lo := 1) (hi := 5) (by omega) hb
    obtain ⟨g, g1, g2, g3⟩ := yy_sown hY hb hw
    have hM2 : hg_M g.2 W H R := hg_M_c hM (g3 90 (by omega) (by omega) (by omega)) (g3 92 (by omega) (by omega) (by omega))
    have hS2 : hg_sM g.2 Z wk sg := by
      unfold hg_sM
      rw [g3 90 (by omega) (by omega) (by omega), g3 100 (by omega) (by omega) (by omega)]
      exact hS
    have hI2 : z_Inv g.2 := hg_I_c2 h (fun k hk => g3 k (by unfold zk at hk; omega) (by unfold zk at hk; omega) (by unfold zk at hk; omega)) (fun j hj => by rw [g3 91 (by omega) (by omega) (by omega)])
    exact ⟨g.1, g.2, g1, by rw [mm_sown hM2 hYb hS2 hb hw, g2], hI2⟩
  · refine ⟨-1, σ, ?_, ?_, hI⟩
    · unfold f_Y_sown
      rw [nl1, nl5, ki_1_5, z_bs, if_neg hb, if_pos (show nI 0 = 0 from rfl)]
    · unfold f_M_sown
      rw [km_1_5, z_bs, if_neg hb, if_pos (show nI 0 = 0 from rfl)]
theorem hg_X_st {σ τ : zS} {W H R : Nat} (h : hg_X σ W H R) (e : ∀ k, k = 0 ∨ k = 35 ∨ k = 36 ∨ (50 ≤ k ∧ k ≤ 63) ∨ (66 ≤ k ∧ k ≤ 79) ∨ (82 ≤ k ∧ k ≤ 89) ∨ k = 92 ∨ (95 ≤ k ∧ k ≤ 97) ∨ (101 ≤ k ∧ k ≤ 104) → τ k = σ k) (e90 : ∀ j, j ≠ 26 → τ 90 j = σ 90 j) (e2 : τ 91 = σ 91) (hs : I_s τ) : hg_X τ W H R := by
  obtain ⟨h1, ⟨b0, b1, k1, k2, k3, k4, k5⟩, h3, h4, h5, h6, h7⟩ := h
  refine ⟨?_, ⟨b0, b1, ?_, ?_, ?_, fun hb => ?_, fun hb => ?_⟩, ?_, hs, ?_, ?_, ?_⟩
  · unfold hg_M at *
    rw [e90 1 (by omega), e90 2 (by omega), e90 3 (by omega), e 92 (by omega)]
    exact h1
  · rw [e 0 (by omega)]; exact k1
  · rw [e 101 (by omega)]; exact k2
  · rw [e 101 (by omega)]; exact k3
  · obtain ⟨p, p1, p2, p3⟩ := k4 hb
    exact ⟨p, p1, hg_G50_c p2 (fun k a b => e k (by omega)), hg_Q_c p3 e2⟩
  · obtain ⟨p, p1, p2, p3⟩ := k5 hb
    exact ⟨p, p1, hg_G66_c p2 (fun k a b => e k (by omega)), hg_Q_c p3 e2⟩
  · unfold I_t at *
    rw [e 35 (by omega), e90 13 (by omega), e 36 (by omega), e 95 (by omega)]
    exact h3
  · unfold I_h I_h1 at *
    rw [e 82 (by omega), e 83 (by omega), e 84 (by omega), e 85 (by omega), e 86 (by omega), e 87 (by omega), e 88 (by omega), e 89 (by omega), e 102 (by omega), e 103 (by omega), e 104 (by omega)]
    exact h5
  · unfold I_f at *
    rw [e 0 (by omega), e90 14 (by omega), e90 31 (by omega)]
    exact h6
  · unfold I_c at *
    rw [e 96 (by omega), e 97 (by omega)]
    exact h7
theorem hg_I_st {σ τ : zS} {W H R : Nat} {p : Nat → Nat} (h : hg_I σ W H R p) (e : ∀ k, (1 ≤ k ∧ k ≤ 14) ∨ (k = 0 ∨ k = 35 ∨ k = 36 ∨ (50 ≤ k ∧ k ≤ 63) ∨ (66 ≤ k ∧ k ≤ 79) ∨ (82 ≤ k ∧ k ≤ 89) ∨ k = 92 ∨ (95 ≤ k ∧ k ≤ 97) ∨ (101 ≤ k ∧ k ≤ 104)) → τ k = σ k) (e90 : ∀ j, j ≠ 26 → τ 90 j = σ 90 j) (e2 : τ 91 = σ 91) (hs : I_s τ) : z_Inv τ :=
  ⟨W, H, R, p, h.1, h.2.1, hg_G1_c h.2.2.1 (fun k a b => e k (Or.inl ⟨a, b⟩)), hg_Q_c h.2.2.2.1 e2, hg_X_st h.2.2.2.2.1 (fun k a => e k (Or.inr a)) e90 e2 hs, h.2.2.2.2.2⟩
theorem c_forget {σ : zS} (h : z_Inv σ) (a : Int32) : hc_B (f_Y_forget a) (f_M_forget a) σ := by
  obtain ⟨W, H, R, p, h⟩ := h
  obtain ⟨hD, hV, hG, hQ, hX, hB⟩ := id h
  obtain ⟨n1, n2⟩ := hg_D_N hD
  obtain ⟨d1, d2, d3, d4, d5⟩ := id hD
  obtain ⟨G0, G1, G2, G3, G4, G5, G6, G7, G8, G9, G10, G11, G12, G13, G14, G15, G16, G17⟩ := id hG
  have hM := hX.1
  have q := hg_Q0 hQ
  have hI : z_Inv σ := ⟨W, H, R, p, h⟩
  obtain ⟨Z, z1, z2, z3, z4⟩ := hX.2.2.2.1
  unfold hc_B f_Y_forget f_M_forget
  rw [z2, nl0, y_isIn, nI_toInt (show 0 < 2 ^ 31 by omega), nI_toInt (show Z < 2 ^ 31 by omega), z_bs]
  by_cases ha : ((0 : Nat) : Int) ≤ a.toInt ∧ a.toInt ≤ (Z : Int)
  · obtain ⟨n, -, hn, rfl⟩ := hg_arg2 (lo := 0) (hi := Z) (by omega) ha
    rw [if_pos ha, if_neg (show ¬ nI 1 = nI 0 by decide), z_let_e]
    refine ⟨nI Z, z_u σ 44 2 (nI n), z_u (z_u σ 44 2 (nI n)) 90 26 (nI n), rfl, ?_, ?_⟩
    · rw [hg_u_n (show 90 ≠ 44 by omega), z3, mm_inI, Int32.toInt_toInt64, nI_toInt (show Z < 2 ^ 31 by omega), show (0 : Int64).toInt = ((0 : Nat) : Int) from rfl, z_bs, if_pos ha, if_neg (show ¬ nI 1 = nI 0 by decide), z_let_e]
    · refine hg_I_st h (fun k hk => by simp (disch := omega) only [hg_u_n]) (fun j hj => by rw [hg_u_j hj, hg_u_n (by omega)]) (by simp (disch := omega) only [hg_u_n]) ⟨n, by omega, ?_, ?_, fun j hj => ?_⟩
      · rw [hg_u_n (by omega), hg_u_s]
      · rw [hg_u_s]
      · simp (disch := omega) only [hg_u_n]
        exact z4 j (by omega)
  · rw [if_neg ha, if_pos (show nI 0 = nI 0 from rfl)]
    refine ⟨-1, σ, σ, rfl, ?_, hI⟩
    rw [z3, mm_inI, Int32.toInt_toInt64, nI_toInt (show Z < 2 ^ 31 by omega), show (0 : Int64).toInt = ((0 : Nat) : Int) from rfl, z_bs, if_neg ha, if_pos (show nI 0 = nI 0 from rfl)]
theorem c_see {σ : zS} (h : z_Inv σ) (a b : Int32) : hc_B (f_Y_see a b) (f_M_see a b) σ := by
  obtain ⟨W, H, R, p, h⟩ := h
  obtain ⟨hD, hV, hG, hQ, hX, hB⟩ := id h
  obtain ⟨n1, n2⟩ := hg_D_N hD
  obtain ⟨d1, d2, d3, d4, d5⟩ := id hD
  obtain ⟨G0, G1, G2, G3, G4, G5, G6, G7, G8, G9, G10, G11, G12, G13, G14, G15, G16, G17⟩ := id hG
  have hM := hX.1
  have q := hg_Q0 hQ
  have hI : z_Inv σ := ⟨W, H, R, p, h⟩
  obtain ⟨Z, z1, z2, z3, z4⟩ := hX.2.2.2.1
  by_cases ha : 0 ≤ a.toInt ∧ a.toInt ≤ 4
  · by_cases hb : 0 ≤ b.toInt ∧ b.toInt ≤ 4
    · by_cases hf : Z = 6
      · refine ⟨- nI 3, σ, σ, ?_, ?_, hI⟩
        · simp (disch := omega) only [f_Y_see, f_St_add_44, ki_0_1, ki_0_10, ki_0_127, ki_0_13, ki_0_15, ki_0_2, ki_0_3, ki_0_4, ki_0_60, ki_0_7, ki_0_99, ki_0_999, ki_1_12, ki_1_4, ki_1_5, ki_1_6, ki_1_60, ki_1_8, ki_1_9, ki_48_57, ki_97_122, nl0, nl1, nl2, nl3, nl4, nl5, nl6, nl7, nl8, nl9, nl10, nl11, nl12, nl13, nl14, nl15, nl16, nl20, nl24, nl30, nl31, nl32, nl36, nl37, nl40, nl48, nl49, nl50, nl57, nl59, nl60, nl80, nl81, nl82, nl83, nl96, nl97, nl99, nl104, nl105, nl106, nl107, nl108, nl109, nl110, nl122, nl127, nl150, nl160, nl330, nl440, nl777, nl999, nl1000, nl1050, nl100000, nl1000000, nl111, z_bs, z_let, z_join, k_eq, k_ne, k_leT, k_leF, k_ltT, k_ltF, k_ib, k_ngT, nI_clamp, nI_add, pk_mul, pk_sub, if_true, if_false, true_or, or_true, false_or, or_false, true_and, and_true, false_and, and_false, not_true_eq_false, not_false_eq_true, hg_uu, ha, hb, z2, hf]
        · simp (disch := omega) only [f_M_see, km_0_1, km_0_127, km_0_13, km_0_2, km_0_3, km_0_4, km_0_60, km_0_999, km_0_99, km_0_10, km_0_7, km_1_12, km_1_5, km_1_4, km_1_6, km_1_60, km_1_9, km_1_8, km_1_3, km_11_49, km_48_57, km_97_122, nl0, nl1, nl2, nl3, nl4, nl5, nl6, nl7, nl8, nl9, nl10, nl11, nl12, nl13, nl14, nl15, nl16, nl20, nl24, nl30, nl31, nl32, nl36, nl37, nl40, nl48, nl49, nl50, nl57, nl59, nl60, nl80, nl81, nl82, nl83, nl96, nl97, nl99, nl104, nl105, nl106, nl107, nl108, nl109, nl110, nl122, nl127, nl150, nl160, nl330, nl440, nl777, nl999, nl1000, nl1050, nl100000, nl1000000, nl111, z_bs, z_let, z_join, k_eq, k_ne, k_leT, k_leF, k_ltT, k_ltF, k_ib, k_ngT, nI_clamp, nI_add, pk_mul, pk_sub, if_true, if_false, true_or, or_true, false_or, or_false, true_and, and_true, false_and, and_false, not_true_eq_false, not_false_eq_true, hg_uu, ha, hb, z3, hf]
      · obtain ⟨w, -, hw, rfl⟩ := hg_arg2 (lo := 0) (hi := 4) (by omega) ha
        obtain ⟨s, -, hs, rfl⟩ := hg_arg2 (lo := 0) (hi := 4) (by omega) hb
        refine ⟨nI (Z + 1), z_u (z_u (z_u σ 45 Z (nI w)) 46 Z (nI s)) 44 2 (nI (Z + 1)), z_u (z_u (z_u (z_u (z_u (z_u σ 45 Z (nI w)) 46 Z (nI s)) 44 2 (nI (Z + 1))) 100 (2 * Z) (nI w)) 100 (2 * Z + 1) (nI s)) 90 26 (nI (Z + 1)), ?_, ?_, ?_⟩
        · simp (disch := omega) only [f_Y_see, f_St_add_44, ki_0_1, ki_0_10, ki_0_127, ki_0_13, ki_0_15, ki_0_2, ki_0_3, ki_0_4, ki_0_60, ki_0_7, ki_0_99, ki_0_999, ki_1_12, ki_1_4, ki_1_5, ki_1_6, ki_1_60, ki_1_8, ki_1_9, ki_48_57, ki_97_122, nl0, nl1, nl2, nl3, nl4, nl5, nl6, nl7, nl8, nl9, nl10, nl11, nl12, nl13, nl14, nl15, nl16, nl20, nl24, nl30, nl31, nl32, nl36, nl37, nl40, nl48, nl49, nl50, nl57, nl59, nl60, nl80, nl81, nl82, nl83, nl96, nl97, nl99, nl104, nl105, nl106, nl107, nl108, nl109, nl110, nl122, nl127, nl150, nl160, nl330, nl440, nl777, nl999, nl1000, nl1050, nl100000, nl1000000, nl111, z_bs, z_let, z_join, k_eq, k_ne, k_leT, k_leF, k_ltT, k_ltF, k_ib, k_ngT, nI_clamp, nI_add, pk_mul, pk_sub, if_true, if_false, true_or, or_true, false_or, or_false, true_and, and_true, false_and, and_false, not_true_eq_false, not_false_eq_true, hg_uu, ha, hb, z2, hg_u_n, hg_u_s]
        · simp (disch := omega) only [f_M_see, km_0_1, km_0_127, km_0_13, km_0_2, km_0_3, km_0_4, km_0_60, km_0_999, km_0_99, km_0_10, km_0_7, km_1_12, km_1_5, km_1_4, km_1_6, km_1_60, km_1_9, km_1_8, km_1_3, km_11_49, km_48_57, km_97_122, nl0, nl1, nl2, nl3, nl4, nl5, nl6, nl7, nl8, nl9, nl10, nl11, nl12, nl13, nl14, nl15, nl16, nl20, nl24, nl30, nl31, nl32, nl36, nl37, nl40, nl48, nl49, nl50, nl57, nl59, nl60, nl80, nl81, nl82, nl83, nl96, nl97, nl99, nl104, nl105, nl106, nl107, nl108, nl109, nl110, nl122, nl127, nl150, nl160, nl330, nl440, nl777, nl999, nl1000, nl1050, nl100000, nl1000000, nl111, z_bs, z_let, z_join, k_eq, k_ne, k_leT, k_leF, k_ltT, k_ltF, k_ib, k_ngT, nI_clamp, nI_add, pk_mul, pk_sub, if_true, if_false, true_or, or_true, false_or, or_false, true_and, and_true, false_and, and_false, not_true_eq_false, not_false_eq_true, hg_uu, ha, hb, z3, hg_u_n, hg_u_s]
        · refine hg_I_st h (fun k hk => by simp (disch := omega) only [hg_u_n]) (fun j hj => by rw [hg_u_j hj]; simp (disch := omega) only [hg_u_n]) (by simp (disch := omega) only [hg_u_n]) ⟨Z + 1, by omega, ?_, ?_, fun j hj => ?_⟩
          · simp (disch := omega) only [hg_u_n, hg_u_s]
          · simp (disch := omega) only [hg_u_n, hg_u_s]
          · by_cases cj : j = Z
            · subst cj
              refine ⟨w, s, hw, hs, ?_, ?_, ?_, ?_⟩ <;> simp (disch := omega) only [hg_u_n, hg_u_s, hg_u_j]
            · obtain ⟨w', s', q1, q2, q3, q4, q5, q6⟩ := z4 j (by omega)
              refine ⟨w', s', q1, q2, ?_, ?_, ?_, ?_⟩
              · rw [← q3]; simp (disch := omega) only [hg_u_n, hg_u_j]
              · rw [← q4]; simp (disch := omega) only [hg_u_n, hg_u_j]
              · rw [← q5]; simp (disch := omega) only [hg_u_n, hg_u_j]
              · rw [← q6]; simp (disch := omega) only [hg_u_n, hg_u_j]
    · exact ⟨-1, σ, σ, by simp (disch := omega) only [f_Y_see, ki_0_1, ki_0_10, ki_0_127, ki_0_13, ki_0_15, ki_0_2, ki_0_3, ki_0_4, ki_0_60, ki_0_7, ki_0_99, ki_0_999, ki_1_12, ki_1_4, ki_1_5, ki_1_6, ki_1_60, ki_1_8, ki_1_9, ki_48_57, ki_97_122, nl0, nl1, nl2, nl3, nl4, nl5, nl6, nl7, nl8, nl9, nl10, nl11, nl12, nl13, nl14, nl15, nl16, nl20, nl24, nl30, nl31, nl32, nl36, nl37, nl40, nl48, nl49, nl50, nl57, nl59, nl60, nl80, nl81, nl82, nl83, nl96, nl97, nl99, nl104, nl105, nl106, nl107, nl108, nl109, nl110, nl122, nl127, nl150, nl160, nl330, nl440, nl777, nl999, nl1000, nl1050, nl100000, nl1000000, nl111, z_bs, z_let, z_join, k_eq, k_ne, k_leT, k_leF, k_ltT, k_ltF, k_ib, k_ngT, nI_clamp, nI_add, pk_mul, pk_sub, if_true, if_false, true_or, or_true, false_or, or_false, true_and, and_true, false_and, and_false, not_true_eq_false, not_false_eq_true, hg_uu, ha, hb], by simp (disch := omega) only [f_M_see, km_0_1, km_0_127, km_0_13, km_0_2, km_0_3, km_0_4, km_0_60, km_0_999, km_0_99, km_0_10, km_0_7, km_1_12, km_1_5, km_1_4, km_1_6, km_1_60, km_1_9, km_1_8, km_1_3, km_11_49, km_48_57, km_97_122, nl0, nl1, nl2, nl3, nl4, nl5, nl6, nl7, nl8, nl9, nl10, nl11, nl12, nl13, nl14, nl15, nl16, nl20, nl24, nl30, nl31, nl32, nl36, nl37, nl40, nl48, nl49, nl50, nl57, nl59, nl60, nl80, nl81, nl82, nl83, nl96, nl97, nl99, nl104, nl105, nl106, nl107, nl108, nl109, nl110, nl122, nl127, nl150, nl160, nl330, nl440, nl777, nl999, nl1000, nl1050, nl100000, nl1000000, nl111, z_bs, z_let, z_join, k_eq, k_ne, k_leT, k_leF, k_ltT, k_ltF, k_ib, k_ngT, nI_clamp, nI_add, pk_mul, pk_sub, if_true, if_false, true_or, or_true, false_or, or_false, true_and, and_true, false_and, and_false, not_true_eq_false, not_false_eq_true, hg_uu, ha, hb], hI⟩
  · exact ⟨-1, σ, σ, by simp (disch := omega) only [f_Y_see, ki_0_1, ki_0_10, ki_0_127, ki_0_13, ki_0_15, ki_0_2, ki_0_3, ki_0_4, ki_0_60, ki_0_7, ki_0_99, ki_0_999, ki_1_12, ki_1_4, ki_1_5, ki_1_6, ki_1_60, ki_1_8, ki_1_9, ki_48_57, ki_97_122, nl0, nl1, nl2, nl3, nl4, nl5, nl6, nl7, nl8, nl9, nl10, nl11, nl12, nl13, nl14, nl15, nl16, nl20, nl24, nl30, nl31, nl32, nl36, nl37, nl40, nl48, nl49, nl50, nl57, nl59, nl60, nl80, nl81, nl82, nl83, nl96, nl97, nl99, nl104, nl105, nl106, nl107, nl108, nl109, nl110, nl122, nl127, nl150, nl160, nl330, nl440, nl777, nl999, nl1000, nl1050, nl100000, nl1000000, nl111, z_bs, z_let, z_join, k_eq, k_ne, k_leT, k_leF, k_ltT, k_ltF, k_ib, k_ngT, nI_clamp, nI_add, pk_mul, pk_sub, if_true, if_false, true_or, or_true, false_or, or_false, true_and, and_true, false_and, and_false, not_true_eq_false, not_false_eq_true, hg_uu, ha], by simp (disch := omega) only [f_M_see, km_0_1, km_0_127, km_0_13, km_0_2, km_0_3, km_0_4, km_0_60, km_0_999, km_0_99, km_0_10, km_0_7, km_1_12, km_1_5, km_1_4, km_1_6, km_1_60, km_1_9, km_1_8, km_1_3, km_11_49, km_48_57, km_97_122, nl0, nl1, nl2, nl3, nl4, nl5, nl6, nl7, nl8, nl9, nl10, nl11, nl12, nl13, nl14, nl15, nl16, nl20, nl24, nl30, nl31, nl32, nl36, nl37, nl40, nl48, nl49, nl50, nl57, nl59, nl60, nl80, nl81, nl82, nl83, nl96, nl97, nl99, nl104, nl105, nl106, nl107, nl108, nl109, nl110, nl122, nl127, nl150, nl160, nl330, nl440, nl777, nl999, nl1000, nl1050, nl100000, nl1000000, nl111, z_bs, z_let, z_join, k_eq, k_ne, k_leT, k_leF, k_ltT, k_ltF, k_ib, k_ngT, nI_clamp, nI_add, pk_mul, pk_sub, if_true, if_false, true_or, or_true, false_or, or_false, true_and, and_true, false_and, and_false, not_true_eq_false, not_false_eq_true, hg_uu, ha], hI⟩
