/-! the plan laid, the class -/
def gp_bq (k : Nat) (pr : Nat → Nat) (r l st : Nat) (j : Nat) : Bool := decide (gp_c pr (j + 1) + gp_B k (gp_C k pr r) (j + 1) st = gp_C k pr (r + 1) l st)
/-- what is laid, by its number -/
def gp_b (k : Nat) (pr : Nat → Nat) (r l st : Nat) : Nat := if gp_B k (gp_C k pr r) l st = gp_C k pr (r + 1) l st then 0 else g_ft (gp_bq k pr r l st) 36 + 1
theorem gp_L_ex {k : Nat} {pr : Nat → Nat} {C : Nat → Nat → Nat} {st : Nat} : ∀ j, gp_L k pr C st j < 100000 → ∃ i, i < j ∧ gp_x (gp_c pr (i + 1)) (gp_B k C (i + 1) st) = gp_L k pr C st j
  | 0, h => absurd h (by rw [gp_L]; omega)
  | j + 1, h => by
    rw [gp_L] at h ⊢
    by_cases c : gp_x (gp_c pr (j + 1)) (gp_B k C (j + 1) st) ≤ gp_L k pr C st j
    · exact ⟨j, by omega, by omega⟩
    · obtain ⟨i, h1, h2⟩ := gp_L_ex (k := k) (pr := pr) (C := C) (st := st) j (by omega)
      exact ⟨i, by omega, by omega⟩
theorem gp_bq_ex {k : Nat} {pr : Nat → Nat} {r l st : Nat} (hF : gp_C k pr (r + 1) l st < 100000) (hn : ¬ gp_B k (gp_C k pr r) l st = gp_C k pr (r + 1) l st) : g_ft (gp_bq k pr r l st) 36 < 36 := by
  rw [g_ft_pos, g_ct_pos]
  have e : gp_C k pr (r + 1) l st = min (gp_L k pr (gp_C k pr r) st 36) (gp_B k (gp_C k pr r) l st) := rfl
  obtain ⟨i, h1, h2⟩ := gp_L_ex (k := k) (pr := pr) (C := gp_C k pr r) (st := st) 36 (by omega)
  refine ⟨i, h1, ?_⟩
  unfold gp_bq
  rw [decide_eq_true_iff]
  unfold gp_x at h2
  split at h2 <;> omega
theorem gp_b_le {k : Nat} {pr : Nat → Nat} {r l st : Nat} (hF : gp_C k pr (r + 1) l st < 100000) : gp_b k pr r l st ≤ 36 := by
  unfold gp_b
  split
  · omega
  · rename_i h
    have := gp_bq_ex hF h
    omega
/-- the costs of what is laid, and behind it, are the least -/
theorem gp_b_is {k : Nat} {pr : Nat → Nat} {r l st : Nat} (hF : gp_C k pr (r + 1) l st < 100000) : (if gp_b k pr r l st = 0 then 0 else gp_c pr (gp_b k pr r l st)) + gp_B k (gp_C k pr r) (if gp_b k pr r l st = 0 then l else gp_b k pr r l st) st = gp_C k pr (r + 1) l st := by
  unfold gp_b
  by_cases h : gp_B k (gp_C k pr r) l st = gp_C k pr (r + 1) l st
  · rw [if_pos h, if_pos rfl, if_pos rfl, Nat.zero_add]
    exact h
  · have h2 := g_ft_yes _ (gp_bq_ex hF h)
    rw [if_neg h, if_neg (by omega), if_neg (by omega)]
    unfold gp_bq at h2
    rw [decide_eq_true_iff] at h2
    exact h2
/-- what lies and the stage ahead of each week -/
def gp_s (k : Nat) (pr : Nat → Nat) (n l0 s0 : Nat) : Nat → Nat × Nat
  | 0 => (l0, s0)
  | i + 1 => if 3 ≤ (gp_s k pr n l0 s0 i).2 then gp_s k pr n l0 s0 i else (gp_le (if gp_b k pr (n - 1 - i) (gp_s k pr n l0 s0 i).1 (gp_s k pr n l0 s0 i).2 = 0 then (gp_s k pr n l0 s0 i).1 else gp_b k pr (n - 1 - i) (gp_s k pr n l0 s0 i).1 (gp_s k pr n l0 s0 i).2), g_sb k (gp_s k pr n l0 s0 i).2 (gp_se (if gp_b k pr (n - 1 - i) (gp_s k pr n l0 s0 i).1 (gp_s k pr n l0 s0 i).2 = 0 then (gp_s k pr n l0 s0 i).1 else gp_b k pr (n - 1 - i) (gp_s k pr n l0 s0 i).1 (gp_s k pr n l0 s0 i).2)))
def gp_ch (b : Nat) : Nat := if b = 0 then 0 else 10 * (gp_se b + 1) + gp_y b
/-- what plan() answers of a week -/
def gp_a (k : Nat) (pr : Nat → Nat) (n l0 s0 w : Nat) : Nat := if 3 ≤ (gp_s k pr n l0 s0 w).2 then 0 else gp_ch (gp_b k pr (n - 1 - w) (gp_s k pr n l0 s0 w).1 (gp_s k pr n l0 s0 w).2)
theorem gp_s_ok {k : Nat} {pr : Nat → Nat} {n l0 s0 : Nat} (hF : gp_C k pr n l0 s0 < 100000) (hl : l0 ≤ 36) (hs : s0 < 3) : ∀ i, i ≤ n → (gp_s k pr n l0 s0 i).1 ≤ 36 ∧ (gp_s k pr n l0 s0 i).2 ≤ 3 ∧ ((gp_s k pr n l0 s0 i).2 < 3 → gp_C k pr (n - i) (gp_s k pr n l0 s0 i).1 (gp_s k pr n l0 s0 i).2 < 100000)
  | 0, _ => ⟨hl, by show s0 ≤ 3; omega, fun _ => hF⟩
  | i + 1, hi => by
    obtain ⟨h1, h2, h3⟩ := gp_s_ok hF hl hs i (by omega)
    rw [gp_s]
    generalize gp_s k pr n l0 s0 i = x at h1 h2 h3
    by_cases c : 3 ≤ x.2
    · rw [if_pos c]
      exact ⟨h1, h2, fun z => absurd z (by omega)⟩
    · rw [if_neg c]
      have h4 := h3 (by omega)
      rw [show n - i = (n - 1 - i) + 1 by omega] at h4
      have hb := gp_b_le h4
      have hi := gp_b_is h4
      have hL : (if gp_b k pr (n - 1 - i) x.1 x.2 = 0 then x.1 else gp_b k pr (n - 1 - i) x.1 x.2) ≤ 36 := by split <;> omega
      generalize (if gp_b k pr (n - 1 - i) x.1 x.2 = 0 then x.1 else gp_b k pr (n - 1 - i) x.1 x.2) = L at hi hL
      have hB : gp_B k (gp_C k pr (n - 1 - i)) L x.2 < 100000 := by omega
      have hth := g_sb_le (k := k) (t := x.2) (s := gp_se L) (by omega)
      dsimp only
      refine ⟨gp_le_le hL, ?_, fun z => ?_⟩
      · unfold gp_B at hB
        split at hB
        · omega
        · split at hB <;> omega
      · unfold gp_B at hB
        rw [if_neg (by omega), if_neg (by omega)] at hB
        rw [show n - (i + 1) = n - 1 - i by omega]
        exact hB
theorem gp_s_stay {k : Nat} {pr : Nat → Nat} {n l0 s0 i : Nat} (h : 3 ≤ (gp_s k pr n l0 s0 i).2) : ∀ d, gp_s k pr n l0 s0 (i + d) = gp_s k pr n l0 s0 i
  | 0 => rfl
  | d + 1 => by
    rw [← Nat.add_assoc, gp_s, gp_s_stay h d, if_pos h]
theorem gp_E_eq {a b : Nat} (ha : a ≤ 100000) (hb : b < 100000) : gp_E a = gp_E b ↔ a = b := by
  unfold gp_E
  rw [if_pos hb]
  split <;> omega
section PC
variable {σ : zS} {k : Nat} {pr : Nat → Nat}
theorem yp_best (h : gp_p σ k pr) (hk : k < 5) (hp : ∀ s, s < 4 → pr s ≤ 9) {t r l st : Nat} (ht : t ≤ 5) (hr6 : r ≤ 5) (hr : gp_r σ k pr (t + 1) r) (hr1 : gp_r σ k pr t (r + 1)) (hl : l ≤ 36) (hst : st < 3) (hF : gp_C k pr (r + 1) l st < 100000) : f_Pl_bestAt_41 (nI t) (nI l) (nI st) σ = some (nI (gp_b k pr r l st)) := by
  have hC := gp_C_F (k := k) hp r (by omega)
  have hB := fun l => gp_F_le (gp_B_F (k := k) hC l st) (show r ≤ 6 by omega)
  have hBE := fun l => gp_E_le (v := gp_B k (gp_C k pr r) l st)
  have hE : gp_E (gp_C k pr (r + 1) l st) = gp_C k pr (r + 1) l st := if_pos hF
  unfold f_Pl_bestAt_41
  rw [yp_at (by omega) hl hst, z_bs, hr1 l st hl hst, yp_B h hk ht hr hl hst, z_bs]
  have hb := hBE l
  by_cases c : gp_B k (gp_C k pr r) l st = gp_C k pr (r + 1) l st
  · rw [if_pos (show nI (gp_E (gp_B k (gp_C k pr r) l st)) = nI (gp_E (gp_C k pr (r + 1) l st)) by rw [c])]
    unfold gp_b
    rw [if_pos c]
    rfl
  · rw [if_neg (show ¬ nI (gp_E (gp_B k (gp_C k pr r) l st)) = nI (gp_E (gp_C k pr (r + 1) l st)) by
      rw [nI_eq (by omega) (by omega), gp_E_eq (hB l) hF]
      exact c)]
    have hex := gp_bq_ex hF c
    have hb2 : gp_b k pr r l st = g_ft (gp_bq k pr r l st) 36 + 1 := if_neg c
    refine z_ex (z_lp (fun j (x : Int32) => x = nI (j + 1) ∧ j ≤ 36 ∧ ∀ i, i < j → gp_bq k pr r l st i = false) 36 ?_ ?_ ?_)
    · exact ⟨rfl, by omega, fun i hi => absurd hi (by omega)⟩
    · intro j x hj hP
      obtain ⟨e1, e2, e3⟩ := hP
      subst e1
      have b1 := hBE (j + 1)
      have b2 := hB (j + 1)
      have b3 := gp_c_le hp (l := j + 1) (by omega)
      rw [nl37, if_neg (nI_ge (show j + 1 < 37 by omega) (by omega)), yp_c h (by omega), z_bs, yp_B h hk ht hr (by omega) hst, z_bs, nI_add, hE]
      have key : gp_c pr (j + 1) + gp_E (gp_B k (gp_C k pr r) (j + 1) st) = gp_C k pr (r + 1) l st ↔ gp_bq k pr r l st j = true := by
        unfold gp_bq
        rw [decide_eq_true_iff]
        unfold gp_E
        split <;> omega
      by_cases q : gp_bq k pr r l st j = true
      · rw [if_pos (show nI (gp_c pr (j + 1) + gp_E (gp_B k (gp_C k pr r) (j + 1) st)) = nI (gp_C k pr (r + 1) l st) by rw [key.mpr q])]
        right
        refine ⟨_, rfl, _, rfl, ?_⟩
        rw [hb2, g_ft_is _ 36 j (by omega) e3 (fun _ => q)]
      · rw [if_neg (show ¬ nI (gp_c pr (j + 1) + gp_E (gp_B k (gp_C k pr r) (j + 1) st)) = nI (gp_C k pr (r + 1) l st) by
          rw [nI_eq (by omega) (by omega)]
          exact fun z => q (key.mp z))]
        left
        refine ⟨_, rfl, nI_1 (j + 1), by omega, fun i hi => ?_⟩
        by_cases ci : i = j
        · rw [ci]
          exact Bool.eq_false_iff.mpr q
        · exact e3 i (by omega)
    · intro x hP
      obtain ⟨e1, e2, e3⟩ := hP
      exfalso
      have := g_ft_is (gp_bq k pr r l st) 36 36 (Nat.le_refl _) e3 (fun z => absurd z (by omega))
      omega
theorem yp_laid {n l0 s0 : Nat} (h : gp_w σ k pr n l0 s0) (hk : k < 5) (hp : ∀ s, s < 4 → pr s ≤ 9) (hn : n ≤ 6) (hl : l0 ≤ 36) (hs : s0 < 3) (hF : gp_C k pr n l0 s0 < 100000) {w : Nat} (hw : w < n) : f_Pl_laidAheadOf_41 (nI w) σ = some (nI (gp_a k pr n l0 s0 w)) := by
  obtain ⟨h1, h2, h3, h4, h5⟩ := h
  unfold f_Pl_laidAheadOf_41
  rw [h2, h3]
  have stay : ∀ i, i ≤ w → 3 ≤ (gp_s k pr n l0 s0 i).2 → gp_a k pr n l0 s0 w = 0 := fun i hi h => by
    have := gp_s_stay h (w - i)
    rw [show i + (w - i) = w by omega] at this
    unfold gp_a
    rw [this, if_pos h]
  have best : ∀ i, i < n → ¬ 3 ≤ (gp_s k pr n l0 s0 i).2 → f_Pl_bestAt_41 (nI i) (nI (gp_s k pr n l0 s0 i).1) (nI (gp_s k pr n l0 s0 i).2) σ = some (nI (gp_b k pr (n - 1 - i) (gp_s k pr n l0 s0 i).1 (gp_s k pr n l0 s0 i).2)) ∧ gp_b k pr (n - 1 - i) (gp_s k pr n l0 s0 i).1 (gp_s k pr n l0 s0 i).2 ≤ 36 := fun i hi h3' => by
    obtain ⟨o1, o2, o3⟩ := gp_s_ok hF hl hs i (by omega)
    have o4 := o3 (by omega)
    have r1 := h5 (i + 1) (by omega)
    have r2 := h5 i (by omega)
    rw [show n - (i + 1) = n - 1 - i by omega] at r1
    rw [show n - i = (n - 1 - i) + 1 by omega] at r2 o4
    exact ⟨yp_best h1 hk hp (by omega) (by omega) r1 r2 o1 (by omega) o4, gp_b_le o4⟩
  refine z_ex (z_lp (fun i (x : Int32 × Int32 × Int32) => x.1 = nI (gp_s k pr n l0 s0 i).1 ∧ x.2.1 = nI (gp_s k pr n l0 s0 i).2 ∧ x.2.2 = nI i ∧ i ≤ w) w ?_ ?_ ?_)
  · exact ⟨rfl, rfl, rfl, by omega⟩
  · intro i x hi hP
    obtain ⟨e1, e2, e3, e4⟩ := hP
    obtain ⟨o1, o2, o3⟩ := gp_s_ok hF hl hs i (by omega)
    have es : gp_s k pr n l0 s0 (i + 1) = if 3 ≤ (gp_s k pr n l0 s0 i).2 then gp_s k pr n l0 s0 i else (gp_le (if gp_b k pr (n - 1 - i) (gp_s k pr n l0 s0 i).1 (gp_s k pr n l0 s0 i).2 = 0 then (gp_s k pr n l0 s0 i).1 else gp_b k pr (n - 1 - i) (gp_s k pr n l0 s0 i).1 (gp_s k pr n l0 s0 i).2), g_sb k (gp_s k pr n l0 s0 i).2 (gp_se (if gp_b k pr (n - 1 - i) (gp_s k pr n l0 s0 i).1 (gp_s k pr n l0 s0 i).2 = 0 then (gp_s k pr n l0 s0 i).1 else gp_b k pr (n - 1 - i) (gp_s k pr n l0 s0 i).1 (gp_s k pr n l0 s0 i).2))) := rfl
    rw [e1, e2, e3, if_neg (nI_nlt (by omega) (by omega)), nl3]
    by_cases c : 3 ≤ (gp_s k pr n l0 s0 i).2
    · rw [if_pos (nI_le c (by omega))]
      right
      refine ⟨_, rfl, _, rfl, ?_⟩
      rw [stay i (by omega) c]
      rfl
    · obtain ⟨q1, q2⟩ := best i (by omega) c
      rw [if_neg (nI_ge (show (gp_s k pr n l0 s0 i).2 < 3 by omega) (by omega)), q1, z_bs, if_neg (show ¬ nI i = nI w by rw [nI_eq (by omega) (by omega)]; omega)]
      rw [if_neg c] at es
      rw [hg_join_to (x := nI (if gp_b k pr (n - 1 - i) (gp_s k pr n l0 s0 i).1 (gp_s k pr n l0 s0 i).2 = 0 then (gp_s k pr n l0 s0 i).1 else gp_b k pr (n - 1 - i) (gp_s k pr n l0 s0 i).1 (gp_s k pr n l0 s0 i).2)) (by
        intro j
        by_cases cb : gp_b k pr (n - 1 - i) (gp_s k pr n l0 s0 i).1 (gp_s k pr n l0 s0 i).2 = 0
        · rw [if_pos (show nI (gp_b k pr (n - 1 - i) (gp_s k pr n l0 s0 i).1 (gp_s k pr n l0 s0 i).2) = 0 by rw [cb]; rfl), if_pos cb]
        · rw [if_neg (show ¬ nI (gp_b k pr (n - 1 - i) (gp_s k pr n l0 s0 i).1 (gp_s k pr n l0 s0 i).2) = 0 by rw [nl0, nI_eq (by omega) (by omega)]; exact cb), if_neg cb])]
      have hL : (if gp_b k pr (n - 1 - i) (gp_s k pr n l0 s0 i).1 (gp_s k pr n l0 s0 i).2 = 0 then (gp_s k pr n l0 s0 i).1 else gp_b k pr (n - 1 - i) (gp_s k pr n l0 s0 i).1 (gp_s k pr n l0 s0 i).2) ≤ 36 := by split <;> omega
      generalize (if gp_b k pr (n - 1 - i) (gp_s k pr n l0 s0 i).1 (gp_s k pr n l0 s0 i).2 = 0 then (gp_s k pr n l0 s0 i).1 else gp_b k pr (n - 1 - i) (gp_s k pr n l0 s0 i).1 (gp_s k pr n l0 s0 i).2) = L at hL es
      have hse := gp_se_le hL
      rw [yp_se hL, z_bs, h1.1, y_behind hk (by omega) (by omega), z_bs, yp_le hL, z_bs]
      left
      exact ⟨_, rfl, by rw [es], by rw [es], nI_1 i, by omega⟩
  · intro x hP
    obtain ⟨e1, e2, e3, e4⟩ := hP
    obtain ⟨o1, o2, o3⟩ := gp_s_ok hF hl hs w (by omega)
    rw [e1, e2, e3, if_neg (nI_nlt (by omega) (by omega)), nl3]
    by_cases c : 3 ≤ (gp_s k pr n l0 s0 w).2
    · rw [if_pos (nI_le c (by omega))]
      refine ⟨_, rfl, _, rfl, ?_⟩
      rw [stay w (Nat.le_refl _) c]
      rfl
    · obtain ⟨q1, q2⟩ := best w hw c
      rw [if_neg (nI_ge (show (gp_s k pr n l0 s0 w).2 < 3 by omega) (by omega)), q1, z_bs, if_pos rfl]
      refine ⟨_, rfl, ?_⟩
      unfold gp_a gp_ch
      rw [if_neg c]
      dsimp only
      by_cases cb : gp_b k pr (n - 1 - w) (gp_s k pr n l0 s0 w).1 (gp_s k pr n l0 s0 w).2 = 0
      · rw [if_pos (show nI (gp_b k pr (n - 1 - w) (gp_s k pr n l0 s0 w).1 (gp_s k pr n l0 s0 w).2) = 0 by rw [cb]; rfl), if_pos cb]
        exact ⟨_, rfl, rfl⟩
      · rw [if_neg (show ¬ nI (gp_b k pr (n - 1 - w) (gp_s k pr n l0 s0 w).1 (gp_s k pr n l0 s0 w).2) = 0 by rw [nl0, nI_eq (by omega) (by omega)]; exact cb), if_neg cb, yp_se q2, z_bs, yp_y q2, z_bs, nl10, nl1, nI_add, pk_mul, nI_add]
        exact ⟨_, rfl, rfl⟩
end PC
