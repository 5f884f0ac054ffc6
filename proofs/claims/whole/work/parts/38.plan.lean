/-! plans: numbers alone; the class -/
/-- what lies, by one number: its season, its yards, behind a week -/
def gp_se (l : Nat) : Nat := if l = 0 then 4 else (l - 1) / 9
def gp_y (l : Nat) : Nat := if l = 0 then 0 else (l - 1) % 9 + 1
def gp_le (l : Nat) : Nat := if gp_y l ≤ 1 then 0 else l - 1
def gp_c (pr : Nat → Nat) (l : Nat) : Nat := if l = 0 then 0 else pr (gp_se l) * gp_y l
/-- the least costs behind a week in which l lay -/
def gp_B (k : Nat) (C : Nat → Nat → Nat) (l st : Nat) : Nat := if g_sb k st (gp_se l) = 3 then 0 else if g_sb k st (gp_se l) = 4 then 100000 else C (gp_le l) (g_sb k st (gp_se l))
def gp_x (c b : Nat) : Nat := if b < 100000 then c + b else 100000
def gp_L (k : Nat) (pr : Nat → Nat) (C : Nat → Nat → Nat) (st : Nat) : Nat → Nat
  | 0 => 100000
  | j + 1 => min (gp_L k pr C st j) (gp_x (gp_c pr (j + 1)) (gp_B k C (j + 1) st))
/-- the least costs with r weeks left -/
def gp_C (k : Nat) (pr : Nat → Nat) : Nat → Nat → Nat → Nat
  | 0, _, _ => 100000
  | r + 1, l, st => min (gp_L k pr (gp_C k pr r) st 36) (gp_B k (gp_C k pr r) l st)
def gp_E (v : Nat) : Nat := if v < 100000 then v else 1000000
def gp_F (v r : Nat) : Prop := v = 100000 ∨ v ≤ 81 * r
theorem gp_se_le {l : Nat} (h : l ≤ 36) : gp_se l ≤ 4 := by unfold gp_se; split <;> omega
theorem gp_se_lt {l : Nat} (h1 : 1 ≤ l) (h : l ≤ 36) : gp_se l < 4 := by unfold gp_se; rw [if_neg (by omega)]; omega
theorem gp_y_le {l : Nat} : gp_y l ≤ 9 := by unfold gp_y; split <;> omega
theorem gp_le_le {l : Nat} (h : l ≤ 36) : gp_le l ≤ 36 := by unfold gp_le; split <;> omega
theorem gp_c_le {pr : Nat → Nat} (hp : ∀ s, s < 4 → pr s ≤ 9) {l : Nat} (h : l ≤ 36) : gp_c pr l ≤ 81 := by
  unfold gp_c
  by_cases c : l = 0
  · rw [if_pos c]; omega
  · rw [if_neg c]
    exact Nat.mul_le_mul (hp _ (gp_se_lt (by omega) h)) gp_y_le
theorem gp_B_F {k : Nat} {C : Nat → Nat → Nat} {r : Nat} (hC : ∀ l st, gp_F (C l st) r) (l st : Nat) : gp_F (gp_B k C l st) r := by
  unfold gp_B
  split
  · exact Or.inr (Nat.zero_le _)
  · split
    · exact Or.inl rfl
    · exact hC _ _
theorem gp_x_F {c b r : Nat} (hc : c ≤ 81) (hb : gp_F b r) (hr : r ≤ 6) : gp_F (gp_x c b) (r + 1) := by
  unfold gp_x gp_F at *
  split <;> omega
theorem gp_L_F {k : Nat} {pr : Nat → Nat} {C : Nat → Nat → Nat} {r : Nat} (hp : ∀ s, s < 4 → pr s ≤ 9) (hC : ∀ l st, gp_F (C l st) r) (hr : r ≤ 6) (st : Nat) : ∀ j, j ≤ 36 → gp_F (gp_L k pr C st j) (r + 1)
  | 0, _ => Or.inl rfl
  | j + 1, hj => by
    have h1 := gp_L_F (k := k) hp hC hr st j (by omega)
    have h2 := gp_x_F (gp_c_le hp (l := j + 1) (by omega)) (gp_B_F (k := k) hC (j + 1) st) hr
    rw [gp_L]
    unfold gp_F at *
    omega
theorem gp_C_F {k : Nat} {pr : Nat → Nat} (hp : ∀ s, s < 4 → pr s ≤ 9) : ∀ r, r ≤ 6 → ∀ l st, gp_F (gp_C k pr r l st) r
  | 0, _, _, _ => Or.inl rfl
  | r + 1, hr, l, st => by
    have hC := gp_C_F (k := k) hp r (by omega)
    have h1 := gp_L_F (k := k) hp hC (by omega) st 36 (by omega)
    have h2 := gp_B_F (k := k) hC l st
    rw [gp_C]
    unfold gp_F at *
    omega
theorem gp_F_le {v r : Nat} (h : gp_F v r) (hr : r ≤ 6) : v ≤ 100000 := by unfold gp_F at h; omega
theorem gp_E_min {a b : Nat} : gp_E (min a b) = min (gp_E a) (gp_E b) := by
  unfold gp_E
  split <;> split <;> split <;> omega
theorem gp_E_x {a c b r : Nat} (ha : a ≤ 100000) (hc : c ≤ 81) (hb : gp_F b r) (hr : r ≤ 6) : gp_E (min a (gp_x c b)) = min (gp_E a) (c + gp_E b) := by
  unfold gp_E gp_x gp_F at *
  split <;> split <;> split <;> (try split at *) <;> omega
theorem gp_E_lt {v : Nat} : gp_E v < 1000000 ↔ v < 100000 := by
  unfold gp_E
  split <;> omega
theorem gp_E_le {v : Nat} : gp_E v ≤ 1000000 := by
  unfold gp_E
  split <;> omega
theorem hg_min {a b : Nat} (hb : b < 2 ^ 31) (ha : a < 2 ^ 31) : (if nI a < nI b then nI a else nI b) = nI (min b a) := by
  by_cases c : a < b
  · rw [if_pos (nI_lt c hb), show min b a = a by omega]
  · rw [if_neg (nI_nlt (by omega) ha), show min b a = b by omega]
/-- the class's planner is told a crop and prices -/
def gp_p (σ : zS) (k : Nat) (pr : Nat → Nat) : Prop := σ 41 2 = nI k ∧ ∀ s, s < 4 → σ 43 s = nI (pr s)
/-- a row of the least costs -/
def gp_r (σ : zS) (k : Nat) (pr : Nat → Nat) (t r : Nat) : Prop := ∀ l st, l ≤ 36 → st < 3 → σ 42 (111 * t + 3 * l + st) = nI (gp_E (gp_C k pr r l st))
section PL
variable {σ : zS} {k : Nat} {pr : Nat → Nat}
theorem yp_se {l : Nat} (hl : l ≤ 36) (σ : zS) : f_Pl_seasonOf (nI l) σ = some (nI (gp_se l)) := by
  unfold f_Pl_seasonOf gp_se
  by_cases c : l = 0
  · rw [if_pos (show nI l = 0 by rw [c]; rfl), if_pos c]; rfl
  · rw [if_neg (show ¬ nI l = 0 by rw [nl0, nI_eq (by omega) (by omega)]; exact c), if_neg c, nl1, nl9, pk_sub (by omega), pk_div (by omega) (by omega) (by omega)]
theorem yp_y {l : Nat} (hl : l ≤ 36) (σ : zS) : f_Pl_yardsOf (nI l) σ = some (nI (gp_y l)) := by
  unfold f_Pl_yardsOf gp_y
  by_cases c : l = 0
  · rw [if_pos (show nI l = 0 by rw [c]; rfl), if_pos c]; rfl
  · rw [if_neg (show ¬ nI l = 0 by rw [nl0, nI_eq (by omega) (by omega)]; exact c), if_neg c, nl1, nl9, pk_sub (by omega), pk_rem (by omega) (by omega) (by omega), nI_add]
theorem yp_c (h : gp_p σ k pr) {l : Nat} (hl : l ≤ 36) : f_Pl_costOf_41 (nI l) σ = some (nI (gp_c pr l)) := by
  have h1 := gp_se_le hl
  unfold f_Pl_costOf_41 gp_c
  rw [yp_se hl, z_bs, y_isSeason, nI_toInt (by omega), z_bs]
  by_cases c : l = 0
  · rw [if_pos c, if_neg (show ¬ ((0 : Int) ≤ (gp_se l : Int) ∧ (gp_se l : Int) ≤ 3) by unfold gp_se; rw [if_pos c]; omega)]
    exact if_pos rfl
  · have h2 := gp_se_lt (by omega) hl
    rw [if_neg c, if_pos (show ((0 : Int) ≤ (gp_se l : Int) ∧ (gp_se l : Int) ≤ 3) by omega), if_neg (show ¬ nI 1 = 0 by decide), if_pos ((z_ibn (by omega)).mpr h2), yp_y hl, z_bs, nI_clamp (by omega), h.2 _ h2, pk_mul]
theorem yp_le {l : Nat} (hl : l ≤ 36) (σ : zS) : f_Pl_lessOne (nI l) σ = some (nI (gp_le l)) := by
  have h1 := gp_y_le (l := l)
  unfold f_Pl_lessOne gp_le
  rw [yp_y hl, z_bs, nl1]
  by_cases c : gp_y l ≤ 1
  · rw [if_pos (nI_le c (by omega)), if_pos c]; rfl
  · have : ¬ l = 0 := fun z => c (by rw [z]; unfold gp_y; rw [if_pos rfl]; omega)
    rw [if_neg (nI_ge (show 1 < gp_y l by omega) (by omega)), if_neg c, pk_sub (by omega)]
theorem yp_at {t l st : Nat} (ht : t ≤ 6) (hl : l ≤ 36) (hst : st < 3) : f_Pl_leastAt_41 (nI t) (nI l) (nI st) σ = some (σ 42 (111 * t + 3 * l + st)) := by
  unfold f_Pl_leastAt_41 f_Pl_placeOf
  rw [z_bs, show (111 : Int32) = nI 111 from rfl, nl3, pk_mul, pk_mul, nI_add, nI_add, show t * 111 + l * 3 + st = 111 * t + 3 * l + st by omega, y_isIn, show (0 : Int32).toInt = 0 from rfl, show ((777 : Int32) - (1 : Int32)).toInt = 776 from rfl, nI_toInt (by omega), if_pos (show (0 : Int) ≤ ((111 * t + 3 * l + st : Nat) : Int) ∧ ((111 * t + 3 * l + st : Nat) : Int) ≤ 776 by omega), z_bs, if_neg (show ¬ nI 1 = 0 by decide), if_pos ((z_ibn (by omega)).mpr (by omega)), nI_clamp (by omega)]
theorem yp_B (h : gp_p σ k pr) (hk : k < 5) {t r l st : Nat} (ht : t ≤ 5) (hr : gp_r σ k pr (t + 1) r) (hl : l ≤ 36) (hst : st < 3) : f_Pl_leastBehind_41 (nI t) (nI l) (nI st) σ = some (nI (gp_E (gp_B k (gp_C k pr r) l st))) := by
  have h1 := gp_se_le hl
  have h2 := g_sb_le (k := k) (t := st) (s := gp_se l) hst
  unfold f_Pl_leastBehind_41 gp_B
  rw [yp_se hl, z_bs, h.1, y_behind hk hst (by omega), z_bs]
  generalize g_sb k st (gp_se l) = th at h2
  by_cases c3 : th = 3
  · rw [if_pos (show nI th = 3 by rw [c3]; rfl), if_pos c3]; rfl
  · rw [if_neg (show ¬ nI th = 3 by rw [nl3, nI_eq (by omega) (by omega)]; exact c3), if_neg c3]
    by_cases c4 : th = 4
    · rw [if_pos (show nI th = 4 by rw [c4]; rfl), if_pos c4]; rfl
    · rw [if_neg (show ¬ nI th = 4 by rw [nl4, nI_eq (by omega) (by omega)]; exact c4), if_neg c4, yp_le hl, z_bs, nl1, nI_add, yp_at (by omega) (gp_le_le hl) (by omega), z_bs, hr _ _ (gp_le_le hl) (by omega)]
theorem yp_ws (h : gp_p σ k pr) (hk : k < 5) (hp : ∀ s, s < 4 → pr s ≤ 9) {t r st : Nat} (ht : t ≤ 5) (hr6 : r ≤ 5) (hr : gp_r σ k pr (t + 1) r) (hst : st < 3) : ∃ τ, f_Pl_weighStage_41 (nI t) (nI st) σ = some τ ∧ (∀ l, l ≤ 36 → τ 42 (111 * t + 3 * l + st) = nI (gp_E (gp_C k pr (r + 1) l st))) ∧ (∀ i, (∀ l, l ≤ 36 → i ≠ 111 * t + 3 * l + st) → τ 42 i = σ 42 i) ∧ ∀ q, q ≠ 42 → τ q = σ q := by
  have hC := gp_C_F (k := k) hp r (by omega)
  have hLF := fun j hj => gp_F_le (gp_L_F (k := k) hp hC (by omega) st j hj) (by omega)
  unfold f_Pl_weighStage_41
  refine z_lp' (fun j (x : Int32 × Int32) => x.2 = nI (j + 1) ∧ j ≤ 36 ∧ x.1 = nI (gp_E (gp_L k pr (gp_C k pr r) st j))) 36 ?_ ?_ ?_
  · exact ⟨rfl, by omega, rfl⟩
  · intro j x hj hP
    obtain ⟨e1, e2, e3⟩ := hP
    have b1 := gp_E_le (v := gp_L k pr (gp_C k pr r) st j)
    have b2 := gp_E_le (v := gp_B k (gp_C k pr r) (j + 1) st)
    have b3 := gp_c_le hp (l := j + 1) (by omega)
    rw [e1, e3, nl37, if_neg (nI_ge (show j + 1 < 37 by omega) (by omega)), yp_c h (by omega), z_bs, yp_B h hk ht hr (by omega) hst, z_bs, z_let_e, nI_add, hg_min (by omega) (by omega), ← gp_E_x (hLF j (by omega)) b3 (gp_B_F hC _ _) (by omega), nl1, nI_add]
    exact ⟨_, rfl, rfl, by omega, rfl⟩
  · intro x hP
    obtain ⟨e1, e2, e3⟩ := hP
    rw [e1, e3, nl37, if_pos (nI_le (Nat.le_refl _) (by omega))]
    refine ⟨_, rfl, ?_⟩
    refine z_lp' (fun i (y : Int32 × zS) => y.1 = nI i ∧ i ≤ 37 ∧ (∀ l, l < i → y.2 42 (111 * t + 3 * l + st) = nI (gp_E (gp_C k pr (r + 1) l st))) ∧ (∀ j, (∀ l, l ≤ 36 → j ≠ 111 * t + 3 * l + st) → y.2 42 j = σ 42 j) ∧ ∀ q, q ≠ 42 → y.2 q = σ q) 37 ?_ ?_ ?_
    · exact ⟨rfl, by omega, fun l hl => absurd hl (by omega), fun _ _ => rfl, fun _ _ => rfl⟩
    · intro i y hi hP
      obtain ⟨f1, f2, f3, f4, f5⟩ := hP
      have hp2 : gp_p y.2 k pr := by
        refine ⟨?_, fun s hs => ?_⟩
        · rw [f5 41 (by omega)]; exact h.1
        · rw [f5 43 (by omega)]; exact h.2 s hs
      have hr2 : gp_r y.2 k pr (t + 1) r := fun l s hl hs => by
        rw [f4 _ (fun l' hl' => by omega)]
        exact hr l s hl hs
      have b1 := gp_E_le (v := gp_L k pr (gp_C k pr r) st 36)
      have b2 := gp_E_le (v := gp_B k (gp_C k pr r) i st)
      rw [f1, if_neg (nI_ge hi (by omega))]
      unfold f_Pl_placeOf
      rw [z_bs, show (111 : Int32) = nI 111 from rfl, nl3, pk_mul, pk_mul, nI_add, nI_add, show t * 111 + i * 3 + st = 111 * t + 3 * i + st by omega, y_isIn, show (0 : Int32).toInt = 0 from rfl, show ((777 : Int32) - (1 : Int32)).toInt = 776 from rfl, nI_toInt (by omega), if_pos (show (0 : Int) ≤ ((111 * t + 3 * i + st : Nat) : Int) ∧ ((111 * t + 3 * i + st : Nat) : Int) ≤ 776 by omega), z_bs]
      simp only [z_join]
      rw [if_neg (show ¬ nI 1 = 0 by decide), yp_B hp2 hk ht hr2 (by omega) hst, z_bs, if_pos ((z_ibn (by omega)).mpr (by omega)), nI_clamp (by omega), z_let_e, hg_min (by omega) (by omega), ← gp_E_min, nl1, nI_add]
      refine ⟨_, rfl, rfl, by omega, ?_⟩
      dsimp only
      refine ⟨fun l hl => ?_, fun j hj => ?_, fun q hq => ?_⟩
      · by_cases c : l = i
        · rw [c, hg_u_s]
          rfl
        · rw [hg_u_j (by omega)]
          exact f3 l (by omega)
      · rw [hg_u_j (hj i (by omega))]
        exact f4 j hj
      · rw [hg_u_n hq]
        exact f5 q hq
    · intro y hP
      obtain ⟨f1, f2, f3, f4, f5⟩ := hP
      rw [f1, if_pos (nI_le (Nat.le_refl _) (by omega))]
      exact ⟨_, rfl, _, rfl, fun l hl => f3 l (by omega), f4, f5⟩
theorem y_fill_42 (a : Int32) (σ : zS) : f_JA_fill_42 a σ = some (hg_fl σ 42 777 a) := by
  unfold f_JA_fill_42
  rw [hg_fill 42 777 777 rfl (by omega)]
  rfl
theorem hg_m1 (x : Int32) : x + (-1 : Int32) = x - nI 1 := (Int32.sub_eq_add_neg x (nI 1)).symm
/-- the class's planner has weighed -/
def gp_w (σ : zS) (k : Nat) (pr : Nat → Nat) (n l0 s0 : Nat) : Prop := gp_p σ k pr ∧ σ 41 3 = nI l0 ∧ σ 41 4 = nI s0 ∧ σ 41 5 = nI (gp_E (gp_C k pr n l0 s0)) ∧ ∀ t, t ≤ n → gp_r σ k pr t (n - t)
theorem yp_weigh {p : Nat → Nat} {W H R : Nat} (hV : hg_V p R) (hG : hg_G1 σ p W H R) {c n : Nat} (hc : c < 16) (hk : ¬ p (5 * c + 2) = 0) (hn1 : 1 ≤ n) (hn : n ≤ 6) : ∃ τ, f_Pl_weigh_41_1 (nI c) (nI n) σ = some τ ∧ gp_w τ (p (5 * c + 2) - 1) (fun s => p (97 + 2 * s) + 1) n (if p (5 * c + 1) = 0 then 0 else 9 * p (5 * c) + p (5 * c + 1)) (p (5 * c + 3)) ∧ ∀ q, (q < 41 ∨ 43 < q) → τ q = σ q := by
  obtain ⟨v1, v2, v3, v4, v5⟩ := hV.1 c hc
  have hgk : g_k p c = nI (p (5 * c + 2) - 1) := by unfold g_k; rw [if_neg hk]
  have hpr : ∀ s, s < 4 → (fun s => p (97 + 2 * s) + 1) s ≤ 9 := fun s hs => by
    have := (hV.2.2.2.1 s hs).2
    show p (97 + 2 * s) + 1 ≤ 9
    omega
  have ib : ∀ {α : Type} (x y : α), (if z_ib (nI c) 16 = true then x else y) = x := fun x y => if_pos ((z_ibn (by omega)).mpr (by omega))
  unfold f_Pl_weigh_41_1
  rw [z_let_e, ib, z_let_e, ib, z_let_e, ib, nI_clamp (show c < 2 ^ 31 by omega)]
  have hl0 : (if p (5 * c + 1) = 0 then 0 else 9 * p (5 * c) + p (5 * c + 1)) ≤ 36 := by split <;> omega
  rw [hg_join_to (x := nI (if p (5 * c + 1) = 0 then 0 else 9 * p (5 * c) + p (5 * c + 1))) (by
    intro j
    rw [hg_u_n (by omega), hg_u_n (by omega), hg_cp_n (by omega), hG.2.2.2.1 c hc]
    unfold g_l
    by_cases q : p (5 * c + 1) = 0
    · rw [if_pos q, if_pos (show nI 4 = 4 from rfl), if_pos q]; rfl
    · rw [if_neg q, if_neg (show ¬ nI (p (5 * c)) = 4 by rw [nl4, nI_eq (by omega) (by omega)]; omega), if_neg q, ib, ib]
      unfold f_Pl_lyingOf
      rw [z_bs, hg_u_n (by omega), hg_u_n (by omega), hg_cp_n (by omega), hG.2.2.2.2.1 c hc, nl9, pk_mul, nI_add])]
  generalize hL : (if p (5 * c + 1) = 0 then 0 else 9 * p (5 * c) + p (5 * c + 1)) = l0 at hl0
  rw [z_let_e, y_fill_42, z_bs, nl1]
  have base : ∀ q, (q < 41 ∨ 43 < q) → (hg_fl (z_u (z_u (z_u (z_cp σ 13 43 0 0 4) 41 2 (z_cp σ 13 43 0 0 4 4 c)) 41 4 (z_u (z_cp σ 13 43 0 0 4) 41 2 (z_cp σ 13 43 0 0 4 4 c) 5 c)) 41 3 (nI l0)) 42 777 1000000) q = σ q := fun q hq => by
    rw [hg_fl_n (by omega), hg_u_n (by omega), hg_u_n (by omega), hg_u_n (by omega), hg_cp_n (by omega)]
  have b41 : ∀ j, (hg_fl (z_u (z_u (z_u (z_cp σ 13 43 0 0 4) 41 2 (z_cp σ 13 43 0 0 4 4 c)) 41 4 (z_u (z_cp σ 13 43 0 0 4) 41 2 (z_cp σ 13 43 0 0 4 4 c) 5 c)) 41 3 (nI l0)) 42 777 1000000) 41 j = (z_u (z_u (z_u (z_cp σ 13 43 0 0 4) 41 2 (z_cp σ 13 43 0 0 4 4 c)) 41 4 (z_u (z_cp σ 13 43 0 0 4) 41 2 (z_cp σ 13 43 0 0 4 4 c) 5 c)) 41 3 (nI l0)) 41 j := fun j => by rw [hg_fl_n (by omega)]
  have b2 : (hg_fl (z_u (z_u (z_u (z_cp σ 13 43 0 0 4) 41 2 (z_cp σ 13 43 0 0 4 4 c)) 41 4 (z_u (z_cp σ 13 43 0 0 4) 41 2 (z_cp σ 13 43 0 0 4 4 c) 5 c)) 41 3 (nI l0)) 42 777 1000000) 41 2 = nI (p (5 * c + 2) - 1) := by
    rw [b41, hg_u_j (by omega), hg_u_j (by omega), hg_u_s, hg_cp_n (by omega), hG.2.2.2.2.2.1 c hc, hgk]
  have b3 : (hg_fl (z_u (z_u (z_u (z_cp σ 13 43 0 0 4) 41 2 (z_cp σ 13 43 0 0 4 4 c)) 41 4 (z_u (z_cp σ 13 43 0 0 4) 41 2 (z_cp σ 13 43 0 0 4 4 c) 5 c)) 41 3 (nI l0)) 42 777 1000000) 41 3 = nI l0 := by
    rw [b41, hg_u_s]
  have b4 : (hg_fl (z_u (z_u (z_u (z_cp σ 13 43 0 0 4) 41 2 (z_cp σ 13 43 0 0 4 4 c)) 41 4 (z_u (z_cp σ 13 43 0 0 4) 41 2 (z_cp σ 13 43 0 0 4 4 c) 5 c)) 41 3 (nI l0)) 42 777 1000000) 41 4 = nI (p (5 * c + 3)) := by
    rw [b41, hg_u_j (by omega), hg_u_s, hg_u_n (by omega), hg_cp_n (by omega), hG.2.2.2.2.2.2.1 c hc]
  have b5 : ∀ s, s < 4 → (hg_fl (z_u (z_u (z_u (z_cp σ 13 43 0 0 4) 41 2 (z_cp σ 13 43 0 0 4 4 c)) 41 4 (z_u (z_cp σ 13 43 0 0 4) 41 2 (z_cp σ 13 43 0 0 4 4 c) 5 c)) 41 3 (nI l0)) 42 777 1000000) 43 s = nI (p (97 + 2 * s) + 1) := fun s hs => by
    rw [hg_fl_n (by omega), hg_u_n (by omega), hg_u_n (by omega), hg_u_n (by omega), hg_cp_s hs, hG.2.2.2.2.2.2.2.2.2.2.2.2.2.1 s hs]
  have b6 : ∀ i, i < 777 → (hg_fl (z_u (z_u (z_u (z_cp σ 13 43 0 0 4) 41 2 (z_cp σ 13 43 0 0 4 4 c)) 41 4 (z_u (z_cp σ 13 43 0 0 4) 41 2 (z_cp σ 13 43 0 0 4 4 c) 5 c)) 41 3 (nI l0)) 42 777 1000000) 42 i = 1000000 := fun i hi => hg_fl_s hi
  generalize (hg_fl (z_u (z_u (z_u (z_cp σ 13 43 0 0 4) 41 2 (z_cp σ 13 43 0 0 4 4 c)) 41 4 (z_u (z_cp σ 13 43 0 0 4) 41 2 (z_cp σ 13 43 0 0 4 4 c) 5 c)) 41 3 (nI l0)) 42 777 1000000) = τ0 at base b2 b3 b4 b5 b6
  refine z_lp' (fun i (x : Int32 × zS) => x.1 = nI (n - i) - nI 1 ∧ (∀ t, n - i ≤ t → t ≤ n → gp_r x.2 (p (5 * c + 2) - 1) (fun s => p (97 + 2 * s) + 1) t (n - t)) ∧ ∀ q, q ≠ 42 → x.2 q = τ0 q) n ?_ ?_ ?_
  · refine ⟨rfl, fun t t1 t2 l st hl hst => ?_, fun _ _ => rfl⟩
    have et : t = n := by omega
    subst et
    show τ0 42 (111 * t + 3 * l + st) = _
    rw [b6 _ (by omega), Nat.sub_self]
    rfl
  · intro i x hi hP
    obtain ⟨e1, e2, e3⟩ := hP
    rw [e1, pk_sub (by omega), if_neg (nI_pos (by omega))]
    refine z_inl ?_
    refine z_lp' (fun s (y : Int32 × zS) => y.1 = nI s ∧ s ≤ 3 ∧ (∀ l st, l ≤ 36 → st < s → y.2 42 (111 * (n - i - 1) + 3 * l + st) = nI (gp_E (gp_C (p (5 * c + 2) - 1) (fun s => p (97 + 2 * s) + 1) (i + 1) l st))) ∧ (∀ j, (j < 111 * (n - i - 1) ∨ 111 * (n - i) ≤ j) → y.2 42 j = x.2 42 j) ∧ ∀ q, q ≠ 42 → y.2 q = τ0 q) 3 ?_ ?_ ?_
    · exact ⟨rfl, by omega, fun l st _ hs => absurd hs (by omega), fun _ _ => rfl, e3⟩
    · intro s y hs hP
      obtain ⟨f1, f2, f3, f4, f5⟩ := hP
      have hpp : gp_p y.2 (p (5 * c + 2) - 1) (fun s => p (97 + 2 * s) + 1) := ⟨by rw [f5 41 (by omega)]; exact b2, fun s hs => by rw [f5 43 (by omega)]; exact b5 s hs⟩
      have hrr : gp_r y.2 (p (5 * c + 2) - 1) (fun s => p (97 + 2 * s) + 1) (n - i - 1 + 1) i := fun l st hl hst => by
        have q := e2 (n - i) (Nat.le_refl _) (by omega) l st hl hst
        rw [f4 _ (by omega), show n - i - 1 + 1 = n - i by omega, q, show n - (n - i) = i by omega]
      obtain ⟨τ, w1, w2, w3, w4⟩ := yp_ws hpp (by omega) hpr (t := n - i - 1) (r := i) (st := s) (by omega) (by omega) hrr hs
      rw [f1, nl3, if_neg (nI_ge hs (by omega)), w1, z_bs, nI_add]
      refine ⟨_, rfl, rfl, by omega, ?_⟩
      dsimp only
      refine ⟨fun l st hl hst => ?_, fun j hj => ?_, fun q hq => by rw [w4 q hq, f5 q hq]⟩
      · by_cases cs : st = s
        · rw [cs]
          exact w2 l hl
        · rw [w3 _ (fun l' hl' => by omega)]
          exact f3 l st hl (by omega)
      · rw [w3 _ (fun l' hl' => by omega)]
        exact f4 j hj
    · intro y hP
      obtain ⟨f1, f2, f3, f4, f5⟩ := hP
      rw [f1, nl3, if_pos (nI_le (Nat.le_refl _) (by omega))]
      refine ⟨_, rfl, _, rfl, _, rfl, ?_, fun t t1 t2 l st hl hst => ?_, f5⟩
      · dsimp only
        rw [show n - (i + 1) = n - i - 1 by omega, ← nl1]
        exact hg_m1 _
      · dsimp only
        by_cases ct : t = n - i - 1
        · rw [ct, show n - (n - i - 1) = i + 1 by omega]
          exact f3 l st hl hst
        · rw [f4 _ (by omega)]
          exact e2 t (by omega) t2 l st hl hst
  · intro x hP
    obtain ⟨e1, e2, e3⟩ := hP
    have r0 := e2 0 (by omega) (by omega) l0 (p (5 * c + 3)) hl0 (by omega)
    rw [Nat.sub_zero] at r0
    rw [e1, Nat.sub_self, if_pos (show nI 0 - nI 1 < 0 by decide)]
    refine ⟨_, rfl, ?_⟩
    rw [e3 41 (by omega), b3, b4, nl0, yp_at (by omega) hl0 (by omega), z_bs, z_let_e, r0]
    refine ⟨_, rfl, ⟨⟨?_, fun s hs => ?_⟩, ?_, ?_, ?_, fun t t1 l st hl hst => ?_⟩, fun q hq => ?_⟩
    · rw [hg_u_j (by omega), e3 41 (by omega)]; exact b2
    · rw [hg_u_n (by omega), e3 43 (by omega)]; exact b5 s hs
    · rw [hg_u_j (by omega), e3 41 (by omega)]; exact b3
    · rw [hg_u_j (by omega), e3 41 (by omega)]; exact b4
    · rw [hg_u_s]
    · rw [hg_u_n (by omega)]
      exact e2 t (by omega) t1 l st hl hst
    · rw [hg_u_n (by omega), e3 q (by omega)]
      exact base q hq
end PL
