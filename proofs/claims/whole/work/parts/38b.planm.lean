/-! plan, the reference -/
/-- season and yards as the reference keeps them, and what lies by its number -/
def gp_rl (se y l : Nat) : Prop := (y = 0 ∧ l = 0 ∧ se ≤ 4) ∨ (1 ≤ y ∧ y ≤ 9 ∧ se ≤ 3 ∧ l = 9 * se + y)
theorem gp_rl_se {se y l : Nat} (h : gp_rl se y l) : gp_se l = (if y = 0 then 4 else se) ∧ gp_y l = y ∧ l ≤ 36 ∧ y ≤ 9 ∧ se ≤ 4 := by
  unfold gp_rl at h
  unfold gp_se gp_y
  rcases h with ⟨rfl, rfl, h⟩ | ⟨h1, h2, h3, rfl⟩
  · exact ⟨rfl, rfl, by omega, by omega, h⟩
  · rw [if_neg (by omega), if_neg (by omega), if_neg (by omega)]
    omega
theorem gp_rl_le {se y l : Nat} (h : gp_rl se y l) : gp_rl se (y - 1) (gp_le l) := by
  obtain ⟨h1, h2, h3, h4, h5⟩ := gp_rl_se h
  unfold gp_le
  rw [h2]
  unfold gp_rl at *
  split <;> omega
theorem gp_rl_of {l : Nat} (h1 : 1 ≤ l) (h : l ≤ 36) : gp_rl (gp_se l) (gp_y l) l := by
  unfold gp_rl gp_se gp_y
  rw [if_neg (by omega), if_neg (by omega)]
  omega
/-- where the reference keeps it -/
def gp_ix (l : Nat) : Nat := if l = 0 then 120 else 30 * gp_se l + 3 * gp_y l
theorem gp_ix_lt {l : Nat} (h : l ≤ 36) : gp_ix l + 2 < 150 := by
  unfold gp_ix
  split
  · omega
  · have h1 := gp_se_lt (by omega) h
    have h2 := gp_y_le (l := l)
    omega
def gp_m (σ : zS) (k : Nat) (pr : Nat → Nat) (t r : Nat) : Prop := ∀ l st, l ≤ 36 → st < 3 → σ 99 (150 * t + gp_ix l + st) = nI (gp_C k pr r l st)
def gp_v (ch : Nat) : Bool := decide (ch = 0) || (decide (11 ≤ ch) && decide (ch ≤ 49) && decide (0 < ch % 10))
/-- what a choice lays -/
def gp_cl (ch l : Nat) : Nat := if ch = 0 then l else 9 * (ch / 10 - 1) + ch % 10
section PM
variable {σ : zS} {k : Nat} {p : Nat → Nat} {W H R : Nat}
theorem mp_at {t se y st : Nat} (σ : zS) : f_M_at (nI t) (nI se) (nI y) (nI st) σ = if nI y = nI 0 then some (nI (150 * t + 30 * 4 + 3 * y + st)) else some (nI (150 * t + 30 * se + 3 * y + st)) := by
  unfold f_M_at
  simp only [z_join]
  rw [nl0, nl3, nl4, nl30, nl150]
  simp only [pk_mul, nI_add]
theorem mp_atl {t se y l st : Nat} (h : gp_rl se y l) (σ : zS) : f_M_at (nI t) (nI se) (nI y) (nI st) σ = some (nI (150 * t + gp_ix l + st)) := by
  obtain ⟨h1, h2, h3, h4, h5⟩ := gp_rl_se h
  rw [mp_at]
  unfold gp_ix
  rw [h1, h2]
  unfold gp_rl at h
  by_cases c : y = 0
  · have : l = 0 := by omega
    rw [if_pos (show nI y = nI 0 by rw [c]), if_pos this, c]
  · rw [if_neg (show ¬ nI y = nI 0 by rw [nI_eq (by omega) (by omega)]; exact c), if_neg (by omega), if_neg c, Nat.add_assoc (150 * t)]
theorem mp_is {ch : Nat} (h : ch ≤ 49) (σ : zS) : f_M_isChoice (nI ch) σ = some (nI (if gp_v ch = true then 1 else 0)) := by
  unfold f_M_isChoice gp_v
  simp only [z_join]
  rw [nl0, nl10, km_11_49, nI_toInt (by omega), z_bs]
  by_cases c : ch = 0
  · rw [if_pos (show nI ch = nI 0 by rw [c]), decide_eq_true c]; rfl
  · rw [if_neg (show ¬ nI ch = nI 0 by rw [nI_eq (by omega) (by omega)]; exact c), decide_eq_false c, Bool.false_or]
    by_cases c2 : 11 ≤ ch
    · rw [if_pos (show (11 : Int) ≤ (ch : Int) ∧ (ch : Int) ≤ 49 by omega), if_neg (show ¬ nI 1 = nI 0 by decide), pk_rem (by omega) (by omega) (by omega), decide_eq_true c2, decide_eq_true h]
      by_cases c3 : 0 < ch % 10
      · rw [if_neg (nI_ge c3 (by omega)), decide_eq_true c3]; rfl
      · rw [if_pos (nI_le (show ch % 10 ≤ 0 by omega) (by omega)), decide_eq_false c3]; rfl
    · rw [if_neg (show ¬ ((11 : Int) ≤ (ch : Int) ∧ (ch : Int) ≤ 49) by omega), if_pos (show nI 0 = nI 0 from rfl), decide_eq_false c2]; rfl
theorem mp_cost (hM : hg_M σ W H R) (hV : hg_V p R) (hQ : hg_Q σ 0 p) (hk : k < 5) {t n r se y l st ch : Nat} (hn : n ≤ 6) (ht : t + 1 + r = n) (hr : gp_m σ k (fun s => p (97 + 2 * s) + 1) (t + 1) r ∨ r = 0) (hl : gp_rl se y l) (hst : st < 3) (hc : gp_v ch = true) (hc2 : ch ≤ 49) : ∃ v, f_M_costBy (nI k) (nI t) (nI n) (nI se) (nI y) (nI st) (nI ch) σ = some (nI v) ∧ v ≤ 200000 ∧ min v 100000 = gp_x (if ch = 0 then 0 else gp_c (fun s => p (97 + 2 * s) + 1) (gp_cl ch l)) (gp_B k (gp_C k (fun s => p (97 + 2 * s) + 1) r) (gp_cl ch l) st) := by
  have hpr : ∀ s, s < 4 → (fun s => p (97 + 2 * s) + 1) s ≤ 9 := fun s hs => by
    have := (hV.2.2.2.1 s hs).2
    show p (97 + 2 * s) + 1 ≤ 9
    omega
  have q := hg_Q0 hQ
  have hC := gp_C_F (k := k) hpr r (by omega)
  obtain ⟨s1, s2, s3, s4, s5⟩ := gp_rl_se hl
  -- what lies then
  have hrl : gp_rl (if ch = 0 then se else ch / 10 - 1) (if ch = 0 then y else ch % 10) (gp_cl ch l) := by
    unfold gp_cl
    by_cases c : ch = 0
    · rw [if_pos c, if_pos c, if_pos c]; exact hl
    · rw [if_neg c, if_neg c, if_neg c]
      unfold gp_v at hc
      rw [decide_eq_false c, Bool.false_or, Bool.and_eq_true, Bool.and_eq_true, decide_eq_true_iff, decide_eq_true_iff, decide_eq_true_iff] at hc
      unfold gp_rl
      omega
  have hcost : (if ch = 0 then 0 else gp_c (fun s => p (97 + 2 * s) + 1) (gp_cl ch l)) = (if ch = 0 then 0 else (if ch = 0 then y else ch % 10) * (p (97 + 2 * (if ch = 0 then se else ch / 10 - 1)) + 1)) := by
    by_cases c : ch = 0
    · rw [if_pos c, if_pos c]
    · obtain ⟨a1, a2, a3, a4, a5⟩ := gp_rl_se hrl
      rw [if_neg c, if_neg c]
      rw [if_neg c, if_neg c] at hrl a1
      rw [if_neg c] at a2
      rw [if_neg c, if_neg c]
      have hy : ¬ ch % 10 = 0 := by
        unfold gp_v at hc
        rw [decide_eq_false c, Bool.false_or, Bool.and_eq_true, decide_eq_true_iff] at hc
        omega
      unfold gp_c
      rw [if_neg (by unfold gp_rl at hrl; omega), a1, a2, if_neg hy, Nat.mul_comm]
  have hcl : (if ch = 0 then 0 else gp_c (fun s => p (97 + 2 * s) + 1) (gp_cl ch l)) ≤ 81 := by
    split
    · omega
    · exact gp_c_le hpr (gp_rl_se hrl).2.2.1
  rw [hcost] at hcl ⊢
  have hse3 : ¬ ch = 0 → (if ch = 0 then se else ch / 10 - 1) ≤ 3 := fun c => by rw [if_neg c]; omega
  unfold f_M_costBy
  rw [nl0, nl1, nl2, nl10, nl96]
  rw [hg_join_to (x := nI (if ch = 0 then se else ch / 10 - 1)) (by
    intro j
    by_cases c : ch = 0
    · rw [if_pos (show nI ch = nI 0 by rw [c]), if_pos c]
    · have : 11 ≤ ch := by
        unfold gp_v at hc
        rw [decide_eq_false c, Bool.false_or, Bool.and_eq_true, Bool.and_eq_true, decide_eq_true_iff] at hc
        exact hc.1.1
      rw [if_neg (show ¬ nI ch = nI 0 by rw [nI_eq (by omega) (by omega)]; exact c), if_neg c, pk_div (by omega) (by omega) (by omega), pk_sub (by omega)])]
  rw [hg_join_to (x := nI (if ch = 0 then y else ch % 10)) (by
    intro j
    by_cases c : ch = 0
    · rw [if_pos (show nI ch = nI 0 by rw [c]), if_pos c]
    · rw [if_neg (show ¬ nI ch = nI 0 by rw [nI_eq (by omega) (by omega)]; exact c), if_neg c, pk_rem (by omega) (by omega) (by omega)])]
  obtain ⟨a1, a2, a3, a4, a5⟩ := gp_rl_se hrl
  generalize (if ch = 0 then se else ch / 10 - 1) = S at hrl hse3 a1 a5 hcl
  generalize (if ch = 0 then y else ch % 10) = Y at hrl a1 a2 a4 hcl
  generalize gp_cl ch l = L at hrl a1 a2 a3
  rw [hg_join_to (x := nI (if ch = 0 then 0 else Y * (p (97 + 2 * S) + 1))) (by
    intro j
    by_cases c : ch = 0
    · rw [if_pos (show nI ch = nI 0 by rw [c]), if_pos c]
    · have hS := hse3 c
      rw [if_neg (show ¬ nI ch = nI 0 by rw [nI_eq (by omega) (by omega)]; exact c), if_neg c, pk_mul, nI_add, nI_add, show 96 + 2 * S + 1 = 97 + 2 * S by omega, if_pos ((z_ibn (by omega)).mpr (by omega)), nI_clamp (by omega), q _ (by omega), nI_add, pk_mul])]
  generalize (if ch = 0 then 0 else Y * (p (97 + 2 * S) + 1)) = K at hcl
  rw [hg_join_to (x := (nI (gp_se L), nI st, nI k)) (by
    intro j
    rw [a1]
    by_cases c : Y = 0
    · rw [if_pos (show nI Y = nI 0 by rw [c]), if_pos c]; rfl
    · rw [if_neg (show ¬ nI Y = nI 0 by rw [nI_eq (by omega) (by omega)]; exact c), if_neg c])]
  have hse := gp_se_le a3
  have hth := g_sb_le (k := k) (t := st) (s := gp_se L) hst
  dsimp only
  rw [mm_stageBy hM hk hst (by omega), z_bs]
  unfold gp_B
  generalize g_sb k st (gp_se L) = th at hth
  by_cases c3 : th = 3
  · rw [if_pos (show nI th = 3 by rw [c3]; rfl), if_pos c3]
    refine ⟨K, rfl, by omega, ?_⟩
    unfold gp_x
    rw [if_pos (by omega)]
    omega
  rw [if_neg (show ¬ nI th = 3 by rw [nl3, nI_eq (by omega) (by omega)]; exact c3), if_neg c3]
  simp only [z_join]
  by_cases c4 : th = 4
  · rw [if_pos (show nI th = 4 by rw [c4]; rfl), if_pos c4]
    exact ⟨100000, rfl, by omega, by unfold gp_x; rw [if_neg (by omega)]; omega⟩
  rw [if_neg (show ¬ nI th = 4 by rw [nl4, nI_eq (by omega) (by omega)]; exact c4), if_neg c4, nI_add]
  by_cases c5 : r = 0
  · rw [if_pos (show nI (t + 1) = nI n by rw [show t + 1 = n by omega]), c5]
    exact ⟨100000, rfl, by omega, by rw [gp_C]; unfold gp_x; rw [if_neg (by omega)]; omega⟩
  · rw [if_neg (show ¬ nI (t + 1) = nI n by rw [nI_eq (by omega) (by omega)]; omega)]
    have hr2 := hr.resolve_right c5
    have hrl2 := gp_rl_le hrl
    have hv := gp_F_le (hC (gp_le L) th) (by omega)
    have hF := hC (gp_le L) th
    have hix := gp_ix_lt (gp_le_le a3)
    have hY : (if nI Y = nI 0 then nI 0 else nI Y - nI 1) = nI (Y - 1) := by
      by_cases c : Y = 0
      · rw [if_pos (show nI Y = nI 0 by rw [c]), c]
      · rw [if_neg (show ¬ nI Y = nI 0 by rw [nI_eq (by omega) (by omega)]; exact c), pk_sub (by omega)]
    have main : ((f_M_at (nI (t + 1)) (nI S) (nI (Y - 1)) (nI th) σ).bind fun r11 => if z_ib r11 1050 = true then some (nI K + (σ 99 r11.toNatClampNeg)) else none) = some (nI (K + gp_C k (fun s => p (97 + 2 * s) + 1) r (gp_le L) th)) := by
      rw [mp_atl hrl2, z_bs, if_pos ((z_ibn (by omega)).mpr (by omega)), nI_clamp (by omega), hr2 _ _ (gp_le_le a3) (by omega), nI_add]
    refine ⟨K + gp_C k (fun s => p (97 + 2 * s) + 1) r (gp_le L) th, ?_, by omega, ?_⟩
    · by_cases c : Y = 0
      · rw [if_pos (show nI Y = nI 0 by rw [c])]
        rw [c] at main
        exact main
      · rw [if_neg (show ¬ nI Y = nI 0 by rw [nI_eq (by omega) (by omega)]; exact c), pk_sub (by omega)]
        exact main
    · unfold gp_x
      unfold gp_F at hF
      split <;> omega
/-- how many layings have been weighed ahead of a choice -/
def gp_J (c : Nat) : Nat := if c ≤ 10 then 0 else 9 * (c / 10 - 1) + (c % 10 - 1)
def gp_Mn (k : Nat) (pr : Nat → Nat) (r l st c : Nat) : Nat := if c = 0 then 100000 else min (gp_L k pr (gp_C k pr r) st (gp_J c)) (gp_B k (gp_C k pr r) l st)
theorem gp_Mn_0 {k : Nat} {pr : Nat → Nat} {r l st v : Nat} (hB : gp_B k (gp_C k pr r) l st ≤ 100000) (hv : min v 100000 = gp_x 0 (gp_B k (gp_C k pr r) l st)) : min 100000 v = gp_Mn k pr r l st 1 := by
  unfold gp_Mn
  rw [if_neg (by omega), show gp_J 1 = 0 from rfl, gp_L]
  unfold gp_x at hv
  split at hv <;> omega
theorem gp_Mn_n {k : Nat} {pr : Nat → Nat} {r l st c : Nat} (h1 : 1 ≤ c) (hc : gp_v c = false) (h : c ≤ 49) : gp_Mn k pr r l st (c + 1) = gp_Mn k pr r l st c := by
  unfold gp_Mn
  rw [if_neg (by omega), if_neg (by omega)]
  unfold gp_v at hc
  rw [decide_eq_false (show ¬ c = 0 by omega), Bool.false_or] at hc
  have hJ : gp_J (c + 1) = gp_J c := by
    unfold gp_J
    by_cases z : 11 ≤ c
    · rw [decide_eq_true z, decide_eq_true h] at hc
      have hc : ¬ 0 < c % 10 := fun q => by rw [decide_eq_true q] at hc; cases hc
      rw [if_neg (by omega), if_neg (by omega)]
      omega
    · rw [if_pos (show c ≤ 10 by omega)]
      by_cases z2 : c + 1 ≤ 10
      · rw [if_pos z2]
      · rw [if_neg z2]
        omega
  rw [hJ]
theorem gp_Mn_c {k : Nat} {pr : Nat → Nat} {r l st c v : Nat} (h1 : ¬ c = 0) (hc : gp_v c = true) (hv : min v 100000 = gp_x (gp_c pr (gp_cl c l)) (gp_B k (gp_C k pr r) (gp_cl c l) st)) (hM : gp_Mn k pr r l st c ≤ 100000) : min (gp_Mn k pr r l st c) v = gp_Mn k pr r l st (c + 1) := by
  unfold gp_v at hc
  rw [decide_eq_false h1, Bool.false_or, Bool.and_eq_true, Bool.and_eq_true, decide_eq_true_iff, decide_eq_true_iff, decide_eq_true_iff] at hc
  have hJ : gp_J (c + 1) = gp_J c + 1 ∧ gp_cl c l = gp_J c + 1 := by
    unfold gp_J gp_cl
    rw [if_neg (by omega), if_neg (by omega), if_neg (by omega)]
    omega
  rw [hJ.2] at hv
  unfold gp_Mn at hM ⊢
  rw [if_neg h1] at hM ⊢
  rw [if_neg (by omega), hJ.1, gp_L]
  omega
theorem gp_Mn_le {k : Nat} {pr : Nat → Nat} {r l st c : Nat} (hB : gp_B k (gp_C k pr r) l st ≤ 100000) : gp_Mn k pr r l st c ≤ 100000 := by
  unfold gp_Mn
  split <;> omega
/-- what the reference weighs for one thing that lies -/
theorem mp_fold {γ : Type} (K : Int32 → Option γ) (hM : hg_M σ W H R) (hV : hg_V p R) (hQ : hg_Q σ 0 p) (hk : k < 5) {t n r se y l st : Nat} (hn : n ≤ 6) (ht : t + 1 + r = n) (hr : gp_m σ k (fun s => p (97 + 2 * s) + 1) (t + 1) r ∨ r = 0) (hl : gp_rl se y l) (hst : st < 3) {c : Nat} (hc : c < 50) : ((f_M_isChoice (nI c) σ).bind fun r11 => if r11 = 0 then (if nI (gp_Mn k (fun s => p (97 + 2 * s) + 1) r l st c) ≤ (100000 : Int32) then K (nI (gp_Mn k (fun s => p (97 + 2 * s) + 1) r l st c)) else K (100000 : Int32)) else (f_M_costBy (nI k) (nI t) (nI n) (nI se) (nI y) (nI st) (nI c) σ).bind fun r16 => if nI (gp_Mn k (fun s => p (97 + 2 * s) + 1) r l st c) ≤ r16 then K (nI (gp_Mn k (fun s => p (97 + 2 * s) + 1) r l st c)) else K r16) = K (nI (gp_Mn k (fun s => p (97 + 2 * s) + 1) r l st (c + 1))) := by
  have hpr : ∀ s, s < 4 → (fun s => p (97 + 2 * s) + 1) s ≤ 9 := fun s hs => by
    have := (hV.2.2.2.1 s hs).2
    show p (97 + 2 * s) + 1 ≤ 9
    omega
  have hC := gp_C_F (k := k) hpr r (by omega)
  have hB := gp_F_le (gp_B_F (k := k) hC l st) (show r ≤ 6 by omega)
  have hMl := gp_Mn_le (k := k) (pr := fun s => p (97 + 2 * s) + 1) (r := r) (l := l) (st := st) (c := c) hB
  rw [mp_is (by omega), z_bs]
  cases hv : gp_v c with
  | false =>
    have h1 : 1 ≤ c := by
      by_cases z : c = 0
      · rw [z] at hv; cases hv
      · omega
    rw [if_pos (show nI (if false = true then 1 else 0) = 0 from rfl), if_pos (show nI (gp_Mn k (fun s => p (97 + 2 * s) + 1) r l st c) ≤ (100000 : Int32) from nI_le (b := 100000) hMl (by omega)), gp_Mn_n h1 hv (by omega)]
  | true =>
    rw [if_neg (show ¬ nI (if true = true then 1 else 0) = 0 by decide)]
    obtain ⟨v, v1, v2, v3⟩ := mp_cost hM hV hQ hk hn ht hr hl hst hv (by omega)
    rw [v1, z_bs]
    have key : min (gp_Mn k (fun s => p (97 + 2 * s) + 1) r l st c) v = gp_Mn k (fun s => p (97 + 2 * s) + 1) r l st (c + 1) := by
      by_cases z : c = 0
      · subst z
        exact gp_Mn_0 hB v3
      · rw [if_neg z] at v3
        exact gp_Mn_c z hv v3 hMl
    rw [← key]
    by_cases z : gp_Mn k (fun s => p (97 + 2 * s) + 1) r l st c ≤ v
    · rw [if_pos (nI_le z (by omega)), show min (gp_Mn k (fun s => p (97 + 2 * s) + 1) r l st c) v = gp_Mn k (fun s => p (97 + 2 * s) + 1) r l st c by omega]
    · rw [if_neg (nI_ge (show v < gp_Mn k (fun s => p (97 + 2 * s) + 1) r l st c by omega) (by omega)), show min (gp_Mn k (fun s => p (97 + 2 * s) + 1) r l st c) v = v by omega]
theorem gp_Mn_50 {k : Nat} {pr : Nat → Nat} {r l st : Nat} : gp_Mn k pr r l st 50 = gp_C k pr (r + 1) l st := by
  unfold gp_Mn
  rw [if_neg (by omega)]
  rfl
/-- the place of a row, back to what lies -/
theorem gp_ix_b {l st q : Nat} (hl : l ≤ 36) (hst : st < 3) (h : gp_ix l + st = q) : q % 3 = st ∧ gp_rl (q / 30) (q % 30 / 3) l ∧ q < 150 := by
  unfold gp_ix at h
  by_cases c : l = 0
  · rw [if_pos c] at h
    unfold gp_rl
    omega
  · have h1 := gp_rl_of (l := l) (by omega) hl
    rw [if_neg c] at h
    unfold gp_rl at h1 ⊢
    omega
theorem mp_lay (hM : hg_M σ W H R) (hV : hg_V p R) (hQ : hg_Q σ 0 p) (hk : k < 5) {n : Nat} (hn1 : 1 ≤ n) (hn : n ≤ 6) : ∃ τ, f_M_layCosts (nI k) (nI n) σ = some τ ∧ (∀ t, t < n → gp_m τ k (fun s => p (97 + 2 * s) + 1) t (n - t)) ∧ ∀ q, q ≠ 99 → τ q = σ q := by
  unfold f_M_layCosts
  refine z_lp' (fun i (x : Int32 × zS) => x.1 = nI (n - i) - nI 1 ∧ (∀ t, n - i ≤ t → t < n → gp_m x.2 k (fun s => p (97 + 2 * s) + 1) t (n - t)) ∧ ∀ q, q ≠ 99 → x.2 q = σ q) n ?_ ?_ ?_
  · exact ⟨rfl, fun t t1 t2 => absurd t2 (by omega), fun _ _ => rfl⟩
  · intro i x hi hP
    obtain ⟨e1, e2, e3⟩ := hP
    rw [e1, pk_sub (by omega), if_neg (nI_pos (by omega))]
    refine z_inl ?_
    refine z_lp' (fun q (y : Int32 × zS) => y.1 = nI q ∧ q ≤ 150 ∧ (∀ l st, l ≤ 36 → st < 3 → gp_ix l + st < q → y.2 99 (150 * (n - i - 1) + gp_ix l + st) = nI (gp_C k (fun s => p (97 + 2 * s) + 1) (i + 1) l st)) ∧ (∀ j, (j < 150 * (n - i - 1) ∨ 150 * (n - i) ≤ j) → y.2 99 j = x.2 99 j) ∧ ∀ c, c ≠ 99 → y.2 c = σ c) 150 ?_ ?_ ?_
    · exact ⟨rfl, by omega, fun l st _ _ h => absurd h (by omega), fun _ _ => rfl, e3⟩
    · intro q y hq hP
      obtain ⟨f1, f2, f3, f4, f5⟩ := hP
      have hM2 : hg_M y.2 W H R := hg_M_c hM (f5 90 (by omega)) (f5 92 (by omega))
      have hQ2 : hg_Q y.2 0 p := hg_Q_c hQ (f5 91 (by omega))
      have hr2 : gp_m y.2 k (fun s => p (97 + 2 * s) + 1) (n - i - 1 + 1) i ∨ i = 0 := by
        by_cases z : i = 0
        · exact Or.inr z
        · refine Or.inl (fun l st hl hst => ?_)
          have w := e2 (n - i) (Nat.le_refl _) (by omega) l st hl hst
          have hix := gp_ix_lt hl
          rw [f4 _ (by omega), show n - i - 1 + 1 = n - i by omega, w, show n - (n - i) = i by omega]
      rw [f1, nl150, if_neg (nI_ge hq (by omega)), nl30, nl3, pk_rem (by omega) (by omega) (by omega), pk_div (by omega) (by omega) (by omega), pk_div (by omega) (by omega) (by omega), z_let_e, pk_rem (by omega) (by omega) (by omega)]
      have fin : ∀ v : Nat, (∀ l st, l ≤ 36 → st < 3 → gp_ix l + st = q → nI v = nI (gp_C k (fun s => p (97 + 2 * s) + 1) (i + 1) l st)) → ∃ s' : Int32 × zS, (if z_ib (nI 150 * nI (n - i - 1) + nI q) 1050 = true then z_let (z_u y.2 99 (nI 150 * nI (n - i - 1) + nI q).toNatClampNeg (nI v)) fun τ20 => some (Sum.inl (nI q + (1 : Int32), τ20)) else none : Option ((Int32 × zS) ⊕ zS)) = some (Sum.inl s') ∧ (s'.1 = nI (q + 1) ∧ q + 1 ≤ 150 ∧ (∀ l st, l ≤ 36 → st < 3 → gp_ix l + st < q + 1 → s'.2 99 (150 * (n - i - 1) + gp_ix l + st) = nI (gp_C k (fun s => p (97 + 2 * s) + 1) (i + 1) l st)) ∧ (∀ j, (j < 150 * (n - i - 1) ∨ 150 * (n - i) ≤ j) → s'.2 99 j = x.2 99 j) ∧ ∀ c, c ≠ 99 → s'.2 c = σ c) := by
        intro v hv
        rw [pk_mul, nI_add, if_pos ((z_ibn (by omega)).mpr (by omega)), nI_clamp (by omega), z_let_e]
        refine ⟨_, rfl, nI_1 q, by omega, ?_⟩
        dsimp only
        refine ⟨fun l st hl hst hlt => ?_, fun j hj => ?_, fun c hc => ?_⟩
        · by_cases z : gp_ix l + st = q
          · rw [Nat.add_assoc, z, hg_u_s]
            exact hv l st hl hst z
          · rw [hg_u_j (by omega)]
            exact f3 l st hl hst (by omega)
        · rw [hg_u_j (by omega)]
          exact f4 j hj
        · rw [hg_u_n hc]
          exact f5 c hc
      by_cases hval : (q / 30 < 4 ∧ 0 < q % 30 / 3) ∨ (q / 30 = 4 ∧ q % 30 / 3 = 0)
      · have hrl : gp_rl (q / 30) (q % 30 / 3) (if q % 30 / 3 = 0 then 0 else 9 * (q / 30) + q % 30 / 3) := by
          unfold gp_rl
          split <;> omega
        have j8 : ∀ {γ : Type} (jj : Int32 → Option γ), (if (4 : Int32) ≤ nI (q / 30) then jj 0 else jj 1) = jj (nI (if q / 30 < 4 then 1 else 0)) := fun jj => by
          by_cases z : q / 30 < 4
          · rw [if_pos z, if_neg (show ¬ (4 : Int32) ≤ nI (q / 30) from nI_ge (b := 4) z (by omega))]; rfl
          · rw [if_neg z, if_pos (show (4 : Int32) ≤ nI (q / 30) from nI_le (a := 4) (by omega) (by omega))]; rfl
        have j9 : ∀ {γ : Type} (jj : Int32 × Int32 → Option γ), (if nI (q % 30 / 3) ≤ 0 then jj (0, nI (if q / 30 < 4 then 1 else 0)) else jj (1, nI (if q / 30 < 4 then 1 else 0))) = jj (nI (if q / 30 < 4 then 1 else 0), nI (if q / 30 < 4 then 1 else 0)) := fun jj => by
          rcases hval with ⟨h1, h2⟩ | ⟨h1, h2⟩
          · rw [if_pos h1, if_neg (show ¬ nI (q % 30 / 3) ≤ 0 from nI_ge h2 (by omega))]; rfl
          · rw [if_pos (show nI (q % 30 / 3) ≤ 0 from nI_le (b := 0) (by omega) (by omega)), if_neg (show ¬ q / 30 < 4 by omega)]; rfl
        have hl0 : ∀ l st, l ≤ 36 → st < 3 → gp_ix l + st = q → l = (if q % 30 / 3 = 0 then 0 else 9 * (q / 30) + q % 30 / 3) ∧ st = q % 3 := fun l st hl hst h => by
          obtain ⟨b1, b2, b3⟩ := gp_ix_b hl hst h
          unfold gp_rl at b2
          split <;> omega
        generalize (if q % 30 / 3 = 0 then 0 else 9 * (q / 30) + q % 30 / 3) = l0 at hrl hl0
        refine z_inl ?_
        refine z_lp' (fun c (z : Int32 × Int32) => z.2 = nI c ∧ z.1 = nI (gp_Mn k (fun s => p (97 + 2 * s) + 1) i l0 (q % 3) c)) 50 ?_ ?_ ?_
        · exact ⟨rfl, rfl⟩
        · intro c z hc hP
          obtain ⟨g1, g2⟩ := hP
          rw [g1, g2, if_neg (show ¬ (50 : Int32) ≤ nI c from nI_ge (a := c) (b := 50) hc (by omega))]
          refine ⟨(nI (gp_Mn k (fun s => p (97 + 2 * s) + 1) i l0 (q % 3) (c + 1)), nI (c + 1)), ?_, rfl, rfl⟩
          rw [hg_join_to (x := nI (if q / 30 < 4 then 1 else 0)) (fun jj => j8 jj), hg_join_to (x := (nI (if q / 30 < 4 then 1 else 0), nI (if q / 30 < 4 then 1 else 0))) (fun jj => j9 jj), if_pos rfl]
          simp only [z_join]
          refine (mp_fold (fun t => some (Sum.inl (t, nI c + 1))) hM2 hV hQ2 hk (t := n - i - 1) (r := i) (st := q % 3) hn (by omega) hr2 hrl (by omega) hc).trans ?_
          rw [nI_1]
        · intro z hP
          obtain ⟨g1, g2⟩ := hP
          rw [g1, g2, if_pos (show (50 : Int32) ≤ nI 50 from nI_le (Nat.le_refl _) (by omega))]
          refine ⟨_, rfl, ?_⟩
          rw [gp_Mn_50]
          obtain ⟨s', h1, h2⟩ := fin _ (fun l st hl hst h => by
            obtain ⟨u1, u2⟩ := hl0 l st hl hst h
            rw [u1, u2])
          exact ⟨_, h1, s', rfl, h2⟩
      · refine z_inl ?_
        refine z_lp (fun _ (z : Int32 × Int32) => z = (100000, 0)) 0 rfl (fun c z hc => absurd hc (by omega)) (fun z hP => ?_)
        subst hP
        dsimp only
        rw [if_neg (show ¬ (50 : Int32) ≤ 0 by decide)]
        simp only [z_join]
        obtain ⟨s', h1, h2⟩ := fin 100000 (fun l st hl hst h => by
          exfalso
          obtain ⟨b1, b2, b3⟩ := gp_ix_b hl hst h
          unfold gp_rl at b2
          unfold gp_ix at h
          split at h <;> omega)
        by_cases z : q / 30 < 4
        · rw [if_neg (show ¬ (4 : Int32) ≤ nI (q / 30) from nI_ge (b := 4) z (by omega)), if_pos (show nI (q % 30 / 3) ≤ 0 from nI_le (b := 0) (by omega) (by omega)), if_neg (show ¬ (1 : Int32) = 0 by decide)]
          exact ⟨_, rfl, _, h1, s', rfl, h2⟩
        · rw [if_pos (show (4 : Int32) ≤ nI (q / 30) from nI_le (a := 4) (by omega) (by omega)), if_neg (show ¬ nI (q % 30 / 3) ≤ 0 from nI_ge (a := 0) (by omega) (by omega)), if_neg (show ¬ (0 : Int32) = 1 by decide)]
          exact ⟨_, rfl, _, h1, s', rfl, h2⟩
    · intro y hP
      obtain ⟨f1, f2, f3, f4, f5⟩ := hP
      rw [f1, nl150, if_pos (nI_le (Nat.le_refl _) (by omega))]
      refine ⟨_, rfl, _, rfl, _, rfl, ?_, fun t t1 t2 l st hl hst => ?_, f5⟩
      · dsimp only
        rw [show n - (i + 1) = n - i - 1 by omega]
        exact hg_m1 _
      · dsimp only
        have hix := gp_ix_lt hl
        by_cases ct : t = n - i - 1
        · rw [ct, show n - (n - i - 1) = i + 1 by omega]
          exact f3 l st hl hst (by omega)
        · rw [f4 _ (by omega)]
          exact e2 t (by omega) t2 l st hl hst
  · intro x hP
    obtain ⟨e1, e2, e3⟩ := hP
    rw [e1, Nat.sub_self, if_pos (show nI 0 - nI 1 < 0 by decide)]
    exact ⟨_, rfl, _, rfl, fun t ht => e2 t (by omega) ht, e3⟩
end PM
