/-! luck -/
/-- good ways, by the weeks left -/
def gl_G (k s v : Nat) : Nat → Nat → Nat → Nat
  | 0, _, _ => 0
  | m + 1, st, y => if g_sb k st (if y = 0 then 4 else s) = 3 then 10 ^ (m + 1) else if g_sb k st (if y = 0 then 4 else s) = 4 then 0 else (10 - v) * gl_G k s v m (g_sb k st (if y = 0 then 4 else s)) (y - 1) + v * gl_G k s v m (g_sb k st (if y = 0 then 4 else s)) (y - 2)
/-- whether it is ripe, when yards are lost by the bits of l -/
def gl_R (k s : Nat) : Nat → Nat → Nat → Nat → Bool
  | 0, st, _, _ => decide (st = 3)
  | m + 1, st, y, l => if 3 ≤ st then decide (st = 3) else gl_R k s m (g_sb k st (if y = 0 then 4 else s)) (y - (1 + l % 2)) (l / 2)
def gl_W (v : Nat) : Nat → Nat → Nat
  | 0, _ => 1
  | m + 1, l => (if l % 2 = 1 then v else 10 - v) * gl_W v m (l / 2)
theorem g_s5_2 (f : Nat → Nat) : ∀ M, g_s5 f (2 * M) = g_s5 (fun l => f (2 * l) + f (2 * l + 1)) M
  | 0 => rfl
  | M + 1 => by
    rw [show 2 * (M + 1) = 2 * M + 1 + 1 by omega, g_s5, g_s5, g_s5, g_s5_2 f M]
    omega
theorem gl_R3 (k s : Nat) : ∀ m y l, gl_R k s m 3 y l = true
  | 0, _, _ => rfl
  | _ + 1, _, _ => rfl
theorem gl_R4 (k s : Nat) : ∀ m y l, gl_R k s m 4 y l = false
  | 0, _, _ => rfl
  | _ + 1, _, _ => rfl
theorem gl_Ws {v : Nat} (hv : v ≤ 10) : ∀ m, g_s5 (gl_W v m) (2 ^ m) = 10 ^ m
  | 0 => rfl
  | m + 1 => by
    rw [Nat.pow_succ, Nat.mul_comm, g_s5_2, g_s5_c (h := fun l => 10 * gl_W v m l) (fun l _ => by
      rw [gl_W, gl_W, if_neg (by omega), if_pos (by omega), show 2 * l / 2 = l by omega, show (2 * l + 1) / 2 = l by omega, ← Nat.add_mul, show 10 - v + v = 10 by omega]), g_s5_m, gl_Ws hv m, Nat.pow_succ, Nat.mul_comm]
theorem gl_main {k s v : Nat} (hv : v ≤ 10) (hs : s < 5) : ∀ m st y, st < 3 → g_s5 (fun l => if gl_R k s m st y l = true then gl_W v m l else 0) (2 ^ m) = gl_G k s v m st y
  | 0, st, y, h => by
    show 0 + (if decide (st = 3) = true then 1 else 0) = 0
    rw [if_neg (by rw [decide_eq_true_iff]; omega)]
  | m + 1, st, y, h => by
    have hth := g_sb_le (k := k) (t := st) (s := if y = 0 then 4 else s) h
    rw [gl_G, Nat.pow_succ, Nat.mul_comm, g_s5_2]
    generalize hx : g_sb k st (if y = 0 then 4 else s) = th at hth
    rw [g_s5_c (h := fun l => (10 - v) * (if gl_R k s m th (y - 1) l = true then gl_W v m l else 0) + v * (if gl_R k s m th (y - 2) l = true then gl_W v m l else 0)) (fun l _ => by
      rw [gl_R, gl_R, gl_W, gl_W, if_neg (show ¬ 3 ≤ st by omega), if_neg (show ¬ 3 ≤ st by omega), hx, show y - (1 + 2 * l % 2) = y - 1 by omega, show y - (1 + (2 * l + 1) % 2) = y - 2 by omega, show 2 * l / 2 = l by omega, show (2 * l + 1) / 2 = l by omega, if_neg (show ¬ 2 * l % 2 = 1 by omega), if_pos (show (2 * l + 1) % 2 = 1 by omega)]
      congr 1
      · split
        · rfl
        · rw [Nat.mul_zero]
      · split
        · rfl
        · rw [Nat.mul_zero]), g_s5_a, g_s5_m, g_s5_m]
    by_cases h3 : th = 3
    · rw [if_pos h3, h3]
      rw [g_s5_c (h := gl_W v m) (fun l _ => by rw [gl_R3, if_pos rfl]), g_s5_c (f := fun l => if gl_R k s m 3 (y - 2) l = true then gl_W v m l else 0) (h := gl_W v m) (fun l _ => by rw [gl_R3, if_pos rfl]), gl_Ws hv, ← Nat.add_mul, show 10 - v + v = 10 by omega, Nat.pow_succ, Nat.mul_comm]
    · rw [if_neg h3]
      by_cases h4 : th = 4
      · rw [if_pos h4, h4]
        rw [g_s5_c (h := fun _ => 0) (fun l _ => by rw [gl_R4, if_neg Bool.false_ne_true]), g_s5_c (f := fun l => if gl_R k s m 4 (y - 2) l = true then gl_W v m l else 0) (h := fun _ => 0) (fun l _ => by rw [gl_R4, if_neg Bool.false_ne_true]), g_s5_0, Nat.mul_zero, Nat.mul_zero]
      · rw [if_neg h4, gl_main hv hs m th (y - 1) (by omega), gl_main hv hs m th (y - 2) (by omega)]
theorem gl_G_le {k s v : Nat} (hv : v ≤ 10) : ∀ m st y, gl_G k s v m st y ≤ 10 ^ m
  | 0, _, _ => by rw [gl_G]; omega
  | m + 1, st, y => by
    rw [gl_G]
    generalize g_sb k st (if y = 0 then 4 else s) = th
    split
    · exact Nat.le_refl _
    · split
      · exact Nat.zero_le _
      · have h1 := Nat.mul_le_mul_left (10 - v) (gl_G_le (k := k) (s := s) hv m th (y - 1))
        have h2 := Nat.mul_le_mul_left v (gl_G_le (k := k) (s := s) hv m th (y - 2))
        have h3 : (10 - v) * 10 ^ m + v * 10 ^ m = 10 ^ (m + 1) := by rw [← Nat.add_mul, show 10 - v + v = 10 by omega, Nat.pow_succ, Nat.mul_comm]
        omega
theorem hg_10n {n : Nat} (hn : n ≤ 8) : 1 ≤ 10 ^ n ∧ 10 ^ n ≤ 10 ^ 8 := ⟨Nat.pow_pos (by omega), Nat.pow_le_pow_right (by omega) hn⟩
theorem hg_lNn {n : Nat} (h : n < 2 ^ 64) : (lN n).toBitVec.toNat = n := by
  show (BitVec.ofNat 64 n).toNat = n
  rw [BitVec.toNat_ofNat]
  exact Nat.mod_eq_of_lt h
section LU
variable {σ : zS} {p : Nat → Nat} {W H R : Nat}
theorem yy_allWays {n : Nat} (hn : n ≤ 8) (σ : zS) : f_Lk_allWays (nI n) σ = some (lN (10 ^ n)) := by
  unfold f_Lk_allWays
  refine z_ex (z_lp' (fun i (x : Int64 × Int32) => x.2 = nI i ∧ i ≤ n ∧ x.1 = lN (10 ^ i)) n ?_ ?_ ?_)
  · exact ⟨rfl, by omega, rfl⟩
  · intro i x hi hP
    obtain ⟨e1, e2, e3⟩ := hP
    rw [e1, e3, if_neg (nI_ge hi (by omega)), show (10 : Int64) = lN 10 from rfl, lN_mul, nl1, nI_add]
    exact ⟨_, rfl, rfl, by omega, by rw [Nat.pow_succ]⟩
  · intro x hP
    obtain ⟨e1, e2, e3⟩ := hP
    rw [e1, e3, if_pos (nI_le (Nat.le_refl _) (by omega))]
    exact ⟨_, rfl, _, rfl, rfl⟩
theorem hg_subI (x : Int32) {a : Nat} (ha : a ≤ 2) (h : -(2 ^ 31) + (a : Int) ≤ x.toInt) : (x - nI a).toInt = x.toInt - a := by
  rw [Int32.toInt_sub, nI_toInt (by omega)]
  have h2 := Int32.toInt_lt x
  rw [show ∀ (y : Int) (m : Nat), y.bmod m = if y % m < (m + 1) / 2 then y % m else y % m - m from fun _ _ => rfl]
  split <;> omega
theorem yy_good {k s v : Nat} (hk : k < 5) (hs : s < 4) (hv : v ≤ 10) : ∀ (m fu st y : Nat) (ya : Int32), m < fu → m ≤ 8 → st < 3 → y ≤ 9 → ((y = 0 ∧ ya.toInt ≤ 0 ∧ -1000 + 2 * (m : Int) ≤ ya.toInt) ∨ (1 ≤ y ∧ ya = nI y)) → f_Lk_goodWays fu (nI k) (nI st) (nI (if y = 0 then 4 else s)) ya (nI v) (nI m) σ = some (lN (gl_G k s v m st y)) := by
  intro m
  induction m with
  | zero =>
    intro fu st y ya hfu hm hst hy hr
    obtain ⟨f, rfl⟩ : ∃ f, fu = f + 1 := ⟨fu - 1, by omega⟩
    rw [f_Lk_goodWays, gl_G]
    exact if_pos (by decide)
  | succ m ih =>
    intro fu st y ya hfu hm hst hy hr
    obtain ⟨f, rfl⟩ : ∃ f, fu = f + 1 := ⟨fu - 1, by omega⟩
    have hse : (if y = 0 then 4 else s) < 5 := by split <;> omega
    have hth := g_sb_le (k := k) (t := st) (s := if y = 0 then 4 else s) hst
    have t1 : (1 : Int32).toInt = 1 := rfl
    have t2 : (2 : Int32).toInt = 2 := rfl
    rw [f_Lk_goodWays, gl_G, nl0, if_neg (nI_ge (show 0 < m + 1 by omega) (by omega)), nl8, if_pos (nI_le hm (by omega)), y_behind hk hst hse, z_bs]
    generalize g_sb k st (if y = 0 then 4 else s) = th at hth
    by_cases h3 : th = 3
    · rw [if_pos (show nI th = 3 by rw [h3]; rfl), if_pos h3, yy_allWays hm, z_bs]
    rw [if_neg (show ¬ nI th = 3 by rw [nl3, nI_eq (by omega) (by omega)]; exact h3), if_neg h3]
    by_cases h4 : th = 4
    · rw [if_pos (show nI th = 4 by rw [h4]; rfl), if_pos h4]
      rfl
    rw [if_neg (show ¬ nI th = 4 by rw [nl4, nI_eq (by omega) (by omega)]; exact h4), if_neg h4]
    rw [hg_join_to (x := (nI (if y - 1 = 0 then 4 else s), nI th, nI k)) (by
      intro j
      rcases hr with ⟨rfl, r2, r3⟩ | ⟨r1, rfl⟩
      · rw [if_pos (show ya ≤ 1 from by rw [Int32.le_iff_toInt_le, t1]; omega)]
        rfl
      · by_cases c : y ≤ 1
        · rw [if_pos (show nI y ≤ 1 from nI_le (b := 1) c (by omega)), if_pos (by omega)]
          rfl
        · rw [if_neg (show ¬ nI y ≤ 1 from nI_ge (show 1 < y by omega) (by omega)), if_neg (by omega), if_neg (by omega)])]
    dsimp only
    have r1 : ((y - 1 = 0 ∧ (ya - 1).toInt ≤ 0 ∧ -1000 + 2 * (m : Int) ≤ (ya - 1).toInt) ∨ (1 ≤ y - 1 ∧ ya - 1 = nI (y - 1))) := by
      rcases hr with ⟨rfl, r2, r3⟩ | ⟨r1, rfl⟩
      · have := hg_subI ya (a := 1) (by omega) (by omega)
        rw [← nl1] at this
        exact Or.inl ⟨rfl, by omega, by omega⟩
      · rw [nl1, pk_sub r1]
        by_cases c : y - 1 = 0
        · exact Or.inl ⟨c, by rw [nI_toInt (by omega)]; omega, by rw [nI_toInt (by omega)]; omega⟩
        · exact Or.inr ⟨by omega, rfl⟩
    have r2 : ((y - 2 = 0 ∧ (ya - 2).toInt ≤ 0 ∧ -1000 + 2 * (m : Int) ≤ (ya - 2).toInt) ∨ (1 ≤ y - 2 ∧ ya - 2 = nI (y - 2))) := by
      rcases hr with ⟨rfl, r2, r3⟩ | ⟨r1, rfl⟩
      · have := hg_subI ya (a := 2) (by omega) (by omega)
        rw [← nl2] at this
        exact Or.inl ⟨rfl, by omega, by omega⟩
      · by_cases c : y ≤ 2
        · have := hg_subI (nI y) (a := 2) (by omega) (by rw [nI_toInt (by omega)]; omega)
          rw [← nl2, nI_toInt (by omega)] at this
          exact Or.inl ⟨by omega, by omega, by omega⟩
        · rw [nl2, pk_sub (by omega)]
          exact Or.inr ⟨by omega, rfl⟩
    rw [nl1, pk_sub (by omega), Nat.add_sub_cancel, ← nl1, ih f th (y - 1) (ya - 1) (by omega) (by omega) (by omega) (by omega) r1, z_bs]
    rw [hg_join_to (x := (nI (if y - 2 = 0 then 4 else s), nI th, nI k)) (by
      intro j
      rcases hr with ⟨rfl, r2, r3⟩ | ⟨r1, rfl⟩
      · rw [if_pos (show ya ≤ 2 from by rw [Int32.le_iff_toInt_le, t2]; omega)]
        rfl
      · by_cases c : y ≤ 2
        · rw [if_pos (show nI y ≤ 2 from nI_le (b := 2) c (by omega)), if_pos (by omega)]
          rfl
        · rw [if_neg (show ¬ nI y ≤ 2 from nI_ge (show 2 < y by omega) (by omega)), if_neg (by omega), if_neg (by omega)])]
    dsimp only
    rw [ih f th (y - 2) (ya - 2) (by omega) (by omega) (by omega) (by omega) r2, z_bs, show (10 : Int32) = nI 10 from rfl, pk_sub hv, nI_l (by omega), nI_l (by omega), lN_mul, lN_mul, lN_add]
theorem hg_cmp0 {b : Nat} (hb : b < 2 ^ 63) : (lg_cmp (lN b) (0 : Int64) = 0) ↔ b = 0 := by
  unfold lg_cmp
  by_cases c : b = 0
  · subst c
    exact ⟨fun _ => rfl, fun _ => rfl⟩
  · have h1 : lN b > (0 : Int64) := by
      show lN 0 < lN b
      rw [pk_lLT (by omega) hb]
      omega
    rw [if_pos h1]
    exact ⟨fun z => absurd z (by decide), fun z => absurd z c⟩
theorem hg_cmp1 {b : Nat} (h : 1 ≤ b) (hb : b < 2 ^ 63) : 0 ≤ lg_cmp (lN b) (1 : Int64) := by
  unfold lg_cmp
  by_cases c : b = 1
  · subst c
    decide
  · have h1 : lN b > (1 : Int64) := by
      show lN 1 < lN b
      rw [pk_lLT (by omega) hb]
      omega
    rw [if_pos h1]
    decide
theorem hg_gcdS {a b : Nat} : Nat.gcd b (a % b) = Nat.gcd a b := by
  rw [Nat.gcd_comm b (a % b), ← Nat.gcd_rec, Nat.gcd_comm]
theorem yy_common {g A : Nat} (hg : g ≤ A) (h1 : 1 ≤ A) (hA : A ≤ 10 ^ 8) (σ : zS) : f_Lk_commonDivisor (lN g) (lN A) σ = some (lN (Nat.gcd g A)) := by
  unfold f_Lk_commonDivisor
  refine z_ex (z_lp (fun i (x : Int64 × Int64 × Int32) => ∃ a b, x.1 = lN a ∧ x.2.1 = lN b ∧ x.2.2 = nI i ∧ a ≤ A ∧ b ≤ A ∧ Nat.gcd a b = Nat.gcd g A ∧ (i = 0 ∨ (b ≤ a ∧ 0 < a ∧ a * b * 2 ^ (i - 1) ≤ A * A))) 200 ?_ ?_ ?_)
  · exact ⟨g, A, rfl, rfl, rfl, hg, Nat.le_refl _, rfl, Or.inl rfl⟩
  · intro i x hi hP
    obtain ⟨a, b, e1, e2, e3, e4, e5, e6, e7⟩ := hP
    rw [e1, e2, e3, if_neg (show ¬ (200 : Int32) ≤ nI i from nI_ge (a := i) (b := 200) hi (by omega))]
    by_cases c : b = 0
    · rw [if_pos ((hg_cmp0 (by omega)).mpr c)]
      right
      refine ⟨_, rfl, _, rfl, ?_⟩
      rw [← e6, c, Nat.gcd_zero_right]
    · rw [if_neg (fun z => c ((hg_cmp0 (by omega)).mp z)), if_neg (show ¬ lN b = 0 from by
        show ¬ lN b = lN 0
        rw [pk_lEQ (by omega) (by omega)]; exact c), z_let_e, pk_lRem (by omega) (by omega) (by omega)]
      left
      have hlt := Nat.mod_lt a (show 0 < b by omega)
      refine ⟨_, rfl, b, a % b, rfl, rfl, nI_1 i, e5, by omega, by rw [hg_gcdS, e6], Or.inr ⟨by omega, by omega, ?_⟩⟩
      rcases e7 with rfl | ⟨q1, q2, q3⟩
      · rw [show (0 + 1 - 1) = 0 from rfl, Nat.pow_zero, Nat.mul_one]
        exact Nat.mul_le_mul e5 (by omega)
      · by_cases ci : i = 0
        · subst ci
          rw [show (0 + 1 - 1) = 0 from rfl, Nat.pow_zero, Nat.mul_one]
          exact Nat.mul_le_mul e5 (by omega)
        · have h2 : a % b * 2 ≤ a := by
            have h3 := Nat.div_add_mod a b
            have h4 : 1 ≤ a / b := Nat.div_pos q1 (by omega)
            have h5 := Nat.mul_le_mul_left b h4
            omega
          rw [show i + 1 - 1 = (i - 1) + 1 by omega, Nat.pow_succ, Nat.mul_comm (2 ^ (i - 1)) 2, ← Nat.mul_assoc]
          refine Nat.le_trans (Nat.mul_le_mul_right _ ?_) q3
          rw [Nat.mul_assoc, Nat.mul_comm a b]
          exact Nat.mul_le_mul_left b h2
  · intro x hP
    obtain ⟨a, b, e1, e2, e3, e4, e5, e6, e7⟩ := hP
    rw [e1, e3, if_pos (show (200 : Int32) ≤ nI 200 from nI_le (Nat.le_refl _) (by omega))]
    refine ⟨_, rfl, _, rfl, ?_⟩
    rcases e7 with z | ⟨q1, q2, q3⟩
    · omega
    · have hb0 : b = 0 := by
        by_cases c : b = 0
        · exact c
        · exfalso
          have h1 : 1 ≤ a * b := Nat.mul_pos q2 (by omega)
          have h2 := Nat.mul_le_mul_right (2 ^ (200 - 1)) h1
          have h3 : A * A ≤ 10 ^ 8 * 10 ^ 8 := Nat.mul_le_mul hA hA
          have h4 : 10 ^ 8 * 10 ^ 8 < 1 * 2 ^ (200 - 1) := by decide
          omega
      rw [← e6, hb0, Nat.gcd_zero_right]
/-- what luck() answers, class and reference -/
def gl_A (g A : Nat) (b : Int32) : Int64 := if b = 0 then lN (g / Nat.gcd g A) else lN (A / Nat.gcd g A)
theorem mm_lowest {g A : Nat} (hg : g ≤ A) (h1 : 1 ≤ A) (hA : A ≤ 10 ^ 8) (b : Int32) (σ : zS) : f_M_lowest (lN g) (lN A) b σ = some (gl_A g A b) := by
  have hgp : 0 < Nat.gcd g A := Nat.gcd_pos_of_pos_right _ (by omega)
  have hgl : Nat.gcd g A ≤ A := Nat.gcd_le_right _ (by omega)
  unfold f_M_lowest
  refine z_ex (z_lpw (fun (x : Int64 × Int64) => ∃ a b, x.1 = lN a ∧ x.2 = lN b ∧ a ≤ A ∧ b ≤ A ∧ Nat.gcd a b = Nat.gcd g A) (fun x => x.2.toBitVec.toNat) ?_ ?_)
  · exact ⟨g, A, rfl, rfl, hg, Nat.le_refl _, rfl⟩
  · intro x hP
    obtain ⟨a, b', e1, e2, e3, e4, e5⟩ := hP
    rw [e1, e2]
    by_cases c : b' = 0
    · rw [if_pos ((hg_cmp0 (by omega)).mpr c)]
      right
      refine ⟨_, rfl, ?_⟩
      have ea : a = Nat.gcd g A := by rw [← e5, c, Nat.gcd_zero_right]
      simp only [z_join]
      rw [ea, if_neg (show ¬ lN (Nat.gcd g A) = 0 from by
        show ¬ lN (Nat.gcd g A) = lN 0
        rw [pk_lEQ (by omega) (by omega)]; omega), pk_lDiv (by omega) hgp (by omega), if_neg (show ¬ lN (Nat.gcd g A) = 0 from by
        show ¬ lN (Nat.gcd g A) = lN 0
        rw [pk_lEQ (by omega) (by omega)]; omega), pk_lDiv (by omega) hgp (by omega)]
      unfold gl_A
      by_cases z : b = 0
      · rw [if_pos z, if_pos z]
        exact ⟨_, rfl, rfl⟩
      · rw [if_neg z, if_neg z]
        exact ⟨_, rfl, rfl⟩
    · have hlt := Nat.mod_lt a (show 0 < b' by omega)
      rw [if_neg (fun z => c ((hg_cmp0 (by omega)).mp z)), if_neg (show ¬ lN b' = 0 from by
        show ¬ lN b' = lN 0
        rw [pk_lEQ (by omega) (by omega)]; exact c), pk_lRem (by omega) (by omega) (by omega)]
      left
      refine ⟨_, rfl, ⟨b', a % b', rfl, rfl, e4, by omega, by rw [hg_gcdS, e5]⟩, ?_⟩
      show (lN (a % b')).toBitVec.toNat < (lN b').toBitVec.toNat
      rw [hg_lNn (by omega), hg_lNn (by omega)]
      exact hlt
theorem mm_ripeBy (hM : hg_M σ W H R) (hV : hg_V p R) (hQ : hg_Q σ 0 p) {c n l : Nat} (hc : c < 16) (hn : n ≤ 8) (hk : ¬ p (5 * c + 2) = 0) (hl : l < 2 ^ n) : f_M_isRipeBy (nI c) (nI n) (nI l) σ = some (nI (if gl_R (p (5 * c + 2) - 1) (p (5 * c)) n (p (5 * c + 3)) (p (5 * c + 1)) l = true then 1 else 0)) := by
  obtain ⟨v1, v2, v3, v4, v5⟩ := hV.1 c hc
  have q := hg_Q0 hQ
  have hl2 : l < 2 ^ 8 := Nat.lt_of_lt_of_le hl (Nat.pow_le_pow_right (by omega) hn)
  have hc0 : f_M_cropIn (nI 0) (nI c) σ = some (g_k p c) := mm_cropIn hV hQ (by omega) hc
  have hgk : g_k p c = nI (p (5 * c + 2) - 1) := by unfold g_k; rw [if_neg hk]
  unfold f_M_isRipeBy
  rw [nl0, hc0, z_bs, hgk, nl5, nl1, nl3]
  simp (disch := omega) only [pk_mul, nI_add, k_ib, if_true, nI_clamp, q, z_let]
  refine z_ex (z_lp (fun t (x : Int32 × Int32 × Int32) => ∃ y st, x.1 = nI y ∧ x.2.1 = nI st ∧ x.2.2 = nI t ∧ t ≤ n ∧ y ≤ 9 ∧ st ≤ 4 ∧ gl_R (p (5 * c + 2) - 1) (p (5 * c)) (n - t) st y (l / 2 ^ t) = gl_R (p (5 * c + 2) - 1) (p (5 * c)) n (p (5 * c + 3)) (p (5 * c + 1)) l) n ?_ ?_ ?_)
  · exact ⟨p (5 * c + 1), p (5 * c + 3), rfl, rfl, rfl, by omega, v2, by omega, by rw [Nat.pow_zero, Nat.div_one, Nat.sub_zero]⟩
  · intro t x ht hP
    obtain ⟨y, st, e1, e2, e3, e4, e5, e6, e7⟩ := hP
    rw [e1, e2, e3, if_neg (nI_ge ht (by omega))]
    rw [show n - t = (n - (t + 1)) + 1 by omega, gl_R] at e7
    by_cases h3 : 3 ≤ st
    · rw [if_pos (nI_le h3 (by omega))]
      right
      refine ⟨_, rfl, ?_⟩
      rw [if_pos h3] at e7
      rw [← e7]
      by_cases c3 : st = 3
      · rw [if_pos (show nI st = nI 3 by rw [c3]), if_pos (decide_eq_true c3)]
        exact ⟨_, rfl, rfl⟩
      · rw [if_neg (show ¬ nI st = nI 3 by rw [nI_eq (by omega) (by omega)]; exact c3), if_neg (by rw [decide_eq_true_iff]; exact c3)]
        exact ⟨_, rfl, rfl⟩
    · rw [if_neg (nI_ge (show st < 3 by omega) (by omega))]
      rw [if_neg h3] at e7
      rw [hg_join_to (x := (nI (if y = 0 then 4 else p (5 * c)), nI st, nI (p (5 * c + 2) - 1))) (by
        intro j
        by_cases cy : y = 0
        · rw [if_pos (show nI y = nI 0 by rw [cy]), if_pos cy]
          rfl
        · rw [if_neg (show ¬ nI y = nI 0 by rw [nI_eq (by omega) (by omega)]; exact cy), if_neg cy])]
      dsimp only
      have hbit : nI l >>> (nI t &&& nI 31) &&& nI 1 = nI (l / 2 ^ t % 2) := by
        rw [z_sbit (by omega) (by omega), Nat.testBit_eq_decide_div_mod_eq]
        congr 1
        have := Nat.mod_lt (l / 2 ^ t) (show 0 < 2 by omega)
        by_cases cb : l / 2 ^ t % 2 = 1
        · rw [if_pos (decide_eq_true cb), cb]
        · rw [if_neg (by rw [decide_eq_true_iff]; exact cb)]
          omega
      have hb2 := Nat.mod_lt (l / 2 ^ t) (show 0 < 2 by omega)
      rw [mm_stageBy hM (by omega) (by omega) (show (if y = 0 then 4 else p (5 * c)) < 5 by split <;> omega), z_bs, show (31 : Int32) = nI 31 from rfl, hbit, nI_add, nI_add]
      rw [hg_join_to (x := nI (y - (1 + l / 2 ^ t % 2))) (by
        intro j
        by_cases cy : 1 + l / 2 ^ t % 2 ≤ y
        · rw [pk_sub cy, if_pos (nI_le (Nat.zero_le _) (by omega))]
        · have := pk_sub_toInt (a := y) (b := 1 + l / 2 ^ t % 2) (by omega) (by omega)
          rw [if_neg (show ¬ nI 0 ≤ nI y - nI (1 + l / 2 ^ t % 2) from fun z => by
            rw [Int32.le_iff_toInt_le, nI_toInt (by omega), this] at z
            omega), show y - (1 + l / 2 ^ t % 2) = 0 by omega])]
      left
      refine ⟨_, rfl, y - (1 + l / 2 ^ t % 2), g_sb (p (5 * c + 2) - 1) st (if y = 0 then 4 else p (5 * c)), rfl, rfl, rfl, by omega, by omega, g_sb_le (by omega), ?_⟩
      rw [← e7, Nat.pow_succ, Nat.div_div_eq_div_mul]
  · intro x hP
    obtain ⟨y, st, e1, e2, e3, e4, e5, e6, e7⟩ := hP
    rw [Nat.sub_self, gl_R] at e7
    rw [e2, e3, if_pos (nI_le (Nat.le_refl _) (by omega))]
    refine ⟨_, rfl, ?_⟩
    rw [← e7]
    by_cases c3 : st = 3
    · rw [if_pos (show nI st = nI 3 by rw [c3]), if_pos (decide_eq_true c3)]
      exact ⟨_, rfl, rfl⟩
    · rw [if_neg (show ¬ nI st = nI 3 by rw [nI_eq (by omega) (by omega)]; exact c3), if_neg (by rw [decide_eq_true_iff]; exact c3)]
      exact ⟨_, rfl, rfl⟩
theorem mm_luck (hD : hg_D W H R) (hM : hg_M σ W H R) (hV : hg_V p R) (hQ : hg_Q σ 0 p) {c v n : Nat} {d : Int32} (hc : c < W * H) (hk : ¬ p (5 * c + 2) = 0) (ha : 0 ≤ (nI c).toInt ∧ (nI c).toInt < ((W * H : Nat) : Int)) (hb : 0 ≤ (nI v).toInt ∧ (nI v).toInt ≤ 10) (hv : v ≤ 10) (he : 1 ≤ (nI n).toInt ∧ (nI n).toInt ≤ 8) (hn : n ≤ 8) (hd : 0 ≤ d.toInt ∧ d.toInt ≤ 1) : f_M_luck (nI c) (nI v) (nI n) d σ = some (gl_A (gl_G (p (5 * c + 2) - 1) (p (5 * c)) v n (p (5 * c + 3)) (p (5 * c + 1))) (10 ^ n) d) := by
  obtain ⟨n1, n2⟩ := hg_D_N hD
  obtain ⟨v1, v2, v3, v4, v5⟩ := hV.1 c (by omega)
  obtain ⟨w1, w2⟩ := hg_10n hn
  have hc0 : f_M_cropIn (nI 0) (nI c) σ = some (g_k p c) := mm_cropIn hV hQ (by omega) (by omega)
  have hp1 : 2 ^ n ≤ 2 ^ 8 := Nat.pow_le_pow_right (by omega) hn
  unfold f_M_luck
  rw [mm_isCell hD hM, z_bs, if_pos ha, if_neg (show ¬ nI 1 = 0 by decide), km_0_10, z_bs, if_pos hb, if_neg (show ¬ nI 1 = 0 by decide), km_1_8, z_bs, if_pos he, if_neg (show ¬ nI 1 = 0 by decide), km_0_1, z_bs, if_pos hd, if_neg (show ¬ nI 1 = 0 by decide), nl0, hc0, z_bs, z_lit4, if_neg (fun z => hk ((g_k_0 v3).mp z))]
  refine z_ex (z_lp' (fun i (x : Int64 × Int32) => x.2 = nI i ∧ i ≤ n ∧ x.1 = lN (10 ^ i)) n ?_ ?_ ?_)
  · exact ⟨rfl, by omega, rfl⟩
  · intro i x hi hP
    obtain ⟨e1, e2, e3⟩ := hP
    rw [e1, e3, if_neg (nI_ge hi (by omega)), show (10 : Int64) = lN 10 from rfl, lN_mul, nl1, nI_add]
    exact ⟨_, rfl, rfl, by omega, by rw [Nat.pow_succ]⟩
  · intro x hP
    obtain ⟨e1, e2, e3⟩ := hP
    rw [e1, e3, if_pos (nI_le (Nat.le_refl _) (by omega))]
    refine ⟨_, rfl, ?_⟩
    refine z_lp' (fun i (y : Int64 × Int32) => y.2 = nI i ∧ i ≤ 2 ^ n ∧ y.1 = lN (g_s5 (fun l => if gl_R (p (5 * c + 2) - 1) (p (5 * c)) n (p (5 * c + 3)) (p (5 * c + 1)) l = true then gl_W v n l else 0) i)) (2 ^ n) ?_ ?_ ?_
    · exact ⟨rfl, Nat.zero_le _, rfl⟩
    · intro l y hl hP
      obtain ⟨f1, f2, f3⟩ := hP
      rw [f1, f3, nl1, show (31 : Int32) = nI 31 from rfl, z_shl (by omega), if_neg (nI_ge hl (by omega))]
      refine z_inl ?_
      refine z_lp' (fun t (z : Int64 × Int32) => ∃ w, z.1 = lN w ∧ z.2 = nI t ∧ t ≤ n ∧ w * gl_W v (n - t) (l / 2 ^ t) = gl_W v n l) n ?_ ?_ ?_
      · exact ⟨1, rfl, rfl, by omega, by rw [Nat.one_mul, Nat.pow_zero, Nat.div_one, Nat.sub_zero]⟩
      · intro t z ht hP
        obtain ⟨w, g1, g2, g3, g4⟩ := hP
        rw [show n - t = (n - (t + 1)) + 1 by omega, gl_W, ← Nat.mul_assoc, Nat.div_div_eq_div_mul, ← Nat.pow_succ] at g4
        rw [g1, g2, if_neg (nI_ge ht (by omega)), z_sbit (by omega) (by omega), Nat.testBit_eq_decide_div_mod_eq]
        simp only [z_join]
        by_cases cb : l / 2 ^ t % 2 = 1
        · rw [if_pos cb] at g4
          rw [if_pos (show nI (if decide (l / 2 ^ t % 2 = 1) = true then 1 else 0) = nI 1 by rw [if_pos (decide_eq_true cb)]), nI_l (by omega), lN_mul, nI_add]
          exact ⟨_, rfl, _, rfl, rfl, by omega, g4⟩
        · rw [if_neg cb] at g4
          rw [if_neg (show ¬ nI (if decide (l / 2 ^ t % 2 = 1) = true then 1 else 0) = nI 1 by rw [if_neg (by rw [decide_eq_true_iff]; exact cb)]; decide), show (10 : Int32) = nI 10 from rfl, pk_sub hv, nI_l (by omega), lN_mul, nI_add]
          exact ⟨_, rfl, _, rfl, rfl, by omega, g4⟩
      · intro z hP
        obtain ⟨w, g1, g2, g3, g4⟩ := hP
        rw [Nat.sub_self, gl_W, Nat.mul_one] at g4
        rw [g1, g2, if_pos (nI_le (Nat.le_refl _) (by omega))]
        refine ⟨_, rfl, ?_⟩
        rw [mm_ripeBy hM hV hQ (by omega) hn hk hl, z_bs]
        simp only [z_join]
        cases hr : gl_R (p (5 * c + 2) - 1) (p (5 * c)) n (p (5 * c + 3)) (p (5 * c + 1)) l with
        | false =>
          rw [if_pos (show nI (if false = true then 1 else 0) = nI 0 from rfl), show (0 : Int64) = lN 0 from rfl, lN_add, nI_add]
          refine ⟨_, rfl, _, rfl, rfl, by omega, ?_⟩
          rw [g_s5, hr]
          rfl
        | true =>
          rw [if_neg (show ¬ nI (if true = true then 1 else 0) = nI 0 by decide), lN_add, nI_add, g4]
          refine ⟨_, rfl, _, rfl, rfl, by omega, ?_⟩
          rw [g_s5, hr]
          rfl
    · intro y hP
      obtain ⟨f1, f2, f3⟩ := hP
      rw [f1, f3, nl1, show (31 : Int32) = nI 31 from rfl, z_shl (by omega), if_pos (nI_le (Nat.le_refl _) (by omega)), gl_main hv (by omega) n _ _ (by omega)]
      refine ⟨_, rfl, ?_⟩
      rw [mm_lowest (gl_G_le hv n _ _) w1 w2, z_bs]
      exact ⟨_, rfl, rfl⟩
theorem yy_luck (hD : hg_D W H R) (hV : hg_V p R) (hG : hg_G1 σ p W H R) {c v n : Nat} {d : Int32} (hc : c < W * H) (hk : ¬ p (5 * c + 2) = 0) (ha : 0 ≤ (nI c).toInt ∧ (nI c).toInt < ((W * H : Nat) : Int)) (hb : 0 ≤ (nI v).toInt ∧ (nI v).toInt ≤ 10) (hv : v ≤ 10) (he : 1 ≤ (nI n).toInt ∧ (nI n).toInt ≤ 8) (hn : n ≤ 8) (hd : 0 ≤ d.toInt ∧ d.toInt ≤ 1) : f_Y_luck (nI c) (nI v) (nI n) d σ = some (gl_A (gl_G (p (5 * c + 2) - 1) (p (5 * c)) v n (p (5 * c + 3)) (p (5 * c + 1))) (10 ^ n) d) := by
  obtain ⟨n1, n2⟩ := hg_D_N hD
  obtain ⟨v1, v2, v3, v4, v5⟩ := hV.1 c (by omega)
  obtain ⟨w1, w2⟩ := hg_10n hn
  have hgk : g_k p c = nI (p (5 * c + 2) - 1) := by unfold g_k; rw [if_neg hk]
  have ib : ∀ {α : Type} (x y : α), (if z_ib (nI c) 16 = true then x else y) = x := fun x y => if_pos ((z_ibn (by omega)).mpr (by omega))
  have hGl := gl_G_le (k := p (5 * c + 2) - 1) (s := p (5 * c)) hv n (p (5 * c + 3)) (p (5 * c + 1))
  have gg := yy_good (σ := σ) (k := p (5 * c + 2) - 1) (s := p (5 * c)) (v := v) (by omega) (by omega) hv n 10 (p (5 * c + 3)) (p (5 * c + 1)) (nI (p (5 * c + 1))) (by omega) hn (by omega) v2 (by
    by_cases z : p (5 * c + 1) = 0
    · refine Or.inl ⟨z, ?_, ?_⟩ <;> rw [z, nI_toInt (by omega)] <;> omega
    · exact Or.inr ⟨by omega, rfl⟩)
  generalize gl_G (p (5 * c + 2) - 1) (p (5 * c)) v n (p (5 * c + 3)) (p (5 * c + 1)) = G at hGl gg ⊢
  have hgp : 0 < Nat.gcd G (10 ^ n) := Nat.gcd_pos_of_pos_right _ (by omega)
  have hgl : Nat.gcd G (10 ^ n) ≤ 10 ^ n := Nat.gcd_le_right _ (by omega)
  unfold f_Y_luck
  rw [y_hasCell_1 hD hG, z_bs, if_pos ha, if_neg (show ¬ nI 1 = 0 by decide), nl10, nl8, nl1, nl0, ki_0_10, z_bs, if_pos hb, if_neg (show ¬ nI 1 = nI 0 by decide), ki_1_8, z_bs, if_pos he, if_neg (show ¬ nI 1 = nI 0 by decide), ki_0_1, z_bs, if_pos hd, if_neg (show ¬ nI 1 = nI 0 by decide)]
  simp only [ib, nI_clamp (show c < 2 ^ 31 by omega)]
  rw [hG.2.2.2.2.2.1 c (by omega), z_lit4, if_neg (fun z => hk ((g_k_0 v3).mp z)), yy_allWays hn, z_bs, hgk, hG.2.2.2.2.2.2.1 c (by omega), hG.2.2.2.1 c (by omega), hG.2.2.2.2.1 c (by omega)]
  rw [show g_l p c = if p (5 * c + 1) = 0 then 4 else p (5 * c) from rfl, gg, z_bs, yy_common hGl w1 w2, z_bs, if_pos (show nI 0 ≤ lg_cmp (lN (Nat.gcd G (10 ^ n))) 1 from hg_cmp1 hgp (by omega))]
  have nz : ¬ lN (Nat.gcd G (10 ^ n)) = 0 := by
    show ¬ lN (Nat.gcd G (10 ^ n)) = lN 0
    rw [pk_lEQ (by omega) (by omega)]
    omega
  unfold gl_A
  by_cases z : d = nI 0
  · rw [if_pos z, if_neg nz, pk_lDiv (by omega) hgp (by omega), if_pos (show d = 0 from z)]
  · rw [if_neg z, if_neg nz, pk_lDiv (by omega) hgp (by omega), if_neg (show ¬ d = 0 from z)]
end LU
theorem c_luck {σ : zS} (h : z_Inv σ) (a b e d : Int32) : hc_P (f_Y_luck a b e d) (f_M_luck a b e d) σ := by
  obtain ⟨W, H, R, p, h⟩ := h
  obtain ⟨hD, hV, hG, hQ, hX, hB⟩ := id h
  obtain ⟨n1, n2⟩ := hg_D_N hD
  obtain ⟨d1, d2, d3, d4, d5⟩ := id hD
  obtain ⟨G0, G1, G2, G3, G4, G5, G6, G7, G8, G9, G10, G11, G12, G13, G14, G15, G16, G17⟩ := id hG
  have hM := hX.1
  have q := hg_Q0 hQ
  have hI : z_Inv σ := ⟨W, H, R, p, h⟩
  by_cases ha : 0 ≤ a.toInt ∧ a.toInt < ((W * H : Nat) : Int)
  · by_cases hb : 0 ≤ b.toInt ∧ b.toInt ≤ 10
    · by_cases he : 1 ≤ e.toInt ∧ e.toInt ≤ 8
      · by_cases hd : 0 ≤ d.toInt ∧ d.toInt ≤ 1
        · obtain ⟨c, hc, rfl⟩ := hg_arg (by omega) ha
          obtain ⟨v, -, hv, rfl⟩ := hg_arg2 (lo := 0) (hi := 10) (by omega) hb
          obtain ⟨n, hn1, hn, rfl⟩ := hg_arg2 (lo := 1) (hi := 8) (by omega) he
          have v3 := (hV.1 c (by omega)).2.2.1
          by_cases hk : p (5 * c + 2) = 0
          · have hg0 := (g_k_0 v3).mpr hk
            have hc0 : f_M_cropIn (nI 0) (nI c) σ = some (g_k p c) := mm_cropIn hV hQ (by omega) (by omega)
            refine ⟨-2, ?_, ?_⟩
            · unfold f_Y_luck
              rw [y_hasCell_1 hD hG, z_bs, if_pos ha, if_neg (show ¬ nI 1 = 0 by decide), nl10, nl8, nl1, nl0, ki_0_10, z_bs, if_pos hb, if_neg (show ¬ nI 1 = nI 0 by decide), ki_1_8, z_bs, if_pos he, if_neg (show ¬ nI 1 = nI 0 by decide), ki_0_1, z_bs, if_pos hd, if_neg (show ¬ nI 1 = nI 0 by decide), if_pos ((z_ibn (show c < 2 ^ 31 by omega)).mpr (show c < 16 by omega)), nI_clamp (show c < 2 ^ 31 by omega), G5 c (by omega), z_lit4, if_pos hg0]
            · unfold f_M_luck
              rw [mm_isCell hD hM, z_bs, if_pos ha, if_neg (show ¬ nI 1 = 0 by decide), km_0_10, z_bs, if_pos hb, if_neg (show ¬ nI 1 = 0 by decide), km_1_8, z_bs, if_pos he, if_neg (show ¬ nI 1 = 0 by decide), km_0_1, z_bs, if_pos hd, if_neg (show ¬ nI 1 = 0 by decide), nl0, hc0, z_bs, z_lit4, if_pos hg0]
          · exact ⟨_, yy_luck hD hV hG hc hk ha hb hv he hn hd, mm_luck hD hM hV hQ hc hk ha hb hv he hn hd⟩
        · refine ⟨-1, ?_, ?_⟩
          · unfold f_Y_luck
            rw [y_hasCell_1 hD hG, z_bs, if_pos ha, if_neg (show ¬ nI 1 = 0 by decide), nl10, nl8, nl1, nl0, ki_0_10, z_bs, if_pos hb, if_neg (show ¬ nI 1 = nI 0 by decide), ki_1_8, z_bs, if_pos he, if_neg (show ¬ nI 1 = nI 0 by decide), ki_0_1, z_bs, if_neg hd, if_pos (show nI 0 = nI 0 from rfl)]
          · unfold f_M_luck
            rw [mm_isCell hD hM, z_bs, if_pos ha, if_neg (show ¬ nI 1 = 0 by decide), km_0_10, z_bs, if_pos hb, if_neg (show ¬ nI 1 = 0 by decide), km_1_8, z_bs, if_pos he, if_neg (show ¬ nI 1 = 0 by decide), km_0_1, z_bs, if_neg hd, if_pos (show nI 0 = 0 from rfl)]
      · refine ⟨-1, ?_, ?_⟩
        · unfold f_Y_luck
          rw [y_hasCell_1 hD hG, z_bs, if_pos ha, if_neg (show ¬ nI 1 = 0 by decide), nl10, nl8, nl1, nl0, ki_0_10, z_bs, if_pos hb, if_neg (show ¬ nI 1 = nI 0 by decide), ki_1_8, z_bs, if_neg he, if_pos (show nI 0 = nI 0 from rfl)]
        · unfold f_M_luck
          rw [mm_isCell hD hM, z_bs, if_pos ha, if_neg (show ¬ nI 1 = 0 by decide), km_0_10, z_bs, if_pos hb, if_neg (show ¬ nI 1 = 0 by decide), km_1_8, z_bs, if_neg he, if_pos (show nI 0 = 0 from rfl)]
    · refine ⟨-1, ?_, ?_⟩
      · unfold f_Y_luck
        rw [y_hasCell_1 hD hG, z_bs, if_pos ha, if_neg (show ¬ nI 1 = 0 by decide), nl10, nl0, ki_0_10, z_bs, if_neg hb, if_pos (show nI 0 = nI 0 from rfl)]
      · unfold f_M_luck
        rw [mm_isCell hD hM, z_bs, if_pos ha, if_neg (show ¬ nI 1 = 0 by decide), km_0_10, z_bs, if_neg hb, if_pos (show nI 0 = 0 from rfl)]
  · refine ⟨-1, ?_, ?_⟩
    · unfold f_Y_luck
      rw [y_hasCell_1 hD hG, z_bs, if_neg ha, if_pos (show nI 0 = 0 from rfl)]
    · unfold f_M_luck
      rw [mm_isCell hD hM, z_bs, if_neg ha, if_pos (show nI 0 = 0 from rfl)]
