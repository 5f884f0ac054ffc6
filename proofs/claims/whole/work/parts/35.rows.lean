/-! rows of weeks: numbers alone -/
def g_s5 (f : Nat → Nat) : Nat → Nat
  | 0 => 0
  | n + 1 => g_s5 f n + f n
theorem g_s5_c {f h : Nat → Nat} : ∀ {n : Nat}, (∀ k, k < n → f k = h k) → g_s5 f n = g_s5 h n
  | 0, _ => rfl
  | n + 1, e => by rw [g_s5, g_s5, g_s5_c (fun k hk => e k (by omega)), e n (by omega)]
theorem g_s5_a {f h : Nat → Nat} : ∀ n, g_s5 (fun k => f k + h k) n = g_s5 f n + g_s5 h n
  | 0 => rfl
  | n + 1 => by rw [g_s5, g_s5, g_s5, g_s5_a n]; omega
theorem g_s5_0 : ∀ n, g_s5 (fun _ => 0) n = 0
  | 0 => rfl
  | n + 1 => by rw [g_s5, g_s5_0 n]
theorem g_s5_m {f : Nat → Nat} (a : Nat) : ∀ n, g_s5 (fun k => a * f k) n = a * g_s5 f n
  | 0 => rfl
  | n + 1 => by rw [g_s5, g_s5, g_s5_m a n, Nat.mul_add]
theorem g_s5_x {f : Nat → Nat → Nat} (m : Nat) : ∀ n, g_s5 (fun i => g_s5 (fun j => f i j) m) n = g_s5 (fun j => g_s5 (fun i => f i j) n) m
  | 0 => (g_s5_0 m).symm
  | n + 1 => by
    rw [g_s5, g_s5_x m n, ← g_s5_a]
    rfl
/-- where a season leads, the ends stay -/
def g_th (k s l : Nat) : Nat := if s < 3 then g_sb k s l else s
theorem g_th_lt {k s l : Nat} (hs : s < 5) : g_th k s l < 5 := by
  unfold g_th
  split
  · have := g_sb_le (k := k) (s := l) (show s < 3 by assumption)
    omega
  · exact hs
def g_ac (c : Nat → Nat) (t l : Nat) : Bool := decide (c t = 5) || decide (c t = l)
/-- the class's ways -/
def g_wy (k : Nat) (c : Nat → Nat) (ok : Nat → Nat → Bool) : Nat → Nat → Nat
  | 0, s => if s = 0 then 1 else 0
  | t + 1, s' => g_s5 (fun s => g_wy k c ok t s * g_ct (fun l => g_ac c t l && decide (g_th k s l = s') && ok t s') 5) 5
/-- rows from a stage on -/
def g_cn (k : Nat) (c : Nat → Nat) (ok : Nat → Nat → Bool) : Nat → Nat → Nat → Nat
  | 0, _, _ => 1
  | r + 1, t, s => g_s5 (fun l => if g_ac c t l && ok t (g_th k s l) then g_cn k c ok r (t + 1) (g_th k s l) else 0) 5
theorem g_pick {x : Nat} (hx : x < 5) (C : Nat → Nat) : g_s5 (fun s => if x = s then C s else 0) 5 = C x := by
  have h : x = 0 ∨ x = 1 ∨ x = 2 ∨ x = 3 ∨ x = 4 := by omega
  rcases h with rfl | rfl | rfl | rfl | rfl <;> simp [g_s5]
theorem g_ct_S (A : Nat → Bool) (th : Nat → Nat) (ok : Nat → Bool) (C : Nat → Nat) (h : ∀ l, th l < 5) : ∀ n, g_s5 (fun s => g_ct (fun l => A l && decide (th l = s) && ok s) n * C s) 5 = g_s5 (fun l => if A l && ok (th l) then C (th l) else 0) n
  | 0 => by
    rw [g_s5_c (h := fun _ => 0) (fun k _ => by rw [g_ct, Nat.zero_mul]), g_s5_0]
    rfl
  | n + 1 => by
    rw [show g_s5 (fun l => if A l && ok (th l) then C (th l) else 0) (n + 1) = g_s5 (fun l => if A l && ok (th l) then C (th l) else 0) n + (if A n && ok (th n) then C (th n) else 0) from rfl, ← g_ct_S A th ok C h n, ← g_pick (h n) (fun s => if A n && ok s then C s else 0), ← g_s5_a]
    refine g_s5_c (fun s _ => ?_)
    rw [g_ct, Nat.add_mul]
    congr 1
    by_cases e : th n = s
    · subst e
      cases hA : A n <;> cases ho : ok (th n) <;> simp
    · rw [decide_eq_false e, if_neg e]
      simp
theorem g_wy_cn (k : Nat) (c : Nat → Nat) (ok : Nat → Nat → Bool) (w : Nat) : ∀ t, t ≤ w → g_s5 (fun s => g_wy k c ok t s * g_cn k c ok (w - t) t s) 5 = g_cn k c ok w 0 0
  | 0, _ => by
    simp [g_s5, g_wy]
  | t + 1, ht => by
    rw [← g_wy_cn k c ok w t (by omega), show w - t = (w - (t + 1)) + 1 by omega]
    rw [g_s5_c (h := fun s => g_s5 (fun s0 => g_wy k c ok t s0 * (g_ct (fun l => g_ac c t l && decide (g_th k s0 l = s) && ok t s) 5 * g_cn k c ok (w - (t + 1)) (t + 1) s)) 5) (fun s _ => by
      rw [g_wy, Nat.mul_comm, ← g_s5_m]
      exact g_s5_c (fun j _ => by rw [Nat.mul_comm, Nat.mul_assoc]))]
    rw [g_s5_x]
    refine g_s5_c (fun s hs => ?_)
    rw [g_s5_m, g_ct_S (fun l => g_ac c t l) (fun l => g_th k s l) (fun s => ok t s) (fun s => g_cn k c ok (w - (t + 1)) (t + 1) s) (fun l => g_th_lt hs) 5]
    rfl
theorem g_wy_all (k : Nat) (c : Nat → Nat) (ok : Nat → Nat → Bool) (w : Nat) : g_s5 (g_wy k c ok w) 5 = g_cn k c ok w 0 0 := by
  rw [← g_wy_cn k c ok w w (Nat.le_refl _), Nat.sub_self]
  exact g_s5_c (fun s _ => by rw [g_cn, Nat.mul_one])
/-- whether a row, as a number, fits -/
def g_fc (k : Nat) (c : Nat → Nat) (ok : Nat → Nat → Bool) : Nat → Nat → Nat → Nat → Bool
  | 0, _, _, _ => true
  | r + 1, t, s, m => g_ac c t (m / 5 ^ r % 5) && ok t (g_th k s (m / 5 ^ r % 5)) && g_fc k c ok r (t + 1) (g_th k s (m / 5 ^ r % 5)) m
theorem g_dg {r j x m : Nat} (hj : j < r) : (5 ^ r * x + m) / 5 ^ j % 5 = m / 5 ^ j % 5 := by
  obtain ⟨d, rfl⟩ : ∃ d, r = j + 1 + d := ⟨r - (j + 1), by omega⟩
  rw [Nat.pow_add, Nat.pow_succ, show 5 ^ j * 5 * 5 ^ d * x = 5 ^ j * (5 * (5 ^ d * x)) by simp [Nat.mul_assoc], Nat.mul_add_div (Nat.pow_pos (by omega)), Nat.mul_add_mod]
theorem g_fc_lo (k : Nat) (c : Nat → Nat) (ok : Nat → Nat → Bool) {R x m : Nat} : ∀ r t s, r ≤ R → g_fc k c ok r t s (5 ^ R * x + m) = g_fc k c ok r t s m
  | 0, _, _, _ => rfl
  | r + 1, t, s, h => by
    rw [g_fc, g_fc, g_dg (show r < R by omega), g_fc_lo k c ok r (t + 1) _ (by omega)]
theorem g_ct_mul (q : Nat → Bool) (M : Nat) : ∀ n, g_ct q (M * n) = g_s5 (fun l => g_ct (fun m => q (M * l + m)) M) n
  | 0 => rfl
  | n + 1 => by
    rw [Nat.mul_succ, g_ct_add, g_ct_mul q M n]
    rfl
theorem g_ct_and (b : Bool) (q : Nat → Bool) (n : Nat) : g_ct (fun m => b && q m) n = if b then g_ct q n else 0 := by
  cases b with
  | true => exact g_ct_cong (fun _ _ => rfl)
  | false => exact g_ct_0 (fun _ _ => rfl)
theorem g_ct_fc (k : Nat) (c : Nat → Nat) (ok : Nat → Nat → Bool) : ∀ r t s, g_ct (g_fc k c ok r t s) (5 ^ r) = g_cn k c ok r t s
  | 0, _, _ => rfl
  | r + 1, t, s => by
    rw [Nat.pow_succ, g_ct_mul]
    refine g_s5_c (fun l hl => ?_)
    rw [← g_ct_fc k c ok r (t + 1) (g_th k s l), ← g_ct_and]
    refine g_ct_cong (fun m hm => ?_)
    have e : (5 ^ r * l + m) / 5 ^ r % 5 = l := by
      rw [Nat.mul_add_div (Nat.pow_pos (by omega)), Nat.div_eq_of_lt hm]
      omega
    rw [g_fc, e, g_fc_lo k c ok r (t + 1) _ (Nat.le_refl _)]
/-- nothing is told -/
def g_any : Nat → Nat := fun _ => 5
theorem g_fc_iff (k : Nat) (c : Nat → Nat) (ok : Nat → Nat → Bool) {m : Nat} : ∀ r t s, g_fc k c ok r t s m = true ↔ (g_fc k g_any ok r t s m = true ∧ ∀ j, j < r → c (t + j) = 5 ∨ c (t + j) = m / 5 ^ (r - 1 - j) % 5)
  | 0, _, _ => ⟨fun _ => ⟨rfl, fun j hj => absurd hj (by omega)⟩, fun _ => rfl⟩
  | r + 1, t, s => by
    have ih := g_fc_iff k c ok (m := m) r (t + 1) (g_th k s (m / 5 ^ r % 5))
    have e1 : g_ac g_any t (m / 5 ^ r % 5) = true := rfl
    rw [g_fc, g_fc, e1, Bool.true_and, Bool.and_eq_true, Bool.and_eq_true, Bool.and_eq_true, ih]
    unfold g_ac
    rw [Bool.or_eq_true, decide_eq_true_iff, decide_eq_true_iff]
    constructor
    · rintro ⟨⟨h1, h2⟩, h3, h4⟩
      refine ⟨⟨h2, h3⟩, fun j hj => ?_⟩
      by_cases z : j = 0
      · subst z
        exact h1
      · have := h4 (j - 1) (by omega)
        rw [show t + 1 + (j - 1) = t + j by omega, show r - 1 - (j - 1) = r + 1 - 1 - j by omega] at this
        exact this
    · rintro ⟨⟨h2, h3⟩, h4⟩
      refine ⟨⟨h4 0 (by omega), h2⟩, h3, fun j hj => ?_⟩
      have := h4 (j + 1) (by omega)
      rw [show t + (j + 1) = t + 1 + j by omega, show r + 1 - 1 - (j + 1) = r - 1 - j by omega] at this
      exact this
theorem g_ct_le2 {q r : Nat → Bool} (h : ∀ m, q m = true → r m = true) : ∀ n, g_ct q n ≤ g_ct r n
  | 0 => Nat.le_refl _
  | n + 1 => by
    have := g_ct_le2 h n
    rw [g_ct, g_ct]
    by_cases c : q n = true
    · rw [if_pos c, if_pos (h n c)]; omega
    · rw [if_neg c]; omega
theorem g_ct_same {q r : Nat → Bool} (h : ∀ m, q m = true → r m = true) : ∀ n, g_ct q n = g_ct r n ↔ ∀ m, m < n → r m = true → q m = true
  | 0 => ⟨fun _ m hm => absurd hm (by omega), fun _ => rfl⟩
  | n + 1 => by
    have ih := g_ct_same h n
    have le := g_ct_le2 h n
    rw [g_ct, g_ct]
    constructor
    · intro e m hm hr
      by_cases c : m = n
      · subst c
        by_cases cq : q m = true
        · exact cq
        · rw [if_neg cq, if_pos hr] at e
          omega
      · refine ih.mp ?_ m (by omega) hr
        by_cases cq : q n = true
        · rw [if_pos cq, if_pos (h n cq)] at e; omega
        · rw [if_neg cq] at e
          by_cases cr : r n = true
          · rw [if_pos cr] at e; omega
          · rw [if_neg cr] at e; omega
    · intro e
      rw [ih.mpr (fun m hm hr => e m (by omega) hr)]
      by_cases cr : r n = true
      · rw [if_pos cr, if_pos (e n (by omega) cr)]
      · rw [if_neg cr, if_neg (fun z => cr (h n z))]
theorem g_ct_pos {q : Nat → Bool} : ∀ {n : Nat}, 0 < g_ct q n ↔ ∃ m, m < n ∧ q m = true
  | 0 => ⟨fun h => absurd h (by simp [g_ct]), fun ⟨m, hm, _⟩ => absurd hm (by omega)⟩
  | n + 1 => by
    have ih := g_ct_pos (q := q) (n := n)
    rw [g_ct]
    constructor
    · intro h
      by_cases c : q n = true
      · exact ⟨n, by omega, c⟩
      · rw [if_neg c] at h
        obtain ⟨m, h1, h2⟩ := ih.mp (by omega)
        exact ⟨m, by omega, h2⟩
    · rintro ⟨m, h1, h2⟩
      by_cases c : m = n
      · subst c
        rw [if_pos h2]; omega
      · have := ih.mpr ⟨m, by omega, h2⟩
        omega
theorem g_ft_no (q : Nat → Bool) : ∀ n j, j < g_ft q n → q j = false
  | 0, j, h => absurd h (by simp [g_ft])
  | n + 1, j, h => by
    have ih := g_ft_no q n
    have le := g_ft_le q n
    rw [g_ft] at h
    by_cases c : g_ft q n < n
    · rw [if_pos c] at h
      exact ih j h
    · rw [if_neg c] at h
      by_cases c2 : q n = true
      · rw [if_pos c2] at h
        exact ih j (by omega)
      · rw [if_neg c2] at h
        by_cases cj : j = n
        · rw [cj]; exact Bool.eq_false_iff.mpr c2
        · exact ih j (by omega)
theorem g_ft_pos {q : Nat → Bool} {n : Nat} : g_ft q n < n ↔ 0 < g_ct q n := by
  rw [g_ct_pos]
  constructor
  · intro h
    exact ⟨_, h, g_ft_yes q h⟩
  · rintro ⟨m, h1, h2⟩
    by_cases c : g_ft q n < n
    · exact c
    · have := g_ft_no q n m (by omega)
      rw [this] at h2
      cases h2
/-- the digits told so far, the rest is free -/
def g_pf (w m t : Nat) (j : Nat) : Nat := if j < t then m / 5 ^ (w - 1 - j) % 5 else 5
theorem g_up1 {m a : Nat} : m / 5 ^ a = 5 * (m / 5 ^ (a + 1)) + m / 5 ^ a % 5 := by
  rw [Nat.pow_succ, ← Nat.div_div_eq_div_mul]
  omega
/-- alike in the first t digits -/
theorem g_pre {w m n : Nat} (hm : m < 5 ^ w) (hn : n < 5 ^ w) : ∀ t, t ≤ w → (∀ j, j < t → m / 5 ^ (w - 1 - j) % 5 = n / 5 ^ (w - 1 - j) % 5) → m / 5 ^ (w - t) = n / 5 ^ (w - t)
  | 0, _, _ => by rw [Nat.sub_zero, Nat.div_eq_of_lt hm, Nat.div_eq_of_lt hn]
  | t + 1, ht, h => by
    have ih := g_pre hm hn t (by omega) (fun j hj => h j (by omega))
    have h1 := h t (by omega)
    rw [g_up1 (m := m), g_up1 (m := n)]
    rw [show w - (t + 1) + 1 = w - t by omega, ih, show w - (t + 1) = w - 1 - t by omega, h1]
/-- the count with the least row's first t digits and l is 0 just if l is below its digit -/
theorem g_greedy {k w t l : Nat} {ok : Nat → Nat → Bool} (ht : t < w) (hl : l < 5) (hm : g_ft (g_fc k g_any ok w 0 0) (5 ^ w) < 5 ^ w) (hle : l ≤ g_ft (g_fc k g_any ok w 0 0) (5 ^ w) / 5 ^ (w - 1 - t) % 5) : g_ct (g_fc k (fun j => if j = t then l else g_pf w (g_ft (g_fc k g_any ok w 0 0) (5 ^ w)) t j) ok w 0 0) (5 ^ w) = 0 ↔ l < g_ft (g_fc k g_any ok w 0 0) (5 ^ w) / 5 ^ (w - 1 - t) % 5 := by
  have hy := g_ft_yes _ hm
  have hno := g_ft_no (g_fc k g_any ok w 0 0) (5 ^ w)
  generalize g_ft (g_fc k g_any ok w 0 0) (5 ^ w) = M at hm hle hy hno ⊢
  constructor
  · intro h
    by_cases c : l = M / 5 ^ (w - 1 - t) % 5
    · exfalso
      have : 0 < g_ct (g_fc k (fun j => if j = t then l else g_pf w M t j) ok w 0 0) (5 ^ w) := by
        rw [g_ct_pos]
        refine ⟨M, hm, (g_fc_iff k _ ok w 0 0).mpr ⟨hy, fun j hj => ?_⟩⟩
        simp only [Nat.zero_add]
        by_cases cj : j = t
        · rw [if_pos cj, cj]; exact Or.inr c
        · rw [if_neg cj]
          unfold g_pf
          by_cases ct : j < t
          · rw [if_pos ct]; exact Or.inr rfl
          · rw [if_neg ct]; exact Or.inl rfl
      omega
    · omega
  · intro h
    refine g_ct_0 (fun m hm2 => ?_)
    cases hq : g_fc k (fun j => if j = t then l else g_pf w M t j) ok w 0 0 m with
    | false => rfl
    | true =>
      exfalso
      obtain ⟨f1, f2⟩ := (g_fc_iff k _ ok w 0 0).mp hq
      simp only [Nat.zero_add] at f2
      have d1 : ∀ j, j < t → m / 5 ^ (w - 1 - j) % 5 = M / 5 ^ (w - 1 - j) % 5 := fun j hj => by
        have := f2 j (by omega)
        rw [if_neg (by omega)] at this
        unfold g_pf at this
        rw [if_pos hj] at this
        have := Nat.mod_lt (M / 5 ^ (w - 1 - j)) (show 0 < 5 by omega)
        omega
      have d2 : m / 5 ^ (w - 1 - t) % 5 = l := by
        have := f2 t ht
        rw [if_pos rfl] at this
        omega
      have p1 := g_pre hm2 hm t (by omega) d1
      have u1 := g_up1 (m := m) (a := w - 1 - t)
      have u2 := g_up1 (m := M) (a := w - 1 - t)
      rw [show w - 1 - t + 1 = w - t by omega] at u1 u2
      have lt : m / 5 ^ (w - 1 - t) < M / 5 ^ (w - 1 - t) := by omega
      have lt2 : m < M := by
        by_cases z : M ≤ m
        · have := Nat.div_le_div_right (c := 5 ^ (w - 1 - t)) z
          omega
        · omega
      have := hno m lt2
      rw [this] at f1
      cases f1
/-- a season lay in a week by all rows -/
theorem g_only {k w t l : Nat} {ok : Nat → Nat → Bool} (ht : t < w) (hl : l < 5) : g_ct (g_fc k (fun j => if j = t then l else 5) ok w 0 0) (5 ^ w) = g_ct (g_fc k g_any ok w 0 0) (5 ^ w) ↔ ∀ m, m < 5 ^ w → g_fc k g_any ok w 0 0 m = true → m / 5 ^ (w - 1 - t) % 5 = l := by
  rw [g_ct_same (fun m h => ((g_fc_iff k _ ok w 0 0).mp h).1)]
  constructor
  · intro h m hm hf
    have := ((g_fc_iff k _ ok w 0 0).mp (h m hm hf)).2 t ht
    simp only [Nat.zero_add, if_true] at this
    omega
  · intro h m hm hf
    refine (g_fc_iff k _ ok w 0 0).mpr ⟨hf, fun j hj => ?_⟩
    simp only [Nat.zero_add]
    by_cases c : j = t
    · rw [if_pos c, c, h m hm hf]; exact Or.inr rfl
    · rw [if_neg c]; exact Or.inl rfl
/-- the seasons that lay in a week by some row, bits -/
def g_so (q : Nat → Bool) (d : Nat → Nat) : Nat → Nat
  | 0 => 0
  | n + 1 => g_so q d n ||| (if q n = true then 2 ^ d n else 0)
theorem g_so_t (q : Nat → Bool) (d : Nat → Nat) (s : Nat) : ∀ n, (g_so q d n).testBit s = true ↔ ∃ m, m < n ∧ q m = true ∧ d m = s
  | 0 => ⟨fun h => by simp [g_so] at h, fun ⟨m, hm, _⟩ => absurd hm (by omega)⟩
  | n + 1 => by
    rw [g_so, Nat.testBit_or, Bool.or_eq_true, g_so_t q d s n]
    constructor
    · rintro (⟨m, h1, h2⟩ | h)
      · exact ⟨m, by omega, h2⟩
      · by_cases c : q n = true
        · rw [if_pos c, Nat.testBit_two_pow, decide_eq_true_iff] at h
          exact ⟨n, by omega, c, h⟩
        · rw [if_neg c, Nat.zero_testBit] at h
          cases h
    · rintro ⟨m, h1, h2, h3⟩
      by_cases c : m = n
      · subst c
        right
        rw [if_pos h2, Nat.testBit_two_pow, decide_eq_true_iff]
        exact h3
      · exact Or.inl ⟨m, by omega, h2, h3⟩
theorem g_so_lt (q : Nat → Bool) (d : Nat → Nat) (hd : ∀ m, d m < 5) : ∀ n, g_so q d n < 2 ^ 5
  | 0 => by simp [g_so]
  | n + 1 => by
    rw [g_so]
    refine Nat.or_lt_two_pow (g_so_lt q d hd n) ?_
    split
    · exact Nat.pow_lt_pow_right (by omega) (hd n)
    · omega
theorem g_so_is {q : Nat → Bool} {d : Nat → Nat} {n s : Nat} : g_so q d n = 2 ^ s ↔ (0 < g_ct q n ∧ ∀ m, m < n → q m = true → d m = s) := by
  constructor
  · intro h
    have hs : (g_so q d n).testBit s = true := by rw [h, Nat.testBit_two_pow]; simp
    obtain ⟨m, h1, h2, h3⟩ := (g_so_t q d s n).mp hs
    refine ⟨g_ct_pos.mpr ⟨m, h1, h2⟩, fun m' h1' h2' => ?_⟩
    have := (g_so_t q d (d m') n).mpr ⟨m', h1', h2', rfl⟩
    rw [h, Nat.testBit_two_pow, decide_eq_true_iff] at this
    exact this.symm
  · rintro ⟨h1, h2⟩
    obtain ⟨m, m1, m2⟩ := g_ct_pos.mp h1
    refine Nat.eq_of_testBit_eq (fun i => ?_)
    rw [Nat.testBit_two_pow]
    by_cases c : s = i
    · rw [decide_eq_true c]
      exact (g_so_t q d i n).mpr ⟨m, m1, m2, by rw [h2 m m1 m2, c]⟩
    · rw [decide_eq_false c]
      cases hb : (g_so q d n).testBit i with
      | false => rfl
      | true =>
        obtain ⟨m', x1, x2, x3⟩ := (g_so_t q d i n).mp hb
        exact absurd (by rw [← h2 m' x1 x2, x3]) c
