/-! the count of bits -/
theorem g_ct_add (q : Nat → Bool) (m : Nat) : ∀ n, g_ct q (m + n) = g_ct q m + g_ct (fun k => q (m + k)) n
  | 0 => rfl
  | n + 1 => by
    show g_ct q (m + n + 1) = _
    rw [g_ct, g_ct, g_ct_add q m n]
    omega
theorem hg_as {a m : Nat} (b mh : Nat) (ha : a < 256) (hm : m < 256) : (a + 256 * b) &&& (m + 256 * mh) = (a &&& m) + 256 * (b &&& mh) := by
  have h1 : ((a + 256 * b) &&& (m + 256 * mh)) % 2 ^ 8 = a &&& m := by
    rw [Nat.and_mod_two_pow, show (a + 256 * b) % 2 ^ 8 = a by omega, show (m + 256 * mh) % 2 ^ 8 = m by omega]
  have h2 : ((a + 256 * b) &&& (m + 256 * mh)) / 2 ^ 8 = b &&& mh := by
    rw [Nat.and_div_two_pow, show (a + 256 * b) / 2 ^ 8 = b by omega, show (m + 256 * mh) / 2 ^ 8 = mh by omega]
  omega
def g_b1 (x : Nat) : Nat := x - (x / 2 &&& 85)
def g_b2 (y : Nat) : Nat := (y &&& 51) + (y / 4 &&& 51)
theorem g_bA : ∀ x, x < 256 → ∀ r, r < 2 → (x / 2 + 128 * r) &&& 85 = x / 2 &&& 85 := by decide +kernel
theorem g_bB : ∀ x, x < 256 → x / 2 &&& 85 ≤ x := by decide +kernel
theorem g_bC : ∀ y, y < 256 → ∀ r, r < 4 → (y / 4 + 64 * r) &&& 51 = y / 4 &&& 51 := by decide +kernel
theorem g_bD : ∀ x, x < 256 → g_b2 (g_b1 x) ≤ 68 ∧ g_b2 (g_b1 x) % 16 ≤ 4 ∧ (g_b2 (g_b1 x) + g_b2 (g_b1 x) / 16) % 16 = g_ct (fun i => x.testBit i) 8 := by decide +kernel
theorem g_ct_le (q : Nat → Bool) : ∀ n, g_ct q n ≤ n
  | 0 => Nat.le_refl 0
  | n + 1 => by
    have := g_ct_le q n
    rw [g_ct]
    split <;> omega
theorem g_ct_8 {x : Nat} (y n : Nat) (hx : x < 256) : g_ct (fun i => (x + 256 * y).testBit i) (8 + n) = g_ct (fun i => x.testBit i) 8 + g_ct (fun i => y.testBit i) n := by
  have e : ∀ i, (x + 256 * y).testBit i = if i < 8 then x.testBit i else y.testBit (i - 8) := by
    intro i
    rw [Nat.add_comm, show 256 * y = 2 ^ 8 * y from rfl, Nat.testBit_two_pow_mul_add y (by omega)]
  rw [g_ct_add]
  congr 1
  · apply g_ct_cong
    intro k hk
    show (x + 256 * y).testBit k = _
    rw [e, if_pos hk]
  · apply g_ct_cong
    intro k hk
    show (x + 256 * y).testBit (8 + k) = _
    rw [e, if_neg (by omega), show 8 + k - 8 = k by omega]
theorem hg_or2 (m k : Nat) : (nI m) + (nI k) = nI (m + k) := nI_add m k
theorem hg_us {n : Nat} (k : Nat) (hn : n < 2 ^ 32) (hk : k < 32) : ((nI n).toUInt32 >>> ((nI k).toUInt32 &&& Int32.toUInt32 31)).toInt32 = nI (n / 2 ^ k) := pk_ushrN hn (nI k) k (z_tw k hk)
theorem hg_q1 {x0 x1 x2 x3 : Nat} (h0 : x0 < 256) (h1 : x1 < 256) (h2 : x2 < 256) : (x0 + 256 * (x1 + 256 * (x2 + 256 * x3))) / 2 = (x0 / 2 + 128 * (x1 % 2)) + 256 * ((x1 / 2 + 128 * (x2 % 2)) + 256 * ((x2 / 2 + 128 * (x3 % 2)) + 256 * (x3 / 2))) := by omega
theorem hg_q2 {x0 x1 x2 x3 : Nat} (h0 : x0 < 256) (h1 : x1 < 256) (h2 : x2 < 256) : (x0 + 256 * (x1 + 256 * (x2 + 256 * x3))) / 4 = (x0 / 4 + 64 * (x1 % 4)) + 256 * ((x1 / 4 + 64 * (x2 % 4)) + 256 * ((x2 / 4 + 64 * (x3 % 4)) + 256 * (x3 / 4))) := by omega
theorem hg_q3 {x0 x1 x2 x3 : Nat} (h0 : x0 < 256) (h1 : x1 < 256) (h2 : x2 < 256) : (x0 + 256 * (x1 + 256 * (x2 + 256 * x3))) / 16 = (x0 / 16 + 16 * (x1 % 16)) + 256 * ((x1 / 16 + 16 * (x2 % 16)) + 256 * ((x2 / 16 + 16 * (x3 % 16)) + 256 * (x3 / 16))) := by omega
theorem hg_as4 {a0 a1 a2 a3 m : Nat} (h0 : a0 < 256) (h1 : a1 < 256) (h2 : a2 < 256) (hm : m < 256) : (a0 + 256 * (a1 + 256 * (a2 + 256 * a3))) &&& (m + 256 * (m + 256 * (m + 256 * m))) = (a0 &&& m) + 256 * ((a1 &&& m) + 256 * ((a2 &&& m) + 256 * (a3 &&& m))) := by
  rw [hg_as _ _ h0 hm, hg_as _ _ h1 hm, hg_as _ _ h2 hm]
def g_4 (a b c d : Nat) : Nat := a + 256 * (b + 256 * (c + 256 * d))
theorem g_4_lt {a b c d : Nat} (h0 : a < 256) (h1 : b < 256) (h2 : c < 256) (h3 : d < 256) : g_4 a b c d < 2 ^ 32 := by
  unfold g_4
  omega
theorem hg_s1 {x0 x1 x2 x3 : Nat} (h0 : x0 < 256) (h1 : x1 < 256) (h2 : x2 < 256) (h3 : x3 < 256) : g_4 x0 x1 x2 x3 / 2 &&& 1431655765 = g_4 (x0 / 2 &&& 85) (x1 / 2 &&& 85) (x2 / 2 &&& 85) (x3 / 2 &&& 85) := by
  unfold g_4
  rw [hg_q1 h0 h1 h2, show 1431655765 = 85 + 256 * (85 + 256 * (85 + 256 * 85)) by decide, hg_as4 (by omega) (by omega) (by omega) (by omega), g_bA x0 h0 _ (by omega), g_bA x1 h1 _ (by omega), g_bA x2 h2 _ (by omega)]
theorem hg_s2 {x0 x1 x2 x3 : Nat} (h0 : x0 < 256) (h1 : x1 < 256) (h2 : x2 < 256) (h3 : x3 < 256) : g_4 x0 x1 x2 x3 / 4 &&& 858993459 = g_4 (x0 / 4 &&& 51) (x1 / 4 &&& 51) (x2 / 4 &&& 51) (x3 / 4 &&& 51) := by
  unfold g_4
  rw [hg_q2 h0 h1 h2, show 858993459 = 51 + 256 * (51 + 256 * (51 + 256 * 51)) by decide, hg_as4 (by omega) (by omega) (by omega) (by omega), g_bC x0 h0 _ (by omega), g_bC x1 h1 _ (by omega), g_bC x2 h2 _ (by omega)]
theorem hg_s3 {x0 x1 x2 x3 : Nat} (h0 : x0 < 256) (h1 : x1 < 256) (h2 : x2 < 256) : g_4 x0 x1 x2 x3 &&& 858993459 = g_4 (x0 &&& 51) (x1 &&& 51) (x2 &&& 51) (x3 &&& 51) := by
  unfold g_4
  rw [show 858993459 = 51 + 256 * (51 + 256 * (51 + 256 * 51)) by decide, hg_as4 h0 h1 h2 (by omega)]
theorem hg_s4 {x0 x1 x2 x3 : Nat} (h0 : x0 < 256) (h1 : x1 < 256) (h2 : x2 < 256) : g_4 x0 x1 x2 x3 &&& 252645135 = g_4 (x0 % 16) (x1 % 16) (x2 % 16) (x3 % 16) := by
  unfold g_4
  have m2 : ∀ z, z &&& 15 = z % 16 := fun z => Nat.and_two_pow_sub_one_eq_mod z 4
  rw [show 252645135 = 15 + 256 * (15 + 256 * (15 + 256 * 15)) by decide, hg_as4 h0 h1 h2 (by omega), m2, m2, m2, m2]
theorem hg_s5 {a b c d a' b' c' d' : Nat} : g_4 a b c d + g_4 a' b' c' d' = g_4 (a + a') (b + b') (c + c') (d + d') := by
  unfold g_4
  omega
theorem hg_s6 {x0 x1 x2 x3 : Nat} (h0 : x0 < 256) (h1 : x1 < 256) (h2 : x2 < 256) : g_4 x0 x1 x2 x3 + g_4 x0 x1 x2 x3 / 16 = g_4 (x0 + x0 / 16 + 16 * (x1 % 16)) (x1 + x1 / 16 + 16 * (x2 % 16)) (x2 + x2 / 16 + 16 * (x3 % 16)) (x3 + x3 / 16) := by
  unfold g_4
  rw [hg_q3 h0 h1 h2]
  omega
theorem hg_s7 {a b c d : Nat} (h0 : a ≤ 8) (h1 : b ≤ 8) (h2 : c ≤ 8) (h3 : d ≤ 8) : g_4 a b c d / 256 = b + 256 * (c + 256 * d) := by
  unfold g_4
  omega
theorem hg_s8 {a b c d : Nat} (h0 : a ≤ 8) (h1 : b ≤ 8) (h2 : c ≤ 8) (h3 : d ≤ 8) : g_4 a b c d + g_4 a b c d / 256 = g_4 (a + b) (b + c) (c + d) d := by
  rw [hg_s7 h0 h1 h2 h3]
  unfold g_4
  omega
theorem hg_s9 {a b c d : Nat} (h0 : a ≤ 16) (h1 : b ≤ 16) (h2 : c ≤ 16) (h3 : d ≤ 16) : g_4 a b c d / 65536 = c + 256 * d := by
  unfold g_4
  omega
theorem hg_sA {a b c d e f : Nat} (h : a + e < 64) : (g_4 a b c d + (e + 256 * f)) % 64 = a + e := by
  unfold g_4
  omega
theorem hg_sB {x0 x1 x2 x3 : Nat} (a0 : x0 / 2 &&& 85 ≤ x0) (a1 : x1 / 2 &&& 85 ≤ x1) (a2 : x2 / 2 &&& 85 ≤ x2) (a3 : x3 / 2 &&& 85 ≤ x3) : g_4 (x0 / 2 &&& 85) (x1 / 2 &&& 85) (x2 / 2 &&& 85) (x3 / 2 &&& 85) ≤ g_4 x0 x1 x2 x3 ∧ g_4 x0 x1 x2 x3 - g_4 (x0 / 2 &&& 85) (x1 / 2 &&& 85) (x2 / 2 &&& 85) (x3 / 2 &&& 85) = g_4 (g_b1 x0) (g_b1 x1) (g_b1 x2) (g_b1 x3) := by
  unfold g_4 g_b1
  omega
theorem hg_sC {x0 x1 x2 x3 : Nat} (h0 : x0 < 256) (h1 : x1 < 256) (h2 : x2 < 256) : g_ct (fun i => (g_4 x0 x1 x2 x3).testBit i) 32 = g_ct (fun i => x0.testBit i) 8 + (g_ct (fun i => x1.testBit i) 8 + (g_ct (fun i => x2.testBit i) 8 + g_ct (fun i => x3.testBit i) 8)) := by
  unfold g_4
  rw [show 32 = 8 + (8 + (8 + 8)) from rfl, g_ct_8 _ _ h0, g_ct_8 _ _ h1, g_ct_8 _ _ h2]
theorem hg_sD {x : Nat} : g_b1 x ≤ x := Nat.sub_le _ _
theorem y_bitCount {v : Nat} (hv : v < 2 ^ 32) (σ : zS) : f_JI_bitCount (nI v) σ = some (nI (g_ct (fun i => v.testBit i) 32)) := by
  obtain ⟨x0, x1, x2, x3, h0, h1, h2, h3, hx⟩ : ∃ x0 x1 x2 x3, x0 < 256 ∧ x1 < 256 ∧ x2 < 256 ∧ x3 < 256 ∧ v = g_4 x0 x1 x2 x3 := ⟨v % 256, v / 256 % 256, v / 65536 % 256, v / 16777216, by omega, by omega, by omega, by omega, by unfold g_4; omega⟩
  obtain ⟨p1, p2⟩ := hg_sB (g_bB x0 h0) (g_bB x1 h1) (g_bB x2 h2) (g_bB x3 h3)
  have y0 : g_b1 x0 < 256 := Nat.lt_of_le_of_lt hg_sD h0
  have y1 : g_b1 x1 < 256 := Nat.lt_of_le_of_lt hg_sD h1
  have y2 : g_b1 x2 < 256 := Nat.lt_of_le_of_lt hg_sD h2
  have y3 : g_b1 x3 < 256 := Nat.lt_of_le_of_lt hg_sD h3
  obtain ⟨b0, d0, c0⟩ := g_bD x0 h0
  obtain ⟨b1, d1, c1⟩ := g_bD x1 h1
  obtain ⟨b2, d2, c2⟩ := g_bD x2 h2
  obtain ⟨b3, d3, c3⟩ := g_bD x3 h3
  have l0 := g_ct_le (fun i => x0.testBit i) 8
  have l1 := g_ct_le (fun i => x1.testBit i) 8
  have l2 := g_ct_le (fun i => x2.testBit i) 8
  have l3 := g_ct_le (fun i => x3.testBit i) 8
  have q := hg_sC (x3 := x3) h0 h1 h2
  have l32 := g_4_lt y0 y1 y2 y3
  unfold f_JI_bitCount
  simp only [z_let]
  rw [show (1 : Int32) = nI 1 from rfl, show (2 : Int32) = nI 2 from rfl, show (4 : Int32) = nI 4 from rfl, show (8 : Int32) = nI 8 from rfl, show (16 : Int32) = nI 16 from rfl, show (1431655765 : Int32) = nI 1431655765 from rfl, show (858993459 : Int32) = nI 858993459 from rfl, show (252645135 : Int32) = nI 252645135 from rfl, show (63 : Int32) = nI 63 from rfl]
  rw [hg_us 1 hv (by decide), Nat.pow_one, hx, z_and, hg_s1 h0 h1 h2 h3, pk_sub p1, p2, hg_us 2 l32 (by decide), show 2 ^ 2 = 4 from rfl, z_and, z_and, hg_s3 y0 y1 y2, hg_s2 y0 y1 y2 y3, nI_add, hg_s5]
  have k : ∀ x, (g_b1 x &&& 51) + (g_b1 x / 4 &&& 51) = g_b2 (g_b1 x) := fun _ => rfl
  rw [k, k, k, k]
  have l33 := g_4_lt (show g_b2 (g_b1 x0) < 256 by omega) (show g_b2 (g_b1 x1) < 256 by omega) (show g_b2 (g_b1 x2) < 256 by omega) (show g_b2 (g_b1 x3) < 256 by omega)
  rw [hg_us 4 l33 (by decide), show 2 ^ 4 = 16 from rfl, nI_add, hg_s6 (by omega) (by omega) (by omega), z_and, hg_s4 (by omega) (by omega) (by omega)]
  have r : ∀ a b : Nat, (a + 16 * b) % 16 = a % 16 := fun a b => by omega
  rw [r, r, r, c0, c1, c2, c3, q]
  clear q c0 c1 c2 c3 r k p1 p2 l33 l32 d0 d1 d2 d3 b0 b1 b2 b3
  generalize g_ct (fun i => x0.testBit i) 8 = w0 at *
  generalize g_ct (fun i => x1.testBit i) 8 = w1 at *
  generalize g_ct (fun i => x2.testBit i) 8 = w2 at *
  generalize g_ct (fun i => x3.testBit i) 8 = w3 at *
  have l34 := g_4_lt (show w0 < 256 by omega) (show w1 < 256 by omega) (show w2 < 256 by omega) (show w3 < 256 by omega)
  have l35 := g_4_lt (show w0 + w1 < 256 by omega) (show w1 + w2 < 256 by omega) (show w2 + w3 < 256 by omega) (show w3 < 256 by omega)
  rw [hg_us 8 l34 (by decide), show 2 ^ 8 = 256 from rfl, nI_add, hg_s8 l0 l1 l2 l3, hg_us 16 l35 (by decide), show 2 ^ 16 = 65536 from rfl, nI_add, hg_s9 (by omega) (by omega) (by omega) (by omega), z_and, show (63 : Nat) = 2 ^ 6 - 1 from rfl, Nat.and_two_pow_sub_one_eq_mod, show 2 ^ 6 = 64 from rfl, hg_sA (by omega)]
  congr 2
  omega
