/-! layings read off a sheet -/
/-- the garden when i layings have come -/
def ge_rp (W H : Nat) (V : Nat → Int32) (f : Nat) (p : Nat → Nat) : Nat → Nat → Nat
  | 0 => p
  | i + 1 => (g_buy W H (ge_rp W H V f p i) (V (f + 3 * i)) (V (f + 3 * i + 1)) (V (f + 3 * i + 2))).2
/-- what the i-th laying answers -/
def ge_ra (W H : Nat) (V : Nat → Int32) (f : Nat) (p : Nat → Nat) (i : Nat) : Int32 := (g_buy W H (ge_rp W H V f p i) (V (f + 3 * i)) (V (f + 3 * i + 1)) (V (f + 3 * i + 2))).1
/-- three cells of the sheet are there -/
def ge_r3 (a : Int32) (n i : Nat) : Bool := decide (0 ≤ a.toInt + 3 * (i : Int)) && decide (a.toInt + 3 * (i : Int) ≤ (n : Int) - 3)
def ge_rs (W H : Nat) (V : Nat → Int32) (a : Int32) (n : Nat) (p : Nat → Nat) (i : Nat) : Bool := !ge_r3 a n i || !decide ((0 : Int32) ≤ ge_ra W H V a.toNatClampNeg p i)
theorem ge_rp_V {W H R : Nat} {V : Nat → Int32} {f : Nat} {p : Nat → Nat} (hD : hg_D W H R) (hV : hg_V p R) : ∀ i, hg_V (ge_rp W H V f p i) R
  | 0 => hV
  | i + 1 => g_buy_V hD (ge_rp_V hD hV i) _ _ _
theorem ge_rp_B {W H R : Nat} {V : Nat → Int32} {f : Nat} {p : Nat → Nat} (hD : hg_D W H R) (hB : hg_B p) : ∀ i, hg_B (ge_rp W H V f p i)
  | 0 => hB
  | i + 1 => g_buy_B hD (ge_rp_B hD hB i) _ _ _
theorem ge_r3_iff {a : Int32} {n i : Nat} : ge_r3 a n i = true ↔ (0 ≤ a.toInt + 3 * (i : Int) ∧ a.toInt + 3 * (i : Int) ≤ (n : Int) - 3) := by
  unfold ge_r3
  rw [Bool.and_eq_true, decide_eq_true_iff, decide_eq_true_iff]
theorem ge_rs_f {W H : Nat} {V : Nat → Int32} {a : Int32} {n : Nat} {p : Nat → Nat} {i : Nat} : ge_rs W H V a n p i = false ↔ (ge_r3 a n i = true ∧ (0 : Int32) ≤ ge_ra W H V a.toNatClampNeg p i) := by
  unfold ge_rs
  cases h : ge_r3 a n i with
  | false => exact ⟨fun z => (by cases z), fun z => (by cases z.1)⟩
  | true =>
    rw [Bool.not_true, Bool.false_or, Bool.not_eq_false', decide_eq_true_iff]
    exact ⟨fun z => ⟨rfl, z⟩, fun z => z.2⟩
/-- from the first three on the place is a number -/
theorem ge_ra_f {W H : Nat} {V : Nat → Int32} {a : Int32} {n : Nat} {p : Nat → Nat} {i : Nat} (hn : n ≤ 40) (h3 : ge_r3 a n i = true) (hp : ∀ j, j < i → ge_rs W H V a n p j = false) : ∃ f, a = nI f ∧ f + 3 * i + 3 ≤ n ∧ a.toNatClampNeg = f := by
  rw [ge_r3_iff] at h3
  have h0 : 0 ≤ a.toInt := by
    by_cases c : i = 0
    · subst c; omega
    · have := ge_r3_iff.mp (ge_rs_f.mp (hp 0 (by omega))).1
      omega
  obtain ⟨f, hf, rfl⟩ := nI_of (show ¬ a < 0 from fun q => by rw [Int32.lt_iff_toInt_lt] at q; exact absurd q (by show ¬ a.toInt < 0; omega))
  rw [nI_toInt hf] at h3
  exact ⟨f, rfl, by omega, nI_clamp hf⟩
/-- how it ends: refused, or so many came and a fault -/
def ge_rQ (W H R : Nat) (V : Nat → Int32) (a : Int32) (n N : Nat) (p : Nat → Nat) (σ : zS) (g : Int32 × zS) : Prop := (∃ s, s < N ∧ g_ft (ge_rs W H V a n p) N = s ∧ ge_r3 a n s = true ∧ g.1 = -20 - nI s ∧ ∀ k, (k < 17 ∨ 32 < k) → g.2 k = σ k) ∨ (∃ s, g_ft (ge_rs W H V a n p) N = s ∧ (s < N → ge_r3 a n s = false) ∧ g.1 = nI s ∧ hg_G1 g.2 (ge_rp W H V a.toNatClampNeg p s) W H R ∧ g.2 0 10 = nI (if s < N then 2 else 0) ∧ (∀ j, j ≠ 10 → g.2 0 j = σ 0 j) ∧ ∀ k, k ≠ 0 → (k < 1 ∨ 32 < k) → g.2 k = σ k)
def ge_rW (W H R : Nat) (V : Nat → Int32) (a : Int32) (n N : Nat) (p : Nat → Nat) (σ : zS) (g : Int32 × zS) : Prop := (∃ s, s < N ∧ g_ft (ge_rs W H V a n p) N = s ∧ ge_r3 a n s = true ∧ g.1 = -20 - nI s ∧ (∀ k, k ≠ 91 → g.2 k = σ k) ∧ hg_Q g.2 0 p ∧ ∀ j, 110 ≤ j → j < 330 → g.2 91 j = σ 91 j) ∨ (∃ s, g_ft (ge_rs W H V a n p) N = s ∧ (s < N → ge_r3 a n s = false) ∧ g.1 = nI s ∧ hg_Q g.2 0 (ge_rp W H V a.toNatClampNeg p s) ∧ g.2 90 31 = nI (if s < N then 2 else 0) ∧ (∀ j, j ≠ 31 → g.2 90 j = σ 90 j) ∧ (∀ k, k ≠ 90 → k ≠ 91 → g.2 k = σ k) ∧ ∀ j, 110 ≤ j → j < 330 → g.2 91 j = σ 91 j)
theorem hg_ladd (x : Int32) {i : Nat} (hi : i < 2 ^ 31) : (x.toInt64 + (nI i).toInt64).toInt = x.toInt + i := by
  rw [Int64.toInt_add, Int32.toInt_toInt64, Int32.toInt_toInt64, nI_toInt hi]
  have h1 := Int32.le_toInt x
  have h2 := Int32.toInt_lt x
  rw [show ∀ (y : Int) (m : Nat), y.bmod m = if y % m < (m + 1) / 2 then y % m else y % m - m from fun _ _ => rfl]
  split <;> omega
section RD
variable {σ : zS} {p : Nat → Nat} {W H R : Nat} {V : Nat → Int32}
theorem yy_rloop_0 (hD : hg_D W H R) (hV : hg_V p R) (hG : hg_G1 σ p W H R) {n N : Nat} (hn : n ≤ 40) (hN : N ≤ 13) (h2 : σ 82 2 = nI n) (hv : ∀ i, i < 40 → σ 83 i = V i) (a : Int32) : ∃ g, ((f_G_copyFrom_17_1 σ).bind fun r8 =>
              (z_loop (S := Int32 × Int32 × Int32 × zS) (β := (Int32 × Int32 × zS) ⊕ (Int32 × zS)) (fun s9 =>
                  if nI N ≤ s9.2.2.1 then
                    some (.inr (.inl (s9.1, s9.2.1, s9.2.2.2)))
                  else
                    if s9.1 = 0 then
                      z_let (a + ((3 : Int32) * s9.2.2.1)) fun v12 =>
                      (f_Sh_hasThree_82 v12 s9.2.2.2).bind fun r13 =>
                      z_join (T := Int32 × Int32 × zS) (fun t14 =>
                          some (.inl (t14.1, t14.2.1, (s9.2.2.1 + (1 : Int32)), t14.2.2))
                        ) (fun j14 =>
                          if r13 = 0 then
                            j14 ((2 : Int32), s9.2.1, s9.2.2.2)
                          else
                            if z_ib v12 40 = true then
                            if z_ib (v12 + (1 : Int32)) 40 = true then
                            if z_ib (v12 + (2 : Int32)) 40 = true then
                            (f_G_buyAndSet_17 (s9.2.2.2 83 v12.toNatClampNeg) (s9.2.2.2 83 (v12 + (1 : Int32)).toNatClampNeg) (s9.2.2.2 83 (v12 + (2 : Int32)).toNatClampNeg) s9.2.2.2).bind fun r19 =>
                            if 0 ≤ r19.1 then
                              j14 (s9.1, (s9.2.1 + (1 : Int32)), r19.2)
                            else
                              some (.inr (.inr (((-20 : Int32) - s9.2.2.1), r19.2)))
                            else none
                            else none
                            else none
                        )
                    else
                      some (.inr (.inl (s9.1, s9.2.1, s9.2.2.2)))
                ) ((0 : Int32), (0 : Int32), (0 : Int32), r8)).bind (fun bb => match bb with
                | .inl b9 =>
                  (f_G_copyFrom_1_17 b9.2.2).bind fun r21 =>
                  z_let (z_u r21 0 10 b9.1) fun τ22 =>
                  some (b9.2.1, τ22)
                | .inr g => some g)) = some g ∧ ge_rQ W H R V a n N p σ g := by
  have hR := hD.2.2.2.2
  obtain ⟨τ0, t1, t2, t3⟩ := yy_copy_17_1 hR hG
  rw [t1, z_bs]
  have fin : ∀ (x : Int32 × Int32 × Int32 × zS) (s : Nat), hg_G17 x.2.2.2 (ge_rp W H V a.toNatClampNeg p s) W H R → (∀ k, (k < 17 ∨ 32 < k) → x.2.2.2 k = σ k) → x.1 = nI (if s < N then 2 else 0) → x.2.1 = nI s → g_ft (ge_rs W H V a n p) N = s → (s < N → ge_r3 a n s = false) → ∃ g, ((f_G_copyFrom_1_17 x.2.2.2).bind fun r21 => z_let (z_u r21 0 10 x.1) fun τ22 => some (x.2.1, τ22)) = some g ∧ ge_rQ W H R V a n N p σ g := by
    intro x s f1 f2 f3 f4 f5 f6
    obtain ⟨τ, u1, u2, u3⟩ := yy_copy_1_17 hR f1
    rw [u1, z_bs, z_let_e]
    refine ⟨_, rfl, Or.inr ⟨s, f5, f6, f4, ?_, ?_, fun j hj => ?_, fun k k1 k2 => ?_⟩⟩
    · exact hg_G1_c u2 (fun k k1 k2 => hg_u_n (by omega))
    · dsimp only
      rw [hg_u_s, f3]
    · dsimp only
      rw [hg_u_j hj, u3 0 (by omega), f2 0 (by omega)]
    · dsimp only
      rw [hg_u_n k1, u3 k (by omega), f2 k (by omega)]
  refine z_lp (fun i (x : Int32 × Int32 × Int32 × zS) => (x.1 = nI 0 ∧ x.2.1 = nI i ∧ x.2.2.1 = nI i ∧ hg_G17 x.2.2.2 (ge_rp W H V a.toNatClampNeg p i) W H R ∧ (∀ k, (k < 17 ∨ 32 < k) → x.2.2.2 k = σ k) ∧ ∀ j, j < i → ge_rs W H V a n p j = false) ∨ (∃ s, i = s + 1 ∧ s < N ∧ x.1 = nI 2 ∧ x.2.1 = nI s ∧ x.2.2.1 = nI i ∧ hg_G17 x.2.2.2 (ge_rp W H V a.toNatClampNeg p s) W H R ∧ (∀ k, (k < 17 ∨ 32 < k) → x.2.2.2 k = σ k) ∧ ge_r3 a n s = false ∧ g_ft (ge_rs W H V a n p) N = s)) N ?_ ?_ ?_
  · exact Or.inl ⟨rfl, rfl, rfl, t2, fun k hk => t3 k (by omega), fun j hj => absurd hj (by omega)⟩
  · intro i x hi hP
    rcases hP with ⟨e1, e2, e3, e4, e5, e6⟩ | ⟨s, e0, es, e1, e2, e3, e4, e5, e6, e7⟩
    · have hat : (a + nI (3 * i)).toInt = a.toInt + 3 * (i : Int) := by
        by_cases c : i = 0
        · subst c
          rw [show a + nI (3 * 0) = a from by rw [Nat.mul_zero, nI_0]; exact Int32.add_zero a]
          omega
        · have h0 := (ge_rs_f.mp (e6 0 (by omega))).1
          obtain ⟨f, hf1, hf2, hf3⟩ := ge_ra_f (i := 0) hn h0 (fun j hj => e6 j (by omega))
          subst hf1
          rw [nI_add, nI_toInt (by omega), nI_toInt (by omega)]
          omega
      rw [e1, e2, e3, if_neg (nI_ge hi (by omega)), if_pos (show nI 0 = 0 from rfl), nl3, pk_mul, z_let_e, y_three_82 hn (by rw [e5 82 (by omega)]; exact h2), z_bs, hat]
      simp only [z_join]
      cases h3 : ge_r3 a n i with
      | false =>
        have hst : ge_rs W H V a n p i = true := by
          cases z : ge_rs W H V a n p i with
          | true => rfl
          | false => rw [(ge_rs_f.mp z).1] at h3; cases h3
        rw [if_neg (show ¬ (0 ≤ a.toInt + 3 * (i : Int) ∧ a.toInt + 3 * (i : Int) ≤ (n : Int) - 3) from fun z => by rw [ge_r3_iff.mpr z] at h3; cases h3), if_pos (show nI 0 = 0 from rfl)]
        left
        exact ⟨_, rfl, Or.inr ⟨i, rfl, hi, rfl, rfl, nI_1 i, e4, e5, h3, g_ft_is _ N i (by omega) e6 (fun _ => hst)⟩⟩
      | true =>
        obtain ⟨f, hf1, hf2, hf3⟩ := ge_ra_f hn h3 e6
        subst hf1
        rw [hf3] at e4
        obtain ⟨τ, b1, b2, b3⟩ := yy_buy_17 hD (ge_rp_V hD hV i) e4 (V (f + 3 * i)) (V (f + 3 * i + 1)) (V (f + 3 * i + 2))
        have hfr : ∀ k, (k < 17 ∨ 32 < k) → τ k = σ k := fun k hk => by rw [b3 k (by omega), e5 k hk]
        rw [if_pos (ge_r3_iff.mp h3), if_neg (show ¬ nI 1 = 0 by decide), nI_add, nl1, nI_add, nl2, nI_add, if_pos ((z_ibn (show f + 3 * i < 2 ^ 31 by omega)).mpr (by omega)), if_pos ((z_ibn (show f + 3 * i + 1 < 2 ^ 31 by omega)).mpr (by omega)), if_pos ((z_ibn (show f + 3 * i + 2 < 2 ^ 31 by omega)).mpr (by omega)), nI_clamp (show f + 3 * i < 2 ^ 31 by omega), nI_clamp (show f + 3 * i + 1 < 2 ^ 31 by omega), nI_clamp (show f + 3 * i + 2 < 2 ^ 31 by omega), e5 83 (by omega), hv _ (by omega), hv _ (by omega), hv _ (by omega), b1, z_bs]
        by_cases c : (0 : Int32) ≤ (g_buy W H (ge_rp W H V f p i) (V (f + 3 * i)) (V (f + 3 * i + 1)) (V (f + 3 * i + 2))).1
        · have hsf : ge_rs W H V (nI f) n p i = false := ge_rs_f.mpr ⟨h3, by rw [hf3]; exact c⟩
          rw [if_pos c]
          left
          refine ⟨_, rfl, Or.inl ⟨rfl, nI_add i 1, nI_add i 1, ?_, hfr, fun j hj => ?_⟩⟩
          · rw [hf3]
            exact b2
          · by_cases cj : j = i
            · rw [cj]; exact hsf
            · exact e6 j (by omega)
        · rw [if_neg c]
          right
          refine ⟨_, rfl, _, rfl, Or.inl ⟨i, hi, ?_, h3, rfl, hfr⟩⟩
          refine g_ft_is _ N i (by omega) e6 (fun _ => ?_)
          cases z : ge_rs W H V (nI f) n p i with
          | true => rfl
          | false =>
            have := (ge_rs_f.mp z).2
            rw [hf3] at this
            exact absurd this c
    · right
      rw [e3, if_neg (nI_ge hi (by omega)), if_neg (show ¬ x.1 = 0 by rw [e1]; decide)]
      exact ⟨_, rfl, fin x s e4 e5 (by rw [e1, if_pos es]) e2 e7 (fun _ => e6)⟩
  · intro x hP
    rcases hP with ⟨e1, e2, e3, e4, e5, e6⟩ | ⟨s, e0, es, e1, e2, e3, e4, e5, e6, e7⟩
    · rw [e3, if_pos (nI_le (Nat.le_refl _) (by omega))]
      exact ⟨_, rfl, fin x N e4 e5 (by rw [e1, if_neg (Nat.lt_irrefl N)]) e2 (g_ft_is _ N N (Nat.le_refl _) e6 (fun z => absurd z (by omega))) (fun z => absurd z (by omega))⟩
    · rw [e3, if_pos (nI_le (Nat.le_refl _) (by omega))]
      exact ⟨_, rfl, fin x s e4 e5 (by rw [e1, if_pos es]) e2 e7 (fun _ => e6)⟩
theorem yy_rloop_1 (hD : hg_D W H R) (hV : hg_V p R) (hG : hg_G1 σ p W H R) {n N : Nat} (hn : n ≤ 40) (hN : N ≤ 13) (h2 : σ 84 2 = nI n) (hv : ∀ i, i < 40 → σ 85 i = V i) (a : Int32) : ∃ g, ((f_G_copyFrom_17_1 σ).bind fun r8 =>
              (z_loop (S := Int32 × Int32 × Int32 × zS) (β := (Int32 × Int32 × zS) ⊕ (Int32 × zS)) (fun s9 =>
                  if nI N ≤ s9.2.2.1 then
                    some (.inr (.inl (s9.1, s9.2.1, s9.2.2.2)))
                  else
                    if s9.1 = 0 then
                      z_let (a + ((3 : Int32) * s9.2.2.1)) fun v12 =>
                      (f_Sh_hasThree_84 v12 s9.2.2.2).bind fun r13 =>
                      z_join (T := Int32 × Int32 × zS) (fun t14 =>
                          some (.inl (t14.1, t14.2.1, (s9.2.2.1 + (1 : Int32)), t14.2.2))
                        ) (fun j14 =>
                          if r13 = 0 then
                            j14 ((2 : Int32), s9.2.1, s9.2.2.2)
                          else
                            if z_ib v12 40 = true then
                            if z_ib (v12 + (1 : Int32)) 40 = true then
                            if z_ib (v12 + (2 : Int32)) 40 = true then
                            (f_G_buyAndSet_17 (s9.2.2.2 85 v12.toNatClampNeg) (s9.2.2.2 85 (v12 + (1 : Int32)).toNatClampNeg) (s9.2.2.2 85 (v12 + (2 : Int32)).toNatClampNeg) s9.2.2.2).bind fun r19 =>
                            if 0 ≤ r19.1 then
                              j14 (s9.1, (s9.2.1 + (1 : Int32)), r19.2)
                            else
                              some (.inr (.inr (((-20 : Int32) - s9.2.2.1), r19.2)))
                            else none
                            else none
                            else none
                        )
                    else
                      some (.inr (.inl (s9.1, s9.2.1, s9.2.2.2)))
                ) ((0 : Int32), (0 : Int32), (0 : Int32), r8)).bind (fun bb => match bb with
                | .inl b9 =>
                  (f_G_copyFrom_1_17 b9.2.2).bind fun r21 =>
                  z_let (z_u r21 0 10 b9.1) fun τ22 =>
                  some (b9.2.1, τ22)
                | .inr g => some g)) = some g ∧ ge_rQ W H R V a n N p σ g := by
  have hR := hD.2.2.2.2
  obtain ⟨τ0, t1, t2, t3⟩ := yy_copy_17_1 hR hG
  rw [t1, z_bs]
  have fin : ∀ (x : Int32 × Int32 × Int32 × zS) (s : Nat), hg_G17 x.2.2.2 (ge_rp W H V a.toNatClampNeg p s) W H R → (∀ k, (k < 17 ∨ 32 < k) → x.2.2.2 k = σ k) → x.1 = nI (if s < N then 2 else 0) → x.2.1 = nI s → g_ft (ge_rs W H V a n p) N = s → (s < N → ge_r3 a n s = false) → ∃ g, ((f_G_copyFrom_1_17 x.2.2.2).bind fun r21 => z_let (z_u r21 0 10 x.1) fun τ22 => some (x.2.1, τ22)) = some g ∧ ge_rQ W H R V a n N p σ g := by
    intro x s f1 f2 f3 f4 f5 f6
    obtain ⟨τ, u1, u2, u3⟩ := yy_copy_1_17 hR f1
    rw [u1, z_bs, z_let_e]
    refine ⟨_, rfl, Or.inr ⟨s, f5, f6, f4, ?_, ?_, fun j hj => ?_, fun k k1 k2 => ?_⟩⟩
    · exact hg_G1_c u2 (fun k k1 k2 => hg_u_n (by omega))
    · dsimp only
      rw [hg_u_s, f3]
    · dsimp only
      rw [hg_u_j hj, u3 0 (by omega), f2 0 (by omega)]
    · dsimp only
      rw [hg_u_n k1, u3 k (by omega), f2 k (by omega)]
  refine z_lp (fun i (x : Int32 × Int32 × Int32 × zS) => (x.1 = nI 0 ∧ x.2.1 = nI i ∧ x.2.2.1 = nI i ∧ hg_G17 x.2.2.2 (ge_rp W H V a.toNatClampNeg p i) W H R ∧ (∀ k, (k < 17 ∨ 32 < k) → x.2.2.2 k = σ k) ∧ ∀ j, j < i → ge_rs W H V a n p j = false) ∨ (∃ s, i = s + 1 ∧ s < N ∧ x.1 = nI 2 ∧ x.2.1 = nI s ∧ x.2.2.1 = nI i ∧ hg_G17 x.2.2.2 (ge_rp W H V a.toNatClampNeg p s) W H R ∧ (∀ k, (k < 17 ∨ 32 < k) → x.2.2.2 k = σ k) ∧ ge_r3 a n s = false ∧ g_ft (ge_rs W H V a n p) N = s)) N ?_ ?_ ?_
  · exact Or.inl ⟨rfl, rfl, rfl, t2, fun k hk => t3 k (by omega), fun j hj => absurd hj (by omega)⟩
  · intro i x hi hP
    rcases hP with ⟨e1, e2, e3, e4, e5, e6⟩ | ⟨s, e0, es, e1, e2, e3, e4, e5, e6, e7⟩
    · have hat : (a + nI (3 * i)).toInt = a.toInt + 3 * (i : Int) := by
        by_cases c : i = 0
        · subst c
          rw [show a + nI (3 * 0) = a from by rw [Nat.mul_zero, nI_0]; exact Int32.add_zero a]
          omega
        · have h0 := (ge_rs_f.mp (e6 0 (by omega))).1
          obtain ⟨f, hf1, hf2, hf3⟩ := ge_ra_f (i := 0) hn h0 (fun j hj => e6 j (by omega))
          subst hf1
          rw [nI_add, nI_toInt (by omega), nI_toInt (by omega)]
          omega
      rw [e1, e2, e3, if_neg (nI_ge hi (by omega)), if_pos (show nI 0 = 0 from rfl), nl3, pk_mul, z_let_e, y_three_84 hn (by rw [e5 84 (by omega)]; exact h2), z_bs, hat]
      simp only [z_join]
      cases h3 : ge_r3 a n i with
      | false =>
        have hst : ge_rs W H V a n p i = true := by
          cases z : ge_rs W H V a n p i with
          | true => rfl
          | false => rw [(ge_rs_f.mp z).1] at h3; cases h3
        rw [if_neg (show ¬ (0 ≤ a.toInt + 3 * (i : Int) ∧ a.toInt + 3 * (i : Int) ≤ (n : Int) - 3) from fun z => by rw [ge_r3_iff.mpr z] at h3; cases h3), if_pos (show nI 0 = 0 from rfl)]
        left
        exact ⟨_, rfl, Or.inr ⟨i, rfl, hi, rfl, rfl, nI_1 i, e4, e5, h3, g_ft_is _ N i (by omega) e6 (fun _ => hst)⟩⟩
      | true =>
        obtain ⟨f, hf1, hf2, hf3⟩ := ge_ra_f hn h3 e6
        subst hf1
        rw [hf3] at e4
        obtain ⟨τ, b1, b2, b3⟩ := yy_buy_17 hD (ge_rp_V hD hV i) e4 (V (f + 3 * i)) (V (f + 3 * i + 1)) (V (f + 3 * i + 2))
        have hfr : ∀ k, (k < 17 ∨ 32 < k) → τ k = σ k := fun k hk => by rw [b3 k (by omega), e5 k hk]
        rw [if_pos (ge_r3_iff.mp h3), if_neg (show ¬ nI 1 = 0 by decide), nI_add, nl1, nI_add, nl2, nI_add, if_pos ((z_ibn (show f + 3 * i < 2 ^ 31 by omega)).mpr (by omega)), if_pos ((z_ibn (show f + 3 * i + 1 < 2 ^ 31 by omega)).mpr (by omega)), if_pos ((z_ibn (show f + 3 * i + 2 < 2 ^ 31 by omega)).mpr (by omega)), nI_clamp (show f + 3 * i < 2 ^ 31 by omega), nI_clamp (show f + 3 * i + 1 < 2 ^ 31 by omega), nI_clamp (show f + 3 * i + 2 < 2 ^ 31 by omega), e5 85 (by omega), hv _ (by omega), hv _ (by omega), hv _ (by omega), b1, z_bs]
        by_cases c : (0 : Int32) ≤ (g_buy W H (ge_rp W H V f p i) (V (f + 3 * i)) (V (f + 3 * i + 1)) (V (f + 3 * i + 2))).1
        · have hsf : ge_rs W H V (nI f) n p i = false := ge_rs_f.mpr ⟨h3, by rw [hf3]; exact c⟩
          rw [if_pos c]
          left
          refine ⟨_, rfl, Or.inl ⟨rfl, nI_add i 1, nI_add i 1, ?_, hfr, fun j hj => ?_⟩⟩
          · rw [hf3]
            exact b2
          · by_cases cj : j = i
            · rw [cj]; exact hsf
            · exact e6 j (by omega)
        · rw [if_neg c]
          right
          refine ⟨_, rfl, _, rfl, Or.inl ⟨i, hi, ?_, h3, rfl, hfr⟩⟩
          refine g_ft_is _ N i (by omega) e6 (fun _ => ?_)
          cases z : ge_rs W H V (nI f) n p i with
          | true => rfl
          | false =>
            have := (ge_rs_f.mp z).2
            rw [hf3] at this
            exact absurd this c
    · right
      rw [e3, if_neg (nI_ge hi (by omega)), if_neg (show ¬ x.1 = 0 by rw [e1]; decide)]
      exact ⟨_, rfl, fin x s e4 e5 (by rw [e1, if_pos es]) e2 e7 (fun _ => e6)⟩
  · intro x hP
    rcases hP with ⟨e1, e2, e3, e4, e5, e6⟩ | ⟨s, e0, es, e1, e2, e3, e4, e5, e6, e7⟩
    · rw [e3, if_pos (nI_le (Nat.le_refl _) (by omega))]
      exact ⟨_, rfl, fin x N e4 e5 (by rw [e1, if_neg (Nat.lt_irrefl N)]) e2 (g_ft_is _ N N (Nat.le_refl _) e6 (fun z => absurd z (by omega))) (fun z => absurd z (by omega))⟩
    · rw [e3, if_pos (nI_le (Nat.le_refl _) (by omega))]
      exact ⟨_, rfl, fin x s e4 e5 (by rw [e1, if_pos es]) e2 e7 (fun _ => e6)⟩
theorem yy_rloop_2 (hD : hg_D W H R) (hV : hg_V p R) (hG : hg_G1 σ p W H R) {n N : Nat} (hn : n ≤ 40) (hN : N ≤ 13) (h2 : σ 86 2 = nI n) (hv : ∀ i, i < 40 → σ 87 i = V i) (a : Int32) : ∃ g, ((f_G_copyFrom_17_1 σ).bind fun r8 =>
              (z_loop (S := Int32 × Int32 × Int32 × zS) (β := (Int32 × Int32 × zS) ⊕ (Int32 × zS)) (fun s9 =>
                  if nI N ≤ s9.2.2.1 then
                    some (.inr (.inl (s9.1, s9.2.1, s9.2.2.2)))
                  else
                    if s9.1 = 0 then
                      z_let (a + ((3 : Int32) * s9.2.2.1)) fun v12 =>
                      (f_Sh_hasThree_86 v12 s9.2.2.2).bind fun r13 =>
                      z_join (T := Int32 × Int32 × zS) (fun t14 =>
                          some (.inl (t14.1, t14.2.1, (s9.2.2.1 + (1 : Int32)), t14.2.2))
                        ) (fun j14 =>
                          if r13 = 0 then
                            j14 ((2 : Int32), s9.2.1, s9.2.2.2)
                          else
                            if z_ib v12 40 = true then
                            if z_ib (v12 + (1 : Int32)) 40 = true then
                            if z_ib (v12 + (2 : Int32)) 40 = true then
                            (f_G_buyAndSet_17 (s9.2.2.2 87 v12.toNatClampNeg) (s9.2.2.2 87 (v12 + (1 : Int32)).toNatClampNeg) (s9.2.2.2 87 (v12 + (2 : Int32)).toNatClampNeg) s9.2.2.2).bind fun r19 =>
                            if 0 ≤ r19.1 then
                              j14 (s9.1, (s9.2.1 + (1 : Int32)), r19.2)
                            else
                              some (.inr (.inr (((-20 : Int32) - s9.2.2.1), r19.2)))
                            else none
                            else none
                            else none
                        )
                    else
                      some (.inr (.inl (s9.1, s9.2.1, s9.2.2.2)))
                ) ((0 : Int32), (0 : Int32), (0 : Int32), r8)).bind (fun bb => match bb with
                | .inl b9 =>
                  (f_G_copyFrom_1_17 b9.2.2).bind fun r21 =>
                  z_let (z_u r21 0 10 b9.1) fun τ22 =>
                  some (b9.2.1, τ22)
                | .inr g => some g)) = some g ∧ ge_rQ W H R V a n N p σ g := by
  have hR := hD.2.2.2.2
  obtain ⟨τ0, t1, t2, t3⟩ := yy_copy_17_1 hR hG
  rw [t1, z_bs]
  have fin : ∀ (x : Int32 × Int32 × Int32 × zS) (s : Nat), hg_G17 x.2.2.2 (ge_rp W H V a.toNatClampNeg p s) W H R → (∀ k, (k < 17 ∨ 32 < k) → x.2.2.2 k = σ k) → x.1 = nI (if s < N then 2 else 0) → x.2.1 = nI s → g_ft (ge_rs W H V a n p) N = s → (s < N → ge_r3 a n s = false) → ∃ g, ((f_G_copyFrom_1_17 x.2.2.2).bind fun r21 => z_let (z_u r21 0 10 x.1) fun τ22 => some (x.2.1, τ22)) = some g ∧ ge_rQ W H R V a n N p σ g := by
    intro x s f1 f2 f3 f4 f5 f6
    obtain ⟨τ, u1, u2, u3⟩ := yy_copy_1_17 hR f1
    rw [u1, z_bs, z_let_e]
    refine ⟨_, rfl, Or.inr ⟨s, f5, f6, f4, ?_, ?_, fun j hj => ?_, fun k k1 k2 => ?_⟩⟩
    · exact hg_G1_c u2 (fun k k1 k2 => hg_u_n (by omega))
    · dsimp only
      rw [hg_u_s, f3]
    · dsimp only
      rw [hg_u_j hj, u3 0 (by omega), f2 0 (by omega)]
    · dsimp only
      rw [hg_u_n k1, u3 k (by omega), f2 k (by omega)]
  refine z_lp (fun i (x : Int32 × Int32 × Int32 × zS) => (x.1 = nI 0 ∧ x.2.1 = nI i ∧ x.2.2.1 = nI i ∧ hg_G17 x.2.2.2 (ge_rp W H V a.toNatClampNeg p i) W H R ∧ (∀ k, (k < 17 ∨ 32 < k) → x.2.2.2 k = σ k) ∧ ∀ j, j < i → ge_rs W H V a n p j = false) ∨ (∃ s, i = s + 1 ∧ s < N ∧ x.1 = nI 2 ∧ x.2.1 = nI s ∧ x.2.2.1 = nI i ∧ hg_G17 x.2.2.2 (ge_rp W H V a.toNatClampNeg p s) W H R ∧ (∀ k, (k < 17 ∨ 32 < k) → x.2.2.2 k = σ k) ∧ ge_r3 a n s = false ∧ g_ft (ge_rs W H V a n p) N = s)) N ?_ ?_ ?_
  · exact Or.inl ⟨rfl, rfl, rfl, t2, fun k hk => t3 k (by omega), fun j hj => absurd hj (by omega)⟩
  · intro i x hi hP
    rcases hP with ⟨e1, e2, e3, e4, e5, e6⟩ | ⟨s, e0, es, e1, e2, e3, e4, e5, e6, e7⟩
    · have hat : (a + nI (3 * i)).toInt = a.toInt + 3 * (i : Int) := by
        by_cases c : i = 0
        · subst c
          rw [show a + nI (3 * 0) = a from by rw [Nat.mul_zero, nI_0]; exact Int32.add_zero a]
          omega
        · have h0 := (ge_rs_f.mp (e6 0 (by omega))).1
          obtain ⟨f, hf1, hf2, hf3⟩ := ge_ra_f (i := 0) hn h0 (fun j hj => e6 j (by omega))
          subst hf1
          rw [nI_add, nI_toInt (by omega), nI_toInt (by omega)]
          omega
      rw [e1, e2, e3, if_neg (nI_ge hi (by omega)), if_pos (show nI 0 = 0 from rfl), nl3, pk_mul, z_let_e, y_three_86 hn (by rw [e5 86 (by omega)]; exact h2), z_bs, hat]
      simp only [z_join]
      cases h3 : ge_r3 a n i with
      | false =>
        have hst : ge_rs W H V a n p i = true := by
          cases z : ge_rs W H V a n p i with
          | true => rfl
          | false => rw [(ge_rs_f.mp z).1] at h3; cases h3
        rw [if_neg (show ¬ (0 ≤ a.toInt + 3 * (i : Int) ∧ a.toInt + 3 * (i : Int) ≤ (n : Int) - 3) from fun z => by rw [ge_r3_iff.mpr z] at h3; cases h3), if_pos (show nI 0 = 0 from rfl)]
        left
        exact ⟨_, rfl, Or.inr ⟨i, rfl, hi, rfl, rfl, nI_1 i, e4, e5, h3, g_ft_is _ N i (by omega) e6 (fun _ => hst)⟩⟩
      | true =>
        obtain ⟨f, hf1, hf2, hf3⟩ := ge_ra_f hn h3 e6
        subst hf1
        rw [hf3] at e4
        obtain ⟨τ, b1, b2, b3⟩ := yy_buy_17 hD (ge_rp_V hD hV i) e4 (V (f + 3 * i)) (V (f + 3 * i + 1)) (V (f + 3 * i + 2))
        have hfr : ∀ k, (k < 17 ∨ 32 < k) → τ k = σ k := fun k hk => by rw [b3 k (by omega), e5 k hk]
        rw [if_pos (ge_r3_iff.mp h3), if_neg (show ¬ nI 1 = 0 by decide), nI_add, nl1, nI_add, nl2, nI_add, if_pos ((z_ibn (show f + 3 * i < 2 ^ 31 by omega)).mpr (by omega)), if_pos ((z_ibn (show f + 3 * i + 1 < 2 ^ 31 by omega)).mpr (by omega)), if_pos ((z_ibn (show f + 3 * i + 2 < 2 ^ 31 by omega)).mpr (by omega)), nI_clamp (show f + 3 * i < 2 ^ 31 by omega), nI_clamp (show f + 3 * i + 1 < 2 ^ 31 by omega), nI_clamp (show f + 3 * i + 2 < 2 ^ 31 by omega), e5 87 (by omega), hv _ (by omega), hv _ (by omega), hv _ (by omega), b1, z_bs]
        by_cases c : (0 : Int32) ≤ (g_buy W H (ge_rp W H V f p i) (V (f + 3 * i)) (V (f + 3 * i + 1)) (V (f + 3 * i + 2))).1
        · have hsf : ge_rs W H V (nI f) n p i = false := ge_rs_f.mpr ⟨h3, by rw [hf3]; exact c⟩
          rw [if_pos c]
          left
          refine ⟨_, rfl, Or.inl ⟨rfl, nI_add i 1, nI_add i 1, ?_, hfr, fun j hj => ?_⟩⟩
          · rw [hf3]
            exact b2
          · by_cases cj : j = i
            · rw [cj]; exact hsf
            · exact e6 j (by omega)
        · rw [if_neg c]
          right
          refine ⟨_, rfl, _, rfl, Or.inl ⟨i, hi, ?_, h3, rfl, hfr⟩⟩
          refine g_ft_is _ N i (by omega) e6 (fun _ => ?_)
          cases z : ge_rs W H V (nI f) n p i with
          | true => rfl
          | false =>
            have := (ge_rs_f.mp z).2
            rw [hf3] at this
            exact absurd this c
    · right
      rw [e3, if_neg (nI_ge hi (by omega)), if_neg (show ¬ x.1 = 0 by rw [e1]; decide)]
      exact ⟨_, rfl, fin x s e4 e5 (by rw [e1, if_pos es]) e2 e7 (fun _ => e6)⟩
  · intro x hP
    rcases hP with ⟨e1, e2, e3, e4, e5, e6⟩ | ⟨s, e0, es, e1, e2, e3, e4, e5, e6, e7⟩
    · rw [e3, if_pos (nI_le (Nat.le_refl _) (by omega))]
      exact ⟨_, rfl, fin x N e4 e5 (by rw [e1, if_neg (Nat.lt_irrefl N)]) e2 (g_ft_is _ N N (Nat.le_refl _) e6 (fun z => absurd z (by omega))) (fun z => absurd z (by omega))⟩
    · rw [e3, if_pos (nI_le (Nat.le_refl _) (by omega))]
      exact ⟨_, rfl, fin x s e4 e5 (by rw [e1, if_pos es]) e2 e7 (fun _ => e6)⟩
theorem yy_rloop_3 (hD : hg_D W H R) (hV : hg_V p R) (hG : hg_G1 σ p W H R) {n N : Nat} (hn : n ≤ 40) (hN : N ≤ 13) (h2 : σ 88 2 = nI n) (hv : ∀ i, i < 40 → σ 89 i = V i) (a : Int32) : ∃ g, ((f_G_copyFrom_17_1 σ).bind fun r8 =>
              (z_loop (S := Int32 × Int32 × Int32 × zS) (β := (Int32 × Int32 × zS) ⊕ (Int32 × zS)) (fun s9 =>
                  if nI N ≤ s9.2.2.1 then
                    some (.inr (.inl (s9.1, s9.2.1, s9.2.2.2)))
                  else
                    if s9.1 = 0 then
                      z_let (a + ((3 : Int32) * s9.2.2.1)) fun v12 =>
                      (f_Sh_hasThree_88 v12 s9.2.2.2).bind fun r13 =>
                      z_join (T := Int32 × Int32 × zS) (fun t14 =>
                          some (.inl (t14.1, t14.2.1, (s9.2.2.1 + (1 : Int32)), t14.2.2))
                        ) (fun j14 =>
                          if r13 = 0 then
                            j14 ((2 : Int32), s9.2.1, s9.2.2.2)
                          else
                            if z_ib v12 40 = true then
                            if z_ib (v12 + (1 : Int32)) 40 = true then
                            if z_ib (v12 + (2 : Int32)) 40 = true then
                            (f_G_buyAndSet_17 (s9.2.2.2 89 v12.toNatClampNeg) (s9.2.2.2 89 (v12 + (1 : Int32)).toNatClampNeg) (s9.2.2.2 89 (v12 + (2 : Int32)).toNatClampNeg) s9.2.2.2).bind fun r19 =>
                            if 0 ≤ r19.1 then
                              j14 (s9.1, (s9.2.1 + (1 : Int32)), r19.2)
                            else
                              some (.inr (.inr (((-20 : Int32) - s9.2.2.1), r19.2)))
                            else none
                            else none
                            else none
                        )
                    else
                      some (.inr (.inl (s9.1, s9.2.1, s9.2.2.2)))
                ) ((0 : Int32), (0 : Int32), (0 : Int32), r8)).bind (fun bb => match bb with
                | .inl b9 =>
                  (f_G_copyFrom_1_17 b9.2.2).bind fun r21 =>
                  z_let (z_u r21 0 10 b9.1) fun τ22 =>
                  some (b9.2.1, τ22)
                | .inr g => some g)) = some g ∧ ge_rQ W H R V a n N p σ g := by
  have hR := hD.2.2.2.2
  obtain ⟨τ0, t1, t2, t3⟩ := yy_copy_17_1 hR hG
  rw [t1, z_bs]
  have fin : ∀ (x : Int32 × Int32 × Int32 × zS) (s : Nat), hg_G17 x.2.2.2 (ge_rp W H V a.toNatClampNeg p s) W H R → (∀ k, (k < 17 ∨ 32 < k) → x.2.2.2 k = σ k) → x.1 = nI (if s < N then 2 else 0) → x.2.1 = nI s → g_ft (ge_rs W H V a n p) N = s → (s < N → ge_r3 a n s = false) → ∃ g, ((f_G_copyFrom_1_17 x.2.2.2).bind fun r21 => z_let (z_u r21 0 10 x.1) fun τ22 => some (x.2.1, τ22)) = some g ∧ ge_rQ W H R V a n N p σ g := by
    intro x s f1 f2 f3 f4 f5 f6
    obtain ⟨τ, u1, u2, u3⟩ := yy_copy_1_17 hR f1
    rw [u1, z_bs, z_let_e]
    refine ⟨_, rfl, Or.inr ⟨s, f5, f6, f4, ?_, ?_, fun j hj => ?_, fun k k1 k2 => ?_⟩⟩
    · exact hg_G1_c u2 (fun k k1 k2 => hg_u_n (by omega))
    · dsimp only
      rw [hg_u_s, f3]
    · dsimp only
      rw [hg_u_j hj, u3 0 (by omega), f2 0 (by omega)]
    · dsimp only
      rw [hg_u_n k1, u3 k (by omega), f2 k (by omega)]
  refine z_lp (fun i (x : Int32 × Int32 × Int32 × zS) => (x.1 = nI 0 ∧ x.2.1 = nI i ∧ x.2.2.1 = nI i ∧ hg_G17 x.2.2.2 (ge_rp W H V a.toNatClampNeg p i) W H R ∧ (∀ k, (k < 17 ∨ 32 < k) → x.2.2.2 k = σ k) ∧ ∀ j, j < i → ge_rs W H V a n p j = false) ∨ (∃ s, i = s + 1 ∧ s < N ∧ x.1 = nI 2 ∧ x.2.1 = nI s ∧ x.2.2.1 = nI i ∧ hg_G17 x.2.2.2 (ge_rp W H V a.toNatClampNeg p s) W H R ∧ (∀ k, (k < 17 ∨ 32 < k) → x.2.2.2 k = σ k) ∧ ge_r3 a n s = false ∧ g_ft (ge_rs W H V a n p) N = s)) N ?_ ?_ ?_
  · exact Or.inl ⟨rfl, rfl, rfl, t2, fun k hk => t3 k (by omega), fun j hj => absurd hj (by omega)⟩
  · intro i x hi hP
    rcases hP with ⟨e1, e2, e3, e4, e5, e6⟩ | ⟨s, e0, es, e1, e2, e3, e4, e5, e6, e7⟩
    · have hat : (a + nI (3 * i)).toInt = a.toInt + 3 * (i : Int) := by
        by_cases c : i = 0
        · subst c
          rw [show a + nI (3 * 0) = a from by rw [Nat.mul_zero, nI_0]; exact Int32.add_zero a]
          omega
        · have h0 := (ge_rs_f.mp (e6 0 (by omega))).1
          obtain ⟨f, hf1, hf2, hf3⟩ := ge_ra_f (i := 0) hn h0 (fun j hj => e6 j (by omega))
          subst hf1
          rw [nI_add, nI_toInt (by omega), nI_toInt (by omega)]
          omega
      rw [e1, e2, e3, if_neg (nI_ge hi (by omega)), if_pos (show nI 0 = 0 from rfl), nl3, pk_mul, z_let_e, y_three_88 hn (by rw [e5 88 (by omega)]; exact h2), z_bs, hat]
      simp only [z_join]
      cases h3 : ge_r3 a n i with
      | false =>
        have hst : ge_rs W H V a n p i = true := by
          cases z : ge_rs W H V a n p i with
          | true => rfl
          | false => rw [(ge_rs_f.mp z).1] at h3; cases h3
        rw [if_neg (show ¬ (0 ≤ a.toInt + 3 * (i : Int) ∧ a.toInt + 3 * (i : Int) ≤ (n : Int) - 3) from fun z => by rw [ge_r3_iff.mpr z] at h3; cases h3), if_pos (show nI 0 = 0 from rfl)]
        left
        exact ⟨_, rfl, Or.inr ⟨i, rfl, hi, rfl, rfl, nI_1 i, e4, e5, h3, g_ft_is _ N i (by omega) e6 (fun _ => hst)⟩⟩
      | true =>
        obtain ⟨f, hf1, hf2, hf3⟩ := ge_ra_f hn h3 e6
        subst hf1
        rw [hf3] at e4
        obtain ⟨τ, b1, b2, b3⟩ := yy_buy_17 hD (ge_rp_V hD hV i) e4 (V (f + 3 * i)) (V (f + 3 * i + 1)) (V (f + 3 * i + 2))
        have hfr : ∀ k, (k < 17 ∨ 32 < k) → τ k = σ k := fun k hk => by rw [b3 k (by omega), e5 k hk]
        rw [if_pos (ge_r3_iff.mp h3), if_neg (show ¬ nI 1 = 0 by decide), nI_add, nl1, nI_add, nl2, nI_add, if_pos ((z_ibn (show f + 3 * i < 2 ^ 31 by omega)).mpr (by omega)), if_pos ((z_ibn (show f + 3 * i + 1 < 2 ^ 31 by omega)).mpr (by omega)), if_pos ((z_ibn (show f + 3 * i + 2 < 2 ^ 31 by omega)).mpr (by omega)), nI_clamp (show f + 3 * i < 2 ^ 31 by omega), nI_clamp (show f + 3 * i + 1 < 2 ^ 31 by omega), nI_clamp (show f + 3 * i + 2 < 2 ^ 31 by omega), e5 89 (by omega), hv _ (by omega), hv _ (by omega), hv _ (by omega), b1, z_bs]
        by_cases c : (0 : Int32) ≤ (g_buy W H (ge_rp W H V f p i) (V (f + 3 * i)) (V (f + 3 * i + 1)) (V (f + 3 * i + 2))).1
        · have hsf : ge_rs W H V (nI f) n p i = false := ge_rs_f.mpr ⟨h3, by rw [hf3]; exact c⟩
          rw [if_pos c]
          left
          refine ⟨_, rfl, Or.inl ⟨rfl, nI_add i 1, nI_add i 1, ?_, hfr, fun j hj => ?_⟩⟩
          · rw [hf3]
            exact b2
          · by_cases cj : j = i
            · rw [cj]; exact hsf
            · exact e6 j (by omega)
        · rw [if_neg c]
          right
          refine ⟨_, rfl, _, rfl, Or.inl ⟨i, hi, ?_, h3, rfl, hfr⟩⟩
          refine g_ft_is _ N i (by omega) e6 (fun _ => ?_)
          cases z : ge_rs W H V (nI f) n p i with
          | true => rfl
          | false =>
            have := (ge_rs_f.mp z).2
            rw [hf3] at this
            exact absurd this c
    · right
      rw [e3, if_neg (nI_ge hi (by omega)), if_neg (show ¬ x.1 = 0 by rw [e1]; decide)]
      exact ⟨_, rfl, fin x s e4 e5 (by rw [e1, if_pos es]) e2 e7 (fun _ => e6)⟩
  · intro x hP
    rcases hP with ⟨e1, e2, e3, e4, e5, e6⟩ | ⟨s, e0, es, e1, e2, e3, e4, e5, e6, e7⟩
    · rw [e3, if_pos (nI_le (Nat.le_refl _) (by omega))]
      exact ⟨_, rfl, fin x N e4 e5 (by rw [e1, if_neg (Nat.lt_irrefl N)]) e2 (g_ft_is _ N N (Nat.le_refl _) e6 (fun z => absurd z (by omega))) (fun z => absurd z (by omega))⟩
    · rw [e3, if_pos (nI_le (Nat.le_refl _) (by omega))]
      exact ⟨_, rfl, fin x s e4 e5 (by rw [e1, if_pos es]) e2 e7 (fun _ => e6)⟩
theorem mm_read (hD : hg_D W H R) (hM : hg_M σ W H R) (hV : hg_V p R) (hQ : hg_Q σ 0 p) {k l n N : Nat} (hk : k < 4) (hl : l ≤ 2) (hn : n ≤ 40) (hN : N ≤ 13) (ha : 0 ≤ (nI k).toInt ∧ (nI k).toInt ≤ 3) (hb : 0 ≤ (nI l).toInt ∧ (nI l).toInt ≤ 2) (hd : 0 ≤ (nI N).toInt ∧ (nI N).toInt ≤ 13) (h2 : σ 102 k = nI l) (h3 : σ 103 k = nI n) (hv : ∀ i, i < 40 → σ 104 (40 * k + i) = V i) (a : Int32) : ∃ g, f_M_read (nI k) (nI l) a (nI N) σ = some g ∧ ge_rW W H R V a n N p σ g := by
  obtain ⟨n1, n2⟩ := hg_D_N hD
  have hR := hD.2.2.2.2
  obtain ⟨τ0, t1, t2, t3⟩ := mm_copies (A := 0) (B := 330) (by omega) (by omega) (by omega) σ
  have en : (nI n - nI 1).toInt = (n : Int) - 1 := pk_sub_toInt (by omega) (by omega)
  unfold f_M_read
  rw [km_0_3, z_bs, if_pos ha, if_neg (show ¬ nI 1 = 0 by decide), km_0_2, z_bs, if_pos hb, if_neg (show ¬ nI 1 = 0 by decide), km_0_13, z_bs, if_pos hd, if_neg (show ¬ nI 1 = 0 by decide), nl330, nl0, t1, z_bs]
  have fin : ∀ (x : Int32 × Int32 × Int32 × zS) (s : Nat), hg_Q x.2.2.2 0 (ge_rp W H V a.toNatClampNeg p s) → (∀ k, k ≠ 91 → x.2.2.2 k = σ k) → (∀ j, 110 ≤ j → j < 330 → x.2.2.2 91 j = σ 91 j) → x.1 = nI (if s < N then 2 else 0) → x.2.1 = nI s → g_ft (ge_rs W H V a n p) N = s → (s < N → ge_r3 a n s = false) → ge_rW W H R V a n N p σ (x.2.1, z_u x.2.2.2 90 31 x.1) := by
    intro x s f1 f2 f7 f3 f4 f5 f6
    refine Or.inr ⟨s, f5, f6, f4, hg_Q_c f1 (by show z_u x.2.2.2 90 31 x.1 91 = _; rw [hg_u_n (by omega)]), ?_, fun j hj => ?_, fun k k1 k2 => ?_, fun j j1 j2 => ?_⟩
    · dsimp only
      rw [hg_u_s, f3]
    · dsimp only
      rw [hg_u_j hj, f2 90 (by omega)]
    · dsimp only
      rw [hg_u_n k1, f2 k k2]
    · dsimp only
      rw [hg_u_n (by omega), f7 j j1 j2]
  refine z_lp (fun i (x : Int32 × Int32 × Int32 × zS) => (x.1 = nI 0 ∧ x.2.1 = nI (i / 3) ∧ x.2.2.1 = nI i ∧ hg_Q x.2.2.2 0 (ge_rp W H V a.toNatClampNeg p (i / 3)) ∧ (∀ k, k ≠ 91 → x.2.2.2 k = σ k) ∧ (∀ j, 110 ≤ j → j < 330 → x.2.2.2 91 j = σ 91 j) ∧ hg_Q x.2.2.2 330 p ∧ (∀ j, j < i / 3 → ge_rs W H V a n p j = false) ∧ ∀ j, 3 * (i / 3) ≤ j → j < i → 0 ≤ a.toInt + (j : Int) ∧ a.toInt + (j : Int) ≤ (n : Int) - 1) ∨ (∃ s, s < N ∧ x.1 = nI 2 ∧ x.2.1 = nI s ∧ x.2.2.1 = nI i ∧ hg_Q x.2.2.2 0 (ge_rp W H V a.toNatClampNeg p s) ∧ (∀ k, k ≠ 91 → x.2.2.2 k = σ k) ∧ (∀ j, 110 ≤ j → j < 330 → x.2.2.2 91 j = σ 91 j) ∧ ge_r3 a n s = false ∧ g_ft (ge_rs W H V a n p) N = s)) (3 * N) ?_ ?_ ?_
  · refine Or.inl ⟨rfl, rfl, rfl, fun k hk => ?_, fun k hk => t3.1 k hk, fun j j1 j2 => t3.2 j (by omega), fun k hk => ?_, fun j hj => absurd hj (by omega), fun j j1 j2 => absurd j2 (by omega)⟩
    · show τ0 91 (0 + k) = _
      rw [t3.2 _ (by omega)]
      exact hQ k hk
    · show τ0 91 (330 + k) = _
      rw [t2 k hk]
      exact hQ k hk
  · intro i x hi hP
    rcases hP with ⟨e1, e2, e3, e4, e5, e6, e7, e8, e9⟩ | ⟨s, es, e1, e2, e3, e4, e5, e6, e7, e8⟩
    · have kb : ∀ {α : Type} (x y : α), (if z_ib (nI k) 4 = true then x else y) = x := fun x y => if_pos ((z_ibn (by omega)).mpr (by omega))
      rw [e1, e2, e3, nl3, pk_mul, if_neg (nI_ge hi (by omega)), if_pos (show nI 0 = nI 0 from rfl), kb, pk_rem (by omega) (by omega) (by omega), nl1, nl2]
      by_cases c : 0 ≤ a.toInt + (i : Int) ∧ a.toInt + (i : Int) ≤ (n : Int) - 1
      · rw [hg_join_to (x := nI 0) (by
          intro j
          rw [nI_clamp (show k < 2 ^ 31 by omega), e5 102 (by omega), h2, if_neg (show ¬ nI l = -4 from z_neg (b := 4) (by omega) (by omega) _ (by omega)), kb, if_pos rfl, kb, e5 103 (by omega), h3, mm_in, hg_ladd a (by omega), Int32.toInt_toInt64, en, show (0 : Int64).toInt = 0 from rfl, z_bs, if_pos c, if_neg (show ¬ nI 1 = nI 0 by decide)])]
        simp only [z_join]
        rw [if_pos trivial]
        by_cases c2 : i % 3 = 2
        · have h3s : ge_r3 a n (i / 3) = true := by
            have q1 := e9 (3 * (i / 3)) (by omega) (by omega)
            rw [ge_r3_iff]
            omega
          obtain ⟨f, hf1, hf2, hf3⟩ := ge_ra_f hn h3s e8
          subst hf1
          rw [hf3] at e4
          obtain ⟨τ, b1, b2, b3⟩ := mm_buys hD (hg_M_c hM (e5 90 (by omega)) (e5 92 (by omega))) (ge_rp_V hD hV (i / 3)) e4 (V (f + 3 * (i / 3))) (V (f + 3 * (i / 3) + 1)) (V (f + 3 * (i / 3) + 2))
          have i2 : 40 * k + f + i - 2 = 40 * k + (f + 3 * (i / 3)) := by omega
          have i1 : 40 * k + f + i - 1 = 40 * k + (f + 3 * (i / 3) + 1) := by omega
          have i0 : 40 * k + f + i = 40 * k + (f + 3 * (i / 3) + 2) := by omega
          rw [if_pos (show nI (i % 3) = nI 2 by rw [c2]), nl40, pk_mul, nI_add, nI_add, z_let_e, pk_sub (by omega), pk_sub (by omega), i2, i1, i0, if_pos ((z_ibn (show 40 * k + (f + 3 * (i / 3)) < 2 ^ 31 by omega)).mpr (by omega)), if_pos ((z_ibn (show 40 * k + (f + 3 * (i / 3) + 1) < 2 ^ 31 by omega)).mpr (by omega)), if_pos ((z_ibn (show 40 * k + (f + 3 * (i / 3) + 2) < 2 ^ 31 by omega)).mpr (by omega)), nI_clamp (show 40 * k + (f + 3 * (i / 3)) < 2 ^ 31 by omega), nI_clamp (show 40 * k + (f + 3 * (i / 3) + 1) < 2 ^ 31 by omega), nI_clamp (show 40 * k + (f + 3 * (i / 3) + 2) < 2 ^ 31 by omega), e5 104 (by omega), hv _ (by omega), hv _ (by omega), hv _ (by omega), b1, z_bs]
          have hfr : ∀ k, k ≠ 91 → τ k = σ k := fun k hk => by rw [b3.1 k hk, e5 k hk]
          by_cases cb : nI 0 ≤ (g_buy W H (ge_rp W H V f p (i / 3)) (V (f + 3 * (i / 3))) (V (f + 3 * (i / 3) + 1)) (V (f + 3 * (i / 3) + 2))).1
          · have hsf : ge_rs W H V (nI f) n p (i / 3) = false := ge_rs_f.mpr ⟨h3s, by rw [hf3]; exact cb⟩
            rw [if_pos cb]
            left
            refine ⟨_, rfl, Or.inl ⟨rfl, ?_, nI_add i 1, ?_, hfr, fun j j1 j2 => by dsimp only; rw [b3.2 j (by omega), e6 j j1 j2], fun j hj => by dsimp only; rw [b3.2 _ (by omega)]; exact e7 j hj, fun j hj => ?_, fun j j1 j2 => absurd j2 (by omega)⟩⟩
            · rw [show (i + 1) / 3 = i / 3 + 1 by omega]
              exact nI_add (i / 3) 1
            · rw [hf3, show (i + 1) / 3 = i / 3 + 1 by omega]
              exact b2
            · by_cases cj : j = i / 3
              · rw [cj]; exact hsf
              · exact e8 j (by omega)
          · obtain ⟨υ, w1, w2, w3⟩ := mm_copies (A := 330) (B := 0) (by omega) (by omega) (by omega) τ
            rw [if_neg cb, w1, z_bs]
            right
            refine ⟨_, rfl, _, rfl, Or.inl ⟨i / 3, by omega, ?_, h3s, rfl, fun k hk => by dsimp only; rw [w3.1 k hk, hfr k hk], fun j hj => by dsimp only; rw [w2 j hj, b3.2 _ (by omega)]; exact e7 j hj, fun j j1 j2 => by dsimp only; rw [w3.2 j (by omega), b3.2 j (by omega), e6 j j1 j2]⟩⟩
            refine g_ft_is _ N (i / 3) (by omega) e8 (fun _ => ?_)
            cases z : ge_rs W H V (nI f) n p (i / 3) with
            | true => rfl
            | false =>
              have := (ge_rs_f.mp z).2
              rw [hf3] at this
              exact absurd this cb
        · rw [if_neg (show ¬ nI (i % 3) = nI 2 by rw [nI_eq (by omega) (by omega)]; exact c2)]
          left
          refine ⟨_, rfl, Or.inl ⟨rfl, by rw [show (i + 1) / 3 = i / 3 by omega], nI_add i 1, by rw [show (i + 1) / 3 = i / 3 by omega]; exact e4, e5, e6, e7, fun j hj => e8 j (by omega), fun j j1 j2 => ?_⟩⟩
          by_cases cj : j = i
          · rw [cj]; exact c
          · exact e9 j (by omega) (by omega)
      · have h3s : ge_r3 a n (i / 3) = false := by
          cases z : ge_r3 a n (i / 3) with
          | false => rfl
          | true =>
            rw [ge_r3_iff] at z
            omega
        have hst : ge_rs W H V a n p (i / 3) = true := by
          cases z : ge_rs W H V a n p (i / 3) with
          | true => rfl
          | false => rw [(ge_rs_f.mp z).1] at h3s; cases h3s
        rw [hg_join_to (x := nI 2) (by
          intro j
          rw [nI_clamp (show k < 2 ^ 31 by omega), e5 102 (by omega), h2, if_neg (show ¬ nI l = -4 from z_neg (b := 4) (by omega) (by omega) _ (by omega)), kb, if_pos rfl, kb, e5 103 (by omega), h3, mm_in, hg_ladd a (by omega), Int32.toInt_toInt64, en, show (0 : Int64).toInt = 0 from rfl, z_bs, if_neg c, if_pos (show nI 0 = nI 0 from rfl)])]
        simp only [z_join]
        rw [if_neg (show ¬ nI 2 = nI 0 by decide)]
        left
        exact ⟨_, rfl, Or.inr ⟨i / 3, by omega, rfl, rfl, nI_add i 1, e4, e5, e6, h3s, g_ft_is _ N (i / 3) (by omega) e8 (fun _ => hst)⟩⟩
    · right
      rw [e3, nl3, pk_mul, if_neg (nI_ge hi (by omega)), if_neg (show ¬ x.1 = nI 0 by rw [e1]; decide)]
      exact ⟨_, rfl, _, rfl, fin x s e4 e5 e6 (by rw [e1, if_pos es]) e2 e8 (fun _ => e7)⟩
  · intro x hP
    rcases hP with ⟨e1, e2, e3, e4, e5, e6, e7, e8, e9⟩ | ⟨s, es, e1, e2, e3, e4, e5, e6, e7, e8⟩
    · rw [show 3 * N / 3 = N by omega] at e2 e4 e8
      rw [e3, nl3, pk_mul, if_pos (nI_le (Nat.le_refl _) (by omega))]
      exact ⟨_, rfl, _, rfl, fin x N e4 e5 e6 (by rw [e1, if_neg (Nat.lt_irrefl N)]) e2 (g_ft_is _ N N (Nat.le_refl _) e8 (fun z => absurd z (by omega))) (fun z => absurd z (by omega))⟩
    · rw [e3, nl3, pk_mul, if_pos (nI_le (Nat.le_refl _) (by omega))]
      exact ⟨_, rfl, _, rfl, fin x s e4 e5 e6 (by rw [e1, if_pos es]) e2 e8 (fun _ => e7)⟩
/-- a sheet that is nothing or of another lane -/
theorem mm_readF (hQ : hg_Q σ 0 p) {k l N : Nat} {t : Int32} (hk : k < 4) (hN1 : 1 ≤ N) (hN : N ≤ 13) (ha : 0 ≤ (nI k).toInt ∧ (nI k).toInt ≤ 3) (hb : 0 ≤ (nI l).toInt ∧ (nI l).toInt ≤ 2) (hd : 0 ≤ (nI N).toInt ∧ (nI N).toInt ≤ 13) (h2 : (σ 102 k = -4 ∧ t = nI 1) ∨ (¬ σ 102 k = -4 ∧ ¬ σ 102 k = nI l ∧ t = nI 3)) (a : Int32) : ∃ g, f_M_read (nI k) (nI l) a (nI N) σ = some g ∧ g.1 = nI 0 ∧ hg_Q g.2 0 p ∧ g.2 90 31 = t ∧ (∀ j, j ≠ 31 → g.2 90 j = σ 90 j) ∧ (∀ k, k ≠ 90 → k ≠ 91 → g.2 k = σ k) ∧ ∀ j, 110 ≤ j → j < 330 → g.2 91 j = σ 91 j := by
  obtain ⟨τ0, t1, t2, t3⟩ := mm_copies (A := 0) (B := 330) (by omega) (by omega) (by omega) σ
  have kb : ∀ {α : Type} (x y : α), (if z_ib (nI k) 4 = true then x else y) = x := fun x y => if_pos ((z_ibn (by omega)).mpr (by omega))
  have ht0 : ¬ t = nI 0 := by
    rcases h2 with ⟨-, rfl⟩ | ⟨-, -, rfl⟩ <;> decide
  unfold f_M_read
  rw [km_0_3, z_bs, if_pos ha, if_neg (show ¬ nI 1 = 0 by decide), km_0_2, z_bs, if_pos hb, if_neg (show ¬ nI 1 = 0 by decide), km_0_13, z_bs, if_pos hd, if_neg (show ¬ nI 1 = 0 by decide), nl330, nl0, t1, z_bs]
  refine z_lp (fun i (x : Int32 × Int32 × Int32 × zS) => x.2.2.2 = τ0 ∧ x.2.1 = nI 0 ∧ x.2.2.1 = nI i ∧ ((i = 0 ∧ x.1 = nI 0) ∨ x.1 = t)) 1 ?_ ?_ ?_
  · exact ⟨rfl, rfl, rfl, Or.inl ⟨rfl, rfl⟩⟩
  · intro i x hi hP
    obtain ⟨e1, e2, e3, e4⟩ := hP
    have i0 : i = 0 := by omega
    subst i0
    rcases e4 with ⟨-, e4⟩ | e4
    · rw [e1, e2, e3, e4, nl3, pk_mul, if_neg (nI_ge (show 0 < 3 * N by omega) (by omega)), if_pos (show nI 0 = nI 0 from rfl), kb, nl1, nl2]
      rw [hg_join_to (x := t) (by
        intro j
        rw [nI_clamp (show k < 2 ^ 31 by omega), t3.1 102 (by omega)]
        rcases h2 with ⟨q1, q2⟩ | ⟨q1, q2, q3⟩
        · rw [if_pos q1, q2]
        · rw [if_neg q1, kb, if_neg q2, q3])]
      simp only [z_join]
      rw [if_neg ht0]
      left
      exact ⟨_, rfl, rfl, rfl, nI_add 0 1, Or.inr rfl⟩
    · right
      rw [e1, e2, e3, e4, nl3, pk_mul, if_neg (nI_ge (show 0 < 3 * N by omega) (by omega)), if_neg ht0]
      refine ⟨_, rfl, _, rfl, rfl, fun j hj => ?_, by dsimp only; rw [hg_u_s], fun j hj => by dsimp only; rw [hg_u_j hj, t3.1 90 (by omega)], fun c c1 c2 => by dsimp only; rw [hg_u_n c1, t3.1 c c2], fun j j1 j2 => by dsimp only; rw [hg_u_n (by omega), t3.2 j (by omega)]⟩
      dsimp only
      rw [hg_u_n (by omega), t3.2 _ (by omega)]
      exact hQ j hj
  · intro x hP
    obtain ⟨e1, e2, e3, e4⟩ := hP
    have e4 : x.1 = t := by
      rcases e4 with ⟨z, -⟩ | e4
      · omega
      · exact e4
    rw [e1, e2, e3, e4, nl3, pk_mul, if_neg (nI_ge (show 1 < 3 * N by omega) (by omega)), if_neg ht0]
    refine ⟨_, rfl, _, rfl, rfl, fun j hj => ?_, by dsimp only; rw [hg_u_s], fun j hj => by dsimp only; rw [hg_u_j hj, t3.1 90 (by omega)], fun c c1 c2 => by dsimp only; rw [hg_u_n c1, t3.1 c c2], fun j j1 j2 => by dsimp only; rw [hg_u_n (by omega), t3.2 j (by omega)]⟩
    dsimp only
    rw [hg_u_n (by omega), t3.2 _ (by omega)]
    exact hQ j hj
end RD
