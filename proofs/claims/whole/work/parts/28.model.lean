/-! the reference's garden and its weeks -/
def hg_M (σ : zS) (W H R : Nat) : Prop := σ 90 1 = nI W ∧ σ 90 2 = nI H ∧ σ 90 3 = nI R ∧ ∀ k, k < 15 → σ 92 k = if g_wt k = 9 then - nI 4 else nI (g_wt k)
def hg_Q (σ : zS) (P : Nat) (p : Nat → Nat) : Prop := ∀ k, k < 110 → σ 91 (P + k) = nI (p k)
def g_up (p : Nat → Nat) (i v : Nat) : Nat → Nat := fun k => if k = i then v else p k
theorem g_up_s {p : Nat → Nat} {i v : Nat} : g_up p i v i = v := if_pos rfl
theorem g_up_n {p : Nat → Nat} {i v k : Nat} (h : k ≠ i) : g_up p i v k = p k := if_neg h
theorem hg_Q_up {σ : zS} {P : Nat} {p : Nat → Nat} {i v : Nat} (h : hg_Q σ P p) : hg_Q (z_u σ 91 (P + i) (nI v)) P (g_up p i v) := by
  intro k hk
  by_cases c : k = i
  · subst c
    rw [hg_u_s, g_up_s]
  · rw [hg_u_j (by omega), g_up_n c]
    exact h k hk
theorem hg_Q_c {σ τ : zS} {P : Nat} {p : Nat → Nat} (h : hg_Q σ P p) (e : τ 91 = σ 91) : hg_Q τ P p := by
  intro k hk
  rw [e]
  exact h k hk
theorem hg_Q_p {σ : zS} {P : Nat} {p q : Nat → Nat} (h : hg_Q σ P p) (e : ∀ k, k < 110 → p k = q k) : hg_Q σ P q := by
  intro k hk
  rw [h k hk, e k hk]
theorem hg_M_c {σ τ : zS} {W H R : Nat} (h : hg_M σ W H R) (e : τ 90 = σ 90) (e2 : τ 92 = σ 92) : hg_M τ W H R := by
  unfold hg_M at *
  rw [e, e2]
  exact h
theorem mm_in (a b c : Int64) (σ : zS) : f_M_in a b c σ = some (nI (if b.toInt ≤ a.toInt ∧ a.toInt ≤ c.toInt then 1 else 0)) := by
  unfold f_M_in
  have h1 : lg_cmp a b < 0 ↔ a.toInt < b.toInt := by
    unfold lg_cmp
    rw [← Int64.lt_iff_toInt_lt]
    by_cases c1 : a > b
    · rw [if_pos c1]
      constructor
      · intro h; exact absurd h (by decide)
      · intro h
        rw [Int64.lt_iff_toInt_lt] at h
        have c1 : b < a := c1
        rw [Int64.lt_iff_toInt_lt] at c1
        omega
    · rw [if_neg c1]
      by_cases c2 : a = b
      · rw [if_pos c2]
        subst c2
        constructor
        · intro h; exact absurd h (by decide)
        · intro h
          rw [Int64.lt_iff_toInt_lt] at h
          omega
      · rw [if_neg c2]
        constructor
        · intro _
          rw [Int64.lt_iff_toInt_lt]
          have c1 : ¬ b < a := c1
          rw [Int64.lt_iff_toInt_lt] at c1
          have c2 : ¬ a.toInt = b.toInt := fun z => c2 (Int64.toInt_inj.mp z)
          omega
        · intro _; decide
  have h2 : 0 < lg_cmp a c ↔ c.toInt < a.toInt := by
    unfold lg_cmp
    rw [← Int64.lt_iff_toInt_lt]
    by_cases c1 : a > c
    · rw [if_pos c1]
      exact ⟨fun _ => c1, fun _ => by decide⟩
    · rw [if_neg c1]
      have c1 : ¬ c < a := c1
      constructor
      · intro h
        exfalso
        revert h
        split <;> decide
      · intro h
        exact absurd h c1
  simp only [h1, h2]
  by_cases q1 : a.toInt < b.toInt
  · rw [if_pos q1, if_neg (by omega)]; rfl
  · rw [if_neg q1]
    by_cases q2 : c.toInt < a.toInt
    · rw [if_pos q2, if_neg (by omega)]; rfl
    · rw [if_neg q2, if_pos (by omega)]; rfl
theorem mm_inI (a : Int32) (b c : Int64) (σ : zS) : f_M_in a.toInt64 b c σ = some (nI (if b.toInt ≤ a.toInt ∧ a.toInt ≤ c.toInt then 1 else 0)) := by
  rw [mm_in, Int32.toInt_toInt64]
section M0
variable {σ : zS} {p : Nat → Nat} {W H R P : Nat}
theorem mm_isCell (hD : hg_D W H R) (hM : hg_M σ W H R) (a : Int32) : f_M_isCell a σ = some (nI (if 0 ≤ a.toInt ∧ a.toInt < ((W * H : Nat) : Int) then 1 else 0)) := by
  obtain ⟨n1, n2⟩ := hg_D_N hD
  unfold f_M_isCell
  rw [hM.1, hM.2.1, pk_mul, nl1, pk_sub (by omega), mm_inI, z_bs, nl0, if_pos (hg_b01 _), Int32.toInt_toInt64, nI_toInt (by omega)]
  have e0 : (0 : Int64).toInt = 0 := rfl
  rw [e0]
  congr 2
  by_cases q : 0 ≤ a.toInt ∧ a.toInt < ((W * H : Nat) : Int)
  · rw [if_pos q, if_pos (by omega)]
  · rw [if_neg q, if_neg (by omega)]
theorem mm_isRule (hD : hg_D W H R) (hM : hg_M σ W H R) (a : Int32) : f_M_isRule a σ = some (nI (if 0 ≤ a.toInt ∧ a.toInt < (R : Int) then 1 else 0)) := by
  obtain ⟨-, -, -, -, d5⟩ := hD
  unfold f_M_isRule
  have e1 : (nI R - nI 1).toInt = (R : Int) - 1 := pk_sub_toInt (by omega) (by omega)
  rw [hM.2.2.1, nl1, mm_inI, z_bs, nl0, if_pos (hg_b01 _), Int32.toInt_toInt64, e1]
  have e0 : (0 : Int64).toInt = 0 := rfl
  rw [e0]
  congr 2
  by_cases q : 0 ≤ a.toInt ∧ a.toInt < (R : Int)
  · rw [if_pos q, if_pos (by omega)]
  · rw [if_neg q, if_neg (by omega)]
theorem mm_isSeason (a : Int32) (σ : zS) : f_M_isSeason a σ = some (nI (if 0 ≤ a.toInt ∧ a.toInt ≤ 3 then 1 else 0)) := by
  unfold f_M_isSeason
  rw [mm_inI, z_bs]
  exact if_pos (hg_b01 _)
theorem mm_lies (hV : hg_V p R) (hQ : hg_Q σ P p) (hP : P ≤ 440) {c : Nat} (hc : c < 16) : f_M_lies (nI P) (nI c) σ = some (nI (g_l p c)) := by
  obtain ⟨v1, v2, v3, v4, v5⟩ := hV.1 c hc
  unfold f_M_lies
  simp only [nl5, nl1, nl4, nl0, pk_mul, nI_add, Nat.add_assoc, if_pos ((z_ibn (show P + (5 * c + 1) < 2 ^ 31 by omega)).mpr (show P + (5 * c + 1) < 550 by omega)), if_pos ((z_ibn (show P + 5 * c < 2 ^ 31 by omega)).mpr (show P + 5 * c < 550 by omega)), nI_clamp (show P + (5 * c + 1) < 2 ^ 31 by omega), nI_clamp (show P + 5 * c < 2 ^ 31 by omega), hQ (5 * c + 1) (by omega), hQ (5 * c) (by omega), nI_eq (show p (5 * c + 1) < 2 ^ 31 by omega) (show 0 < 2 ^ 31 by omega)]
  unfold g_l
  by_cases q : p (5 * c + 1) = 0
  · rw [if_pos q, if_pos q]
  · rw [if_neg q, if_neg q]
theorem mm_cropIn (hV : hg_V p R) (hQ : hg_Q σ P p) (hP : P ≤ 440) {c : Nat} (hc : c < 16) : f_M_cropIn (nI P) (nI c) σ = some (g_k p c) := by
  obtain ⟨v1, v2, v3, v4, v5⟩ := hV.1 c hc
  unfold f_M_cropIn
  simp only [nl5, nl1, nl2, nl0, pk_mul, nI_add, Nat.add_assoc, if_pos ((z_ibn (show P + (5 * c + 2) < 2 ^ 31 by omega)).mpr (show P + (5 * c + 2) < 550 by omega)), nI_clamp (show P + (5 * c + 2) < 2 ^ 31 by omega), hQ (5 * c + 2) (by omega), nI_eq (show p (5 * c + 2) < 2 ^ 31 by omega) (show 0 < 2 ^ 31 by omega)]
  unfold g_k
  by_cases q : p (5 * c + 2) = 0
  · rw [if_pos q, if_pos q]
    rfl
  · rw [if_neg q, if_neg q, pk_sub (by omega)]
theorem mm_isWalled (hV : p 80 < 2 ^ 32) (hQ : hg_Q σ P p) (hP : P ≤ 440) {e : Nat} (he : e < 32) : f_M_isWalled (nI P) (nI e) σ = some (nI (if (p 80).testBit e = true then 1 else 0)) := by
  unfold f_M_isWalled
  rw [nl80, nI_add, if_pos ((z_ibn (by omega)).mpr (by omega)), nI_clamp (by omega), hQ 80 (by omega), nl1, nl31, z_sbit hV he]
  cases hb : (p 80).testBit e with
  | true => exact if_pos rfl
  | false => exact if_neg (by decide)
theorem hg_west {W c : Nat} (h2 : 2 ≤ W) (h4 : W ≤ 4) : 0 < c % W ↔ (0 < c ∧ (c - 1) % W + 1 < W) := by
  have : W = 2 ∨ W = 3 ∨ W = 4 := by omega
  rcases this with e | e | e
  · subst e; omega
  · subst e; omega
  · subst e; omega
theorem hg_blk2 {γ : Type} {A : Bool} {l s : Nat} (hl : l < 2 ^ 31) (hs : s < 2 ^ 31) {j : Int32 → Option γ} {t : Nat} {x : Int32} (hx : x = nI (if A = true ∧ l = s then t + 1 else t)) (hA : A = true) : z_join (fun t10 : Int32 × Int32 => j (t10.2 + t10.1)) (fun j10 => if nI l = nI s then j10 (nI 1, nI t) else j10 (nI 0, nI t)) = j x := by
  simp only [z_join, nI_eq hl hs]
  by_cases q : l = s
  · rw [if_pos q, hx, if_pos ⟨hA, q⟩, nI_add]
  · rw [if_neg q, hx, if_neg (fun z => q z.2), nI_add]
    rfl
theorem mm_nextWith (hD : hg_D W H R) (hM : hg_M σ W H R) (hV : hg_V p R) (hQ : hg_Q σ P p) (hP : P ≤ 440) {c s : Nat} (hc : c < W * H) (hs : s < 2 ^ 31) : f_M_nextWith (nI P) (nI c) (nI s) σ = some (nI (g_nx p W H c s)) := by
  obtain ⟨n1, n2⟩ := hg_D_N hD
  obtain ⟨d1, d2, d3, d4, d5⟩ := id hD
  have hl : ∀ k, k < 16 → g_l p k < 2 ^ 31 := fun k hk => by have := hg_V_l hV hk; omega
  have hm : c % W < W := Nat.mod_lt _ (by omega)
  unfold f_M_nextWith
  rw [hM.1, hM.2.1, nl0, nl1, nl2]
  simp only [if_neg (show ¬ nI W = nI 0 by rw [nI_eq (by omega) (by omega)]; omega), pk_mul, nI_add, pk_rem (show c < 2 ^ 31 by omega) (show 0 < W by omega) (show W < 2 ^ 31 by omega)]
  refine (hg_join_to (x := nI (if g_n p W c = true ∧ g_l p (c - W) = s then 0 + 1 else 0)) (fun j => ?_)).trans ?_
  · simp only [nI_ltI (show c < 2 ^ 31 by omega) (show W < 2 ^ 31 by omega)]
    by_cases q : c < W
    · rw [if_pos q, if_neg (fun z => by
        have z1 := z.1
        simp only [g_n, Bool.and_eq_true, decide_eq_true_eq] at z1
        omega)]
    · rw [if_neg q, pk_sub (by omega), pk_mul, nI_add, mm_isWalled hV.2.1 hQ hP (show 2 * (c - W) + 1 < 32 by omega), z_bs]
      cases b : (p 80).testBit (2 * (c - W) + 1) with
      | true =>
        rw [if_neg (by rw [if_pos rfl]; decide), if_neg (fun z => by
          have z1 := z.1
          simp only [g_n, b, Bool.not_true, Bool.and_false] at z1
          exact Bool.false_ne_true z1)]
      | false =>
        rw [if_pos (by rw [if_neg Bool.false_ne_true]), mm_lies hV hQ hP (show c - W < 16 by omega), z_bs]
        exact hg_blk2 (A := g_n p W c) (hl _ (by omega)) hs rfl (by simp only [g_n, b, Bool.not_false, Bool.and_true, decide_eq_true_eq]; omega)
  generalize hu : (if g_n p W c = true ∧ g_l p (c - W) = s then 0 + 1 else 0) = u
  refine (hg_join_to (x := nI (if g_w p W c = true ∧ g_l p (c - 1) = s then u + 1 else u)) (fun j => ?_)).trans ?_
  · simp only [nI_leI (show c % W < 2 ^ 31 by omega) (show 0 < 2 ^ 31 by omega)]
    by_cases q : c % W ≤ 0
    · rw [if_pos q, if_neg (fun z => by
        have z1 := z.1
        simp only [g_w, Bool.and_eq_true, decide_eq_true_eq] at z1
        have := (hg_west (c := c) d1 d2).mpr z1.1
        omega)]
    · have q2 := (hg_west (c := c) d1 d2).mp (by omega)
      rw [if_neg q, pk_sub (by omega), pk_mul, mm_isWalled hV.2.1 hQ hP (show 2 * (c - 1) < 32 by omega), z_bs]
      cases b : (p 80).testBit (2 * (c - 1)) with
      | true =>
        rw [if_neg (by rw [if_pos rfl]; decide), if_neg (fun z => by
          have z1 := z.1
          simp only [g_w, show 2 * c - 2 = 2 * (c - 1) by omega, b, Bool.not_true, Bool.and_false] at z1
          exact Bool.false_ne_true z1)]
      | false =>
        rw [if_pos (by rw [if_neg Bool.false_ne_true]), mm_lies hV hQ hP (show c - 1 < 16 by omega), z_bs]
        exact hg_blk2 (A := g_w p W c) (hl _ (by omega)) hs rfl (by simp only [g_w, show 2 * c - 2 = 2 * (c - 1) by omega, b, Bool.not_false, Bool.and_true, Bool.and_eq_true, decide_eq_true_eq]; exact q2)
  generalize hu2 : (if g_w p W c = true ∧ g_l p (c - 1) = s then u + 1 else u) = u2
  refine (hg_join_to (x := nI (if g_e p W c = true ∧ g_l p (c + 1) = s then u2 + 1 else u2)) (fun j => ?_)).trans ?_
  · simp only [nI_leI (show W < 2 ^ 31 by omega) (show c % W + 1 < 2 ^ 31 by omega)]
    by_cases q : W ≤ c % W + 1
    · rw [if_pos q, if_neg (fun z => by
        have z1 := z.1
        simp only [g_e, Bool.and_eq_true, decide_eq_true_eq] at z1
        omega)]
    · have q2 := hg_east d1 d2 d4 hc (by omega)
      rw [if_neg q, mm_isWalled hV.2.1 hQ hP (show 2 * c < 32 by omega), z_bs]
      cases b : (p 80).testBit (2 * c) with
      | true =>
        rw [if_neg (by rw [if_pos rfl]; decide), if_neg (fun z => by
          have z1 := z.1
          simp only [g_e, b, Bool.not_true, Bool.and_false] at z1
          exact Bool.false_ne_true z1)]
      | false =>
        rw [if_pos (by rw [if_neg Bool.false_ne_true]), mm_lies hV hQ hP (show c + 1 < 16 by omega), z_bs]
        exact hg_blk2 (A := g_e p W c) (hl _ (by omega)) hs rfl (by simp only [g_e, b, Bool.not_false, Bool.and_true, decide_eq_true_eq]; omega)
  generalize hu3 : (if g_e p W c = true ∧ g_l p (c + 1) = s then u2 + 1 else u2) = u3
  simp only [nI_leI (show W * H < 2 ^ 31 by omega) (show c + W < 2 ^ 31 by omega)]
  have fin : (if g_s p W H c = true ∧ g_l p (c + W) = s then u3 + 1 else u3) = g_nx p W H c s := by
    subst hu; subst hu2; subst hu3
    unfold g_nx
    by_cases a1 : g_n p W c = true ∧ g_l p (c - W) = s <;> by_cases a2 : g_w p W c = true ∧ g_l p (c - 1) = s <;> by_cases a3 : g_e p W c = true ∧ g_l p (c + 1) = s <;> by_cases a4 : g_s p W H c = true ∧ g_l p (c + W) = s <;> simp only [a1, a2, a3, a4, and_self, if_true, if_false]
  rw [← fin]
  by_cases q : W * H ≤ c + W
  · rw [if_pos q, if_neg (fun z => by
      have z1 := z.1
      simp only [g_s, Bool.and_eq_true, decide_eq_true_eq] at z1
      omega)]
  · rw [if_neg q, mm_isWalled hV.2.1 hQ hP (show 2 * c + 1 < 32 by omega), z_bs]
    cases b : (p 80).testBit (2 * c + 1) with
    | true =>
      rw [if_neg (by rw [if_pos rfl]; decide), if_neg (fun z => by
        have z1 := z.1
        simp only [g_s, b, Bool.not_true, Bool.and_false] at z1
        exact Bool.false_ne_true z1)]
    | false =>
      rw [if_pos (by rw [if_neg Bool.false_ne_true]), mm_lies hV hQ hP (show c + W < 16 by omega), z_bs]
      exact hg_blk2 (A := g_s p W H c) (j := some) (hl _ (by omega)) hs rfl (by simp only [g_s, b, Bool.not_false, Bool.and_true, decide_eq_true_eq]; omega)
theorem mm_fitting (hD : hg_D W H R) (hM : hg_M σ W H R) (hV : hg_V p R) (hQ : hg_Q σ P p) (hP : P ≤ 440) {c : Nat} (hc : c < W * H) : f_M_fitting (nI P) (nI c) σ = some (g_F p W H R c) := by
  obtain ⟨n1, n2⟩ := hg_D_N hD
  obtain ⟨d1, d2, d3, d4, d5⟩ := id hD
  have hl := hg_V_l hV (show c < 16 by omega)
  unfold f_M_fitting
  refine z_ex (z_lp (fun i (s : Int32) => s = nI i ∧ i ≤ R ∧ ∀ j, j < i → g_q p W H c j = false) R ?_ ?_ ?_)
  · exact ⟨rfl, by omega, fun j hj => by omega⟩
  ·
      intro i s hi hP2
      obtain ⟨e1, e2, e3⟩ := hP2
      subst e1
      obtain ⟨v1, v2, v3, v4⟩ := hV.2.2.1 i hi
      rw [hM.2.2.1, if_neg (nI_ge hi (by omega))]
      simp only [z_let, mm_lies hV hQ hP (show c < 16 by omega), z_bs, z_join, nl81, nl3, nl1, nl2, pk_mul, nI_add, Nat.add_assoc]
      rw [show P + (81 + (3 * i + 1)) = P + (82 + 3 * i) by omega, show P + (81 + (3 * i + 2)) = P + (83 + 3 * i) by omega]
      simp only [if_pos ((z_ibn (show P + (82 + 3 * i) < 2 ^ 31 by omega)).mpr (show P + (82 + 3 * i) < 550 by omega)), if_pos ((z_ibn (show P + (81 + 3 * i) < 2 ^ 31 by omega)).mpr (show P + (81 + 3 * i) < 550 by omega)), if_pos ((z_ibn (show P + (83 + 3 * i) < 2 ^ 31 by omega)).mpr (show P + (83 + 3 * i) < 550 by omega)), nI_clamp (show P + (82 + 3 * i) < 2 ^ 31 by omega), nI_clamp (show P + (81 + 3 * i) < 2 ^ 31 by omega), nI_clamp (show P + (83 + 3 * i) < 2 ^ 31 by omega), hQ (82 + 3 * i) (by omega), hQ (81 + 3 * i) (by omega), hQ (83 + 3 * i) (by omega), mm_nextWith hD hM hV hQ hP hc (show p (81 + 3 * i) < 2 ^ 31 by omega), z_bs, nI_eq (show g_l p c < 2 ^ 31 by omega) (show p (82 + 3 * i) < 2 ^ 31 by omega)]
      have hx : g_nx p W H c (p (81 + 3 * i)) < 2 ^ 31 := by
        unfold g_nx
        have : ∀ (P : Prop) [Decidable P], (if P then 1 else 0) ≤ 1 := by
          intro P _
          split <;> omega
        have t1 := this (g_e p W c = true ∧ g_l p (c + 1) = p (81 + 3 * i))
        have t2 := this (g_w p W c = true ∧ g_l p (c - 1) = p (81 + 3 * i))
        have t3 := this (g_s p W H c = true ∧ g_l p (c + W) = p (81 + 3 * i))
        have t4 := this (g_n p W c = true ∧ g_l p (c - W) = p (81 + 3 * i))
        omega
      simp only [nI_ltI hx (show p (83 + 3 * i) < 2 ^ 31 by omega)]
      cases hqk : g_q p W H c i with
      | false =>
        left
        refine ⟨nI (i + 1), ?_, rfl, by omega, fun j hj => ?_⟩
        · by_cases a : g_l p c = p (82 + 3 * i)
          · rw [if_pos a]
            by_cases b : g_nx p W H c (p (81 + 3 * i)) < p (83 + 3 * i)
            · rw [if_pos b]
            · exfalso
              have : g_q p W H c i = true := by
                simp only [g_q, a, decide_true, Bool.true_and, decide_eq_true_eq]
                omega
              rw [this] at hqk
              exact Bool.noConfusion hqk
          · rw [if_neg a]
        · by_cases cj : j = i
          · rw [cj]; exact hqk
          · exact e3 j (by omega)
      | true =>
        right
        have hqk2 := hqk
        simp only [g_q, Bool.and_eq_true, decide_eq_true_eq] at hqk2
        refine ⟨_, (by rw [if_pos hqk2.1, if_neg (by omega)]), _, rfl, ?_⟩
        have := g_ft_is (g_q p W H c) R i (by omega) e3 (fun _ => hqk)
        unfold g_F g_f
        rw [this, if_pos hi]
  ·
      intro s hP2
      obtain ⟨e1, e2, e3⟩ := hP2
      subst e1
      rw [hM.2.2.1, if_pos (nI_le (Nat.le_refl _) (by omega))]
      refine ⟨_, rfl, _, rfl, ?_⟩
      have := g_ft_is (g_q p W H c) R R (Nat.le_refl _) e3 (fun z => absurd z (by omega))
      unfold g_F g_f
      rw [this, if_neg (by omega)]
      rfl
theorem g_wt_le : ∀ i, g_wt i ≤ 9 := by
  intro i
  by_cases h : i < 15
  · have : ∀ i, i < 15 → g_wt i ≤ 9 := by decide
    exact this i h
  · unfold g_wt
    rw [List.getD_eq_getElem?_getD, List.getElem?_eq_none (by show 15 ≤ i; omega)]
    exact Nat.le_refl 9
theorem hg_wi {s g : Nat} (hs : s < 5) (hg : g ≤ 9) : (nI s = if g = 9 then - nI 4 else nI g) ↔ s = g := by
  by_cases c : g = 9
  · rw [if_pos c]
    constructor
    · intro h
      exact absurd h (z_neg (b := 4) (by omega) (by omega) _ (by omega))
    · intro h
      omega
  · rw [if_neg c, nI_eq (by omega) (by omega)]
theorem hg_w4 {g : Nat} (hg : g ≤ 9) : ((if g = 9 then - nI 4 else nI g) = (-4 : Int32)) ↔ g = 9 := by
  by_cases c : g = 9
  · rw [if_pos c]
    exact ⟨fun _ => c, fun _ => rfl⟩
  · rw [if_neg c]
    constructor
    · intro h
      exact absurd h (z_neg (b := 4) (by omega) (by omega) _ (by omega))
    · intro h
      exact absurd h c
theorem mm_stageBy (hM : hg_M σ W H R) {k t s : Nat} (hk : k < 5) (ht : t < 3) (hs : s < 5) : f_M_stageBy (nI k) (nI t) (nI s) σ = some (nI (g_sb k t s)) := by
  have w := hM.2.2.2
  unfold f_M_stageBy
  simp only [nl3, nl1, nl2, nl4, nl0, pk_mul, nI_add, z_let, z_join, if_pos ((z_ibn (show 3 * k + t < 2 ^ 31 by omega)).mpr (show 3 * k + t < 15 by omega)), nI_clamp (show 3 * k + t < 2 ^ 31 by omega), w (3 * k + t) (by omega), hg_wi hs (g_wt_le _), nI_leI (show 2 < 2 ^ 31 by omega) (show t < 2 ^ 31 by omega)]
  unfold g_sb
  by_cases a : s = g_wt (3 * k + t)
  · rw [if_pos a, if_pos a]
    by_cases b : 2 ≤ t
    · rw [if_pos b, if_neg (fun z : t < 2 ∧ ¬ g_wt (3 * k + t + 1) = 9 => by omega)]
      first
        | rw [if_pos trivial]
        | rw [if_pos rfl]
    · rw [if_neg b, if_pos ((z_ibn (by omega)).mpr (by omega)), nI_clamp (by omega), w (3 * k + t + 1) (by omega)]
      simp only [show (-nI 4 : Int32) = -4 from rfl]
      have h4 := hg_w4 (g_wt_le (3 * k + t + 1))
      simp only [show (-nI 4 : Int32) = -4 from rfl] at h4
      simp only [h4]
      by_cases d : g_wt (3 * k + t + 1) = 9
      · rw [if_pos d, if_pos trivial, if_neg (fun z : t < 2 ∧ ¬ g_wt (3 * k + t + 1) = 9 => z.2 d)]
      · rw [if_neg d, if_neg (by decide), if_pos ⟨by omega, d⟩]
  · rw [if_neg a, if_neg a]
    simp only [nI_eq (show t < 2 ^ 31 by omega) (show 0 < 2 ^ 31 by omega)]
    by_cases b : t = 0
    · rw [if_pos b, if_pos (Or.inl b)]
    · rw [if_neg b, pk_sub (by omega), if_pos ((z_ibn (by omega)).mpr (by omega)), nI_clamp (by omega), w (3 * k + t - 1) (by omega)]
      simp only [hg_wi hs (g_wt_le _)]
      by_cases d : s = g_wt (3 * k + t - 1)
      · rw [if_pos d, if_pos (Or.inr d)]
      · rw [if_neg d, if_neg (fun z => z.elim b d)]
end M0
