/-! a week over a garden, as the class goes -/
theorem hg_join_to {T γ : Type} {rest : T → Option γ} {body : (T → Option γ) → Option γ} {x : T} (h : ∀ j, body j = j x) : z_join rest body = rest x := h rest
theorem hg_blk {γ : Type} {A B : Prop} [Decidable A] [Decidable B] {j : Int32 → Option γ} {t v x : Int32} (hx : x = if A ∧ ¬ B then v else t) : (if nI (if A then 1 else 0) = 0 then j t else (some (nI (if B then 0 else 1))).bind fun r => if r = 0 then j t else z_let v fun v => j v) = j x := by
  subst hx
  by_cases a : A
  · rw [if_neg (by rw [if_pos a]; decide), z_bs]
    by_cases b : B
    · rw [if_pos (by rw [if_pos b]; rfl), if_neg (fun z => z.2 b)]
    · rw [if_neg (by rw [if_neg b]; decide), if_pos ⟨a, b⟩]
      rfl
  · rw [if_pos (by rw [if_neg a]; rfl), if_neg (fun z => a z.1)]
def hg_fl (σ : zS) (k N : Nat) (a : Int32) : zS := fun k' => if k' = k then fun j => if j < N then a else σ k j else σ k'
theorem hg_fl_s {σ : zS} {k N j : Nat} {a : Int32} (h : j < N) : hg_fl σ k N a k j = a := by
  unfold hg_fl
  rw [if_pos rfl]
  exact if_pos h
theorem hg_fl_n {σ : zS} {k N k' : Nat} {a : Int32} (h : k' ≠ k) : hg_fl σ k N a k' = σ k' := by
  unfold hg_fl
  rw [if_neg h]
theorem hg_u_s {σ : zS} {k j : Nat} {x : Int32} : z_u σ k j x k j = x := by
  unfold z_u
  rw [if_pos rfl]
  exact pk_us
theorem hg_u_j {σ : zS} {k j j' : Nat} {x : Int32} (h : j' ≠ j) : z_u σ k j x k j' = σ k j' := by
  unfold z_u
  rw [if_pos rfl]
  exact pk_un h
theorem hg_u_n {σ : zS} {k j k' : Nat} {x : Int32} (h : k' ≠ k) : z_u σ k j x k' = σ k' := by
  unfold z_u
  rw [if_neg h]
theorem hg_fl_0 {σ : zS} {k : Nat} {a : Int32} : hg_fl σ k 0 a = σ := by
  funext k' j
  unfold hg_fl
  by_cases e : k' = k
  · rw [if_pos e, e]
    exact if_neg (Nat.not_lt_zero j)
  · rw [if_neg e]
theorem hg_fl_u {σ : zS} {k i : Nat} {a : Int32} : z_u (hg_fl σ k i a) k i a = hg_fl σ k (i + 1) a := by
  funext k' j
  by_cases e : k' = k
  · subst e
    by_cases e2 : j = i
    · subst e2
      rw [hg_u_s, hg_fl_s (by omega)]
    · rw [hg_u_j e2]
      unfold hg_fl
      rw [if_pos rfl, if_pos rfl]
      by_cases e3 : j < i
      · rw [if_pos e3, if_pos (by omega)]
      · rw [if_neg e3, if_neg (by omega)]
  · rw [hg_u_n e, hg_fl_n e, hg_fl_n e]
theorem hg_fill (k N : Nat) (M : Int32) (hM : M = nI N) (hN : N < 2 ^ 31) (a : Int32) (σ : zS) : z_loop (S := Int32 × zS) (β := zS) (fun s1 => if M ≤ s1.1 then some (.inr s1.2) else if z_ib s1.1 N = true then z_let (z_u s1.2 k s1.1.toNatClampNeg a) fun τ4 => some (.inl ((s1.1 + (1 : Int32)), τ4)) else none) ((0 : Int32), σ) = some (hg_fl σ k N a) := by
  subst hM
  refine Eq.trans (congrArg _ (show ((0 : Int32), σ) = (nI 0, hg_fl σ k 0 a) by rw [hg_fl_0]; rfl)) (z_forF (fun i => (nI i, hg_fl σ k i a)) (hg_fl σ k N a) N (fun i hi => ?_) ?_)
  · dsimp only
    rw [if_neg (nI_ge hi hN), if_pos ((z_ibn (by omega)).mpr hi), nI_clamp (by omega)]
    simp only [z_let]
    rw [hg_fl_u, nI_1]
  · dsimp only
    rw [if_pos (nI_le (Nat.le_refl N) hN)]
def g_bs (q : Nat → Bool) : Nat → Nat
  | 0 => 0
  | n + 1 => if q n = true then g_bs q n ||| 2 ^ n else g_bs q n
theorem g_bs_t (q : Nat → Bool) (i : Nat) : ∀ n, (g_bs q n).testBit i = (decide (i < n) && q i)
  | 0 => by simp [g_bs]
  | n + 1 => by
    rw [g_bs]
    by_cases c : q n = true
    · rw [if_pos c, Nat.testBit_or, g_bs_t q i n, Nat.testBit_two_pow]
      by_cases e : i = n
      · subst e
        simp [c]
      · simp only [show (n = i) ↔ False from ⟨fun z => e z.symm, False.elim⟩, show (i < n + 1) ↔ (i < n) by omega, decide_false, Bool.or_false]
    · rw [if_neg c, g_bs_t q i n]
      by_cases e : i = n
      · subst e
        simp [c]
      · simp only [show (i < n + 1) ↔ (i < n) by omega]
theorem g_bs_lt (q : Nat → Bool) : ∀ n, g_bs q n < 2 ^ n
  | 0 => by simp [g_bs]
  | n + 1 => by
    have h := g_bs_lt q n
    have h2 : 2 ^ n < 2 ^ (n + 1) := Nat.pow_lt_pow_succ (by omega)
    rw [g_bs]
    split
    · exact Nat.or_lt_two_pow (by omega) h2
    · omega
theorem g_ct_b (x : Nat → Bool) (m : Nat) (b : Bool) {i n : Nat} (hi : b = true → i < n) (hm : b = true → m.testBit i = false) : g_ct (fun k => x k && (m ||| (if b = true then 2 ^ i else 0)).testBit k) n = g_ct (fun k => x k && m.testBit k) n + (if b = true ∧ x i = true then 1 else 0) := by
  cases b with
  | false =>
    simp
  | true =>
    rw [g_ct_1 (q := fun k => x k && m.testBit k) (hi rfl) (by simp [hm rfl])]
    · congr 1
      simp [Nat.testBit_or]
    · intro k hk hn
      simp [Nat.testBit_or, Nat.testBit_two_pow, show ¬ i = k from fun z => hn z.symm]
/-- the neighbours in a row of bits, as the class counts them -/
def g_nb (p : Nat → Nat) (W H c : Nat) : Nat := (((0 ||| (if g_e p W c = true then 2 ^ (c + 1) else 0)) ||| (if g_w p W c = true then 2 ^ (c - 1) else 0)) ||| (if g_s p W H c = true then 2 ^ (c + W) else 0)) ||| (if g_n p W c = true then 2 ^ (c - W) else 0)
/-- how many neighbours a season has -/
def g_nx (p : Nat → Nat) (W H c s : Nat) : Nat := (if g_e p W c = true ∧ g_l p (c + 1) = s then 1 else 0) + (if g_w p W c = true ∧ g_l p (c - 1) = s then 1 else 0) + (if g_s p W H c = true ∧ g_l p (c + W) = s then 1 else 0) + (if g_n p W c = true ∧ g_l p (c - W) = s then 1 else 0)
theorem hg_east {W H c : Nat} (hW : 2 ≤ W) (hW4 : W ≤ 4) (hH : H ≤ 4) (h : c < W * H) (e : c % W + 1 < W) : c + 1 < W * H := by
  rcases Nat.lt_or_ge (c + 1) (W * H) with q | q
  · exact q
  · exfalso
    have e2 : c + 1 = W * H := by omega
    have e3 : (c + 1) % W = 0 := by rw [e2]; exact Nat.mul_mod_right W H
    have e4 := Nat.mod_add_div c W
    have e5 : (c + 1) % W = c % W + 1 := by
      rw [Nat.add_mod, Nat.mod_eq_of_lt (show 1 < W by omega), Nat.mod_eq_of_lt e]
    omega
theorem g_nx_ct {p : Nat → Nat} {W H R c s : Nat} (hD : hg_D W H R) (hc : c < W * H) : g_ct (fun i => (g_bs (fun k => decide (g_l p k = s)) (W * H) &&& g_nb p W H c).testBit i) 32 = g_nx p W H c s := by
  obtain ⟨n1, n2⟩ := hg_D_N hD
  obtain ⟨d1, d2, d3, d4, -⟩ := id hD
  have he : g_e p W c = true → c + 1 < W * H := by
    intro h
    simp only [g_e, Bool.and_eq_true, decide_eq_true_eq] at h
    exact hg_east d1 d2 d4 hc h.1
  have hw : g_w p W c = true → 0 < c := by
    intro h
    simp only [g_w, Bool.and_eq_true, decide_eq_true_eq] at h
    exact h.1.1
  have hs : g_s p W H c = true → c + W < W * H := by
    intro h
    simp only [g_s, Bool.and_eq_true, decide_eq_true_eq] at h
    exact h.1
  have hn : g_n p W c = true → W ≤ c := by
    intro h
    simp only [g_n, Bool.and_eq_true, decide_eq_true_eq] at h
    exact h.1
  have hx : ∀ i, (g_bs (fun k => decide (g_l p k = s)) (W * H)).testBit i = (decide (i < W * H) && decide (g_l p i = s)) := fun i => g_bs_t _ i _
  simp only [Nat.testBit_and]
  unfold g_nb
  have t : ∀ (b : Bool) (i j : Nat), i ≠ j → (if b = true then 2 ^ i else 0).testBit j = false := by
    intro b i j hij
    cases b with
    | false => simp
    | true => simp [Nat.testBit_two_pow, hij]
  rw [g_ct_b _ _ _ (fun h => by have := hn h; omega) (fun h => by
        have := hn h
        simp only [Nat.testBit_or, t _ _ _ (show c + 1 ≠ c - W by omega), t _ _ _ (show c - 1 ≠ c - W by omega), t _ _ _ (show c + W ≠ c - W by omega), Nat.zero_testBit, Bool.or_false]),
    g_ct_b _ _ _ (fun h => by have := hs h; omega) (fun h => by
        have := hs h
        simp only [Nat.testBit_or, t _ _ _ (show c + 1 ≠ c + W by omega), t _ _ _ (show c - 1 ≠ c + W by omega), Nat.zero_testBit, Bool.or_false]),
    g_ct_b _ _ _ (fun h => by have := hw h; omega) (fun h => by
        have := hw h
        simp only [Nat.testBit_or, t _ _ _ (show c + 1 ≠ c - 1 by omega), Nat.zero_testBit, Bool.or_false]),
    g_ct_b _ _ _ (fun h => by have := he h; omega) (fun h => by simp), g_ct_0 (fun k _ => by simp), Nat.zero_add]
  unfold g_nx
  have f : ∀ (b : Bool) (i : Nat), (b = true → i < W * H) → ((b = true ∧ (g_bs (fun k => decide (g_l p k = s)) (W * H)).testBit i = true) ↔ (b = true ∧ g_l p i = s)) := by
    intro b i h
    constructor
    · rintro ⟨h1, h2⟩
      rw [hx] at h2
      simp only [Bool.and_eq_true, decide_eq_true_eq] at h2
      exact ⟨h1, h2.2⟩
    · rintro ⟨h1, h2⟩
      refine ⟨h1, ?_⟩
      rw [hx]
      simp only [Bool.and_eq_true, decide_eq_true_eq]
      exact ⟨h h1, h2⟩
  simp only [f _ _ he, f _ _ (fun h => by have := hw h; omega : g_w p W c = true → c - 1 < W * H), f _ _ hs, f _ _ (fun h => by have := hn h; omega : g_n p W c = true → c - W < W * H)]
theorem g_nb_lt (p : Nat → Nat) {W H R c : Nat} (hD : hg_D W H R) (hc : c < W * H) : g_nb p W H c < 2 ^ 32 := by
  obtain ⟨n1, n2⟩ := hg_D_N hD
  obtain ⟨d1, d2, d3, d4, -⟩ := id hD
  have t : ∀ (b : Bool) (i : Nat), i < 32 → (if b = true then 2 ^ i else 0) < 2 ^ 32 := by
    intro b i h
    split
    · exact Nat.pow_lt_pow_right (by omega) h
    · omega
  unfold g_nb
  refine Nat.or_lt_two_pow (Nat.or_lt_two_pow (Nat.or_lt_two_pow (Nat.or_lt_two_pow (by omega) (t _ _ (by omega))) (t _ _ (by omega))) (t _ _ (by omega))) (t _ _ (by omega))
def g_q (p : Nat → Nat) (W H c k : Nat) : Bool := decide (g_l p c = p (82 + 3 * k)) && decide (p (83 + 3 * k) ≤ g_nx p W H c (p (81 + 3 * k)))
/-- the law that fits a cell, R if none does -/
def g_f (p : Nat → Nat) (W H R c : Nat) : Nat := g_ft (g_q p W H c) R
def g_F (p : Nat → Nat) (W H R c : Nat) : Int32 := if g_f p W H R c < R then nI (g_f p W H R c) else - nI 4
section N1
variable {σ : zS} {p : Nat → Nat} {W H R : Nat}
theorem y_fill_15 (a : Int32) (σ : zS) : f_JA_fill_15 a σ = some (hg_fl σ 15 5 a) := by
  unfold f_JA_fill_15
  rw [hg_fill 15 5 5 rfl (by omega)]
  rfl
theorem y_nextTo_1 (hD : hg_D W H R) (hV : hg_V p R) (h : hg_G1 σ p W H R) {c : Nat} (hc : c < W * H) : f_G_nextTo_1 (nI c) σ = some (nI (g_nb p W H c)) := by
  obtain ⟨n1, n2⟩ := hg_D_N hD
  obtain ⟨d1, d2, d3, d4, -⟩ := id hD
  have hw := h.2.2.2.2.2.2.2.2.1
  have w0 : σ 1 0 = nI W := h.1
  have lt1 : c < 2 ^ 31 := by omega
  unfold f_G_nextTo_1
  rw [y_hasEast_1 hD h lt1, z_bs, w0, nl1, nl2, pk_mul, nI_add, nI_add]
  refine (hg_join_to (x := nI (0 ||| (if g_e p W c = true then 2 ^ (c + 1) else 0))) (fun j => ?_)).trans ?_
  · rw [y_isOpen_1 hV.2.1 hw (show 2 * c < 32 by omega)]
    refine hg_blk ?_
    rw [nl0, nl31, nI_add, z_shl (show c + 1 < 32 by omega), z_or]
    by_cases a : c % W + 1 < W ∧ ¬ (p 80).testBit (2 * c) = true
    · rw [if_pos a, if_pos (by simp only [g_e, Bool.and_eq_true, decide_eq_true_eq, Bool.not_eq_true'] ; exact ⟨a.1, by simpa using a.2⟩)]
    · rw [if_neg a, if_neg (by simp only [g_e, Bool.and_eq_true, decide_eq_true_eq, Bool.not_eq_true']; intro z; exact a ⟨z.1, by simpa using z.2⟩)]
      rfl
  refine (hg_join_to (x := nI ((0 ||| (if g_e p W c = true then 2 ^ (c + 1) else 0)) ||| (if g_w p W c = true then 2 ^ (c - 1) else 0))) (fun j => ?_)).trans ?_
  · by_cases c0 : c = 0
    · subst c0
      rw [if_pos (show nI 0 ≤ 0 from by decide)]
      simp [g_w]
    · rw [if_neg (by rw [nl0, nI_leI lt1 (by omega)]; omega), pk_sub (show 1 ≤ c by omega), pk_sub (show 2 ≤ 2 * c by omega), y_hasEast_1 hD h (show c - 1 < 2 ^ 31 by omega), z_bs, y_isOpen_1 hV.2.1 hw (show 2 * c - 2 < 32 by omega)]
      refine hg_blk ?_
      rw [nl31, z_shl (show c - 1 < 32 by omega), z_or]
      by_cases a : (c - 1) % W + 1 < W ∧ ¬ (p 80).testBit (2 * c - 2) = true
      · rw [if_pos a, if_pos (show g_w p W c = true by simp only [g_w, Bool.and_eq_true, decide_eq_true_eq, Bool.not_eq_true'] ; exact ⟨⟨by omega, a.1⟩, by simpa using a.2⟩)]
      · rw [if_neg a, if_neg (show ¬ g_w p W c = true by simp only [g_w, Bool.and_eq_true, decide_eq_true_eq, Bool.not_eq_true']; intro z; exact a ⟨z.1.2, by simpa using z.2⟩), Nat.or_zero]
  rw [y_hasCelln_1 hD h (show c + W < 2 ^ 31 by omega), z_bs]
  refine (hg_join_to (x := nI (((0 ||| (if g_e p W c = true then 2 ^ (c + 1) else 0)) ||| (if g_w p W c = true then 2 ^ (c - 1) else 0)) ||| (if g_s p W H c = true then 2 ^ (c + W) else 0))) (fun j => ?_)).trans ?_
  · by_cases c0 : c + W < W * H
    · rw [y_isOpen_1 hV.2.1 hw (show 2 * c + 1 < 32 by omega)]
      refine hg_blk ?_
      rw [nl31, z_shl (show c + W < 32 by omega), z_or]
      by_cases a : c + W < W * H ∧ ¬ (p 80).testBit (2 * c + 1) = true
      · rw [if_pos a, if_pos (show g_s p W H c = true by simp only [g_s, Bool.and_eq_true, decide_eq_true_eq, Bool.not_eq_true'] ; exact ⟨a.1, by simpa using a.2⟩)]
      · rw [if_neg a, if_neg (show ¬ g_s p W H c = true by simp only [g_s, Bool.and_eq_true, decide_eq_true_eq, Bool.not_eq_true']; intro z; exact a ⟨z.1, by simpa using z.2⟩), Nat.or_zero]
    · rw [if_pos (by rw [if_neg c0]; rfl)]
      simp [g_s, c0]
  rw [y_hasCell_1 hD h, pk_sub_toInt (by omega) (by omega), z_bs]
  by_cases c0 : W ≤ c
  · rw [if_neg (by rw [if_pos (by omega)]; decide), pk_sub c0, pk_mul, nI_add, y_isOpen_1 hV.2.1 hw (show 2 * (c - W) + 1 < 32 by omega), z_bs]
    cases b : (p 80).testBit (2 * (c - W) + 1) with
    | true =>
      rw [if_pos (by simp; rfl)]
      simp [g_nb, g_n, b]
    | false =>
      rw [if_neg (by simp; decide)]
      rw [nl31, z_shl (show c - W < 32 by omega)]
      simp only [z_let]
      rw [z_or]
      unfold g_nb
      rw [if_pos (show g_n p W c = true by simp [g_n, b, c0])]
  · rw [if_pos (by rw [if_neg (by omega)]; rfl)]
    simp [g_nb, g_n, c0]
end N1
section N17
variable {σ : zS} {p : Nat → Nat} {W H R : Nat}
theorem y_fill_31 (a : Int32) (σ : zS) : f_JA_fill_31 a σ = some (hg_fl σ 31 5 a) := by
  unfold f_JA_fill_31
  rw [hg_fill 31 5 5 rfl (by omega)]
  rfl
theorem y_nextTo_17 (hD : hg_D W H R) (hV : hg_V p R) (h : hg_G17 σ p W H R) {c : Nat} (hc : c < W * H) : f_G_nextTo_17 (nI c) σ = some (nI (g_nb p W H c)) := by
  obtain ⟨n1, n2⟩ := hg_D_N hD
  obtain ⟨d1, d2, d3, d4, -⟩ := id hD
  have hw := h.2.2.2.2.2.2.2.2.1
  have w0 : σ 17 0 = nI W := h.1
  have lt1 : c < 2 ^ 31 := by omega
  unfold f_G_nextTo_17
  rw [y_hasEast_17 hD h lt1, z_bs, w0, nl1, nl2, pk_mul, nI_add, nI_add]
  refine (hg_join_to (x := nI (0 ||| (if g_e p W c = true then 2 ^ (c + 1) else 0))) (fun j => ?_)).trans ?_
  · rw [y_isOpen_17 hV.2.1 hw (show 2 * c < 32 by omega)]
    refine hg_blk ?_
    rw [nl0, nl31, nI_add, z_shl (show c + 1 < 32 by omega), z_or]
    by_cases a : c % W + 1 < W ∧ ¬ (p 80).testBit (2 * c) = true
    · rw [if_pos a, if_pos (by simp only [g_e, Bool.and_eq_true, decide_eq_true_eq, Bool.not_eq_true'] ; exact ⟨a.1, by simpa using a.2⟩)]
    · rw [if_neg a, if_neg (by simp only [g_e, Bool.and_eq_true, decide_eq_true_eq, Bool.not_eq_true']; intro z; exact a ⟨z.1, by simpa using z.2⟩)]
      rfl
  refine (hg_join_to (x := nI ((0 ||| (if g_e p W c = true then 2 ^ (c + 1) else 0)) ||| (if g_w p W c = true then 2 ^ (c - 1) else 0))) (fun j => ?_)).trans ?_
  · by_cases c0 : c = 0
    · subst c0
      rw [if_pos (show nI 0 ≤ 0 from by decide)]
      simp [g_w]
    · rw [if_neg (by rw [nl0, nI_leI lt1 (by omega)]; omega), pk_sub (show 1 ≤ c by omega), pk_sub (show 2 ≤ 2 * c by omega), y_hasEast_17 hD h (show c - 1 < 2 ^ 31 by omega), z_bs, y_isOpen_17 hV.2.1 hw (show 2 * c - 2 < 32 by omega)]
      refine hg_blk ?_
      rw [nl31, z_shl (show c - 1 < 32 by omega), z_or]
      by_cases a : (c - 1) % W + 1 < W ∧ ¬ (p 80).testBit (2 * c - 2) = true
      · rw [if_pos a, if_pos (show g_w p W c = true by simp only [g_w, Bool.and_eq_true, decide_eq_true_eq, Bool.not_eq_true'] ; exact ⟨⟨by omega, a.1⟩, by simpa using a.2⟩)]
      · rw [if_neg a, if_neg (show ¬ g_w p W c = true by simp only [g_w, Bool.and_eq_true, decide_eq_true_eq, Bool.not_eq_true']; intro z; exact a ⟨z.1.2, by simpa using z.2⟩), Nat.or_zero]
  rw [y_hasCelln_17 hD h (show c + W < 2 ^ 31 by omega), z_bs]
  refine (hg_join_to (x := nI (((0 ||| (if g_e p W c = true then 2 ^ (c + 1) else 0)) ||| (if g_w p W c = true then 2 ^ (c - 1) else 0)) ||| (if g_s p W H c = true then 2 ^ (c + W) else 0))) (fun j => ?_)).trans ?_
  · by_cases c0 : c + W < W * H
    · rw [y_isOpen_17 hV.2.1 hw (show 2 * c + 1 < 32 by omega)]
      refine hg_blk ?_
      rw [nl31, z_shl (show c + W < 32 by omega), z_or]
      by_cases a : c + W < W * H ∧ ¬ (p 80).testBit (2 * c + 1) = true
      · rw [if_pos a, if_pos (show g_s p W H c = true by simp only [g_s, Bool.and_eq_true, decide_eq_true_eq, Bool.not_eq_true'] ; exact ⟨a.1, by simpa using a.2⟩)]
      · rw [if_neg a, if_neg (show ¬ g_s p W H c = true by simp only [g_s, Bool.and_eq_true, decide_eq_true_eq, Bool.not_eq_true']; intro z; exact a ⟨z.1, by simpa using z.2⟩), Nat.or_zero]
    · rw [if_pos (by rw [if_neg c0]; rfl)]
      simp [g_s, c0]
  rw [y_hasCell_17 hD h, pk_sub_toInt (by omega) (by omega), z_bs]
  by_cases c0 : W ≤ c
  · rw [if_neg (by rw [if_pos (by omega)]; decide), pk_sub c0, pk_mul, nI_add, y_isOpen_17 hV.2.1 hw (show 2 * (c - W) + 1 < 32 by omega), z_bs]
    cases b : (p 80).testBit (2 * (c - W) + 1) with
    | true =>
      rw [if_pos (by simp; rfl)]
      simp [g_nb, g_n, b]
    | false =>
      rw [if_neg (by simp; decide)]
      rw [nl31, z_shl (show c - W < 32 by omega)]
      simp only [z_let]
      rw [z_or]
      unfold g_nb
      rw [if_pos (show g_n p W c = true by simp [g_n, b, c0])]
  · rw [if_pos (by rw [if_neg (by omega)]; rfl)]
    simp [g_nb, g_n, c0]
end N17
