/-! what a pure run comes to; loops by invariants; small numbers -/
theorem z_fwd {S β : Type} (step : S → Option (S ⊕ β)) (P : Nat → S → Prop) (Q : β → Prop) (n : Nat) (hs : ∀ i s, i < n → P i s → (∃ s', step s = some (.inl s') ∧ P (i + 1) s') ∨ (∃ b, step s = some (.inr b) ∧ Q b)) (he : ∀ s, P n s → ∃ b, step s = some (.inr b) ∧ Q b) : ∀ (m i : Nat) (s : S), i + m = n → P i s → ∃ b, z_loop step s = some b ∧ Q b := by
  intro m
  induction m with
  | zero =>
    intro i s hi hP
    have e : i = n := hi
    subst e
    obtain ⟨b, hb, hq⟩ := he s hP
    refine ⟨b, ?_, hq⟩
    rw [z_loop_eq, hb]
    rfl
  | succ m ih =>
    intro i s hi hP
    rcases hs i s (by omega) hP with ⟨s', h1, h2⟩ | ⟨b, hb, hq⟩
    · obtain ⟨b, hb, hq⟩ := ih (i + 1) s' (by omega) h2
      refine ⟨b, ?_, hq⟩
      rw [z_loop_eq, h1]
      exact hb
    · refine ⟨b, ?_, hq⟩
      rw [z_loop_eq, hb]
      rfl
/-- a loop that counts to n, or leaves ahead of that -/
theorem z_for {S β : Type} {step : S → Option (S ⊕ β)} (P : Nat → S → Prop) (Q : β → Prop) (n : Nat) {s : S} (h0 : P 0 s) (hs : ∀ i s, i < n → P i s → (∃ s', step s = some (.inl s') ∧ P (i + 1) s') ∨ (∃ b, step s = some (.inr b) ∧ Q b)) (he : ∀ s, P n s → ∃ b, step s = some (.inr b) ∧ Q b) : ∃ b, z_loop step s = some b ∧ Q b :=
  z_fwd step P Q n hs he n 0 s (Nat.zero_add n) h0
/-- a loop that counts to n and never leaves ahead of that -/
theorem z_for' {S β : Type} {step : S → Option (S ⊕ β)} (P : Nat → S → Prop) (Q : β → Prop) (n : Nat) {s : S} (h0 : P 0 s) (hs : ∀ i s, i < n → P i s → ∃ s', step s = some (.inl s') ∧ P (i + 1) s') (he : ∀ s, P n s → ∃ b, step s = some (.inr b) ∧ Q b) : ∃ b, z_loop step s = some b ∧ Q b :=
  z_for P Q n h0 (fun i s h p => Or.inl (hs i s h p)) he
/-- a loop with a measure -/
theorem z_whl {S β : Type} {step : S → Option (S ⊕ β)} (P : S → Prop) (μ : S → Nat) (Q : β → Prop) (hs : ∀ s, P s → (∃ s', step s = some (.inl s') ∧ P s' ∧ μ s' < μ s) ∨ (∃ b, step s = some (.inr b) ∧ Q b)) : ∀ s, P s → ∃ b, z_loop step s = some b ∧ Q b := by
  have main : ∀ (n : Nat) (s : S), μ s < n → P s → ∃ b, z_loop step s = some b ∧ Q b := by
    intro n
    induction n with
    | zero => intro s h; omega
    | succ n ih =>
      intro s hm hP
      rcases hs s hP with ⟨s', h1, h2, h3⟩ | ⟨b, hb, hq⟩
      · obtain ⟨b, hb, hq⟩ := ih s' (by omega) h2
        refine ⟨b, ?_, hq⟩
        rw [z_loop_eq, h1]
        exact hb
      · refine ⟨b, ?_, hq⟩
        rw [z_loop_eq, hb]
        rfl
  intro s h
  exact main (μ s + 1) s (by omega) h
/-- the state after i turns is told by a function -/
theorem z_forF {S β : Type} {step : S → Option (S ⊕ β)} (F : Nat → S) (b : β) (n : Nat) (hs : ∀ i, i < n → step (F i) = some (.inl (F (i + 1)))) (he : step (F n) = some (.inr b)) : z_loop step (F 0) = some b := by
  obtain ⟨b', hb, e⟩ := z_for' (fun i s => s = F i) (fun b' => b' = b) n (s := F 0) rfl (fun i s hi h => ⟨F (i + 1), by rw [h]; exact hs i hi, rfl⟩) (fun s h => ⟨b, by rw [h]; exact he, rfl⟩)
  rw [hb, e]
theorem z_bs {α β : Type} (a : α) (f : α → Option β) : (some a).bind f = f a := rfl
theorem z_bn {α β : Type} (f : α → Option β) : (none : Option α).bind f = none := rfl
theorem nl0 : (0 : Int32) = nI 0 := rfl
theorem nl1 : (1 : Int32) = nI 1 := rfl
theorem nl2 : (2 : Int32) = nI 2 := rfl
theorem nl3 : (3 : Int32) = nI 3 := rfl
theorem nl4 : (4 : Int32) = nI 4 := rfl
theorem nl5 : (5 : Int32) = nI 5 := rfl
theorem nl6 : (6 : Int32) = nI 6 := rfl
theorem nl7 : (7 : Int32) = nI 7 := rfl
theorem nl8 : (8 : Int32) = nI 8 := rfl
theorem nl9 : (9 : Int32) = nI 9 := rfl
theorem nl10 : (10 : Int32) = nI 10 := rfl
theorem nl11 : (11 : Int32) = nI 11 := rfl
theorem nl12 : (12 : Int32) = nI 12 := rfl
theorem nl13 : (13 : Int32) = nI 13 := rfl
theorem nl14 : (14 : Int32) = nI 14 := rfl
theorem nl15 : (15 : Int32) = nI 15 := rfl
theorem nl16 : (16 : Int32) = nI 16 := rfl
theorem nl20 : (20 : Int32) = nI 20 := rfl
theorem nl24 : (24 : Int32) = nI 24 := rfl
theorem nl30 : (30 : Int32) = nI 30 := rfl
theorem nl31 : (31 : Int32) = nI 31 := rfl
theorem nl32 : (32 : Int32) = nI 32 := rfl
theorem nl36 : (36 : Int32) = nI 36 := rfl
theorem nl37 : (37 : Int32) = nI 37 := rfl
theorem nl40 : (40 : Int32) = nI 40 := rfl
theorem nl48 : (48 : Int32) = nI 48 := rfl
theorem nl49 : (49 : Int32) = nI 49 := rfl
theorem nl50 : (50 : Int32) = nI 50 := rfl
theorem nl57 : (57 : Int32) = nI 57 := rfl
theorem nl59 : (59 : Int32) = nI 59 := rfl
theorem nl60 : (60 : Int32) = nI 60 := rfl
theorem nl80 : (80 : Int32) = nI 80 := rfl
theorem nl81 : (81 : Int32) = nI 81 := rfl
theorem nl82 : (82 : Int32) = nI 82 := rfl
theorem nl83 : (83 : Int32) = nI 83 := rfl
theorem nl96 : (96 : Int32) = nI 96 := rfl
theorem nl97 : (97 : Int32) = nI 97 := rfl
theorem nl99 : (99 : Int32) = nI 99 := rfl
theorem nl104 : (104 : Int32) = nI 104 := rfl
theorem nl105 : (105 : Int32) = nI 105 := rfl
theorem nl106 : (106 : Int32) = nI 106 := rfl
theorem nl107 : (107 : Int32) = nI 107 := rfl
theorem nl108 : (108 : Int32) = nI 108 := rfl
theorem nl109 : (109 : Int32) = nI 109 := rfl
theorem nl110 : (110 : Int32) = nI 110 := rfl
theorem nl122 : (122 : Int32) = nI 122 := rfl
theorem nl127 : (127 : Int32) = nI 127 := rfl
theorem nl150 : (150 : Int32) = nI 150 := rfl
theorem nl160 : (160 : Int32) = nI 160 := rfl
theorem nl330 : (330 : Int32) = nI 330 := rfl
theorem nl440 : (440 : Int32) = nI 440 := rfl
theorem nl777 : (777 : Int32) = nI 777 := rfl
theorem nl999 : (999 : Int32) = nI 999 := rfl
theorem nl1000 : (1000 : Int32) = nI 1000 := rfl
theorem nl1050 : (1050 : Int32) = nI 1050 := rfl
theorem nl100000 : (100000 : Int32) = nI 100000 := rfl
theorem nl1000000 : (1000000 : Int32) = nI 1000000 := rfl
theorem nl111 : (111 : Int32) = nI 111 := rfl
theorem z_ibn {a N : Nat} (ha : a < 2 ^ 31) : (z_ib (nI a) N = true) ↔ a < N := by
  unfold z_ib
  rw [decide_eq_true_iff, nI_clamp ha]
  have := nI_pos ha
  constructor
  · intro h
    by_cases c : a < N
    · exact c
    · exact absurd (Or.inr (by omega)) h
  · rintro h (h2 | h2)
    · exact this h2
    · omega
theorem z_or (a b : Nat) : nI a ||| nI b = nI (a ||| b) := by
  unfold nI
  apply Int32.toBitVec.inj
  simp [BitVec.ofNat_or]
theorem z_and (a b : Nat) : nI a &&& nI b = nI (a &&& b) := by
  unfold nI
  apply Int32.toBitVec.inj
  simp [BitVec.ofNat_and]
theorem z_shl {e : Nat} (he : e < 32) : (nI 1) <<< (nI e &&& nI 31) = nI (2 ^ e) := by
  have h : ∀ e : Nat, e < 32 → (nI 1) <<< (nI e &&& nI 31) = nI (2 ^ e) := by decide +kernel
  exact h e he
theorem z_tw : ∀ n, n < 32 → (((nI n).toUInt32 &&& Int32.toUInt32 31).toBitVec % 32).toNat = n := by decide +kernel
theorem z_ts : ∀ n, n < 32 → ((nI n &&& nI 31).toBitVec.smod 32).toNat = n := by decide +kernel
theorem z_one (n : Nat) : nI n &&& nI 1 = nI (n % 2) := by
  rw [z_and, Nat.and_one_is_mod]
/-- a bit, shifted down without its sign -/
theorem z_ubit {w e : Nat} (hw : w < 2 ^ 32) (he : e < 32) : ((nI w).toUInt32 >>> ((nI e).toUInt32 &&& Int32.toUInt32 31)).toInt32 &&& nI 1 = nI (if w.testBit e then 1 else 0) := by
  rw [pk_ushrN hw (nI e) e (z_tw e he), z_one, Nat.testBit_eq_decide_div_mod_eq]
  congr 1
  by_cases c : w / 2 ^ e % 2 = 1
  · simp [c]
  · have : w / 2 ^ e % 2 = 0 := by omega
    simp [this]
/-- a bit, shifted down with its sign -/
theorem z_sbit {w e : Nat} (hw : w < 2 ^ 32) (he : e < 32) : nI w >>> (nI e &&& nI 31) &&& nI 1 = nI (if w.testBit e then 1 else 0) := by
  have h1 := pk_shr (nI w) (nI e &&& nI 31) e (z_ts e he)
  have h2 : (nI w >>> (nI e &&& nI 31)) = Int32.ofInt ((nI w).toInt >>> e) := by
    rw [← h1, Int32.ofInt_toInt]
  apply Int32.toBitVec.inj
  apply BitVec.eq_of_toNat_eq
  rw [h2]
  have e1 : (Int32.ofInt ((nI w).toInt >>> e) &&& nI 1).toBitVec = (BitVec.ofNat 32 w).sshiftRight e &&& 1#32 := by
    rw [Int32.toBitVec_and, Int32.toBitVec_ofInt]
    rfl
  rw [e1]
  have e2 : (BitVec.ofNat 32 w).sshiftRight e &&& 1#32 = if w.testBit e then 1#32 else 0#32 := by
    apply BitVec.eq_of_getLsbD_eq
    intro i hi
    rw [BitVec.getLsbD_and, BitVec.getLsbD_sshiftRight]
    by_cases c : i = 0
    · subst c
      simp only [BitVec.getLsbD_ofNat, BitVec.msb_eq_getLsbD_last]
      cases hb : w.testBit e <;> simp [he, hb]
    · cases hb : w.testBit e <;> simp [c, BitVec.getLsbD_one]
  rw [e2]
  split
  · rfl
  · rfl
theorem z_ifb (b : Prop) [Decidable b] : (nI (if b then 1 else 0) = nI 0) ↔ ¬ b := by
  split <;> simp_all [nI_eq]
theorem z_ifc (b : Prop) [Decidable b] : (nI (if b then 1 else 0) = nI 1) ↔ b := by
  split <;> simp_all [nI_eq]
theorem z_if0 (b : Prop) [Decidable b] : ((if b then nI 1 else nI 0) = nI 0) ↔ ¬ b := by
  split <;> simp_all [nI_eq]
theorem z_if1 (b : Prop) [Decidable b] : ((if b then nI 1 else nI 0) = nI 1) ↔ b := by
  split <;> simp_all [nI_eq]
theorem z_neg {b : Nat} (h0 : 0 < b) (hb : b ≤ 2 ^ 31) : ∀ a, a < 2 ^ 31 → ¬ nI a = - nI b := by
  intro a ha h
  have h2 : nI a + nI b = nI 0 := by
    rw [h]
    show -nI b + nI b = 0
    rw [Int32.add_comm, Int32.add_right_neg]
  rw [nI_add] at h2
  have h3 := congrArg (fun x => x.toBitVec.toNat) h2
  simp only [nI, Int32.ofNat] at h3
  have e : ∀ m : Nat, (Int32.ofNat m).toBitVec.toNat = m % 2 ^ 32 := by
    intro m
    rw [Int32.toBitVec_ofNat']
    rfl
  have h4 : (a + b) % 2 ^ 32 = 0 % 2 ^ 32 := by
    rw [← e, ← e]
    exact h3
  omega
theorem z_lit4 : (-4 : Int32) = - nI 4 := rfl
theorem z_lit1 : (-1 : Int32) = - nI 1 := rfl
theorem z_cst {x : Int32} {lo hi : Nat} (hh : hi < 2 ^ 31) (h1 : (lo : Int) ≤ x.toInt) (h2 : x.toInt ≤ (hi : Int)) : ∃ n, lo ≤ n ∧ n ≤ hi ∧ x = nI n := by
  refine ⟨x.toInt.toNat, by omega, by omega, ?_⟩
  have e : x.toInt = (x.toInt.toNat : Int) := by omega
  apply Int32.toInt_inj.mp
  rw [nI_toInt (by omega)]
  omega
/-- the first k < n with q k, n if there is none -/
def g_ft (q : Nat → Bool) : Nat → Nat
  | 0 => 0
  | n + 1 => if g_ft q n < n then g_ft q n else if q n = true then n else n + 1
theorem g_ft_le (q : Nat → Bool) : ∀ n, g_ft q n ≤ n
  | 0 => Nat.le_refl 0
  | n + 1 => by
    have ih := g_ft_le q n
    unfold g_ft
    split
    · omega
    · split <;> omega
theorem g_ft_is (q : Nat → Bool) : ∀ n i, i ≤ n → (∀ j, j < i → q j = false) → (i < n → q i = true) → g_ft q n = i
  | 0, i, h, _, _ => by
    have : i = 0 := by omega
    rw [this]; rfl
  | n + 1, i, h, h1, h2 => by
    unfold g_ft
    by_cases c : i < n
    · have e := g_ft_is q n i (by omega) h1 (fun _ => h2 (by omega))
      rw [e, if_pos c]
    · have e := g_ft_is q n n (by omega) (fun j hj => h1 j (by omega)) (fun z => absurd z (by omega))
      rw [e, if_neg (by omega)]
      by_cases c2 : i = n
      · subst c2
        rw [if_pos (h2 (by omega))]
      · have c3 : i = n + 1 := by omega
        subst c3
        rw [if_neg (by rw [h1 n (by omega)]; exact Bool.false_ne_true)]
theorem g_ft_yes (q : Nat → Bool) {n : Nat} (h : g_ft q n < n) : q (g_ft q n) = true := by
  cases hq : q (g_ft q n) with
  | true => rfl
  | false =>
    exfalso
    have main : ∀ n, g_ft q n < n → q (g_ft q n) = true := by
      intro n
      induction n with
      | zero => intro h; omega
      | succ n ih =>
        intro h
        have hl := g_ft_le q n
        unfold g_ft at h ⊢
        by_cases c : g_ft q n < n
        · rw [if_pos c]
          exact ih c
        · rw [if_neg c] at h ⊢
          by_cases c2 : q n = true
          · rw [if_pos c2]
            exact c2
          · rw [if_neg c2] at h
            omega
    rw [main n h] at hq
    cases hq
/-- how many k < n have q k -/
def g_ct (q : Nat → Bool) : Nat → Nat
  | 0 => 0
  | n + 1 => g_ct q n + (if q n = true then 1 else 0)
theorem g_ct_cong {q r : Nat → Bool} {n : Nat} (h : ∀ k, k < n → q k = r k) : g_ct q n = g_ct r n := by
  induction n with
  | zero => rfl
  | succ n ih => rw [g_ct, g_ct, ih (fun k hk => h k (by omega)), h n (by omega)]
theorem g_ct_0 {q : Nat → Bool} {n : Nat} (h : ∀ k, k < n → q k = false) : g_ct q n = 0 := by
  induction n with
  | zero => rfl
  | succ n ih => rw [g_ct, ih (fun k hk => h k (by omega)), h n (by omega)]; rfl
/-- one more place -/
theorem g_ct_1 {q r : Nat → Bool} {n i : Nat} (hi : i < n) (hq : q i = false) (h : ∀ k, k < n → k ≠ i → r k = q k) : g_ct r n = g_ct q n + (if r i = true then 1 else 0) := by
  induction n with
  | zero => omega
  | succ n ih =>
    rw [g_ct, g_ct]
    by_cases c : i = n
    · subst c
      rw [g_ct_cong (fun k hk => h k (by omega) (by omega)), hq]
      simp
    · rw [ih (by omega) (fun k hk hn => h k (by omega) hn), h n (by omega) (fun z => c z.symm)]
      omega
