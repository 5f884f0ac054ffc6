/-! a logic of runs: locals by place, the answer as a Lean expression -/
abbrev zS : Type := Nat → Nat → Int32
def z_vl (V : List Value) (L : List (Nat × Value)) : Prop := ∀ (i : Nat) (v : Value), V[i]? = some v → v = .null ∨ z_get L i = some v
theorem z_get_filter {p : Nat × Value → Bool} {L : List (Nat × Value)} {j : Nat} {w : Value} (h : z_get L j = some w) (hp : p (j, w) = true) : z_get (L.filter p) j = some w := by
  induction L with
  | nil => cases h
  | cons q l ih =>
    simp only [z_get] at h
    by_cases hq : q.1 = j
    · rw [if_pos hq] at h
      have e : q = (j, w) := by
        rw [← hq, ← Option.some.inj h]
      rw [List.filter_cons_of_pos (by rw [e]; exact hp)]
      simp only [z_get]
      rw [if_pos hq]
      exact h
    · rw [if_neg hq] at h
      by_cases hpq : p q = true
      · rw [List.filter_cons_of_pos hpq]
        simp only [z_get]
        rw [if_neg hq]
        exact ih h
      · rw [List.filter_cons_of_neg hpq]
        exact ih h
theorem z_vl_s1 {V : List Value} {L : List (Nat × Value)} {i : Nat} {v : Value} (hL : z_vl V L) (hc : ∀ (j : Nat) (w : Value), j + 1 = i → V[j]? = some w → w.category = 1) : z_vl (V.set i v) (z_s1 L i v) := by
  intro j w hj
  rw [List.getElem?_set] at hj
  by_cases hij : i = j
  · subst hij
    rw [if_pos rfl] at hj
    split at hj
    · cases hj
      right
      simp only [z_s1, z_get, if_true]
    · cases hj
  · rw [if_neg hij] at hj
    rcases hL j w hj with h | h
    · exact Or.inl h
    · right
      simp only [z_s1, z_get]
      rw [if_neg hij]
      refine z_get_filter h ?_
      have h1 : (j == i) = false := by simpa using fun e => hij e.symm
      rw [h1]
      simp only [Bool.not_false, Bool.true_and, Bool.not_eq_true', Bool.and_eq_false_iff, beq_eq_false_iff_ne]
      by_cases h2 : j + 1 = i
      · right
        rw [hc j w h2 hj]
        decide
      · exact Or.inl h2
theorem z_vl_s2 {V : List Value} {L : List (Nat × Value)} {i : Nat} {v : Value} (hL : z_vl V L) (hc : ∀ (j : Nat) (w : Value), j + 1 = i → V[j]? = some w → w.category = 1) : z_vl ((V.set i v).set (i + 1) .null) (z_s2 L i v) := by
  intro j w hj
  rw [List.getElem?_set] at hj
  by_cases h1 : i + 1 = j
  · rw [if_pos h1] at hj
    split at hj
    · cases hj; exact Or.inl rfl
    · cases hj
  · rw [if_neg h1, List.getElem?_set] at hj
    by_cases hij : i = j
    · subst hij
      rw [if_pos rfl] at hj
      split at hj
      · cases hj
        right
        simp only [z_s2, z_get, if_true]
      · cases hj
    · rw [if_neg hij] at hj
      rcases hL j w hj with h | h
      · exact Or.inl h
      · right
        simp only [z_s2, z_get]
        rw [if_neg hij]
        refine z_get_filter h ?_
        have h2 : (j == i) = false := by simpa using fun e => hij e.symm
        have h3 : (j == i + 1) = false := by simpa using fun e => h1 e.symm
        rw [h2, h3]
        simp only [Bool.not_false, Bool.true_and, Bool.not_eq_true', Bool.and_eq_false_iff, beq_eq_false_iff_ne]
        by_cases h2 : j + 1 = i
        · right
          rw [hc j w h2 hj]
          decide
        · exact Or.inl h2
/-- fewer locals are known -/
def z_le (V' V : List Value) : Prop := ∀ (i : Nat) (v : Value), V'[i]? = some v → v = .null ∨ V[i]? = some v
theorem z_le_nil {V : List Value} : z_le [] V := fun i v h => by simp at h
theorem z_le_s {v : Value} {V' V : List Value} (h : z_le V' V) : z_le (v :: V') (v :: V) := fun i w hi => by
  cases i with
  | zero => exact Or.inr hi
  | succ i => exact h i w hi
theorem z_le_n {v : Value} {V' V : List Value} (h : z_le V' V) : z_le (.null :: V') (v :: V) := fun i w hi => by
  cases i with
  | zero => simp at hi; exact Or.inl hi.symm
  | succ i => exact h i w hi
theorem z_vl_le {V' V : List Value} {L : List (Nat × Value)} (h : z_le V' V) (hL : z_vl V L) : z_vl V' L := fun i v hi => (h i v hi).elim Or.inl (fun q => hL i v q)
set_option maxHeartbeats 4000000 in
theorem z_x_mono {xL : Nat} {xs : Nat → Int32} : ∀ (f d mi pc : Nat) (L : List (Nat × Value)) (st : List Value) (h : zH) (r : Option Value × zH), z_x xL xs f d mi pc L st h = some r → z_x xL xs (f + 1) d mi pc L st h = some r := by
  intro f
  induction f with
  | zero => intro d mi pc L st h r hr; simp only [z_x] at hr; cases hr
  | succ f ih =>
    intro d mi pc L st h r hr
    rw [z_x] at hr ⊢
    split at hr
    · cases hr
    rename_i e he
    split at hr
    · rename_i pc1 L1 st1 hA
      exact ih _ _ _ _ _ _ _ hr
    split at hr
    · exact ih _ _ _ _ _ _ _ hr
    split at hr
    · split at hr
      · rename_i hav
        rw [if_pos hav]
        exact ih _ _ _ _ _ _ _ hr
      · cases hr
    split at hr
    · exact hr
    split at hr
    · cases hr
    split at hr
    · cases hr
    split at hr
    · cases hr
    rename_i v h1 hcall
    rw [ih _ _ _ _ _ _ _ hcall]
    simp only
    split at hr
    · rename_i hav
      rw [if_pos hav]
      exact ih _ _ _ _ _ _ _ hr
    · cases hr
theorem z_x_le {xL : Nat} {xs : Nat → Int32} {f f' d mi pc : Nat} {L : List (Nat × Value)} {st : List Value} {h : zH} {r : Option Value × zH} (hf : f ≤ f') (hr : z_x xL xs f d mi pc L st h = some r) : z_x xL xs f' d mi pc L st h = some r := by
  induction hf with
  | refl => exact hr
  | step _ ih => exact z_x_mono _ _ _ _ _ _ _ _ ih
def z_ev (xL : Nat) (xs : Nat → Int32) (ρ : Nat → Nat → Option Nat) (d mi pc : Nat) (V st : List Value) (σ : zS) (r : Option Value × zS) : Prop := ∀ L, z_vl V L → ∃ f, z_x xL xs f d mi pc L st (105, σ, ρ) = some (r.1, (105, r.2, ρ))
/-- a call's run -/
def z_ec (xL : Nat) (xs : Nat → Int32) (ρ : Nat → Nat → Option Nat) (d mj : Nat) (as : List Value) (σ : zS) (r : Option Value × zS) : Prop := ∃ f, z_x xL xs f d mj 0 (lv_args 0 as) [] (105, σ, ρ) = some (r.1, (105, r.2, ρ))
/-- from here the method answers what e says, and then K -/
def z_J {γ α : Type} (xL : Nat) (xs : Nat → Int32) (ρ : Nat → Nat → Option Nat) (em : α → Option Value × zS) (K : γ → Option α) (d mi pc : Nat) (V st : List Value) (σ : zS) (e : Option γ) : Prop := ∀ g, e = some g → ∀ q, K g = some q → z_ev xL xs ρ d mi pc V st σ (em q)
def em_i (q : Int32 × zS) : Option Value × zS := (some (.int q.1), q.2)
def em_l (q : Int64 × zS) : Option Value × zS := (some (.long q.1), q.2)
def em_r (q : Nat × zS) : Option Value × zS := (some (.ref q.1), q.2)
def em_v (q : zS) : Option Value × zS := (none, q)
/-- an index within -/
def z_ib (i : Int32) (N : Nat) : Bool := decide (¬ (i < 0 ∨ N ≤ i.toNatClampNeg))
def z_gk (a b k : Nat) : Bool := decide (¬ a = 17) && decide (k < 105) && decide (z_sk k = 0) && decide (z_sc k = a) && decide (b < z_N a) && decide (z_rf a b = false)
def z_gr (a b k : Nat) : Bool := decide (¬ a = 17) && decide (k < 105) && decide (z_sk k = 0) && decide (z_sc k = a) && decide (b < z_N a) && decide (z_rf a b = true)
def z_gp (a b k : Nat) : Bool := z_gk a b k && decide ((z_T a b).2.2.2 = false)
def z_ak (t k N : Nat) : Bool := decide (k < 105) && decide (z_sk k = t) && decide (z_sl_ k = N)
section ZJ
variable {γ α : Type} {xL : Nat} {xs : Nat → Int32} {ρ : Nat → Nat → Option Nat} {em : α → Option Value × zS} {K : γ → Option α} {d mi pc pc' : Nat} {V V' st st' : List Value} {σ σ1 : zS} {ex : Option γ}
variable {k0 a0 b0 : Nat} {v0 : Int32} {w0 : Int64}
theorem z_evA {e : zI} {r : Option Value × zS} (he : z_fi (z_mi mi) pc = some e) (hA : ∀ L, z_vl V L → ∃ L', z_A (z_ml_ mi) e pc L st = some (pc', L', st') ∧ z_vl V' L') (kk : z_ev xL xs ρ d mi pc' V' st' σ r) : z_ev xL xs ρ d mi pc V st σ r := by
  intro L hL
  obtain ⟨L', h1, h2⟩ := hA L hL
  obtain ⟨f, hf⟩ := kk L' h2
  refine ⟨f + 1, ?_⟩
  rw [z_x, he]
  simp only [h1]
  exact hf
theorem z_evB {e : zI} {r : Option Value × zS} (he : z_fi (z_mi mi) pc = some e) (hA : ∀ L, z_A (z_ml_ mi) e pc L st = none) (hB : z_B xL xs (z_ct mi) e st 105 σ ρ = some (st', (105, σ1, ρ))) (hp : pc + z_len e = pc') (kk : z_ev xL xs ρ d mi pc' V st' σ1 r) : z_ev xL xs ρ d mi pc V st σ r := by
  subst hp
  intro L hL
  obtain ⟨f, hf⟩ := kk L hL
  refine ⟨f + 1, ?_⟩
  rw [z_x, he]
  simp only [hA, hB]
  exact hf
theorem z_evR {e : zI} {v : Option Value} (he : z_fi (z_mi mi) pc = some e) (hA : ∀ L, z_A (z_ml_ mi) e pc L st = none) (hB : z_B xL xs (z_ct mi) e st 105 σ ρ = none) (hC : z_C e st 105 σ ρ = none) (hR : z_R (z_mr mi) e st = some v) : z_ev xL xs ρ d mi pc V st σ (v, σ) := by
  intro L hL
  refine ⟨1, ?_⟩
  rw [z_x, he]
  simp only [hA, hB, hC, hR]
theorem z_evD {e : zI} {r v : Option Value × zS} {mj : Nat} {as r0 : List Value} (he : z_fi (z_mi mi) pc = some e) (hA : ∀ L, z_A (z_ml_ mi) e pc L st = none) (hB : z_B xL xs (z_ct mi) e st 105 σ ρ = none) (hC : z_C e st 105 σ ρ = none) (hR : z_R (z_mr mi) e st = none) (hD : z_D e st 105 = some (mj, as, r0)) (hc : z_ec xL xs ρ d mj as σ v) (hp : pc + 3 = pc') (kk : z_ev xL xs ρ (d + 1) mi pc' V (v.1.toList ++ r0) v.2 r) : z_ev xL xs ρ (d + 1) mi pc V st σ r := by
  subst hp
  intro L hL
  obtain ⟨f, hf⟩ := kk L hL
  obtain ⟨f2, hf2⟩ := hc
  refine ⟨f + f2 + 1, ?_⟩
  rw [z_x, he]
  simp only [hA, hB, hC, hR, hD]
  rw [z_x_le (Nat.le_add_left f2 f) hf2]
  simp only
  rw [if_pos (Or.inl trivial)]
  exact z_x_le (Nat.le_add_right f f2) hf
theorem z_ec_of {em : α → Option Value × zS} {q : α} {as : List Value} {W : List Value} (hV : ∀ L, L = lv_args 0 as → z_vl W L) (h : z_ev xL xs ρ d mi 0 W [] σ (em q)) : z_ec xL xs ρ d mi as σ (em q) := h _ (hV _ rfl)
theorem j_of {as W : List Value} {e : Option α} (hV : ∀ L, L = lv_args 0 as → z_vl W L) (h : z_J xL xs ρ em some d mi 0 W [] σ e) : ∀ q, e = some q → z_ec xL xs ρ d mi as σ (em q) := fun q hq => z_ec_of hV (h q hq q rfl)
theorem j_A {e : zI} (he : z_fi (z_mi mi) pc = some e) (hA : ∀ L, z_vl V L → ∃ L', z_A (z_ml_ mi) e pc L st = some (pc', L', st') ∧ z_vl V' L') (kk : z_J xL xs ρ em K d mi pc' V' st' σ ex) : z_J xL xs ρ em K d mi pc V st σ ex := fun g hg q hq => z_evA he hA (kk g hg q hq)
theorem j_B {e : zI} (he : z_fi (z_mi mi) pc = some e) (hA : ∀ L, z_A (z_ml_ mi) e pc L st = none) (hB : z_B xL xs (z_ct mi) e st 105 σ ρ = some (st', (105, σ1, ρ))) (hp : pc + z_len e = pc') (kk : z_J xL xs ρ em K d mi pc' V st' σ1 ex) : z_J xL xs ρ em K d mi pc V st σ ex := fun g hg q hq => z_evB he hA hB hp (kk g hg q hq)
theorem j_some {g : γ} (h : z_J xL xs ρ em some d mi pc V st σ (K g)) : z_J xL xs ρ em K d mi pc V st σ (some g) := fun g' hg q hq => by cases hg; exact h q hq q rfl
theorem j_none : z_J xL xs ρ em K d mi pc V st σ none := fun g hg => by cases hg
theorem j_forget (h : z_le V' V) (kk : z_J xL xs ρ em K d mi pc V' st σ ex) : z_J xL xs ρ em K d mi pc V st σ ex := fun g hg q hq L hL => kk g hg q hq L (z_vl_le h hL)
theorem j_if {c : Prop} [Decidable c] {e1 e2 : Option γ} (h1 : c → z_J xL xs ρ em K d mi pc V st σ e1) (h2 : ¬ c → z_J xL xs ρ em K d mi pc V st σ e2) : z_J xL xs ρ em K d mi pc V st σ (if c then e1 else e2) := by
  by_cases h : c
  · rw [if_pos h]; exact h1 h
  · rw [if_neg h]; exact h2 h
theorem z_v1 {i : Nat} {v : Value} {L : List (Nat × Value)} (hV : V[i]? = some v) (hn : ¬ v = .null) (hL : z_vl V L) : z_get L i = some v := (hL i v hV).resolve_left hn
theorem z_pv {V : List Value} {k : Nat} {u : Value} (hu : V[k]? = some u) (hc : u.category = 1) : ∀ (j : Nat) (w : Value), j + 1 = k + 1 → V[j]? = some w → w.category = 1 := fun j w hj hw => by
  obtain rfl : j = k := by omega
  rw [hu] at hw
  cases hw
  exact hc
theorem j_iconst {n : Int} (he : z_fi (z_mi mi) pc = some (pc, .iconst n, k0, a0, b0, v0, w0)) (hp : pc + 1 = pc') (kk : z_J xL xs ρ em K d mi pc' V (.int v0 :: st) σ ex) : z_J xL xs ρ em K d mi pc V st σ ex := j_A he (fun L hL => ⟨L, by rw [← hp]; rfl, hL⟩) kk
theorem j_bipush {n : Int} (he : z_fi (z_mi mi) pc = some (pc, .bipush n, k0, a0, b0, v0, w0)) (hp : pc + 2 = pc') (kk : z_J xL xs ρ em K d mi pc' V (.int v0 :: st) σ ex) : z_J xL xs ρ em K d mi pc V st σ ex := j_A he (fun L hL => ⟨L, by rw [← hp]; rfl, hL⟩) kk
theorem j_sipush {n : Int} (he : z_fi (z_mi mi) pc = some (pc, .sipush n, k0, a0, b0, v0, w0)) (hp : pc + 3 = pc') (kk : z_J xL xs ρ em K d mi pc' V (.int v0 :: st) σ ex) : z_J xL xs ρ em K d mi pc V st σ ex := j_A he (fun L hL => ⟨L, by rw [← hp]; rfl, hL⟩) kk
theorem j_lconst {n : Fin 2} (he : z_fi (z_mi mi) pc = some (pc, .lconst n, k0, a0, b0, v0, w0)) (hp : pc + 1 = pc') (kk : z_J xL xs ρ em K d mi pc' V (.long w0 :: st) σ ex) : z_J xL xs ρ em K d mi pc V st σ ex := j_A he (fun L hL => ⟨L, by rw [← hp]; rfl, hL⟩) kk
theorem j_iload_n {i : Fin 4} {x : Int32} (he : z_fi (z_mi mi) pc = some (pc, .iload_n i, k0, a0, b0, v0, w0)) (hV : V[(i : Nat)]? = some (.int x)) (hp : pc + 1 = pc') (kk : z_J xL xs ρ em K d mi pc' V (.int x :: st) σ ex) : z_J xL xs ρ em K d mi pc V st σ ex := j_A he (fun L hL => ⟨L, by have h1 := z_v1 hV (by simp) hL; simp only [z_A, h1, hp], hL⟩) kk
theorem j_iload {i : Nat} {x : Int32} (he : z_fi (z_mi mi) pc = some (pc, .iload i, k0, a0, b0, v0, w0)) (hV : V[(i : Nat)]? = some (.int x)) (hp : pc + 2 = pc') (kk : z_J xL xs ρ em K d mi pc' V (.int x :: st) σ ex) : z_J xL xs ρ em K d mi pc V st σ ex := j_A he (fun L hL => ⟨L, by have h1 := z_v1 hV (by simp) hL; simp only [z_A, h1, hp], hL⟩) kk
theorem j_lload_n {i : Fin 4} {x : Int64} (he : z_fi (z_mi mi) pc = some (pc, .lload_n i, k0, a0, b0, v0, w0)) (hV : V[(i : Nat)]? = some (.long x)) (hp : pc + 1 = pc') (kk : z_J xL xs ρ em K d mi pc' V (.long x :: st) σ ex) : z_J xL xs ρ em K d mi pc V st σ ex := j_A he (fun L hL => ⟨L, by have h1 := z_v1 hV (by simp) hL; simp only [z_A, h1, hp], hL⟩) kk
theorem j_lload {i : Nat} {x : Int64} (he : z_fi (z_mi mi) pc = some (pc, .lload i, k0, a0, b0, v0, w0)) (hV : V[(i : Nat)]? = some (.long x)) (hp : pc + 2 = pc') (kk : z_J xL xs ρ em K d mi pc' V (.long x :: st) σ ex) : z_J xL xs ρ em K d mi pc V st σ ex := j_A he (fun L hL => ⟨L, by have h1 := z_v1 hV (by simp) hL; simp only [z_A, h1, hp], hL⟩) kk
theorem j_aload_n {i : Fin 4} {x : Nat} (he : z_fi (z_mi mi) pc = some (pc, .aload_n i, k0, a0, b0, v0, w0)) (hV : V[(i : Nat)]? = some (.ref x)) (hx : ¬ x = 4001) (hp : pc + 1 = pc') (kk : z_J xL xs ρ em K d mi pc' V (.ref x :: st) σ ex) : z_J xL xs ρ em K d mi pc V st σ ex := j_A he (fun L hL => ⟨L, by have h1 := z_v1 hV (by simp) hL; simp only [z_A, h1, hp, if_neg hx], hL⟩) kk
theorem j_aload {i : Nat} {x : Nat} (he : z_fi (z_mi mi) pc = some (pc, .aload i, k0, a0, b0, v0, w0)) (hV : V[(i : Nat)]? = some (.ref x)) (hx : ¬ x = 4001) (hp : pc + 2 = pc') (kk : z_J xL xs ρ em K d mi pc' V (.ref x :: st) σ ex) : z_J xL xs ρ em K d mi pc V st σ ex := j_A he (fun L hL => ⟨L, by have h1 := z_v1 hV (by simp) hL; simp only [z_A, h1, hp, if_neg hx], hL⟩) kk
theorem jg_istore_n {i : Fin 4} {x : Int32} (he : z_fi (z_mi mi) pc = some (pc, .istore_n i, k0, a0, b0, v0, w0)) (hV : V.set (i : Nat) (.int x) = V') (hc : ∀ (j : Nat) (w : Value), j + 1 = (i : Nat) → V[j]? = some w → w.category = 1) (hi : (i : Nat) < z_ml_ mi) (hp : pc + 1 = pc') (kk : z_J xL xs ρ em K d mi pc' V' st σ ex) : z_J xL xs ρ em K d mi pc V (.int x :: st) σ ex := j_A he (fun L hL => ⟨_, by simp only [z_A, if_pos hi, hp]; rfl, by rw [← hV]; exact z_vl_s1 hL hc⟩) kk
theorem jg_istore {i : Nat} {x : Int32} (he : z_fi (z_mi mi) pc = some (pc, .istore i, k0, a0, b0, v0, w0)) (hV : V.set (i : Nat) (.int x) = V') (hc : ∀ (j : Nat) (w : Value), j + 1 = (i : Nat) → V[j]? = some w → w.category = 1) (hi : (i : Nat) < z_ml_ mi) (hp : pc + 2 = pc') (kk : z_J xL xs ρ em K d mi pc' V' st σ ex) : z_J xL xs ρ em K d mi pc V (.int x :: st) σ ex := j_A he (fun L hL => ⟨_, by simp only [z_A, if_pos hi, hp]; rfl, by rw [← hV]; exact z_vl_s1 hL hc⟩) kk
theorem jg_astore_n {i : Fin 4} {x : Nat} (he : z_fi (z_mi mi) pc = some (pc, .astore_n i, k0, a0, b0, v0, w0)) (hV : V.set (i : Nat) (.ref x) = V') (hc : ∀ (j : Nat) (w : Value), j + 1 = (i : Nat) → V[j]? = some w → w.category = 1) (hi : (i : Nat) < z_ml_ mi ∧ ¬ x = 4001) (hp : pc + 1 = pc') (kk : z_J xL xs ρ em K d mi pc' V' st σ ex) : z_J xL xs ρ em K d mi pc V (.ref x :: st) σ ex := j_A he (fun L hL => ⟨_, by simp only [z_A, if_pos hi, hp]; rfl, by rw [← hV]; exact z_vl_s1 hL hc⟩) kk
theorem jg_astore {i : Nat} {x : Nat} (he : z_fi (z_mi mi) pc = some (pc, .astore i, k0, a0, b0, v0, w0)) (hV : V.set (i : Nat) (.ref x) = V') (hc : ∀ (j : Nat) (w : Value), j + 1 = (i : Nat) → V[j]? = some w → w.category = 1) (hi : (i : Nat) < z_ml_ mi ∧ ¬ x = 4001) (hp : pc + 2 = pc') (kk : z_J xL xs ρ em K d mi pc' V' st σ ex) : z_J xL xs ρ em K d mi pc V (.ref x :: st) σ ex := j_A he (fun L hL => ⟨_, by simp only [z_A, if_pos hi, hp]; rfl, by rw [← hV]; exact z_vl_s1 hL hc⟩) kk
theorem jg_lstore_n {i : Fin 4} {x : Int64} (he : z_fi (z_mi mi) pc = some (pc, .lstore_n i, k0, a0, b0, v0, w0)) (hV : (V.set (i : Nat) (.long x)).set ((i : Nat) + 1) .null = V') (hc : ∀ (j : Nat) (w : Value), j + 1 = (i : Nat) → V[j]? = some w → w.category = 1) (hi : (i : Nat) + 1 < z_ml_ mi) (hp : pc + 1 = pc') (kk : z_J xL xs ρ em K d mi pc' V' st σ ex) : z_J xL xs ρ em K d mi pc V (.long x :: st) σ ex := j_A he (fun L hL => ⟨_, by simp only [z_A, if_pos hi, hp]; rfl, by rw [← hV]; exact z_vl_s2 hL hc⟩) kk
theorem jg_lstore {i : Nat} {x : Int64} (he : z_fi (z_mi mi) pc = some (pc, .lstore i, k0, a0, b0, v0, w0)) (hV : (V.set (i : Nat) (.long x)).set ((i : Nat) + 1) .null = V') (hc : ∀ (j : Nat) (w : Value), j + 1 = (i : Nat) → V[j]? = some w → w.category = 1) (hi : (i : Nat) + 1 < z_ml_ mi) (hp : pc + 2 = pc') (kk : z_J xL xs ρ em K d mi pc' V' st σ ex) : z_J xL xs ρ em K d mi pc V (.long x :: st) σ ex := j_A he (fun L hL => ⟨_, by simp only [z_A, if_pos hi, hp]; rfl, by rw [← hV]; exact z_vl_s2 hL hc⟩) kk
theorem jg_iinc {i : Nat} {n : Int} {x : Int32} (he : z_fi (z_mi mi) pc = some (pc, .iinc i n, k0, a0, b0, v0, w0)) (hx : V[i]? = some (.int x)) (hV : V.set i (.int (x + v0)) = V') (hc : ∀ (j : Nat) (w : Value), j + 1 = i → V[j]? = some w → w.category = 1) (hi : i < z_ml_ mi) (hp : pc + 3 = pc') (kk : z_J xL xs ρ em K d mi pc' V' st σ ex) : z_J xL xs ρ em K d mi pc V st σ ex := j_A he (fun L hL => ⟨_, by have h1 := z_v1 hx (by simp) hL; simp only [z_A, h1, if_pos hi, hp]; rfl, by rw [← hV]; exact z_vl_s1 hL hc⟩) kk
theorem j_istore0 {u0 : Value} {x : Int32} (he : z_fi (z_mi mi) pc = some (pc, .istore_n 0, k0, a0, b0, v0, w0)) (hi : 0 < z_ml_ mi) (hp : pc + 1 = pc') (kk : z_J xL xs ρ em K d mi pc' (.int x :: V) st σ ex) : z_J xL xs ρ em K d mi pc (u0 :: V) (.int x :: st) σ ex := jg_istore_n (i := 0) he rfl (fun j w hj => by omega) hi hp kk
theorem j_astore0 {u0 : Value} {x : Nat} (he : z_fi (z_mi mi) pc = some (pc, .astore_n 0, k0, a0, b0, v0, w0)) (hx : ¬ x = 4001) (hi : 0 < z_ml_ mi) (hp : pc + 1 = pc') (kk : z_J xL xs ρ em K d mi pc' (.ref x :: V) st σ ex) : z_J xL xs ρ em K d mi pc (u0 :: V) (.ref x :: st) σ ex := jg_astore_n (i := 0) he rfl (fun j w hj => by omega) ⟨hi, hx⟩ hp kk
theorem j_iinc0 {n : Int} {x : Int32} (he : z_fi (z_mi mi) pc = some (pc, .iinc 0 n, k0, a0, b0, v0, w0)) (hi : 0 < z_ml_ mi) (hp : pc + 3 = pc') (kk : z_J xL xs ρ em K d mi pc' (.int (x + v0) :: V) st σ ex) : z_J xL xs ρ em K d mi pc (.int x :: V) st σ ex := jg_iinc (i := 0) he rfl rfl (fun j w hj => by omega) hi hp kk
theorem j_lstore0 {u0 t : Value} {x : Int64} (he : z_fi (z_mi mi) pc = some (pc, .lstore_n 0, k0, a0, b0, v0, w0)) (hi : 0 + 1 < z_ml_ mi) (hp : pc + 1 = pc') (kk : z_J xL xs ρ em K d mi pc' (.long x :: .null :: V) st σ ex) : z_J xL xs ρ em K d mi pc (u0 :: t :: V) (.long x :: st) σ ex := jg_lstore_n (i := 0) he rfl (fun j w hj => by omega) hi hp kk
theorem j_istore1 {u0 u1 : Value} {x : Int32} (he : z_fi (z_mi mi) pc = some (pc, .istore_n 1, k0, a0, b0, v0, w0)) (hc : u0.category = 1) (hi : 1 < z_ml_ mi) (hp : pc + 1 = pc') (kk : z_J xL xs ρ em K d mi pc' (u0 :: .int x :: V) st σ ex) : z_J xL xs ρ em K d mi pc (u0 :: u1 :: V) (.int x :: st) σ ex := jg_istore_n (i := 1) he rfl (z_pv (k := 0) rfl hc) hi hp kk
theorem j_astore1 {u0 u1 : Value} {x : Nat} (he : z_fi (z_mi mi) pc = some (pc, .astore_n 1, k0, a0, b0, v0, w0)) (hc : u0.category = 1) (hx : ¬ x = 4001) (hi : 1 < z_ml_ mi) (hp : pc + 1 = pc') (kk : z_J xL xs ρ em K d mi pc' (u0 :: .ref x :: V) st σ ex) : z_J xL xs ρ em K d mi pc (u0 :: u1 :: V) (.ref x :: st) σ ex := jg_astore_n (i := 1) he rfl (z_pv (k := 0) rfl hc) ⟨hi, hx⟩ hp kk
theorem j_iinc1 {u0 : Value} {n : Int} {x : Int32} (he : z_fi (z_mi mi) pc = some (pc, .iinc 1 n, k0, a0, b0, v0, w0)) (hc : u0.category = 1) (hi : 1 < z_ml_ mi) (hp : pc + 3 = pc') (kk : z_J xL xs ρ em K d mi pc' (u0 :: .int (x + v0) :: V) st σ ex) : z_J xL xs ρ em K d mi pc (u0 :: .int x :: V) st σ ex := jg_iinc (i := 1) he rfl rfl (z_pv (k := 0) rfl hc) hi hp kk
theorem j_lstore1 {u0 u1 t : Value} {x : Int64} (he : z_fi (z_mi mi) pc = some (pc, .lstore_n 1, k0, a0, b0, v0, w0)) (hc : u0.category = 1) (hi : 1 + 1 < z_ml_ mi) (hp : pc + 1 = pc') (kk : z_J xL xs ρ em K d mi pc' (u0 :: .long x :: .null :: V) st σ ex) : z_J xL xs ρ em K d mi pc (u0 :: u1 :: t :: V) (.long x :: st) σ ex := jg_lstore_n (i := 1) he rfl (z_pv (k := 0) rfl hc) hi hp kk
theorem j_istore2 {u0 u1 u2 : Value} {x : Int32} (he : z_fi (z_mi mi) pc = some (pc, .istore_n 2, k0, a0, b0, v0, w0)) (hc : u1.category = 1) (hi : 2 < z_ml_ mi) (hp : pc + 1 = pc') (kk : z_J xL xs ρ em K d mi pc' (u0 :: u1 :: .int x :: V) st σ ex) : z_J xL xs ρ em K d mi pc (u0 :: u1 :: u2 :: V) (.int x :: st) σ ex := jg_istore_n (i := 2) he rfl (z_pv (k := 1) rfl hc) hi hp kk
theorem j_astore2 {u0 u1 u2 : Value} {x : Nat} (he : z_fi (z_mi mi) pc = some (pc, .astore_n 2, k0, a0, b0, v0, w0)) (hc : u1.category = 1) (hx : ¬ x = 4001) (hi : 2 < z_ml_ mi) (hp : pc + 1 = pc') (kk : z_J xL xs ρ em K d mi pc' (u0 :: u1 :: .ref x :: V) st σ ex) : z_J xL xs ρ em K d mi pc (u0 :: u1 :: u2 :: V) (.ref x :: st) σ ex := jg_astore_n (i := 2) he rfl (z_pv (k := 1) rfl hc) ⟨hi, hx⟩ hp kk
theorem j_iinc2 {u0 u1 : Value} {n : Int} {x : Int32} (he : z_fi (z_mi mi) pc = some (pc, .iinc 2 n, k0, a0, b0, v0, w0)) (hc : u1.category = 1) (hi : 2 < z_ml_ mi) (hp : pc + 3 = pc') (kk : z_J xL xs ρ em K d mi pc' (u0 :: u1 :: .int (x + v0) :: V) st σ ex) : z_J xL xs ρ em K d mi pc (u0 :: u1 :: .int x :: V) st σ ex := jg_iinc (i := 2) he rfl rfl (z_pv (k := 1) rfl hc) hi hp kk
theorem j_lstore2 {u0 u1 u2 t : Value} {x : Int64} (he : z_fi (z_mi mi) pc = some (pc, .lstore_n 2, k0, a0, b0, v0, w0)) (hc : u1.category = 1) (hi : 2 + 1 < z_ml_ mi) (hp : pc + 1 = pc') (kk : z_J xL xs ρ em K d mi pc' (u0 :: u1 :: .long x :: .null :: V) st σ ex) : z_J xL xs ρ em K d mi pc (u0 :: u1 :: u2 :: t :: V) (.long x :: st) σ ex := jg_lstore_n (i := 2) he rfl (z_pv (k := 1) rfl hc) hi hp kk
theorem j_istore3 {u0 u1 u2 u3 : Value} {x : Int32} (he : z_fi (z_mi mi) pc = some (pc, .istore_n 3, k0, a0, b0, v0, w0)) (hc : u2.category = 1) (hi : 3 < z_ml_ mi) (hp : pc + 1 = pc') (kk : z_J xL xs ρ em K d mi pc' (u0 :: u1 :: u2 :: .int x :: V) st σ ex) : z_J xL xs ρ em K d mi pc (u0 :: u1 :: u2 :: u3 :: V) (.int x :: st) σ ex := jg_istore_n (i := 3) he rfl (z_pv (k := 2) rfl hc) hi hp kk
theorem j_astore3 {u0 u1 u2 u3 : Value} {x : Nat} (he : z_fi (z_mi mi) pc = some (pc, .astore_n 3, k0, a0, b0, v0, w0)) (hc : u2.category = 1) (hx : ¬ x = 4001) (hi : 3 < z_ml_ mi) (hp : pc + 1 = pc') (kk : z_J xL xs ρ em K d mi pc' (u0 :: u1 :: u2 :: .ref x :: V) st σ ex) : z_J xL xs ρ em K d mi pc (u0 :: u1 :: u2 :: u3 :: V) (.ref x :: st) σ ex := jg_astore_n (i := 3) he rfl (z_pv (k := 2) rfl hc) ⟨hi, hx⟩ hp kk
theorem j_iinc3 {u0 u1 u2 : Value} {n : Int} {x : Int32} (he : z_fi (z_mi mi) pc = some (pc, .iinc 3 n, k0, a0, b0, v0, w0)) (hc : u2.category = 1) (hi : 3 < z_ml_ mi) (hp : pc + 3 = pc') (kk : z_J xL xs ρ em K d mi pc' (u0 :: u1 :: u2 :: .int (x + v0) :: V) st σ ex) : z_J xL xs ρ em K d mi pc (u0 :: u1 :: u2 :: .int x :: V) st σ ex := jg_iinc (i := 3) he rfl rfl (z_pv (k := 2) rfl hc) hi hp kk
theorem j_lstore3 {u0 u1 u2 u3 t : Value} {x : Int64} (he : z_fi (z_mi mi) pc = some (pc, .lstore_n 3, k0, a0, b0, v0, w0)) (hc : u2.category = 1) (hi : 3 + 1 < z_ml_ mi) (hp : pc + 1 = pc') (kk : z_J xL xs ρ em K d mi pc' (u0 :: u1 :: u2 :: .long x :: .null :: V) st σ ex) : z_J xL xs ρ em K d mi pc (u0 :: u1 :: u2 :: u3 :: t :: V) (.long x :: st) σ ex := jg_lstore_n (i := 3) he rfl (z_pv (k := 2) rfl hc) hi hp kk
theorem j_istore4 {u0 u1 u2 u3 u4 : Value} {x : Int32} (he : z_fi (z_mi mi) pc = some (pc, .istore 4, k0, a0, b0, v0, w0)) (hc : u3.category = 1) (hi : 4 < z_ml_ mi) (hp : pc + 2 = pc') (kk : z_J xL xs ρ em K d mi pc' (u0 :: u1 :: u2 :: u3 :: .int x :: V) st σ ex) : z_J xL xs ρ em K d mi pc (u0 :: u1 :: u2 :: u3 :: u4 :: V) (.int x :: st) σ ex := jg_istore (i := 4) he rfl (z_pv (k := 3) rfl hc) hi hp kk
theorem j_astore4 {u0 u1 u2 u3 u4 : Value} {x : Nat} (he : z_fi (z_mi mi) pc = some (pc, .astore 4, k0, a0, b0, v0, w0)) (hc : u3.category = 1) (hx : ¬ x = 4001) (hi : 4 < z_ml_ mi) (hp : pc + 2 = pc') (kk : z_J xL xs ρ em K d mi pc' (u0 :: u1 :: u2 :: u3 :: .ref x :: V) st σ ex) : z_J xL xs ρ em K d mi pc (u0 :: u1 :: u2 :: u3 :: u4 :: V) (.ref x :: st) σ ex := jg_astore (i := 4) he rfl (z_pv (k := 3) rfl hc) ⟨hi, hx⟩ hp kk
theorem j_iinc4 {u0 u1 u2 u3 : Value} {n : Int} {x : Int32} (he : z_fi (z_mi mi) pc = some (pc, .iinc 4 n, k0, a0, b0, v0, w0)) (hc : u3.category = 1) (hi : 4 < z_ml_ mi) (hp : pc + 3 = pc') (kk : z_J xL xs ρ em K d mi pc' (u0 :: u1 :: u2 :: u3 :: .int (x + v0) :: V) st σ ex) : z_J xL xs ρ em K d mi pc (u0 :: u1 :: u2 :: u3 :: .int x :: V) st σ ex := jg_iinc (i := 4) he rfl rfl (z_pv (k := 3) rfl hc) hi hp kk
theorem j_lstore4 {u0 u1 u2 u3 u4 t : Value} {x : Int64} (he : z_fi (z_mi mi) pc = some (pc, .lstore 4, k0, a0, b0, v0, w0)) (hc : u3.category = 1) (hi : 4 + 1 < z_ml_ mi) (hp : pc + 2 = pc') (kk : z_J xL xs ρ em K d mi pc' (u0 :: u1 :: u2 :: u3 :: .long x :: .null :: V) st σ ex) : z_J xL xs ρ em K d mi pc (u0 :: u1 :: u2 :: u3 :: u4 :: t :: V) (.long x :: st) σ ex := jg_lstore (i := 4) he rfl (z_pv (k := 3) rfl hc) hi hp kk
theorem j_istore5 {u0 u1 u2 u3 u4 u5 : Value} {x : Int32} (he : z_fi (z_mi mi) pc = some (pc, .istore 5, k0, a0, b0, v0, w0)) (hc : u4.category = 1) (hi : 5 < z_ml_ mi) (hp : pc + 2 = pc') (kk : z_J xL xs ρ em K d mi pc' (u0 :: u1 :: u2 :: u3 :: u4 :: .int x :: V) st σ ex) : z_J xL xs ρ em K d mi pc (u0 :: u1 :: u2 :: u3 :: u4 :: u5 :: V) (.int x :: st) σ ex := jg_istore (i := 5) he rfl (z_pv (k := 4) rfl hc) hi hp kk
theorem j_astore5 {u0 u1 u2 u3 u4 u5 : Value} {x : Nat} (he : z_fi (z_mi mi) pc = some (pc, .astore 5, k0, a0, b0, v0, w0)) (hc : u4.category = 1) (hx : ¬ x = 4001) (hi : 5 < z_ml_ mi) (hp : pc + 2 = pc') (kk : z_J xL xs ρ em K d mi pc' (u0 :: u1 :: u2 :: u3 :: u4 :: .ref x :: V) st σ ex) : z_J xL xs ρ em K d mi pc (u0 :: u1 :: u2 :: u3 :: u4 :: u5 :: V) (.ref x :: st) σ ex := jg_astore (i := 5) he rfl (z_pv (k := 4) rfl hc) ⟨hi, hx⟩ hp kk
theorem j_iinc5 {u0 u1 u2 u3 u4 : Value} {n : Int} {x : Int32} (he : z_fi (z_mi mi) pc = some (pc, .iinc 5 n, k0, a0, b0, v0, w0)) (hc : u4.category = 1) (hi : 5 < z_ml_ mi) (hp : pc + 3 = pc') (kk : z_J xL xs ρ em K d mi pc' (u0 :: u1 :: u2 :: u3 :: u4 :: .int (x + v0) :: V) st σ ex) : z_J xL xs ρ em K d mi pc (u0 :: u1 :: u2 :: u3 :: u4 :: .int x :: V) st σ ex := jg_iinc (i := 5) he rfl rfl (z_pv (k := 4) rfl hc) hi hp kk
theorem j_lstore5 {u0 u1 u2 u3 u4 u5 t : Value} {x : Int64} (he : z_fi (z_mi mi) pc = some (pc, .lstore 5, k0, a0, b0, v0, w0)) (hc : u4.category = 1) (hi : 5 + 1 < z_ml_ mi) (hp : pc + 2 = pc') (kk : z_J xL xs ρ em K d mi pc' (u0 :: u1 :: u2 :: u3 :: u4 :: .long x :: .null :: V) st σ ex) : z_J xL xs ρ em K d mi pc (u0 :: u1 :: u2 :: u3 :: u4 :: u5 :: t :: V) (.long x :: st) σ ex := jg_lstore (i := 5) he rfl (z_pv (k := 4) rfl hc) hi hp kk
theorem j_istore6 {u0 u1 u2 u3 u4 u5 u6 : Value} {x : Int32} (he : z_fi (z_mi mi) pc = some (pc, .istore 6, k0, a0, b0, v0, w0)) (hc : u5.category = 1) (hi : 6 < z_ml_ mi) (hp : pc + 2 = pc') (kk : z_J xL xs ρ em K d mi pc' (u0 :: u1 :: u2 :: u3 :: u4 :: u5 :: .int x :: V) st σ ex) : z_J xL xs ρ em K d mi pc (u0 :: u1 :: u2 :: u3 :: u4 :: u5 :: u6 :: V) (.int x :: st) σ ex := jg_istore (i := 6) he rfl (z_pv (k := 5) rfl hc) hi hp kk
theorem j_astore6 {u0 u1 u2 u3 u4 u5 u6 : Value} {x : Nat} (he : z_fi (z_mi mi) pc = some (pc, .astore 6, k0, a0, b0, v0, w0)) (hc : u5.category = 1) (hx : ¬ x = 4001) (hi : 6 < z_ml_ mi) (hp : pc + 2 = pc') (kk : z_J xL xs ρ em K d mi pc' (u0 :: u1 :: u2 :: u3 :: u4 :: u5 :: .ref x :: V) st σ ex) : z_J xL xs ρ em K d mi pc (u0 :: u1 :: u2 :: u3 :: u4 :: u5 :: u6 :: V) (.ref x :: st) σ ex := jg_astore (i := 6) he rfl (z_pv (k := 5) rfl hc) ⟨hi, hx⟩ hp kk
theorem j_iinc6 {u0 u1 u2 u3 u4 u5 : Value} {n : Int} {x : Int32} (he : z_fi (z_mi mi) pc = some (pc, .iinc 6 n, k0, a0, b0, v0, w0)) (hc : u5.category = 1) (hi : 6 < z_ml_ mi) (hp : pc + 3 = pc') (kk : z_J xL xs ρ em K d mi pc' (u0 :: u1 :: u2 :: u3 :: u4 :: u5 :: .int (x + v0) :: V) st σ ex) : z_J xL xs ρ em K d mi pc (u0 :: u1 :: u2 :: u3 :: u4 :: u5 :: .int x :: V) st σ ex := jg_iinc (i := 6) he rfl rfl (z_pv (k := 5) rfl hc) hi hp kk
theorem j_lstore6 {u0 u1 u2 u3 u4 u5 u6 t : Value} {x : Int64} (he : z_fi (z_mi mi) pc = some (pc, .lstore 6, k0, a0, b0, v0, w0)) (hc : u5.category = 1) (hi : 6 + 1 < z_ml_ mi) (hp : pc + 2 = pc') (kk : z_J xL xs ρ em K d mi pc' (u0 :: u1 :: u2 :: u3 :: u4 :: u5 :: .long x :: .null :: V) st σ ex) : z_J xL xs ρ em K d mi pc (u0 :: u1 :: u2 :: u3 :: u4 :: u5 :: u6 :: t :: V) (.long x :: st) σ ex := jg_lstore (i := 6) he rfl (z_pv (k := 5) rfl hc) hi hp kk
theorem j_istore7 {u0 u1 u2 u3 u4 u5 u6 u7 : Value} {x : Int32} (he : z_fi (z_mi mi) pc = some (pc, .istore 7, k0, a0, b0, v0, w0)) (hc : u6.category = 1) (hi : 7 < z_ml_ mi) (hp : pc + 2 = pc') (kk : z_J xL xs ρ em K d mi pc' (u0 :: u1 :: u2 :: u3 :: u4 :: u5 :: u6 :: .int x :: V) st σ ex) : z_J xL xs ρ em K d mi pc (u0 :: u1 :: u2 :: u3 :: u4 :: u5 :: u6 :: u7 :: V) (.int x :: st) σ ex := jg_istore (i := 7) he rfl (z_pv (k := 6) rfl hc) hi hp kk
theorem j_astore7 {u0 u1 u2 u3 u4 u5 u6 u7 : Value} {x : Nat} (he : z_fi (z_mi mi) pc = some (pc, .astore 7, k0, a0, b0, v0, w0)) (hc : u6.category = 1) (hx : ¬ x = 4001) (hi : 7 < z_ml_ mi) (hp : pc + 2 = pc') (kk : z_J xL xs ρ em K d mi pc' (u0 :: u1 :: u2 :: u3 :: u4 :: u5 :: u6 :: .ref x :: V) st σ ex) : z_J xL xs ρ em K d mi pc (u0 :: u1 :: u2 :: u3 :: u4 :: u5 :: u6 :: u7 :: V) (.ref x :: st) σ ex := jg_astore (i := 7) he rfl (z_pv (k := 6) rfl hc) ⟨hi, hx⟩ hp kk
theorem j_iinc7 {u0 u1 u2 u3 u4 u5 u6 : Value} {n : Int} {x : Int32} (he : z_fi (z_mi mi) pc = some (pc, .iinc 7 n, k0, a0, b0, v0, w0)) (hc : u6.category = 1) (hi : 7 < z_ml_ mi) (hp : pc + 3 = pc') (kk : z_J xL xs ρ em K d mi pc' (u0 :: u1 :: u2 :: u3 :: u4 :: u5 :: u6 :: .int (x + v0) :: V) st σ ex) : z_J xL xs ρ em K d mi pc (u0 :: u1 :: u2 :: u3 :: u4 :: u5 :: u6 :: .int x :: V) st σ ex := jg_iinc (i := 7) he rfl rfl (z_pv (k := 6) rfl hc) hi hp kk
theorem j_lstore7 {u0 u1 u2 u3 u4 u5 u6 u7 t : Value} {x : Int64} (he : z_fi (z_mi mi) pc = some (pc, .lstore 7, k0, a0, b0, v0, w0)) (hc : u6.category = 1) (hi : 7 + 1 < z_ml_ mi) (hp : pc + 2 = pc') (kk : z_J xL xs ρ em K d mi pc' (u0 :: u1 :: u2 :: u3 :: u4 :: u5 :: u6 :: .long x :: .null :: V) st σ ex) : z_J xL xs ρ em K d mi pc (u0 :: u1 :: u2 :: u3 :: u4 :: u5 :: u6 :: u7 :: t :: V) (.long x :: st) σ ex := jg_lstore (i := 7) he rfl (z_pv (k := 6) rfl hc) hi hp kk
theorem j_istore8 {u0 u1 u2 u3 u4 u5 u6 u7 u8 : Value} {x : Int32} (he : z_fi (z_mi mi) pc = some (pc, .istore 8, k0, a0, b0, v0, w0)) (hc : u7.category = 1) (hi : 8 < z_ml_ mi) (hp : pc + 2 = pc') (kk : z_J xL xs ρ em K d mi pc' (u0 :: u1 :: u2 :: u3 :: u4 :: u5 :: u6 :: u7 :: .int x :: V) st σ ex) : z_J xL xs ρ em K d mi pc (u0 :: u1 :: u2 :: u3 :: u4 :: u5 :: u6 :: u7 :: u8 :: V) (.int x :: st) σ ex := jg_istore (i := 8) he rfl (z_pv (k := 7) rfl hc) hi hp kk
theorem j_astore8 {u0 u1 u2 u3 u4 u5 u6 u7 u8 : Value} {x : Nat} (he : z_fi (z_mi mi) pc = some (pc, .astore 8, k0, a0, b0, v0, w0)) (hc : u7.category = 1) (hx : ¬ x = 4001) (hi : 8 < z_ml_ mi) (hp : pc + 2 = pc') (kk : z_J xL xs ρ em K d mi pc' (u0 :: u1 :: u2 :: u3 :: u4 :: u5 :: u6 :: u7 :: .ref x :: V) st σ ex) : z_J xL xs ρ em K d mi pc (u0 :: u1 :: u2 :: u3 :: u4 :: u5 :: u6 :: u7 :: u8 :: V) (.ref x :: st) σ ex := jg_astore (i := 8) he rfl (z_pv (k := 7) rfl hc) ⟨hi, hx⟩ hp kk
theorem j_iinc8 {u0 u1 u2 u3 u4 u5 u6 u7 : Value} {n : Int} {x : Int32} (he : z_fi (z_mi mi) pc = some (pc, .iinc 8 n, k0, a0, b0, v0, w0)) (hc : u7.category = 1) (hi : 8 < z_ml_ mi) (hp : pc + 3 = pc') (kk : z_J xL xs ρ em K d mi pc' (u0 :: u1 :: u2 :: u3 :: u4 :: u5 :: u6 :: u7 :: .int (x + v0) :: V) st σ ex) : z_J xL xs ρ em K d mi pc (u0 :: u1 :: u2 :: u3 :: u4 :: u5 :: u6 :: u7 :: .int x :: V) st σ ex := jg_iinc (i := 8) he rfl rfl (z_pv (k := 7) rfl hc) hi hp kk
theorem j_lstore8 {u0 u1 u2 u3 u4 u5 u6 u7 u8 t : Value} {x : Int64} (he : z_fi (z_mi mi) pc = some (pc, .lstore 8, k0, a0, b0, v0, w0)) (hc : u7.category = 1) (hi : 8 + 1 < z_ml_ mi) (hp : pc + 2 = pc') (kk : z_J xL xs ρ em K d mi pc' (u0 :: u1 :: u2 :: u3 :: u4 :: u5 :: u6 :: u7 :: .long x :: .null :: V) st σ ex) : z_J xL xs ρ em K d mi pc (u0 :: u1 :: u2 :: u3 :: u4 :: u5 :: u6 :: u7 :: u8 :: t :: V) (.long x :: st) σ ex := jg_lstore (i := 8) he rfl (z_pv (k := 7) rfl hc) hi hp kk
theorem j_istore9 {u0 u1 u2 u3 u4 u5 u6 u7 u8 u9 : Value} {x : Int32} (he : z_fi (z_mi mi) pc = some (pc, .istore 9, k0, a0, b0, v0, w0)) (hc : u8.category = 1) (hi : 9 < z_ml_ mi) (hp : pc + 2 = pc') (kk : z_J xL xs ρ em K d mi pc' (u0 :: u1 :: u2 :: u3 :: u4 :: u5 :: u6 :: u7 :: u8 :: .int x :: V) st σ ex) : z_J xL xs ρ em K d mi pc (u0 :: u1 :: u2 :: u3 :: u4 :: u5 :: u6 :: u7 :: u8 :: u9 :: V) (.int x :: st) σ ex := jg_istore (i := 9) he rfl (z_pv (k := 8) rfl hc) hi hp kk
theorem j_astore9 {u0 u1 u2 u3 u4 u5 u6 u7 u8 u9 : Value} {x : Nat} (he : z_fi (z_mi mi) pc = some (pc, .astore 9, k0, a0, b0, v0, w0)) (hc : u8.category = 1) (hx : ¬ x = 4001) (hi : 9 < z_ml_ mi) (hp : pc + 2 = pc') (kk : z_J xL xs ρ em K d mi pc' (u0 :: u1 :: u2 :: u3 :: u4 :: u5 :: u6 :: u7 :: u8 :: .ref x :: V) st σ ex) : z_J xL xs ρ em K d mi pc (u0 :: u1 :: u2 :: u3 :: u4 :: u5 :: u6 :: u7 :: u8 :: u9 :: V) (.ref x :: st) σ ex := jg_astore (i := 9) he rfl (z_pv (k := 8) rfl hc) ⟨hi, hx⟩ hp kk
theorem j_iinc9 {u0 u1 u2 u3 u4 u5 u6 u7 u8 : Value} {n : Int} {x : Int32} (he : z_fi (z_mi mi) pc = some (pc, .iinc 9 n, k0, a0, b0, v0, w0)) (hc : u8.category = 1) (hi : 9 < z_ml_ mi) (hp : pc + 3 = pc') (kk : z_J xL xs ρ em K d mi pc' (u0 :: u1 :: u2 :: u3 :: u4 :: u5 :: u6 :: u7 :: u8 :: .int (x + v0) :: V) st σ ex) : z_J xL xs ρ em K d mi pc (u0 :: u1 :: u2 :: u3 :: u4 :: u5 :: u6 :: u7 :: u8 :: .int x :: V) st σ ex := jg_iinc (i := 9) he rfl rfl (z_pv (k := 8) rfl hc) hi hp kk
theorem j_lstore9 {u0 u1 u2 u3 u4 u5 u6 u7 u8 u9 t : Value} {x : Int64} (he : z_fi (z_mi mi) pc = some (pc, .lstore 9, k0, a0, b0, v0, w0)) (hc : u8.category = 1) (hi : 9 + 1 < z_ml_ mi) (hp : pc + 2 = pc') (kk : z_J xL xs ρ em K d mi pc' (u0 :: u1 :: u2 :: u3 :: u4 :: u5 :: u6 :: u7 :: u8 :: .long x :: .null :: V) st σ ex) : z_J xL xs ρ em K d mi pc (u0 :: u1 :: u2 :: u3 :: u4 :: u5 :: u6 :: u7 :: u8 :: u9 :: t :: V) (.long x :: st) σ ex := jg_lstore (i := 9) he rfl (z_pv (k := 8) rfl hc) hi hp kk
theorem j_istore10 {u0 u1 u2 u3 u4 u5 u6 u7 u8 u9 u10 : Value} {x : Int32} (he : z_fi (z_mi mi) pc = some (pc, .istore 10, k0, a0, b0, v0, w0)) (hc : u9.category = 1) (hi : 10 < z_ml_ mi) (hp : pc + 2 = pc') (kk : z_J xL xs ρ em K d mi pc' (u0 :: u1 :: u2 :: u3 :: u4 :: u5 :: u6 :: u7 :: u8 :: u9 :: .int x :: V) st σ ex) : z_J xL xs ρ em K d mi pc (u0 :: u1 :: u2 :: u3 :: u4 :: u5 :: u6 :: u7 :: u8 :: u9 :: u10 :: V) (.int x :: st) σ ex := jg_istore (i := 10) he rfl (z_pv (k := 9) rfl hc) hi hp kk
theorem j_astore10 {u0 u1 u2 u3 u4 u5 u6 u7 u8 u9 u10 : Value} {x : Nat} (he : z_fi (z_mi mi) pc = some (pc, .astore 10, k0, a0, b0, v0, w0)) (hc : u9.category = 1) (hx : ¬ x = 4001) (hi : 10 < z_ml_ mi) (hp : pc + 2 = pc') (kk : z_J xL xs ρ em K d mi pc' (u0 :: u1 :: u2 :: u3 :: u4 :: u5 :: u6 :: u7 :: u8 :: u9 :: .ref x :: V) st σ ex) : z_J xL xs ρ em K d mi pc (u0 :: u1 :: u2 :: u3 :: u4 :: u5 :: u6 :: u7 :: u8 :: u9 :: u10 :: V) (.ref x :: st) σ ex := jg_astore (i := 10) he rfl (z_pv (k := 9) rfl hc) ⟨hi, hx⟩ hp kk
theorem j_iinc10 {u0 u1 u2 u3 u4 u5 u6 u7 u8 u9 : Value} {n : Int} {x : Int32} (he : z_fi (z_mi mi) pc = some (pc, .iinc 10 n, k0, a0, b0, v0, w0)) (hc : u9.category = 1) (hi : 10 < z_ml_ mi) (hp : pc + 3 = pc') (kk : z_J xL xs ρ em K d mi pc' (u0 :: u1 :: u2 :: u3 :: u4 :: u5 :: u6 :: u7 :: u8 :: u9 :: .int (x + v0) :: V) st σ ex) : z_J xL xs ρ em K d mi pc (u0 :: u1 :: u2 :: u3 :: u4 :: u5 :: u6 :: u7 :: u8 :: u9 :: .int x :: V) st σ ex := jg_iinc (i := 10) he rfl rfl (z_pv (k := 9) rfl hc) hi hp kk
theorem j_lstore10 {u0 u1 u2 u3 u4 u5 u6 u7 u8 u9 u10 t : Value} {x : Int64} (he : z_fi (z_mi mi) pc = some (pc, .lstore 10, k0, a0, b0, v0, w0)) (hc : u9.category = 1) (hi : 10 + 1 < z_ml_ mi) (hp : pc + 2 = pc') (kk : z_J xL xs ρ em K d mi pc' (u0 :: u1 :: u2 :: u3 :: u4 :: u5 :: u6 :: u7 :: u8 :: u9 :: .long x :: .null :: V) st σ ex) : z_J xL xs ρ em K d mi pc (u0 :: u1 :: u2 :: u3 :: u4 :: u5 :: u6 :: u7 :: u8 :: u9 :: u10 :: t :: V) (.long x :: st) σ ex := jg_lstore (i := 10) he rfl (z_pv (k := 9) rfl hc) hi hp kk
theorem j_istore11 {u0 u1 u2 u3 u4 u5 u6 u7 u8 u9 u10 u11 : Value} {x : Int32} (he : z_fi (z_mi mi) pc = some (pc, .istore 11, k0, a0, b0, v0, w0)) (hc : u10.category = 1) (hi : 11 < z_ml_ mi) (hp : pc + 2 = pc') (kk : z_J xL xs ρ em K d mi pc' (u0 :: u1 :: u2 :: u3 :: u4 :: u5 :: u6 :: u7 :: u8 :: u9 :: u10 :: .int x :: V) st σ ex) : z_J xL xs ρ em K d mi pc (u0 :: u1 :: u2 :: u3 :: u4 :: u5 :: u6 :: u7 :: u8 :: u9 :: u10 :: u11 :: V) (.int x :: st) σ ex := jg_istore (i := 11) he rfl (z_pv (k := 10) rfl hc) hi hp kk
theorem j_astore11 {u0 u1 u2 u3 u4 u5 u6 u7 u8 u9 u10 u11 : Value} {x : Nat} (he : z_fi (z_mi mi) pc = some (pc, .astore 11, k0, a0, b0, v0, w0)) (hc : u10.category = 1) (hx : ¬ x = 4001) (hi : 11 < z_ml_ mi) (hp : pc + 2 = pc') (kk : z_J xL xs ρ em K d mi pc' (u0 :: u1 :: u2 :: u3 :: u4 :: u5 :: u6 :: u7 :: u8 :: u9 :: u10 :: .ref x :: V) st σ ex) : z_J xL xs ρ em K d mi pc (u0 :: u1 :: u2 :: u3 :: u4 :: u5 :: u6 :: u7 :: u8 :: u9 :: u10 :: u11 :: V) (.ref x :: st) σ ex := jg_astore (i := 11) he rfl (z_pv (k := 10) rfl hc) ⟨hi, hx⟩ hp kk
theorem j_iinc11 {u0 u1 u2 u3 u4 u5 u6 u7 u8 u9 u10 : Value} {n : Int} {x : Int32} (he : z_fi (z_mi mi) pc = some (pc, .iinc 11 n, k0, a0, b0, v0, w0)) (hc : u10.category = 1) (hi : 11 < z_ml_ mi) (hp : pc + 3 = pc') (kk : z_J xL xs ρ em K d mi pc' (u0 :: u1 :: u2 :: u3 :: u4 :: u5 :: u6 :: u7 :: u8 :: u9 :: u10 :: .int (x + v0) :: V) st σ ex) : z_J xL xs ρ em K d mi pc (u0 :: u1 :: u2 :: u3 :: u4 :: u5 :: u6 :: u7 :: u8 :: u9 :: u10 :: .int x :: V) st σ ex := jg_iinc (i := 11) he rfl rfl (z_pv (k := 10) rfl hc) hi hp kk
theorem j_lstore11 {u0 u1 u2 u3 u4 u5 u6 u7 u8 u9 u10 u11 t : Value} {x : Int64} (he : z_fi (z_mi mi) pc = some (pc, .lstore 11, k0, a0, b0, v0, w0)) (hc : u10.category = 1) (hi : 11 + 1 < z_ml_ mi) (hp : pc + 2 = pc') (kk : z_J xL xs ρ em K d mi pc' (u0 :: u1 :: u2 :: u3 :: u4 :: u5 :: u6 :: u7 :: u8 :: u9 :: u10 :: .long x :: .null :: V) st σ ex) : z_J xL xs ρ em K d mi pc (u0 :: u1 :: u2 :: u3 :: u4 :: u5 :: u6 :: u7 :: u8 :: u9 :: u10 :: u11 :: t :: V) (.long x :: st) σ ex := jg_lstore (i := 11) he rfl (z_pv (k := 10) rfl hc) hi hp kk
theorem j_istore12 {u0 u1 u2 u3 u4 u5 u6 u7 u8 u9 u10 u11 u12 : Value} {x : Int32} (he : z_fi (z_mi mi) pc = some (pc, .istore 12, k0, a0, b0, v0, w0)) (hc : u11.category = 1) (hi : 12 < z_ml_ mi) (hp : pc + 2 = pc') (kk : z_J xL xs ρ em K d mi pc' (u0 :: u1 :: u2 :: u3 :: u4 :: u5 :: u6 :: u7 :: u8 :: u9 :: u10 :: u11 :: .int x :: V) st σ ex) : z_J xL xs ρ em K d mi pc (u0 :: u1 :: u2 :: u3 :: u4 :: u5 :: u6 :: u7 :: u8 :: u9 :: u10 :: u11 :: u12 :: V) (.int x :: st) σ ex := jg_istore (i := 12) he rfl (z_pv (k := 11) rfl hc) hi hp kk
theorem j_astore12 {u0 u1 u2 u3 u4 u5 u6 u7 u8 u9 u10 u11 u12 : Value} {x : Nat} (he : z_fi (z_mi mi) pc = some (pc, .astore 12, k0, a0, b0, v0, w0)) (hc : u11.category = 1) (hx : ¬ x = 4001) (hi : 12 < z_ml_ mi) (hp : pc + 2 = pc') (kk : z_J xL xs ρ em K d mi pc' (u0 :: u1 :: u2 :: u3 :: u4 :: u5 :: u6 :: u7 :: u8 :: u9 :: u10 :: u11 :: .ref x :: V) st σ ex) : z_J xL xs ρ em K d mi pc (u0 :: u1 :: u2 :: u3 :: u4 :: u5 :: u6 :: u7 :: u8 :: u9 :: u10 :: u11 :: u12 :: V) (.ref x :: st) σ ex := jg_astore (i := 12) he rfl (z_pv (k := 11) rfl hc) ⟨hi, hx⟩ hp kk
theorem j_iinc12 {u0 u1 u2 u3 u4 u5 u6 u7 u8 u9 u10 u11 : Value} {n : Int} {x : Int32} (he : z_fi (z_mi mi) pc = some (pc, .iinc 12 n, k0, a0, b0, v0, w0)) (hc : u11.category = 1) (hi : 12 < z_ml_ mi) (hp : pc + 3 = pc') (kk : z_J xL xs ρ em K d mi pc' (u0 :: u1 :: u2 :: u3 :: u4 :: u5 :: u6 :: u7 :: u8 :: u9 :: u10 :: u11 :: .int (x + v0) :: V) st σ ex) : z_J xL xs ρ em K d mi pc (u0 :: u1 :: u2 :: u3 :: u4 :: u5 :: u6 :: u7 :: u8 :: u9 :: u10 :: u11 :: .int x :: V) st σ ex := jg_iinc (i := 12) he rfl rfl (z_pv (k := 11) rfl hc) hi hp kk
theorem j_lstore12 {u0 u1 u2 u3 u4 u5 u6 u7 u8 u9 u10 u11 u12 t : Value} {x : Int64} (he : z_fi (z_mi mi) pc = some (pc, .lstore 12, k0, a0, b0, v0, w0)) (hc : u11.category = 1) (hi : 12 + 1 < z_ml_ mi) (hp : pc + 2 = pc') (kk : z_J xL xs ρ em K d mi pc' (u0 :: u1 :: u2 :: u3 :: u4 :: u5 :: u6 :: u7 :: u8 :: u9 :: u10 :: u11 :: .long x :: .null :: V) st σ ex) : z_J xL xs ρ em K d mi pc (u0 :: u1 :: u2 :: u3 :: u4 :: u5 :: u6 :: u7 :: u8 :: u9 :: u10 :: u11 :: u12 :: t :: V) (.long x :: st) σ ex := jg_lstore (i := 12) he rfl (z_pv (k := 11) rfl hc) hi hp kk
theorem j_istore13 {u0 u1 u2 u3 u4 u5 u6 u7 u8 u9 u10 u11 u12 u13 : Value} {x : Int32} (he : z_fi (z_mi mi) pc = some (pc, .istore 13, k0, a0, b0, v0, w0)) (hc : u12.category = 1) (hi : 13 < z_ml_ mi) (hp : pc + 2 = pc') (kk : z_J xL xs ρ em K d mi pc' (u0 :: u1 :: u2 :: u3 :: u4 :: u5 :: u6 :: u7 :: u8 :: u9 :: u10 :: u11 :: u12 :: .int x :: V) st σ ex) : z_J xL xs ρ em K d mi pc (u0 :: u1 :: u2 :: u3 :: u4 :: u5 :: u6 :: u7 :: u8 :: u9 :: u10 :: u11 :: u12 :: u13 :: V) (.int x :: st) σ ex := jg_istore (i := 13) he rfl (z_pv (k := 12) rfl hc) hi hp kk
theorem j_astore13 {u0 u1 u2 u3 u4 u5 u6 u7 u8 u9 u10 u11 u12 u13 : Value} {x : Nat} (he : z_fi (z_mi mi) pc = some (pc, .astore 13, k0, a0, b0, v0, w0)) (hc : u12.category = 1) (hx : ¬ x = 4001) (hi : 13 < z_ml_ mi) (hp : pc + 2 = pc') (kk : z_J xL xs ρ em K d mi pc' (u0 :: u1 :: u2 :: u3 :: u4 :: u5 :: u6 :: u7 :: u8 :: u9 :: u10 :: u11 :: u12 :: .ref x :: V) st σ ex) : z_J xL xs ρ em K d mi pc (u0 :: u1 :: u2 :: u3 :: u4 :: u5 :: u6 :: u7 :: u8 :: u9 :: u10 :: u11 :: u12 :: u13 :: V) (.ref x :: st) σ ex := jg_astore (i := 13) he rfl (z_pv (k := 12) rfl hc) ⟨hi, hx⟩ hp kk
theorem j_iinc13 {u0 u1 u2 u3 u4 u5 u6 u7 u8 u9 u10 u11 u12 : Value} {n : Int} {x : Int32} (he : z_fi (z_mi mi) pc = some (pc, .iinc 13 n, k0, a0, b0, v0, w0)) (hc : u12.category = 1) (hi : 13 < z_ml_ mi) (hp : pc + 3 = pc') (kk : z_J xL xs ρ em K d mi pc' (u0 :: u1 :: u2 :: u3 :: u4 :: u5 :: u6 :: u7 :: u8 :: u9 :: u10 :: u11 :: u12 :: .int (x + v0) :: V) st σ ex) : z_J xL xs ρ em K d mi pc (u0 :: u1 :: u2 :: u3 :: u4 :: u5 :: u6 :: u7 :: u8 :: u9 :: u10 :: u11 :: u12 :: .int x :: V) st σ ex := jg_iinc (i := 13) he rfl rfl (z_pv (k := 12) rfl hc) hi hp kk
theorem j_lstore13 {u0 u1 u2 u3 u4 u5 u6 u7 u8 u9 u10 u11 u12 u13 t : Value} {x : Int64} (he : z_fi (z_mi mi) pc = some (pc, .lstore 13, k0, a0, b0, v0, w0)) (hc : u12.category = 1) (hi : 13 + 1 < z_ml_ mi) (hp : pc + 2 = pc') (kk : z_J xL xs ρ em K d mi pc' (u0 :: u1 :: u2 :: u3 :: u4 :: u5 :: u6 :: u7 :: u8 :: u9 :: u10 :: u11 :: u12 :: .long x :: .null :: V) st σ ex) : z_J xL xs ρ em K d mi pc (u0 :: u1 :: u2 :: u3 :: u4 :: u5 :: u6 :: u7 :: u8 :: u9 :: u10 :: u11 :: u12 :: u13 :: t :: V) (.long x :: st) σ ex := jg_lstore (i := 13) he rfl (z_pv (k := 12) rfl hc) hi hp kk
theorem j_iadd {x y : Int32} (he : z_fi (z_mi mi) pc = some (pc, .iadd, k0, a0, b0, v0, w0)) (hp : pc + 1 = pc') (kk : z_J xL xs ρ em K d mi pc' V (.int (x + y) :: st) σ ex) : z_J xL xs ρ em K d mi pc V (.int y :: .int x :: st) σ ex := j_A he (fun L hL => ⟨L, by simp only [z_A, hp], hL⟩) kk
theorem j_isub {x y : Int32} (he : z_fi (z_mi mi) pc = some (pc, .isub, k0, a0, b0, v0, w0)) (hp : pc + 1 = pc') (kk : z_J xL xs ρ em K d mi pc' V (.int (x - y) :: st) σ ex) : z_J xL xs ρ em K d mi pc V (.int y :: .int x :: st) σ ex := j_A he (fun L hL => ⟨L, by simp only [z_A, hp], hL⟩) kk
theorem j_imul {x y : Int32} (he : z_fi (z_mi mi) pc = some (pc, .imul, k0, a0, b0, v0, w0)) (hp : pc + 1 = pc') (kk : z_J xL xs ρ em K d mi pc' V (.int (x * y) :: st) σ ex) : z_J xL xs ρ em K d mi pc V (.int y :: .int x :: st) σ ex := j_A he (fun L hL => ⟨L, by simp only [z_A, hp], hL⟩) kk
theorem j_iand {x y : Int32} (he : z_fi (z_mi mi) pc = some (pc, .iand, k0, a0, b0, v0, w0)) (hp : pc + 1 = pc') (kk : z_J xL xs ρ em K d mi pc' V (.int (x &&& y) :: st) σ ex) : z_J xL xs ρ em K d mi pc V (.int y :: .int x :: st) σ ex := j_A he (fun L hL => ⟨L, by simp only [z_A, hp], hL⟩) kk
theorem j_ior {x y : Int32} (he : z_fi (z_mi mi) pc = some (pc, .ior, k0, a0, b0, v0, w0)) (hp : pc + 1 = pc') (kk : z_J xL xs ρ em K d mi pc' V (.int (x ||| y) :: st) σ ex) : z_J xL xs ρ em K d mi pc V (.int y :: .int x :: st) σ ex := j_A he (fun L hL => ⟨L, by simp only [z_A, hp], hL⟩) kk
theorem j_ixor {x y : Int32} (he : z_fi (z_mi mi) pc = some (pc, .ixor, k0, a0, b0, v0, w0)) (hp : pc + 1 = pc') (kk : z_J xL xs ρ em K d mi pc' V (.int (x ^^^ y) :: st) σ ex) : z_J xL xs ρ em K d mi pc V (.int y :: .int x :: st) σ ex := j_A he (fun L hL => ⟨L, by simp only [z_A, hp], hL⟩) kk
theorem j_ishl {x y : Int32} (he : z_fi (z_mi mi) pc = some (pc, .ishl, k0, a0, b0, v0, w0)) (hp : pc + 1 = pc') (kk : z_J xL xs ρ em K d mi pc' V (.int (x <<< (y &&& 31)) :: st) σ ex) : z_J xL xs ρ em K d mi pc V (.int y :: .int x :: st) σ ex := j_A he (fun L hL => ⟨L, by simp only [z_A, hp], hL⟩) kk
theorem j_ishr {x y : Int32} (he : z_fi (z_mi mi) pc = some (pc, .ishr, k0, a0, b0, v0, w0)) (hp : pc + 1 = pc') (kk : z_J xL xs ρ em K d mi pc' V (.int (x >>> (y &&& 31)) :: st) σ ex) : z_J xL xs ρ em K d mi pc V (.int y :: .int x :: st) σ ex := j_A he (fun L hL => ⟨L, by simp only [z_A, hp], hL⟩) kk
theorem j_iushr {x y : Int32} (he : z_fi (z_mi mi) pc = some (pc, .iushr, k0, a0, b0, v0, w0)) (hp : pc + 1 = pc') (kk : z_J xL xs ρ em K d mi pc' V (.int ((x.toUInt32 >>> (y.toUInt32 &&& Int32.toUInt32 31)).toInt32) :: st) σ ex) : z_J xL xs ρ em K d mi pc V (.int y :: .int x :: st) σ ex := j_A he (fun L hL => ⟨L, by simp only [z_A, hp], hL⟩) kk
theorem j_ladd {x y : Int64} (he : z_fi (z_mi mi) pc = some (pc, .ladd, k0, a0, b0, v0, w0)) (hp : pc + 1 = pc') (kk : z_J xL xs ρ em K d mi pc' V (.long (x + y) :: st) σ ex) : z_J xL xs ρ em K d mi pc V (.long y :: .long x :: st) σ ex := j_A he (fun L hL => ⟨L, by simp only [z_A, hp], hL⟩) kk
theorem j_lmul {x y : Int64} (he : z_fi (z_mi mi) pc = some (pc, .lmul, k0, a0, b0, v0, w0)) (hp : pc + 1 = pc') (kk : z_J xL xs ρ em K d mi pc' V (.long (x * y) :: st) σ ex) : z_J xL xs ρ em K d mi pc V (.long y :: .long x :: st) σ ex := j_A he (fun L hL => ⟨L, by simp only [z_A, hp], hL⟩) kk
theorem j_lcmp {x y : Int64} (he : z_fi (z_mi mi) pc = some (pc, .lcmp, k0, a0, b0, v0, w0)) (hp : pc + 1 = pc') (kk : z_J xL xs ρ em K d mi pc' V (.int (lg_cmp x y) :: st) σ ex) : z_J xL xs ρ em K d mi pc V (.long y :: .long x :: st) σ ex := j_A he (fun L hL => ⟨L, by simp only [z_A, hp], hL⟩) kk
theorem j_idiv {x y : Int32} (he : z_fi (z_mi mi) pc = some (pc, .idiv, k0, a0, b0, v0, w0)) (hy : ¬ y = 0) (hp : pc + 1 = pc') (kk : z_J xL xs ρ em K d mi pc' V (.int (x / y) :: st) σ ex) : z_J xL xs ρ em K d mi pc V (.int y :: .int x :: st) σ ex := j_A he (fun L hL => ⟨L, by simp only [z_A, hp, if_neg hy], hL⟩) kk
theorem j_irem {x y : Int32} (he : z_fi (z_mi mi) pc = some (pc, .irem, k0, a0, b0, v0, w0)) (hy : ¬ y = 0) (hp : pc + 1 = pc') (kk : z_J xL xs ρ em K d mi pc' V (.int (x - x / y * y) :: st) σ ex) : z_J xL xs ρ em K d mi pc V (.int y :: .int x :: st) σ ex := j_A he (fun L hL => ⟨L, by simp only [z_A, hp, if_neg hy], hL⟩) kk
theorem j_ldiv {x y : Int64} (he : z_fi (z_mi mi) pc = some (pc, .ldiv, k0, a0, b0, v0, w0)) (hy : ¬ y = 0) (hp : pc + 1 = pc') (kk : z_J xL xs ρ em K d mi pc' V (.long (x / y) :: st) σ ex) : z_J xL xs ρ em K d mi pc V (.long y :: .long x :: st) σ ex := j_A he (fun L hL => ⟨L, by simp only [z_A, hp, if_neg hy], hL⟩) kk
theorem j_lrem {x y : Int64} (he : z_fi (z_mi mi) pc = some (pc, .lrem, k0, a0, b0, v0, w0)) (hy : ¬ y = 0) (hp : pc + 1 = pc') (kk : z_J xL xs ρ em K d mi pc' V (.long (x - x / y * y) :: st) σ ex) : z_J xL xs ρ em K d mi pc V (.long y :: .long x :: st) σ ex := j_A he (fun L hL => ⟨L, by simp only [z_A, hp, if_neg hy], hL⟩) kk
theorem j_i2l {x : Int32} (he : z_fi (z_mi mi) pc = some (pc, .i2l, k0, a0, b0, v0, w0)) (hp : pc + 1 = pc') (kk : z_J xL xs ρ em K d mi pc' V (.long (x.toInt64) :: st) σ ex) : z_J xL xs ρ em K d mi pc V (.int x :: st) σ ex := j_A he (fun L hL => ⟨L, by simp only [z_A, hp], hL⟩) kk
theorem j_i2b {x : Int32} (he : z_fi (z_mi mi) pc = some (pc, .i2b, k0, a0, b0, v0, w0)) (hp : pc + 1 = pc') (kk : z_J xL xs ρ em K d mi pc' V (.int (x.toInt8.toInt32) :: st) σ ex) : z_J xL xs ρ em K d mi pc V (.int x :: st) σ ex := j_A he (fun L hL => ⟨L, by simp only [z_A, hp], hL⟩) kk
theorem j_i2s {x : Int32} (he : z_fi (z_mi mi) pc = some (pc, .i2s, k0, a0, b0, v0, w0)) (hp : pc + 1 = pc') (kk : z_J xL xs ρ em K d mi pc' V (.int (x.toInt16.toInt32) :: st) σ ex) : z_J xL xs ρ em K d mi pc V (.int x :: st) σ ex := j_A he (fun L hL => ⟨L, by simp only [z_A, hp], hL⟩) kk
theorem j_i2c {x : Int32} (he : z_fi (z_mi mi) pc = some (pc, .i2c, k0, a0, b0, v0, w0)) (hp : pc + 1 = pc') (kk : z_J xL xs ρ em K d mi pc' V (.int ((x.toUInt32 % 65536).toInt32) :: st) σ ex) : z_J xL xs ρ em K d mi pc V (.int x :: st) σ ex := j_A he (fun L hL => ⟨L, by simp only [z_A, hp], hL⟩) kk
theorem j_dup {x : Value} (he : z_fi (z_mi mi) pc = some (pc, .dup, k0, a0, b0, v0, w0)) (hc : x.category = 1) (hp : pc + 1 = pc') (kk : z_J xL xs ρ em K d mi pc' V (x :: x :: st) σ ex) : z_J xL xs ρ em K d mi pc V (x :: st) σ ex := j_A he (fun L hL => ⟨L, by simp only [z_A, hp, if_pos hc], hL⟩) kk
theorem j_pop {x : Value} (he : z_fi (z_mi mi) pc = some (pc, .pop, k0, a0, b0, v0, w0)) (hc : x.category = 1) (hp : pc + 1 = pc') (kk : z_J xL xs ρ em K d mi pc' V st σ ex) : z_J xL xs ρ em K d mi pc V (x :: st) σ ex := j_A he (fun L hL => ⟨L, by simp only [z_A, hp, if_pos hc], hL⟩) kk
theorem j_dup2 {x y : Value} (he : z_fi (z_mi mi) pc = some (pc, .dup2, k0, a0, b0, v0, w0)) (hc : x.category = 1 ∧ y.category = 1) (hp : pc + 1 = pc') (kk : z_J xL xs ρ em K d mi pc' V (x :: y :: x :: y :: st) σ ex) : z_J xL xs ρ em K d mi pc V (x :: y :: st) σ ex := j_A he (fun L hL => ⟨L, by simp only [z_A, hp, if_pos hc], hL⟩) kk
theorem j_goto {n : Int} (he : z_fi (z_mi mi) pc = some (pc, .goto n, k0, a0, b0, v0, w0)) (hp : a0 = pc') (kk : z_J xL xs ρ em K d mi pc' V st σ ex) : z_J xL xs ρ em K d mi pc V st σ ex := j_A he (fun L hL => ⟨L, by simp only [z_A, hp], hL⟩) kk
theorem j_if_eq {n : Int} {x : Int32} {e1 e2 : Option γ} (he : z_fi (z_mi mi) pc = some (pc, .ifCond .eq n, k0, a0, b0, v0, w0)) (hp : pc + 3 = pc') (k1 : x = 0 → z_J xL xs ρ em K d mi a0 V st σ e1) (k2 : ¬ x = 0 → z_J xL xs ρ em K d mi pc' V st σ e2) : z_J xL xs ρ em K d mi pc V (.int x :: st) σ (if x = 0 then e1 else e2) := by
  subst hp
  by_cases h : x = 0
  · rw [if_pos h]; exact j_A he (fun L hL => ⟨L, by simp [z_A, h], hL⟩) (k1 h)
  · rw [if_neg h]; exact j_A he (fun L hL => ⟨L, by simp [z_A, h], hL⟩) (k2 h)
theorem j_if_ne {n : Int} {x : Int32} {e1 e2 : Option γ} (he : z_fi (z_mi mi) pc = some (pc, .ifCond .ne n, k0, a0, b0, v0, w0)) (hp : pc + 3 = pc') (k1 : x = 0 → z_J xL xs ρ em K d mi pc' V st σ e1) (k2 : ¬ x = 0 → z_J xL xs ρ em K d mi a0 V st σ e2) : z_J xL xs ρ em K d mi pc V (.int x :: st) σ (if x = 0 then e1 else e2) := by
  subst hp
  by_cases h : x = 0
  · rw [if_pos h]; exact j_A he (fun L hL => ⟨L, by simp [z_A, h], hL⟩) (k1 h)
  · rw [if_neg h]; exact j_A he (fun L hL => ⟨L, by simp [z_A, h], hL⟩) (k2 h)
theorem j_if_lt {n : Int} {x : Int32} {e1 e2 : Option γ} (he : z_fi (z_mi mi) pc = some (pc, .ifCond .lt n, k0, a0, b0, v0, w0)) (hp : pc + 3 = pc') (k1 : x < 0 → z_J xL xs ρ em K d mi a0 V st σ e1) (k2 : ¬ x < 0 → z_J xL xs ρ em K d mi pc' V st σ e2) : z_J xL xs ρ em K d mi pc V (.int x :: st) σ (if x < 0 then e1 else e2) := by
  subst hp
  by_cases h : x < 0
  · rw [if_pos h]; exact j_A he (fun L hL => ⟨L, by simp [z_A, h], hL⟩) (k1 h)
  · rw [if_neg h]; exact j_A he (fun L hL => ⟨L, by simp [z_A, h], hL⟩) (k2 h)
theorem j_if_ge {n : Int} {x : Int32} {e1 e2 : Option γ} (he : z_fi (z_mi mi) pc = some (pc, .ifCond .ge n, k0, a0, b0, v0, w0)) (hp : pc + 3 = pc') (k1 : 0 ≤ x → z_J xL xs ρ em K d mi a0 V st σ e1) (k2 : ¬ 0 ≤ x → z_J xL xs ρ em K d mi pc' V st σ e2) : z_J xL xs ρ em K d mi pc V (.int x :: st) σ (if 0 ≤ x then e1 else e2) := by
  subst hp
  by_cases h : 0 ≤ x
  · rw [if_pos h]; exact j_A he (fun L hL => ⟨L, by simp [z_A, h], hL⟩) (k1 h)
  · rw [if_neg h]; exact j_A he (fun L hL => ⟨L, by simp [z_A, h], hL⟩) (k2 h)
theorem j_if_gt {n : Int} {x : Int32} {e1 e2 : Option γ} (he : z_fi (z_mi mi) pc = some (pc, .ifCond .gt n, k0, a0, b0, v0, w0)) (hp : pc + 3 = pc') (k1 : 0 < x → z_J xL xs ρ em K d mi a0 V st σ e1) (k2 : ¬ 0 < x → z_J xL xs ρ em K d mi pc' V st σ e2) : z_J xL xs ρ em K d mi pc V (.int x :: st) σ (if 0 < x then e1 else e2) := by
  subst hp
  by_cases h : 0 < x
  · rw [if_pos h]; exact j_A he (fun L hL => ⟨L, by simp [z_A, h], hL⟩) (k1 h)
  · rw [if_neg h]; exact j_A he (fun L hL => ⟨L, by simp [z_A, h], hL⟩) (k2 h)
theorem j_if_le {n : Int} {x : Int32} {e1 e2 : Option γ} (he : z_fi (z_mi mi) pc = some (pc, .ifCond .le n, k0, a0, b0, v0, w0)) (hp : pc + 3 = pc') (k1 : x ≤ 0 → z_J xL xs ρ em K d mi a0 V st σ e1) (k2 : ¬ x ≤ 0 → z_J xL xs ρ em K d mi pc' V st σ e2) : z_J xL xs ρ em K d mi pc V (.int x :: st) σ (if x ≤ 0 then e1 else e2) := by
  subst hp
  by_cases h : x ≤ 0
  · rw [if_pos h]; exact j_A he (fun L hL => ⟨L, by simp [z_A, h], hL⟩) (k1 h)
  · rw [if_neg h]; exact j_A he (fun L hL => ⟨L, by simp [z_A, h], hL⟩) (k2 h)
theorem j_icmp_eq {n : Int} {x y : Int32} {e1 e2 : Option γ} (he : z_fi (z_mi mi) pc = some (pc, .if_icmp .eq n, k0, a0, b0, v0, w0)) (hp : pc + 3 = pc') (k1 : x = y → z_J xL xs ρ em K d mi a0 V st σ e1) (k2 : ¬ x = y → z_J xL xs ρ em K d mi pc' V st σ e2) : z_J xL xs ρ em K d mi pc V (.int y :: .int x :: st) σ (if x = y then e1 else e2) := by
  subst hp
  by_cases h : x = y
  · rw [if_pos h]; exact j_A he (fun L hL => ⟨L, by simp only [z_A]; rw [if_pos h], hL⟩) (k1 h)
  · rw [if_neg h]; exact j_A he (fun L hL => ⟨L, by simp only [z_A]; rw [if_neg h], hL⟩) (k2 h)
theorem j_icmp_ne {n : Int} {x y : Int32} {e1 e2 : Option γ} (he : z_fi (z_mi mi) pc = some (pc, .if_icmp .ne n, k0, a0, b0, v0, w0)) (hp : pc + 3 = pc') (k1 : x = y → z_J xL xs ρ em K d mi pc' V st σ e1) (k2 : ¬ x = y → z_J xL xs ρ em K d mi a0 V st σ e2) : z_J xL xs ρ em K d mi pc V (.int y :: .int x :: st) σ (if x = y then e1 else e2) := by
  subst hp
  by_cases h : x = y
  · rw [if_pos h]; exact j_A he (fun L hL => ⟨L, by simp only [z_A]; rw [if_neg (fun z => z h)], hL⟩) (k1 h)
  · rw [if_neg h]; exact j_A he (fun L hL => ⟨L, by simp only [z_A]; rw [if_pos h], hL⟩) (k2 h)
theorem j_icmp_lt {n : Int} {x y : Int32} {e1 e2 : Option γ} (he : z_fi (z_mi mi) pc = some (pc, .if_icmp .lt n, k0, a0, b0, v0, w0)) (hp : pc + 3 = pc') (k1 : x < y → z_J xL xs ρ em K d mi a0 V st σ e1) (k2 : ¬ x < y → z_J xL xs ρ em K d mi pc' V st σ e2) : z_J xL xs ρ em K d mi pc V (.int y :: .int x :: st) σ (if x < y then e1 else e2) := by
  subst hp
  by_cases h : x < y
  · rw [if_pos h]; exact j_A he (fun L hL => ⟨L, by simp only [z_A]; rw [if_pos h], hL⟩) (k1 h)
  · rw [if_neg h]; exact j_A he (fun L hL => ⟨L, by simp only [z_A]; rw [if_neg h], hL⟩) (k2 h)
theorem j_icmp_ge {n : Int} {x y : Int32} {e1 e2 : Option γ} (he : z_fi (z_mi mi) pc = some (pc, .if_icmp .ge n, k0, a0, b0, v0, w0)) (hp : pc + 3 = pc') (k1 : y ≤ x → z_J xL xs ρ em K d mi a0 V st σ e1) (k2 : ¬ y ≤ x → z_J xL xs ρ em K d mi pc' V st σ e2) : z_J xL xs ρ em K d mi pc V (.int y :: .int x :: st) σ (if y ≤ x then e1 else e2) := by
  subst hp
  by_cases h : y ≤ x
  · rw [if_pos h]; exact j_A he (fun L hL => ⟨L, by simp only [z_A]; rw [if_pos h], hL⟩) (k1 h)
  · rw [if_neg h]; exact j_A he (fun L hL => ⟨L, by simp only [z_A]; rw [if_neg h], hL⟩) (k2 h)
theorem j_icmp_gt {n : Int} {x y : Int32} {e1 e2 : Option γ} (he : z_fi (z_mi mi) pc = some (pc, .if_icmp .gt n, k0, a0, b0, v0, w0)) (hp : pc + 3 = pc') (k1 : y < x → z_J xL xs ρ em K d mi a0 V st σ e1) (k2 : ¬ y < x → z_J xL xs ρ em K d mi pc' V st σ e2) : z_J xL xs ρ em K d mi pc V (.int y :: .int x :: st) σ (if y < x then e1 else e2) := by
  subst hp
  by_cases h : y < x
  · rw [if_pos h]; exact j_A he (fun L hL => ⟨L, by simp only [z_A]; rw [if_pos h], hL⟩) (k1 h)
  · rw [if_neg h]; exact j_A he (fun L hL => ⟨L, by simp only [z_A]; rw [if_neg h], hL⟩) (k2 h)
theorem j_icmp_le {n : Int} {x y : Int32} {e1 e2 : Option γ} (he : z_fi (z_mi mi) pc = some (pc, .if_icmp .le n, k0, a0, b0, v0, w0)) (hp : pc + 3 = pc') (k1 : x ≤ y → z_J xL xs ρ em K d mi a0 V st σ e1) (k2 : ¬ x ≤ y → z_J xL xs ρ em K d mi pc' V st σ e2) : z_J xL xs ρ em K d mi pc V (.int y :: .int x :: st) σ (if x ≤ y then e1 else e2) := by
  subst hp
  by_cases h : x ≤ y
  · rw [if_pos h]; exact j_A he (fun L hL => ⟨L, by simp only [z_A]; rw [if_pos h], hL⟩) (k1 h)
  · rw [if_neg h]; exact j_A he (fun L hL => ⟨L, by simp only [z_A]; rw [if_neg h], hL⟩) (k2 h)
theorem j_getf {i : Nat} {k : Nat} (he : z_fi (z_mi mi) pc = some (pc, .getfield i, k0, a0, b0, v0, w0)) (hk : z_gk a0 b0 k = true) (hp : pc + 3 = pc') (kk : z_J xL xs ρ em K d mi pc' V (.int (σ k b0) :: st) σ ex) : z_J xL xs ρ em K d mi pc V (.ref k :: st) σ ex := by
  simp only [z_gk, Bool.and_eq_true, decide_eq_true_eq] at hk
  obtain ⟨⟨⟨⟨⟨h1, h2⟩, h3⟩, h4⟩, h5⟩, h6⟩ := hk
  exact j_B he (fun L => rfl) (by simp only [z_B, z_get_]; rw [if_neg h1, if_pos ⟨h2, h3, h4, h5⟩, if_neg (by rw [h6]; decide)]) hp kk
theorem j_getr {i : Nat} {k q : Nat} (he : z_fi (z_mi mi) pc = some (pc, .getfield i, k0, a0, b0, v0, w0)) (hk : z_gr a0 b0 k = true) (hq : ρ k b0 = some q) (hp : pc + 3 = pc') (kk : z_J xL xs ρ em K d mi pc' V (.ref q :: st) σ ex) : z_J xL xs ρ em K d mi pc V (.ref k :: st) σ ex := by
  simp only [z_gr, Bool.and_eq_true, decide_eq_true_eq] at hk
  obtain ⟨⟨⟨⟨⟨h1, h2⟩, h3⟩, h4⟩, h5⟩, h6⟩ := hk
  exact j_B he (fun L => rfl) (by simp only [z_B, z_get_]; rw [if_neg h1, if_pos ⟨h2, h3, h4, h5⟩, if_pos h6]; simp only [hq]) hp kk
theorem j_gets {i : Nat} {k : Nat} (he : z_fi (z_mi mi) pc = some (pc, .getfield i, k0, a0, b0, v0, w0)) (h17 : a0 = 17) (hk : 2000 ≤ k ∧ k < 2013) (hp : pc + 3 = pc') (kk : z_J xL xs ρ em K d mi pc' V ((if b0 = 0 then .ref (k + 1000) else .int 0) :: st) σ ex) : z_J xL xs ρ em K d mi pc V (.ref k :: st) σ ex :=
  j_B he (fun L => rfl) (by simp only [z_B, z_get_]; rw [if_pos h17, if_pos hk]) hp kk
theorem j_putf {i : Nat} {k : Nat} {x : Int32} (he : z_fi (z_mi mi) pc = some (pc, .putfield i, k0, a0, b0, v0, w0)) (hk : z_gp a0 b0 k = true) (hp : pc + 3 = pc') (kk : z_J xL xs ρ em K d mi pc' V st (z_u σ k b0 x) ex) : z_J xL xs ρ em K d mi pc V (.int x :: .ref k :: st) σ ex := by
  simp only [z_gp, z_gk, Bool.and_eq_true, decide_eq_true_eq] at hk
  obtain ⟨⟨⟨⟨⟨⟨h1, h2⟩, h3⟩, h4⟩, h5⟩, h6⟩, h7⟩ := hk
  exact j_B he (fun L => rfl) (by simp only [z_B, z_puti]; rw [if_pos ⟨h2, h3, h4, h5, h6, h7⟩]) hp kk
theorem z_ib_p {i : Int32} {N : Nat} (h : z_ib i N = true) : ¬ (i < 0 ∨ N ≤ i.toNatClampNeg) := of_decide_eq_true h
theorem z_ak_p {t k N : Nat} (h : z_ak t k N = true) : k < 105 ∧ z_sk k = t ∧ z_sl_ k = N := by
  simp only [z_ak, Bool.and_eq_true, decide_eq_true_eq] at h
  exact ⟨h.1.1, h.1.2, h.2⟩
theorem j_iald {k N : Nat} {i : Int32} (he : z_fi (z_mi mi) pc = some (pc, .iaload, k0, a0, b0, v0, w0)) (hk : z_ak 1 k N = true) (hi : z_ib i N = true) (hp : pc + 1 = pc') (kk : z_J xL xs ρ em K d mi pc' V (.int (σ k i.toNatClampNeg) :: st) σ ex) : z_J xL xs ρ em K d mi pc V (.int i :: .ref k :: st) σ ex := by
  obtain ⟨h1, h2, h3⟩ := z_ak_p hk
  exact j_B he (fun L => rfl) (by simp only [z_B, z_ild]; rw [if_pos ⟨h1, h2, by rw [h3]; exact z_ib_p hi⟩]) hp kk
theorem j_tald {k N : Nat} {i : Int32} (he : z_fi (z_mi mi) pc = some (pc, .iaload, k0, a0, b0, v0, w0)) (hk : 1000 ≤ k ∧ k < 1004 ∧ (z_sv.getD (k - 1000) []).length = N) (hi : z_ib i N = true) (hp : pc + 1 = pc') (kk : z_J xL xs ρ em K d mi pc' V (.int ((z_sv.getD (k - 1000) []).getD i.toNatClampNeg 0) :: st) σ ex) : z_J xL xs ρ em K d mi pc V (.int i :: .ref k :: st) σ ex :=
  j_B he (fun L => rfl) (by simp only [z_B, z_ild]; rw [if_neg (by omega), if_pos ⟨hk.1, hk.2.1, by rw [hk.2.2]; exact z_ib_p hi⟩]) hp kk
theorem j_xald {i : Int32} (he : z_fi (z_mi mi) pc = some (pc, .iaload, k0, a0, b0, v0, w0)) (hi : z_ib i xL = true) (hp : pc + 1 = pc') (kk : z_J xL xs ρ em K d mi pc' V (.int (xs i.toNatClampNeg) :: st) σ ex) : z_J xL xs ρ em K d mi pc V (.int i :: .ref 4000 :: st) σ ex :=
  j_B he (fun L => rfl) (by simp only [z_B, z_ild]; rw [if_neg (by omega), if_neg (by omega), if_pos ⟨trivial, z_ib_p hi⟩]) hp kk
theorem j_bald {k N : Nat} {i : Int32} (he : z_fi (z_mi mi) pc = some (pc, .baload, k0, a0, b0, v0, w0)) (hk : z_ak 2 k N = true ∨ z_ak 3 k N = true) (hi : z_ib i N = true) (hp : pc + 1 = pc') (kk : z_J xL xs ρ em K d mi pc' V (.int (σ k i.toNatClampNeg) :: st) σ ex) : z_J xL xs ρ em K d mi pc V (.int i :: .ref k :: st) σ ex := by
  have h1 : k < 105 ∧ (z_sk k = 2 ∨ z_sk k = 3) ∧ z_sl_ k = N := by
    rcases hk with hk | hk
    · obtain ⟨h1, h2, h3⟩ := z_ak_p hk; exact ⟨h1, Or.inl h2, h3⟩
    · obtain ⟨h1, h2, h3⟩ := z_ak_p hk; exact ⟨h1, Or.inr h2, h3⟩
  exact j_B he (fun L => rfl) (by simp only [z_B, z_bld]; rw [if_pos ⟨h1.1, h1.2.1, by rw [h1.2.2]; exact z_ib_p hi⟩]) hp kk
theorem j_sald {k N : Nat} {i : Int32} (he : z_fi (z_mi mi) pc = some (pc, .baload, k0, a0, b0, v0, w0)) (hk : 3000 ≤ k ∧ k < 3013 ∧ z_tl.getD (k - 3000) 0 = N) (hi : z_ib i N = true) (hp : pc + 1 = pc') (kk : z_J xL xs ρ em K d mi pc' V (.int ((z_tb.getD (k - 3000) []).getD i.toNatClampNeg 0) :: st) σ ex) : z_J xL xs ρ em K d mi pc V (.int i :: .ref k :: st) σ ex :=
  j_B he (fun L => rfl) (by simp only [z_B, z_bld]; rw [if_neg (by omega), if_pos ⟨hk.1, hk.2.1, by rw [hk.2.2]; exact z_ib_p hi⟩]) hp kk
theorem j_aald {k N q : Nat} {i : Int32} (he : z_fi (z_mi mi) pc = some (pc, .aaload, k0, a0, b0, v0, w0)) (hk : z_ak 4 k N = true) (hi : z_ib i N = true) (hq : ρ k i.toNatClampNeg = some q) (hp : pc + 1 = pc') (kk : z_J xL xs ρ em K d mi pc' V (.ref q :: st) σ ex) : z_J xL xs ρ em K d mi pc V (.int i :: .ref k :: st) σ ex := by
  obtain ⟨h1, h2, h3⟩ := z_ak_p hk
  exact j_B he (fun L => rfl) (by simp only [z_B, z_ald]; rw [if_pos ⟨h1, h2, by rw [h3]; exact z_ib_p hi⟩]; simp only [hq]) hp kk
theorem j_iast {k N : Nat} {i x : Int32} (he : z_fi (z_mi mi) pc = some (pc, .iastore, k0, a0, b0, v0, w0)) (hk : z_ak 1 k N = true) (hi : z_ib i N = true) (hp : pc + 1 = pc') (kk : z_J xL xs ρ em K d mi pc' V st (z_u σ k i.toNatClampNeg x) ex) : z_J xL xs ρ em K d mi pc V (.int x :: .int i :: .ref k :: st) σ ex := by
  obtain ⟨h1, h2, h3⟩ := z_ak_p hk
  exact j_B he (fun L => rfl) (by simp only [z_B, z_ist]; rw [if_pos ⟨h1, h2, by rw [h3]; exact z_ib_p hi⟩]) hp kk
theorem j_bast {k N : Nat} {i x : Int32} (he : z_fi (z_mi mi) pc = some (pc, .bastore, k0, a0, b0, v0, w0)) (hk : z_ak 2 k N = true) (hi : z_ib i N = true) (hp : pc + 1 = pc') (kk : z_J xL xs ρ em K d mi pc' V st (z_u σ k i.toNatClampNeg (vp_nar .byte x)) ex) : z_J xL xs ρ em K d mi pc V (.int x :: .int i :: .ref k :: st) σ ex := by
  obtain ⟨h1, h2, h3⟩ := z_ak_p hk
  exact j_B he (fun L => rfl) (by simp only [z_B, z_bst]; rw [if_pos ⟨h1, h2, by rw [h3]; exact z_ib_p hi⟩]) hp kk
theorem j_zast {k N : Nat} {i x : Int32} (he : z_fi (z_mi mi) pc = some (pc, .bastore, k0, a0, b0, v0, w0)) (hk : z_ak 3 k N = true) (hi : z_ib i N = true) (hp : pc + 1 = pc') (kk : z_J xL xs ρ em K d mi pc' V st (z_u σ k i.toNatClampNeg (vp_nar .boolean x)) ex) : z_J xL xs ρ em K d mi pc V (.int x :: .int i :: .ref k :: st) σ ex := by
  obtain ⟨h1, h2, h3⟩ := z_ak_p hk
  exact j_B he (fun L => rfl) (by simp only [z_B, z_bst]; rw [if_neg (by rw [h2]; simp), if_pos ⟨h1, h2, by rw [h3]; exact z_ib_p hi⟩]) hp kk
theorem j_alen {k N : Nat} (he : z_fi (z_mi mi) pc = some (pc, .arraylength, k0, a0, b0, v0, w0)) (hk : k < 105 ∧ (z_sk k = 1 ∨ z_sk k = 2 ∨ z_sk k = 3 ∨ z_sk k = 4) ∧ z_sl_ k = N) (hp : pc + 1 = pc') (kk : z_J xL xs ρ em K d mi pc' V (.int (Int32.ofNat N) :: st) σ ex) : z_J xL xs ρ em K d mi pc V (.ref k :: st) σ ex :=
  j_B he (fun L => rfl) (by simp only [z_B, z_aln]; rw [if_pos ⟨hk.1, hk.2.1⟩, hk.2.2]) hp kk
theorem j_tlen {k N : Nat} (he : z_fi (z_mi mi) pc = some (pc, .arraylength, k0, a0, b0, v0, w0)) (hk : 1000 ≤ k ∧ k < 1004 ∧ (z_sv.getD (k - 1000) []).length = N) (hp : pc + 1 = pc') (kk : z_J xL xs ρ em K d mi pc' V (.int (Int32.ofNat N) :: st) σ ex) : z_J xL xs ρ em K d mi pc V (.ref k :: st) σ ex :=
  j_B he (fun L => rfl) (by simp only [z_B, z_aln]; rw [if_neg (by omega), if_pos ⟨hk.1, hk.2.1⟩, hk.2.2]) hp kk
theorem j_slen {k : Nat} (he : z_fi (z_mi mi) pc = some (pc, .arraylength, k0, a0, b0, v0, w0)) (hk : 3000 ≤ k ∧ k < 3013) (hp : pc + 1 = pc') (kk : z_J xL xs ρ em K d mi pc' V (.int (Int32.ofNat (z_tl.getD (k - 3000) 0)) :: st) σ ex) : z_J xL xs ρ em K d mi pc V (.ref k :: st) σ ex :=
  j_B he (fun L => rfl) (by simp only [z_B, z_aln]; rw [if_neg (by omega), if_neg (by omega), if_pos hk]) hp kk
theorem j_xlen (he : z_fi (z_mi mi) pc = some (pc, .arraylength, k0, a0, b0, v0, w0)) (hp : pc + 1 = pc') (kk : z_J xL xs ρ em K d mi pc' V (.int (Int32.ofNat xL) :: st) σ ex) : z_J xL xs ρ em K d mi pc V (.ref 4000 :: st) σ ex :=
  j_B he (fun L => rfl) (by simp only [z_B, z_aln]; rw [if_neg (by omega), if_neg (by omega), if_neg (by omega), if_pos trivial]) hp kk
theorem j_gstA {i : Nat} (he : z_fi (z_mi mi) pc = some (pc, .getstatic i, k0, a0, b0, v0, w0)) (h0 : k0 = 0) (hp : pc + 3 = pc') (kk : z_J xL xs ρ em K d mi pc' V (.ref (1000 + a0) :: st) σ ex) : z_J xL xs ρ em K d mi pc V st σ ex :=
  j_B he (fun L => rfl) (by simp only [z_B]; rw [if_pos h0]) hp kk
theorem j_gstI {i : Nat} (he : z_fi (z_mi mi) pc = some (pc, .getstatic i, k0, a0, b0, v0, w0)) (h0 : k0 = 1) (hp : pc + 3 = pc') (kk : z_J xL xs ρ em K d mi pc' V (.int v0 :: st) σ ex) : z_J xL xs ρ em K d mi pc V st σ ex :=
  j_B he (fun L => rfl) (by subst h0; rfl) hp kk
theorem j_gstF {i : Nat} (he : z_fi (z_mi mi) pc = some (pc, .getstatic i, k0, a0, b0, v0, w0)) (h0 : k0 = 2) (hp : pc + 3 = pc') (kk : z_J xL xs ρ em K d mi pc' V (.ref 4001 :: st) σ ex) : z_J xL xs ρ em K d mi pc V st σ ex :=
  j_B he (fun L => rfl) (by subst h0; rfl) hp kk
theorem j_ldcI {i : Nat} (he : z_fi (z_mi mi) pc = some (pc, .ldc i, k0, a0, b0, v0, w0)) (h0 : k0 = 0) (hp : pc + 2 = pc') (kk : z_J xL xs ρ em K d mi pc' V (.int v0 :: st) σ ex) : z_J xL xs ρ em K d mi pc V st σ ex :=
  j_B he (fun L => rfl) (by simp only [z_B]; rw [if_pos h0]) hp kk
theorem j_ldcS {i : Nat} (he : z_fi (z_mi mi) pc = some (pc, .ldc i, k0, a0, b0, v0, w0)) (h0 : ¬ k0 = 0) (hp : pc + 2 = pc') (kk : z_J xL xs ρ em K d mi pc' V (.ref (2000 + a0) :: st) σ ex) : z_J xL xs ρ em K d mi pc V st σ ex :=
  j_B he (fun L => rfl) (by simp only [z_B]; rw [if_neg h0]) hp kk
theorem j_ldcw {i : Nat} (he : z_fi (z_mi mi) pc = some (pc, .ldc_w i, k0, a0, b0, v0, w0)) (hp : pc + 3 = pc') (kk : z_J xL xs ρ em K d mi pc' V (.int v0 :: st) σ ex) : z_J xL xs ρ em K d mi pc V st σ ex :=
  j_B he (fun L => rfl) (by simp only [z_B]) hp kk
theorem j_ldc2 {i : Nat} (he : z_fi (z_mi mi) pc = some (pc, .ldc2_w i, k0, a0, b0, v0, w0)) (hp : pc + 3 = pc') (kk : z_J xL xs ρ em K d mi pc' V (.long w0 :: st) σ ex) : z_J xL xs ρ em K d mi pc V st σ ex :=
  j_B he (fun L => rfl) (by simp only [z_B]) hp kk
/-- System.arraycopy between whole-number rows -/
def z_ac (ks kd : Nat) (sp dp len : Int32) : Bool := decide (kd < 105 ∧ ks < 105 ∧ z_sk kd = 1 ∧ z_sk ks = 1 ∧ ¬ sp < 0 ∧ ¬ dp < 0 ∧ ¬ len < 0 ∧ sp.toNatClampNeg + len.toNatClampNeg ≤ z_sl_ ks ∧ dp.toNatClampNeg + len.toNatClampNeg ≤ z_sl_ kd)
theorem j_acopy {i ks kd : Nat} {sp dp len : Int32} (he : z_fi (z_mi mi) pc = some (pc, .invokestatic i, k0, a0, b0, v0, w0)) (h6 : k0 = 6) (hk : z_ac ks kd sp dp len = true) (hs : (st.map fun v => v.category).sum ≤ 8) (hp : pc + 3 = pc') (kk : z_J xL xs ρ em K d mi pc' V st (z_cp σ ks kd sp.toNatClampNeg dp.toNatClampNeg len.toNatClampNeg) ex) : z_J xL xs ρ em K d mi pc V (.int len :: .int dp :: .ref kd :: .int sp :: .ref ks :: st) σ ex := by
  have h := of_decide_eq_true hk
  exact j_B he (fun L => rfl) (by simp only [z_B, z_acp]; rw [if_pos h6, if_pos ⟨h.1, h.2.1, h.2.2.1, h.2.2.2.1, h.2.2.2.2.1, h.2.2.2.2.2.1, h.2.2.2.2.2.2.1, h.2.2.2.2.2.2.2.1, h.2.2.2.2.2.2.2.2, hs⟩]) hp kk
theorem j_min {i : Nat} {x y : Int32} (he : z_fi (z_mi mi) pc = some (pc, .invokestatic i, k0, a0, b0, v0, w0)) (h7 : k0 = 7) (hs : (st.map fun v => v.category).sum ≤ 8) (hp : pc + 3 = pc') (kk : z_J xL xs ρ em K d mi pc' V (.int (if y < x then y else x) :: st) σ ex) : z_J xL xs ρ em K d mi pc V (.int y :: .int x :: st) σ ex :=
  j_B he (fun L => rfl) (by subst h7; show (if (st.map fun v => v.category).sum ≤ 8 then _ else _) = _; rw [if_pos hs]) hp kk
theorem j_max {i : Nat} {x y : Int32} (he : z_fi (z_mi mi) pc = some (pc, .invokestatic i, k0, a0, b0, v0, w0)) (h8 : k0 = 8) (hs : (st.map fun v => v.category).sum ≤ 8) (hp : pc + 3 = pc') (kk : z_J xL xs ρ em K d mi pc' V (.int (if x < y then y else x) :: st) σ ex) : z_J xL xs ρ em K d mi pc V (.int y :: .int x :: st) σ ex :=
  j_B he (fun L => rfl) (by subst h8; show (if (st.map fun v => v.category).sum ≤ 8 then _ else _) = _; rw [if_pos hs]) hp kk
theorem z_tsw {x : Int32} {cnt : Nat} (hc : cnt < 1000) (h : ∀ k : Nat, k < cnt → ¬ x = Int32.ofNat k) : x.toInt < 0 ∨ (cnt : Int) - 1 < x.toInt := by
  by_cases h0 : x.toInt < 0
  · exact Or.inl h0
  · refine Or.inr ?_
    have hx : ¬ x < 0 := fun z => h0 (by simpa using Int32.lt_iff_toInt_lt.mp z)
    obtain ⟨j, hj, rfl⟩ := nI_of hx
    rw [nI_toInt hj]
    by_cases hjc : j < cnt
    · exact absurd rfl (h j hjc)
    · omega
theorem j_tout {dd hi : Int} {offs : Array Int} {x : Int32} (he : z_fi (z_mi mi) pc = some (pc, .tableswitch dd 0 hi offs, k0, a0, b0, v0, w0)) (h : x.toInt < 0 ∨ hi < x.toInt) (hp : (pc : Int) + dd = (pc' : Int)) (kk : z_J xL xs ρ em K d mi pc' V st σ ex) : z_J xL xs ρ em K d mi pc V (.int x :: st) σ ex :=
  j_A he (fun L hL => ⟨L, by simp only [z_A]; rw [if_pos h, if_pos (by omega), hp]; rfl, hL⟩) kk
theorem j_tin {dd hi off : Int} {offs : Array Int} {x : Int32} {j : Nat} (he : z_fi (z_mi mi) pc = some (pc, .tableswitch dd 0 hi offs, k0, a0, b0, v0, w0)) (hx : x = Int32.ofNat j) (hj : j < 1000) (hh : (j : Int) ≤ hi) (ho : offs[j]? = some off) (hp : (pc : Int) + off = (pc' : Int)) (kk : z_J xL xs ρ em K d mi pc' V st σ ex) : z_J xL xs ρ em K d mi pc V (.int x :: st) σ ex := by
  have e1 : x.toInt = (j : Int) := by rw [hx]; exact nI_toInt (by omega)
  refine j_A he (fun L hL => ⟨L, ?_, hL⟩) kk
  simp only [z_A]
  rw [e1, if_neg (by omega)]
  have e2 : ((j : Int) - 0).toNat = j := by omega
  rw [e2, ho]
  simp only
  rw [if_pos (by omega), hp]
  rfl
theorem j_ret {e : zI} {v : Option Value} {q : α} (he : z_fi (z_mi mi) pc = some e) (hA : ∀ L, z_A (z_ml_ mi) e pc L st = none) (hB : z_B xL xs (z_ct mi) e st 105 σ ρ = none) (hC : z_C e st 105 σ ρ = none) (hR : z_R (z_mr mi) e st = some v) (hq : em q = (v, σ)) : z_J xL xs ρ em some d mi pc V st σ (some q) := fun g hg q' hq' => by
  cases hg
  cases hq'
  rw [hq]
  exact z_evR he hA hB hC hR
theorem j_iret {x : Int32} (he : z_fi (z_mi mi) pc = some (pc, .ireturn, k0, a0, b0, v0, w0)) (hr : z_mr mi = some .int) : z_J xL xs ρ em_i some d mi pc V [.int x] σ (some (x, σ)) := j_ret he (fun L => rfl) rfl rfl (by rw [hr]; rfl) rfl
theorem j_zret {x : Int32} (he : z_fi (z_mi mi) pc = some (pc, .ireturn, k0, a0, b0, v0, w0)) (hr : z_mr mi = some .boolean) (hx : x = 0 ∨ x = 1) : z_J xL xs ρ em_i some d mi pc V [.int x] σ (some (x, σ)) := j_ret he (fun L => rfl) rfl rfl (by
  rw [hr]
  simp only [z_R]
  rw [if_pos (by rcases hx with rfl | rfl <;> rfl)]) rfl
theorem j_lret {x : Int64} (he : z_fi (z_mi mi) pc = some (pc, .lreturn, k0, a0, b0, v0, w0)) (hr : z_mr mi = some .long) : z_J xL xs ρ em_l some d mi pc V [.long x] σ (some (x, σ)) := j_ret he (fun L => rfl) rfl rfl (by rw [hr]; rfl) rfl
theorem j_aret {k : Nat} {nm : String} (he : z_fi (z_mi mi) pc = some (pc, .areturn, k0, a0, b0, v0, w0)) (hr : z_mr mi = some (.object nm)) (hk : ¬ k = 4001) : z_J xL xs ρ em_r some d mi pc V [.ref k] σ (some (k, σ)) := j_ret he (fun L => rfl) rfl rfl (by rw [hr]; simp only [z_R]; rw [if_neg hk]) rfl
theorem j_vret (he : z_fi (z_mi mi) pc = some (pc, .return_, k0, a0, b0, v0, w0)) (hr : z_mr mi = none) : z_J xL xs ρ em_v some d mi pc V [] σ (some σ) := j_ret he (fun L => rfl) rfl rfl (by rw [hr]; rfl) rfl
theorem j_call {β : Type} {e : zI} {em2 : β → Option Value × zS} {mj : Nat} {as r0 : List Value} {o : Option β} {k : β → Option γ} (he : z_fi (z_mi mi) pc = some e) (hA : ∀ L, z_A (z_ml_ mi) e pc L st = none) (hB : z_B xL xs (z_ct mi) e st 105 σ ρ = none) (hC : z_C e st 105 σ ρ = none) (hR : z_R (z_mr mi) e st = none) (hD : z_D e st 105 = some (mj, as, r0)) (hp : pc + 3 = pc') (hc : ∀ q, o = some q → z_ec xL xs ρ d mj as σ (em2 q)) (kk : ∀ q, z_J xL xs ρ em K (d + 1) mi pc' V ((em2 q).1.toList ++ r0) (em2 q).2 (k q)) : z_J xL xs ρ em K (d + 1) mi pc V st σ (o.bind k) := by
  intro g hg q hq
  cases o with
  | none => cases hg
  | some y => exact z_evD he hA hB hC hR hD (hc y rfl) hp (kk y g hg q hq)
end ZJ
/-- a loop: its steps go on (inl) or end (inr) -/
def z_ln {S β : Type} (step : S → Option (S ⊕ β)) : Nat → S → Option β
  | 0, _ => none
  | n + 1, s => (step s).bind fun q => match q with
    | .inl s' => z_ln step n s'
    | .inr b => some b
theorem z_ln_mono {S β : Type} {step : S → Option (S ⊕ β)} : ∀ (n : Nat) (s : S) (b : β), z_ln step n s = some b → z_ln step (n + 1) s = some b := by
  intro n
  induction n with
  | zero => intro s b h; cases h
  | succ n ih =>
    intro s b h
    rw [z_ln] at h ⊢
    cases hs : step s with
    | none => rw [hs] at h; cases h
    | some q =>
      rw [hs] at h
      cases q with
      | inl s' => exact ih s' b h
      | inr b' => exact h
theorem z_ln_le {S β : Type} {step : S → Option (S ⊕ β)} {n n' : Nat} {s : S} {b : β} (hn : n ≤ n') (h : z_ln step n s = some b) : z_ln step n' s = some b := by
  induction hn with
  | refl => exact h
  | step _ ih => exact z_ln_mono _ _ _ ih
noncomputable def z_loop {S β : Type} (step : S → Option (S ⊕ β)) (s : S) : Option β := @dite _ (∃ (n : Nat) (b : β), z_ln step n s = some b) (Classical.propDecidable _) (fun h => z_ln step h.choose s) (fun _ => none)
theorem z_loop_n {S β : Type} {step : S → Option (S ⊕ β)} {s : S} {b : β} (h : z_loop step s = some b) : ∃ n, z_ln step n s = some b := by
  unfold z_loop at h
  split at h
  · rename_i hn
    exact ⟨_, h⟩
  · cases h
theorem z_loop_of {S β : Type} {step : S → Option (S ⊕ β)} {s : S} {b : β} {n : Nat} (h : z_ln step n s = some b) : z_loop step s = some b := by
  have hex : ∃ (n : Nat) (b : β), z_ln step n s = some b := ⟨n, b, h⟩
  unfold z_loop
  rw [dif_pos hex]
  obtain ⟨b', hb'⟩ := hex.choose_spec
  rw [hb']
  have h1 := z_ln_le (Nat.le_add_right n hex.choose) h
  have h2 := z_ln_le (Nat.le_add_left hex.choose n) hb'
  rw [h1] at h2
  exact h2.symm
theorem z_loop_eq {S β : Type} (step : S → Option (S ⊕ β)) (s : S) : z_loop step s = (step s).bind fun q => match q with
    | .inl s' => z_loop step s'
    | .inr b => some b := by
  cases hs : step s with
  | none =>
    cases hz : z_loop step s with
    | none => rfl
    | some b =>
      obtain ⟨n, hn⟩ := z_loop_n hz
      cases n with
      | zero => cases hn
      | succ n => rw [z_ln, hs] at hn; cases hn
  | some q =>
    cases q with
    | inr b => exact z_loop_of (n := 1) (by rw [z_ln, hs]; rfl)
    | inl s' =>
      show z_loop step s = z_loop step s'
      cases hz : z_loop step s with
      | some b =>
        obtain ⟨n, hn⟩ := z_loop_n hz
        cases n with
        | zero => cases hn
        | succ n =>
          rw [z_ln, hs] at hn
          exact (z_loop_of (n := n) hn).symm
      | none =>
        cases hz' : z_loop step s' with
        | none => rfl
        | some b =>
          obtain ⟨n, hn⟩ := z_loop_n hz'
          rw [z_loop_of (n := n + 1) (by rw [z_ln, hs]; exact hn)] at hz
          cases hz

/-- what a loop's leaf must show: go on by the induction's hypothesis, or end and go on behind -/
def z_LK {S β γ α : Type} (K : γ → Option α) (k : β → Option γ) (R : S → Option γ) (q : S ⊕ β) : Option α := match q with
  | .inl s' => (R s').bind K
  | .inr b => (k b).bind K
section ZL
variable {γ α S β : Type} {xL : Nat} {xs : Nat → Int32} {ρ : Nat → Nat → Option Nat} {em : α → Option Value × zS} {K : γ → Option α} {d mi pc : Nat} {V st : List Value} {σ : zS}
theorem z_J_bind {δ : Type} {e : Option δ} {k : δ → Option γ} : z_J xL xs ρ em K d mi pc V st σ (e.bind k) ↔ z_J xL xs ρ em (fun x => (k x).bind K) d mi pc V st σ e := by
  constructor
  · intro h g hg q hq
    obtain ⟨y, hy, hy2⟩ := Option.bind_eq_some_iff.mp hq
    exact h y (by rw [hg]; exact hy) q hy2
  · intro h g hg q hq
    obtain ⟨y, hy, hy2⟩ := Option.bind_eq_some_iff.mp hg
    exact h y hy q (Option.bind_eq_some_iff.mpr ⟨g, hy2, hq⟩)
theorem j_loop (Vs : S → List Value) (σs : S → zS) {step : S → Option (S ⊕ β)} {k : β → Option γ} (h : ∀ R : S → Option γ, (∀ s, z_J xL xs ρ em K d mi pc (Vs s) st (σs s) (R s)) → ∀ s, z_J xL xs ρ em (z_LK K k R) d mi pc (Vs s) st (σs s) (step s)) (s : S) : z_J xL xs ρ em K d mi pc (Vs s) st (σs s) ((z_loop step s).bind k) := by
  have main : ∀ n s, z_J xL xs ρ em K d mi pc (Vs s) st (σs s) ((z_ln step n s).bind k) := by
    intro n
    induction n with
    | zero => intro s g hg; cases hg
    | succ n ih =>
      intro s
      have h1 := h (fun s => (z_ln step n s).bind k) ih s
      intro g hg q hq
      rw [z_ln] at hg
      cases hs : step s with
      | none => rw [hs] at hg; cases hg
      | some y =>
        rw [hs] at hg
        cases y with
        | inl s' => exact h1 _ hs q (Option.bind_eq_some_iff.mpr ⟨g, hg, hq⟩)
        | inr b => exact h1 _ hs q (Option.bind_eq_some_iff.mpr ⟨g, hg, hq⟩)
  intro g hg q hq
  obtain ⟨b, hb, hb2⟩ := Option.bind_eq_some_iff.mp hg
  obtain ⟨n, hn⟩ := z_loop_n hb
  exact main n s g (Option.bind_eq_some_iff.mpr ⟨b, hn, hb2⟩) q hq
/-- the back edge -/
theorem j_again {k : β → Option γ} {R : S → Option γ} {s' : S} (h : z_J xL xs ρ em K d mi pc V st σ (R s')) : z_J xL xs ρ em (z_LK K k R) d mi pc V st σ (some (.inl s')) := by
  intro g hg q hq
  cases hg
  obtain ⟨y, hy, hy2⟩ := Option.bind_eq_some_iff.mp hq
  exact h y hy q hy2
/-- the end of the loop -/
theorem j_exit {k : β → Option γ} {R : S → Option γ} {b : β} (h : z_J xL xs ρ em K d mi pc V st σ (k b)) : z_J xL xs ρ em (z_LK K k R) d mi pc V st σ (some (.inr b)) := by
  intro g hg q hq
  cases hg
  obtain ⟨y, hy, hy2⟩ := Option.bind_eq_some_iff.mp hq
  exact h y hy q hy2
end ZL
