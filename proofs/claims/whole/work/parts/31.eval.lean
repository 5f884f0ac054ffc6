/-! what calls come to -/
/-- class and reference answer alike, and what holds between calls holds again -/
def hc_B {α : Type} (fY fM : zS → Option (α × zS)) (σ : zS) : Prop := ∃ r τ υ, fY σ = some (r, τ) ∧ fM τ = some (r, υ) ∧ z_Inv υ
def hc_R {α : Type} (fY : zS → Option (α × zS)) (fM : zS → Option α) (σ : zS) : Prop := ∃ r τ, fY σ = some (r, τ) ∧ fM τ = some r ∧ z_Inv τ
def hc_P {α : Type} (fY fM : zS → Option α) (σ : zS) : Prop := ∃ r, fY σ = some r ∧ fM σ = some r
theorem k_eq {a b : Nat} (h : a = b) : (nI a = nI b) = True := eq_true (by rw [h])
theorem k_ne {a b : Nat} (h : a ≠ b) (ha : a < 2 ^ 31) (hb : b < 2 ^ 31) : (nI a = nI b) = False := eq_false (by rw [nI_eq ha hb]; exact h)
theorem k_leT {a b : Nat} (h : a ≤ b) (hb : b < 2 ^ 31) : (nI a ≤ nI b) = True := eq_true (nI_le h hb)
theorem k_leF {a b : Nat} (h : b < a) (ha : a < 2 ^ 31) : (nI a ≤ nI b) = False := eq_false (nI_ge h ha)
theorem k_ltT {a b : Nat} (h : a < b) (hb : b < 2 ^ 31) : (nI a < nI b) = True := eq_true (nI_lt h hb)
theorem k_ltF {a b : Nat} (h : b ≤ a) (ha : a < 2 ^ 31) : (nI a < nI b) = False := eq_false (nI_nlt h ha)
theorem k_ib {a N : Nat} (h : a < N) (hN : N ≤ 2 ^ 31) : (z_ib (nI a) N = true) = True := eq_true ((z_ibn (by omega)).mpr h)
theorem k_ngT {a b : Nat} (ha : a < 2 ^ 31) (h0 : 0 < b) (hb : b ≤ 2 ^ 31) : (nI a = - nI b) = False := eq_false (z_neg h0 hb a ha)
theorem hg_uu (x : Unit) : x = () := rfl
theorem k_i (P : Prop) [Decidable P] {α : Type} {d : Decidable (nI (if P then 1 else 0) = nI 0)} (x y : α) : @ite α (nI (if P then 1 else 0) = nI 0) d x y = if P then y else x := by
  by_cases h : P
  · simp only [if_pos h]
    exact if_neg hg_10
  · simp only [if_neg h, if_true]
theorem k_of (x : Int32) : nI x.toBitVec.toNat = x := by
  apply Int32.toBitVec.inj
  apply BitVec.eq_of_toNat_eq
  rw [pk_tn (BitVec.isLt _)]
theorem k_ofl (x : Int32) : x.toBitVec.toNat < 2 ^ 32 := BitVec.isLt _
theorem hg_Q0 {σ : zS} {p : Nat → Nat} (h : hg_Q σ 0 p) : ∀ k, k < 110 → σ 91 k = nI (p k) := fun k hk => by
  have e := h k hk
  rwa [Nat.zero_add] at e
theorem hg_Q0_up {σ : zS} {p : Nat → Nat} {i v : Nat} (h : hg_Q σ 0 p) : hg_Q (z_u σ 91 i (nI v)) 0 (g_up p i v) := by
  have e := hg_Q_up (P := 0) (i := i) (v := v) h
  rwa [Nat.zero_add] at e
theorem hg_mk {σ υ : zS} {W H R : Nat} {p p' : Nat → Nat} (h : hg_I σ W H R p) (hV' : hg_V p' R) (hB' : hg_B p') (hG' : hg_G1 υ p' W H R) (hQ' : hg_Q υ 0 p') (e : ∀ k, (k = 0 ∨ 33 ≤ k) → k ≠ 91 → k ≠ 98 → υ k = σ k) (e2 : ∀ j, 110 ≤ j → j < 330 → υ 91 j = σ 91 j) : z_Inv υ := ⟨W, H, R, p', h.1, hV', hG', hQ', hg_X_c h.2.2.2.2.1 e e2, hB'⟩
/-- the class has changed its garden, then the reference its page -/
theorem hg_mk2 {σ τ υ : zS} {W H R : Nat} {p p' : Nat → Nat} (h : hg_I σ W H R p) (hV' : hg_V p' R) (hB' : hg_B p') (hG' : hg_G1 τ p' W H R) (hQ' : hg_Q υ 0 p') (e : ∀ k, (k < 1 ∨ 32 < k) → τ k = σ k) (f : ∀ k, k ≠ 91 → k ≠ 98 → υ k = τ k) (f2 : ∀ j, 110 ≤ j → j < 330 → υ 91 j = σ 91 j) : z_Inv υ :=
  hg_mk h hV' hB' (hg_G1_c hG' (fun k a b => f k (by omega) (by omega))) hQ' (fun k a b c => by rw [f k b c, e k (by omega)]) f2
/-- the garden is as it was -/
theorem hg_mk0 {σ τ υ : zS} {W H R : Nat} {p : Nat → Nat} (h : hg_I σ W H R p) (e : ∀ k, (k < 17 ∨ 32 < k) → τ k = σ k) (f : ∀ k, k ≠ 91 → k ≠ 98 → υ k = τ k) (f2 : ∀ j, j < 330 → υ 91 j = σ 91 j) : z_Inv υ :=
  ⟨W, H, R, p, hg_I_c h (fun k a b c => by rw [f k b c, e k (by omega)]) f2⟩
theorem hg_toInt {n : Nat} (hn : n < 2 ^ 31) {lo hi : Int} : (lo ≤ (nI n).toInt ∧ (nI n).toInt ≤ hi) ↔ (lo ≤ (n : Int) ∧ (n : Int) ≤ hi) := by rw [nI_toInt hn]
theorem ki_0_1 (a : Int32) (σ : zS) : f_Y_isIn a (nI 0) (nI 1) σ = some (nI (if 0 ≤ a.toInt ∧ a.toInt ≤ 1 then 1 else 0)) := y_isIn a (nI 0) (nI 1) σ
theorem ki_0_10 (a : Int32) (σ : zS) : f_Y_isIn a (nI 0) (nI 10) σ = some (nI (if 0 ≤ a.toInt ∧ a.toInt ≤ 10 then 1 else 0)) := y_isIn a (nI 0) (nI 10) σ
theorem ki_0_127 (a : Int32) (σ : zS) : f_Y_isIn a (nI 0) (nI 127) σ = some (nI (if 0 ≤ a.toInt ∧ a.toInt ≤ 127 then 1 else 0)) := y_isIn a (nI 0) (nI 127) σ
theorem ki_0_13 (a : Int32) (σ : zS) : f_Y_isIn a (nI 0) (nI 13) σ = some (nI (if 0 ≤ a.toInt ∧ a.toInt ≤ 13 then 1 else 0)) := y_isIn a (nI 0) (nI 13) σ
theorem ki_0_15 (a : Int32) (σ : zS) : f_Y_isIn a (nI 0) (nI 15) σ = some (nI (if 0 ≤ a.toInt ∧ a.toInt ≤ 15 then 1 else 0)) := y_isIn a (nI 0) (nI 15) σ
theorem ki_0_2 (a : Int32) (σ : zS) : f_Y_isIn a (nI 0) (nI 2) σ = some (nI (if 0 ≤ a.toInt ∧ a.toInt ≤ 2 then 1 else 0)) := y_isIn a (nI 0) (nI 2) σ
theorem ki_0_3 (a : Int32) (σ : zS) : f_Y_isIn a (nI 0) (nI 3) σ = some (nI (if 0 ≤ a.toInt ∧ a.toInt ≤ 3 then 1 else 0)) := y_isIn a (nI 0) (nI 3) σ
theorem ki_0_4 (a : Int32) (σ : zS) : f_Y_isIn a (nI 0) (nI 4) σ = some (nI (if 0 ≤ a.toInt ∧ a.toInt ≤ 4 then 1 else 0)) := y_isIn a (nI 0) (nI 4) σ
theorem ki_0_60 (a : Int32) (σ : zS) : f_Y_isIn a (nI 0) (nI 60) σ = some (nI (if 0 ≤ a.toInt ∧ a.toInt ≤ 60 then 1 else 0)) := y_isIn a (nI 0) (nI 60) σ
theorem ki_0_7 (a : Int32) (σ : zS) : f_Y_isIn a (nI 0) (nI 7) σ = some (nI (if 0 ≤ a.toInt ∧ a.toInt ≤ 7 then 1 else 0)) := y_isIn a (nI 0) (nI 7) σ
theorem ki_0_99 (a : Int32) (σ : zS) : f_Y_isIn a (nI 0) (nI 99) σ = some (nI (if 0 ≤ a.toInt ∧ a.toInt ≤ 99 then 1 else 0)) := y_isIn a (nI 0) (nI 99) σ
theorem ki_0_999 (a : Int32) (σ : zS) : f_Y_isIn a (nI 0) (nI 999) σ = some (nI (if 0 ≤ a.toInt ∧ a.toInt ≤ 999 then 1 else 0)) := y_isIn a (nI 0) (nI 999) σ
theorem ki_1_12 (a : Int32) (σ : zS) : f_Y_isIn a (nI 1) (nI 12) σ = some (nI (if 1 ≤ a.toInt ∧ a.toInt ≤ 12 then 1 else 0)) := y_isIn a (nI 1) (nI 12) σ
theorem ki_1_4 (a : Int32) (σ : zS) : f_Y_isIn a (nI 1) (nI 4) σ = some (nI (if 1 ≤ a.toInt ∧ a.toInt ≤ 4 then 1 else 0)) := y_isIn a (nI 1) (nI 4) σ
theorem ki_1_5 (a : Int32) (σ : zS) : f_Y_isIn a (nI 1) (nI 5) σ = some (nI (if 1 ≤ a.toInt ∧ a.toInt ≤ 5 then 1 else 0)) := y_isIn a (nI 1) (nI 5) σ
theorem ki_1_6 (a : Int32) (σ : zS) : f_Y_isIn a (nI 1) (nI 6) σ = some (nI (if 1 ≤ a.toInt ∧ a.toInt ≤ 6 then 1 else 0)) := y_isIn a (nI 1) (nI 6) σ
theorem ki_1_60 (a : Int32) (σ : zS) : f_Y_isIn a (nI 1) (nI 60) σ = some (nI (if 1 ≤ a.toInt ∧ a.toInt ≤ 60 then 1 else 0)) := y_isIn a (nI 1) (nI 60) σ
theorem ki_1_8 (a : Int32) (σ : zS) : f_Y_isIn a (nI 1) (nI 8) σ = some (nI (if 1 ≤ a.toInt ∧ a.toInt ≤ 8 then 1 else 0)) := y_isIn a (nI 1) (nI 8) σ
theorem ki_1_9 (a : Int32) (σ : zS) : f_Y_isIn a (nI 1) (nI 9) σ = some (nI (if 1 ≤ a.toInt ∧ a.toInt ≤ 9 then 1 else 0)) := y_isIn a (nI 1) (nI 9) σ
theorem ki_48_57 (a : Int32) (σ : zS) : f_Y_isIn a (nI 48) (nI 57) σ = some (nI (if 48 ≤ a.toInt ∧ a.toInt ≤ 57 then 1 else 0)) := y_isIn a (nI 48) (nI 57) σ
theorem ki_97_122 (a : Int32) (σ : zS) : f_Y_isIn a (nI 97) (nI 122) σ = some (nI (if 97 ≤ a.toInt ∧ a.toInt ≤ 122 then 1 else 0)) := y_isIn a (nI 97) (nI 122) σ
theorem km_0_1 (a : Int32) (σ : zS) : f_M_in a.toInt64 (0 : Int64) (1 : Int64) σ = some (nI (if 0 ≤ a.toInt ∧ a.toInt ≤ 1 then 1 else 0)) := mm_inI a 0 1 σ
theorem km_0_127 (a : Int32) (σ : zS) : f_M_in a.toInt64 (0 : Int64) (127 : Int64) σ = some (nI (if 0 ≤ a.toInt ∧ a.toInt ≤ 127 then 1 else 0)) := mm_inI a 0 127 σ
theorem km_0_13 (a : Int32) (σ : zS) : f_M_in a.toInt64 (0 : Int64) (13 : Int64) σ = some (nI (if 0 ≤ a.toInt ∧ a.toInt ≤ 13 then 1 else 0)) := mm_inI a 0 13 σ
theorem km_0_2 (a : Int32) (σ : zS) : f_M_in a.toInt64 (0 : Int64) (2 : Int64) σ = some (nI (if 0 ≤ a.toInt ∧ a.toInt ≤ 2 then 1 else 0)) := mm_inI a 0 2 σ
theorem km_0_3 (a : Int32) (σ : zS) : f_M_in a.toInt64 (0 : Int64) (3 : Int64) σ = some (nI (if 0 ≤ a.toInt ∧ a.toInt ≤ 3 then 1 else 0)) := mm_inI a 0 3 σ
theorem km_0_4 (a : Int32) (σ : zS) : f_M_in a.toInt64 (0 : Int64) (4 : Int64) σ = some (nI (if 0 ≤ a.toInt ∧ a.toInt ≤ 4 then 1 else 0)) := mm_inI a 0 4 σ
theorem km_0_60 (a : Int32) (σ : zS) : f_M_in a.toInt64 (0 : Int64) (60 : Int64) σ = some (nI (if 0 ≤ a.toInt ∧ a.toInt ≤ 60 then 1 else 0)) := mm_inI a 0 60 σ
theorem km_0_999 (a : Int32) (σ : zS) : f_M_in a.toInt64 (0 : Int64) (999 : Int64) σ = some (nI (if 0 ≤ a.toInt ∧ a.toInt ≤ 999 then 1 else 0)) := mm_inI a 0 999 σ
theorem km_0_99 (a : Int32) (σ : zS) : f_M_in a.toInt64 (0 : Int64) (99 : Int64) σ = some (nI (if 0 ≤ a.toInt ∧ a.toInt ≤ 99 then 1 else 0)) := mm_inI a 0 99 σ
theorem km_0_10 (a : Int32) (σ : zS) : f_M_in a.toInt64 (0 : Int64) (10 : Int64) σ = some (nI (if 0 ≤ a.toInt ∧ a.toInt ≤ 10 then 1 else 0)) := mm_inI a 0 10 σ
theorem km_0_7 (a : Int32) (σ : zS) : f_M_in a.toInt64 (0 : Int64) (7 : Int64) σ = some (nI (if 0 ≤ a.toInt ∧ a.toInt ≤ 7 then 1 else 0)) := mm_inI a 0 7 σ
theorem km_1_12 (a : Int32) (σ : zS) : f_M_in a.toInt64 (1 : Int64) (12 : Int64) σ = some (nI (if 1 ≤ a.toInt ∧ a.toInt ≤ 12 then 1 else 0)) := mm_inI a 1 12 σ
theorem km_1_5 (a : Int32) (σ : zS) : f_M_in a.toInt64 (1 : Int64) (5 : Int64) σ = some (nI (if 1 ≤ a.toInt ∧ a.toInt ≤ 5 then 1 else 0)) := mm_inI a 1 5 σ
theorem km_1_4 (a : Int32) (σ : zS) : f_M_in a.toInt64 (1 : Int64) (4 : Int64) σ = some (nI (if 1 ≤ a.toInt ∧ a.toInt ≤ 4 then 1 else 0)) := mm_inI a 1 4 σ
theorem km_1_6 (a : Int32) (σ : zS) : f_M_in a.toInt64 (1 : Int64) (6 : Int64) σ = some (nI (if 1 ≤ a.toInt ∧ a.toInt ≤ 6 then 1 else 0)) := mm_inI a 1 6 σ
theorem km_1_60 (a : Int32) (σ : zS) : f_M_in a.toInt64 (1 : Int64) (60 : Int64) σ = some (nI (if 1 ≤ a.toInt ∧ a.toInt ≤ 60 then 1 else 0)) := mm_inI a 1 60 σ
theorem km_1_9 (a : Int32) (σ : zS) : f_M_in a.toInt64 (1 : Int64) (9 : Int64) σ = some (nI (if 1 ≤ a.toInt ∧ a.toInt ≤ 9 then 1 else 0)) := mm_inI a 1 9 σ
theorem km_1_8 (a : Int32) (σ : zS) : f_M_in a.toInt64 (1 : Int64) (8 : Int64) σ = some (nI (if 1 ≤ a.toInt ∧ a.toInt ≤ 8 then 1 else 0)) := mm_inI a 1 8 σ
theorem km_1_3 (a : Int32) (σ : zS) : f_M_in a.toInt64 (1 : Int64) (3 : Int64) σ = some (nI (if 1 ≤ a.toInt ∧ a.toInt ≤ 3 then 1 else 0)) := mm_inI a 1 3 σ
theorem km_11_49 (a : Int32) (σ : zS) : f_M_in a.toInt64 (11 : Int64) (49 : Int64) σ = some (nI (if 11 ≤ a.toInt ∧ a.toInt ≤ 49 then 1 else 0)) := mm_inI a 11 49 σ
theorem km_48_57 (a : Int32) (σ : zS) : f_M_in a.toInt64 (48 : Int64) (57 : Int64) σ = some (nI (if 48 ≤ a.toInt ∧ a.toInt ≤ 57 then 1 else 0)) := mm_inI a 48 57 σ
theorem km_97_122 (a : Int32) (σ : zS) : f_M_in a.toInt64 (97 : Int64) (122 : Int64) σ = some (nI (if 97 ≤ a.toInt ∧ a.toInt ≤ 122 then 1 else 0)) := mm_inI a 97 122 σ
theorem hg_V_up {p : Nat → Nat} {R i v : Nat} (hR : R ≤ 5) (h : hg_V p R) (h0 : ∀ c, c < 16 → 5 * c = i → v ≤ 3) (h1 : ∀ c, c < 16 → 5 * c + 1 = i → v ≤ 9) (h2 : ∀ c, c < 16 → 5 * c + 2 = i → v ≤ 5) (h3 : ∀ c, c < 16 → 5 * c + 3 = i → v ≤ 2) (h4 : ∀ c, c < 16 → 5 * c + 4 = i → v ≤ 2) (h5 : 80 = i → v < 2 ^ 32) (h6 : ∀ c, c < 5 → 81 + 3 * c = i → v ≤ 3) (h7 : ∀ c, c < 5 → 82 + 3 * c = i → v ≤ 4) (h8 : ∀ c, c < 5 → 83 + 3 * c = i → 1 ≤ v ∧ v ≤ 4) (h9 : ∀ c, c < 4 → 96 + 2 * c = i → v ≤ 99) (h10 : ∀ c, c < 4 → 97 + 2 * c = i → v ≤ 8) (h11 : 104 = i → v ≤ 999) : hg_V (g_up p i v) R := by
  obtain ⟨a, b, d, e, f⟩ := h
  refine ⟨fun c hc => ⟨?_, ?_, ?_, ?_, ?_⟩, ?_, fun c hc => ⟨?_, ?_, ?_, ?_⟩, fun c hc => ⟨?_, ?_⟩, ?_⟩
  · by_cases q : 5 * c = i
    · rw [← q, g_up_s]; exact h0 c hc q
    · rw [g_up_n q]; exact (a c hc).1
  · by_cases q : 5 * c + 1 = i
    · rw [← q, g_up_s]; exact h1 c hc q
    · rw [g_up_n q]; exact (a c hc).2.1
  · by_cases q : 5 * c + 2 = i
    · rw [← q, g_up_s]; exact h2 c hc q
    · rw [g_up_n q]; exact (a c hc).2.2.1
  · by_cases q : 5 * c + 3 = i
    · rw [← q, g_up_s]; exact h3 c hc q
    · rw [g_up_n q]; exact (a c hc).2.2.2.1
  · by_cases q : 5 * c + 4 = i
    · rw [← q, g_up_s]; exact h4 c hc q
    · rw [g_up_n q]; exact (a c hc).2.2.2.2
  · by_cases q : 80 = i
    · rw [← q, g_up_s]; exact h5 q
    · rw [g_up_n q]; exact b
  · by_cases q : 81 + 3 * c = i
    · rw [← q, g_up_s]; exact h6 c (by omega) q
    · rw [g_up_n q]; exact (d c hc).1
  · by_cases q : 82 + 3 * c = i
    · rw [← q, g_up_s]; exact h7 c (by omega) q
    · rw [g_up_n q]; exact (d c hc).2.1
  · by_cases q : 83 + 3 * c = i
    · rw [← q, g_up_s]; exact (h8 c (by omega) q).1
    · rw [g_up_n q]; exact (d c hc).2.2.1
  · by_cases q : 83 + 3 * c = i
    · rw [← q, g_up_s]; exact (h8 c (by omega) q).2
    · rw [g_up_n q]; exact (d c hc).2.2.2
  · by_cases q : 96 + 2 * c = i
    · rw [← q, g_up_s]; exact h9 c hc q
    · rw [g_up_n q]; exact (e c hc).1
  · by_cases q : 97 + 2 * c = i
    · rw [← q, g_up_s]; exact h10 c hc q
    · rw [g_up_n q]; exact (e c hc).2
  · by_cases q : 104 = i
    · rw [← q, g_up_s]; exact h11 q
    · rw [g_up_n q]; exact f
theorem hg_B_up {p : Nat → Nat} {i v : Nat} (hi : i < 105) (h : hg_B p) : hg_B (g_up p i v) := by
  refine ⟨?_, fun o ho => ?_⟩
  · rw [g_up_n (by omega)]; exact h.1
  · rw [g_up_n (by omega), g_up_n (by omega)]; exact h.2 o ho
theorem hg_B_wk {W H R : Nat} {p : Nat → Nat} (hD : hg_D W H R) (h : ∀ o, o < 3 → p (106 + o) ≤ 16 * p 105) : g_wk W H R p 105 = p 105 + 1 ∧ ∀ o, o < 3 → g_wk W H R p (106 + o) ≤ 16 * g_wk W H R p 105 := by
  obtain ⟨n1, n2⟩ := hg_D_N hD
  have e : g_wk W H R p 105 = p 105 + 1 := rfl
  refine ⟨e, fun o ho => ?_⟩
  rw [e, g_wk_r ho]
  have h1 := h o ho
  have h2 := g_ct_le (g_rp p W H R o) (W * H)
  omega
theorem hg_B_wks {W H R : Nat} {p : Nat → Nat} (hD : hg_D W H R) (h : ∀ o, o < 3 → p (106 + o) ≤ 16 * p 105) : ∀ n, g_wks W H R n p 105 = p 105 + n ∧ ∀ o, o < 3 → g_wks W H R n p (106 + o) ≤ 16 * g_wks W H R n p 105
  | 0 => ⟨rfl, h⟩
  | n + 1 => by
    obtain ⟨i1, i2⟩ := hg_B_wks hD h n
    obtain ⟨j1, j2⟩ := hg_B_wk hD i2
    refine ⟨?_, j2⟩
    show g_wk W H R (g_wks W H R n p) 105 = _
    rw [j1, i1]
    omega
/-- an edge that there is -/
def g_ed (W H e : Nat) : Bool := decide (e / 2 < W * H) && (if e % 2 = 0 then decide (e / 2 % W + 1 < W) else decide (e / 2 + W < W * H))
theorem g_ed_iff {W H n : Nat} : g_ed W H n = true ↔ (n / 2 < W * H ∧ ((n % 2 = 0 ∧ n / 2 % W + 1 < W) ∨ (¬ n % 2 = 0 ∧ n / 2 + W < W * H))) := by
  unfold g_ed
  rw [Bool.and_eq_true, decide_eq_true_iff]
  by_cases c : n % 2 = 0
  · rw [if_pos c, decide_eq_true_iff]
    simp only [c, true_and, not_true_eq_false, false_and, or_false]
  · rw [if_neg c, decide_eq_true_iff]
    simp only [c, false_and, not_false_eq_true, true_and, false_or]
theorem g_ed_lt {W H R e : Nat} (hD : hg_D W H R) (h : g_ed W H e = true) : e < 32 ∧ e / 2 < W * H := by
  obtain ⟨n1, n2⟩ := hg_D_N hD
  rw [g_ed_iff] at h
  omega
theorem hg_south {W H c : Nat} (w1 : 2 ≤ W) (w2 : W ≤ 4) (h1 : 2 ≤ H) (h2 : H ≤ 4) (hc : c < W * H) : c / W + 1 < H ↔ c + W < W * H := by
  have hw : W = 2 ∨ W = 3 ∨ W = 4 := by omega
  have hh : H = 2 ∨ H = 3 ∨ H = 4 := by omega
  rcases hw with rfl | rfl | rfl <;> rcases hh with rfl | rfl | rfl <;> omega
theorem hg_half {a : Int32} (h : a.toInt < 0) : (a >>> (nI 1 &&& nI 31)).toInt < 0 := by
  rw [pk_shr a (nI 1 &&& nI 31) 1 (z_ts 1 (by omega)), Int.shiftRight_eq_div_pow]
  omega
theorem hg_halfN {n : Nat} (hn : n < 2 ^ 31) : nI n >>> (nI 1 &&& nI 31) = nI (n / 2) := pk_shrN hn (nI 1 &&& nI 31) 1 (z_ts 1 (by omega))
section M31
variable {σ : zS} {p : Nat → Nat} {W H R P : Nat}
theorem mm_isEdgeOf (hD : hg_D W H R) (a : Int32) (σ : zS) : f_M_isEdgeOf a (nI W) (nI H) σ = some (nI (if 0 ≤ a.toInt ∧ g_ed W H a.toInt.toNat = true then 1 else 0)) := by
  obtain ⟨d1, d2, d3, d4, -⟩ := id hD
  obtain ⟨n1, n2⟩ := hg_D_N hD
  unfold f_M_isEdgeOf
  by_cases h : a < 0
  · rw [if_pos h]
    have h2 : a.toInt < 0 := Int32.lt_iff_toInt_lt.mp h
    rw [if_neg (fun q => by have := q.1; omega)]
    rfl
  · obtain ⟨n, hn, rfl⟩ := nI_of h
    rw [if_neg h, nI_toInt hn, Int.toNat_natCast]
    have q1 : n / 2 % W < W := Nat.mod_lt _ (by omega)
    have q2 : n / 2 / W ≤ n / 2 := Nat.div_le_self _ _
    rw [nl2, pk_rem hn (show 0 < 2 by omega) (show 2 < 2 ^ 31 by omega), pk_div hn (show 0 < 2 by omega) (show 2 < 2 ^ 31 by omega), pk_rem (show n / 2 < 2 ^ 31 by omega) (show 0 < W by omega) (show W < 2 ^ 31 by omega), pk_div (show n / 2 < 2 ^ 31 by omega) (show 0 < W by omega) (show W < 2 ^ 31 by omega)]
    simp only [nl1, nl0, pk_mul, nI_add, z_join, nI_leI (show W * H < 2 ^ 31 by omega) (show n / 2 < 2 ^ 31 by omega), k_ne (show W ≠ 0 by omega) (show W < 2 ^ 31 by omega) (show 0 < 2 ^ 31 by omega), if_false, nI_leI (show W < 2 ^ 31 by omega) (show n / 2 % W + 1 < 2 ^ 31 by omega), nI_leI (show H < 2 ^ 31 by omega) (show n / 2 / W + 1 < 2 ^ 31 by omega), nI_eq (show n % 2 < 2 ^ 31 by omega) (show 0 < 2 ^ 31 by omega), g_ed_iff]
    have s := fun hc => hg_south d1 d2 d3 d4 (show n / 2 < W * H from hc)
    by_cases c1 : W * H ≤ n / 2
    · rw [if_pos c1, if_neg (by omega)]
    · rw [if_neg c1]
      have s := s (by omega)
      by_cases c2 : n % 2 = 0
      · rw [if_pos c2]
        by_cases c3 : W ≤ n / 2 % W + 1
        · rw [if_pos c3, if_neg (by omega)]
        · rw [if_neg c3, if_pos (by omega)]
      · rw [if_neg c2]
        by_cases c3 : H ≤ n / 2 / W + 1
        · rw [if_pos c3, if_neg (by omega)]
        · rw [if_neg c3, if_pos (by omega)]
theorem mm_isEdge (hD : hg_D W H R) (hM : hg_M σ W H R) (a : Int32) : f_M_isEdge a σ = some (nI (if 0 ≤ a.toInt ∧ g_ed W H a.toInt.toNat = true then 1 else 0)) := by
  unfold f_M_isEdge
  rw [hM.1, hM.2.1, mm_isEdgeOf hD, z_bs, nl0, nl1]
  exact if_pos (hg_b01 _)
theorem mm_ripeOn (hQ : hg_Q σ P p) (hP : P ≤ 440) : f_M_ripeOn (nI P) σ = some (nI (p 106 + p 107 + p 108)) := by
  unfold f_M_ripeOn
  simp (disch := omega) only [nl106, nl1, nl2, nI_add, k_ib, if_true, nI_clamp]
  rw [show P + 106 + 1 = P + 107 by omega, show P + 106 + 2 = P + 108 by omega, hQ 106 (by omega), hQ 107 (by omega), hQ 108 (by omega), nI_add, nI_add]
theorem mm_asked (hV : hg_V p R) (hQ : hg_Q σ P p) (hP : P ≤ 440) {c : Nat} (hc : c < 16) {b : Int32} (hb : 0 ≤ b.toInt ∧ b.toInt ≤ 4) : f_M_asked (nI P) (nI c) b σ = some (g_fa p c b) := by
  obtain ⟨j, -, hj, rfl⟩ := hg_arg2 (lo := 0) (hi := 4) (by omega) hb
  refine hg_d5 (P := fun j => f_M_asked (nI P) (nI c) (nI j) σ = some (g_fa p c (nI j))) (show j < 5 by omega) ?_ ?_ ?_ ?_ ?_
  · unfold f_M_asked
    rw [mm_lies hV hQ hP hc]
    rfl
  · unfold f_M_asked
    rw [nl5, pk_mul, nI_add, nI_add, if_neg (show ¬ nI 1 = 0 by decide), if_neg (show ¬ nI 1 = 2 by decide), if_pos ((z_ibn (by omega)).mpr (by omega)), nI_clamp (by omega), Nat.add_assoc, hQ _ (by omega)]
    rfl
  · unfold f_M_asked
    rw [mm_cropIn hV hQ hP hc]
    rfl
  · unfold f_M_asked
    rw [nl5, pk_mul, nI_add, nI_add, if_neg (show ¬ nI 3 = 0 by decide), if_neg (show ¬ nI 3 = 2 by decide), if_pos ((z_ibn (by omega)).mpr (by omega)), nI_clamp (by omega), Nat.add_assoc, hQ _ (by omega)]
    rfl
  · unfold f_M_asked
    rw [nl5, pk_mul, nI_add, nI_add, if_neg (show ¬ nI 4 = 0 by decide), if_neg (show ¬ nI 4 = 2 by decide), if_pos ((z_ibn (by omega)).mpr (by omega)), nI_clamp (by omega), Nat.add_assoc, hQ _ (by omega)]
    rfl
theorem yy_hasEdge_1 (hD : hg_D W H R) (h : hg_G1 σ p W H R) (a : Int32) : f_G_hasEdge_1 a σ = some (nI (if 0 ≤ a.toInt ∧ g_ed W H a.toInt.toNat = true then 1 else 0)) := by
  obtain ⟨d1, d2, d3, d4, -⟩ := id hD
  obtain ⟨n1, n2⟩ := hg_D_N hD
  unfold f_G_hasEdge_1
  rw [nl1, show (31 : Int32) = nI 31 from rfl]
  by_cases h0 : a < 0
  · have h2 : a.toInt < 0 := Int32.lt_iff_toInt_lt.mp h0
    have h3 := hg_half h2
    rw [y_hasCell_1 hD h, z_bs, if_neg (show ¬ (0 ≤ a.toInt ∧ g_ed W H a.toInt.toNat = true) from fun q => by have := q.1; omega), if_pos]
    · rfl
    · rw [if_neg (by omega)]
      rfl
  · obtain ⟨n, hn, rfl⟩ := nI_of h0
    rw [hg_halfN hn, y_hasCelln_1 hD h (show n / 2 < 2 ^ 31 by omega), z_bs, nI_toInt hn, Int.toNat_natCast, z_one]
    simp only [g_ed_iff]
    by_cases c1 : n / 2 < W * H
    · rw [if_pos c1, if_neg (show ¬ nI 1 = 0 by decide)]
      by_cases c2 : n % 2 = 0
      · rw [if_pos (show nI (n % 2) = 0 by rw [c2]; rfl), y_hasEast_1 hD h (show n / 2 < 2 ^ 31 by omega), z_bs, nl0, if_pos (hg_b01 _)]
        by_cases c3 : n / 2 % W + 1 < W
        · rw [if_pos c3, if_pos (by omega)]
        · rw [if_neg c3, if_neg (by omega)]
      · rw [if_neg (show ¬ nI (n % 2) = 0 by rw [nl0, nI_eq (by omega) (by omega)]; exact c2), h.1, nI_add, y_hasCelln_1 hD h (show n / 2 + W < 2 ^ 31 by omega), z_bs, nl0, if_pos (hg_b01 _)]
        by_cases c3 : n / 2 + W < W * H
        · rw [if_pos c3, if_pos (by omega)]
        · rw [if_neg c3, if_neg (by omega)]
    · rw [if_neg c1, if_pos (show nI 0 = 0 from rfl), if_neg (by omega)]
      rfl
theorem yy_setWall1_1 {w e : Nat} (h : σ 1 7 = nI w) (he : e < 32) : f_G_setWall_1 (nI e) (nI 1) σ = some (z_u σ 1 7 (nI (w ||| 2 ^ e))) := by
  unfold f_G_setWall_1
  simp only [z_join, z_let]
  rw [if_neg (show ¬ nI 1 = 0 by decide), h, nl1, show (31 : Int32) = nI 31 from rfl, z_shl he, z_or]
theorem yy_setWall0_1 {e : Nat} : f_G_setWall_1 (nI e) (nI 0) σ = some (z_u σ 1 7 (σ 1 7 &&& ((nI 1 <<< (nI e &&& nI 31)) ^^^ (-1 : Int32)))) := by
  unfold f_G_setWall_1
  simp only [z_join, z_let]
  exact if_pos rfl
theorem yy_hasEdge_17 (hD : hg_D W H R) (h : hg_G17 σ p W H R) (a : Int32) : f_G_hasEdge_17 a σ = some (nI (if 0 ≤ a.toInt ∧ g_ed W H a.toInt.toNat = true then 1 else 0)) := by
  obtain ⟨d1, d2, d3, d4, -⟩ := id hD
  obtain ⟨n1, n2⟩ := hg_D_N hD
  unfold f_G_hasEdge_17
  rw [nl1, show (31 : Int32) = nI 31 from rfl]
  by_cases h0 : a < 0
  · have h2 : a.toInt < 0 := Int32.lt_iff_toInt_lt.mp h0
    have h3 := hg_half h2
    rw [y_hasCell_17 hD h, z_bs, if_neg (show ¬ (0 ≤ a.toInt ∧ g_ed W H a.toInt.toNat = true) from fun q => by have := q.1; omega), if_pos]
    · rfl
    · rw [if_neg (by omega)]
      rfl
  · obtain ⟨n, hn, rfl⟩ := nI_of h0
    rw [hg_halfN hn, y_hasCelln_17 hD h (show n / 2 < 2 ^ 31 by omega), z_bs, nI_toInt hn, Int.toNat_natCast, z_one]
    simp only [g_ed_iff]
    by_cases c1 : n / 2 < W * H
    · rw [if_pos c1, if_neg (show ¬ nI 1 = 0 by decide)]
      by_cases c2 : n % 2 = 0
      · rw [if_pos (show nI (n % 2) = 0 by rw [c2]; rfl), y_hasEast_17 hD h (show n / 2 < 2 ^ 31 by omega), z_bs, nl0, if_pos (hg_b01 _)]
        by_cases c3 : n / 2 % W + 1 < W
        · rw [if_pos c3, if_pos (by omega)]
        · rw [if_neg c3, if_neg (by omega)]
      · rw [if_neg (show ¬ nI (n % 2) = 0 by rw [nl0, nI_eq (by omega) (by omega)]; exact c2), h.1, nI_add, y_hasCelln_17 hD h (show n / 2 + W < 2 ^ 31 by omega), z_bs, nl0, if_pos (hg_b01 _)]
        by_cases c3 : n / 2 + W < W * H
        · rw [if_pos c3, if_pos (by omega)]
        · rw [if_neg c3, if_neg (by omega)]
    · rw [if_neg c1, if_pos (show nI 0 = 0 from rfl), if_neg (by omega)]
      rfl
theorem yy_setWall1_17 {w e : Nat} (h : σ 17 7 = nI w) (he : e < 32) : f_G_setWall_17 (nI e) (nI 1) σ = some (z_u σ 17 7 (nI (w ||| 2 ^ e))) := by
  unfold f_G_setWall_17
  simp only [z_join, z_let]
  rw [if_neg (show ¬ nI 1 = 0 by decide), h, nl1, show (31 : Int32) = nI 31 from rfl, z_shl he, z_or]
theorem yy_setWall0_17 {e : Nat} : f_G_setWall_17 (nI e) (nI 0) σ = some (z_u σ 17 7 (σ 17 7 &&& ((nI 1 <<< (nI e &&& nI 31)) ^^^ (-1 : Int32)))) := by
  unfold f_G_setWall_17
  simp only [z_join, z_let]
  exact if_pos rfl
end M31
theorem g_fa_x {p : Nat → Nat} {c : Nat} {b : Int32} (hb : ¬ (0 ≤ b.toInt ∧ b.toInt ≤ 4)) : g_fa p c b = -1 := by
  have f : ∀ n : Nat, n ≤ 4 → ¬ b = nI n := by
    intro n hn h
    subst h
    rw [nI_toInt (by omega)] at hb
    omega
  unfold g_fa
  rw [nl0, nl1, nl2, nl3, nl4, if_neg (f 0 (by omega)), if_neg (f 1 (by omega)), if_neg (f 2 (by omega)), if_neg (f 3 (by omega)), if_neg (f 4 (by omega))]
