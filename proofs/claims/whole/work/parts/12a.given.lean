/-! from the law's entry: what the Statement gives of the start, in the abstract machine's words -/
def z_nf : List Cond := flatC (Jvm.Cond.and given_1 narrow_1)
def z_tS (i : Nat) : Term := .static (z_sn.getD i ("", "")).1 (z_sn.getD i ("", "")).2 "[I"
def z_tK (i : Nat) : Term := .string "SeasonYard$TextReader" (z_sr.getD i (0, 0, 0, 0)).2.1
theorem z_nf_S : ∀ i, i < 4 → (Cond.arrayOf (z_tS i) .int ∈ z_nf ∧ Cond.eq (.length (z_tS i)) (.int (Int32.ofNat (z_sv.getD i []).length)) ∈ z_nf) ∧ ∀ j, j < (z_sv.getD i []).length → Cond.eq (.elem (z_tS i) (.int (Int32.ofNat j))) (.int ((z_sv.getD i []).getD j 0)) ∈ z_nf := by decide +kernel
theorem z_nf_SL : ∀ i, i < 4 → (z_sv.getD i []).length < 2 ^ 31 := by decide +kernel
theorem z_nf_K : ∀ i, i < 13 → (Cond.exactly (z_tK i) "java/lang/String" ∈ z_nf ∧ Cond.eq (.field (z_tK i) "java/lang/String" "coder" "B") (.int 0) ∈ z_nf ∧ Cond.arrayOf (.field (z_tK i) "java/lang/String" "value" "[B") .byte ∈ z_nf ∧ Cond.eq (.length (.field (z_tK i) "java/lang/String" "value" "[B")) (.int (Int32.ofNat (z_tl.getD i 0))) ∈ z_nf) := by decide +kernel
theorem z_nf_KE : ∀ i, i < 13 → ∀ j, j < z_tl.getD i 0 → Cond.eq (.elem (.field (z_tK i) "java/lang/String" "value" "[B") (.int (Int32.ofNat j))) (.int ((z_tb.getD i []).getD j 0)) ∈ z_nf := by decide +kernel
theorem z_nf_KL : ∀ i, i < 13 → z_tl.getD i 0 < 2 ^ 31 := by decide +kernel
theorem z_nf_C : Cond.eq (.static "java/lang/String" "COMPACT_STRINGS" "Z") (.int 1) ∈ z_nf ∧ Cond.isRef (.static "jdk/internal/util/Preconditions" "SIOOBE_FORMATTER" "Ljava/util/function/BiFunction;") ∈ z_nf := by decide +kernel
theorem z_lw_S : ∀ i, i < 4 → Cond.laysStatic (z_sn.getD i ("", "")).1 (z_sn.getD i ("", "")).2 "[I" ∈ lw_tbl ∧ Cond.initialized (z_sn.getD i ("", "")).1 ∈ lw_tbl := by decide +kernel
theorem z_lw_C : Cond.laysStatic "java/lang/String" "COMPACT_STRINGS" "Z" ∈ lw_tbl ∧ Cond.initialized "java/lang/String" ∈ lw_tbl ∧ Cond.laysStatic "jdk/internal/util/Preconditions" "SIOOBE_FORMATTER" "Ljava/util/function/BiFunction;" ∈ lw_tbl ∧ Cond.initialized "jdk/internal/util/Preconditions" ∈ lw_tbl := by decide +kernel
theorem z_lw_K : ∀ i, i < 13 → Cond.stringRef "SeasonYard$TextReader" (z_sr.getD i (0, 0, 0, 0)).2.1 (z_tx.getD i "") ∈ lw_tbl := by decide +kernel
theorem z_lw_N : ∀ q ∈ z_ml, (q.2.2.1 = 3 ∨ q.2.2.1 = 4) → Cond.methodLinkNest (z_cn q.1) q.2.1 (z_my q.2.2.2.1) "SeasonYard" ∈ lw_tbl := by
  intro q hq hk
  have hw := z_ml_ok q hq
  rw [if_neg (by omega), if_neg (by omega), if_neg (by omega), if_neg (by omega)] at hw
  have h2 := hw.2.2.2.2.2
  rw [if_pos hk] at h2
  exact List.mem_of_getElem? h2
def z_kn : List (Nat × Nat × Nat) := [(0, 1, 129), (0, 2, 137), (1, 2, 138), (0, 3, 146), (1, 3, 147), (2, 3, 148), (0, 4, 157), (1, 4, 158), (2, 4, 159), (3, 4, 160), (0, 5, 169), (1, 5, 170), (2, 5, 171), (3, 5, 172), (4, 5, 173), (0, 6, 183), (1, 6, 184), (2, 6, 185), (3, 6, 186), (4, 6, 187), (5, 6, 188), (0, 7, 198), (1, 7, 199), (2, 7, 200), (3, 7, 201), (4, 7, 202), (5, 7, 203), (6, 7, 204), (0, 8, 214), (1, 8, 215), (2, 8, 216), (3, 8, 217), (4, 8, 218), (5, 8, 219), (6, 8, 220), (7, 8, 221), (0, 9, 229), (1, 9, 230), (2, 9, 231), (3, 9, 232), (4, 9, 233), (5, 9, 234), (6, 9, 235), (7, 9, 236), (8, 9, 237), (0, 10, 246), (1, 10, 247), (2, 10, 248), (3, 10, 249), (4, 10, 250), (5, 10, 251), (6, 10, 252), (7, 10, 253), (8, 10, 254), (9, 10, 255), (0, 11, 264), (1, 11, 265), (2, 11, 266), (3, 11, 267), (4, 11, 268), (5, 11, 269), (6, 11, 270), (7, 11, 271), (8, 11, 272), (9, 11, 273), (10, 11, 274), (0, 12, 283), (1, 12, 284), (2, 12, 285), (3, 12, 286), (4, 12, 287), (5, 12, 288), (6, 12, 289), (7, 12, 290), (8, 12, 291), (9, 12, 292), (10, 12, 293), (11, 12, 294)]
theorem z_kn_ok : ∀ q ∈ z_kn, z_nf[q.2.2]? = some (Cond.not (Cond.eq (z_tK q.1) (z_tK q.2.1))) := by decide +kernel
theorem z_kn_all : ∀ i, i < 13 → ∀ j, j < 13 → i = j ∨ (z_kn.any (fun q => q.1 == i && q.2.1 == j) = true ∨ z_kn.any (fun q => q.1 == j && q.2.1 == i) = true) := by decide +kernel
theorem z_nf_KN : ∀ i, i < 13 → ∀ j, j < 13 → i = j ∨ (Cond.not (Cond.eq (z_tK i) (z_tK j)) ∈ z_nf ∨ Cond.not (Cond.eq (z_tK j) (z_tK i)) ∈ z_nf) := by
  intro i hi j hj
  rcases z_kn_all i hi j hj with h | h | h
  · exact Or.inl h
  · obtain ⟨q, hq, hq2⟩ := z_any h
    simp only [Bool.and_eq_true, beq_iff_eq] at hq2
    have h2 := z_kn_ok q hq
    rw [hq2.1, hq2.2] at h2
    exact Or.inr (Or.inl (List.mem_of_getElem? h2))
  · obtain ⟨q, hq, hq2⟩ := z_any h
    simp only [Bool.and_eq_true, beq_iff_eq] at hq2
    have h2 := z_kn_ok q hq
    rw [hq2.1, hq2.2] at h2
    exact Or.inr (Or.inr (List.mem_of_getElem? h2))
