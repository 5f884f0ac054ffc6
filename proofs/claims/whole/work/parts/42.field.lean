/-! the text: fields -/
theorem z_join_e {T γ : Type} (rest : T → Option γ) (body : (T → Option γ) → Option γ) : z_join rest body = body rest := rfl
/-- what is wrong with a number field: 0 nothing -/
def tx_q (k lo hi s v : Nat) : Nat := if k = 4 then 1 else if ¬ k = 2 then 2 else if ¬ (lo ≤ v ∧ v ≤ hi) then 3 else if v < 32 ∧ s.testBit v = true then 4 else 0
theorem tx_q_le (k lo hi s v : Nat) : tx_q k lo hi s v ≤ 4 := by
  unfold tx_q
  repeat' split
  all_goals omega
theorem ty_told {x : zS} {l s v : Nat} (hl : l < 8) (h : x 38 l = nI s) (hs : s < 2 ^ 32) (hv : v < 32) : f_Tr_isTold_37 (nI l) (nI v) x = some (nI (if s.testBit v = true then 1 else 0)) := by
  unfold f_Tr_isTold_37
  rw [show (0 : Int32) = nI 0 from rfl, show (7 : Int32) = nI 7 from rfl, ty_isIn (by omega) (by omega) (by omega), if_pos (show 0 ≤ l ∧ l ≤ 7 by omega), z_bs, if_neg (show ¬ nI 1 = nI 0 by decide), if_pos ((z_ibn (by omega)).mpr hl), nI_clamp (by omega), h, nl1, z_ubit hs hv]
  by_cases c : s.testBit v = true
  · rw [if_pos c, if_neg (show ¬ nI 1 = nI 0 by decide)]
  · rw [if_neg c, if_pos rfl]
theorem ty_fail {x : zS} {a f : Int32} : f_Tr_fail_37 a f x = some (z_u (z_u x 37 6 a) 37 7 f) := rfl
theorem ty_fault_0_0 {x : zS} {k v : Nat} {a3 : Int32} (h1 : x 40 1 = nI k) (hk : k ≤ 4) (hv : k = 2 → v ≤ 99) (h3 : a3 = if k = 2 then nI v else -4) : f_Tr_fieldFault_37 (nI 0) (nI 0) a3 x = some (nI (tx_q k 2 4 0 v)) := by
  unfold f_Tr_fieldFault_37 tx_q
  rw [h1]
  by_cases c4 : k = 4
  · rw [if_pos (show nI k = (4 : Int32) by rw [c4]; rfl), if_pos c4]
    rfl
  · rw [show (4 : Int32) = nI 4 from rfl, if_neg (show ¬ nI k = nI 4 by rw [nI_eq (by omega) (by omega)]; exact c4), if_neg c4]
    by_cases c2 : k = 2
    · have hv2 := hv c2
      rw [if_pos c2] at h3
      subst h3
      rw [if_neg (z_neg (by omega) (by omega) v (by omega)), show f_Y_isIn ((3 : Int32) * nI 0 + nI 0) (0 : Int32) ((24 : Int32) - (1 : Int32)) x = some (nI 1) from by rw [y_isIn]; rfl, z_bs, if_neg (show ¬ nI 1 = 0 by decide), if_pos (show (3 : Int32) * nI 0 + nI 0 < 24 by decide), if_pos (show z_ib ((3 : Int32) * nI 0 + nI 0) 24 = true by decide), if_pos (show z_ib ((3 : Int32) * nI 0 + nI 0) 24 = true by decide), show (z_sv.getD 2 []).getD ((3 : Int32) * nI 0 + nI 0).toNatClampNeg 0 = nI 2 from rfl, show (z_sv.getD 3 []).getD ((3 : Int32) * nI 0 + nI 0).toNatClampNeg 0 = nI 4 from rfl, ty_isIn (by omega) (by omega) (by omega), z_bs, if_neg (show ¬ ¬ k = 2 from fun z => z c2)]
      by_cases c3 : 2 ≤ v ∧ v ≤ 4
      · rw [if_pos c3, if_neg (show ¬ nI 1 = 0 by decide), if_neg (show ¬ ¬ (2 ≤ v ∧ v ≤ 4) from fun z => z c3)]
        rw [hg_join_to (x := (0 : Int32)) (fun j => by rfl), hg_join_to (x := (0 : Int32)) (fun j => by rfl), z_join_e, z_join_e, if_pos rfl, if_pos rfl, if_neg (fun z => by have z2 := z.2; rw [Nat.zero_testBit] at z2; exact absurd z2 (by decide))]
        rfl
      · rw [if_neg c3, if_pos (show nI 0 = 0 from rfl), if_pos c3]
        rfl
    · rw [if_neg c2] at h3
      rw [if_pos (show a3 = - nI 4 from h3), if_pos c2]
      rfl
theorem ty_fault_0_1 {x : zS} {k v : Nat} {a3 : Int32} (h1 : x 40 1 = nI k) (hk : k ≤ 4) (hv : k = 2 → v ≤ 99) (h3 : a3 = if k = 2 then nI v else -4) : f_Tr_fieldFault_37 (nI 0) (nI 1) a3 x = some (nI (tx_q k 2 4 0 v)) := by
  unfold f_Tr_fieldFault_37 tx_q
  rw [h1]
  by_cases c4 : k = 4
  · rw [if_pos (show nI k = (4 : Int32) by rw [c4]; rfl), if_pos c4]
    rfl
  · rw [show (4 : Int32) = nI 4 from rfl, if_neg (show ¬ nI k = nI 4 by rw [nI_eq (by omega) (by omega)]; exact c4), if_neg c4]
    by_cases c2 : k = 2
    · have hv2 := hv c2
      rw [if_pos c2] at h3
      subst h3
      rw [if_neg (z_neg (by omega) (by omega) v (by omega)), show f_Y_isIn ((3 : Int32) * nI 0 + nI 1) (0 : Int32) ((24 : Int32) - (1 : Int32)) x = some (nI 1) from by rw [y_isIn]; rfl, z_bs, if_neg (show ¬ nI 1 = 0 by decide), if_pos (show (3 : Int32) * nI 0 + nI 1 < 24 by decide), if_pos (show z_ib ((3 : Int32) * nI 0 + nI 1) 24 = true by decide), if_pos (show z_ib ((3 : Int32) * nI 0 + nI 1) 24 = true by decide), show (z_sv.getD 2 []).getD ((3 : Int32) * nI 0 + nI 1).toNatClampNeg 0 = nI 2 from rfl, show (z_sv.getD 3 []).getD ((3 : Int32) * nI 0 + nI 1).toNatClampNeg 0 = nI 4 from rfl, ty_isIn (by omega) (by omega) (by omega), z_bs, if_neg (show ¬ ¬ k = 2 from fun z => z c2)]
      by_cases c3 : 2 ≤ v ∧ v ≤ 4
      · rw [if_pos c3, if_neg (show ¬ nI 1 = 0 by decide), if_neg (show ¬ ¬ (2 ≤ v ∧ v ≤ 4) from fun z => z c3)]
        rw [hg_join_to (x := (0 : Int32)) (fun j => by rfl), hg_join_to (x := (0 : Int32)) (fun j => by rfl), z_join_e, z_join_e, if_pos rfl, if_pos rfl, if_neg (fun z => by have z2 := z.2; rw [Nat.zero_testBit] at z2; exact absurd z2 (by decide))]
        rfl
      · rw [if_neg c3, if_pos (show nI 0 = 0 from rfl), if_pos c3]
        rfl
    · rw [if_neg c2] at h3
      rw [if_pos (show a3 = - nI 4 from h3), if_pos c2]
      rfl
theorem ty_fault_1_0 {x : zS} {k v : Nat} {a3 : Int32} (h1 : x 40 1 = nI k) (hk : k ≤ 4) (hv : k = 2 → v ≤ 99) {s : Nat} (hs : x 38 1 = nI s) (hs2 : s < 2 ^ 32) (h3 : a3 = if k = 2 then nI v else -4) : f_Tr_fieldFault_37 (nI 1) (nI 0) a3 x = some (nI (tx_q k 0 15 s v)) := by
  unfold f_Tr_fieldFault_37 tx_q
  rw [h1]
  by_cases c4 : k = 4
  · rw [if_pos (show nI k = (4 : Int32) by rw [c4]; rfl), if_pos c4]
    rfl
  · rw [show (4 : Int32) = nI 4 from rfl, if_neg (show ¬ nI k = nI 4 by rw [nI_eq (by omega) (by omega)]; exact c4), if_neg c4]
    by_cases c2 : k = 2
    · have hv2 := hv c2
      rw [if_pos c2] at h3
      subst h3
      rw [if_neg (z_neg (by omega) (by omega) v (by omega)), show f_Y_isIn ((3 : Int32) * nI 1 + nI 0) (0 : Int32) ((24 : Int32) - (1 : Int32)) x = some (nI 1) from by rw [y_isIn]; rfl, z_bs, if_neg (show ¬ nI 1 = 0 by decide), if_pos (show (3 : Int32) * nI 1 + nI 0 < 24 by decide), if_pos (show z_ib ((3 : Int32) * nI 1 + nI 0) 24 = true by decide), if_pos (show z_ib ((3 : Int32) * nI 1 + nI 0) 24 = true by decide), show (z_sv.getD 2 []).getD ((3 : Int32) * nI 1 + nI 0).toNatClampNeg 0 = nI 0 from rfl, show (z_sv.getD 3 []).getD ((3 : Int32) * nI 1 + nI 0).toNatClampNeg 0 = nI 15 from rfl, ty_isIn (by omega) (by omega) (by omega), z_bs, if_neg (show ¬ ¬ k = 2 from fun z => z c2)]
      by_cases c3 : 0 ≤ v ∧ v ≤ 15
      · rw [if_pos c3, if_neg (show ¬ nI 1 = 0 by decide), if_neg (show ¬ ¬ (0 ≤ v ∧ v ≤ 15) from fun z => z c3)]
        rw [hg_join_to (x := (1 : Int32)) (fun j => by rfl), hg_join_to (x := (0 : Int32)) (fun j => by rfl), z_join_e, z_join_e, if_neg (show ¬ (1 : Int32) = 0 by decide), ty_told (by omega) hs hs2 (by omega), z_bs]
        by_cases ct : s.testBit v = true
        · rw [if_pos ct, if_neg (show ¬ nI 1 = 0 by decide), if_pos ⟨by omega, ct⟩]
        · rw [if_neg ct, if_pos (show nI 0 = 0 from rfl), if_pos rfl, if_neg (fun z => ct z.2)]
          rfl
      · rw [if_neg c3, if_pos (show nI 0 = 0 from rfl), if_pos c3]
        rfl
    · rw [if_neg c2] at h3
      rw [if_pos (show a3 = - nI 4 from h3), if_pos c2]
      rfl
theorem ty_fault_1_1 {x : zS} {k v : Nat} {a3 : Int32} (h1 : x 40 1 = nI k) (hk : k ≤ 4) (hv : k = 2 → v ≤ 99) (h3 : a3 = if k = 2 then nI v else -4) : f_Tr_fieldFault_37 (nI 1) (nI 1) a3 x = some (nI (tx_q k 0 3 0 v)) := by
  unfold f_Tr_fieldFault_37 tx_q
  rw [h1]
  by_cases c4 : k = 4
  · rw [if_pos (show nI k = (4 : Int32) by rw [c4]; rfl), if_pos c4]
    rfl
  · rw [show (4 : Int32) = nI 4 from rfl, if_neg (show ¬ nI k = nI 4 by rw [nI_eq (by omega) (by omega)]; exact c4), if_neg c4]
    by_cases c2 : k = 2
    · have hv2 := hv c2
      rw [if_pos c2] at h3
      subst h3
      rw [if_neg (z_neg (by omega) (by omega) v (by omega)), show f_Y_isIn ((3 : Int32) * nI 1 + nI 1) (0 : Int32) ((24 : Int32) - (1 : Int32)) x = some (nI 1) from by rw [y_isIn]; rfl, z_bs, if_neg (show ¬ nI 1 = 0 by decide), if_pos (show (3 : Int32) * nI 1 + nI 1 < 24 by decide), if_pos (show z_ib ((3 : Int32) * nI 1 + nI 1) 24 = true by decide), if_pos (show z_ib ((3 : Int32) * nI 1 + nI 1) 24 = true by decide), show (z_sv.getD 2 []).getD ((3 : Int32) * nI 1 + nI 1).toNatClampNeg 0 = nI 0 from rfl, show (z_sv.getD 3 []).getD ((3 : Int32) * nI 1 + nI 1).toNatClampNeg 0 = nI 3 from rfl, ty_isIn (by omega) (by omega) (by omega), z_bs, if_neg (show ¬ ¬ k = 2 from fun z => z c2)]
      by_cases c3 : 0 ≤ v ∧ v ≤ 3
      · rw [if_pos c3, if_neg (show ¬ nI 1 = 0 by decide), if_neg (show ¬ ¬ (0 ≤ v ∧ v ≤ 3) from fun z => z c3)]
        rw [hg_join_to (x := (0 : Int32)) (fun j => by rfl), hg_join_to (x := (0 : Int32)) (fun j => by rfl), z_join_e, z_join_e, if_pos rfl, if_pos rfl, if_neg (fun z => by have z2 := z.2; rw [Nat.zero_testBit] at z2; exact absurd z2 (by decide))]
        rfl
      · rw [if_neg c3, if_pos (show nI 0 = 0 from rfl), if_pos c3]
        rfl
    · rw [if_neg c2] at h3
      rw [if_pos (show a3 = - nI 4 from h3), if_pos c2]
      rfl
theorem ty_fault_1_2 {x : zS} {k v : Nat} {a3 : Int32} (h1 : x 40 1 = nI k) (hk : k ≤ 4) (hv : k = 2 → v ≤ 99) (h3 : a3 = if k = 2 then nI v else -4) : f_Tr_fieldFault_37 (nI 1) (nI 2) a3 x = some (nI (tx_q k 1 9 0 v)) := by
  unfold f_Tr_fieldFault_37 tx_q
  rw [h1]
  by_cases c4 : k = 4
  · rw [if_pos (show nI k = (4 : Int32) by rw [c4]; rfl), if_pos c4]
    rfl
  · rw [show (4 : Int32) = nI 4 from rfl, if_neg (show ¬ nI k = nI 4 by rw [nI_eq (by omega) (by omega)]; exact c4), if_neg c4]
    by_cases c2 : k = 2
    · have hv2 := hv c2
      rw [if_pos c2] at h3
      subst h3
      rw [if_neg (z_neg (by omega) (by omega) v (by omega)), show f_Y_isIn ((3 : Int32) * nI 1 + nI 2) (0 : Int32) ((24 : Int32) - (1 : Int32)) x = some (nI 1) from by rw [y_isIn]; rfl, z_bs, if_neg (show ¬ nI 1 = 0 by decide), if_pos (show (3 : Int32) * nI 1 + nI 2 < 24 by decide), if_pos (show z_ib ((3 : Int32) * nI 1 + nI 2) 24 = true by decide), if_pos (show z_ib ((3 : Int32) * nI 1 + nI 2) 24 = true by decide), show (z_sv.getD 2 []).getD ((3 : Int32) * nI 1 + nI 2).toNatClampNeg 0 = nI 1 from rfl, show (z_sv.getD 3 []).getD ((3 : Int32) * nI 1 + nI 2).toNatClampNeg 0 = nI 9 from rfl, ty_isIn (by omega) (by omega) (by omega), z_bs, if_neg (show ¬ ¬ k = 2 from fun z => z c2)]
      by_cases c3 : 1 ≤ v ∧ v ≤ 9
      · rw [if_pos c3, if_neg (show ¬ nI 1 = 0 by decide), if_neg (show ¬ ¬ (1 ≤ v ∧ v ≤ 9) from fun z => z c3)]
        rw [hg_join_to (x := (0 : Int32)) (fun j => by rfl), hg_join_to (x := (0 : Int32)) (fun j => by rfl), z_join_e, z_join_e, if_pos rfl, if_pos rfl, if_neg (fun z => by have z2 := z.2; rw [Nat.zero_testBit] at z2; exact absurd z2 (by decide))]
        rfl
      · rw [if_neg c3, if_pos (show nI 0 = 0 from rfl), if_pos c3]
        rfl
    · rw [if_neg c2] at h3
      rw [if_pos (show a3 = - nI 4 from h3), if_pos c2]
      rfl
theorem ty_fault_2_0 {x : zS} {k v : Nat} {a3 : Int32} (h1 : x 40 1 = nI k) (hk : k ≤ 4) (hv : k = 2 → v ≤ 99) {s : Nat} (hs : x 38 2 = nI s) (hs2 : s < 2 ^ 32) (h3 : a3 = if k = 2 then nI v else -4) : f_Tr_fieldFault_37 (nI 2) (nI 0) a3 x = some (nI (tx_q k 0 15 s v)) := by
  unfold f_Tr_fieldFault_37 tx_q
  rw [h1]
  by_cases c4 : k = 4
  · rw [if_pos (show nI k = (4 : Int32) by rw [c4]; rfl), if_pos c4]
    rfl
  · rw [show (4 : Int32) = nI 4 from rfl, if_neg (show ¬ nI k = nI 4 by rw [nI_eq (by omega) (by omega)]; exact c4), if_neg c4]
    by_cases c2 : k = 2
    · have hv2 := hv c2
      rw [if_pos c2] at h3
      subst h3
      rw [if_neg (z_neg (by omega) (by omega) v (by omega)), show f_Y_isIn ((3 : Int32) * nI 2 + nI 0) (0 : Int32) ((24 : Int32) - (1 : Int32)) x = some (nI 1) from by rw [y_isIn]; rfl, z_bs, if_neg (show ¬ nI 1 = 0 by decide), if_pos (show (3 : Int32) * nI 2 + nI 0 < 24 by decide), if_pos (show z_ib ((3 : Int32) * nI 2 + nI 0) 24 = true by decide), if_pos (show z_ib ((3 : Int32) * nI 2 + nI 0) 24 = true by decide), show (z_sv.getD 2 []).getD ((3 : Int32) * nI 2 + nI 0).toNatClampNeg 0 = nI 0 from rfl, show (z_sv.getD 3 []).getD ((3 : Int32) * nI 2 + nI 0).toNatClampNeg 0 = nI 15 from rfl, ty_isIn (by omega) (by omega) (by omega), z_bs, if_neg (show ¬ ¬ k = 2 from fun z => z c2)]
      by_cases c3 : 0 ≤ v ∧ v ≤ 15
      · rw [if_pos c3, if_neg (show ¬ nI 1 = 0 by decide), if_neg (show ¬ ¬ (0 ≤ v ∧ v ≤ 15) from fun z => z c3)]
        rw [hg_join_to (x := (1 : Int32)) (fun j => by rfl), hg_join_to (x := (0 : Int32)) (fun j => by rfl), z_join_e, z_join_e, if_neg (show ¬ (1 : Int32) = 0 by decide), ty_told (by omega) hs hs2 (by omega), z_bs]
        by_cases ct : s.testBit v = true
        · rw [if_pos ct, if_neg (show ¬ nI 1 = 0 by decide), if_pos ⟨by omega, ct⟩]
        · rw [if_neg ct, if_pos (show nI 0 = 0 from rfl), if_pos rfl, if_neg (fun z => ct z.2)]
          rfl
      · rw [if_neg c3, if_pos (show nI 0 = 0 from rfl), if_pos c3]
        rfl
    · rw [if_neg c2] at h3
      rw [if_pos (show a3 = - nI 4 from h3), if_pos c2]
      rfl
theorem ty_fault_3_0 {x : zS} {k v : Nat} {a3 : Int32} (h1 : x 40 1 = nI k) (hk : k ≤ 4) (hv : k = 2 → v ≤ 99) {s : Nat} (hs : x 38 3 = nI s) (hs2 : s < 2 ^ 32) (h3 : a3 = if k = 2 then nI v else -4) : f_Tr_fieldFault_37 (nI 3) (nI 0) a3 x = some (nI (tx_q k 0 15 s v)) := by
  unfold f_Tr_fieldFault_37 tx_q
  rw [h1]
  by_cases c4 : k = 4
  · rw [if_pos (show nI k = (4 : Int32) by rw [c4]; rfl), if_pos c4]
    rfl
  · rw [show (4 : Int32) = nI 4 from rfl, if_neg (show ¬ nI k = nI 4 by rw [nI_eq (by omega) (by omega)]; exact c4), if_neg c4]
    by_cases c2 : k = 2
    · have hv2 := hv c2
      rw [if_pos c2] at h3
      subst h3
      rw [if_neg (z_neg (by omega) (by omega) v (by omega)), show f_Y_isIn ((3 : Int32) * nI 3 + nI 0) (0 : Int32) ((24 : Int32) - (1 : Int32)) x = some (nI 1) from by rw [y_isIn]; rfl, z_bs, if_neg (show ¬ nI 1 = 0 by decide), if_pos (show (3 : Int32) * nI 3 + nI 0 < 24 by decide), if_pos (show z_ib ((3 : Int32) * nI 3 + nI 0) 24 = true by decide), if_pos (show z_ib ((3 : Int32) * nI 3 + nI 0) 24 = true by decide), show (z_sv.getD 2 []).getD ((3 : Int32) * nI 3 + nI 0).toNatClampNeg 0 = nI 0 from rfl, show (z_sv.getD 3 []).getD ((3 : Int32) * nI 3 + nI 0).toNatClampNeg 0 = nI 15 from rfl, ty_isIn (by omega) (by omega) (by omega), z_bs, if_neg (show ¬ ¬ k = 2 from fun z => z c2)]
      by_cases c3 : 0 ≤ v ∧ v ≤ 15
      · rw [if_pos c3, if_neg (show ¬ nI 1 = 0 by decide), if_neg (show ¬ ¬ (0 ≤ v ∧ v ≤ 15) from fun z => z c3)]
        rw [hg_join_to (x := (1 : Int32)) (fun j => by rfl), hg_join_to (x := (0 : Int32)) (fun j => by rfl), z_join_e, z_join_e, if_neg (show ¬ (1 : Int32) = 0 by decide), ty_told (by omega) hs hs2 (by omega), z_bs]
        by_cases ct : s.testBit v = true
        · rw [if_pos ct, if_neg (show ¬ nI 1 = 0 by decide), if_pos ⟨by omega, ct⟩]
        · rw [if_neg ct, if_pos (show nI 0 = 0 from rfl), if_pos rfl, if_neg (fun z => ct z.2)]
          rfl
      · rw [if_neg c3, if_pos (show nI 0 = 0 from rfl), if_pos c3]
        rfl
    · rw [if_neg c2] at h3
      rw [if_pos (show a3 = - nI 4 from h3), if_pos c2]
      rfl
theorem ty_fault_3_1 {x : zS} {k v : Nat} {a3 : Int32} (h1 : x 40 1 = nI k) (hk : k ≤ 4) (hv : k = 2 → v ≤ 99) (h3 : a3 = if k = 2 then nI v else -4) : f_Tr_fieldFault_37 (nI 3) (nI 1) a3 x = some (nI (tx_q k 0 2 0 v)) := by
  unfold f_Tr_fieldFault_37 tx_q
  rw [h1]
  by_cases c4 : k = 4
  · rw [if_pos (show nI k = (4 : Int32) by rw [c4]; rfl), if_pos c4]
    rfl
  · rw [show (4 : Int32) = nI 4 from rfl, if_neg (show ¬ nI k = nI 4 by rw [nI_eq (by omega) (by omega)]; exact c4), if_neg c4]
    by_cases c2 : k = 2
    · have hv2 := hv c2
      rw [if_pos c2] at h3
      subst h3
      rw [if_neg (z_neg (by omega) (by omega) v (by omega)), show f_Y_isIn ((3 : Int32) * nI 3 + nI 1) (0 : Int32) ((24 : Int32) - (1 : Int32)) x = some (nI 1) from by rw [y_isIn]; rfl, z_bs, if_neg (show ¬ nI 1 = 0 by decide), if_pos (show (3 : Int32) * nI 3 + nI 1 < 24 by decide), if_pos (show z_ib ((3 : Int32) * nI 3 + nI 1) 24 = true by decide), if_pos (show z_ib ((3 : Int32) * nI 3 + nI 1) 24 = true by decide), show (z_sv.getD 2 []).getD ((3 : Int32) * nI 3 + nI 1).toNatClampNeg 0 = nI 0 from rfl, show (z_sv.getD 3 []).getD ((3 : Int32) * nI 3 + nI 1).toNatClampNeg 0 = nI 2 from rfl, ty_isIn (by omega) (by omega) (by omega), z_bs, if_neg (show ¬ ¬ k = 2 from fun z => z c2)]
      by_cases c3 : 0 ≤ v ∧ v ≤ 2
      · rw [if_pos c3, if_neg (show ¬ nI 1 = 0 by decide), if_neg (show ¬ ¬ (0 ≤ v ∧ v ≤ 2) from fun z => z c3)]
        rw [hg_join_to (x := (0 : Int32)) (fun j => by rfl), hg_join_to (x := (0 : Int32)) (fun j => by rfl), z_join_e, z_join_e, if_pos rfl, if_pos rfl, if_neg (fun z => by have z2 := z.2; rw [Nat.zero_testBit] at z2; exact absurd z2 (by decide))]
        rfl
      · rw [if_neg c3, if_pos (show nI 0 = 0 from rfl), if_pos c3]
        rfl
    · rw [if_neg c2] at h3
      rw [if_pos (show a3 = - nI 4 from h3), if_pos c2]
      rfl
theorem ty_fault_4_0 {x : zS} {k v : Nat} {a3 : Int32} (h1 : x 40 1 = nI k) (hk : k ≤ 4) (hv : k = 2 → v ≤ 99) {s : Nat} (hs : x 38 4 = nI s) (hs2 : s < 2 ^ 32) (h3 : a3 = if k = 2 then nI v else -4) : f_Tr_fieldFault_37 (nI 4) (nI 0) a3 x = some (nI (tx_q k 0 31 s v)) := by
  unfold f_Tr_fieldFault_37 tx_q
  rw [h1]
  by_cases c4 : k = 4
  · rw [if_pos (show nI k = (4 : Int32) by rw [c4]; rfl), if_pos c4]
    rfl
  · rw [show (4 : Int32) = nI 4 from rfl, if_neg (show ¬ nI k = nI 4 by rw [nI_eq (by omega) (by omega)]; exact c4), if_neg c4]
    by_cases c2 : k = 2
    · have hv2 := hv c2
      rw [if_pos c2] at h3
      subst h3
      rw [if_neg (z_neg (by omega) (by omega) v (by omega)), show f_Y_isIn ((3 : Int32) * nI 4 + nI 0) (0 : Int32) ((24 : Int32) - (1 : Int32)) x = some (nI 1) from by rw [y_isIn]; rfl, z_bs, if_neg (show ¬ nI 1 = 0 by decide), if_pos (show (3 : Int32) * nI 4 + nI 0 < 24 by decide), if_pos (show z_ib ((3 : Int32) * nI 4 + nI 0) 24 = true by decide), if_pos (show z_ib ((3 : Int32) * nI 4 + nI 0) 24 = true by decide), show (z_sv.getD 2 []).getD ((3 : Int32) * nI 4 + nI 0).toNatClampNeg 0 = nI 0 from rfl, show (z_sv.getD 3 []).getD ((3 : Int32) * nI 4 + nI 0).toNatClampNeg 0 = nI 31 from rfl, ty_isIn (by omega) (by omega) (by omega), z_bs, if_neg (show ¬ ¬ k = 2 from fun z => z c2)]
      by_cases c3 : 0 ≤ v ∧ v ≤ 31
      · rw [if_pos c3, if_neg (show ¬ nI 1 = 0 by decide), if_neg (show ¬ ¬ (0 ≤ v ∧ v ≤ 31) from fun z => z c3)]
        rw [hg_join_to (x := (1 : Int32)) (fun j => by rfl), hg_join_to (x := (0 : Int32)) (fun j => by rfl), z_join_e, z_join_e, if_neg (show ¬ (1 : Int32) = 0 by decide), ty_told (by omega) hs hs2 (by omega), z_bs]
        by_cases ct : s.testBit v = true
        · rw [if_pos ct, if_neg (show ¬ nI 1 = 0 by decide), if_pos ⟨by omega, ct⟩]
        · rw [if_neg ct, if_pos (show nI 0 = 0 from rfl), if_pos rfl, if_neg (fun z => ct z.2)]
          rfl
      · rw [if_neg c3, if_pos (show nI 0 = 0 from rfl), if_pos c3]
        rfl
    · rw [if_neg c2] at h3
      rw [if_pos (show a3 = - nI 4 from h3), if_pos c2]
      rfl
theorem ty_fault_5_0 {x : zS} {k v : Nat} {a3 : Int32} (h1 : x 40 1 = nI k) (hk : k ≤ 4) (hv : k = 2 → v ≤ 99) (h3 : a3 = if k = 2 then nI v else -4) : f_Tr_fieldFault_37 (nI 5) (nI 0) a3 x = some (nI (tx_q k 0 3 0 v)) := by
  unfold f_Tr_fieldFault_37 tx_q
  rw [h1]
  by_cases c4 : k = 4
  · rw [if_pos (show nI k = (4 : Int32) by rw [c4]; rfl), if_pos c4]
    rfl
  · rw [show (4 : Int32) = nI 4 from rfl, if_neg (show ¬ nI k = nI 4 by rw [nI_eq (by omega) (by omega)]; exact c4), if_neg c4]
    by_cases c2 : k = 2
    · have hv2 := hv c2
      rw [if_pos c2] at h3
      subst h3
      rw [if_neg (z_neg (by omega) (by omega) v (by omega)), show f_Y_isIn ((3 : Int32) * nI 5 + nI 0) (0 : Int32) ((24 : Int32) - (1 : Int32)) x = some (nI 1) from by rw [y_isIn]; rfl, z_bs, if_neg (show ¬ nI 1 = 0 by decide), if_pos (show (3 : Int32) * nI 5 + nI 0 < 24 by decide), if_pos (show z_ib ((3 : Int32) * nI 5 + nI 0) 24 = true by decide), if_pos (show z_ib ((3 : Int32) * nI 5 + nI 0) 24 = true by decide), show (z_sv.getD 2 []).getD ((3 : Int32) * nI 5 + nI 0).toNatClampNeg 0 = nI 0 from rfl, show (z_sv.getD 3 []).getD ((3 : Int32) * nI 5 + nI 0).toNatClampNeg 0 = nI 3 from rfl, ty_isIn (by omega) (by omega) (by omega), z_bs, if_neg (show ¬ ¬ k = 2 from fun z => z c2)]
      by_cases c3 : 0 ≤ v ∧ v ≤ 3
      · rw [if_pos c3, if_neg (show ¬ nI 1 = 0 by decide), if_neg (show ¬ ¬ (0 ≤ v ∧ v ≤ 3) from fun z => z c3)]
        rw [hg_join_to (x := (0 : Int32)) (fun j => by rfl), hg_join_to (x := (0 : Int32)) (fun j => by rfl), z_join_e, z_join_e, if_pos rfl, if_pos rfl, if_neg (fun z => by have z2 := z.2; rw [Nat.zero_testBit] at z2; exact absurd z2 (by decide))]
        rfl
      · rw [if_neg c3, if_pos (show nI 0 = 0 from rfl), if_pos c3]
        rfl
    · rw [if_neg c2] at h3
      rw [if_pos (show a3 = - nI 4 from h3), if_pos c2]
      rfl
theorem ty_fault_5_1 {x : zS} {k v : Nat} {a3 : Int32} (h1 : x 40 1 = nI k) (hk : k ≤ 4) (hv : k = 2 → v ≤ 99) {a : Nat} (hs : x 39 0 = nI a) (ha : a ≤ 3) (h3 : a3 = if k = 2 then nI v else -4) : f_Tr_fieldFault_37 (nI 5) (nI 1) a3 x = some (nI (tx_q k 0 4 (2 ^ a) v)) := by
  unfold f_Tr_fieldFault_37 tx_q
  rw [h1]
  by_cases c4 : k = 4
  · rw [if_pos (show nI k = (4 : Int32) by rw [c4]; rfl), if_pos c4]
    rfl
  · rw [show (4 : Int32) = nI 4 from rfl, if_neg (show ¬ nI k = nI 4 by rw [nI_eq (by omega) (by omega)]; exact c4), if_neg c4]
    by_cases c2 : k = 2
    · have hv2 := hv c2
      rw [if_pos c2] at h3
      subst h3
      rw [if_neg (z_neg (by omega) (by omega) v (by omega)), show f_Y_isIn ((3 : Int32) * nI 5 + nI 1) (0 : Int32) ((24 : Int32) - (1 : Int32)) x = some (nI 1) from by rw [y_isIn]; rfl, z_bs, if_neg (show ¬ nI 1 = 0 by decide), if_pos (show (3 : Int32) * nI 5 + nI 1 < 24 by decide), if_pos (show z_ib ((3 : Int32) * nI 5 + nI 1) 24 = true by decide), if_pos (show z_ib ((3 : Int32) * nI 5 + nI 1) 24 = true by decide), show (z_sv.getD 2 []).getD ((3 : Int32) * nI 5 + nI 1).toNatClampNeg 0 = nI 0 from rfl, show (z_sv.getD 3 []).getD ((3 : Int32) * nI 5 + nI 1).toNatClampNeg 0 = nI 4 from rfl, ty_isIn (by omega) (by omega) (by omega), z_bs, if_neg (show ¬ ¬ k = 2 from fun z => z c2)]
      by_cases c3 : 0 ≤ v ∧ v ≤ 4
      · rw [if_pos c3, if_neg (show ¬ nI 1 = 0 by decide), if_neg (show ¬ ¬ (0 ≤ v ∧ v ≤ 4) from fun z => z c3)]
        rw [hg_join_to (x := (0 : Int32)) (fun j => by rfl), show ((0 : Int32).toNatClampNeg) = 0 from rfl, hs]
        by_cases ct : v = a
        · rw [hg_join_to (x := (1 : Int32)) (fun j => by rw [z_join_e, if_pos (show nI 5 = (5 : Int32) from rfl), if_pos (show nI 1 = (1 : Int32) from rfl), if_pos (show nI v = nI a by rw [ct])]), z_join_e, z_join_e, if_pos rfl, if_neg (show ¬ (1 : Int32) = 0 by decide), if_pos ⟨by omega, by rw [ct, Nat.testBit_two_pow_self]⟩]
        · rw [hg_join_to (x := (0 : Int32)) (fun j => by rw [z_join_e, if_pos (show nI 5 = (5 : Int32) from rfl), if_pos (show nI 1 = (1 : Int32) from rfl), if_neg (show ¬ nI v = nI a by rw [nI_eq (by omega) (by omega)]; exact ct)]), z_join_e, z_join_e, if_pos rfl, if_pos rfl, if_neg (fun z => ct (by have z2 := z.2; rw [Nat.testBit_two_pow] at z2; have z3 := of_decide_eq_true z2; omega))]
          rfl
      · rw [if_neg c3, if_pos (show nI 0 = 0 from rfl), if_pos c3]
        rfl
    · rw [if_neg c2] at h3
      rw [if_pos (show a3 = - nI 4 from h3), if_pos c2]
      rfl
theorem ty_fault_5_2 {x : zS} {k v : Nat} {a3 : Int32} (h1 : x 40 1 = nI k) (hk : k ≤ 4) (hv : k = 2 → v ≤ 99) (h3 : a3 = if k = 2 then nI v else -4) : f_Tr_fieldFault_37 (nI 5) (nI 2) a3 x = some (nI (tx_q k 1 4 0 v)) := by
  unfold f_Tr_fieldFault_37 tx_q
  rw [h1]
  by_cases c4 : k = 4
  · rw [if_pos (show nI k = (4 : Int32) by rw [c4]; rfl), if_pos c4]
    rfl
  · rw [show (4 : Int32) = nI 4 from rfl, if_neg (show ¬ nI k = nI 4 by rw [nI_eq (by omega) (by omega)]; exact c4), if_neg c4]
    by_cases c2 : k = 2
    · have hv2 := hv c2
      rw [if_pos c2] at h3
      subst h3
      rw [if_neg (z_neg (by omega) (by omega) v (by omega)), show f_Y_isIn ((3 : Int32) * nI 5 + nI 2) (0 : Int32) ((24 : Int32) - (1 : Int32)) x = some (nI 1) from by rw [y_isIn]; rfl, z_bs, if_neg (show ¬ nI 1 = 0 by decide), if_pos (show (3 : Int32) * nI 5 + nI 2 < 24 by decide), if_pos (show z_ib ((3 : Int32) * nI 5 + nI 2) 24 = true by decide), if_pos (show z_ib ((3 : Int32) * nI 5 + nI 2) 24 = true by decide), show (z_sv.getD 2 []).getD ((3 : Int32) * nI 5 + nI 2).toNatClampNeg 0 = nI 1 from rfl, show (z_sv.getD 3 []).getD ((3 : Int32) * nI 5 + nI 2).toNatClampNeg 0 = nI 4 from rfl, ty_isIn (by omega) (by omega) (by omega), z_bs, if_neg (show ¬ ¬ k = 2 from fun z => z c2)]
      by_cases c3 : 1 ≤ v ∧ v ≤ 4
      · rw [if_pos c3, if_neg (show ¬ nI 1 = 0 by decide), if_neg (show ¬ ¬ (1 ≤ v ∧ v ≤ 4) from fun z => z c3)]
        rw [hg_join_to (x := (0 : Int32)) (fun j => by rfl), hg_join_to (x := (0 : Int32)) (fun j => by rfl), z_join_e, z_join_e, if_pos rfl, if_pos rfl, if_neg (fun z => by have z2 := z.2; rw [Nat.zero_testBit] at z2; exact absurd z2 (by decide))]
        rfl
      · rw [if_neg c3, if_pos (show nI 0 = 0 from rfl), if_pos c3]
        rfl
    · rw [if_neg c2] at h3
      rw [if_pos (show a3 = - nI 4 from h3), if_pos c2]
      rfl
theorem ty_fault_6_0 {x : zS} {k v : Nat} {a3 : Int32} (h1 : x 40 1 = nI k) (hk : k ≤ 4) (hv : k = 2 → v ≤ 99) {s : Nat} (hs : x 38 6 = nI s) (hs2 : s < 2 ^ 32) (h3 : a3 = if k = 2 then nI v else -4) : f_Tr_fieldFault_37 (nI 6) (nI 0) a3 x = some (nI (tx_q k 0 3 s v)) := by
  unfold f_Tr_fieldFault_37 tx_q
  rw [h1]
  by_cases c4 : k = 4
  · rw [if_pos (show nI k = (4 : Int32) by rw [c4]; rfl), if_pos c4]
    rfl
  · rw [show (4 : Int32) = nI 4 from rfl, if_neg (show ¬ nI k = nI 4 by rw [nI_eq (by omega) (by omega)]; exact c4), if_neg c4]
    by_cases c2 : k = 2
    · have hv2 := hv c2
      rw [if_pos c2] at h3
      subst h3
      rw [if_neg (z_neg (by omega) (by omega) v (by omega)), show f_Y_isIn ((3 : Int32) * nI 6 + nI 0) (0 : Int32) ((24 : Int32) - (1 : Int32)) x = some (nI 1) from by rw [y_isIn]; rfl, z_bs, if_neg (show ¬ nI 1 = 0 by decide), if_pos (show (3 : Int32) * nI 6 + nI 0 < 24 by decide), if_pos (show z_ib ((3 : Int32) * nI 6 + nI 0) 24 = true by decide), if_pos (show z_ib ((3 : Int32) * nI 6 + nI 0) 24 = true by decide), show (z_sv.getD 2 []).getD ((3 : Int32) * nI 6 + nI 0).toNatClampNeg 0 = nI 0 from rfl, show (z_sv.getD 3 []).getD ((3 : Int32) * nI 6 + nI 0).toNatClampNeg 0 = nI 3 from rfl, ty_isIn (by omega) (by omega) (by omega), z_bs, if_neg (show ¬ ¬ k = 2 from fun z => z c2)]
      by_cases c3 : 0 ≤ v ∧ v ≤ 3
      · rw [if_pos c3, if_neg (show ¬ nI 1 = 0 by decide), if_neg (show ¬ ¬ (0 ≤ v ∧ v ≤ 3) from fun z => z c3)]
        rw [hg_join_to (x := (1 : Int32)) (fun j => by rfl), hg_join_to (x := (0 : Int32)) (fun j => by rfl), z_join_e, z_join_e, if_neg (show ¬ (1 : Int32) = 0 by decide), ty_told (by omega) hs hs2 (by omega), z_bs]
        by_cases ct : s.testBit v = true
        · rw [if_pos ct, if_neg (show ¬ nI 1 = 0 by decide), if_pos ⟨by omega, ct⟩]
        · rw [if_neg ct, if_pos (show nI 0 = 0 from rfl), if_pos rfl, if_neg (fun z => ct z.2)]
          rfl
      · rw [if_neg c3, if_pos (show nI 0 = 0 from rfl), if_pos c3]
        rfl
    · rw [if_neg c2] at h3
      rw [if_pos (show a3 = - nI 4 from h3), if_pos c2]
      rfl
theorem ty_fault_6_1 {x : zS} {k v : Nat} {a3 : Int32} (h1 : x 40 1 = nI k) (hk : k ≤ 4) (hv : k = 2 → v ≤ 99) (h3 : a3 = if k = 2 then nI v else -4) : f_Tr_fieldFault_37 (nI 6) (nI 1) a3 x = some (nI (tx_q k 0 99 0 v)) := by
  unfold f_Tr_fieldFault_37 tx_q
  rw [h1]
  by_cases c4 : k = 4
  · rw [if_pos (show nI k = (4 : Int32) by rw [c4]; rfl), if_pos c4]
    rfl
  · rw [show (4 : Int32) = nI 4 from rfl, if_neg (show ¬ nI k = nI 4 by rw [nI_eq (by omega) (by omega)]; exact c4), if_neg c4]
    by_cases c2 : k = 2
    · have hv2 := hv c2
      rw [if_pos c2] at h3
      subst h3
      rw [if_neg (z_neg (by omega) (by omega) v (by omega)), show f_Y_isIn ((3 : Int32) * nI 6 + nI 1) (0 : Int32) ((24 : Int32) - (1 : Int32)) x = some (nI 1) from by rw [y_isIn]; rfl, z_bs, if_neg (show ¬ nI 1 = 0 by decide), if_pos (show (3 : Int32) * nI 6 + nI 1 < 24 by decide), if_pos (show z_ib ((3 : Int32) * nI 6 + nI 1) 24 = true by decide), if_pos (show z_ib ((3 : Int32) * nI 6 + nI 1) 24 = true by decide), show (z_sv.getD 2 []).getD ((3 : Int32) * nI 6 + nI 1).toNatClampNeg 0 = nI 0 from rfl, show (z_sv.getD 3 []).getD ((3 : Int32) * nI 6 + nI 1).toNatClampNeg 0 = nI 99 from rfl, ty_isIn (by omega) (by omega) (by omega), z_bs, if_neg (show ¬ ¬ k = 2 from fun z => z c2)]
      by_cases c3 : 0 ≤ v ∧ v ≤ 99
      · rw [if_pos c3, if_neg (show ¬ nI 1 = 0 by decide), if_neg (show ¬ ¬ (0 ≤ v ∧ v ≤ 99) from fun z => z c3)]
        rw [hg_join_to (x := (0 : Int32)) (fun j => by rfl), hg_join_to (x := (0 : Int32)) (fun j => by rfl), z_join_e, z_join_e, if_pos rfl, if_pos rfl, if_neg (fun z => by have z2 := z.2; rw [Nat.zero_testBit] at z2; exact absurd z2 (by decide))]
        rfl
      · rw [if_neg c3, if_pos (show nI 0 = 0 from rfl), if_pos c3]
        rfl
    · rw [if_neg c2] at h3
      rw [if_pos (show a3 = - nI 4 from h3), if_pos c2]
      rfl
theorem ty_fault_6_2 {x : zS} {k v : Nat} {a3 : Int32} (h1 : x 40 1 = nI k) (hk : k ≤ 4) (hv : k = 2 → v ≤ 99) (h3 : a3 = if k = 2 then nI v else -4) : f_Tr_fieldFault_37 (nI 6) (nI 2) a3 x = some (nI (tx_q k 1 9 0 v)) := by
  unfold f_Tr_fieldFault_37 tx_q
  rw [h1]
  by_cases c4 : k = 4
  · rw [if_pos (show nI k = (4 : Int32) by rw [c4]; rfl), if_pos c4]
    rfl
  · rw [show (4 : Int32) = nI 4 from rfl, if_neg (show ¬ nI k = nI 4 by rw [nI_eq (by omega) (by omega)]; exact c4), if_neg c4]
    by_cases c2 : k = 2
    · have hv2 := hv c2
      rw [if_pos c2] at h3
      subst h3
      rw [if_neg (z_neg (by omega) (by omega) v (by omega)), show f_Y_isIn ((3 : Int32) * nI 6 + nI 2) (0 : Int32) ((24 : Int32) - (1 : Int32)) x = some (nI 1) from by rw [y_isIn]; rfl, z_bs, if_neg (show ¬ nI 1 = 0 by decide), if_pos (show (3 : Int32) * nI 6 + nI 2 < 24 by decide), if_pos (show z_ib ((3 : Int32) * nI 6 + nI 2) 24 = true by decide), if_pos (show z_ib ((3 : Int32) * nI 6 + nI 2) 24 = true by decide), show (z_sv.getD 2 []).getD ((3 : Int32) * nI 6 + nI 2).toNatClampNeg 0 = nI 1 from rfl, show (z_sv.getD 3 []).getD ((3 : Int32) * nI 6 + nI 2).toNatClampNeg 0 = nI 9 from rfl, ty_isIn (by omega) (by omega) (by omega), z_bs, if_neg (show ¬ ¬ k = 2 from fun z => z c2)]
      by_cases c3 : 1 ≤ v ∧ v ≤ 9
      · rw [if_pos c3, if_neg (show ¬ nI 1 = 0 by decide), if_neg (show ¬ ¬ (1 ≤ v ∧ v ≤ 9) from fun z => z c3)]
        rw [hg_join_to (x := (0 : Int32)) (fun j => by rfl), hg_join_to (x := (0 : Int32)) (fun j => by rfl), z_join_e, z_join_e, if_pos rfl, if_pos rfl, if_neg (fun z => by have z2 := z.2; rw [Nat.zero_testBit] at z2; exact absurd z2 (by decide))]
        rfl
      · rw [if_neg c3, if_pos (show nI 0 = 0 from rfl), if_pos c3]
        rfl
    · rw [if_neg c2] at h3
      rw [if_pos (show a3 = - nI 4 from h3), if_pos c2]
      rfl
theorem ty_fault_7_0 {x : zS} {k v : Nat} {a3 : Int32} (h1 : x 40 1 = nI k) (hk : k ≤ 4) (hv : k = 2 → v ≤ 99) (h3 : a3 = if k = 2 then nI v else -4) : f_Tr_fieldFault_37 (nI 7) (nI 0) a3 x = some (nI (tx_q k 0 99 0 v)) := by
  unfold f_Tr_fieldFault_37 tx_q
  rw [h1]
  by_cases c4 : k = 4
  · rw [if_pos (show nI k = (4 : Int32) by rw [c4]; rfl), if_pos c4]
    rfl
  · rw [show (4 : Int32) = nI 4 from rfl, if_neg (show ¬ nI k = nI 4 by rw [nI_eq (by omega) (by omega)]; exact c4), if_neg c4]
    by_cases c2 : k = 2
    · have hv2 := hv c2
      rw [if_pos c2] at h3
      subst h3
      rw [if_neg (z_neg (by omega) (by omega) v (by omega)), show f_Y_isIn ((3 : Int32) * nI 7 + nI 0) (0 : Int32) ((24 : Int32) - (1 : Int32)) x = some (nI 1) from by rw [y_isIn]; rfl, z_bs, if_neg (show ¬ nI 1 = 0 by decide), if_pos (show (3 : Int32) * nI 7 + nI 0 < 24 by decide), if_pos (show z_ib ((3 : Int32) * nI 7 + nI 0) 24 = true by decide), if_pos (show z_ib ((3 : Int32) * nI 7 + nI 0) 24 = true by decide), show (z_sv.getD 2 []).getD ((3 : Int32) * nI 7 + nI 0).toNatClampNeg 0 = nI 0 from rfl, show (z_sv.getD 3 []).getD ((3 : Int32) * nI 7 + nI 0).toNatClampNeg 0 = nI 99 from rfl, ty_isIn (by omega) (by omega) (by omega), z_bs, if_neg (show ¬ ¬ k = 2 from fun z => z c2)]
      by_cases c3 : 0 ≤ v ∧ v ≤ 99
      · rw [if_pos c3, if_neg (show ¬ nI 1 = 0 by decide), if_neg (show ¬ ¬ (0 ≤ v ∧ v ≤ 99) from fun z => z c3)]
        rw [hg_join_to (x := (0 : Int32)) (fun j => by rfl), hg_join_to (x := (0 : Int32)) (fun j => by rfl), z_join_e, z_join_e, if_pos rfl, if_pos rfl, if_neg (fun z => by have z2 := z.2; rw [Nat.zero_testBit] at z2; exact absurd z2 (by decide))]
        rfl
      · rw [if_neg c3, if_pos (show nI 0 = 0 from rfl), if_pos c3]
        rfl
    · rw [if_neg c2] at h3
      rw [if_pos (show a3 = - nI 4 from h3), if_pos c2]
      rfl
/-- what a good field leaves, or what a bad one -/
def ty_ok (x x' : zS) (i v e : Nat) : Prop := x' 37 6 = nI 0 ∧ x' 39 i = nI v ∧ (∀ j, j ≠ i → x' 39 j = x 39 j) ∧ x' 40 4 = nI e
def ty_bk (x' : zS) (w f : Nat) : Prop := 1 ≤ w ∧ w ≤ 7 ∧ f ≤ 160 ∧ x' 37 6 = nI w ∧ x' 37 7 = nI f
def tm_bk (y' : zS) (w f : Nat) : Prop := 1 ≤ w ∧ w ≤ 7 ∧ f ≤ 160 ∧ y' 90 15 = nI w ∧ y' 90 16 = nI f
/-- what the reader of the class leaves alone -/
def ty_fr (x x' : zS) : Prop := (∀ q, q ≠ 37 → q ≠ 39 → q ≠ 40 → x' q = x q) ∧ ∀ j, j ≠ 6 → j ≠ 7 → x' 37 j = x 37 j
theorem ty_field_0_0 {x : zS} {b : Nat → Nat} {L t f e k v : Nat} (h : tx_Y x b L) (h0 : x 40 4 = nI t) (hT : tx_T b L t f e k v) (hz : x 37 6 = nI 0) : ∃ x', f_Tr_readField_37 (nI 0) (nI 0) x = some x' ∧ ty_fr x x' ∧ (¬ tx_q k 2 4 0 v = 0 → ty_bk x' (tx_q k 2 4 0 v) f) ∧ (tx_q k 2 4 0 v = 0 → ty_ok x x' 0 v e) := by
  obtain ⟨x1, m0, m1, m2, m3, m4, m5⟩ := ty_move h h0 hT
  obtain ⟨f1, f2, f3, f4, f5, f6, f7⟩ := tx_T_f hT
  have hL := h.2.1
  have hle := tx_q_le k 2 4 0 v
  unfold f_Tr_readField_37
  rw [m0, z_bs, m1]
  rw [hg_join_to (x := if k = 2 then nI v else (-4 : Int32)) (fun j => by
    rw [z_join_e, if_neg (show ¬ nI 0 = (2 : Int32) by decide)]
    by_cases c2 : k = 2
    · rw [if_pos (show nI k = (2 : Int32) by rw [c2]; rfl), if_pos c2, m4 c2]
    · rw [show (2 : Int32) = nI 2 from rfl, if_neg (show ¬ nI k = nI 2 by rw [nI_eq (by omega) (by omega)]; exact c2), if_neg c2])]
  rw [ty_fault_0_0 m1 f4 f5 rfl, z_bs]
  by_cases c : tx_q k 2 4 0 v = 0
  · have c2 : k = 2 := Classical.byContradiction (fun z => by
      unfold tx_q at c
      by_cases z4 : k = 4
      · rw [if_pos z4] at c; omega
      · rw [if_neg z4, if_pos z] at c; omega)
    rw [c, if_pos (show nI 0 = 0 from rfl), show f_Y_isIn (nI 0) (0 : Int32) (2 : Int32) x1 = some (nI 1) from by rw [y_isIn]; rfl, z_bs, if_neg (show ¬ nI 1 = 0 by decide), if_pos (show z_ib (nI 0) 3 = true by decide), z_let_e, show (nI 0).toNatClampNeg = 0 from rfl, if_pos c2]
    refine ⟨_, rfl, ⟨fun q q1 q2 q3 => by rw [hg_u_n q2, m5 q q3], fun j j1 j2 => by rw [hg_u_n (by omega), m5 37 (by omega)]⟩, fun z => absurd rfl z, fun _ => ⟨?_, ?_, fun j hj => ?_, ?_⟩⟩
    · rw [hg_u_n (by omega), m5 37 (by omega), hz]
    · rw [hg_u_s]
    · rw [hg_u_j hj, m5 39 (by omega)]
    · rw [hg_u_n (by omega), m3]
  · rw [nl0, if_neg (show ¬ nI (tx_q k 2 4 0 v) = nI 0 by rw [nI_eq (by omega) (by omega)]; exact c), ty_fail, z_bs, m2]
    refine ⟨_, rfl, ⟨fun q q1 q2 q3 => by rw [hg_u_n q1, hg_u_n q1, m5 q q3], fun j j1 j2 => by rw [hg_u_j j2, hg_u_j j1, m5 37 (by omega)]⟩, fun _ => ⟨by omega, by omega, by omega, ?_, ?_⟩, fun z => absurd z c⟩
    · rw [hg_u_j (by omega), hg_u_s]
    · rw [hg_u_s]
theorem ty_field_0_1 {x : zS} {b : Nat → Nat} {L t f e k v : Nat} (h : tx_Y x b L) (h0 : x 40 4 = nI t) (hT : tx_T b L t f e k v) (hz : x 37 6 = nI 0) : ∃ x', f_Tr_readField_37 (nI 0) (nI 1) x = some x' ∧ ty_fr x x' ∧ (¬ tx_q k 2 4 0 v = 0 → ty_bk x' (tx_q k 2 4 0 v) f) ∧ (tx_q k 2 4 0 v = 0 → ty_ok x x' 1 v e) := by
  obtain ⟨x1, m0, m1, m2, m3, m4, m5⟩ := ty_move h h0 hT
  obtain ⟨f1, f2, f3, f4, f5, f6, f7⟩ := tx_T_f hT
  have hL := h.2.1
  have hle := tx_q_le k 2 4 0 v
  unfold f_Tr_readField_37
  rw [m0, z_bs, m1]
  rw [hg_join_to (x := if k = 2 then nI v else (-4 : Int32)) (fun j => by
    rw [z_join_e, if_neg (show ¬ nI 0 = (2 : Int32) by decide)]
    by_cases c2 : k = 2
    · rw [if_pos (show nI k = (2 : Int32) by rw [c2]; rfl), if_pos c2, m4 c2]
    · rw [show (2 : Int32) = nI 2 from rfl, if_neg (show ¬ nI k = nI 2 by rw [nI_eq (by omega) (by omega)]; exact c2), if_neg c2])]
  rw [ty_fault_0_1 m1 f4 f5 rfl, z_bs]
  by_cases c : tx_q k 2 4 0 v = 0
  · have c2 : k = 2 := Classical.byContradiction (fun z => by
      unfold tx_q at c
      by_cases z4 : k = 4
      · rw [if_pos z4] at c; omega
      · rw [if_neg z4, if_pos z] at c; omega)
    rw [c, if_pos (show nI 0 = 0 from rfl), show f_Y_isIn (nI 1) (0 : Int32) (2 : Int32) x1 = some (nI 1) from by rw [y_isIn]; rfl, z_bs, if_neg (show ¬ nI 1 = 0 by decide), if_pos (show z_ib (nI 1) 3 = true by decide), z_let_e, show (nI 1).toNatClampNeg = 1 from rfl, if_pos c2]
    refine ⟨_, rfl, ⟨fun q q1 q2 q3 => by rw [hg_u_n q2, m5 q q3], fun j j1 j2 => by rw [hg_u_n (by omega), m5 37 (by omega)]⟩, fun z => absurd rfl z, fun _ => ⟨?_, ?_, fun j hj => ?_, ?_⟩⟩
    · rw [hg_u_n (by omega), m5 37 (by omega), hz]
    · rw [hg_u_s]
    · rw [hg_u_j hj, m5 39 (by omega)]
    · rw [hg_u_n (by omega), m3]
  · rw [nl0, if_neg (show ¬ nI (tx_q k 2 4 0 v) = nI 0 by rw [nI_eq (by omega) (by omega)]; exact c), ty_fail, z_bs, m2]
    refine ⟨_, rfl, ⟨fun q q1 q2 q3 => by rw [hg_u_n q1, hg_u_n q1, m5 q q3], fun j j1 j2 => by rw [hg_u_j j2, hg_u_j j1, m5 37 (by omega)]⟩, fun _ => ⟨by omega, by omega, by omega, ?_, ?_⟩, fun z => absurd z c⟩
    · rw [hg_u_j (by omega), hg_u_s]
    · rw [hg_u_s]
theorem ty_field_1_0 {x : zS} {b : Nat → Nat} {L t f e k v : Nat} (h : tx_Y x b L) (h0 : x 40 4 = nI t) (hT : tx_T b L t f e k v) (hz : x 37 6 = nI 0) {s : Nat} (hs : x 38 1 = nI s) (hs2 : s < 2 ^ 32) : ∃ x', f_Tr_readField_37 (nI 1) (nI 0) x = some x' ∧ ty_fr x x' ∧ (¬ tx_q k 0 15 s v = 0 → ty_bk x' (tx_q k 0 15 s v) f) ∧ (tx_q k 0 15 s v = 0 → ty_ok x x' 0 v e) := by
  obtain ⟨x1, m0, m1, m2, m3, m4, m5⟩ := ty_move h h0 hT
  obtain ⟨f1, f2, f3, f4, f5, f6, f7⟩ := tx_T_f hT
  have hL := h.2.1
  have hle := tx_q_le k 0 15 s v
  unfold f_Tr_readField_37
  rw [m0, z_bs, m1]
  rw [hg_join_to (x := if k = 2 then nI v else (-4 : Int32)) (fun j => by
    rw [z_join_e, if_neg (show ¬ nI 1 = (2 : Int32) by decide)]
    by_cases c2 : k = 2
    · rw [if_pos (show nI k = (2 : Int32) by rw [c2]; rfl), if_pos c2, m4 c2]
    · rw [show (2 : Int32) = nI 2 from rfl, if_neg (show ¬ nI k = nI 2 by rw [nI_eq (by omega) (by omega)]; exact c2), if_neg c2])]
  rw [ty_fault_1_0 m1 f4 f5 (show x1 38 1 = nI s by rw [m5 38 (by omega)]; exact hs) hs2 rfl, z_bs]
  by_cases c : tx_q k 0 15 s v = 0
  · have c2 : k = 2 := Classical.byContradiction (fun z => by
      unfold tx_q at c
      by_cases z4 : k = 4
      · rw [if_pos z4] at c; omega
      · rw [if_neg z4, if_pos z] at c; omega)
    rw [c, if_pos (show nI 0 = 0 from rfl), show f_Y_isIn (nI 0) (0 : Int32) (2 : Int32) x1 = some (nI 1) from by rw [y_isIn]; rfl, z_bs, if_neg (show ¬ nI 1 = 0 by decide), if_pos (show z_ib (nI 0) 3 = true by decide), z_let_e, show (nI 0).toNatClampNeg = 0 from rfl, if_pos c2]
    refine ⟨_, rfl, ⟨fun q q1 q2 q3 => by rw [hg_u_n q2, m5 q q3], fun j j1 j2 => by rw [hg_u_n (by omega), m5 37 (by omega)]⟩, fun z => absurd rfl z, fun _ => ⟨?_, ?_, fun j hj => ?_, ?_⟩⟩
    · rw [hg_u_n (by omega), m5 37 (by omega), hz]
    · rw [hg_u_s]
    · rw [hg_u_j hj, m5 39 (by omega)]
    · rw [hg_u_n (by omega), m3]
  · rw [nl0, if_neg (show ¬ nI (tx_q k 0 15 s v) = nI 0 by rw [nI_eq (by omega) (by omega)]; exact c), ty_fail, z_bs, m2]
    refine ⟨_, rfl, ⟨fun q q1 q2 q3 => by rw [hg_u_n q1, hg_u_n q1, m5 q q3], fun j j1 j2 => by rw [hg_u_j j2, hg_u_j j1, m5 37 (by omega)]⟩, fun _ => ⟨by omega, by omega, by omega, ?_, ?_⟩, fun z => absurd z c⟩
    · rw [hg_u_j (by omega), hg_u_s]
    · rw [hg_u_s]
theorem ty_field_1_1 {x : zS} {b : Nat → Nat} {L t f e k v : Nat} (h : tx_Y x b L) (h0 : x 40 4 = nI t) (hT : tx_T b L t f e k v) (hz : x 37 6 = nI 0) : ∃ x', f_Tr_readField_37 (nI 1) (nI 1) x = some x' ∧ ty_fr x x' ∧ (¬ tx_q k 0 3 0 v = 0 → ty_bk x' (tx_q k 0 3 0 v) f) ∧ (tx_q k 0 3 0 v = 0 → ty_ok x x' 1 v e) := by
  obtain ⟨x1, m0, m1, m2, m3, m4, m5⟩ := ty_move h h0 hT
  obtain ⟨f1, f2, f3, f4, f5, f6, f7⟩ := tx_T_f hT
  have hL := h.2.1
  have hle := tx_q_le k 0 3 0 v
  unfold f_Tr_readField_37
  rw [m0, z_bs, m1]
  rw [hg_join_to (x := if k = 2 then nI v else (-4 : Int32)) (fun j => by
    rw [z_join_e, if_neg (show ¬ nI 1 = (2 : Int32) by decide)]
    by_cases c2 : k = 2
    · rw [if_pos (show nI k = (2 : Int32) by rw [c2]; rfl), if_pos c2, m4 c2]
    · rw [show (2 : Int32) = nI 2 from rfl, if_neg (show ¬ nI k = nI 2 by rw [nI_eq (by omega) (by omega)]; exact c2), if_neg c2])]
  rw [ty_fault_1_1 m1 f4 f5 rfl, z_bs]
  by_cases c : tx_q k 0 3 0 v = 0
  · have c2 : k = 2 := Classical.byContradiction (fun z => by
      unfold tx_q at c
      by_cases z4 : k = 4
      · rw [if_pos z4] at c; omega
      · rw [if_neg z4, if_pos z] at c; omega)
    rw [c, if_pos (show nI 0 = 0 from rfl), show f_Y_isIn (nI 1) (0 : Int32) (2 : Int32) x1 = some (nI 1) from by rw [y_isIn]; rfl, z_bs, if_neg (show ¬ nI 1 = 0 by decide), if_pos (show z_ib (nI 1) 3 = true by decide), z_let_e, show (nI 1).toNatClampNeg = 1 from rfl, if_pos c2]
    refine ⟨_, rfl, ⟨fun q q1 q2 q3 => by rw [hg_u_n q2, m5 q q3], fun j j1 j2 => by rw [hg_u_n (by omega), m5 37 (by omega)]⟩, fun z => absurd rfl z, fun _ => ⟨?_, ?_, fun j hj => ?_, ?_⟩⟩
    · rw [hg_u_n (by omega), m5 37 (by omega), hz]
    · rw [hg_u_s]
    · rw [hg_u_j hj, m5 39 (by omega)]
    · rw [hg_u_n (by omega), m3]
  · rw [nl0, if_neg (show ¬ nI (tx_q k 0 3 0 v) = nI 0 by rw [nI_eq (by omega) (by omega)]; exact c), ty_fail, z_bs, m2]
    refine ⟨_, rfl, ⟨fun q q1 q2 q3 => by rw [hg_u_n q1, hg_u_n q1, m5 q q3], fun j j1 j2 => by rw [hg_u_j j2, hg_u_j j1, m5 37 (by omega)]⟩, fun _ => ⟨by omega, by omega, by omega, ?_, ?_⟩, fun z => absurd z c⟩
    · rw [hg_u_j (by omega), hg_u_s]
    · rw [hg_u_s]
theorem ty_field_1_2 {x : zS} {b : Nat → Nat} {L t f e k v : Nat} (h : tx_Y x b L) (h0 : x 40 4 = nI t) (hT : tx_T b L t f e k v) (hz : x 37 6 = nI 0) : ∃ x', f_Tr_readField_37 (nI 1) (nI 2) x = some x' ∧ ty_fr x x' ∧ (¬ tx_q k 1 9 0 v = 0 → ty_bk x' (tx_q k 1 9 0 v) f) ∧ (tx_q k 1 9 0 v = 0 → ty_ok x x' 2 v e) := by
  obtain ⟨x1, m0, m1, m2, m3, m4, m5⟩ := ty_move h h0 hT
  obtain ⟨f1, f2, f3, f4, f5, f6, f7⟩ := tx_T_f hT
  have hL := h.2.1
  have hle := tx_q_le k 1 9 0 v
  unfold f_Tr_readField_37
  rw [m0, z_bs, m1]
  rw [hg_join_to (x := if k = 2 then nI v else (-4 : Int32)) (fun j => by
    rw [z_join_e, if_neg (show ¬ nI 1 = (2 : Int32) by decide)]
    by_cases c2 : k = 2
    · rw [if_pos (show nI k = (2 : Int32) by rw [c2]; rfl), if_pos c2, m4 c2]
    · rw [show (2 : Int32) = nI 2 from rfl, if_neg (show ¬ nI k = nI 2 by rw [nI_eq (by omega) (by omega)]; exact c2), if_neg c2])]
  rw [ty_fault_1_2 m1 f4 f5 rfl, z_bs]
  by_cases c : tx_q k 1 9 0 v = 0
  · have c2 : k = 2 := Classical.byContradiction (fun z => by
      unfold tx_q at c
      by_cases z4 : k = 4
      · rw [if_pos z4] at c; omega
      · rw [if_neg z4, if_pos z] at c; omega)
    rw [c, if_pos (show nI 0 = 0 from rfl), show f_Y_isIn (nI 2) (0 : Int32) (2 : Int32) x1 = some (nI 1) from by rw [y_isIn]; rfl, z_bs, if_neg (show ¬ nI 1 = 0 by decide), if_pos (show z_ib (nI 2) 3 = true by decide), z_let_e, show (nI 2).toNatClampNeg = 2 from rfl, if_pos c2]
    refine ⟨_, rfl, ⟨fun q q1 q2 q3 => by rw [hg_u_n q2, m5 q q3], fun j j1 j2 => by rw [hg_u_n (by omega), m5 37 (by omega)]⟩, fun z => absurd rfl z, fun _ => ⟨?_, ?_, fun j hj => ?_, ?_⟩⟩
    · rw [hg_u_n (by omega), m5 37 (by omega), hz]
    · rw [hg_u_s]
    · rw [hg_u_j hj, m5 39 (by omega)]
    · rw [hg_u_n (by omega), m3]
  · rw [nl0, if_neg (show ¬ nI (tx_q k 1 9 0 v) = nI 0 by rw [nI_eq (by omega) (by omega)]; exact c), ty_fail, z_bs, m2]
    refine ⟨_, rfl, ⟨fun q q1 q2 q3 => by rw [hg_u_n q1, hg_u_n q1, m5 q q3], fun j j1 j2 => by rw [hg_u_j j2, hg_u_j j1, m5 37 (by omega)]⟩, fun _ => ⟨by omega, by omega, by omega, ?_, ?_⟩, fun z => absurd z c⟩
    · rw [hg_u_j (by omega), hg_u_s]
    · rw [hg_u_s]
theorem ty_field_2_0 {x : zS} {b : Nat → Nat} {L t f e k v : Nat} (h : tx_Y x b L) (h0 : x 40 4 = nI t) (hT : tx_T b L t f e k v) (hz : x 37 6 = nI 0) {s : Nat} (hs : x 38 2 = nI s) (hs2 : s < 2 ^ 32) : ∃ x', f_Tr_readField_37 (nI 2) (nI 0) x = some x' ∧ ty_fr x x' ∧ (¬ tx_q k 0 15 s v = 0 → ty_bk x' (tx_q k 0 15 s v) f) ∧ (tx_q k 0 15 s v = 0 → ty_ok x x' 0 v e) := by
  obtain ⟨x1, m0, m1, m2, m3, m4, m5⟩ := ty_move h h0 hT
  obtain ⟨f1, f2, f3, f4, f5, f6, f7⟩ := tx_T_f hT
  have hL := h.2.1
  have hle := tx_q_le k 0 15 s v
  unfold f_Tr_readField_37
  rw [m0, z_bs, m1]
  rw [hg_join_to (x := if k = 2 then nI v else (-4 : Int32)) (fun j => by
    rw [z_join_e, if_pos (show nI 2 = (2 : Int32) from rfl), if_neg (show ¬ nI 0 = (1 : Int32) by decide)]
    by_cases c2 : k = 2
    · rw [if_pos (show nI k = (2 : Int32) by rw [c2]; rfl), if_pos c2, m4 c2]
    · rw [show (2 : Int32) = nI 2 from rfl, if_neg (show ¬ nI k = nI 2 by rw [nI_eq (by omega) (by omega)]; exact c2), if_neg c2])]
  rw [ty_fault_2_0 m1 f4 f5 (show x1 38 2 = nI s by rw [m5 38 (by omega)]; exact hs) hs2 rfl, z_bs]
  by_cases c : tx_q k 0 15 s v = 0
  · have c2 : k = 2 := Classical.byContradiction (fun z => by
      unfold tx_q at c
      by_cases z4 : k = 4
      · rw [if_pos z4] at c; omega
      · rw [if_neg z4, if_pos z] at c; omega)
    rw [c, if_pos (show nI 0 = 0 from rfl), show f_Y_isIn (nI 0) (0 : Int32) (2 : Int32) x1 = some (nI 1) from by rw [y_isIn]; rfl, z_bs, if_neg (show ¬ nI 1 = 0 by decide), if_pos (show z_ib (nI 0) 3 = true by decide), z_let_e, show (nI 0).toNatClampNeg = 0 from rfl, if_pos c2]
    refine ⟨_, rfl, ⟨fun q q1 q2 q3 => by rw [hg_u_n q2, m5 q q3], fun j j1 j2 => by rw [hg_u_n (by omega), m5 37 (by omega)]⟩, fun z => absurd rfl z, fun _ => ⟨?_, ?_, fun j hj => ?_, ?_⟩⟩
    · rw [hg_u_n (by omega), m5 37 (by omega), hz]
    · rw [hg_u_s]
    · rw [hg_u_j hj, m5 39 (by omega)]
    · rw [hg_u_n (by omega), m3]
  · rw [nl0, if_neg (show ¬ nI (tx_q k 0 15 s v) = nI 0 by rw [nI_eq (by omega) (by omega)]; exact c), ty_fail, z_bs, m2]
    refine ⟨_, rfl, ⟨fun q q1 q2 q3 => by rw [hg_u_n q1, hg_u_n q1, m5 q q3], fun j j1 j2 => by rw [hg_u_j j2, hg_u_j j1, m5 37 (by omega)]⟩, fun _ => ⟨by omega, by omega, by omega, ?_, ?_⟩, fun z => absurd z c⟩
    · rw [hg_u_j (by omega), hg_u_s]
    · rw [hg_u_s]
theorem ty_field_3_0 {x : zS} {b : Nat → Nat} {L t f e k v : Nat} (h : tx_Y x b L) (h0 : x 40 4 = nI t) (hT : tx_T b L t f e k v) (hz : x 37 6 = nI 0) {s : Nat} (hs : x 38 3 = nI s) (hs2 : s < 2 ^ 32) : ∃ x', f_Tr_readField_37 (nI 3) (nI 0) x = some x' ∧ ty_fr x x' ∧ (¬ tx_q k 0 15 s v = 0 → ty_bk x' (tx_q k 0 15 s v) f) ∧ (tx_q k 0 15 s v = 0 → ty_ok x x' 0 v e) := by
  obtain ⟨x1, m0, m1, m2, m3, m4, m5⟩ := ty_move h h0 hT
  obtain ⟨f1, f2, f3, f4, f5, f6, f7⟩ := tx_T_f hT
  have hL := h.2.1
  have hle := tx_q_le k 0 15 s v
  unfold f_Tr_readField_37
  rw [m0, z_bs, m1]
  rw [hg_join_to (x := if k = 2 then nI v else (-4 : Int32)) (fun j => by
    rw [z_join_e, if_neg (show ¬ nI 3 = (2 : Int32) by decide)]
    by_cases c2 : k = 2
    · rw [if_pos (show nI k = (2 : Int32) by rw [c2]; rfl), if_pos c2, m4 c2]
    · rw [show (2 : Int32) = nI 2 from rfl, if_neg (show ¬ nI k = nI 2 by rw [nI_eq (by omega) (by omega)]; exact c2), if_neg c2])]
  rw [ty_fault_3_0 m1 f4 f5 (show x1 38 3 = nI s by rw [m5 38 (by omega)]; exact hs) hs2 rfl, z_bs]
  by_cases c : tx_q k 0 15 s v = 0
  · have c2 : k = 2 := Classical.byContradiction (fun z => by
      unfold tx_q at c
      by_cases z4 : k = 4
      · rw [if_pos z4] at c; omega
      · rw [if_neg z4, if_pos z] at c; omega)
    rw [c, if_pos (show nI 0 = 0 from rfl), show f_Y_isIn (nI 0) (0 : Int32) (2 : Int32) x1 = some (nI 1) from by rw [y_isIn]; rfl, z_bs, if_neg (show ¬ nI 1 = 0 by decide), if_pos (show z_ib (nI 0) 3 = true by decide), z_let_e, show (nI 0).toNatClampNeg = 0 from rfl, if_pos c2]
    refine ⟨_, rfl, ⟨fun q q1 q2 q3 => by rw [hg_u_n q2, m5 q q3], fun j j1 j2 => by rw [hg_u_n (by omega), m5 37 (by omega)]⟩, fun z => absurd rfl z, fun _ => ⟨?_, ?_, fun j hj => ?_, ?_⟩⟩
    · rw [hg_u_n (by omega), m5 37 (by omega), hz]
    · rw [hg_u_s]
    · rw [hg_u_j hj, m5 39 (by omega)]
    · rw [hg_u_n (by omega), m3]
  · rw [nl0, if_neg (show ¬ nI (tx_q k 0 15 s v) = nI 0 by rw [nI_eq (by omega) (by omega)]; exact c), ty_fail, z_bs, m2]
    refine ⟨_, rfl, ⟨fun q q1 q2 q3 => by rw [hg_u_n q1, hg_u_n q1, m5 q q3], fun j j1 j2 => by rw [hg_u_j j2, hg_u_j j1, m5 37 (by omega)]⟩, fun _ => ⟨by omega, by omega, by omega, ?_, ?_⟩, fun z => absurd z c⟩
    · rw [hg_u_j (by omega), hg_u_s]
    · rw [hg_u_s]
theorem ty_field_3_1 {x : zS} {b : Nat → Nat} {L t f e k v : Nat} (h : tx_Y x b L) (h0 : x 40 4 = nI t) (hT : tx_T b L t f e k v) (hz : x 37 6 = nI 0) : ∃ x', f_Tr_readField_37 (nI 3) (nI 1) x = some x' ∧ ty_fr x x' ∧ (¬ tx_q k 0 2 0 v = 0 → ty_bk x' (tx_q k 0 2 0 v) f) ∧ (tx_q k 0 2 0 v = 0 → ty_ok x x' 1 v e) := by
  obtain ⟨x1, m0, m1, m2, m3, m4, m5⟩ := ty_move h h0 hT
  obtain ⟨f1, f2, f3, f4, f5, f6, f7⟩ := tx_T_f hT
  have hL := h.2.1
  have hle := tx_q_le k 0 2 0 v
  unfold f_Tr_readField_37
  rw [m0, z_bs, m1]
  rw [hg_join_to (x := if k = 2 then nI v else (-4 : Int32)) (fun j => by
    rw [z_join_e, if_neg (show ¬ nI 3 = (2 : Int32) by decide)]
    by_cases c2 : k = 2
    · rw [if_pos (show nI k = (2 : Int32) by rw [c2]; rfl), if_pos c2, m4 c2]
    · rw [show (2 : Int32) = nI 2 from rfl, if_neg (show ¬ nI k = nI 2 by rw [nI_eq (by omega) (by omega)]; exact c2), if_neg c2])]
  rw [ty_fault_3_1 m1 f4 f5 rfl, z_bs]
  by_cases c : tx_q k 0 2 0 v = 0
  · have c2 : k = 2 := Classical.byContradiction (fun z => by
      unfold tx_q at c
      by_cases z4 : k = 4
      · rw [if_pos z4] at c; omega
      · rw [if_neg z4, if_pos z] at c; omega)
    rw [c, if_pos (show nI 0 = 0 from rfl), show f_Y_isIn (nI 1) (0 : Int32) (2 : Int32) x1 = some (nI 1) from by rw [y_isIn]; rfl, z_bs, if_neg (show ¬ nI 1 = 0 by decide), if_pos (show z_ib (nI 1) 3 = true by decide), z_let_e, show (nI 1).toNatClampNeg = 1 from rfl, if_pos c2]
    refine ⟨_, rfl, ⟨fun q q1 q2 q3 => by rw [hg_u_n q2, m5 q q3], fun j j1 j2 => by rw [hg_u_n (by omega), m5 37 (by omega)]⟩, fun z => absurd rfl z, fun _ => ⟨?_, ?_, fun j hj => ?_, ?_⟩⟩
    · rw [hg_u_n (by omega), m5 37 (by omega), hz]
    · rw [hg_u_s]
    · rw [hg_u_j hj, m5 39 (by omega)]
    · rw [hg_u_n (by omega), m3]
  · rw [nl0, if_neg (show ¬ nI (tx_q k 0 2 0 v) = nI 0 by rw [nI_eq (by omega) (by omega)]; exact c), ty_fail, z_bs, m2]
    refine ⟨_, rfl, ⟨fun q q1 q2 q3 => by rw [hg_u_n q1, hg_u_n q1, m5 q q3], fun j j1 j2 => by rw [hg_u_j j2, hg_u_j j1, m5 37 (by omega)]⟩, fun _ => ⟨by omega, by omega, by omega, ?_, ?_⟩, fun z => absurd z c⟩
    · rw [hg_u_j (by omega), hg_u_s]
    · rw [hg_u_s]
theorem ty_field_4_0 {x : zS} {b : Nat → Nat} {L t f e k v : Nat} (h : tx_Y x b L) (h0 : x 40 4 = nI t) (hT : tx_T b L t f e k v) (hz : x 37 6 = nI 0) {s : Nat} (hs : x 38 4 = nI s) (hs2 : s < 2 ^ 32) : ∃ x', f_Tr_readField_37 (nI 4) (nI 0) x = some x' ∧ ty_fr x x' ∧ (¬ tx_q k 0 31 s v = 0 → ty_bk x' (tx_q k 0 31 s v) f) ∧ (tx_q k 0 31 s v = 0 → ty_ok x x' 0 v e) := by
  obtain ⟨x1, m0, m1, m2, m3, m4, m5⟩ := ty_move h h0 hT
  obtain ⟨f1, f2, f3, f4, f5, f6, f7⟩ := tx_T_f hT
  have hL := h.2.1
  have hle := tx_q_le k 0 31 s v
  unfold f_Tr_readField_37
  rw [m0, z_bs, m1]
  rw [hg_join_to (x := if k = 2 then nI v else (-4 : Int32)) (fun j => by
    rw [z_join_e, if_neg (show ¬ nI 4 = (2 : Int32) by decide)]
    by_cases c2 : k = 2
    · rw [if_pos (show nI k = (2 : Int32) by rw [c2]; rfl), if_pos c2, m4 c2]
    · rw [show (2 : Int32) = nI 2 from rfl, if_neg (show ¬ nI k = nI 2 by rw [nI_eq (by omega) (by omega)]; exact c2), if_neg c2])]
  rw [ty_fault_4_0 m1 f4 f5 (show x1 38 4 = nI s by rw [m5 38 (by omega)]; exact hs) hs2 rfl, z_bs]
  by_cases c : tx_q k 0 31 s v = 0
  · have c2 : k = 2 := Classical.byContradiction (fun z => by
      unfold tx_q at c
      by_cases z4 : k = 4
      · rw [if_pos z4] at c; omega
      · rw [if_neg z4, if_pos z] at c; omega)
    rw [c, if_pos (show nI 0 = 0 from rfl), show f_Y_isIn (nI 0) (0 : Int32) (2 : Int32) x1 = some (nI 1) from by rw [y_isIn]; rfl, z_bs, if_neg (show ¬ nI 1 = 0 by decide), if_pos (show z_ib (nI 0) 3 = true by decide), z_let_e, show (nI 0).toNatClampNeg = 0 from rfl, if_pos c2]
    refine ⟨_, rfl, ⟨fun q q1 q2 q3 => by rw [hg_u_n q2, m5 q q3], fun j j1 j2 => by rw [hg_u_n (by omega), m5 37 (by omega)]⟩, fun z => absurd rfl z, fun _ => ⟨?_, ?_, fun j hj => ?_, ?_⟩⟩
    · rw [hg_u_n (by omega), m5 37 (by omega), hz]
    · rw [hg_u_s]
    · rw [hg_u_j hj, m5 39 (by omega)]
    · rw [hg_u_n (by omega), m3]
  · rw [nl0, if_neg (show ¬ nI (tx_q k 0 31 s v) = nI 0 by rw [nI_eq (by omega) (by omega)]; exact c), ty_fail, z_bs, m2]
    refine ⟨_, rfl, ⟨fun q q1 q2 q3 => by rw [hg_u_n q1, hg_u_n q1, m5 q q3], fun j j1 j2 => by rw [hg_u_j j2, hg_u_j j1, m5 37 (by omega)]⟩, fun _ => ⟨by omega, by omega, by omega, ?_, ?_⟩, fun z => absurd z c⟩
    · rw [hg_u_j (by omega), hg_u_s]
    · rw [hg_u_s]
theorem ty_field_5_0 {x : zS} {b : Nat → Nat} {L t f e k v : Nat} (h : tx_Y x b L) (h0 : x 40 4 = nI t) (hT : tx_T b L t f e k v) (hz : x 37 6 = nI 0) : ∃ x', f_Tr_readField_37 (nI 5) (nI 0) x = some x' ∧ ty_fr x x' ∧ (¬ tx_q k 0 3 0 v = 0 → ty_bk x' (tx_q k 0 3 0 v) f) ∧ (tx_q k 0 3 0 v = 0 → ty_ok x x' 0 v e) := by
  obtain ⟨x1, m0, m1, m2, m3, m4, m5⟩ := ty_move h h0 hT
  obtain ⟨f1, f2, f3, f4, f5, f6, f7⟩ := tx_T_f hT
  have hL := h.2.1
  have hle := tx_q_le k 0 3 0 v
  unfold f_Tr_readField_37
  rw [m0, z_bs, m1]
  rw [hg_join_to (x := if k = 2 then nI v else (-4 : Int32)) (fun j => by
    rw [z_join_e, if_neg (show ¬ nI 5 = (2 : Int32) by decide)]
    by_cases c2 : k = 2
    · rw [if_pos (show nI k = (2 : Int32) by rw [c2]; rfl), if_pos c2, m4 c2]
    · rw [show (2 : Int32) = nI 2 from rfl, if_neg (show ¬ nI k = nI 2 by rw [nI_eq (by omega) (by omega)]; exact c2), if_neg c2])]
  rw [ty_fault_5_0 m1 f4 f5 rfl, z_bs]
  by_cases c : tx_q k 0 3 0 v = 0
  · have c2 : k = 2 := Classical.byContradiction (fun z => by
      unfold tx_q at c
      by_cases z4 : k = 4
      · rw [if_pos z4] at c; omega
      · rw [if_neg z4, if_pos z] at c; omega)
    rw [c, if_pos (show nI 0 = 0 from rfl), show f_Y_isIn (nI 0) (0 : Int32) (2 : Int32) x1 = some (nI 1) from by rw [y_isIn]; rfl, z_bs, if_neg (show ¬ nI 1 = 0 by decide), if_pos (show z_ib (nI 0) 3 = true by decide), z_let_e, show (nI 0).toNatClampNeg = 0 from rfl, if_pos c2]
    refine ⟨_, rfl, ⟨fun q q1 q2 q3 => by rw [hg_u_n q2, m5 q q3], fun j j1 j2 => by rw [hg_u_n (by omega), m5 37 (by omega)]⟩, fun z => absurd rfl z, fun _ => ⟨?_, ?_, fun j hj => ?_, ?_⟩⟩
    · rw [hg_u_n (by omega), m5 37 (by omega), hz]
    · rw [hg_u_s]
    · rw [hg_u_j hj, m5 39 (by omega)]
    · rw [hg_u_n (by omega), m3]
  · rw [nl0, if_neg (show ¬ nI (tx_q k 0 3 0 v) = nI 0 by rw [nI_eq (by omega) (by omega)]; exact c), ty_fail, z_bs, m2]
    refine ⟨_, rfl, ⟨fun q q1 q2 q3 => by rw [hg_u_n q1, hg_u_n q1, m5 q q3], fun j j1 j2 => by rw [hg_u_j j2, hg_u_j j1, m5 37 (by omega)]⟩, fun _ => ⟨by omega, by omega, by omega, ?_, ?_⟩, fun z => absurd z c⟩
    · rw [hg_u_j (by omega), hg_u_s]
    · rw [hg_u_s]
theorem ty_field_5_1 {x : zS} {b : Nat → Nat} {L t f e k v : Nat} (h : tx_Y x b L) (h0 : x 40 4 = nI t) (hT : tx_T b L t f e k v) (hz : x 37 6 = nI 0) {a : Nat} (hs : x 39 0 = nI a) (ha : a ≤ 3) : ∃ x', f_Tr_readField_37 (nI 5) (nI 1) x = some x' ∧ ty_fr x x' ∧ (¬ tx_q k 0 4 (2 ^ a) v = 0 → ty_bk x' (tx_q k 0 4 (2 ^ a) v) f) ∧ (tx_q k 0 4 (2 ^ a) v = 0 → ty_ok x x' 1 v e) := by
  obtain ⟨x1, m0, m1, m2, m3, m4, m5⟩ := ty_move h h0 hT
  obtain ⟨f1, f2, f3, f4, f5, f6, f7⟩ := tx_T_f hT
  have hL := h.2.1
  have hle := tx_q_le k 0 4 (2 ^ a) v
  unfold f_Tr_readField_37
  rw [m0, z_bs, m1]
  rw [hg_join_to (x := if k = 2 then nI v else (-4 : Int32)) (fun j => by
    rw [z_join_e, if_neg (show ¬ nI 5 = (2 : Int32) by decide)]
    by_cases c2 : k = 2
    · rw [if_pos (show nI k = (2 : Int32) by rw [c2]; rfl), if_pos c2, m4 c2]
    · rw [show (2 : Int32) = nI 2 from rfl, if_neg (show ¬ nI k = nI 2 by rw [nI_eq (by omega) (by omega)]; exact c2), if_neg c2])]
  rw [ty_fault_5_1 m1 f4 f5 (show x1 39 0 = nI a by rw [m5 39 (by omega)]; exact hs) ha rfl, z_bs]
  by_cases c : tx_q k 0 4 (2 ^ a) v = 0
  · have c2 : k = 2 := Classical.byContradiction (fun z => by
      unfold tx_q at c
      by_cases z4 : k = 4
      · rw [if_pos z4] at c; omega
      · rw [if_neg z4, if_pos z] at c; omega)
    rw [c, if_pos (show nI 0 = 0 from rfl), show f_Y_isIn (nI 1) (0 : Int32) (2 : Int32) x1 = some (nI 1) from by rw [y_isIn]; rfl, z_bs, if_neg (show ¬ nI 1 = 0 by decide), if_pos (show z_ib (nI 1) 3 = true by decide), z_let_e, show (nI 1).toNatClampNeg = 1 from rfl, if_pos c2]
    refine ⟨_, rfl, ⟨fun q q1 q2 q3 => by rw [hg_u_n q2, m5 q q3], fun j j1 j2 => by rw [hg_u_n (by omega), m5 37 (by omega)]⟩, fun z => absurd rfl z, fun _ => ⟨?_, ?_, fun j hj => ?_, ?_⟩⟩
    · rw [hg_u_n (by omega), m5 37 (by omega), hz]
    · rw [hg_u_s]
    · rw [hg_u_j hj, m5 39 (by omega)]
    · rw [hg_u_n (by omega), m3]
  · rw [nl0, if_neg (show ¬ nI (tx_q k 0 4 (2 ^ a) v) = nI 0 by rw [nI_eq (by omega) (by omega)]; exact c), ty_fail, z_bs, m2]
    refine ⟨_, rfl, ⟨fun q q1 q2 q3 => by rw [hg_u_n q1, hg_u_n q1, m5 q q3], fun j j1 j2 => by rw [hg_u_j j2, hg_u_j j1, m5 37 (by omega)]⟩, fun _ => ⟨by omega, by omega, by omega, ?_, ?_⟩, fun z => absurd z c⟩
    · rw [hg_u_j (by omega), hg_u_s]
    · rw [hg_u_s]
theorem ty_field_5_2 {x : zS} {b : Nat → Nat} {L t f e k v : Nat} (h : tx_Y x b L) (h0 : x 40 4 = nI t) (hT : tx_T b L t f e k v) (hz : x 37 6 = nI 0) : ∃ x', f_Tr_readField_37 (nI 5) (nI 2) x = some x' ∧ ty_fr x x' ∧ (¬ tx_q k 1 4 0 v = 0 → ty_bk x' (tx_q k 1 4 0 v) f) ∧ (tx_q k 1 4 0 v = 0 → ty_ok x x' 2 v e) := by
  obtain ⟨x1, m0, m1, m2, m3, m4, m5⟩ := ty_move h h0 hT
  obtain ⟨f1, f2, f3, f4, f5, f6, f7⟩ := tx_T_f hT
  have hL := h.2.1
  have hle := tx_q_le k 1 4 0 v
  unfold f_Tr_readField_37
  rw [m0, z_bs, m1]
  rw [hg_join_to (x := if k = 2 then nI v else (-4 : Int32)) (fun j => by
    rw [z_join_e, if_neg (show ¬ nI 5 = (2 : Int32) by decide)]
    by_cases c2 : k = 2
    · rw [if_pos (show nI k = (2 : Int32) by rw [c2]; rfl), if_pos c2, m4 c2]
    · rw [show (2 : Int32) = nI 2 from rfl, if_neg (show ¬ nI k = nI 2 by rw [nI_eq (by omega) (by omega)]; exact c2), if_neg c2])]
  rw [ty_fault_5_2 m1 f4 f5 rfl, z_bs]
  by_cases c : tx_q k 1 4 0 v = 0
  · have c2 : k = 2 := Classical.byContradiction (fun z => by
      unfold tx_q at c
      by_cases z4 : k = 4
      · rw [if_pos z4] at c; omega
      · rw [if_neg z4, if_pos z] at c; omega)
    rw [c, if_pos (show nI 0 = 0 from rfl), show f_Y_isIn (nI 2) (0 : Int32) (2 : Int32) x1 = some (nI 1) from by rw [y_isIn]; rfl, z_bs, if_neg (show ¬ nI 1 = 0 by decide), if_pos (show z_ib (nI 2) 3 = true by decide), z_let_e, show (nI 2).toNatClampNeg = 2 from rfl, if_pos c2]
    refine ⟨_, rfl, ⟨fun q q1 q2 q3 => by rw [hg_u_n q2, m5 q q3], fun j j1 j2 => by rw [hg_u_n (by omega), m5 37 (by omega)]⟩, fun z => absurd rfl z, fun _ => ⟨?_, ?_, fun j hj => ?_, ?_⟩⟩
    · rw [hg_u_n (by omega), m5 37 (by omega), hz]
    · rw [hg_u_s]
    · rw [hg_u_j hj, m5 39 (by omega)]
    · rw [hg_u_n (by omega), m3]
  · rw [nl0, if_neg (show ¬ nI (tx_q k 1 4 0 v) = nI 0 by rw [nI_eq (by omega) (by omega)]; exact c), ty_fail, z_bs, m2]
    refine ⟨_, rfl, ⟨fun q q1 q2 q3 => by rw [hg_u_n q1, hg_u_n q1, m5 q q3], fun j j1 j2 => by rw [hg_u_j j2, hg_u_j j1, m5 37 (by omega)]⟩, fun _ => ⟨by omega, by omega, by omega, ?_, ?_⟩, fun z => absurd z c⟩
    · rw [hg_u_j (by omega), hg_u_s]
    · rw [hg_u_s]
theorem ty_field_6_0 {x : zS} {b : Nat → Nat} {L t f e k v : Nat} (h : tx_Y x b L) (h0 : x 40 4 = nI t) (hT : tx_T b L t f e k v) (hz : x 37 6 = nI 0) {s : Nat} (hs : x 38 6 = nI s) (hs2 : s < 2 ^ 32) : ∃ x', f_Tr_readField_37 (nI 6) (nI 0) x = some x' ∧ ty_fr x x' ∧ (¬ tx_q k 0 3 s v = 0 → ty_bk x' (tx_q k 0 3 s v) f) ∧ (tx_q k 0 3 s v = 0 → ty_ok x x' 0 v e) := by
  obtain ⟨x1, m0, m1, m2, m3, m4, m5⟩ := ty_move h h0 hT
  obtain ⟨f1, f2, f3, f4, f5, f6, f7⟩ := tx_T_f hT
  have hL := h.2.1
  have hle := tx_q_le k 0 3 s v
  unfold f_Tr_readField_37
  rw [m0, z_bs, m1]
  rw [hg_join_to (x := if k = 2 then nI v else (-4 : Int32)) (fun j => by
    rw [z_join_e, if_neg (show ¬ nI 6 = (2 : Int32) by decide)]
    by_cases c2 : k = 2
    · rw [if_pos (show nI k = (2 : Int32) by rw [c2]; rfl), if_pos c2, m4 c2]
    · rw [show (2 : Int32) = nI 2 from rfl, if_neg (show ¬ nI k = nI 2 by rw [nI_eq (by omega) (by omega)]; exact c2), if_neg c2])]
  rw [ty_fault_6_0 m1 f4 f5 (show x1 38 6 = nI s by rw [m5 38 (by omega)]; exact hs) hs2 rfl, z_bs]
  by_cases c : tx_q k 0 3 s v = 0
  · have c2 : k = 2 := Classical.byContradiction (fun z => by
      unfold tx_q at c
      by_cases z4 : k = 4
      · rw [if_pos z4] at c; omega
      · rw [if_neg z4, if_pos z] at c; omega)
    rw [c, if_pos (show nI 0 = 0 from rfl), show f_Y_isIn (nI 0) (0 : Int32) (2 : Int32) x1 = some (nI 1) from by rw [y_isIn]; rfl, z_bs, if_neg (show ¬ nI 1 = 0 by decide), if_pos (show z_ib (nI 0) 3 = true by decide), z_let_e, show (nI 0).toNatClampNeg = 0 from rfl, if_pos c2]
    refine ⟨_, rfl, ⟨fun q q1 q2 q3 => by rw [hg_u_n q2, m5 q q3], fun j j1 j2 => by rw [hg_u_n (by omega), m5 37 (by omega)]⟩, fun z => absurd rfl z, fun _ => ⟨?_, ?_, fun j hj => ?_, ?_⟩⟩
    · rw [hg_u_n (by omega), m5 37 (by omega), hz]
    · rw [hg_u_s]
    · rw [hg_u_j hj, m5 39 (by omega)]
    · rw [hg_u_n (by omega), m3]
  · rw [nl0, if_neg (show ¬ nI (tx_q k 0 3 s v) = nI 0 by rw [nI_eq (by omega) (by omega)]; exact c), ty_fail, z_bs, m2]
    refine ⟨_, rfl, ⟨fun q q1 q2 q3 => by rw [hg_u_n q1, hg_u_n q1, m5 q q3], fun j j1 j2 => by rw [hg_u_j j2, hg_u_j j1, m5 37 (by omega)]⟩, fun _ => ⟨by omega, by omega, by omega, ?_, ?_⟩, fun z => absurd z c⟩
    · rw [hg_u_j (by omega), hg_u_s]
    · rw [hg_u_s]
theorem ty_field_6_1 {x : zS} {b : Nat → Nat} {L t f e k v : Nat} (h : tx_Y x b L) (h0 : x 40 4 = nI t) (hT : tx_T b L t f e k v) (hz : x 37 6 = nI 0) : ∃ x', f_Tr_readField_37 (nI 6) (nI 1) x = some x' ∧ ty_fr x x' ∧ (¬ tx_q k 0 99 0 v = 0 → ty_bk x' (tx_q k 0 99 0 v) f) ∧ (tx_q k 0 99 0 v = 0 → ty_ok x x' 1 v e) := by
  obtain ⟨x1, m0, m1, m2, m3, m4, m5⟩ := ty_move h h0 hT
  obtain ⟨f1, f2, f3, f4, f5, f6, f7⟩ := tx_T_f hT
  have hL := h.2.1
  have hle := tx_q_le k 0 99 0 v
  unfold f_Tr_readField_37
  rw [m0, z_bs, m1]
  rw [hg_join_to (x := if k = 2 then nI v else (-4 : Int32)) (fun j => by
    rw [z_join_e, if_neg (show ¬ nI 6 = (2 : Int32) by decide)]
    by_cases c2 : k = 2
    · rw [if_pos (show nI k = (2 : Int32) by rw [c2]; rfl), if_pos c2, m4 c2]
    · rw [show (2 : Int32) = nI 2 from rfl, if_neg (show ¬ nI k = nI 2 by rw [nI_eq (by omega) (by omega)]; exact c2), if_neg c2])]
  rw [ty_fault_6_1 m1 f4 f5 rfl, z_bs]
  by_cases c : tx_q k 0 99 0 v = 0
  · have c2 : k = 2 := Classical.byContradiction (fun z => by
      unfold tx_q at c
      by_cases z4 : k = 4
      · rw [if_pos z4] at c; omega
      · rw [if_neg z4, if_pos z] at c; omega)
    rw [c, if_pos (show nI 0 = 0 from rfl), show f_Y_isIn (nI 1) (0 : Int32) (2 : Int32) x1 = some (nI 1) from by rw [y_isIn]; rfl, z_bs, if_neg (show ¬ nI 1 = 0 by decide), if_pos (show z_ib (nI 1) 3 = true by decide), z_let_e, show (nI 1).toNatClampNeg = 1 from rfl, if_pos c2]
    refine ⟨_, rfl, ⟨fun q q1 q2 q3 => by rw [hg_u_n q2, m5 q q3], fun j j1 j2 => by rw [hg_u_n (by omega), m5 37 (by omega)]⟩, fun z => absurd rfl z, fun _ => ⟨?_, ?_, fun j hj => ?_, ?_⟩⟩
    · rw [hg_u_n (by omega), m5 37 (by omega), hz]
    · rw [hg_u_s]
    · rw [hg_u_j hj, m5 39 (by omega)]
    · rw [hg_u_n (by omega), m3]
  · rw [nl0, if_neg (show ¬ nI (tx_q k 0 99 0 v) = nI 0 by rw [nI_eq (by omega) (by omega)]; exact c), ty_fail, z_bs, m2]
    refine ⟨_, rfl, ⟨fun q q1 q2 q3 => by rw [hg_u_n q1, hg_u_n q1, m5 q q3], fun j j1 j2 => by rw [hg_u_j j2, hg_u_j j1, m5 37 (by omega)]⟩, fun _ => ⟨by omega, by omega, by omega, ?_, ?_⟩, fun z => absurd z c⟩
    · rw [hg_u_j (by omega), hg_u_s]
    · rw [hg_u_s]
theorem ty_field_6_2 {x : zS} {b : Nat → Nat} {L t f e k v : Nat} (h : tx_Y x b L) (h0 : x 40 4 = nI t) (hT : tx_T b L t f e k v) (hz : x 37 6 = nI 0) : ∃ x', f_Tr_readField_37 (nI 6) (nI 2) x = some x' ∧ ty_fr x x' ∧ (¬ tx_q k 1 9 0 v = 0 → ty_bk x' (tx_q k 1 9 0 v) f) ∧ (tx_q k 1 9 0 v = 0 → ty_ok x x' 2 v e) := by
  obtain ⟨x1, m0, m1, m2, m3, m4, m5⟩ := ty_move h h0 hT
  obtain ⟨f1, f2, f3, f4, f5, f6, f7⟩ := tx_T_f hT
  have hL := h.2.1
  have hle := tx_q_le k 1 9 0 v
  unfold f_Tr_readField_37
  rw [m0, z_bs, m1]
  rw [hg_join_to (x := if k = 2 then nI v else (-4 : Int32)) (fun j => by
    rw [z_join_e, if_neg (show ¬ nI 6 = (2 : Int32) by decide)]
    by_cases c2 : k = 2
    · rw [if_pos (show nI k = (2 : Int32) by rw [c2]; rfl), if_pos c2, m4 c2]
    · rw [show (2 : Int32) = nI 2 from rfl, if_neg (show ¬ nI k = nI 2 by rw [nI_eq (by omega) (by omega)]; exact c2), if_neg c2])]
  rw [ty_fault_6_2 m1 f4 f5 rfl, z_bs]
  by_cases c : tx_q k 1 9 0 v = 0
  · have c2 : k = 2 := Classical.byContradiction (fun z => by
      unfold tx_q at c
      by_cases z4 : k = 4
      · rw [if_pos z4] at c; omega
      · rw [if_neg z4, if_pos z] at c; omega)
    rw [c, if_pos (show nI 0 = 0 from rfl), show f_Y_isIn (nI 2) (0 : Int32) (2 : Int32) x1 = some (nI 1) from by rw [y_isIn]; rfl, z_bs, if_neg (show ¬ nI 1 = 0 by decide), if_pos (show z_ib (nI 2) 3 = true by decide), z_let_e, show (nI 2).toNatClampNeg = 2 from rfl, if_pos c2]
    refine ⟨_, rfl, ⟨fun q q1 q2 q3 => by rw [hg_u_n q2, m5 q q3], fun j j1 j2 => by rw [hg_u_n (by omega), m5 37 (by omega)]⟩, fun z => absurd rfl z, fun _ => ⟨?_, ?_, fun j hj => ?_, ?_⟩⟩
    · rw [hg_u_n (by omega), m5 37 (by omega), hz]
    · rw [hg_u_s]
    · rw [hg_u_j hj, m5 39 (by omega)]
    · rw [hg_u_n (by omega), m3]
  · rw [nl0, if_neg (show ¬ nI (tx_q k 1 9 0 v) = nI 0 by rw [nI_eq (by omega) (by omega)]; exact c), ty_fail, z_bs, m2]
    refine ⟨_, rfl, ⟨fun q q1 q2 q3 => by rw [hg_u_n q1, hg_u_n q1, m5 q q3], fun j j1 j2 => by rw [hg_u_j j2, hg_u_j j1, m5 37 (by omega)]⟩, fun _ => ⟨by omega, by omega, by omega, ?_, ?_⟩, fun z => absurd z c⟩
    · rw [hg_u_j (by omega), hg_u_s]
    · rw [hg_u_s]
theorem ty_field_7_0 {x : zS} {b : Nat → Nat} {L t f e k v : Nat} (h : tx_Y x b L) (h0 : x 40 4 = nI t) (hT : tx_T b L t f e k v) (hz : x 37 6 = nI 0) : ∃ x', f_Tr_readField_37 (nI 7) (nI 0) x = some x' ∧ ty_fr x x' ∧ (¬ tx_q k 0 99 0 v = 0 → ty_bk x' (tx_q k 0 99 0 v) f) ∧ (tx_q k 0 99 0 v = 0 → ty_ok x x' 0 v e) := by
  obtain ⟨x1, m0, m1, m2, m3, m4, m5⟩ := ty_move h h0 hT
  obtain ⟨f1, f2, f3, f4, f5, f6, f7⟩ := tx_T_f hT
  have hL := h.2.1
  have hle := tx_q_le k 0 99 0 v
  unfold f_Tr_readField_37
  rw [m0, z_bs, m1]
  rw [hg_join_to (x := if k = 2 then nI v else (-4 : Int32)) (fun j => by
    rw [z_join_e, if_neg (show ¬ nI 7 = (2 : Int32) by decide)]
    by_cases c2 : k = 2
    · rw [if_pos (show nI k = (2 : Int32) by rw [c2]; rfl), if_pos c2, m4 c2]
    · rw [show (2 : Int32) = nI 2 from rfl, if_neg (show ¬ nI k = nI 2 by rw [nI_eq (by omega) (by omega)]; exact c2), if_neg c2])]
  rw [ty_fault_7_0 m1 f4 f5 rfl, z_bs]
  by_cases c : tx_q k 0 99 0 v = 0
  · have c2 : k = 2 := Classical.byContradiction (fun z => by
      unfold tx_q at c
      by_cases z4 : k = 4
      · rw [if_pos z4] at c; omega
      · rw [if_neg z4, if_pos z] at c; omega)
    rw [c, if_pos (show nI 0 = 0 from rfl), show f_Y_isIn (nI 0) (0 : Int32) (2 : Int32) x1 = some (nI 1) from by rw [y_isIn]; rfl, z_bs, if_neg (show ¬ nI 1 = 0 by decide), if_pos (show z_ib (nI 0) 3 = true by decide), z_let_e, show (nI 0).toNatClampNeg = 0 from rfl, if_pos c2]
    refine ⟨_, rfl, ⟨fun q q1 q2 q3 => by rw [hg_u_n q2, m5 q q3], fun j j1 j2 => by rw [hg_u_n (by omega), m5 37 (by omega)]⟩, fun z => absurd rfl z, fun _ => ⟨?_, ?_, fun j hj => ?_, ?_⟩⟩
    · rw [hg_u_n (by omega), m5 37 (by omega), hz]
    · rw [hg_u_s]
    · rw [hg_u_j hj, m5 39 (by omega)]
    · rw [hg_u_n (by omega), m3]
  · rw [nl0, if_neg (show ¬ nI (tx_q k 0 99 0 v) = nI 0 by rw [nI_eq (by omega) (by omega)]; exact c), ty_fail, z_bs, m2]
    refine ⟨_, rfl, ⟨fun q q1 q2 q3 => by rw [hg_u_n q1, hg_u_n q1, m5 q q3], fun j j1 j2 => by rw [hg_u_j j2, hg_u_j j1, m5 37 (by omega)]⟩, fun _ => ⟨by omega, by omega, by omega, ?_, ?_⟩, fun z => absurd z c⟩
    · rw [hg_u_j (by omega), hg_u_s]
    · rw [hg_u_s]
theorem ty_crop {x : zS} {b : Nat → Nat} {L t f e k v n : Nat} (h : tx_Y x b L) (h0 : x 40 4 = nI t) (hT : tx_T b L t f e k v) (hN : tx_N b f e k n) (hz : x 37 6 = nI 0) : ∃ x', f_Tr_readField_37 (nI 2) (nI 1) x = some x' ∧ ty_fr x x' ∧ (¬ (8 ≤ n ∧ n < 13) → ty_bk x' (if k = 4 then 1 else 2) f) ∧ ((8 ≤ n ∧ n < 13) → ty_ok x x' 1 (n - 8) e) := by
  obtain ⟨x1, m0, m1, m2, m3, m4, m5⟩ := ty_move h h0 hT
  obtain ⟨f1, f2, f3, f4, f5, f6, f7⟩ := tx_T_f hT
  have hL := h.2.1
  unfold f_Tr_readField_37
  rw [m0, z_bs, m1]
  rw [hg_join_to (x := if 8 ≤ n ∧ n < 13 then nI (n - 8) else (-4 : Int32)) (fun j => by
    rw [z_join_e, if_pos (show nI 2 = (2 : Int32) from rfl), if_pos (show nI 1 = (1 : Int32) from rfl), ty_cropNamed (tx_Y_c h (m5 35 (by omega)) (m5 36 (by omega))) m1 m2 m3 f4 f2 f3 hN, z_bs])]
  unfold f_Tr_fieldFault_37
  rw [m1]
  by_cases c : 8 ≤ n ∧ n < 13
  · have ck : k = 1 := by
      rcases hN with ⟨a1, a2, a3⟩ | ⟨a1, a2⟩ <;> omega
    rw [if_pos c, show (4 : Int32) = nI 4 from rfl, if_neg (show ¬ nI k = nI 4 by rw [nI_eq (by omega) (by omega)]; omega), if_neg (z_neg (by omega) (by omega) (n - 8) (by omega)), show f_Y_isIn ((3 : Int32) * nI 2 + nI 1) (0 : Int32) ((24 : Int32) - (1 : Int32)) x1 = some (nI 1) from by rw [y_isIn]; rfl, z_bs, if_neg (show ¬ nI 1 = 0 by decide), if_pos (show (3 : Int32) * nI 2 + nI 1 < 24 by decide), if_pos (show z_ib ((3 : Int32) * nI 2 + nI 1) 24 = true by decide), if_pos (show z_ib ((3 : Int32) * nI 2 + nI 1) 24 = true by decide), show (z_sv.getD 2 []).getD ((3 : Int32) * nI 2 + nI 1).toNatClampNeg 0 = nI 0 from rfl, show (z_sv.getD 3 []).getD ((3 : Int32) * nI 2 + nI 1).toNatClampNeg 0 = nI 4 from rfl, ty_isIn (by omega) (by omega) (by omega), z_bs, if_pos (show 0 ≤ n - 8 ∧ n - 8 ≤ 4 by omega), if_neg (show ¬ nI 1 = 0 by decide)]
    rw [hg_join_to (x := (0 : Int32)) (fun j => by rfl), hg_join_to (x := (0 : Int32)) (fun j => by rfl), z_join_e, z_join_e, if_pos rfl, if_pos rfl, z_bs, if_pos rfl, show f_Y_isIn (nI 1) (0 : Int32) (2 : Int32) x1 = some (nI 1) from by rw [y_isIn]; rfl, z_bs, if_neg (show ¬ nI 1 = 0 by decide), if_pos (show z_ib (nI 1) 3 = true by decide), z_let_e, show (nI 1).toNatClampNeg = 1 from rfl]
    refine ⟨_, rfl, ⟨fun q q1 q2 q3 => by rw [hg_u_n q2, m5 q q3], fun j j1 j2 => by rw [hg_u_n (by omega), m5 37 (by omega)]⟩, fun z => absurd c z, fun _ => ⟨?_, ?_, fun j hj => ?_, ?_⟩⟩
    · rw [hg_u_n (by omega), m5 37 (by omega), hz]
    · rw [hg_u_s]
    · rw [hg_u_j hj, m5 39 (by omega)]
    · rw [hg_u_n (by omega), m3]
  · rw [if_neg c]
    by_cases c4 : k = 4
    · rw [if_pos (show nI k = (4 : Int32) by rw [c4]; rfl), z_bs, if_neg (show ¬ (1 : Int32) = 0 by decide), ty_fail, z_bs, m2, if_pos c4]
      refine ⟨_, rfl, ⟨fun q q1 q2 q3 => by rw [hg_u_n q1, hg_u_n q1, m5 q q3], fun j j1 j2 => by rw [hg_u_j j2, hg_u_j j1, m5 37 (by omega)]⟩, fun _ => ⟨by omega, by omega, by omega, ?_, ?_⟩, fun z => absurd z c⟩
      · rw [hg_u_j (by omega), hg_u_s]; rfl
      · rw [hg_u_s]
    · rw [show (4 : Int32) = nI 4 from rfl, if_neg (show ¬ nI k = nI 4 by rw [nI_eq (by omega) (by omega)]; exact c4), if_pos rfl, z_bs, if_neg (show ¬ (2 : Int32) = 0 by decide), ty_fail, z_bs, m2, if_neg c4]
      refine ⟨_, rfl, ⟨fun q q1 q2 q3 => by rw [hg_u_n q1, hg_u_n q1, m5 q q3], fun j j1 j2 => by rw [hg_u_j j2, hg_u_j j1, m5 37 (by omega)]⟩, fun _ => ⟨by omega, by omega, by omega, ?_, ?_⟩, fun z => absurd z c⟩
      · rw [hg_u_j (by omega), hg_u_s]; rfl
      · rw [hg_u_s]
section TO
variable {y : zS} {b : Nat → Nat} {L : Nat}
theorem tm_otherB {w : Nat} {a1 a2 a3 : Int32} (h : y 90 15 = nI w) (h2 : ¬ w = 0) (h3 : w < 2 ^ 31) : f_M_other a1 a2 a3 y = some (a1, y) := by
  have hz : ¬ y 90 15 = 0 := by rw [h, nl0, nI_eq h3 (by omega)]; exact h2
  unfold f_M_other
  rw [hg_join_to (x := y) (fun j => if_neg hz), hg_join_to (x := y) (fun j => if_neg hz), hg_join_to (x := y) (fun j => if_neg hz), hg_join_to (x := a1) (fun j => if_neg hz), tm_stepB h h2 h3, z_bs]
theorem tm_other (h : tx_M y b L) {t f e k v lo hi s : Nat} (hK : tx_tk y f e k v) (hT : tx_T b L t f e k v) (hlo : lo < 100) (hhi : hi < 100) (hs : s < 2 ^ 32) : ∃ r y', f_M_other (nI lo) (nI hi) (nI s) y = some (nI r, y') ∧ tx_fr y y' ∧ (¬ tx_q k lo hi s v = 0 → (r = lo ∧ ∀ j, (j = 17 ∨ j = 18 ∨ j = 19) → y' 90 j = y 90 j) ∧ tm_bk y' (tx_q k lo hi s v) f) ∧ (tx_q k lo hi s v = 0 → r = v ∧ ∃ f' e' k' v', tx_T b L e f' e' k' v' ∧ tx_tk y' f' e' k' v') := by
  obtain ⟨k1, k2, k3, k4⟩ := id hK
  obtain ⟨f1, f2, f3, f4, f5, f6, f7⟩ := tx_T_f hT
  have hL := h.2.1
  have fl : ∀ c : Nat, 1 ≤ c → c ≤ 7 → y 90 15 = nI 0 → f_M_fails (nI c) y = some (z_u (z_u y 90 15 (nI c)) 90 16 (nI f)) ∧ (z_u (z_u y 90 15 (nI c)) 90 16 (nI f)) 90 15 = nI c ∧ (z_u (z_u y 90 15 (nI c)) 90 16 (nI f)) 90 16 = nI f ∧ tx_fr y (z_u (z_u y 90 15 (nI c)) 90 16 (nI f)) := fun c c1 c2 hy => ⟨tm_fails hy k1, by rw [hg_u_j (by omega), hg_u_s], hg_u_s, tx_fr_u (tx_fr_u (tx_fr_r y) (by omega) (by omega)) (by omega) (by omega)⟩
  have hle := tx_q_le k lo hi s v
  by_cases c4 : k = 4
  · obtain ⟨b1, b2⟩ := k3 c4
    have hq : tx_q k lo hi s v = 1 := if_pos c4
    rw [tm_otherB b1 (by omega) (by omega), hq]
    exact ⟨lo, y, rfl, tx_fr_r y, fun _ => ⟨⟨rfl, fun _ _ => rfl⟩, by omega, by omega, by omega, b1, b2.1⟩, fun z => absurd z (by omega)⟩
  · obtain ⟨b1, b2, b3⟩ := k4 c4
    have hy0 : y 90 15 = 0 := b1
    unfold f_M_other
    by_cases c2 : k = 2
    · have hv := f5 c2
      have bv := b3 c2
      rw [hg_join_to (x := y) (fun j => by rw [if_pos hy0, if_pos (show y 90 19 = (2 : Int32) by rw [b2, c2]; rfl)])]
      by_cases c3 : lo ≤ v ∧ v ≤ hi
      · have i1 : f_M_in (y 90 20).toInt64 (nI lo).toInt64 (nI hi).toInt64 y = some (nI 1) := by
          rw [bv, tm_in (lo := lo) (hi := hi) (by omega) (by rw [Int32.toInt_toInt64, nI_toInt (by omega)]) (by rw [Int32.toInt_toInt64, nI_toInt (by omega)]), if_pos c3]
        rw [hg_join_to (x := y) (fun j => by rw [if_pos hy0, i1, z_bs, if_neg (show ¬ nI 1 = 0 by decide)])]
        by_cases ct : v < 32 ∧ s.testBit v = true
        · have hq : tx_q k lo hi s v = 4 := by
            unfold tx_q
            rw [if_neg c4, if_neg (fun z => z c2), if_neg (fun z => z c3), if_pos ct]
          obtain ⟨g1, g2, g3, g4⟩ := fl 4 (by omega) (by omega) b1
          have hz : ¬ (z_u (z_u y 90 15 (nI 4)) 90 16 (nI f)) 90 15 = 0 := by rw [g2]; decide
          rw [hg_join_to (x := z_u (z_u y 90 15 (nI 4)) 90 16 (nI f)) (fun j => by rw [if_pos hy0, bv, show (32 : Int32) = nI 32 from rfl, if_neg (nI_ge ct.1 (by omega)), show (31 : Int32) = nI 31 from rfl, nl1, z_sbit hs ct.1, if_pos ct.2, if_pos rfl, show (4 : Int32) = nI 4 from rfl, g1, z_bs])]
          rw [hg_join_to (x := nI lo) (fun j => if_neg hz), tm_stepB g2 (by omega) (by omega), z_bs, hq]
          exact ⟨_, _, rfl, g4, fun _ => ⟨⟨rfl, fun j hj => by rw [hg_u_j (by omega), hg_u_j (by omega)]⟩, by omega, by omega, by omega, g2, g3⟩, fun z => absurd z (by omega)⟩
        · have hq : tx_q k lo hi s v = 0 := by
            unfold tx_q
            rw [if_neg c4, if_neg (fun z => z c2), if_neg (fun z => z c3), if_neg ct]
          rw [hg_join_to (x := y) (fun j => by
            rw [if_pos hy0, bv, show (32 : Int32) = nI 32 from rfl]
            by_cases c32 : v < 32
            · rw [if_neg (nI_ge c32 (by omega)), show (31 : Int32) = nI 31 from rfl, nl1, z_sbit hs c32, if_neg (fun z => ct ⟨c32, z⟩), if_neg (show ¬ nI 0 = nI 1 by decide)]
            · rw [if_pos (nI_le (show 32 ≤ v by omega) (by omega))])]
          rw [hg_join_to (x := nI v) (fun j => by rw [if_pos hy0, bv])]
          obtain ⟨f', e', k', v', hT'⟩ := tx_T_ex (b := b) f3
          obtain ⟨y', s1, s2, s3⟩ := tm_step h k2 b1 hT'
          rw [s1, z_bs, hq]
          exact ⟨_, _, rfl, s3, fun z => absurd rfl z, fun _ => ⟨rfl, f', e', k', v', hT', s2⟩⟩
      · have hq : tx_q k lo hi s v = 3 := by
          unfold tx_q
          rw [if_neg c4, if_neg (fun z => z c2), if_pos c3]
        have i0 : f_M_in (y 90 20).toInt64 (nI lo).toInt64 (nI hi).toInt64 y = some (nI 0) := by
          rw [bv, tm_in (lo := lo) (hi := hi) (by omega) (by rw [Int32.toInt_toInt64, nI_toInt (by omega)]) (by rw [Int32.toInt_toInt64, nI_toInt (by omega)]), if_neg c3]
        obtain ⟨g1, g2, g3, g4⟩ := fl 3 (by omega) (by omega) b1
        have hz : ¬ (z_u (z_u y 90 15 (nI 3)) 90 16 (nI f)) 90 15 = 0 := by rw [g2]; decide
        rw [hg_join_to (x := z_u (z_u y 90 15 (nI 3)) 90 16 (nI f)) (fun j => by rw [if_pos hy0, i0, z_bs, if_pos (show nI 0 = 0 from rfl), show (3 : Int32) = nI 3 from rfl, g1, z_bs])]
        rw [hg_join_to (x := z_u (z_u y 90 15 (nI 3)) 90 16 (nI f)) (fun j => if_neg hz), hg_join_to (x := nI lo) (fun j => if_neg hz), tm_stepB g2 (by omega) (by omega), z_bs, hq]
        exact ⟨_, _, rfl, g4, fun _ => ⟨⟨rfl, fun j hj => by rw [hg_u_j (by omega), hg_u_j (by omega)]⟩, by omega, by omega, by omega, g2, g3⟩, fun z => absurd z (by omega)⟩
    · have hq : tx_q k lo hi s v = 2 := by
        unfold tx_q
        rw [if_neg c4, if_pos c2]
      obtain ⟨g1, g2, g3, g4⟩ := fl 2 (by omega) (by omega) b1
      have hz : ¬ (z_u (z_u y 90 15 (nI 2)) 90 16 (nI f)) 90 15 = 0 := by rw [g2]; decide
      rw [hg_join_to (x := z_u (z_u y 90 15 (nI 2)) 90 16 (nI f)) (fun j => by rw [if_pos hy0, show (2 : Int32) = nI 2 from rfl, if_neg (show ¬ y 90 19 = nI 2 by rw [b2, nI_eq (by omega) (by omega)]; exact c2), g1, z_bs])]
      rw [hg_join_to (x := z_u (z_u y 90 15 (nI 2)) 90 16 (nI f)) (fun j => if_neg hz), hg_join_to (x := z_u (z_u y 90 15 (nI 2)) 90 16 (nI f)) (fun j => if_neg hz), hg_join_to (x := nI lo) (fun j => if_neg hz), tm_stepB g2 (by omega) (by omega), z_bs, hq]
      exact ⟨_, _, rfl, g4, fun _ => ⟨⟨rfl, fun j hj => by rw [hg_u_j (by omega), hg_u_j (by omega)]⟩, by omega, by omega, by omega, g2, g3⟩, fun z => absurd z (by omega)⟩
end TO
