/-! changes of one place of a garden -/
theorem gs_lay_1 {σ : zS} {p : Nat → Nat} {W H R : Nat} (hR : R ≤ 5) (h : hg_G1 σ p W H R) {c s y : Nat} (hc : c < 16) (hy : ¬ y = 0) : hg_G1 (z_u (z_u σ 2 c (nI s)) 3 c (nI y)) (g_up (g_up p (5 * c) s) (5 * c + 1) y) W H R := by
  obtain ⟨G0, G1, G2, G3, G4, G5, G6, G7, G8, G9, G10, G11, G12, G13, G14, G15, G16, G17⟩ := h
  refine ⟨?_, ?_, ?_, fun c' hc' => ?_, fun c' hc' => ?_, fun c' hc' => ?_, fun c' hc' => ?_, fun c' hc' => ?_, ?_, fun k' hk' => ?_, fun k' hk' => ?_, fun k' hk' => ?_, fun s' hs' => ?_, fun s' hs' => ?_, ?_, ?_, fun o' ho' => ?_, ?_⟩
  · simp (disch := omega) only [hg_u_s, hg_u_j, hg_u_n, g_up_s, g_up_n, g_l, g_k, if_true, if_false, G0]
  · simp (disch := omega) only [hg_u_s, hg_u_j, hg_u_n, g_up_s, g_up_n, g_l, g_k, if_true, if_false, G1]
  · simp (disch := omega) only [hg_u_s, hg_u_j, hg_u_n, g_up_s, g_up_n, g_l, g_k, if_true, if_false, G2]
  · have e := G3 c' hc'
    simp only [g_l, g_k] at e
    by_cases q : c' = c
    · subst q
      simp (disch := omega) only [hg_u_s, hg_u_j, hg_u_n, g_up_s, g_up_n, g_l, g_k, if_true, if_false, e, hy]
    · simp (disch := omega) only [hg_u_s, hg_u_j, hg_u_n, g_up_s, g_up_n, g_l, g_k, if_true, if_false, e]
  · have e := G4 c' hc'
    by_cases q : c' = c
    · subst q
      simp (disch := omega) only [hg_u_s, hg_u_j, hg_u_n, g_up_s, g_up_n, g_l, g_k, if_true, if_false, e, hy]
    · simp (disch := omega) only [hg_u_s, hg_u_j, hg_u_n, g_up_s, g_up_n, g_l, g_k, if_true, if_false, e]
  · have e := G5 c' hc'
    simp only [g_l, g_k] at e
    simp (disch := omega) only [hg_u_s, hg_u_j, hg_u_n, g_up_s, g_up_n, g_l, g_k, if_true, if_false, e]
  · have e := G6 c' hc'
    simp (disch := omega) only [hg_u_s, hg_u_j, hg_u_n, g_up_s, g_up_n, g_l, g_k, if_true, if_false, e]
  · have e := G7 c' hc'
    simp (disch := omega) only [hg_u_s, hg_u_j, hg_u_n, g_up_s, g_up_n, g_l, g_k, if_true, if_false, e]
  · simp (disch := omega) only [hg_u_s, hg_u_j, hg_u_n, g_up_s, g_up_n, g_l, g_k, if_true, if_false, G8]
  · have e := G9 k' hk'
    simp (disch := omega) only [hg_u_s, hg_u_j, hg_u_n, g_up_s, g_up_n, g_l, g_k, if_true, if_false, e]
  · have e := G10 k' hk'
    simp (disch := omega) only [hg_u_s, hg_u_j, hg_u_n, g_up_s, g_up_n, g_l, g_k, if_true, if_false, e]
  · have e := G11 k' hk'
    simp (disch := omega) only [hg_u_s, hg_u_j, hg_u_n, g_up_s, g_up_n, g_l, g_k, if_true, if_false, e]
  · have e := G12 s' hs'
    simp (disch := omega) only [hg_u_s, hg_u_j, hg_u_n, g_up_s, g_up_n, g_l, g_k, if_true, if_false, e]
  · have e := G13 s' hs'
    simp (disch := omega) only [hg_u_s, hg_u_j, hg_u_n, g_up_s, g_up_n, g_l, g_k, if_true, if_false, e]
  · simp (disch := omega) only [hg_u_s, hg_u_j, hg_u_n, g_up_s, g_up_n, g_l, g_k, if_true, if_false, G14]
  · simp (disch := omega) only [hg_u_s, hg_u_j, hg_u_n, g_up_s, g_up_n, g_l, g_k, if_true, if_false, G15]
  · have e := G16 o' ho'
    simp (disch := omega) only [hg_u_s, hg_u_j, hg_u_n, g_up_s, g_up_n, g_l, g_k, if_true, if_false, e]
  · simp (disch := omega) only [hg_u_s, hg_u_j, hg_u_n, g_up_s, g_up_n, g_l, g_k, if_true, if_false, G17]
theorem gs_bare_1 {σ : zS} {p : Nat → Nat} {W H R : Nat} (hR : R ≤ 5) (h : hg_G1 σ p W H R) {c : Nat} (hc : c < 16) : hg_G1 (z_u (z_u σ 2 c (nI 4)) 3 c (nI 0)) (g_up p (5 * c + 1) 0) W H R := by
  obtain ⟨G0, G1, G2, G3, G4, G5, G6, G7, G8, G9, G10, G11, G12, G13, G14, G15, G16, G17⟩ := h
  refine ⟨?_, ?_, ?_, fun c' hc' => ?_, fun c' hc' => ?_, fun c' hc' => ?_, fun c' hc' => ?_, fun c' hc' => ?_, ?_, fun k' hk' => ?_, fun k' hk' => ?_, fun k' hk' => ?_, fun s' hs' => ?_, fun s' hs' => ?_, ?_, ?_, fun o' ho' => ?_, ?_⟩
  · simp (disch := omega) only [hg_u_s, hg_u_j, hg_u_n, g_up_s, g_up_n, g_l, g_k, if_true, if_false, G0]
  · simp (disch := omega) only [hg_u_s, hg_u_j, hg_u_n, g_up_s, g_up_n, g_l, g_k, if_true, if_false, G1]
  · simp (disch := omega) only [hg_u_s, hg_u_j, hg_u_n, g_up_s, g_up_n, g_l, g_k, if_true, if_false, G2]
  · have e := G3 c' hc'
    simp only [g_l, g_k] at e
    by_cases q : c' = c
    · subst q
      simp (disch := omega) only [hg_u_s, hg_u_j, hg_u_n, g_up_s, g_up_n, g_l, g_k, if_true, if_false, e]
    · simp (disch := omega) only [hg_u_s, hg_u_j, hg_u_n, g_up_s, g_up_n, g_l, g_k, if_true, if_false, e]
  · have e := G4 c' hc'
    by_cases q : c' = c
    · subst q
      simp (disch := omega) only [hg_u_s, hg_u_j, hg_u_n, g_up_s, g_up_n, g_l, g_k, if_true, if_false, e]
    · simp (disch := omega) only [hg_u_s, hg_u_j, hg_u_n, g_up_s, g_up_n, g_l, g_k, if_true, if_false, e]
  · have e := G5 c' hc'
    simp only [g_l, g_k] at e
    simp (disch := omega) only [hg_u_s, hg_u_j, hg_u_n, g_up_s, g_up_n, g_l, g_k, if_true, if_false, e]
  · have e := G6 c' hc'
    simp (disch := omega) only [hg_u_s, hg_u_j, hg_u_n, g_up_s, g_up_n, g_l, g_k, if_true, if_false, e]
  · have e := G7 c' hc'
    simp (disch := omega) only [hg_u_s, hg_u_j, hg_u_n, g_up_s, g_up_n, g_l, g_k, if_true, if_false, e]
  · simp (disch := omega) only [hg_u_s, hg_u_j, hg_u_n, g_up_s, g_up_n, g_l, g_k, if_true, if_false, G8]
  · have e := G9 k' hk'
    simp (disch := omega) only [hg_u_s, hg_u_j, hg_u_n, g_up_s, g_up_n, g_l, g_k, if_true, if_false, e]
  · have e := G10 k' hk'
    simp (disch := omega) only [hg_u_s, hg_u_j, hg_u_n, g_up_s, g_up_n, g_l, g_k, if_true, if_false, e]
  · have e := G11 k' hk'
    simp (disch := omega) only [hg_u_s, hg_u_j, hg_u_n, g_up_s, g_up_n, g_l, g_k, if_true, if_false, e]
  · have e := G12 s' hs'
    simp (disch := omega) only [hg_u_s, hg_u_j, hg_u_n, g_up_s, g_up_n, g_l, g_k, if_true, if_false, e]
  · have e := G13 s' hs'
    simp (disch := omega) only [hg_u_s, hg_u_j, hg_u_n, g_up_s, g_up_n, g_l, g_k, if_true, if_false, e]
  · simp (disch := omega) only [hg_u_s, hg_u_j, hg_u_n, g_up_s, g_up_n, g_l, g_k, if_true, if_false, G14]
  · simp (disch := omega) only [hg_u_s, hg_u_j, hg_u_n, g_up_s, g_up_n, g_l, g_k, if_true, if_false, G15]
  · have e := G16 o' ho'
    simp (disch := omega) only [hg_u_s, hg_u_j, hg_u_n, g_up_s, g_up_n, g_l, g_k, if_true, if_false, e]
  · simp (disch := omega) only [hg_u_s, hg_u_j, hg_u_n, g_up_s, g_up_n, g_l, g_k, if_true, if_false, G17]
theorem gs_crop_1 {σ : zS} {p : Nat → Nat} {W H R : Nat} (hR : R ≤ 5) (h : hg_G1 σ p W H R) {c k : Nat} (hc : c < 16) : hg_G1 (z_u (z_u σ 4 c (if k = 0 then - nI 4 else nI (k - 1))) 5 c (nI 0)) (g_up (g_up p (5 * c + 2) k) (5 * c + 3) 0) W H R := by
  obtain ⟨G0, G1, G2, G3, G4, G5, G6, G7, G8, G9, G10, G11, G12, G13, G14, G15, G16, G17⟩ := h
  refine ⟨?_, ?_, ?_, fun c' hc' => ?_, fun c' hc' => ?_, fun c' hc' => ?_, fun c' hc' => ?_, fun c' hc' => ?_, ?_, fun k' hk' => ?_, fun k' hk' => ?_, fun k' hk' => ?_, fun s' hs' => ?_, fun s' hs' => ?_, ?_, ?_, fun o' ho' => ?_, ?_⟩
  · simp (disch := omega) only [hg_u_s, hg_u_j, hg_u_n, g_up_s, g_up_n, g_l, g_k, if_true, if_false, G0]
  · simp (disch := omega) only [hg_u_s, hg_u_j, hg_u_n, g_up_s, g_up_n, g_l, g_k, if_true, if_false, G1]
  · simp (disch := omega) only [hg_u_s, hg_u_j, hg_u_n, g_up_s, g_up_n, g_l, g_k, if_true, if_false, G2]
  · have e := G3 c' hc'
    simp only [g_l, g_k] at e
    simp (disch := omega) only [hg_u_s, hg_u_j, hg_u_n, g_up_s, g_up_n, g_l, g_k, if_true, if_false, e]
  · have e := G4 c' hc'
    simp (disch := omega) only [hg_u_s, hg_u_j, hg_u_n, g_up_s, g_up_n, g_l, g_k, if_true, if_false, e]
  · have e := G5 c' hc'
    simp only [g_l, g_k] at e
    by_cases q : c' = c
    · subst q
      simp (disch := omega) only [hg_u_s, hg_u_j, hg_u_n, g_up_s, g_up_n, g_l, g_k, if_true, if_false, e]
    · simp (disch := omega) only [hg_u_s, hg_u_j, hg_u_n, g_up_s, g_up_n, g_l, g_k, if_true, if_false, e]
  · have e := G6 c' hc'
    by_cases q : c' = c
    · subst q
      simp (disch := omega) only [hg_u_s, hg_u_j, hg_u_n, g_up_s, g_up_n, g_l, g_k, if_true, if_false, e]
    · simp (disch := omega) only [hg_u_s, hg_u_j, hg_u_n, g_up_s, g_up_n, g_l, g_k, if_true, if_false, e]
  · have e := G7 c' hc'
    simp (disch := omega) only [hg_u_s, hg_u_j, hg_u_n, g_up_s, g_up_n, g_l, g_k, if_true, if_false, e]
  · simp (disch := omega) only [hg_u_s, hg_u_j, hg_u_n, g_up_s, g_up_n, g_l, g_k, if_true, if_false, G8]
  · have e := G9 k' hk'
    simp (disch := omega) only [hg_u_s, hg_u_j, hg_u_n, g_up_s, g_up_n, g_l, g_k, if_true, if_false, e]
  · have e := G10 k' hk'
    simp (disch := omega) only [hg_u_s, hg_u_j, hg_u_n, g_up_s, g_up_n, g_l, g_k, if_true, if_false, e]
  · have e := G11 k' hk'
    simp (disch := omega) only [hg_u_s, hg_u_j, hg_u_n, g_up_s, g_up_n, g_l, g_k, if_true, if_false, e]
  · have e := G12 s' hs'
    simp (disch := omega) only [hg_u_s, hg_u_j, hg_u_n, g_up_s, g_up_n, g_l, g_k, if_true, if_false, e]
  · have e := G13 s' hs'
    simp (disch := omega) only [hg_u_s, hg_u_j, hg_u_n, g_up_s, g_up_n, g_l, g_k, if_true, if_false, e]
  · simp (disch := omega) only [hg_u_s, hg_u_j, hg_u_n, g_up_s, g_up_n, g_l, g_k, if_true, if_false, G14]
  · simp (disch := omega) only [hg_u_s, hg_u_j, hg_u_n, g_up_s, g_up_n, g_l, g_k, if_true, if_false, G15]
  · have e := G16 o' ho'
    simp (disch := omega) only [hg_u_s, hg_u_j, hg_u_n, g_up_s, g_up_n, g_l, g_k, if_true, if_false, e]
  · simp (disch := omega) only [hg_u_s, hg_u_j, hg_u_n, g_up_s, g_up_n, g_l, g_k, if_true, if_false, G17]
theorem gs_own_1 {σ : zS} {p : Nat → Nat} {W H R : Nat} (hR : R ≤ 5) (h : hg_G1 σ p W H R) {c k : Nat} (hc : c < 16) : hg_G1 (z_u σ 6 c (nI k)) (g_up p (5 * c + 4) k) W H R := by
  obtain ⟨G0, G1, G2, G3, G4, G5, G6, G7, G8, G9, G10, G11, G12, G13, G14, G15, G16, G17⟩ := h
  refine ⟨?_, ?_, ?_, fun c' hc' => ?_, fun c' hc' => ?_, fun c' hc' => ?_, fun c' hc' => ?_, fun c' hc' => ?_, ?_, fun k' hk' => ?_, fun k' hk' => ?_, fun k' hk' => ?_, fun s' hs' => ?_, fun s' hs' => ?_, ?_, ?_, fun o' ho' => ?_, ?_⟩
  · simp (disch := omega) only [hg_u_s, hg_u_j, hg_u_n, g_up_s, g_up_n, g_l, g_k, if_true, if_false, G0]
  · simp (disch := omega) only [hg_u_s, hg_u_j, hg_u_n, g_up_s, g_up_n, g_l, g_k, if_true, if_false, G1]
  · simp (disch := omega) only [hg_u_s, hg_u_j, hg_u_n, g_up_s, g_up_n, g_l, g_k, if_true, if_false, G2]
  · have e := G3 c' hc'
    simp only [g_l, g_k] at e
    simp (disch := omega) only [hg_u_s, hg_u_j, hg_u_n, g_up_s, g_up_n, g_l, g_k, if_true, if_false, e]
  · have e := G4 c' hc'
    simp (disch := omega) only [hg_u_s, hg_u_j, hg_u_n, g_up_s, g_up_n, g_l, g_k, if_true, if_false, e]
  · have e := G5 c' hc'
    simp only [g_l, g_k] at e
    simp (disch := omega) only [hg_u_s, hg_u_j, hg_u_n, g_up_s, g_up_n, g_l, g_k, if_true, if_false, e]
  · have e := G6 c' hc'
    simp (disch := omega) only [hg_u_s, hg_u_j, hg_u_n, g_up_s, g_up_n, g_l, g_k, if_true, if_false, e]
  · have e := G7 c' hc'
    by_cases q : c' = c
    · subst q
      simp (disch := omega) only [hg_u_s, hg_u_j, hg_u_n, g_up_s, g_up_n, g_l, g_k, if_true, if_false, e]
    · simp (disch := omega) only [hg_u_s, hg_u_j, hg_u_n, g_up_s, g_up_n, g_l, g_k, if_true, if_false, e]
  · simp (disch := omega) only [hg_u_s, hg_u_j, hg_u_n, g_up_s, g_up_n, g_l, g_k, if_true, if_false, G8]
  · have e := G9 k' hk'
    simp (disch := omega) only [hg_u_s, hg_u_j, hg_u_n, g_up_s, g_up_n, g_l, g_k, if_true, if_false, e]
  · have e := G10 k' hk'
    simp (disch := omega) only [hg_u_s, hg_u_j, hg_u_n, g_up_s, g_up_n, g_l, g_k, if_true, if_false, e]
  · have e := G11 k' hk'
    simp (disch := omega) only [hg_u_s, hg_u_j, hg_u_n, g_up_s, g_up_n, g_l, g_k, if_true, if_false, e]
  · have e := G12 s' hs'
    simp (disch := omega) only [hg_u_s, hg_u_j, hg_u_n, g_up_s, g_up_n, g_l, g_k, if_true, if_false, e]
  · have e := G13 s' hs'
    simp (disch := omega) only [hg_u_s, hg_u_j, hg_u_n, g_up_s, g_up_n, g_l, g_k, if_true, if_false, e]
  · simp (disch := omega) only [hg_u_s, hg_u_j, hg_u_n, g_up_s, g_up_n, g_l, g_k, if_true, if_false, G14]
  · simp (disch := omega) only [hg_u_s, hg_u_j, hg_u_n, g_up_s, g_up_n, g_l, g_k, if_true, if_false, G15]
  · have e := G16 o' ho'
    simp (disch := omega) only [hg_u_s, hg_u_j, hg_u_n, g_up_s, g_up_n, g_l, g_k, if_true, if_false, e]
  · simp (disch := omega) only [hg_u_s, hg_u_j, hg_u_n, g_up_s, g_up_n, g_l, g_k, if_true, if_false, G17]
theorem gs_wall_1 {σ : zS} {p : Nat → Nat} {W H R : Nat} (hR : R ≤ 5) (h : hg_G1 σ p W H R) {w : Nat} : hg_G1 (z_u σ 1 7 (nI w)) (g_up p 80 w) W H R := by
  obtain ⟨G0, G1, G2, G3, G4, G5, G6, G7, G8, G9, G10, G11, G12, G13, G14, G15, G16, G17⟩ := h
  refine ⟨?_, ?_, ?_, fun c' hc' => ?_, fun c' hc' => ?_, fun c' hc' => ?_, fun c' hc' => ?_, fun c' hc' => ?_, ?_, fun k' hk' => ?_, fun k' hk' => ?_, fun k' hk' => ?_, fun s' hs' => ?_, fun s' hs' => ?_, ?_, ?_, fun o' ho' => ?_, ?_⟩
  · simp (disch := omega) only [hg_u_s, hg_u_j, hg_u_n, g_up_s, g_up_n, g_l, g_k, if_true, if_false, G0]
  · simp (disch := omega) only [hg_u_s, hg_u_j, hg_u_n, g_up_s, g_up_n, g_l, g_k, if_true, if_false, G1]
  · simp (disch := omega) only [hg_u_s, hg_u_j, hg_u_n, g_up_s, g_up_n, g_l, g_k, if_true, if_false, G2]
  · have e := G3 c' hc'
    simp only [g_l, g_k] at e
    simp (disch := omega) only [hg_u_s, hg_u_j, hg_u_n, g_up_s, g_up_n, g_l, g_k, if_true, if_false, e]
  · have e := G4 c' hc'
    simp (disch := omega) only [hg_u_s, hg_u_j, hg_u_n, g_up_s, g_up_n, g_l, g_k, if_true, if_false, e]
  · have e := G5 c' hc'
    simp only [g_l, g_k] at e
    simp (disch := omega) only [hg_u_s, hg_u_j, hg_u_n, g_up_s, g_up_n, g_l, g_k, if_true, if_false, e]
  · have e := G6 c' hc'
    simp (disch := omega) only [hg_u_s, hg_u_j, hg_u_n, g_up_s, g_up_n, g_l, g_k, if_true, if_false, e]
  · have e := G7 c' hc'
    simp (disch := omega) only [hg_u_s, hg_u_j, hg_u_n, g_up_s, g_up_n, g_l, g_k, if_true, if_false, e]
  · simp (disch := omega) only [hg_u_s, hg_u_j, hg_u_n, g_up_s, g_up_n, g_l, g_k, if_true, if_false, G8]
  · have e := G9 k' hk'
    simp (disch := omega) only [hg_u_s, hg_u_j, hg_u_n, g_up_s, g_up_n, g_l, g_k, if_true, if_false, e]
  · have e := G10 k' hk'
    simp (disch := omega) only [hg_u_s, hg_u_j, hg_u_n, g_up_s, g_up_n, g_l, g_k, if_true, if_false, e]
  · have e := G11 k' hk'
    simp (disch := omega) only [hg_u_s, hg_u_j, hg_u_n, g_up_s, g_up_n, g_l, g_k, if_true, if_false, e]
  · have e := G12 s' hs'
    simp (disch := omega) only [hg_u_s, hg_u_j, hg_u_n, g_up_s, g_up_n, g_l, g_k, if_true, if_false, e]
  · have e := G13 s' hs'
    simp (disch := omega) only [hg_u_s, hg_u_j, hg_u_n, g_up_s, g_up_n, g_l, g_k, if_true, if_false, e]
  · simp (disch := omega) only [hg_u_s, hg_u_j, hg_u_n, g_up_s, g_up_n, g_l, g_k, if_true, if_false, G14]
  · simp (disch := omega) only [hg_u_s, hg_u_j, hg_u_n, g_up_s, g_up_n, g_l, g_k, if_true, if_false, G15]
  · have e := G16 o' ho'
    simp (disch := omega) only [hg_u_s, hg_u_j, hg_u_n, g_up_s, g_up_n, g_l, g_k, if_true, if_false, e]
  · simp (disch := omega) only [hg_u_s, hg_u_j, hg_u_n, g_up_s, g_up_n, g_l, g_k, if_true, if_false, G17]
theorem gs_stock_1 {σ : zS} {p : Nat → Nat} {W H R : Nat} (hR : R ≤ 5) (h : hg_G1 σ p W H R) {s w : Nat} (hs : s < 4) : hg_G1 (z_u σ 12 s (nI w)) (g_up p (96 + 2 * s) w) W H R := by
  obtain ⟨G0, G1, G2, G3, G4, G5, G6, G7, G8, G9, G10, G11, G12, G13, G14, G15, G16, G17⟩ := h
  refine ⟨?_, ?_, ?_, fun c' hc' => ?_, fun c' hc' => ?_, fun c' hc' => ?_, fun c' hc' => ?_, fun c' hc' => ?_, ?_, fun k' hk' => ?_, fun k' hk' => ?_, fun k' hk' => ?_, fun s' hs' => ?_, fun s' hs' => ?_, ?_, ?_, fun o' ho' => ?_, ?_⟩
  · simp (disch := omega) only [hg_u_s, hg_u_j, hg_u_n, g_up_s, g_up_n, g_l, g_k, if_true, if_false, G0]
  · simp (disch := omega) only [hg_u_s, hg_u_j, hg_u_n, g_up_s, g_up_n, g_l, g_k, if_true, if_false, G1]
  · simp (disch := omega) only [hg_u_s, hg_u_j, hg_u_n, g_up_s, g_up_n, g_l, g_k, if_true, if_false, G2]
  · have e := G3 c' hc'
    simp only [g_l, g_k] at e
    simp (disch := omega) only [hg_u_s, hg_u_j, hg_u_n, g_up_s, g_up_n, g_l, g_k, if_true, if_false, e]
  · have e := G4 c' hc'
    simp (disch := omega) only [hg_u_s, hg_u_j, hg_u_n, g_up_s, g_up_n, g_l, g_k, if_true, if_false, e]
  · have e := G5 c' hc'
    simp only [g_l, g_k] at e
    simp (disch := omega) only [hg_u_s, hg_u_j, hg_u_n, g_up_s, g_up_n, g_l, g_k, if_true, if_false, e]
  · have e := G6 c' hc'
    simp (disch := omega) only [hg_u_s, hg_u_j, hg_u_n, g_up_s, g_up_n, g_l, g_k, if_true, if_false, e]
  · have e := G7 c' hc'
    simp (disch := omega) only [hg_u_s, hg_u_j, hg_u_n, g_up_s, g_up_n, g_l, g_k, if_true, if_false, e]
  · simp (disch := omega) only [hg_u_s, hg_u_j, hg_u_n, g_up_s, g_up_n, g_l, g_k, if_true, if_false, G8]
  · have e := G9 k' hk'
    simp (disch := omega) only [hg_u_s, hg_u_j, hg_u_n, g_up_s, g_up_n, g_l, g_k, if_true, if_false, e]
  · have e := G10 k' hk'
    simp (disch := omega) only [hg_u_s, hg_u_j, hg_u_n, g_up_s, g_up_n, g_l, g_k, if_true, if_false, e]
  · have e := G11 k' hk'
    simp (disch := omega) only [hg_u_s, hg_u_j, hg_u_n, g_up_s, g_up_n, g_l, g_k, if_true, if_false, e]
  · have e := G12 s' hs'
    by_cases q : s' = s
    · subst q
      simp (disch := omega) only [hg_u_s, hg_u_j, hg_u_n, g_up_s, g_up_n, g_l, g_k, if_true, if_false, e]
    · simp (disch := omega) only [hg_u_s, hg_u_j, hg_u_n, g_up_s, g_up_n, g_l, g_k, if_true, if_false, e]
  · have e := G13 s' hs'
    simp (disch := omega) only [hg_u_s, hg_u_j, hg_u_n, g_up_s, g_up_n, g_l, g_k, if_true, if_false, e]
  · simp (disch := omega) only [hg_u_s, hg_u_j, hg_u_n, g_up_s, g_up_n, g_l, g_k, if_true, if_false, G14]
  · simp (disch := omega) only [hg_u_s, hg_u_j, hg_u_n, g_up_s, g_up_n, g_l, g_k, if_true, if_false, G15]
  · have e := G16 o' ho'
    simp (disch := omega) only [hg_u_s, hg_u_j, hg_u_n, g_up_s, g_up_n, g_l, g_k, if_true, if_false, e]
  · simp (disch := omega) only [hg_u_s, hg_u_j, hg_u_n, g_up_s, g_up_n, g_l, g_k, if_true, if_false, G17]
theorem gs_price_1 {σ : zS} {p : Nat → Nat} {W H R : Nat} (hR : R ≤ 5) (h : hg_G1 σ p W H R) {s w : Nat} (hs : s < 4) : hg_G1 (z_u σ 13 s (nI (w + 1))) (g_up p (97 + 2 * s) w) W H R := by
  obtain ⟨G0, G1, G2, G3, G4, G5, G6, G7, G8, G9, G10, G11, G12, G13, G14, G15, G16, G17⟩ := h
  refine ⟨?_, ?_, ?_, fun c' hc' => ?_, fun c' hc' => ?_, fun c' hc' => ?_, fun c' hc' => ?_, fun c' hc' => ?_, ?_, fun k' hk' => ?_, fun k' hk' => ?_, fun k' hk' => ?_, fun s' hs' => ?_, fun s' hs' => ?_, ?_, ?_, fun o' ho' => ?_, ?_⟩
  · simp (disch := omega) only [hg_u_s, hg_u_j, hg_u_n, g_up_s, g_up_n, g_l, g_k, if_true, if_false, G0]
  · simp (disch := omega) only [hg_u_s, hg_u_j, hg_u_n, g_up_s, g_up_n, g_l, g_k, if_true, if_false, G1]
  · simp (disch := omega) only [hg_u_s, hg_u_j, hg_u_n, g_up_s, g_up_n, g_l, g_k, if_true, if_false, G2]
  · have e := G3 c' hc'
    simp only [g_l, g_k] at e
    simp (disch := omega) only [hg_u_s, hg_u_j, hg_u_n, g_up_s, g_up_n, g_l, g_k, if_true, if_false, e]
  · have e := G4 c' hc'
    simp (disch := omega) only [hg_u_s, hg_u_j, hg_u_n, g_up_s, g_up_n, g_l, g_k, if_true, if_false, e]
  · have e := G5 c' hc'
    simp only [g_l, g_k] at e
    simp (disch := omega) only [hg_u_s, hg_u_j, hg_u_n, g_up_s, g_up_n, g_l, g_k, if_true, if_false, e]
  · have e := G6 c' hc'
    simp (disch := omega) only [hg_u_s, hg_u_j, hg_u_n, g_up_s, g_up_n, g_l, g_k, if_true, if_false, e]
  · have e := G7 c' hc'
    simp (disch := omega) only [hg_u_s, hg_u_j, hg_u_n, g_up_s, g_up_n, g_l, g_k, if_true, if_false, e]
  · simp (disch := omega) only [hg_u_s, hg_u_j, hg_u_n, g_up_s, g_up_n, g_l, g_k, if_true, if_false, G8]
  · have e := G9 k' hk'
    simp (disch := omega) only [hg_u_s, hg_u_j, hg_u_n, g_up_s, g_up_n, g_l, g_k, if_true, if_false, e]
  · have e := G10 k' hk'
    simp (disch := omega) only [hg_u_s, hg_u_j, hg_u_n, g_up_s, g_up_n, g_l, g_k, if_true, if_false, e]
  · have e := G11 k' hk'
    simp (disch := omega) only [hg_u_s, hg_u_j, hg_u_n, g_up_s, g_up_n, g_l, g_k, if_true, if_false, e]
  · have e := G12 s' hs'
    simp (disch := omega) only [hg_u_s, hg_u_j, hg_u_n, g_up_s, g_up_n, g_l, g_k, if_true, if_false, e]
  · have e := G13 s' hs'
    by_cases q : s' = s
    · subst q
      simp (disch := omega) only [hg_u_s, hg_u_j, hg_u_n, g_up_s, g_up_n, g_l, g_k, if_true, if_false, e]
    · simp (disch := omega) only [hg_u_s, hg_u_j, hg_u_n, g_up_s, g_up_n, g_l, g_k, if_true, if_false, e]
  · simp (disch := omega) only [hg_u_s, hg_u_j, hg_u_n, g_up_s, g_up_n, g_l, g_k, if_true, if_false, G14]
  · simp (disch := omega) only [hg_u_s, hg_u_j, hg_u_n, g_up_s, g_up_n, g_l, g_k, if_true, if_false, G15]
  · have e := G16 o' ho'
    simp (disch := omega) only [hg_u_s, hg_u_j, hg_u_n, g_up_s, g_up_n, g_l, g_k, if_true, if_false, e]
  · simp (disch := omega) only [hg_u_s, hg_u_j, hg_u_n, g_up_s, g_up_n, g_l, g_k, if_true, if_false, G17]
theorem gs_purse_1 {σ : zS} {p : Nat → Nat} {W H R : Nat} (hR : R ≤ 5) (h : hg_G1 σ p W H R) {w : Nat} : hg_G1 (z_u σ 11 2 (nI w)) (g_up p 104 w) W H R := by
  obtain ⟨G0, G1, G2, G3, G4, G5, G6, G7, G8, G9, G10, G11, G12, G13, G14, G15, G16, G17⟩ := h
  refine ⟨?_, ?_, ?_, fun c' hc' => ?_, fun c' hc' => ?_, fun c' hc' => ?_, fun c' hc' => ?_, fun c' hc' => ?_, ?_, fun k' hk' => ?_, fun k' hk' => ?_, fun k' hk' => ?_, fun s' hs' => ?_, fun s' hs' => ?_, ?_, ?_, fun o' ho' => ?_, ?_⟩
  · simp (disch := omega) only [hg_u_s, hg_u_j, hg_u_n, g_up_s, g_up_n, g_l, g_k, if_true, if_false, G0]
  · simp (disch := omega) only [hg_u_s, hg_u_j, hg_u_n, g_up_s, g_up_n, g_l, g_k, if_true, if_false, G1]
  · simp (disch := omega) only [hg_u_s, hg_u_j, hg_u_n, g_up_s, g_up_n, g_l, g_k, if_true, if_false, G2]
  · have e := G3 c' hc'
    simp only [g_l, g_k] at e
    simp (disch := omega) only [hg_u_s, hg_u_j, hg_u_n, g_up_s, g_up_n, g_l, g_k, if_true, if_false, e]
  · have e := G4 c' hc'
    simp (disch := omega) only [hg_u_s, hg_u_j, hg_u_n, g_up_s, g_up_n, g_l, g_k, if_true, if_false, e]
  · have e := G5 c' hc'
    simp only [g_l, g_k] at e
    simp (disch := omega) only [hg_u_s, hg_u_j, hg_u_n, g_up_s, g_up_n, g_l, g_k, if_true, if_false, e]
  · have e := G6 c' hc'
    simp (disch := omega) only [hg_u_s, hg_u_j, hg_u_n, g_up_s, g_up_n, g_l, g_k, if_true, if_false, e]
  · have e := G7 c' hc'
    simp (disch := omega) only [hg_u_s, hg_u_j, hg_u_n, g_up_s, g_up_n, g_l, g_k, if_true, if_false, e]
  · simp (disch := omega) only [hg_u_s, hg_u_j, hg_u_n, g_up_s, g_up_n, g_l, g_k, if_true, if_false, G8]
  · have e := G9 k' hk'
    simp (disch := omega) only [hg_u_s, hg_u_j, hg_u_n, g_up_s, g_up_n, g_l, g_k, if_true, if_false, e]
  · have e := G10 k' hk'
    simp (disch := omega) only [hg_u_s, hg_u_j, hg_u_n, g_up_s, g_up_n, g_l, g_k, if_true, if_false, e]
  · have e := G11 k' hk'
    simp (disch := omega) only [hg_u_s, hg_u_j, hg_u_n, g_up_s, g_up_n, g_l, g_k, if_true, if_false, e]
  · have e := G12 s' hs'
    simp (disch := omega) only [hg_u_s, hg_u_j, hg_u_n, g_up_s, g_up_n, g_l, g_k, if_true, if_false, e]
  · have e := G13 s' hs'
    simp (disch := omega) only [hg_u_s, hg_u_j, hg_u_n, g_up_s, g_up_n, g_l, g_k, if_true, if_false, e]
  · simp (disch := omega) only [hg_u_s, hg_u_j, hg_u_n, g_up_s, g_up_n, g_l, g_k, if_true, if_false, G14]
  · simp (disch := omega) only [hg_u_s, hg_u_j, hg_u_n, g_up_s, g_up_n, g_l, g_k, if_true, if_false, G15]
  · have e := G16 o' ho'
    simp (disch := omega) only [hg_u_s, hg_u_j, hg_u_n, g_up_s, g_up_n, g_l, g_k, if_true, if_false, e]
  · simp (disch := omega) only [hg_u_s, hg_u_j, hg_u_n, g_up_s, g_up_n, g_l, g_k, if_true, if_false, G17]
theorem gs_bite_1 {σ : zS} {p : Nat → Nat} {W H R : Nat} (hR : R ≤ 5) (h : hg_G1 σ p W H R) {k w : Nat} (hk : k < R) : hg_G1 (z_u σ 10 k (nI w)) (g_up p (83 + 3 * k) w) W H R := by
  obtain ⟨G0, G1, G2, G3, G4, G5, G6, G7, G8, G9, G10, G11, G12, G13, G14, G15, G16, G17⟩ := h
  refine ⟨?_, ?_, ?_, fun c' hc' => ?_, fun c' hc' => ?_, fun c' hc' => ?_, fun c' hc' => ?_, fun c' hc' => ?_, ?_, fun k' hk' => ?_, fun k' hk' => ?_, fun k' hk' => ?_, fun s' hs' => ?_, fun s' hs' => ?_, ?_, ?_, fun o' ho' => ?_, ?_⟩
  · simp (disch := omega) only [hg_u_s, hg_u_j, hg_u_n, g_up_s, g_up_n, g_l, g_k, if_true, if_false, G0]
  · simp (disch := omega) only [hg_u_s, hg_u_j, hg_u_n, g_up_s, g_up_n, g_l, g_k, if_true, if_false, G1]
  · simp (disch := omega) only [hg_u_s, hg_u_j, hg_u_n, g_up_s, g_up_n, g_l, g_k, if_true, if_false, G2]
  · have e := G3 c' hc'
    simp only [g_l, g_k] at e
    simp (disch := omega) only [hg_u_s, hg_u_j, hg_u_n, g_up_s, g_up_n, g_l, g_k, if_true, if_false, e]
  · have e := G4 c' hc'
    simp (disch := omega) only [hg_u_s, hg_u_j, hg_u_n, g_up_s, g_up_n, g_l, g_k, if_true, if_false, e]
  · have e := G5 c' hc'
    simp only [g_l, g_k] at e
    simp (disch := omega) only [hg_u_s, hg_u_j, hg_u_n, g_up_s, g_up_n, g_l, g_k, if_true, if_false, e]
  · have e := G6 c' hc'
    simp (disch := omega) only [hg_u_s, hg_u_j, hg_u_n, g_up_s, g_up_n, g_l, g_k, if_true, if_false, e]
  · have e := G7 c' hc'
    simp (disch := omega) only [hg_u_s, hg_u_j, hg_u_n, g_up_s, g_up_n, g_l, g_k, if_true, if_false, e]
  · simp (disch := omega) only [hg_u_s, hg_u_j, hg_u_n, g_up_s, g_up_n, g_l, g_k, if_true, if_false, G8]
  · have e := G9 k' hk'
    simp (disch := omega) only [hg_u_s, hg_u_j, hg_u_n, g_up_s, g_up_n, g_l, g_k, if_true, if_false, e]
  · have e := G10 k' hk'
    simp (disch := omega) only [hg_u_s, hg_u_j, hg_u_n, g_up_s, g_up_n, g_l, g_k, if_true, if_false, e]
  · have e := G11 k' hk'
    by_cases q : k' = k
    · subst q
      simp (disch := omega) only [hg_u_s, hg_u_j, hg_u_n, g_up_s, g_up_n, g_l, g_k, if_true, if_false, e]
    · simp (disch := omega) only [hg_u_s, hg_u_j, hg_u_n, g_up_s, g_up_n, g_l, g_k, if_true, if_false, e]
  · have e := G12 s' hs'
    simp (disch := omega) only [hg_u_s, hg_u_j, hg_u_n, g_up_s, g_up_n, g_l, g_k, if_true, if_false, e]
  · have e := G13 s' hs'
    simp (disch := omega) only [hg_u_s, hg_u_j, hg_u_n, g_up_s, g_up_n, g_l, g_k, if_true, if_false, e]
  · simp (disch := omega) only [hg_u_s, hg_u_j, hg_u_n, g_up_s, g_up_n, g_l, g_k, if_true, if_false, G14]
  · simp (disch := omega) only [hg_u_s, hg_u_j, hg_u_n, g_up_s, g_up_n, g_l, g_k, if_true, if_false, G15]
  · have e := G16 o' ho'
    simp (disch := omega) only [hg_u_s, hg_u_j, hg_u_n, g_up_s, g_up_n, g_l, g_k, if_true, if_false, e]
  · simp (disch := omega) only [hg_u_s, hg_u_j, hg_u_n, g_up_s, g_up_n, g_l, g_k, if_true, if_false, G17]
theorem gs_lay_17 {σ : zS} {p : Nat → Nat} {W H R : Nat} (hR : R ≤ 5) (h : hg_G17 σ p W H R) {c s y : Nat} (hc : c < 16) (hy : ¬ y = 0) : hg_G17 (z_u (z_u σ 18 c (nI s)) 19 c (nI y)) (g_up (g_up p (5 * c) s) (5 * c + 1) y) W H R := by
  obtain ⟨G0, G1, G2, G3, G4, G5, G6, G7, G8, G9, G10, G11, G12, G13, G14, G15, G16, G17⟩ := h
  refine ⟨?_, ?_, ?_, fun c' hc' => ?_, fun c' hc' => ?_, fun c' hc' => ?_, fun c' hc' => ?_, fun c' hc' => ?_, ?_, fun k' hk' => ?_, fun k' hk' => ?_, fun k' hk' => ?_, fun s' hs' => ?_, fun s' hs' => ?_, ?_, ?_, fun o' ho' => ?_, ?_⟩
  · simp (disch := omega) only [hg_u_s, hg_u_j, hg_u_n, g_up_s, g_up_n, g_l, g_k, if_true, if_false, G0]
  · simp (disch := omega) only [hg_u_s, hg_u_j, hg_u_n, g_up_s, g_up_n, g_l, g_k, if_true, if_false, G1]
  · simp (disch := omega) only [hg_u_s, hg_u_j, hg_u_n, g_up_s, g_up_n, g_l, g_k, if_true, if_false, G2]
  · have e := G3 c' hc'
    simp only [g_l, g_k] at e
    by_cases q : c' = c
    · subst q
      simp (disch := omega) only [hg_u_s, hg_u_j, hg_u_n, g_up_s, g_up_n, g_l, g_k, if_true, if_false, e, hy]
    · simp (disch := omega) only [hg_u_s, hg_u_j, hg_u_n, g_up_s, g_up_n, g_l, g_k, if_true, if_false, e]
  · have e := G4 c' hc'
    by_cases q : c' = c
    · subst q
      simp (disch := omega) only [hg_u_s, hg_u_j, hg_u_n, g_up_s, g_up_n, g_l, g_k, if_true, if_false, e, hy]
    · simp (disch := omega) only [hg_u_s, hg_u_j, hg_u_n, g_up_s, g_up_n, g_l, g_k, if_true, if_false, e]
  · have e := G5 c' hc'
    simp only [g_l, g_k] at e
    simp (disch := omega) only [hg_u_s, hg_u_j, hg_u_n, g_up_s, g_up_n, g_l, g_k, if_true, if_false, e]
  · have e := G6 c' hc'
    simp (disch := omega) only [hg_u_s, hg_u_j, hg_u_n, g_up_s, g_up_n, g_l, g_k, if_true, if_false, e]
  · have e := G7 c' hc'
    simp (disch := omega) only [hg_u_s, hg_u_j, hg_u_n, g_up_s, g_up_n, g_l, g_k, if_true, if_false, e]
  · simp (disch := omega) only [hg_u_s, hg_u_j, hg_u_n, g_up_s, g_up_n, g_l, g_k, if_true, if_false, G8]
  · have e := G9 k' hk'
    simp (disch := omega) only [hg_u_s, hg_u_j, hg_u_n, g_up_s, g_up_n, g_l, g_k, if_true, if_false, e]
  · have e := G10 k' hk'
    simp (disch := omega) only [hg_u_s, hg_u_j, hg_u_n, g_up_s, g_up_n, g_l, g_k, if_true, if_false, e]
  · have e := G11 k' hk'
    simp (disch := omega) only [hg_u_s, hg_u_j, hg_u_n, g_up_s, g_up_n, g_l, g_k, if_true, if_false, e]
  · have e := G12 s' hs'
    simp (disch := omega) only [hg_u_s, hg_u_j, hg_u_n, g_up_s, g_up_n, g_l, g_k, if_true, if_false, e]
  · have e := G13 s' hs'
    simp (disch := omega) only [hg_u_s, hg_u_j, hg_u_n, g_up_s, g_up_n, g_l, g_k, if_true, if_false, e]
  · simp (disch := omega) only [hg_u_s, hg_u_j, hg_u_n, g_up_s, g_up_n, g_l, g_k, if_true, if_false, G14]
  · simp (disch := omega) only [hg_u_s, hg_u_j, hg_u_n, g_up_s, g_up_n, g_l, g_k, if_true, if_false, G15]
  · have e := G16 o' ho'
    simp (disch := omega) only [hg_u_s, hg_u_j, hg_u_n, g_up_s, g_up_n, g_l, g_k, if_true, if_false, e]
  · simp (disch := omega) only [hg_u_s, hg_u_j, hg_u_n, g_up_s, g_up_n, g_l, g_k, if_true, if_false, G17]
theorem gs_bare_17 {σ : zS} {p : Nat → Nat} {W H R : Nat} (hR : R ≤ 5) (h : hg_G17 σ p W H R) {c : Nat} (hc : c < 16) : hg_G17 (z_u (z_u σ 18 c (nI 4)) 19 c (nI 0)) (g_up p (5 * c + 1) 0) W H R := by
  obtain ⟨G0, G1, G2, G3, G4, G5, G6, G7, G8, G9, G10, G11, G12, G13, G14, G15, G16, G17⟩ := h
  refine ⟨?_, ?_, ?_, fun c' hc' => ?_, fun c' hc' => ?_, fun c' hc' => ?_, fun c' hc' => ?_, fun c' hc' => ?_, ?_, fun k' hk' => ?_, fun k' hk' => ?_, fun k' hk' => ?_, fun s' hs' => ?_, fun s' hs' => ?_, ?_, ?_, fun o' ho' => ?_, ?_⟩
  · simp (disch := omega) only [hg_u_s, hg_u_j, hg_u_n, g_up_s, g_up_n, g_l, g_k, if_true, if_false, G0]
  · simp (disch := omega) only [hg_u_s, hg_u_j, hg_u_n, g_up_s, g_up_n, g_l, g_k, if_true, if_false, G1]
  · simp (disch := omega) only [hg_u_s, hg_u_j, hg_u_n, g_up_s, g_up_n, g_l, g_k, if_true, if_false, G2]
  · have e := G3 c' hc'
    simp only [g_l, g_k] at e
    by_cases q : c' = c
    · subst q
      simp (disch := omega) only [hg_u_s, hg_u_j, hg_u_n, g_up_s, g_up_n, g_l, g_k, if_true, if_false, e]
    · simp (disch := omega) only [hg_u_s, hg_u_j, hg_u_n, g_up_s, g_up_n, g_l, g_k, if_true, if_false, e]
  · have e := G4 c' hc'
    by_cases q : c' = c
    · subst q
      simp (disch := omega) only [hg_u_s, hg_u_j, hg_u_n, g_up_s, g_up_n, g_l, g_k, if_true, if_false, e]
    · simp (disch := omega) only [hg_u_s, hg_u_j, hg_u_n, g_up_s, g_up_n, g_l, g_k, if_true, if_false, e]
  · have e := G5 c' hc'
    simp only [g_l, g_k] at e
    simp (disch := omega) only [hg_u_s, hg_u_j, hg_u_n, g_up_s, g_up_n, g_l, g_k, if_true, if_false, e]
  · have e := G6 c' hc'
    simp (disch := omega) only [hg_u_s, hg_u_j, hg_u_n, g_up_s, g_up_n, g_l, g_k, if_true, if_false, e]
  · have e := G7 c' hc'
    simp (disch := omega) only [hg_u_s, hg_u_j, hg_u_n, g_up_s, g_up_n, g_l, g_k, if_true, if_false, e]
  · simp (disch := omega) only [hg_u_s, hg_u_j, hg_u_n, g_up_s, g_up_n, g_l, g_k, if_true, if_false, G8]
  · have e := G9 k' hk'
    simp (disch := omega) only [hg_u_s, hg_u_j, hg_u_n, g_up_s, g_up_n, g_l, g_k, if_true, if_false, e]
  · have e := G10 k' hk'
    simp (disch := omega) only [hg_u_s, hg_u_j, hg_u_n, g_up_s, g_up_n, g_l, g_k, if_true, if_false, e]
  · have e := G11 k' hk'
    simp (disch := omega) only [hg_u_s, hg_u_j, hg_u_n, g_up_s, g_up_n, g_l, g_k, if_true, if_false, e]
  · have e := G12 s' hs'
    simp (disch := omega) only [hg_u_s, hg_u_j, hg_u_n, g_up_s, g_up_n, g_l, g_k, if_true, if_false, e]
  · have e := G13 s' hs'
    simp (disch := omega) only [hg_u_s, hg_u_j, hg_u_n, g_up_s, g_up_n, g_l, g_k, if_true, if_false, e]
  · simp (disch := omega) only [hg_u_s, hg_u_j, hg_u_n, g_up_s, g_up_n, g_l, g_k, if_true, if_false, G14]
  · simp (disch := omega) only [hg_u_s, hg_u_j, hg_u_n, g_up_s, g_up_n, g_l, g_k, if_true, if_false, G15]
  · have e := G16 o' ho'
    simp (disch := omega) only [hg_u_s, hg_u_j, hg_u_n, g_up_s, g_up_n, g_l, g_k, if_true, if_false, e]
  · simp (disch := omega) only [hg_u_s, hg_u_j, hg_u_n, g_up_s, g_up_n, g_l, g_k, if_true, if_false, G17]
theorem gs_crop_17 {σ : zS} {p : Nat → Nat} {W H R : Nat} (hR : R ≤ 5) (h : hg_G17 σ p W H R) {c k : Nat} (hc : c < 16) : hg_G17 (z_u (z_u σ 20 c (if k = 0 then - nI 4 else nI (k - 1))) 21 c (nI 0)) (g_up (g_up p (5 * c + 2) k) (5 * c + 3) 0) W H R := by
  obtain ⟨G0, G1, G2, G3, G4, G5, G6, G7, G8, G9, G10, G11, G12, G13, G14, G15, G16, G17⟩ := h
  refine ⟨?_, ?_, ?_, fun c' hc' => ?_, fun c' hc' => ?_, fun c' hc' => ?_, fun c' hc' => ?_, fun c' hc' => ?_, ?_, fun k' hk' => ?_, fun k' hk' => ?_, fun k' hk' => ?_, fun s' hs' => ?_, fun s' hs' => ?_, ?_, ?_, fun o' ho' => ?_, ?_⟩
  · simp (disch := omega) only [hg_u_s, hg_u_j, hg_u_n, g_up_s, g_up_n, g_l, g_k, if_true, if_false, G0]
  · simp (disch := omega) only [hg_u_s, hg_u_j, hg_u_n, g_up_s, g_up_n, g_l, g_k, if_true, if_false, G1]
  · simp (disch := omega) only [hg_u_s, hg_u_j, hg_u_n, g_up_s, g_up_n, g_l, g_k, if_true, if_false, G2]
  · have e := G3 c' hc'
    simp only [g_l, g_k] at e
    simp (disch := omega) only [hg_u_s, hg_u_j, hg_u_n, g_up_s, g_up_n, g_l, g_k, if_true, if_false, e]
  · have e := G4 c' hc'
    simp (disch := omega) only [hg_u_s, hg_u_j, hg_u_n, g_up_s, g_up_n, g_l, g_k, if_true, if_false, e]
  · have e := G5 c' hc'
    simp only [g_l, g_k] at e
    by_cases q : c' = c
    · subst q
      simp (disch := omega) only [hg_u_s, hg_u_j, hg_u_n, g_up_s, g_up_n, g_l, g_k, if_true, if_false, e]
    · simp (disch := omega) only [hg_u_s, hg_u_j, hg_u_n, g_up_s, g_up_n, g_l, g_k, if_true, if_false, e]
  · have e := G6 c' hc'
    by_cases q : c' = c
    · subst q
      simp (disch := omega) only [hg_u_s, hg_u_j, hg_u_n, g_up_s, g_up_n, g_l, g_k, if_true, if_false, e]
    · simp (disch := omega) only [hg_u_s, hg_u_j, hg_u_n, g_up_s, g_up_n, g_l, g_k, if_true, if_false, e]
  · have e := G7 c' hc'
    simp (disch := omega) only [hg_u_s, hg_u_j, hg_u_n, g_up_s, g_up_n, g_l, g_k, if_true, if_false, e]
  · simp (disch := omega) only [hg_u_s, hg_u_j, hg_u_n, g_up_s, g_up_n, g_l, g_k, if_true, if_false, G8]
  · have e := G9 k' hk'
    simp (disch := omega) only [hg_u_s, hg_u_j, hg_u_n, g_up_s, g_up_n, g_l, g_k, if_true, if_false, e]
  · have e := G10 k' hk'
    simp (disch := omega) only [hg_u_s, hg_u_j, hg_u_n, g_up_s, g_up_n, g_l, g_k, if_true, if_false, e]
  · have e := G11 k' hk'
    simp (disch := omega) only [hg_u_s, hg_u_j, hg_u_n, g_up_s, g_up_n, g_l, g_k, if_true, if_false, e]
  · have e := G12 s' hs'
    simp (disch := omega) only [hg_u_s, hg_u_j, hg_u_n, g_up_s, g_up_n, g_l, g_k, if_true, if_false, e]
  · have e := G13 s' hs'
    simp (disch := omega) only [hg_u_s, hg_u_j, hg_u_n, g_up_s, g_up_n, g_l, g_k, if_true, if_false, e]
  · simp (disch := omega) only [hg_u_s, hg_u_j, hg_u_n, g_up_s, g_up_n, g_l, g_k, if_true, if_false, G14]
  · simp (disch := omega) only [hg_u_s, hg_u_j, hg_u_n, g_up_s, g_up_n, g_l, g_k, if_true, if_false, G15]
  · have e := G16 o' ho'
    simp (disch := omega) only [hg_u_s, hg_u_j, hg_u_n, g_up_s, g_up_n, g_l, g_k, if_true, if_false, e]
  · simp (disch := omega) only [hg_u_s, hg_u_j, hg_u_n, g_up_s, g_up_n, g_l, g_k, if_true, if_false, G17]
theorem gs_own_17 {σ : zS} {p : Nat → Nat} {W H R : Nat} (hR : R ≤ 5) (h : hg_G17 σ p W H R) {c k : Nat} (hc : c < 16) : hg_G17 (z_u σ 22 c (nI k)) (g_up p (5 * c + 4) k) W H R := by
  obtain ⟨G0, G1, G2, G3, G4, G5, G6, G7, G8, G9, G10, G11, G12, G13, G14, G15, G16, G17⟩ := h
  refine ⟨?_, ?_, ?_, fun c' hc' => ?_, fun c' hc' => ?_, fun c' hc' => ?_, fun c' hc' => ?_, fun c' hc' => ?_, ?_, fun k' hk' => ?_, fun k' hk' => ?_, fun k' hk' => ?_, fun s' hs' => ?_, fun s' hs' => ?_, ?_, ?_, fun o' ho' => ?_, ?_⟩
  · simp (disch := omega) only [hg_u_s, hg_u_j, hg_u_n, g_up_s, g_up_n, g_l, g_k, if_true, if_false, G0]
  · simp (disch := omega) only [hg_u_s, hg_u_j, hg_u_n, g_up_s, g_up_n, g_l, g_k, if_true, if_false, G1]
  · simp (disch := omega) only [hg_u_s, hg_u_j, hg_u_n, g_up_s, g_up_n, g_l, g_k, if_true, if_false, G2]
  · have e := G3 c' hc'
    simp only [g_l, g_k] at e
    simp (disch := omega) only [hg_u_s, hg_u_j, hg_u_n, g_up_s, g_up_n, g_l, g_k, if_true, if_false, e]
  · have e := G4 c' hc'
    simp (disch := omega) only [hg_u_s, hg_u_j, hg_u_n, g_up_s, g_up_n, g_l, g_k, if_true, if_false, e]
  · have e := G5 c' hc'
    simp only [g_l, g_k] at e
    simp (disch := omega) only [hg_u_s, hg_u_j, hg_u_n, g_up_s, g_up_n, g_l, g_k, if_true, if_false, e]
  · have e := G6 c' hc'
    simp (disch := omega) only [hg_u_s, hg_u_j, hg_u_n, g_up_s, g_up_n, g_l, g_k, if_true, if_false, e]
  · have e := G7 c' hc'
    by_cases q : c' = c
    · subst q
      simp (disch := omega) only [hg_u_s, hg_u_j, hg_u_n, g_up_s, g_up_n, g_l, g_k, if_true, if_false, e]
    · simp (disch := omega) only [hg_u_s, hg_u_j, hg_u_n, g_up_s, g_up_n, g_l, g_k, if_true, if_false, e]
  · simp (disch := omega) only [hg_u_s, hg_u_j, hg_u_n, g_up_s, g_up_n, g_l, g_k, if_true, if_false, G8]
  · have e := G9 k' hk'
    simp (disch := omega) only [hg_u_s, hg_u_j, hg_u_n, g_up_s, g_up_n, g_l, g_k, if_true, if_false, e]
  · have e := G10 k' hk'
    simp (disch := omega) only [hg_u_s, hg_u_j, hg_u_n, g_up_s, g_up_n, g_l, g_k, if_true, if_false, e]
  · have e := G11 k' hk'
    simp (disch := omega) only [hg_u_s, hg_u_j, hg_u_n, g_up_s, g_up_n, g_l, g_k, if_true, if_false, e]
  · have e := G12 s' hs'
    simp (disch := omega) only [hg_u_s, hg_u_j, hg_u_n, g_up_s, g_up_n, g_l, g_k, if_true, if_false, e]
  · have e := G13 s' hs'
    simp (disch := omega) only [hg_u_s, hg_u_j, hg_u_n, g_up_s, g_up_n, g_l, g_k, if_true, if_false, e]
  · simp (disch := omega) only [hg_u_s, hg_u_j, hg_u_n, g_up_s, g_up_n, g_l, g_k, if_true, if_false, G14]
  · simp (disch := omega) only [hg_u_s, hg_u_j, hg_u_n, g_up_s, g_up_n, g_l, g_k, if_true, if_false, G15]
  · have e := G16 o' ho'
    simp (disch := omega) only [hg_u_s, hg_u_j, hg_u_n, g_up_s, g_up_n, g_l, g_k, if_true, if_false, e]
  · simp (disch := omega) only [hg_u_s, hg_u_j, hg_u_n, g_up_s, g_up_n, g_l, g_k, if_true, if_false, G17]
theorem gs_wall_17 {σ : zS} {p : Nat → Nat} {W H R : Nat} (hR : R ≤ 5) (h : hg_G17 σ p W H R) {w : Nat} : hg_G17 (z_u σ 17 7 (nI w)) (g_up p 80 w) W H R := by
  obtain ⟨G0, G1, G2, G3, G4, G5, G6, G7, G8, G9, G10, G11, G12, G13, G14, G15, G16, G17⟩ := h
  refine ⟨?_, ?_, ?_, fun c' hc' => ?_, fun c' hc' => ?_, fun c' hc' => ?_, fun c' hc' => ?_, fun c' hc' => ?_, ?_, fun k' hk' => ?_, fun k' hk' => ?_, fun k' hk' => ?_, fun s' hs' => ?_, fun s' hs' => ?_, ?_, ?_, fun o' ho' => ?_, ?_⟩
  · simp (disch := omega) only [hg_u_s, hg_u_j, hg_u_n, g_up_s, g_up_n, g_l, g_k, if_true, if_false, G0]
  · simp (disch := omega) only [hg_u_s, hg_u_j, hg_u_n, g_up_s, g_up_n, g_l, g_k, if_true, if_false, G1]
  · simp (disch := omega) only [hg_u_s, hg_u_j, hg_u_n, g_up_s, g_up_n, g_l, g_k, if_true, if_false, G2]
  · have e := G3 c' hc'
    simp only [g_l, g_k] at e
    simp (disch := omega) only [hg_u_s, hg_u_j, hg_u_n, g_up_s, g_up_n, g_l, g_k, if_true, if_false, e]
  · have e := G4 c' hc'
    simp (disch := omega) only [hg_u_s, hg_u_j, hg_u_n, g_up_s, g_up_n, g_l, g_k, if_true, if_false, e]
  · have e := G5 c' hc'
    simp only [g_l, g_k] at e
    simp (disch := omega) only [hg_u_s, hg_u_j, hg_u_n, g_up_s, g_up_n, g_l, g_k, if_true, if_false, e]
  · have e := G6 c' hc'
    simp (disch := omega) only [hg_u_s, hg_u_j, hg_u_n, g_up_s, g_up_n, g_l, g_k, if_true, if_false, e]
  · have e := G7 c' hc'
    simp (disch := omega) only [hg_u_s, hg_u_j, hg_u_n, g_up_s, g_up_n, g_l, g_k, if_true, if_false, e]
  · simp (disch := omega) only [hg_u_s, hg_u_j, hg_u_n, g_up_s, g_up_n, g_l, g_k, if_true, if_false, G8]
  · have e := G9 k' hk'
    simp (disch := omega) only [hg_u_s, hg_u_j, hg_u_n, g_up_s, g_up_n, g_l, g_k, if_true, if_false, e]
  · have e := G10 k' hk'
    simp (disch := omega) only [hg_u_s, hg_u_j, hg_u_n, g_up_s, g_up_n, g_l, g_k, if_true, if_false, e]
  · have e := G11 k' hk'
    simp (disch := omega) only [hg_u_s, hg_u_j, hg_u_n, g_up_s, g_up_n, g_l, g_k, if_true, if_false, e]
  · have e := G12 s' hs'
    simp (disch := omega) only [hg_u_s, hg_u_j, hg_u_n, g_up_s, g_up_n, g_l, g_k, if_true, if_false, e]
  · have e := G13 s' hs'
    simp (disch := omega) only [hg_u_s, hg_u_j, hg_u_n, g_up_s, g_up_n, g_l, g_k, if_true, if_false, e]
  · simp (disch := omega) only [hg_u_s, hg_u_j, hg_u_n, g_up_s, g_up_n, g_l, g_k, if_true, if_false, G14]
  · simp (disch := omega) only [hg_u_s, hg_u_j, hg_u_n, g_up_s, g_up_n, g_l, g_k, if_true, if_false, G15]
  · have e := G16 o' ho'
    simp (disch := omega) only [hg_u_s, hg_u_j, hg_u_n, g_up_s, g_up_n, g_l, g_k, if_true, if_false, e]
  · simp (disch := omega) only [hg_u_s, hg_u_j, hg_u_n, g_up_s, g_up_n, g_l, g_k, if_true, if_false, G17]
theorem gs_stock_17 {σ : zS} {p : Nat → Nat} {W H R : Nat} (hR : R ≤ 5) (h : hg_G17 σ p W H R) {s w : Nat} (hs : s < 4) : hg_G17 (z_u σ 28 s (nI w)) (g_up p (96 + 2 * s) w) W H R := by
  obtain ⟨G0, G1, G2, G3, G4, G5, G6, G7, G8, G9, G10, G11, G12, G13, G14, G15, G16, G17⟩ := h
  refine ⟨?_, ?_, ?_, fun c' hc' => ?_, fun c' hc' => ?_, fun c' hc' => ?_, fun c' hc' => ?_, fun c' hc' => ?_, ?_, fun k' hk' => ?_, fun k' hk' => ?_, fun k' hk' => ?_, fun s' hs' => ?_, fun s' hs' => ?_, ?_, ?_, fun o' ho' => ?_, ?_⟩
  · simp (disch := omega) only [hg_u_s, hg_u_j, hg_u_n, g_up_s, g_up_n, g_l, g_k, if_true, if_false, G0]
  · simp (disch := omega) only [hg_u_s, hg_u_j, hg_u_n, g_up_s, g_up_n, g_l, g_k, if_true, if_false, G1]
  · simp (disch := omega) only [hg_u_s, hg_u_j, hg_u_n, g_up_s, g_up_n, g_l, g_k, if_true, if_false, G2]
  · have e := G3 c' hc'
    simp only [g_l, g_k] at e
    simp (disch := omega) only [hg_u_s, hg_u_j, hg_u_n, g_up_s, g_up_n, g_l, g_k, if_true, if_false, e]
  · have e := G4 c' hc'
    simp (disch := omega) only [hg_u_s, hg_u_j, hg_u_n, g_up_s, g_up_n, g_l, g_k, if_true, if_false, e]
  · have e := G5 c' hc'
    simp only [g_l, g_k] at e
    simp (disch := omega) only [hg_u_s, hg_u_j, hg_u_n, g_up_s, g_up_n, g_l, g_k, if_true, if_false, e]
  · have e := G6 c' hc'
    simp (disch := omega) only [hg_u_s, hg_u_j, hg_u_n, g_up_s, g_up_n, g_l, g_k, if_true, if_false, e]
  · have e := G7 c' hc'
    simp (disch := omega) only [hg_u_s, hg_u_j, hg_u_n, g_up_s, g_up_n, g_l, g_k, if_true, if_false, e]
  · simp (disch := omega) only [hg_u_s, hg_u_j, hg_u_n, g_up_s, g_up_n, g_l, g_k, if_true, if_false, G8]
  · have e := G9 k' hk'
    simp (disch := omega) only [hg_u_s, hg_u_j, hg_u_n, g_up_s, g_up_n, g_l, g_k, if_true, if_false, e]
  · have e := G10 k' hk'
    simp (disch := omega) only [hg_u_s, hg_u_j, hg_u_n, g_up_s, g_up_n, g_l, g_k, if_true, if_false, e]
  · have e := G11 k' hk'
    simp (disch := omega) only [hg_u_s, hg_u_j, hg_u_n, g_up_s, g_up_n, g_l, g_k, if_true, if_false, e]
  · have e := G12 s' hs'
    by_cases q : s' = s
    · subst q
      simp (disch := omega) only [hg_u_s, hg_u_j, hg_u_n, g_up_s, g_up_n, g_l, g_k, if_true, if_false, e]
    · simp (disch := omega) only [hg_u_s, hg_u_j, hg_u_n, g_up_s, g_up_n, g_l, g_k, if_true, if_false, e]
  · have e := G13 s' hs'
    simp (disch := omega) only [hg_u_s, hg_u_j, hg_u_n, g_up_s, g_up_n, g_l, g_k, if_true, if_false, e]
  · simp (disch := omega) only [hg_u_s, hg_u_j, hg_u_n, g_up_s, g_up_n, g_l, g_k, if_true, if_false, G14]
  · simp (disch := omega) only [hg_u_s, hg_u_j, hg_u_n, g_up_s, g_up_n, g_l, g_k, if_true, if_false, G15]
  · have e := G16 o' ho'
    simp (disch := omega) only [hg_u_s, hg_u_j, hg_u_n, g_up_s, g_up_n, g_l, g_k, if_true, if_false, e]
  · simp (disch := omega) only [hg_u_s, hg_u_j, hg_u_n, g_up_s, g_up_n, g_l, g_k, if_true, if_false, G17]
theorem gs_price_17 {σ : zS} {p : Nat → Nat} {W H R : Nat} (hR : R ≤ 5) (h : hg_G17 σ p W H R) {s w : Nat} (hs : s < 4) : hg_G17 (z_u σ 29 s (nI (w + 1))) (g_up p (97 + 2 * s) w) W H R := by
  obtain ⟨G0, G1, G2, G3, G4, G5, G6, G7, G8, G9, G10, G11, G12, G13, G14, G15, G16, G17⟩ := h
  refine ⟨?_, ?_, ?_, fun c' hc' => ?_, fun c' hc' => ?_, fun c' hc' => ?_, fun c' hc' => ?_, fun c' hc' => ?_, ?_, fun k' hk' => ?_, fun k' hk' => ?_, fun k' hk' => ?_, fun s' hs' => ?_, fun s' hs' => ?_, ?_, ?_, fun o' ho' => ?_, ?_⟩
  · simp (disch := omega) only [hg_u_s, hg_u_j, hg_u_n, g_up_s, g_up_n, g_l, g_k, if_true, if_false, G0]
  · simp (disch := omega) only [hg_u_s, hg_u_j, hg_u_n, g_up_s, g_up_n, g_l, g_k, if_true, if_false, G1]
  · simp (disch := omega) only [hg_u_s, hg_u_j, hg_u_n, g_up_s, g_up_n, g_l, g_k, if_true, if_false, G2]
  · have e := G3 c' hc'
    simp only [g_l, g_k] at e
    simp (disch := omega) only [hg_u_s, hg_u_j, hg_u_n, g_up_s, g_up_n, g_l, g_k, if_true, if_false, e]
  · have e := G4 c' hc'
    simp (disch := omega) only [hg_u_s, hg_u_j, hg_u_n, g_up_s, g_up_n, g_l, g_k, if_true, if_false, e]
  · have e := G5 c' hc'
    simp only [g_l, g_k] at e
    simp (disch := omega) only [hg_u_s, hg_u_j, hg_u_n, g_up_s, g_up_n, g_l, g_k, if_true, if_false, e]
  · have e := G6 c' hc'
    simp (disch := omega) only [hg_u_s, hg_u_j, hg_u_n, g_up_s, g_up_n, g_l, g_k, if_true, if_false, e]
  · have e := G7 c' hc'
    simp (disch := omega) only [hg_u_s, hg_u_j, hg_u_n, g_up_s, g_up_n, g_l, g_k, if_true, if_false, e]
  · simp (disch := omega) only [hg_u_s, hg_u_j, hg_u_n, g_up_s, g_up_n, g_l, g_k, if_true, if_false, G8]
  · have e := G9 k' hk'
    simp (disch := omega) only [hg_u_s, hg_u_j, hg_u_n, g_up_s, g_up_n, g_l, g_k, if_true, if_false, e]
  · have e := G10 k' hk'
    simp (disch := omega) only [hg_u_s, hg_u_j, hg_u_n, g_up_s, g_up_n, g_l, g_k, if_true, if_false, e]
  · have e := G11 k' hk'
    simp (disch := omega) only [hg_u_s, hg_u_j, hg_u_n, g_up_s, g_up_n, g_l, g_k, if_true, if_false, e]
  · have e := G12 s' hs'
    simp (disch := omega) only [hg_u_s, hg_u_j, hg_u_n, g_up_s, g_up_n, g_l, g_k, if_true, if_false, e]
  · have e := G13 s' hs'
    by_cases q : s' = s
    · subst q
      simp (disch := omega) only [hg_u_s, hg_u_j, hg_u_n, g_up_s, g_up_n, g_l, g_k, if_true, if_false, e]
    · simp (disch := omega) only [hg_u_s, hg_u_j, hg_u_n, g_up_s, g_up_n, g_l, g_k, if_true, if_false, e]
  · simp (disch := omega) only [hg_u_s, hg_u_j, hg_u_n, g_up_s, g_up_n, g_l, g_k, if_true, if_false, G14]
  · simp (disch := omega) only [hg_u_s, hg_u_j, hg_u_n, g_up_s, g_up_n, g_l, g_k, if_true, if_false, G15]
  · have e := G16 o' ho'
    simp (disch := omega) only [hg_u_s, hg_u_j, hg_u_n, g_up_s, g_up_n, g_l, g_k, if_true, if_false, e]
  · simp (disch := omega) only [hg_u_s, hg_u_j, hg_u_n, g_up_s, g_up_n, g_l, g_k, if_true, if_false, G17]
theorem gs_purse_17 {σ : zS} {p : Nat → Nat} {W H R : Nat} (hR : R ≤ 5) (h : hg_G17 σ p W H R) {w : Nat} : hg_G17 (z_u σ 27 2 (nI w)) (g_up p 104 w) W H R := by
  obtain ⟨G0, G1, G2, G3, G4, G5, G6, G7, G8, G9, G10, G11, G12, G13, G14, G15, G16, G17⟩ := h
  refine ⟨?_, ?_, ?_, fun c' hc' => ?_, fun c' hc' => ?_, fun c' hc' => ?_, fun c' hc' => ?_, fun c' hc' => ?_, ?_, fun k' hk' => ?_, fun k' hk' => ?_, fun k' hk' => ?_, fun s' hs' => ?_, fun s' hs' => ?_, ?_, ?_, fun o' ho' => ?_, ?_⟩
  · simp (disch := omega) only [hg_u_s, hg_u_j, hg_u_n, g_up_s, g_up_n, g_l, g_k, if_true, if_false, G0]
  · simp (disch := omega) only [hg_u_s, hg_u_j, hg_u_n, g_up_s, g_up_n, g_l, g_k, if_true, if_false, G1]
  · simp (disch := omega) only [hg_u_s, hg_u_j, hg_u_n, g_up_s, g_up_n, g_l, g_k, if_true, if_false, G2]
  · have e := G3 c' hc'
    simp only [g_l, g_k] at e
    simp (disch := omega) only [hg_u_s, hg_u_j, hg_u_n, g_up_s, g_up_n, g_l, g_k, if_true, if_false, e]
  · have e := G4 c' hc'
    simp (disch := omega) only [hg_u_s, hg_u_j, hg_u_n, g_up_s, g_up_n, g_l, g_k, if_true, if_false, e]
  · have e := G5 c' hc'
    simp only [g_l, g_k] at e
    simp (disch := omega) only [hg_u_s, hg_u_j, hg_u_n, g_up_s, g_up_n, g_l, g_k, if_true, if_false, e]
  · have e := G6 c' hc'
    simp (disch := omega) only [hg_u_s, hg_u_j, hg_u_n, g_up_s, g_up_n, g_l, g_k, if_true, if_false, e]
  · have e := G7 c' hc'
    simp (disch := omega) only [hg_u_s, hg_u_j, hg_u_n, g_up_s, g_up_n, g_l, g_k, if_true, if_false, e]
  · simp (disch := omega) only [hg_u_s, hg_u_j, hg_u_n, g_up_s, g_up_n, g_l, g_k, if_true, if_false, G8]
  · have e := G9 k' hk'
    simp (disch := omega) only [hg_u_s, hg_u_j, hg_u_n, g_up_s, g_up_n, g_l, g_k, if_true, if_false, e]
  · have e := G10 k' hk'
    simp (disch := omega) only [hg_u_s, hg_u_j, hg_u_n, g_up_s, g_up_n, g_l, g_k, if_true, if_false, e]
  · have e := G11 k' hk'
    simp (disch := omega) only [hg_u_s, hg_u_j, hg_u_n, g_up_s, g_up_n, g_l, g_k, if_true, if_false, e]
  · have e := G12 s' hs'
    simp (disch := omega) only [hg_u_s, hg_u_j, hg_u_n, g_up_s, g_up_n, g_l, g_k, if_true, if_false, e]
  · have e := G13 s' hs'
    simp (disch := omega) only [hg_u_s, hg_u_j, hg_u_n, g_up_s, g_up_n, g_l, g_k, if_true, if_false, e]
  · simp (disch := omega) only [hg_u_s, hg_u_j, hg_u_n, g_up_s, g_up_n, g_l, g_k, if_true, if_false, G14]
  · simp (disch := omega) only [hg_u_s, hg_u_j, hg_u_n, g_up_s, g_up_n, g_l, g_k, if_true, if_false, G15]
  · have e := G16 o' ho'
    simp (disch := omega) only [hg_u_s, hg_u_j, hg_u_n, g_up_s, g_up_n, g_l, g_k, if_true, if_false, e]
  · simp (disch := omega) only [hg_u_s, hg_u_j, hg_u_n, g_up_s, g_up_n, g_l, g_k, if_true, if_false, G17]
theorem gs_bite_17 {σ : zS} {p : Nat → Nat} {W H R : Nat} (hR : R ≤ 5) (h : hg_G17 σ p W H R) {k w : Nat} (hk : k < R) : hg_G17 (z_u σ 26 k (nI w)) (g_up p (83 + 3 * k) w) W H R := by
  obtain ⟨G0, G1, G2, G3, G4, G5, G6, G7, G8, G9, G10, G11, G12, G13, G14, G15, G16, G17⟩ := h
  refine ⟨?_, ?_, ?_, fun c' hc' => ?_, fun c' hc' => ?_, fun c' hc' => ?_, fun c' hc' => ?_, fun c' hc' => ?_, ?_, fun k' hk' => ?_, fun k' hk' => ?_, fun k' hk' => ?_, fun s' hs' => ?_, fun s' hs' => ?_, ?_, ?_, fun o' ho' => ?_, ?_⟩
  · simp (disch := omega) only [hg_u_s, hg_u_j, hg_u_n, g_up_s, g_up_n, g_l, g_k, if_true, if_false, G0]
  · simp (disch := omega) only [hg_u_s, hg_u_j, hg_u_n, g_up_s, g_up_n, g_l, g_k, if_true, if_false, G1]
  · simp (disch := omega) only [hg_u_s, hg_u_j, hg_u_n, g_up_s, g_up_n, g_l, g_k, if_true, if_false, G2]
  · have e := G3 c' hc'
    simp only [g_l, g_k] at e
    simp (disch := omega) only [hg_u_s, hg_u_j, hg_u_n, g_up_s, g_up_n, g_l, g_k, if_true, if_false, e]
  · have e := G4 c' hc'
    simp (disch := omega) only [hg_u_s, hg_u_j, hg_u_n, g_up_s, g_up_n, g_l, g_k, if_true, if_false, e]
  · have e := G5 c' hc'
    simp only [g_l, g_k] at e
    simp (disch := omega) only [hg_u_s, hg_u_j, hg_u_n, g_up_s, g_up_n, g_l, g_k, if_true, if_false, e]
  · have e := G6 c' hc'
    simp (disch := omega) only [hg_u_s, hg_u_j, hg_u_n, g_up_s, g_up_n, g_l, g_k, if_true, if_false, e]
  · have e := G7 c' hc'
    simp (disch := omega) only [hg_u_s, hg_u_j, hg_u_n, g_up_s, g_up_n, g_l, g_k, if_true, if_false, e]
  · simp (disch := omega) only [hg_u_s, hg_u_j, hg_u_n, g_up_s, g_up_n, g_l, g_k, if_true, if_false, G8]
  · have e := G9 k' hk'
    simp (disch := omega) only [hg_u_s, hg_u_j, hg_u_n, g_up_s, g_up_n, g_l, g_k, if_true, if_false, e]
  · have e := G10 k' hk'
    simp (disch := omega) only [hg_u_s, hg_u_j, hg_u_n, g_up_s, g_up_n, g_l, g_k, if_true, if_false, e]
  · have e := G11 k' hk'
    by_cases q : k' = k
    · subst q
      simp (disch := omega) only [hg_u_s, hg_u_j, hg_u_n, g_up_s, g_up_n, g_l, g_k, if_true, if_false, e]
    · simp (disch := omega) only [hg_u_s, hg_u_j, hg_u_n, g_up_s, g_up_n, g_l, g_k, if_true, if_false, e]
  · have e := G12 s' hs'
    simp (disch := omega) only [hg_u_s, hg_u_j, hg_u_n, g_up_s, g_up_n, g_l, g_k, if_true, if_false, e]
  · have e := G13 s' hs'
    simp (disch := omega) only [hg_u_s, hg_u_j, hg_u_n, g_up_s, g_up_n, g_l, g_k, if_true, if_false, e]
  · simp (disch := omega) only [hg_u_s, hg_u_j, hg_u_n, g_up_s, g_up_n, g_l, g_k, if_true, if_false, G14]
  · simp (disch := omega) only [hg_u_s, hg_u_j, hg_u_n, g_up_s, g_up_n, g_l, g_k, if_true, if_false, G15]
  · have e := G16 o' ho'
    simp (disch := omega) only [hg_u_s, hg_u_j, hg_u_n, g_up_s, g_up_n, g_l, g_k, if_true, if_false, e]
  · simp (disch := omega) only [hg_u_s, hg_u_j, hg_u_n, g_up_s, g_up_n, g_l, g_k, if_true, if_false, G17]
