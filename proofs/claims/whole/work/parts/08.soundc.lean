/-! soundness: constants, arrays, the JDK's own -/
theorem z_ty1 {k : Nat} (h : z_sk k = 1) : z_ty k = .int := by unfold z_ty; rw [if_pos h]
theorem z_ty2 {k : Nat} (h : z_sk k = 2) : z_ty k = .byte := by unfold z_ty; rw [if_neg (by rw [h]; decide), if_pos h]
theorem z_ty3 {k : Nat} (h : z_sk k = 3) : z_ty k = .boolean := by unfold z_ty; rw [if_neg (by rw [h]; decide), if_neg (by rw [h]; decide), if_pos h]
theorem z_ty4 {k : Nat} (h : z_sk k = 4) : z_ty k = .object (z_cn (z_sc k)) := by unfold z_ty; rw [if_neg (by rw [h]; decide), if_neg (by rw [h]; decide), if_neg (by rw [h]; decide)]
theorem z_sn_eq : ∀ i, i < 4 → (z_sn.getD i ("", "")) = z_sn.getD i ("", "") := fun _ _ => rfl
section ZB2
variable {p : Program} {l : Launch} {en : Env} {R : Room} {s : State} {m : MethodId} {args : Array Value} {below : List Frame} {meth : Method} {c : Code} {H : Heap} {locs : List Loc} {cells slots : Nat} {Q : State → Prop}
variable {cc : ByteArray} {ad ax : Nat → Nat} {ca : Nat → ClassId} {zf : Value} {D : va_G} {A : Nat → Prop} {xL : Nat} {xs : Nat → Int32} {n : Nat} {σ : Nat → Nat → Int32} {ρ : Nat → Nat → Option Nat} {ls : Array Slot}
set_option maxHeartbeats 4000000 in
theorem z_Bconst (hx : p.tables.exec = Jvm.exec) (hb : c.code = cc) (F : z_Fr D ax zf xL xs A args s) {cn pc : Nat} {e : zI} {st st' : List Value} {h' : zH} {ctor : Nat} (hin : (∃ i, z_in e = .getstatic i) ∨ (∃ i, z_in e = .ldc i) ∨ (∃ i, z_in e = .ldc_w i) ∨ (∃ i, z_in e = .ldc2_w i)) (hown : s.vm.findClass (z_cn cn) = some m.cls) (hok : z_ok cc cn e = true) (hpc : z_pc e = pc) (h : z_B xL xs ctor e st n σ ρ = some (st', h')) (Wd : z_Wd D ad ca n σ ρ A s H locs)
    (kk : h' = (n, σ, ρ) → W p l en R s m args below meth c H locs cells slots Q (F0 m (pc + z_len e) ls (st'.map (z_cv ad ax zf)))) : W p l en R s m args below meth c H locs cells slots Q (F0 m pc ls (st.map (z_cv ad ax zf))) := by
  obtain ⟨pc0, ins, k0, a, b, v, w⟩ := e
  obtain rfl : pc0 = pc := hpc
  simp only [z_ok, Bool.and_eq_true, decide_eq_true_eq] at hok
  obtain ⟨hd, hs⟩ := hok
  try dsimp only [z_a, z_b, z_k, z_v, z_w] at hs
  rcases hin with ⟨i, hin⟩ | ⟨i, hin⟩ | ⟨i, hin⟩ | ⟨i, hin⟩
  · obtain rfl : ins = .getstatic i := hin
    simp only [z_B] at h
    try dsimp only [z_a, z_b, z_k, z_v, z_w] at h
    simp only [Bool.or_eq_true, Bool.and_eq_true, beq_iff_eq, decide_eq_true_eq] at hs
    rcases hs with (⟨h0, hs⟩ | ⟨⟨⟨h1, h2⟩, h3⟩, h4⟩) | ⟨⟨h1, h2⟩, h3⟩
    · rw [if_pos h0] at h
      simp only [Option.some.injEq, Prod.mk.injEq] at h
      obtain ⟨rfl, rfl⟩ := h
      have kk := kk rfl
      obtain ⟨q, hq, hq2⟩ := z_any hs
      simp only [Bool.and_eq_true, beq_iff_eq] at hq2
      obtain ⟨⟨q1, q2⟩, q3⟩ := hq2
      obtain ⟨hw, ha4⟩ := z_sl_ok q hq
      rw [q1, q2, q3] at hw
      rw [q3] at ha4
      simp only [List.map_cons] at kk
      rw [z_cv_out (by omega) (by omega)] at kk
      exact va_gets hx hb (F.2.2.2.1.1 a ha4).1 Wd.2.2.1 hown (F.1 _ (z_gw_in hw rfl)) (fun _ h => h) hd kk
    · rw [if_neg (by omega), if_pos h1] at h
      simp only [Option.some.injEq, Prod.mk.injEq] at h
      obtain ⟨rfl, rfl⟩ := h
      have kk := kk rfl
      subst h2; subst h3; subst h4
      exact va_gets hx hb F.2.2.2.1.2.1 Wd.2.2.1 hown (F.1 _ (z_gw_in z_st_ok.1 rfl)) (fun _ h => h) hd kk
    · rw [if_neg (by omega), if_neg (by omega), if_pos h1] at h
      simp only [Option.some.injEq, Prod.mk.injEq] at h
      obtain ⟨rfl, rfl⟩ := h
      have kk := kk rfl
      subst h2; subst h3
      have e1 : z_cv ad ax zf (.ref 4001) = zf := by simp [z_cv, z_cvr]
      simp only [List.map_cons] at kk
      rw [e1] at kk
      exact va_gets hx hb F.2.2.2.1.2.2.1 Wd.2.2.1 hown (F.1 _ (z_gw_in z_st_ok.2 rfl)) (fun _ h => h) hd kk
  · obtain rfl : ins = .ldc i := hin
    simp only [z_B] at h
    try dsimp only [z_a, z_b, z_k, z_v, z_w] at h
    simp only [Bool.or_eq_true, Bool.and_eq_true, beq_iff_eq] at hs
    rcases hs with ⟨h0, hs⟩ | ⟨h0, hs⟩
    · rw [if_pos h0] at h
      simp only [Option.some.injEq, Prod.mk.injEq] at h
      obtain ⟨rfl, rfl⟩ := h
      have kk := kk rfl
      obtain ⟨q, hq, hq2⟩ := z_any hs
      simp only [Bool.and_eq_true, beq_iff_eq, decide_eq_true_eq] at hq2
      obtain ⟨⟨q1, q2⟩, q3⟩ := hq2
      have hw := z_kc_ok q hq
      rw [q1, q2, q3] at hw
      exact lv_ldc hx hb hown (F.1 _ (z_gw_in hw rfl)) hd kk
    · rw [if_neg (by omega)] at h
      simp only [Option.some.injEq, Prod.mk.injEq] at h
      obtain ⟨rfl, rfl⟩ := h
      have kk := kk rfl
      obtain ⟨q, hq, hq2⟩ := z_any hs
      simp only [Bool.and_eq_true, beq_iff_eq] at hq2
      obtain ⟨⟨q1, q2⟩, q3⟩ := hq2
      obtain ⟨w1, w2, w3⟩ := z_sr_ok q hq
      rw [q3] at w2 w3
      rw [q1] at w1
      have hR := F.2.2.2.1.2.2.2.2.1 a w2
      rw [List.getD_eq_getElem?_getD, w3, ← w1] at hR
      simp only [Option.getD_some, q2] at hR
      simp only [List.map_cons] at kk
      rw [z_cv_out (by omega) (by omega)] at kk
      exact va_ldcS hx hb hown hR hd kk
  · obtain rfl : ins = .ldc_w i := hin
    simp only [z_B, Option.some.injEq, Prod.mk.injEq] at h
    obtain ⟨rfl, rfl⟩ := h
    have kk := kk rfl
    simp only [Bool.and_eq_true, beq_iff_eq] at hs
    obtain ⟨q, hq, hq2⟩ := z_any hs.2
    simp only [Bool.and_eq_true, beq_iff_eq, decide_eq_true_eq] at hq2
    obtain ⟨⟨q1, q2⟩, q3⟩ := hq2
    have hw := z_kc_ok q hq
    rw [q1, q2, q3] at hw
    exact lv_ldcw hx hb hown (F.1 _ (z_gw_in hw rfl)) hd kk
  · obtain rfl : ins = .ldc2_w i := hin
    simp only [z_B, Option.some.injEq, Prod.mk.injEq] at h
    obtain ⟨rfl, rfl⟩ := h
    have kk := kk rfl
    obtain ⟨q, hq, hq2⟩ := z_any hs
    simp only [Bool.and_eq_true, beq_iff_eq, decide_eq_true_eq] at hq2
    obtain ⟨⟨q1, q2⟩, q3⟩ := hq2
    have hw := z_kl_ok q hq
    rw [q1, q2, q3] at hw
    exact lv_ldc2 hx hb hown (F.1 _ (z_gw_in hw rfl)) hd kk
set_option maxHeartbeats 4000000 in
theorem z_Bload (hx : p.tables.exec = Jvm.exec) (hb : c.code = cc) (F : z_Fr D ax zf xL xs A args s) {cn pc : Nat} {e : zI} {st st' : List Value} {h' : zH} {ctor : Nat} (hin : z_in e = .iaload ∨ z_in e = .baload ∨ z_in e = .aaload ∨ z_in e = .arraylength) (hok : z_ok cc cn e = true) (hpc : z_pc e = pc) (h : z_B xL xs ctor e st n σ ρ = some (st', h')) (Wd : z_Wd D ad ca n σ ρ A s H locs)
    (kk : h' = (n, σ, ρ) → W p l en R s m args below meth c H locs cells slots Q (F0 m (pc + 1) ls (st'.map (z_cv ad ax zf)))) : W p l en R s m args below meth c H locs cells slots Q (F0 m pc ls (st.map (z_cv ad ax zf))) := by
  obtain ⟨pc0, ins, k0, a, b, v, w⟩ := e
  obtain rfl : pc0 = pc := hpc
  simp only [z_ok, Bool.and_eq_true, decide_eq_true_eq] at hok
  obtain ⟨hd, hs⟩ := hok
  try dsimp only [z_a, z_b, z_k, z_v, z_w] at hs
  have hn := Wd.2.2.2.2.2
  rcases hin with hin | hin | hin | hin
  · obtain rfl : ins = .iaload := hin
    simp only [z_B] at h
    try dsimp only [z_a, z_b, z_k, z_v, z_w] at h
    split at h
    · rename_i i k r
      obtain ⟨k, rfl⟩ : ∃ k' : Nat, k' = k := ⟨k, rfl⟩
      unfold z_ild at h
      try dsimp only [z_a, z_b, z_k, z_v, z_w] at h
      simp only [List.map_cons]
      split at h
      · rename_i hk
        obtain ⟨hk, h1, hi⟩ := hk
        simp only [Option.some.injEq, Prod.mk.injEq] at h
        obtain ⟨rfl, rfl⟩ := h
        have kk := kk rfl
        have hat := z_W_at (ad := ad) (ca := ca) (σ := σ) (ρ := ρ) hk
        rw [z_E1 (by omega) (by omega)] at hat
        rw [z_cv_in (by omega)]
        exact va_iald hx hb (z_K1 F.2.2.1 Wd.2.2.2.1 hk (by omega)) Wd.1 k 0 hat (by rw [z_ty1 h1]; rfl) hi hd kk
      · split at h
        · rename_i hk
          obtain ⟨hk1, hk2, hi⟩ := hk
          simp only [Option.some.injEq, Prod.mk.injEq] at h
          obtain ⟨rfl, rfl⟩ := h
          have kk := kk rfl
          have hT := (F.2.2.2.1.1 (k - 1000) (by omega)).2
          have e0 : 1000 + (k - 1000) = k := by omega
          rw [e0] at hT
          rw [z_cv_out (by omega) (by omega)]
          exact va_ti hx hb hT Wd.2.2.1 hi rfl hd kk
        · split at h
          · rename_i hk
            obtain ⟨hk1, hi⟩ := hk
            simp only [Option.some.injEq, Prod.mk.injEq] at h
            obtain ⟨rfl, rfl⟩ := h
            have kk := kk rfl
            subst hk1
            rw [z_cv_out (by omega) (by omega)]
            obtain ⟨-, -, -, -, -, hX, hX1, hX2⟩ := F.2.2.2.1
            exact va_sld hx hb hX hX1 hX2 Wd.2.2.1 hi hd kk
          · cases h
    · cases h
  · obtain rfl : ins = .baload := hin
    simp only [z_B] at h
    try dsimp only [z_a, z_b, z_k, z_v, z_w] at h
    split at h
    · rename_i i k r
      obtain ⟨k, rfl⟩ : ∃ k' : Nat, k' = k := ⟨k, rfl⟩
      unfold z_bld at h
      try dsimp only [z_a, z_b, z_k, z_v, z_w] at h
      simp only [List.map_cons]
      split at h
      · rename_i hk
        obtain ⟨hk, h1, hi⟩ := hk
        simp only [Option.some.injEq, Prod.mk.injEq] at h
        obtain ⟨rfl, rfl⟩ := h
        have kk := kk rfl
        have hat := z_W_at (ad := ad) (ca := ca) (σ := σ) (ρ := ρ) hk
        rw [z_E1 (by omega) (by omega)] at hat
        rw [z_cv_in (by omega)]
        rcases h1 with h1 | h1
        · exact va_bald hx hb (z_K1 F.2.2.1 Wd.2.2.2.1 hk (by omega)) Wd.1 k 0 hat (by rw [z_ty2 h1]; rfl) hi hd kk
        · exact va_zald hx hb (z_K1 F.2.2.1 Wd.2.2.2.1 hk (by omega)) Wd.1 k 0 hat (by rw [z_ty3 h1]; rfl) hi hd kk
      · split at h
        · rename_i hk
          obtain ⟨hk1, hk2, hi⟩ := hk
          simp only [Option.some.injEq, Prod.mk.injEq] at h
          obtain ⟨rfl, rfl⟩ := h
          have kk := kk rfl
          obtain ⟨-, -, -, hT⟩ := F.2.2.2.1.2.2.2.1.1 (k - 3000) (by omega)
          have e0 : 3000 + (k - 3000) = k := by omega
          simp only [e0] at hT
          rw [z_cv_out (by omega) (by omega)]
          exact va_tb hx hb hT Wd.2.2.1 hi rfl hd kk
        · cases h
    · cases h
  · obtain rfl : ins = .aaload := hin
    simp only [z_B] at h
    try dsimp only [z_a, z_b, z_k, z_v, z_w] at h
    split at h
    · rename_i i k r
      obtain ⟨k, rfl⟩ : ∃ k' : Nat, k' = k := ⟨k, rfl⟩
      unfold z_ald at h
      try dsimp only [z_a, z_b, z_k, z_v, z_w] at h
      simp only [List.map_cons]
      split at h
      · rename_i hk
        obtain ⟨hk, h1, hi⟩ := hk
        split at h
        · rename_i q hq
          simp only [Option.some.injEq, Prod.mk.injEq] at h
          obtain ⟨rfl, rfl⟩ := h
          have kk := kk rfl
          have hat := z_W_at (ad := ad) (ca := ca) (σ := σ) (ρ := ρ) hk
          rw [z_E4 h1] at hat
          rw [z_cv_in (by omega)]
          simp only [List.map_cons] at kk
          rw [z_cv_in (by have := Wd.2.2.2.2.1 _ _ _ hq; omega)] at kk
          refine va_aldq hx hb (z_K1 F.2.2.1 Wd.2.2.2.1 hk (by omega)) Wd.1 k 0 hat (by rw [z_ty4 h1]; rfl) hi hd ?_
          rw [hq]
          exact kk
        · cases h
      · cases h
    · cases h
  · obtain rfl : ins = .arraylength := hin
    simp only [z_B] at h
    try dsimp only [z_a, z_b, z_k, z_v, z_w] at h
    split at h
    · rename_i k r
      obtain ⟨k, rfl⟩ : ∃ k' : Nat, k' = k := ⟨k, rfl⟩
      unfold z_aln at h
      try dsimp only [z_a, z_b, z_k, z_v, z_w] at h
      simp only [List.map_cons]
      split at h
      · rename_i hk
        obtain ⟨hk, h1⟩ := hk
        simp only [Option.some.injEq, Prod.mk.injEq] at h
        obtain ⟨rfl, rfl⟩ := h
        have kk := kk rfl
        have hat := z_W_at (ad := ad) (ca := ca) (σ := σ) (ρ := ρ) hk
        rw [z_cv_in (by omega)]
        by_cases h4 : z_sk k = 4
        · rw [z_E4 h4] at hat
          exact va_alen hx hb (z_K1 F.2.2.1 Wd.2.2.2.1 hk (by omega)) Wd.1 k 0 hat rfl rfl hd kk
        · rw [z_E1 (by omega) h4] at hat
          exact va_alen hx hb (z_K1 F.2.2.1 Wd.2.2.2.1 hk (by omega)) Wd.1 k 0 hat rfl rfl hd kk
      · split at h
        · rename_i hk
          simp only [Option.some.injEq, Prod.mk.injEq] at h
          obtain ⟨rfl, rfl⟩ := h
          have kk := kk rfl
          have hT := (F.2.2.2.1.1 (k - 1000) (by omega)).2
          have e0 : 1000 + (k - 1000) = k := by omega
          rw [e0] at hT
          rw [z_cv_out (by omega) (by omega)]
          exact va_tlen hx hb hT Wd.2.2.1 rfl hd kk
        · split at h
          · rename_i hk
            simp only [Option.some.injEq, Prod.mk.injEq] at h
            obtain ⟨rfl, rfl⟩ := h
            have kk := kk rfl
            obtain ⟨-, -, -, hT⟩ := F.2.2.2.1.2.2.2.1.1 (k - 3000) (by omega)
            have e0 : 3000 + (k - 3000) = k := by omega
            simp only [e0] at hT
            rw [z_cv_out (by omega) (by omega)]
            exact va_tlen hx hb hT Wd.2.2.1 rfl hd kk
          · split at h
            · rename_i hk
              simp only [Option.some.injEq, Prod.mk.injEq] at h
              obtain ⟨rfl, rfl⟩ := h
              have kk := kk rfl
              subst hk
              rw [z_cv_out (by omega) (by omega)]
              obtain ⟨-, -, -, -, -, hX, hX1, hX2⟩ := F.2.2.2.1
              exact va_slen hx hb hX hX1 hX2 Wd.2.2.1 hd kk
            · cases h
    · cases h
set_option maxHeartbeats 4000000 in
theorem z_Bstore (hx : p.tables.exec = Jvm.exec) (hb : c.code = cc) (F : z_Fr D ax zf xL xs A args s) {cn pc : Nat} {e : zI} {st st' : List Value} {n' : Nat} {σ' : Nat → Nat → Int32} {ρ' : Nat → Nat → Option Nat} {ctor : Nat} (hin : z_in e = .iastore ∨ z_in e = .bastore ∨ z_in e = .aastore) (hok : z_ok cc cn e = true) (hpc : z_pc e = pc) (h : z_B xL xs ctor e st n σ ρ = some (st', (n', σ', ρ'))) (Wd : z_Wd D ad ca n σ ρ A s H locs)
    (kk : ∀ (H1 : Heap) (locs1 : List Loc), z_Wd D ad ca n' σ' ρ' A s H1 locs1 → n' = n → W p l en R s m args below meth c H1 locs1 cells slots Q (F0 m (pc + 1) ls (st'.map (z_cv ad ax zf)))) : W p l en R s m args below meth c H locs cells slots Q (F0 m pc ls (st.map (z_cv ad ax zf))) := by
  obtain ⟨pc0, ins, k0, a, b, v, w⟩ := e
  obtain rfl : pc0 = pc := hpc
  simp only [z_ok, Bool.and_eq_true, decide_eq_true_eq] at hok
  obtain ⟨hd, hs⟩ := hok
  try dsimp only [z_a, z_b, z_k, z_v, z_w] at hs
  have hn := Wd.2.2.2.2.2
  have fin : ∀ {k : Nat} {y : Int32} {i : Int32}, k < n → ¬ z_sk k = 0 → ¬ z_sk k = 4 → ∀ (H1 : Heap) (locs1 : List Loc), va_P D vwCl ((z_W ad ca n σ ρ).set k (ad k, .inl (ca k, z_sl_ k, .inl (upd (σ k) i.toNatClampNeg y)))) H1 → va_D A ((z_W ad ca n σ ρ).set k (ad k, .inl (ca k, z_sl_ k, .inl (upd (σ k) i.toNatClampNeg y)))) → va_S A s.heap H1 locs1 → z_Wd D ad ca n (z_u σ k i.toNatClampNeg y) ρ A s H1 locs1 := by
    intro k y i hk h0 h4 H1 locs1 hP hD hS
    have e1 : (z_W ad ca n σ ρ).set k (ad k, .inl (ca k, z_sl_ k, .inl (upd (σ k) i.toNatClampNeg y))) = z_W ad ca n (z_u σ k i.toNatClampNeg y) ρ := by
      refine z_W_set hk ?_ (fun j hj => z_E_u (z_u_ne hj) rfl)
      rw [z_E1 h0 h4, z_u_eq]
    rw [e1] at hP hD
    exact ⟨hP, hD, hS, Wd.2.2.2⟩
  rcases hin with hin | hin | hin
  · obtain rfl : ins = .iastore := hin
    simp only [z_B] at h
    try dsimp only [z_a, z_b, z_k, z_v, z_w] at h
    split at h
    · rename_i x i k r
      obtain ⟨k, rfl⟩ : ∃ k' : Nat, k' = k := ⟨k, rfl⟩
      unfold z_ist at h
      try dsimp only [z_a, z_b, z_k, z_v, z_w] at h
      simp only [List.map_cons]
      split at h
      · rename_i hk
        obtain ⟨hk, h1, hi⟩ := hk
        simp only [Option.some.injEq, Prod.mk.injEq] at h
        obtain ⟨rfl, rfl, rfl, rfl⟩ := h
        have hat := z_W_at (ad := ad) (ca := ca) (σ := σ) (ρ := ρ) hk
        rw [z_E1 (by omega) (by omega)] at hat
        rw [z_cv_in (k := k) (by omega)]
        exact va_iast hx hb (z_K1 F.2.2.1 Wd.2.2.2.1 hk (by omega)) Wd.1 Wd.2.1 Wd.2.2.1 k 0 hat (by rw [z_ty1 h1]; rfl) hi hd (fun H1 locs1 hP hD hS => kk H1 locs1 (fin hk (by omega) (by omega) H1 locs1 hP hD hS) rfl)
      · cases h
    · cases h
  · obtain rfl : ins = .bastore := hin
    simp only [z_B] at h
    try dsimp only [z_a, z_b, z_k, z_v, z_w] at h
    split at h
    · rename_i x i k r
      obtain ⟨k, rfl⟩ : ∃ k' : Nat, k' = k := ⟨k, rfl⟩
      unfold z_bst at h
      try dsimp only [z_a, z_b, z_k, z_v, z_w] at h
      simp only [List.map_cons]
      split at h
      · rename_i hk
        obtain ⟨hk, h1, hi⟩ := hk
        simp only [Option.some.injEq, Prod.mk.injEq] at h
        obtain ⟨rfl, rfl, rfl, rfl⟩ := h
        have hat := z_W_at (ad := ad) (ca := ca) (σ := σ) (ρ := ρ) hk
        rw [z_E1 (by omega) (by omega)] at hat
        rw [z_cv_in (k := k) (by omega)]
        exact va_bast hx hb (z_K1 F.2.2.1 Wd.2.2.2.1 hk (by omega)) Wd.1 Wd.2.1 Wd.2.2.1 k 0 hat (by rw [z_ty2 h1]; rfl) hi hd (fun H1 locs1 hP hD hS => kk H1 locs1 (fin hk (by omega) (by omega) H1 locs1 hP hD hS) rfl)
      · split at h
        · rename_i hk
          obtain ⟨hk, h1, hi⟩ := hk
          simp only [Option.some.injEq, Prod.mk.injEq] at h
          obtain ⟨rfl, rfl, rfl, rfl⟩ := h
          have hat := z_W_at (ad := ad) (ca := ca) (σ := σ) (ρ := ρ) hk
          rw [z_E1 (by omega) (by omega)] at hat
          rw [z_cv_in (k := k) (by omega)]
          exact va_zast hx hb (z_K1 F.2.2.1 Wd.2.2.2.1 hk (by omega)) Wd.1 Wd.2.1 Wd.2.2.1 k 0 hat (by rw [z_ty3 h1]; rfl) hi hd (fun H1 locs1 hP hD hS => kk H1 locs1 (fin hk (by omega) (by omega) H1 locs1 hP hD hS) rfl)
        · cases h
    · cases h
  · obtain rfl : ins = .aastore := hin
    simp only [z_B] at h
    try dsimp only [z_a, z_b, z_k, z_v, z_w] at h
    split at h
    · rename_i g i k r
      obtain ⟨k, rfl⟩ : ∃ k' : Nat, k' = k := ⟨k, rfl⟩
      obtain ⟨g, rfl⟩ : ∃ k' : Nat, k' = g := ⟨g, rfl⟩
      unfold z_ast at h
      try dsimp only [z_a, z_b, z_k, z_v, z_w] at h
      simp only [List.map_cons]
      split at h
      · rename_i hk
        obtain ⟨hk, hg, h1, hg0, hgc, hi⟩ := hk
        simp only [Option.some.injEq, Prod.mk.injEq] at h
        obtain ⟨rfl, rfl, rfl, rfl⟩ := h
        have hat := z_W_at (ad := ad) (ca := ca) (σ := σ) (ρ := ρ) hk
        rw [z_E4 h1] at hat
        have hatg := z_W_at (ad := ad) (ca := ca) (σ := σ) (ρ := ρ) hg
        rw [z_E0 hg0] at hatg
        have hci := ((z_sh_ok k (by omega)).2.1 h1)
        rw [hgc] at hatg
        rw [z_cv_in (k := k) (by omega), z_cv_in (k := g) (by omega)]
        refine va_astq hx hb (z_K1 F.2.2.1 Wd.2.2.2.1 hk (by omega)) Wd.1 Wd.2.1 Wd.2.2.1 k 0 g (z_sc k) hat (r := (z_cn (z_sc k), z_T (z_sc k), z_N (z_sc k))) (by rw [z_ty4 h1]; rfl) hatg (z_vw _ hci) hi hd (fun H1 locs1 hP hD hS => ?_)
        have e1 : (z_W ad ca n σ ρ).set k (ad k, .inl (ca k, z_sl_ k, .inr (.inr (.inr (.inr (va_up (fun j => (ρ k j).map ad) i.toNatClampNeg (some (ad g)))))))) = z_W ad ca n σ (z_ur ρ k i.toNatClampNeg (some g)) := by
          refine z_W_set hk ?_ (fun j hj => z_E_u rfl (z_ur_ne hj))
          rw [z_E4 h1, z_ur_eq]
          congr 7
          funext j
          simp only [va_up]
          split <;> rfl
        rw [e1] at hP hD
        refine kk H1 locs1 ⟨hP, hD, hS, Wd.2.2.2.1, fun k' j' r' hr' => ?_, hn⟩ rfl
        by_cases hk' : k' = k
        · subst hk'
          rw [z_ur_eq] at hr'
          simp only [va_up] at hr'
          split at hr'
          · cases hr'; exact hg
          · exact Wd.2.2.2.2.1 _ _ _ hr'
        · rw [z_ur_ne hk'] at hr'
          exact Wd.2.2.2.2.1 _ _ _ hr'
      · cases h
    · cases h
theorem z_nfw : nativeFrameWords "java/lang/System" "arraycopy" 5 = 7 := by decide +kernel
theorem z_sumcat (hz : z_zf zf) (st : List Value) : ((st.map (z_cv ad ax zf)).map fun v => v.category).sum = (st.map fun v => v.category).sum := by
  rw [List.map_map]
  congr 1
  apply List.map_congr_left
  intro v _
  exact z_cv_cat hz v
set_option maxHeartbeats 4000000 in
theorem z_Bcall (hx : p.tables.exec = Jvm.exec) (hb : c.code = cc) (hml : c.maxLocals = ls.size) (F : z_Fr D ax zf xL xs A args s) {cn pc : Nat} {e : zI} {st st' : List Value} {n' : Nat} {σ' : Nat → Nat → Int32} {ρ' : Nat → Nat → Option Nat} {ctor : Nat} (hin : (∃ i, z_in e = .invokestatic i) ∨ ∃ i, z_in e = .invokespecial i) (hown : s.vm.findClass (z_cn cn) = some m.cls) (hfr : 1 ≤ R.frames) (hlo : 60 ≤ R.locals) (hce : cells ≤ R.cells ∧ slots ≤ R.slots) (hok : z_ok cc cn e = true) (hpc : z_pc e = pc) (h : z_B xL xs ctor e st n σ ρ = some (st', (n', σ', ρ'))) (Wd : z_Wd D ad ca n σ ρ A s H locs)
    (kk : ∀ (H1 : Heap) (locs1 : List Loc), z_Wd D ad ca n' σ' ρ' A s H1 locs1 → n' = n → W p l en R s m args below meth c H1 locs1 cells slots Q (F0 m (pc + 3) ls (st'.map (z_cv ad ax zf)))) : W p l en R s m args below meth c H locs cells slots Q (F0 m pc ls (st.map (z_cv ad ax zf))) := by
  obtain ⟨pc0, ins, k0, a, b, v, w⟩ := e
  obtain rfl : pc0 = pc := hpc
  simp only [z_ok, Bool.and_eq_true, decide_eq_true_eq] at hok
  obtain ⟨hd, hs⟩ := hok
  try dsimp only [z_a, z_b, z_k, z_v, z_w] at hs
  have hn := Wd.2.2.2.2.2
  rcases hin with ⟨i, hin⟩ | ⟨i, hin⟩
  · obtain rfl : ins = .invokestatic i := hin
    simp only [z_B] at h
    try dsimp only [z_a, z_b, z_k, z_v, z_w] at h
    simp only [Bool.or_eq_true, beq_iff_eq] at hs
    by_cases k6 : k0 = 6
    · rw [if_pos k6] at h
      obtain ⟨q, hq, hq2⟩ := z_any (hs.resolve_left (by omega))
      simp only [Bool.and_eq_true, beq_iff_eq] at hq2
      obtain ⟨⟨⟨⟨q1, q2⟩, q3⟩, q4⟩, q5⟩ := hq2
      have hw := z_ml_ok q hq
      rw [q1, q2, q3, if_pos k6] at hw
      split at h
      · rename_i len dp kd sp ks r
        obtain ⟨kd, rfl⟩ : ∃ k' : Nat, k' = kd := ⟨kd, rfl⟩
        obtain ⟨ks, rfl⟩ : ∃ k' : Nat, k' = ks := ⟨ks, rfl⟩
        unfold z_acp at h
        try dsimp only [z_a, z_b, z_k, z_v, z_w] at h
        split at h
        · rename_i hk
          obtain ⟨hkd, hks, h1, h2, h3, h4, h5, h6, h7, h8⟩ := hk
          simp only [Option.some.injEq, Prod.mk.injEq] at h
          obtain ⟨rfl, rfl, rfl, rfl⟩ := h
          have hat := z_W_at (ad := ad) (ca := ca) (σ := σ) (ρ := ρ) hks
          rw [z_E1 (by omega) (by omega)] at hat
          have hatd := z_W_at (ad := ad) (ca := ca) (σ := σ) (ρ := ρ) hkd
          rw [z_E1 (by omega) (by omega)] at hatd
          simp only [List.map_cons]
          rw [z_cv_in (k := kd) (by omega), z_cv_in (k := ks) (by omega)]
          have hK2 := (z_K1 F.2.2.1 Wd.2.2.2.1 hks (by omega)).app (z_K1 F.2.2.1 Wd.2.2.2.1 hkd (by omega))
          refine va_copyi hx hb hml hown (F.1 _ (z_gw_in hw rfl)) (F.1 _ (z_gw_in z_ac_ok.1 rfl)) (F.1 _ (z_gw_in z_ac_ok.2.1 rfl)) (F.1 _ (z_gw_in z_ac_ok.2.2 rfl)) hK2 Wd.1 Wd.2.1 Wd.2.2.1 ks kd 0 1 hat hatd (by rw [z_ty1 h2]; rfl) (by rw [z_ty1 h1]; rfl) rfl h3 h4 h5 h6 h7 (fun _ _ => rfl) hfr (by rw [z_sumcat F.2.2.2.2.2, z_nfw]; omega) hd (fun H1 locs1 hP hD hS => ?_)
          have e1 : (z_W ad ca n σ ρ).set kd (ad kd, .inl (ca kd, z_sl_ kd, .inl (va_cpy (σ ks) (σ kd) sp.toNatClampNeg dp.toNatClampNeg len.toNatClampNeg))) = z_W ad ca n (z_cp σ ks kd sp.toNatClampNeg dp.toNatClampNeg len.toNatClampNeg) ρ := by
            refine z_W_set hkd ?_ (fun j hj => z_E_u (by simp only [z_cp, if_neg hj]) rfl)
            rw [z_E1 (by omega) (by omega)]
            simp only [z_cp, if_true]
          rw [e1] at hP hD
          exact kk H1 locs1 ⟨hP, hD, hS, Wd.2.2.2⟩ rfl
        · cases h
      · cases h
    · rw [if_neg k6] at h
      by_cases k7 : k0 = 7
      · rw [if_pos k7] at h
        obtain ⟨q, hq, hq2⟩ := z_any (hs.resolve_left (by omega))
        simp only [Bool.and_eq_true, beq_iff_eq] at hq2
        obtain ⟨⟨⟨⟨q1, q2⟩, q3⟩, q4⟩, q5⟩ := hq2
        have hw := z_ml_ok q hq
        rw [q1, q2, q3, if_neg k6, if_pos k7] at hw
        split at h
        · rename_i y x r
          split at h
          · rename_i h8
            simp only [Option.some.injEq, Prod.mk.injEq] at h
            obtain ⟨rfl, rfl, rfl, rfl⟩ := h
            exact va_mmin hx hb hml hown (F.1 _ (z_gw_in hw rfl)) (F.1 _ (z_gw_in z_mm_ok.1 rfl)) (F.1 _ (z_gw_in z_mm_ok.2.2 rfl)) (F.1 _ (List.mem_filter.mpr ⟨z_mn_c, rfl⟩)) hfr (by rw [z_sumcat F.2.2.2.2.2]; omega) hce.1 hce.2 hd (kk H locs Wd rfl)
          · cases h
        · cases h
      · rw [if_neg k7] at h
        by_cases k8 : k0 = 8
        · rw [if_pos k8] at h
          obtain ⟨q, hq, hq2⟩ := z_any (hs.resolve_left (by omega))
          simp only [Bool.and_eq_true, beq_iff_eq] at hq2
          obtain ⟨⟨⟨⟨q1, q2⟩, q3⟩, q4⟩, q5⟩ := hq2
          have hw := z_ml_ok q hq
          rw [q1, q2, q3, if_neg k6, if_neg k7, if_pos k8] at hw
          split at h
          · rename_i y x r
            split at h
            · rename_i h8
              simp only [Option.some.injEq, Prod.mk.injEq] at h
              obtain ⟨rfl, rfl, rfl, rfl⟩ := h
              exact va_mmax hx hb hml hown (F.1 _ (z_gw_in hw rfl)) (F.1 _ (z_gw_in z_mm_ok.2.1 rfl)) (F.1 _ (z_gw_in z_mm_ok.2.2 rfl)) (F.1 _ (List.mem_filter.mpr ⟨z_mx_c, rfl⟩)) hfr (by rw [z_sumcat F.2.2.2.2.2]; omega) hce.1 hce.2 hd (kk H locs Wd rfl)
            · cases h
          · cases h
        · rw [if_neg k8] at h
          cases h
  · obtain rfl : ins = .invokespecial i := hin
    simp only [z_B] at h
    try dsimp only [z_a, z_b, z_k, z_v, z_w] at h
    split at h
    · rename_i k r
      obtain ⟨k, rfl⟩ : ∃ k' : Nat, k' = k := ⟨k, rfl⟩
      unfold z_oin at h
      try dsimp only [z_a, z_b, z_k, z_v, z_w] at h
      split at h
      · rename_i hk
        obtain ⟨k5, hne, h8⟩ := hk
        simp only [Option.some.injEq, Prod.mk.injEq] at h
        obtain ⟨rfl, rfl, rfl, rfl⟩ := h
        obtain ⟨q, hq, hq2⟩ := z_any hs
        simp only [Bool.and_eq_true, beq_iff_eq] at hq2
        obtain ⟨⟨⟨⟨q1, q2⟩, q3⟩, q4⟩, q5⟩ := hq2
        have hw := z_ml_ok q hq
        rw [q1, q2, q3, if_neg (by omega), if_neg (by omega), if_neg (by omega), if_pos k5] at hw
        obtain ⟨y, hy⟩ := z_cv_ref (ad := ad) (ax := ax) (zf := zf) hne
        simp only [List.map_cons]
        rw [hy]
        refine W.objInit hx hb hown (F.1 _ (z_gw_in hw rfl)) (F.1 _ (z_gw_in z_oi_ok rfl)) (F.1 _ (List.mem_filter.mpr ⟨z_oi_c, rfl⟩)) rfl hml.symm rfl hd hfr (by show 2 * 0 + _ + 12 ≤ _; rw [z_sumcat F.2.2.2.2.2]; omega) ?_
        exact kk H locs Wd rfl
      · cases h
    · cases h
end ZB2
