/-! soundness: makings, answers, calls, runs -/
theorem z_sh4 : ∀ k, k < 105 → z_sk k = 4 → z_sc k = 0 ∨ z_sc k = 3 := by decide +kernel
theorem z_sh_at {n a b c : Nat} (h : z_sh[n]? = some (a, b, c)) : n < 105 ∧ z_sk n = a ∧ z_sc n = b ∧ z_sl_ n = c := by
  have h1 : n < z_sh.length := (List.getElem?_eq_some_iff.mp h).1
  have h2 : z_sh.getD n (9, 0, 0) = (a, b, c) := by rw [List.getD_eq_getElem?_getD, h]; rfl
  refine ⟨h1, ?_, ?_, ?_⟩
  · show (z_sh.getD n (9, 0, 0)).1 = a
    rw [h2]
  · show (z_sh.getD n (9, 0, 0)).2.1 = b
    rw [h2]
  · show (z_sh.getD n (9, 0, 0)).2.2 = c
    rw [h2]
theorem z_cv_av {ad ad' ax : Nat → Nat} {zf v : Value} {n : Nat} (h : ∀ k, k < n → ad' k = ad k) (hv : z_av n v = true) : z_cv ad' ax zf v = z_cv ad ax zf v := by
  cases v <;> try rfl
  rename_i k
  simp only [z_av, z_avr, Bool.or_eq_true, decide_eq_true_eq] at hv
  simp only [z_cv, z_cvr]
  split
  · rfl
  · split
    · rfl
    · rw [h k (by omega)]
theorem z_cl_av {ad ad' ax : Nat → Nat} {zf : Value} {L : List (Nat × Value)} {n : Nat} (h : ∀ k, k < n → ad' k = ad k) (hv : (L.all fun q => z_av n q.2) = true) : z_cl ad' ax zf L = z_cl ad ax zf L := by
  apply List.map_congr_left
  intro q hq
  rw [z_cv_av h (List.all_eq_true.mp hv q hq)]
theorem z_st_av {ad ad' ax : Nat → Nat} {zf : Value} {st : List Value} {n : Nat} (h : ∀ k, k < n → ad' k = ad k) (hv : st.all (z_av n) = true) : st.map (z_cv ad' ax zf) = st.map (z_cv ad ax zf) := by
  apply List.map_congr_left
  intro q hq
  exact z_cv_av h (List.all_eq_true.mp hv q hq)
theorem z_E_grow {ad : Nat → Nat} {ca : Nat → ClassId} {σ : Nat → Nat → Int32} {ρ : Nat → Nat → Option Nat} {n k q : Nat} {cA : ClassId} (hρ : ∀ k j r, ρ k j = some r → r < n) (hk : k < n) : z_E (va_up ad n q) (va_up ca n cA) (z_0 σ n) (z_0r ρ n) k = z_E ad ca σ ρ k := by
  have e1 : z_0 σ n k = σ k := by simp [z_0, Nat.ne_of_lt hk]
  have e2 : z_0r ρ n k = ρ k := by simp [z_0r, Nat.ne_of_lt hk]
  have e3 : ∀ j, (ρ k j).map (va_up ad n q) = (ρ k j).map ad := by
    intro j
    cases hr : ρ k j with
    | none => rfl
    | some r =>
      have := hρ k j r hr
      simp [va_up, Nat.ne_of_lt this]
  have e4 : va_up ca n cA k = ca k := va_up_ne ca cA (Nat.ne_of_lt hk)
  unfold z_E
  rw [e1, e2, e4]
  simp only [e3]
section ZC
variable {p : Program} {l : Launch} {en : Env} {R : Room} {s : State} {m : MethodId} {args : Array Value} {below : List Frame} {meth : Method} {c : Code} {H : Heap} {locs : List Loc} {cells slots : Nat} {Q : State → Prop}
variable {cc : ByteArray} {ad ax : Nat → Nat} {ca : Nat → ClassId} {zf : Value} {D : va_G} {A : Nat → Prop} {xL : Nat} {xs : Nat → Int32} {n : Nat} {σ : Nat → Nat → Int32} {ρ : Nat → Nat → Option Nat} {ls : Array Slot}
theorem z_W_grow {q : Nat} {cA : ClassId} {E : va_E} (hρ : ∀ k j r, ρ k j = some r → r < n) (hE : z_E (va_up ad n q) (va_up ca n cA) (z_0 σ n) (z_0r ρ n) n = E) : z_W ad ca n σ ρ ++ [(q, E)] = z_W (va_up ad n q) (va_up ca n cA) (n + 1) (z_0 σ n) (z_0r ρ n) :=
  z_W_push (va_up_self ad n q) hE (fun k hk => va_up_ne ad q (Nat.ne_of_lt hk)) (fun k hk => z_E_grow hρ hk)
theorem z_0r_lt (hρ : ∀ k j r, ρ k j = some r → r < n) : ∀ k j r, z_0r ρ n k j = some r → r < n + 1 := by
  intro k j r h
  by_cases hk : k = n
  · subst hk
    simp [z_0r] at h
  · simp only [z_0r, if_neg hk] at h
    have := hρ k j r h
    omega
theorem z_AT_grow {q : Nat} {cA : ClassId} (h : z_AT ca n s) (hn : ¬ z_sk n = 0 → ArrOfT s cA (z_ty n) ∧ va_RA s cA (z_ty n)) : z_AT (va_up ca n cA) (n + 1) s := by
  intro k hk h0
  by_cases e : k = n
  · subst e
    rw [va_up_self]
    exact hn h0
  · rw [va_up_ne ca cA e]
    exact h k (by omega) h0
set_option maxHeartbeats 4000000 in
theorem z_Csnd (hx : p.tables.exec = Jvm.exec) (hb : c.code = cc) (F : z_Fr D ax zf xL xs A args s) {cn pc : Nat} {e : zI} {st st' : List Value} {n' : Nat} {σ' : Nat → Nat → Int32} {ρ' : Nat → Nat → Option Nat} (hown : s.vm.findClass (z_cn cn) = some m.cls) (hok : z_ok cc cn e = true) (hpc : z_pc e = pc) (h : z_C e st n σ ρ = some (st', (n', σ', ρ'))) (Wd : z_Wd D ad ca n σ ρ A s H locs) (hst : st.all (z_av n) = true) (hce : cells + 1 ≤ R.cells) (hsl : slots + z_sl_ n ≤ R.slots)
    (kk : ∀ (ad' : Nat → Nat) (ca' : Nat → ClassId) (H1 : Heap), z_Wd D ad' ca' n' σ' ρ' A s H1 locs → n' = n + 1 → (∀ k, k < n → ad' k = ad k ∧ ca' k = ca k) → W p l en R s m args below meth c H1 locs (cells + 1) (slots + z_sl_ n) Q (F0 m (pc + z_len e) ls (st'.map (z_cv ad' ax zf)))) : W p l en R s m args below meth c H locs cells slots Q (F0 m pc ls (st.map (z_cv ad ax zf))) := by
  obtain ⟨pc0, ins, k0, a, b, v, w⟩ := e
  obtain rfl : pc0 = pc := hpc
  simp only [z_ok, Bool.and_eq_true, decide_eq_true_eq] at hok
  obtain ⟨hd, hs⟩ := hok
  try dsimp only [z_a, z_b, z_k, z_v, z_w] at hs
  have hρ := Wd.2.2.2.2.1
  have hup : ∀ (q : Nat) (cA : ClassId), ∀ k, k < n → va_up ad n q k = ad k ∧ va_up ca n cA k = ca k := fun q cA k hk => ⟨va_up_ne ad q (Nat.ne_of_lt hk), va_up_ne ca cA (Nat.ne_of_lt hk)⟩
  cases ins
  case new i =>
    simp only [z_C] at h
    try dsimp only [z_a, z_b, z_k, z_v, z_w] at h
    split at h
    · rename_i hsh
      obtain ⟨hn, h0, hsc, hsl0⟩ := z_sh_at hsh
      simp only [Option.some.injEq, Prod.mk.injEq] at h
      obtain ⟨rfl, rfl, rfl, rfl⟩ := h
      obtain ⟨q, hq, hq2⟩ := z_any hs
      simp only [Bool.and_eq_true, beq_iff_eq] at hq2
      obtain ⟨⟨q1, q2⟩, q3⟩ := hq2
      obtain ⟨hw, ha⟩ := z_nl_ok q hq
      rw [q1, q2, q3] at hw
      rw [q3] at ha
      rw [hsl0] at hsl kk
      refine va_new hx hb F.1 (z_lay a ha) (z_tf a) (z_tf_ok a ha) hown (F.1 _ (z_gw_in hw rfl)) (F.1 _ (z_gw_in (z_np_ok a ha).1 rfl)) (F.1 _ (z_gw_in (z_np_ok a ha).2 rfl)) F.2.2.1 Wd.1 Wd.2.1 Wd.2.2.1 F.2.2.2.2.1 (z_vw a ha) (fs := (List.range (z_N a)).map (fun j => if z_rf a j = true then .null else .int 0)) (fun j hj => ?_) hce hsl hd (fun q9 H1 hP hD hS => ?_)
      · have e1 : vp_V ((List.range (z_N a)).map (fun j => if z_rf a j = true then Value.null else .int 0)) j = if z_rf a j = true then .null else .int 0 := by
          simp [vp_V, hj]
        rw [e1]
        by_cases hr : z_rf a j = true
        · rw [if_pos hr]
          have hty := (z_fld_ok a ha j hj).2.resolve_left (z_rf_R hr)
          rw [z_tf_ok a ha j hj] at hty
          generalize z_tf a j = t at hty
          cases t <;> first | rfl | cases hty
        · rw [if_neg hr]
          have hr : z_rf a j = false := by simpa using hr
          have e2 := z_tf_ok a ha j hj
          rw [z_rf_I hr, z_I] at e2
          rw [← Option.some.inj e2]
          rfl
      · have hE : z_E (va_up ad n q9) (va_up ca n (ca n)) (z_0 σ n) (z_0r ρ n) n = .inr (a, (List.range (z_N a)).map (fun j => if z_rf a j = true then .null else .int 0)) := by
          rw [z_E0 h0, hsc]
          congr 3
          funext j
          split
          · simp [z_0r, va_rf]
          · simp [z_0]
        rw [z_W_grow hρ hE] at hP hD
        have kk := kk _ _ H1 ⟨hP, hD, hS, z_AT_grow (q := q9) Wd.2.2.2.1 (fun z => absurd h0 z), z_0r_lt hρ, by omega⟩ rfl (hup q9 (ca n))
        simp only [List.map_cons] at kk
        rw [z_cv_in (by omega), va_up_self, z_st_av (fun k hk => (hup q9 (ca n) k hk).1) hst] at kk
        exact kk
    · cases h
  case newarray t =>
    simp only [z_C] at h
    try dsimp only [z_a, z_b, z_k, z_v, z_w] at h
    split at h
    · rename_i i r
      split at h
      · rename_i hsh
        obtain ⟨hsh, h1, h2⟩ := hsh
        obtain ⟨hn, h0, hsc, hsl0⟩ := z_sh_at hsh
        simp only [Option.some.injEq, Prod.mk.injEq] at h
        obtain ⟨rfl, rfl, rfl, rfl⟩ := h
        rw [hsl0] at hsl kk
        have hst' : r.all (z_av n) = true := by
          simp only [List.all_cons, Bool.and_eq_true] at hst
          exact hst.2
        have go : ∀ (ty : FieldType), newarray.typeOf t = ty → z_ty n = ty → (∀ (cA : ClassId) (N : Nat), vp_cell cA (N, .inl (fun _ => 0)) = arrV cA N (fun _ => defaultValue ty)) → componentBytes ty ≤ 4 → lw_tbl.contains (.arrayClass (newarray.typeOf t)) = true → ¬ z_sk n = 0 → ¬ z_sk n = 4 → W p l en R s m args below meth c H locs cells slots Q (F0 m pc0 ls ((Value.int i :: r).map (z_cv ad ax zf))) := by
          intro ty hty hzt hcell hcb hmem hne0 hne4
          refine va_newa hx hb (F.1 _ (List.mem_filter.mpr ⟨List.contains_iff_mem.mp hmem, rfl⟩)) hty F.2.2.1 Wd.1 Wd.2.1 Wd.2.2.1 F.2.2.2.2.1 (a0 := (i.toNatClampNeg, .inl (fun _ => 0))) (fun cA => hcell cA _) h1 rfl ?_ hce hsl hd (fun q9 cA H1 hK hP hD hS => ?_)
          · have := Nat.mul_le_mul (Nat.le_of_lt h2) hcb
            omega
          · have hE : z_E (va_up ad n q9) (va_up ca n cA) (z_0 σ n) (z_0r ρ n) n = .inl (cA, i.toNatClampNeg, .inl (fun _ => 0)) := by
              rw [z_E1 hne0 hne4, hsl0, va_up_self]
              simp [z_0]
            rw [z_W_grow hρ hE] at hP hD
            have kk := kk _ _ H1 ⟨hP, hD, hS, z_AT_grow (q := q9) Wd.2.2.2.1 (fun _ => by rw [hzt]; exact hK.2 0 _ rfl), z_0r_lt hρ, by omega⟩ rfl (hup q9 cA)
            simp only [List.map_cons] at kk
            rw [z_cv_in (by omega), va_up_self, z_st_av (fun k hk => (hup q9 cA k hk).1) hst'] at kk
            exact kk
        simp only [Bool.or_eq_true, Bool.and_eq_true, beq_iff_eq, decide_eq_true_eq] at hs
        rcases hs with (⟨rfl, h9⟩ | ⟨rfl, h9⟩) | ⟨rfl, h9⟩
        · exact go .int rfl (z_ty1 (by omega)) (fun _ _ => rfl) (by decide) (List.contains_iff_mem.mpr (List.mem_of_getElem? z_ar_ok.1)) (by omega) (by omega)
        · exact go .byte rfl (z_ty2 (by omega)) (fun _ _ => rfl) (by decide) (List.contains_iff_mem.mpr (List.mem_of_getElem? z_ar_ok.2.1)) (by omega) (by omega)
        · exact go .boolean rfl (z_ty3 (by omega)) (fun _ _ => rfl) (by decide) (List.contains_iff_mem.mpr (List.mem_of_getElem? z_ar_ok.2.2.1)) (by omega) (by omega)
      · cases h
    · cases h
  case anewarray j =>
    simp only [z_C] at h
    try dsimp only [z_a, z_b, z_k, z_v, z_w] at h
    split at h
    · rename_i i r
      split at h
      · rename_i hsh
        obtain ⟨hsh, h1, h2⟩ := hsh
        obtain ⟨hn, h0, hsc, hsl0⟩ := z_sh_at hsh
        simp only [Option.some.injEq, Prod.mk.injEq] at h
        obtain ⟨rfl, rfl, rfl, rfl⟩ := h
        rw [hsl0] at hsl kk
        have hst' : r.all (z_av n) = true := by
          simp only [List.all_cons, Bool.and_eq_true] at hst
          exact hst.2
        obtain ⟨q, hq, hq2⟩ := z_any hs
        simp only [Bool.and_eq_true, beq_iff_eq] at hq2
        obtain ⟨⟨q1, q2⟩, q3⟩ := hq2
        obtain ⟨hw, ha⟩ := z_nl_ok q hq
        rw [q1, q2, q3] at hw
        have hao : va_AO (z_cn a) s := by
          rcases z_sh4 n hn h0 with e | e
          · rw [← hsc, e]; exact F.2.1.2.1
          · rw [← hsc, e]; exact F.2.1.2.2
        refine va_newq hx hb hown (F.1 _ (z_gw_in hw rfl)) hao F.2.2.1 Wd.1 Wd.2.1 Wd.2.2.1 F.2.2.2.2.1 h1 rfl (by omega) hce hsl hd (fun q9 cA H1 hK hP hD hS => ?_)
        have hE : z_E (va_up ad n q9) (va_up ca n cA) (z_0 σ n) (z_0r ρ n) n = .inl (cA, i.toNatClampNeg, .inr (.inr (.inr (.inr (fun _ => none))))) := by
          rw [z_E4 h0, hsl0, va_up_self]
          simp [z_0r]
        rw [z_W_grow hρ hE] at hP hD
        have kk := kk _ _ H1 ⟨hP, hD, hS, z_AT_grow (q := q9) Wd.2.2.2.1 (fun _ => by rw [z_ty4 h0, hsc]; exact hK.2 0 _ rfl), z_0r_lt hρ, by omega⟩ rfl (hup q9 cA)
        simp only [List.map_cons] at kk
        rw [z_cv_in (by omega), va_up_self, z_st_av (fun k hk => (hup q9 cA k hk).1) hst'] at kk
        exact kk
      · cases h
    · cases h
  all_goals (simp only [z_C] at h; cases h)
end ZC
