/-! soundness: the steps that ask or change cells -/
section ZB
variable {p : Program} {l : Launch} {en : Env} {R : Room} {s : State} {m : MethodId} {args : Array Value} {below : List Frame} {meth : Method} {c : Code} {H : Heap} {locs : List Loc} {cells slots : Nat} {Q : State → Prop}
variable {cc : ByteArray} {ad ax : Nat → Nat} {ca : Nat → ClassId} {zf : Value} {D : va_G} {A : Nat → Prop} {xL : Nat} {xs : Nat → Int32} {n : Nat} {σ : Nat → Nat → Int32} {ρ : Nat → Nat → Option Nat} {ls : Array Slot}
theorem z_hl {cn i : Nat} {w : Cond} (F : z_Fr D ax zf xL xs A args s) (h : lw_tbl[i]? = some w) (hg : goodWord w = true) : w.before args s = true := F.1 _ (z_gw_in h hg)
/-- the world behind a store of an int into cell k -/
theorem z_Wd_i {σ' : Nat → Nat → Int32} {H1 : Heap} {locs1 : List Loc} (Wd : z_Wd D ad ca n σ ρ A s H locs) (hP : va_P D vwCl (z_W ad ca n σ' ρ) H1) (hD : va_D A (z_W ad ca n σ' ρ)) (hS : va_S A s.heap H1 locs1) : z_Wd D ad ca n σ' ρ A s H1 locs1 := ⟨hP, hD, hS, Wd.2.2.2⟩
set_option maxHeartbeats 4000000 in
theorem z_Bget (hx : p.tables.exec = Jvm.exec) (hb : c.code = cc) (F : z_Fr D ax zf xL xs A args s) {cn pc i : Nat} {e : zI} {st st' : List Value} {h' : zH} {ctor : Nat} (hin : z_in e = .getfield i) (hown : s.vm.findClass (z_cn cn) = some m.cls) (hok : z_ok cc cn e = true) (hpc : z_pc e = pc) (h : z_B xL xs ctor e st n σ ρ = some (st', h')) (Wd : z_Wd D ad ca n σ ρ A s H locs)
    (kk : h' = (n, σ, ρ) → W p l en R s m args below meth c H locs cells slots Q (F0 m (pc + 3) ls (st'.map (z_cv ad ax zf)))) : W p l en R s m args below meth c H locs cells slots Q (F0 m pc ls (st.map (z_cv ad ax zf))) := by
  obtain ⟨pc0, ins, k0, a, b, v, w⟩ := e
  obtain rfl : pc0 = pc := hpc
  obtain rfl : ins = .getfield i := hin
  simp only [z_ok, Bool.and_eq_true, decide_eq_true_eq] at hok
  obtain ⟨hd, hs⟩ := hok
  try dsimp only [z_a, z_b, z_k, z_v, z_w] at hs
  simp only [z_B] at h
  try dsimp only [z_a, z_b, z_k, z_v, z_w] at h
  split at h
  · rename_i k r
    obtain ⟨k, rfl⟩ : ∃ k' : Nat, k' = k := ⟨k, rfl⟩
    unfold z_get_ at h
    try dsimp only [z_a, z_b, z_k, z_v, z_w] at h
    by_cases ha : a = 17
    · rw [if_pos ha] at h hs
      split at h
      · rename_i hk
        simp only [Option.some.injEq, Prod.mk.injEq] at h
        obtain ⟨rfl, rfl⟩ := h
        have kk := kk rfl
        obtain ⟨q, hq, hq2⟩ := z_any hs
        simp only [Bool.and_eq_true, beq_iff_eq] at hq2
        obtain ⟨⟨q1, q2⟩, q3⟩ := hq2
        have hw := z_fs_ok q hq
        rw [q1, q2, q3] at hw
        obtain ⟨-, e2, e3, -⟩ := F.2.2.2.1.2.2.2.1.1 (k - 2000) (by omega)
        have e0 : 2000 + (k - 2000) = k := by omega
        have e1 : 3000 + (k - 2000) = k + 1000 := by omega
        simp only [e0] at e2 e3
        simp only [e1] at e3
        simp only [List.map_cons] at kk ⊢
        rw [z_cv_out (by omega) (by omega)]
        by_cases hb0 : b = 0
        · rw [if_pos hb0] at hw kk
          rw [z_cv_out (by omega) (by omega)] at kk
          exact vk_getf hx hb e3 Wd.2.2.1 hown (F.1 _ (z_gw_in hw rfl)) (fun _ h => h) hd kk
        · rw [if_neg hb0] at hw kk
          exact vk_getf hx hb e2 Wd.2.2.1 hown (F.1 _ (z_gw_in hw rfl)) (fun _ h => h) hd kk
      · cases h
    · rw [if_neg ha] at h hs
      split at h
      · rename_i hk
        obtain ⟨hk, h0, hsc, hbN⟩ := hk
        have hn := Wd.2.2.2.2.2
        have hci : a < 11 := by rw [← hsc]; exact ((z_sh_ok k (by omega)).1 h0).1
        obtain ⟨q, hq, hq2⟩ := z_any hs
        simp only [Bool.and_eq_true, beq_iff_eq] at hq2
        obtain ⟨⟨⟨q1, q2⟩, q3⟩, q4⟩ := hq2
        have hw := z_fl_ok q hq
        rw [q1, q2, q3, q4] at hw
        have hl := F.1 _ (z_gw_in hw rfl)
        have hat := z_W_at (ad := ad) (ca := ca) (σ := σ) (ρ := ρ) hk
        rw [z_E0 h0, hsc] at hat
        simp only [List.map_cons] at ⊢
        rw [z_cv_in (by omega)]
        split at h
        · rename_i hr
          split at h
          · rename_i q9 hq9
            simp only [Option.some.injEq, Prod.mk.injEq] at h
            obtain ⟨rfl, rfl⟩ := h
            have kk := kk rfl
            simp only [List.map_cons] at kk
            rw [z_cv_in (by have := Wd.2.2.2.2.1 k b q9 hq9; omega)] at kk
            exact va_get hx hb F.1 (z_lay a hci) hown F.2.2.1 Wd.1 k hat (z_vw a hci) b hbN hl (fun _ h => h) (by simp [hbN, hr, hq9, va_rf]) hd kk
          · cases h
        · rename_i hr
          simp only [Option.some.injEq, Prod.mk.injEq] at h
          obtain ⟨rfl, rfl⟩ := h
          have kk := kk rfl
          exact va_get hx hb F.1 (z_lay a hci) hown F.2.2.1 Wd.1 k hat (z_vw a hci) b hbN hl (fun _ h => h) (v := .int (σ k b)) (by simp [hbN, hr]) hd kk
      · cases h
  · cases h
set_option maxHeartbeats 4000000 in
theorem z_Bput (hx : p.tables.exec = Jvm.exec) (hb : c.code = cc) (F : z_Fr D ax zf xL xs A args s) {cn pc i : Nat} {e : zI} {st st' : List Value} {n' : Nat} {σ' : Nat → Nat → Int32} {ρ' : Nat → Nat → Option Nat} {ctor : Nat} (hin : z_in e = .putfield i) (hown : s.vm.findClass (z_cn cn) = some m.cls) (hct : ¬ ctor = 99 → meth.name = "<init>" ∧ ctor = cn) (hok : z_ok cc cn e = true) (hpc : z_pc e = pc) (h : z_B xL xs ctor e st n σ ρ = some (st', (n', σ', ρ'))) (Wd : z_Wd D ad ca n σ ρ A s H locs)
    (kk : ∀ (H1 : Heap) (locs1 : List Loc), z_Wd D ad ca n' σ' ρ' A s H1 locs1 → n' = n → W p l en R s m args below meth c H1 locs1 cells slots Q (F0 m (pc + 3) ls (st'.map (z_cv ad ax zf)))) : W p l en R s m args below meth c H locs cells slots Q (F0 m pc ls (st.map (z_cv ad ax zf))) := by
  obtain ⟨pc0, ins, k0, a, b, v, w⟩ := e
  obtain rfl : pc0 = pc := hpc
  obtain rfl : ins = .putfield i := hin
  simp only [z_ok, Bool.and_eq_true, decide_eq_true_eq] at hok
  obtain ⟨hd, hs⟩ := hok
  try dsimp only [z_a, z_b, z_k, z_v, z_w] at hs
  obtain ⟨q, hq, hq2⟩ := z_any hs
  simp only [Bool.and_eq_true, beq_iff_eq] at hq2
  obtain ⟨⟨⟨q1, q2⟩, q3⟩, q4⟩ := hq2
  have hw := z_fl_ok q hq
  rw [q1, q2, q3, q4] at hw
  have hl := F.1 _ (z_gw_in hw rfl)
  have hn := Wd.2.2.2.2.2
  simp only [z_B] at h
  try dsimp only [z_a, z_b, z_k, z_v, z_w] at h
  split at h
  · rename_i x k r
    obtain ⟨k, rfl⟩ : ∃ k' : Nat, k' = k := ⟨k, rfl⟩
    unfold z_puti at h
    try dsimp only [z_a, z_b, z_k, z_v, z_w] at h
    split at h
    · rename_i hk
      obtain ⟨hk, h0, hsc, hbN, hr, hfin⟩ := hk
      simp only [Option.some.injEq, Prod.mk.injEq] at h
      obtain ⟨rfl, rfl, rfl, rfl⟩ := h
      have hci : a < 11 := by rw [← hsc]; exact ((z_sh_ok k (by omega)).1 h0).1
      have hat := z_W_at (ad := ad) (ca := ca) (σ := σ) (ρ := ρ) hk
      rw [z_E0 h0, hsc] at hat
      simp only [List.map_cons] at ⊢
      rw [z_cv_in (k := k) (by omega)]
      refine va_put hx hb F.1 (z_lay a hci) (z_tf a) (z_tf_ok a hci) (z_nm_ok a hci) hown F.2.2.1 Wd.1 Wd.2.1 Wd.2.2.1 k hat (z_vw a hci) b hbN hl (fun _ h => h) hfin (ty := .int) (v := .int x) (by rw [z_rf_I hr]; exact z_I) rfl rfl (by simpa using hbN) hd (fun H1 locs1 hP hD hS => ?_)
      have e1 : (z_W ad ca n σ ρ).set k (ad k, .inr (a, ((List.range (z_N a)).map (fun j => if z_rf a j = true then va_rf ((ρ k j).map ad) else .int (σ k j))).set b (.int x))) = z_W ad ca n (z_u σ k b x) ρ := by
        refine z_W_set hk ?_ (fun j hj => z_E_u (z_u_ne hj) rfl)
        rw [z_E0 h0, hsc, z_fs_i hr]
      rw [e1] at hP hD
      exact kk H1 locs1 ⟨hP, hD, hS, Wd.2.2.2⟩ rfl
    · cases h
  · rename_i g k r
    obtain ⟨k, rfl⟩ : ∃ k' : Nat, k' = k := ⟨k, rfl⟩
    obtain ⟨g, rfl⟩ : ∃ k' : Nat, k' = g := ⟨g, rfl⟩
    unfold z_putr at h
    try dsimp only [z_a, z_b, z_k, z_v, z_w] at h
    split at h
    · rename_i hk
      obtain ⟨hgn, hk, h0, hsc, hbN, hr, hfin, hcta⟩ := hk
      simp only [Option.some.injEq, Prod.mk.injEq] at h
      obtain ⟨rfl, rfl, rfl, rfl⟩ := h
      have hci : a < 11 := by rw [← hsc]; exact ((z_sh_ok k (by omega)).1 h0).1
      obtain ⟨hin2, hcc⟩ := hct (by omega)
      have hat := z_W_at (ad := ad) (ca := ca) (σ := σ) (ρ := ρ) hk
      rw [z_E0 h0, hsc] at hat
      simp only [List.map_cons] at ⊢
      rw [z_cv_in (k := k) (by omega), z_cv_in (k := g) (by omega)]
      obtain ⟨ho, hty⟩ := z_fld_ok a hci b hbN
      have hty := hty.resolve_left (z_rf_R hr)
      have hpf := z_tf_ok a hci b hbN
      rw [hpf] at hty
      have hfit : narrow (z_tf a b) (.ref (ad g)) = .ref (ad g) ∧ fits (z_tf a b) (.ref (ad g)) = true := by
        generalize z_tf a b = t at hty
        cases t <;> first | exact ⟨rfl, rfl⟩ | cases hty
      refine va_putF hx hb F.1 (z_lay a hci) (z_tf a) (z_tf_ok a hci) (z_nm_ok a hci) hown F.2.2.1 Wd.1 Wd.2.1 Wd.2.2.1 k hat (z_vw a hci) b hbN hl (fun _ h => h) hfin hin2 (by rw [ho, ← hcta, hcc]) hpf hfit.1 hfit.2 (by simpa using hbN) hd (fun H1 locs1 hP hD hS => ?_)
      have e1 : (z_W ad ca n σ ρ).set k (ad k, .inr (a, ((List.range (z_N a)).map (fun j => if z_rf a j = true then va_rf ((ρ k j).map ad) else .int (σ k j))).set b (.ref (ad g)))) = z_W ad ca n σ (z_ur ρ k b (some g)) := by
        refine z_W_set hk ?_ (fun j hj => z_E_u rfl (z_ur_ne hj))
        rw [z_E0 h0, hsc, z_fs_r hr]
      rw [e1] at hP hD
      refine kk H1 locs1 ⟨hP, hD, hS, Wd.2.2.2.1, fun k' j' r' hr' => ?_, hn⟩ rfl
      by_cases hk' : k' = k
      · subst hk'
        rw [z_ur_eq] at hr'
        simp only [va_up] at hr'
        split at hr'
        · cases hr'; exact hgn
        · exact Wd.2.2.2.2.1 _ _ _ hr'
      · rw [z_ur_ne hk'] at hr'
        exact Wd.2.2.2.2.1 _ _ _ hr'
    · cases h
  · cases h
end ZB
