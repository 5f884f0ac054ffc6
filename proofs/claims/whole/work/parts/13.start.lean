set_option maxHeartbeats 4000000 in
theorem z_first {p : Program} {s : State} {m : MethodId} {meth : Method} {c : Code} {b L : Nat} {xs : Nat → Int32} (C0 : lw_At p s m meth c b L xs) : ∃ (D : va_G) (ax : Nat → Nat) (zf : Value), ax 4000 = b ∧ z_Fr D ax zf L xs (fun q => s.heap.size ≤ q) #[Value.ref b] s := by
  obtain ⟨hx, hb, hr, hml, hown, hts, hX, hbl, hlocks, hgv⟩ := C0
  have hA : ∀ a : Nat, a < s.heap.size → ¬ (fun q : Nat => s.heap.size ≤ q) a := fun a h => Nat.not_le.mpr h
  have hn : ∀ w ∈ z_nf, w.before #[Value.ref b] s = true := flat_of_before _ hgv
  have hts2 : ∀ w ∈ z_gw, w.before #[Value.ref b] s = true := fun w hw => hts w (List.mem_filter.mp hw).1
  -- classes
  have hkn : ∀ ci : Nat, ∃ q : ClassId × (Nat → Nat), ci < 11 → u_Kn s (z_cn ci) (z_T ci) (z_N ci) q.1 q.2 := by
    intro ci
    by_cases h : ci < 11
    · obtain ⟨c1, i1, h1⟩ := u_known (C := z_cn ci) (T := z_T ci) (N := z_N ci) hts2 (z_lay ci h) (hts2 _ (z_gw_in (z_np_ok ci h).1 rfl))
      exact ⟨(c1, i1), fun _ => h1⟩
    · exact ⟨(0, fun _ => 0), fun z => absurd z h⟩
  obtain ⟨fD, hfD⟩ := Classical.axiomOfChoice hkn
  have hK : va_K (fun ci => (fD ci).1, fun ci => (fD ci).2) vwCl [] s := by
    refine ⟨fun ci q hq => ?_, fun k q h => by simp at h⟩
    have hlt : ci < 11 := (List.getElem?_eq_some_iff.mp hq).1
    rw [z_vw ci hlt] at hq
    cases hq
    exact hfD ci hlt
  -- static arrays
  have hst : ∀ i : Nat, ∃ t : Nat, i < 4 → (z_tS i).eval #[Value.ref b] s none [] s = some (.ref t) ∧ va_T .int t (z_sv.getD i []).length (fun j => .int ((z_sv.getD i []).getD j 0)) (fun q => s.heap.size ≤ q) s s.heap := by
    intro i
    by_cases h : i < 4
    · obtain ⟨⟨h1, h2⟩, h3⟩ := z_nf_S i h
      obtain ⟨t, ht⟩ := va_Tof (f := fun j => .int ((z_sv.getD i []).getD j 0)) (z_nf_SL i h) (hn _ h1) (va_eqt (hn _ h2)) (fun j hj => va_eqt (hn _ (h3 j hj))) hA
      exact ⟨t, fun _ => ht⟩
    · exact ⟨0, fun z => absurd z h⟩
  obtain ⟨fS, hfS⟩ := Classical.axiomOfChoice hst
  -- strings
  obtain ⟨adK, adV, hV, hKe⟩ := vk_Sof (tm := z_tK) (len := z_tl) (byt := z_tb) (N := 13) z_nf_KL (fun i hi => hn _ (z_nf_K i hi).1) (fun i hi => hn _ (z_nf_K i hi).2.1) (fun i hi => hn _ (z_nf_K i hi).2.2.1) (fun i hi => hn _ (z_nf_K i hi).2.2.2) (fun i hi j hj => hn _ (z_nf_KE i hi j hj)) (fun i j hi hj hne => (z_nf_KN i hi j hj).elim (fun e => absurd e hne) (fun z => z.imp (fun q => hn _ q) (fun q => hn _ q))) hA
  -- the formatter
  obtain ⟨zf, hz, hzf⟩ : ∃ zf : Value, z_zf zf ∧ va_Z "jdk/internal/util/Preconditions" "SIOOBE_FORMATTER" "Ljava/util/function/BiFunction;" zf (fun q => s.heap.size ≤ q) s s.heap := by
    rcases va_Zqof (hts _ z_lw_C.2.2.1) (hts _ z_lw_C.2.2.2) (hn _ z_nf_C.2) hA with h | ⟨t, h⟩
    · exact ⟨.null, Or.inl rfl, h⟩
    · exact ⟨.ref t, Or.inr ⟨t, rfl⟩, h⟩
  obtain ⟨ax, a1, a2, a3, a4⟩ : ∃ ax : Nat → Nat, (∀ i, i < 4 → ax (1000 + i) = fS i) ∧ (∀ i, i < 13 → ax (2000 + i) = adK i) ∧ (∀ i, i < 13 → ax (3000 + i) = adV i) ∧ ax 4000 = b := by
    refine ⟨fun k => if k < 2000 then fS (k - 1000) else if k < 3000 then adK (k - 2000) else if k < 4000 then adV (k - 3000) else b, fun i hi => ?_, fun i hi => ?_, fun i hi => ?_, rfl⟩
    · show (if 1000 + i < 2000 then fS (1000 + i - 1000) else _) = _
      rw [if_pos (by omega), Nat.add_sub_cancel_left]
    · show (if 2000 + i < 2000 then fS (2000 + i - 1000) else if 2000 + i < 3000 then adK (2000 + i - 2000) else _) = _
      rw [if_neg (by omega), if_pos (by omega), Nat.add_sub_cancel_left]
    · show (if 3000 + i < 2000 then fS (3000 + i - 1000) else if 3000 + i < 3000 then adK (3000 + i - 2000) else if 3000 + i < 4000 then adV (3000 + i - 3000) else _) = _
      rw [if_neg (by omega), if_neg (by omega), if_pos (by omega), Nat.add_sub_cancel_left]
  refine ⟨(fun ci => (fD ci).1, fun ci => (fD ci).2), ax, zf, a4, hts2, ⟨fun q hq hk => va_Nw.of rfl (hts _ (z_lw_N q hq hk)), va_AO.of (hts _ (List.mem_of_getElem? z_ar_ok.2.2.2.1)), va_AO.of (hts _ (List.mem_of_getElem? z_ar_ok.2.2.2.2))⟩, hK, ⟨?_, ?_, hzf, ?_, ?_, by rw [a4]; exact hX, by rw [a4]; exact hbl, ?_⟩, fun q h => h, hz⟩
  · intro i hi
    obtain ⟨h1, h2⟩ := hfS i hi
    rw [a1 i hi]
    exact ⟨va_Zof (hts _ (z_lw_S i hi).1) (hts _ (z_lw_S i hi).2) h1 hA, h2⟩
  · exact va_Zof (hts _ z_lw_C.1) (hts _ z_lw_C.2.1) (va_eqi (hn _ z_nf_C.1)) hA
  · refine ⟨fun i hi => ?_, fun i j hi hj => ?_⟩
    · simp only [a2 i hi, a3 i hi]
      exact hV.1 i hi
    · simp only [a2 i hi, a2 j hj]
      exact hV.2 i j hi hj
  · intro i hi
    rw [a2 i hi]
    exact vk_R.of (hts _ (z_lw_K i hi)) (hKe i hi)
  · rw [a4]
    exact Nat.not_le.mpr hbl
theorem z_SL105 : z_SL 105 ≤ 7302250 := by decide +kernel
set_option maxHeartbeats 4000000 in
/-- the claim, of a run of the abstract machine -/
theorem z_whole {p : Program} {e : Env} {s : State} {m : MethodId} {below : List Frame} {meth : Method} {c : Code} (l : Launch) {b L : Nat} {xs : Nat → Int32} (C0 : lw_At p s m meth c b L xs) (hlaw : ∃ (f : Nat) (h' : zH), h'.1 ≤ 105 ∧ z_x L xs f 30 242 0 [(0, .ref 4000)] [] (0, fun _ _ => 0, fun _ _ => none) = some (some (.int 1), h')) : W p l e room_1 s m #[Value.ref b] below meth c s.heap [] 0 0 (lw_Z below #[Value.ref b] s) (entryFrame m ([Value.ref b] : List Value).toArray 4) := by
  obtain ⟨D, ax, zf, hax, F⟩ := z_first C0
  obtain ⟨hx, hb, hr, hml, hown, hts, hX, hbl, hlocks, hgv⟩ := C0
  obtain ⟨f, ⟨n', σ', ρ'⟩, hn', hrun⟩ := hlaw
  have hn' : n' ≤ 105 := hn'
  obtain ⟨-, G⟩ := z_run (D := D) (ax := ax) z_m_ok l F.2.2.2.2.2 f 30 242 0 _ _ 0 _ _ _ n' σ' ρ' (by omega) hrun
  have hl := lv_entry ([.ref b]) (n := 4) (Nat.le_of_ble_eq_true rfl)
  rw [lg_entry_eq]
  have hl : lv_has ((lg_sl [Value.ref b] ++ List.replicate (4 - (lg_sl [Value.ref b]).length) Slot.unset).toArray) (z_ml_ 242) (z_cl (fun _ => 0) ax zf [(0, .ref 4000)]) := by
    have e1 : z_cl (fun _ => 0) ax zf [(0, .ref 4000)] = [(0, .ref b)] := by
      simp only [z_cl, List.map_cons, List.map_nil]
      rw [z_cv_out (by omega) (by omega), hax]
    rw [e1]
    exact hl
  have hs1 := z_SL_le hn'
  have hs2 := z_SL105
  refine G p e room_1 s m _ below meth c _ _ (fun _ => 0) (fun _ => 0) s.heap [] 0 0 _ hx hb hml hown (fun q => absurd (by decide +kernel) q) F ⟨fun k q h => by simp [z_W] at h, ⟨fun i j p q h => by simp [z_W] at h, fun k q h => by simp [z_W] at h⟩, va_S.rf, fun k hk => by omega, fun k j r h => (by cases h), by omega⟩ hl (by show 31 ≤ 2048; omega) (by show 60 * 31 ≤ 84000; omega) (by show 0 + (n' - 0) ≤ 600000; omega) (by show 0 + (z_SL n' - z_SL 0) ≤ 7302250; omega) ?_
  intro pc' ls' st' e' ad' ca' H' locs' Wd' h1 h2 he hpc' hR
  have hoke := z_m_ok 242 (by omega) e' he
  obtain ⟨pc0, ins, k0, a, bb, v, w⟩ := e'
  obtain rfl : pc0 = pc' := hpc'
  simp only [z_ok, Bool.and_eq_true, decide_eq_true_eq] at hoke
  obtain ⟨hd, -⟩ := hoke
  have hR : z_R (some .boolean) (pc0, ins, k0, a, bb, v, w) st' = some (some (.int 1)) := hR
  cases ins
  case ireturn =>
    obtain rfl : st' = [.int 1] := by
      simp only [z_R] at hR
      split at hR
      · split at hR
        · simp only [Option.some.injEq] at hR
          rw [hR]
        · cases hR
      · cases hR
    have hF := W.forget (locs := []) (L := locs') (H := H') (p := p) (l := l) (e := e) (R := room_1) (s := s) (m := m) (args := #[Value.ref b]) (below := below) (meth := meth) (c := c) (Q := lw_Z below #[Value.ref b] s) (cells := 600000) (slots := 7302250) (g := F0 m pc0 ls' [.int 1]) (fun q hq => Wd'.2.2.1.2.2 q hq) (lw_ret hx hb hr hlocks hd)
    exact W.widen (k := 600000) (n := 7302250) (by omega) (by omega) hF
  all_goals
    exfalso
    simp only [z_R] at hR
    first | (cases hR; done) | (split at hR <;> first | (cases hR; done) | (split at hR <;> cases hR))
