/-! soundness: a run of the abstract machine is a run of the machine -/
theorem z_fi_mem {l : List zI} {pc : Nat} {e : zI} (h : z_fi l pc = some e) : e ∈ l ∧ z_pc e = pc := by
  induction l with
  | nil => cases h
  | cons q t ih =>
    simp only [z_fi] at h
    split at h
    · rename_i hq
      cases h
      exact ⟨List.mem_cons_self, hq⟩
    · exact ⟨List.mem_cons_of_mem _ (ih h).1, (ih h).2⟩
theorem z_ml30 : ∀ mi, mi < 243 → z_ml_ mi ≤ 30 := by decide +kernel
theorem z_B_n {xL ctor : Nat} {xs : Nat → Int32} {e : zI} {st st' : List Value} {n n' : Nat} {σ σ' : Nat → Nat → Int32} {ρ ρ' : Nat → Nat → Option Nat} (h : z_B xL xs ctor e st n σ ρ = some (st', (n', σ', ρ'))) : n' = n := by
  unfold z_B z_get_ z_puti z_putr z_ild z_bld z_ald z_ist z_bst z_ast z_aln z_acp z_oin at h
  repeat' split at h
  all_goals first | (cases h; done) | (simp only [Option.some.injEq, Prod.mk.injEq] at h; exact h.2.1.symm)
theorem z_C_n {e : zI} {st st' : List Value} {n n' : Nat} {σ σ' : Nat → Nat → Int32} {ρ ρ' : Nat → Nat → Option Nat} (h : z_C e st n σ ρ = some (st', (n', σ', ρ'))) : n' = n + 1 := by
  unfold z_C at h
  repeat' split at h
  all_goals first | (cases h; done) | (simp only [Option.some.injEq, Prod.mk.injEq] at h; exact h.2.1.symm)
theorem z_D_n {b : ByteArray} {cn n mj : Nat} {e : zI} {st as r : List Value} (hok : z_ok b cn e = true) (h : z_D e st n = some (mj, as, r)) : mj < 242 ∧ ¬ mj = 0 ∧ ¬ z_mc mj = 16 := by
  obtain ⟨pc0, ins, k0, a, bb, v, w⟩ := e
  simp only [z_ok, Bool.and_eq_true, decide_eq_true_eq] at hok
  obtain ⟨hd, hs⟩ := hok
  try dsimp only [z_a, z_b, z_k, z_v, z_w] at hs
  have fin : ∀ i : Nat, k0 < 5 → (z_ml.any fun q => q.1 == cn && q.2.1 == i && q.2.2.1 == k0 && q.2.2.2.1 == a && q.2.2.2.2.1 == bb) = true → a < 242 ∧ ¬ a = 0 ∧ ¬ z_mc a = 16 := by
    intro i hk hs
    obtain ⟨q, hq, hq2⟩ := z_any hs
    simp only [Bool.and_eq_true, beq_iff_eq] at hq2
    obtain ⟨⟨⟨⟨q1, q2⟩, q3⟩, q4⟩, q5⟩ := hq2
    have hw := z_ml_ok q hq
    rw [q3, q4, if_neg (by omega), if_neg (by omega), if_neg (by omega), if_neg (by omega)] at hw
    exact ⟨hw.1, hw.2.1, hw.2.2.1⟩
  cases ins
  case invokevirtual i =>
    simp only [z_D] at h
    split at h
    · rename_i k r0 hdrop
      unfold z_Dv at h
      split at h
      · rename_i hk
        have k00 : k0 = 0 := hk.1
        simp only [Option.some.injEq, Prod.mk.injEq] at h
        obtain ⟨rfl, rfl, rfl⟩ := h
        simp only [Bool.or_eq_true, beq_iff_eq] at hs
        exact fin i (by omega) (hs.resolve_left (by omega))
      · cases h
    · cases h
  case invokestatic i =>
    simp only [z_D] at h
    split at h
    · rename_i hk
      have k14 : k0 = 1 ∨ k0 = 4 := hk.1
      simp only [Option.some.injEq, Prod.mk.injEq] at h
      obtain ⟨rfl, rfl, rfl⟩ := h
      simp only [Bool.or_eq_true, beq_iff_eq] at hs
      exact fin i (by omega) (hs.resolve_left (by omega))
    · cases h
  case invokespecial i =>
    simp only [z_D] at h
    split at h
    · rename_i k r0 hdrop
      unfold z_Di at h
      split at h
      · rename_i hk
        have k23 : k0 = 2 ∨ k0 = 3 := hk.1
        simp only [Option.some.injEq, Prod.mk.injEq] at h
        obtain ⟨rfl, rfl, rfl⟩ := h
        exact fin i (by omega) hs
      · cases h
    · cases h
  all_goals (simp only [z_D] at h; cases h)
theorem z_all_drop {l : List Value} {f : Value → Bool} (b : Nat) (h : l.all f = true) : (l.drop b).all f = true := List.all_eq_true.mpr (fun x hx => List.all_eq_true.mp h x (List.mem_of_mem_drop hx))
theorem z_D_r {n mj : Nat} {e : zI} {st as r : List Value} (h : z_D e st n = some (mj, as, r)) (hst : st.all (z_av n) = true) : r.all (z_av n) = true := by
  unfold z_D at h
  split at h
  · split at h
    · rename_i k r0 hdrop
      unfold z_Dv at h
      split at h
      · simp only [Option.some.injEq, Prod.mk.injEq] at h
        obtain ⟨rfl, rfl, rfl⟩ := h
        have := z_all_drop (z_b e) hst
        rw [hdrop, List.all_cons, Bool.and_eq_true] at this
        exact this.2
      · cases h
    · cases h
  · split at h
    · simp only [Option.some.injEq, Prod.mk.injEq] at h
      obtain ⟨rfl, rfl, rfl⟩ := h
      exact z_all_drop (z_b e) hst
    · cases h
  · split at h
    · rename_i k r0 hdrop
      unfold z_Di at h
      split at h
      · simp only [Option.some.injEq, Prod.mk.injEq] at h
        obtain ⟨rfl, rfl, rfl⟩ := h
        have := z_all_drop (z_b e) hst
        rw [hdrop, List.all_cons, Bool.and_eq_true] at this
        exact this.2
      · cases h
    · cases h
  · cases h
section ZX
variable {p : Program} {l : Launch} {en : Env} {R : Room} {s : State} {m : MethodId} {args : Array Value} {below : List Frame} {meth : Method} {c : Code} {H : Heap} {locs : List Loc} {cells slots : Nat} {Q : State → Prop}
variable {cc : ByteArray} {ad ax : Nat → Nat} {ca : Nat → ClassId} {zf : Value} {D : va_G} {A : Nat → Prop} {xL : Nat} {xs : Nat → Int32} {n : Nat} {σ : Nat → Nat → Int32} {ρ : Nat → Nat → Option Nat} {ls : Array Slot}
set_option maxHeartbeats 4000000 in
theorem z_Bsnd (hx : p.tables.exec = Jvm.exec) (hb : c.code = cc) (hml : c.maxLocals = ls.size) (F : z_Fr D ax zf xL xs A args s) {cn pc : Nat} {e : zI} {st st' : List Value} {n' : Nat} {σ' : Nat → Nat → Int32} {ρ' : Nat → Nat → Option Nat} {ctor : Nat} (hown : s.vm.findClass (z_cn cn) = some m.cls) (hct : ¬ ctor = 99 → meth.name = "<init>" ∧ ctor = cn) (hfr : 1 ≤ R.frames) (hlo : 60 ≤ R.locals) (hce : cells ≤ R.cells ∧ slots ≤ R.slots) (hok : z_ok cc cn e = true) (hpc : z_pc e = pc) (h : z_B xL xs ctor e st n σ ρ = some (st', (n', σ', ρ'))) (Wd : z_Wd D ad ca n σ ρ A s H locs)
    (kk : ∀ (H1 : Heap) (locs1 : List Loc), z_Wd D ad ca n' σ' ρ' A s H1 locs1 → n' = n → W p l en R s m args below meth c H1 locs1 cells slots Q (F0 m (pc + z_len e) ls (st'.map (z_cv ad ax zf)))) : W p l en R s m args below meth c H locs cells slots Q (F0 m pc ls (st.map (z_cv ad ax zf))) := by
  have same : (n', σ', ρ') = (n, σ, ρ) → W p l en R s m args below meth c H locs cells slots Q (F0 m (pc + z_len e) ls (st'.map (z_cv ad ax zf))) := fun q => by
    simp only [Prod.mk.injEq] at q
    obtain ⟨rfl, rfl, rfl⟩ := q
    exact kk H locs Wd rfl
  cases hi : z_in e
  case getfield i =>
    have hl : z_len e = 3 := by simp only [z_len, hi]
    rw [hl] at same
    exact z_Bget hx hb F hi hown hok hpc h Wd same
  case putfield i =>
    have hl : z_len e = 3 := by simp only [z_len, hi]
    rw [hl] at kk
    exact z_Bput hx hb F hi hown hct hok hpc h Wd kk
  case getstatic i => exact z_Bconst hx hb F (Or.inl ⟨i, hi⟩) hown hok hpc h Wd same
  case ldc i => exact z_Bconst hx hb F (Or.inr (Or.inl ⟨i, hi⟩)) hown hok hpc h Wd same
  case ldc_w i => exact z_Bconst hx hb F (Or.inr (Or.inr (Or.inl ⟨i, hi⟩))) hown hok hpc h Wd same
  case ldc2_w i => exact z_Bconst hx hb F (Or.inr (Or.inr (Or.inr ⟨i, hi⟩))) hown hok hpc h Wd same
  case iaload =>
    have hl : z_len e = 1 := by simp only [z_len, hi]
    rw [hl] at same
    exact z_Bload hx hb F (Or.inl hi) hok hpc h Wd same
  case baload =>
    have hl : z_len e = 1 := by simp only [z_len, hi]
    rw [hl] at same
    exact z_Bload hx hb F (Or.inr (Or.inl hi)) hok hpc h Wd same
  case aaload =>
    have hl : z_len e = 1 := by simp only [z_len, hi]
    rw [hl] at same
    exact z_Bload hx hb F (Or.inr (Or.inr (Or.inl hi))) hok hpc h Wd same
  case arraylength =>
    have hl : z_len e = 1 := by simp only [z_len, hi]
    rw [hl] at same
    exact z_Bload hx hb F (Or.inr (Or.inr (Or.inr hi))) hok hpc h Wd same
  case iastore =>
    have hl : z_len e = 1 := by simp only [z_len, hi]
    rw [hl] at kk
    exact z_Bstore hx hb F (Or.inl hi) hok hpc h Wd kk
  case bastore =>
    have hl : z_len e = 1 := by simp only [z_len, hi]
    rw [hl] at kk
    exact z_Bstore hx hb F (Or.inr (Or.inl hi)) hok hpc h Wd kk
  case aastore =>
    have hl : z_len e = 1 := by simp only [z_len, hi]
    rw [hl] at kk
    exact z_Bstore hx hb F (Or.inr (Or.inr hi)) hok hpc h Wd kk
  case invokestatic i =>
    have hl : z_len e = 3 := by simp only [z_len, hi]
    rw [hl] at kk
    exact z_Bcall hx hb hml F (Or.inl ⟨i, hi⟩) hown hfr hlo hce hok hpc h Wd kk
  case invokespecial i =>
    have hl : z_len e = 3 := by simp only [z_len, hi]
    rw [hl] at kk
    exact z_Bcall hx hb hml F (Or.inr ⟨i, hi⟩) hown hfr hlo hce hok hpc h Wd kk
  all_goals
    exfalso
    simp only [z_B, hi] at h
    cases h
/-- what a run from here means for the machine -/
def z_Go (l : Launch) (D : va_G) (ax : Nat → Nat) (zf : Value) (xL : Nat) (xs : Nat → Int32) (d mi pc : Nat) (L : List (Nat × Value)) (st : List Value) (n : Nat) (σ : Nat → Nat → Int32) (ρ : Nat → Nat → Option Nat) (res : Option Value) (n' : Nat) (σ' : Nat → Nat → Int32) (ρ' : Nat → Nat → Option Nat) : Prop :=
  ∀ (p : Program) (en : Env) (R : Room) (s : State) (m : MethodId) (args : Array Value) (below : List Frame) (meth : Method) (c : Code) (Q : State → Prop) (A : Nat → Prop) (ad : Nat → Nat) (ca : Nat → ClassId) (H : Heap) (locs : List Loc) (cells slots : Nat) (ls : Array Slot),
    p.tables.exec = Jvm.exec → c.code = z_mb mi → c.maxLocals = z_ml_ mi → s.vm.findClass (z_cn (z_mc mi)) = some m.cls → (¬ z_ct mi = 99 → meth.name = "<init>") → z_Fr D ax zf xL xs A args s → z_Wd D ad ca n σ ρ A s H locs → lv_has ls (z_ml_ mi) (z_cl ad ax zf L) →
    d + 1 ≤ R.frames → 60 * (d + 1) ≤ R.locals → cells + (n' - n) ≤ R.cells → slots + (z_SL n' - z_SL n) ≤ R.slots →
    (∀ (pc' : Nat) (ls' : Array Slot) (st' : List Value) (e : zI) (ad' : Nat → Nat) (ca' : Nat → ClassId) (H' : Heap) (locs' : List Loc), z_Wd D ad' ca' n' σ' ρ' A s H' locs' → (∀ k, k < n → ad' k = ad k ∧ ca' k = ca k) → (n' = n → ad' = ad ∧ ca' = ca) → e ∈ z_mi mi → z_pc e = pc' → z_R (z_mr mi) e st' = some res →
      W p l en R s m args below meth c H' locs' (cells + (n' - n)) (slots + (z_SL n' - z_SL n)) Q (F0 m pc' ls' (st'.map (z_cv ad' ax zf)))) →
    W p l en R s m args below meth c H locs cells slots Q (F0 m pc ls (st.map (z_cv ad ax zf)))
theorem z_ct_ok {mi : Nat} (h : ¬ z_ct mi = 99) : (z_my mi).name = "<init>" ∧ z_ct mi = z_mc mi := by
  unfold z_ct at h ⊢
  by_cases e : (z_my mi).name = "<init>"
  · exact ⟨e, if_pos e⟩
  · rw [if_neg e] at h
    exact absurd rfl h
set_option maxHeartbeats 4000000 in
/-- a method's contract out of its run -/
theorem z_met {l : Launch} {d mj n1 : Nat} {as : List Value} {σ1 : Nat → Nat → Int32} {ρ1 : Nat → Nat → Option Nat} {res : Option Value} {sz : Nat} (hmj : mj < 242) (hmj0 : ¬ mj = 0) (hmj16 : ¬ z_mc mj = 16) (hok : ∀ e ∈ z_mi mj, z_ok (z_mb mj) (z_mc mj) e = true) (hz : z_zf zf) (hρ : ∀ k j r, ρ k j = some r → r < n) (hn : n ≤ 105) (hsum : (as.map fun v => v.category).sum ≤ z_ml_ mj) (G : z_Go l D ax zf xL xs d mj 0 (lv_args 0 as) [] n σ ρ res n1 σ1 ρ1) :
    Met l (z_my mj) (z_ws mj) { frames := d + 1, cells := n1 - n, slots := z_SL n1 - z_SL n, locals := 60 * (d + 1) } (va_Pc (as.map (z_cv ad ax zf)) (z_Pre D ax zf xL xs ad ca n σ ρ sz)) (z_Q res (z_Bw D ad ca n n1 σ1 ρ1 (va_A (z_W ad ca n σ ρ) sz)) ax zf (va_A (z_W ad ca n σ ρ) sz)) (n1 - n) (z_SL n1 - z_SL n) (va_A (z_W ad ca n σ ρ) sz) := by
  have hplain : plainName (z_my mj).cls = true := by
    have h4 := z_mokB_all mj hmj
    simp only [z_mokB, Bool.or_eq_true, Bool.and_eq_true, decide_eq_true_eq] at h4
    rcases h4 with (h4 | h4) | h4
    · exact absurd h4 hmj0
    · exact absurd h4 hmj16
    · exact h4.1.2
  refine Met.ofW (cc := z_mb mj) (maxL := z_ml_ mj) (ret := z_mr mj) hplain rfl ?_
  intro p e s m args below meth c s₁ B hml hv
  obtain ⟨rfl, hsz, hP, hDt, hAT, hNW, hK, hEX⟩ := hv
  subst hsz
  have hts := atoms_spec (ws := z_ws mj) B.pre
  have hown : s.vm.findClass (z_cn (z_mc mj)) = some m.cls := by
    rw [of_decide_eq_true (z_mokD_all mj (by omega))]
    exact findClass_of_methodNamed B.named
  have hnm : meth.name = (z_my mj).name := (name_of_methodNamed B.named B.method).1
  have F : z_Fr D ax zf xL xs (va_A (z_W ad ca n σ ρ) s.heap.size) (as.map (z_cv ad ax zf)).toArray s := ⟨fun w hw => hts w (List.mem_cons_of_mem _ hw), hNW, hK, hEX, fun q h => Or.inr h, hz⟩
  have Wd : z_Wd D ad ca n σ ρ (va_A (z_W ad ca n σ ρ) s.heap.size) s s.heap [] := ⟨hP, hDt.self, va_S.rf, hAT, hρ, hn⟩
  rw [lg_entry_eq]
  have hlen : (lg_sl (as.map (z_cv ad ax zf))).length ≤ z_ml_ mj := by
    rw [z_lg, z_sumcat hz]
    exact hsum
  have hl := lv_entry (as.map (z_cv ad ax zf)) hlen
  rw [← z_args hz as 0] at hl
  refine G p e _ s m _ below meth c _ _ ad ca s.heap [] 0 0 _ B.exec B.bytes hml hown (fun q => by rw [hnm]; exact (z_ct_ok q).1) F Wd hl (Nat.le_refl _) (Nat.le_refl _) (by rw [Nat.zero_add]; exact Nat.le_refl (n1 - n)) (by rw [Nat.zero_add]; exact Nat.le_refl (z_SL n1 - z_SL n)) ?_
  intro pc' ls' st' e' ad' ca' H' locs' Wd' h1 h2 he hpc' hR
  simp only [Nat.zero_add]
  refine z_ret (ca := ca') B.exec B.bytes B.notSynchronized B.returns (hok e' he) hpc' hR (fun t ht hW => ?_) Wd'.2.2.1
  refine ⟨by rw [ht]; exact Wd'.1, Wd'.2.1, Wd'.2.2.2.1.moved hW.alike, Wd'.2.2.2.2.1, Wd'.2.2.2.2.2, h1, h2⟩
set_option maxHeartbeats 8000000 in
theorem z_run (hok : ∀ mi, mi < 243 → ∀ e ∈ z_mi mi, z_ok (z_mb mi) (z_mc mi) e = true) (l : Launch) (hz : z_zf zf) : ∀ (f d mi pc : Nat) (L : List (Nat × Value)) (st : List Value) (n : Nat) (σ : Nat → Nat → Int32) (ρ : Nat → Nat → Option Nat) (res : Option Value) (n' : Nat) (σ' : Nat → Nat → Int32) (ρ' : Nat → Nat → Option Nat), mi < 243 → z_x xL xs f d mi pc L st (n, σ, ρ) = some (res, (n', σ', ρ')) → n ≤ n' ∧ z_Go l D ax zf xL xs d mi pc L st n σ ρ res n' σ' ρ' := by
  intro f
  induction f with
  | zero =>
    intro d mi pc L st n σ ρ res n' σ' ρ' hmi h
    simp only [z_x] at h
    cases h
  | succ f ih =>
    intro d mi pc L st n σ ρ res n' σ' ρ' hmi h
    simp only [z_x] at h
    split at h
    · cases h
    rename_i e he
    obtain ⟨hem, hpc⟩ := z_fi_mem he
    have hoke := hok mi hmi e hem
    split at h
    · rename_i pc1 L1 st1 hA
      obtain ⟨hle, G⟩ := ih d mi pc1 L1 st1 n σ ρ res n' σ' ρ' hmi h
      refine ⟨hle, ?_⟩
      intro p en R s m args below meth c Q A ad ca H locs cells slots ls hx hb hml hown hct F Wd hl hfr hlo hce hsl hret
      exact z_Asnd hx hb hz hoke hpc hA hl (fun ls' hl' => G p en R s m args below meth c Q A ad ca H locs cells slots ls' hx hb hml hown hct F Wd hl' hfr hlo hce hsl hret)
    split at h
    · rename_i st1 h1 hB
      obtain ⟨n1, σ1, ρ1⟩ := h1
      obtain ⟨hle, G⟩ := ih d mi (pc + z_len e) L st1 n1 σ1 ρ1 res n' σ' ρ' hmi h
      have hn1 : n1 = n := z_B_n hB
      subst hn1
      refine ⟨hle, ?_⟩
      intro p en R s m args below meth c Q A ad ca H locs cells slots ls hx hb hml hown hct F Wd hl hfr hlo hce hsl hret
      exact z_Bsnd hx hb (hml.trans hl.1.symm) F hown (fun q => ⟨hct q, (z_ct_ok q).2⟩) (by omega) (by omega) ⟨by omega, by omega⟩ hoke hpc hB Wd (fun H1 locs1 Wd1 _ => G p en R s m args below meth c Q A ad ca H1 locs1 cells slots ls hx hb hml hown hct F Wd1 hl hfr hlo hce hsl hret)
    split at h
    · rename_i st1 h1 hC
      obtain ⟨n1, σ1, ρ1⟩ := h1
      split at h
      · rename_i hav
        simp only [Bool.and_eq_true] at hav
        obtain ⟨hav1, hav2⟩ := hav
        obtain ⟨hle, G⟩ := ih d mi (pc + z_len e) L st1 n1 σ1 ρ1 res n' σ' ρ' hmi h
        have hn1 : n1 = n + 1 := z_C_n hC
        subst hn1
        refine ⟨by omega, ?_⟩
        intro p en R s m args below meth c Q A ad ca H locs cells slots ls hx hb hml hown hct F Wd hl hfr hlo hce hsl hret
        have hs1 := z_SL_succ n
        have hs2 := z_SL_le hle
        refine z_Csnd hx hb F hown hoke hpc hC Wd hav2 (by omega) (by omega) (fun ad1 ca1 H1 Wd1 _ hsame => ?_)
        refine G p en R s m args below meth c Q A ad1 ca1 H1 locs (cells + 1) (slots + z_sl_ n) ls hx hb hml hown hct F Wd1 (by rw [z_cl_av (fun k hk => (hsame k hk).1) hav1]; exact hl) hfr hlo (by omega) (by omega) ?_
        intro pc' ls' st' e' ad' ca' H' locs' Wd' g1 g2 he' hpc' hR'
        have e1 : cells + 1 + (n' - (n + 1)) = cells + (n' - n) := by omega
        have e2 : slots + z_sl_ n + (z_SL n' - z_SL (n + 1)) = slots + (z_SL n' - z_SL n) := by omega
        rw [e1, e2]
        exact hret pc' ls' st' e' ad' ca' H' locs' Wd' (fun k hk => ⟨(g1 k (by omega)).1.trans (hsame k hk).1, (g1 k (by omega)).2.trans (hsame k hk).2⟩) (fun q => by omega) he' hpc' hR'
      · cases h
    split at h
    · rename_i r hR
      simp only [Option.some.injEq, Prod.mk.injEq] at h
      obtain ⟨rfl, rfl, rfl, rfl⟩ := h
      refine ⟨Nat.le_refl _, ?_⟩
      intro p en R s m args below meth c Q A ad ca H locs cells slots ls hx hb hml hown hct F Wd hl hfr hlo hce hsl hret
      have hret := hret pc ls st e ad ca H locs Wd (fun k _ => ⟨rfl, rfl⟩) (fun _ => ⟨rfl, rfl⟩) hem hpc hR
      simp only [Nat.sub_self, Nat.add_zero] at hret
      exact hret
    split at h
    · cases h
    rename_i mj as r hD
    split at h
    · cases h
    rename_i d1
    split at h
    · cases h
    rename_i v h1 hcall
    obtain ⟨n1, σ1, ρ1⟩ := h1
    split at h
    · rename_i hav
      obtain ⟨hmj, hmj0, hmj16⟩ := z_D_n hoke hD
      obtain ⟨hle1, G1⟩ := ih d1 mj 0 (lv_args 0 as) [] n σ ρ v n1 σ1 ρ1 (by omega) hcall
      obtain ⟨hle, G⟩ := ih (d1 + 1) mi (pc + 3) L (v.toList ++ r) n1 σ1 ρ1 res n' σ' ρ' hmi h
      refine ⟨by omega, ?_⟩
      intro p en R s m args below meth c Q A ad ca H locs cells slots ls hx hb hml hown hct F Wd hl hfr hlo hce hsl hret
      have hs1 := z_SL_le hle1
      have hs2 := z_SL_le hle
      refine z_Dsnd hx hb (hml.trans hl.1.symm) F hown hoke hpc hD Wd (d := d1) (n1 := n1) (σ1 := σ1) (ρ1 := ρ1) (res := v) hfr hlo (z_ml30 mj (by omega)) (fun _ hsum => z_met hmj hmj0 hmj16 (hok mj (by omega)) hz Wd.2.2.2.2.1 Wd.2.2.2.2.2 hsum G1) ⟨by omega, by omega⟩ (fun ad1 ca1 H1 locs1 Wd1 hsame heq => ?_)
      have hrest : r.map (z_cv ad ax zf) = r.map (z_cv ad1 ax zf) := by
        rcases hav with hav | hav
        · rw [(heq hav).1]
        · simp only [Bool.and_eq_true] at hav
          exact (z_st_av (fun k hk => (hsame k hk).1) (z_D_r hD hav.2)).symm
      have hloc : z_cl ad1 ax zf L = z_cl ad ax zf L := by
        rcases hav with hav | hav
        · rw [(heq hav).1]
        · simp only [Bool.and_eq_true] at hav
          exact z_cl_av (fun k hk => (hsame k hk).1) hav.1
      rw [hrest, ← List.map_append]
      refine G p en R s m args below meth c Q A ad1 ca1 H1 locs1 (cells + (n1 - n)) (slots + (z_SL n1 - z_SL n)) ls hx hb hml hown hct F Wd1 (by rw [hloc]; exact hl) hfr hlo (by omega) (by omega) ?_
      intro pc' ls' st' e' ad' ca' H' locs' Wd' g1 g2 he' hpc' hR'
      have e1 : cells + (n1 - n) + (n' - n1) = cells + (n' - n) := by omega
      have e2 : slots + (z_SL n1 - z_SL n) + (z_SL n' - z_SL n1) = slots + (z_SL n' - z_SL n) := by omega
      rw [e1, e2]
      refine hret pc' ls' st' e' ad' ca' H' locs' Wd' (fun k hk => ⟨(g1 k (by omega)).1.trans (hsame k hk).1, (g1 k (by omega)).2.trans (hsame k hk).2⟩) (fun q => ?_) he' hpc' hR'
      obtain ⟨q1, q2⟩ := g2 (by omega)
      obtain ⟨q3, q4⟩ := heq (by omega)
      exact ⟨q1.trans q3, q2.trans q4⟩
    · cases h
end ZX
