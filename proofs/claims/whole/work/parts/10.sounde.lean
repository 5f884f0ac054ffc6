/-! soundness: answers, calls, runs -/
def z_SL (n : Nat) : Nat := ((List.range n).map z_sl_).sum
theorem z_SL_succ (n : Nat) : z_SL (n + 1) = z_SL n + z_sl_ n := by simp [z_SL, List.range_succ]
theorem z_SL_le {a b : Nat} (h : a ≤ b) : z_SL a ≤ z_SL b := by
  induction h with
  | refl => exact Nat.le_refl _
  | step h ih => rw [z_SL_succ]; omega
def z_ws (mi : Nat) : List Cond := z_cd mi :: z_gw
theorem z_ws_good (mi : Nat) (h : mi < 242) : GoodIn z_gw (z_ws mi) := by
  intro w hw
  rcases List.mem_cons.mp hw with rfl | hw
  · exact ⟨List.mem_filter.mpr ⟨z_cd_in mi h, rfl⟩, Or.inl rfl⟩
  · exact ⟨hw, good_of_word (List.mem_filter.mp hw).2⟩
theorem z_lg (vs : List Value) : (lg_sl vs).length = (vs.map fun v => v.category).sum := by
  induction vs with
  | nil => rfl
  | cons v t ih =>
    have e : lg_sl (v :: t) = (if v.category = 2 then [.val v, .second] else [.val v]) ++ lg_sl t := by simp [lg_sl]
    rw [e, List.length_append, ih, List.map_cons, List.sum_cons]
    rcases lv_cat v with e | e <;> simp [e]
theorem z_args {ad ax : Nat → Nat} {zf : Value} (hz : z_zf zf) (as : List Value) : ∀ i, z_cl ad ax zf (lv_args i as) = lv_args i (as.map (z_cv ad ax zf)) := by
  induction as with
  | nil => intro i; rfl
  | cons v t ih =>
    intro i
    simp only [lv_args, List.map_cons, z_cv_cat hz]
    show (i, z_cv ad ax zf v) :: z_cl ad ax zf _ = _
    rw [ih]
theorem z_AT.moved {ca : Nat → ClassId} {n : Nat} {u U : State} (hvm : u.vm.Alike U.vm) (h : z_AT ca n u) : z_AT ca n U := fun k hk h0 => ⟨arrOfT_moved hvm (h k hk h0).1, (h k hk h0).2.moved hvm⟩
theorem z_NW.warm {s U : State} (hW : s.WarmedH U.vm) (h : z_NW s) : z_NW U := ⟨fun q hq hk => va_Nw.warmM hW (h.1 q hq hk), va_AO.moved hW.alike h.2.1, va_AO.moved hW.alike h.2.2⟩
theorem z_NW.same {s U : State} (hW : s.vm = U.vm) (h : z_NW s) : z_NW U := ⟨fun q hq hk => va_Nw.same rfl hW (h.1 q hq hk), va_AO.moved (by rw [hW]; exact Vm.Alike.refl _) h.2.1, va_AO.moved (by rw [hW]; exact Vm.Alike.refl _) h.2.2⟩
theorem z_EX.moved {ax : Nat → Nat} {zf : Value} {xL : Nat} {xs : Nat → Int32} {A : Nat → Prop} {u U : State} {H : Heap} (hvm : u.vm.Alike U.vm) (hR : ∀ own k tx a, vk_R own k tx a u → vk_R own k tx a U) (h : z_EX ax zf xL xs A u H) : z_EX ax zf xL xs A U H :=
  ⟨fun i hi => ⟨va_Z.moved hvm (h.1 i hi).1, va_T.moved hvm (h.1 i hi).2⟩, va_Z.moved hvm h.2.1, va_Z.moved hvm h.2.2.1, vk_S.moved hvm h.2.2.2.1, fun i hi => hR _ _ _ _ (h.2.2.2.2.1 i hi), va_X.moved hvm h.2.2.2.2.2.1, h.2.2.2.2.2.2.1, h.2.2.2.2.2.2.2⟩
theorem z_EX.kept {ax : Nat → Nat} {zf : Value} {xL : Nat} {xs : Nat → Int32} {A : Nat → Prop} {U : State} {H H1 : Heap} (hq : ∀ a : Nat, a < H.size → ¬ A a → H1[a]? = H[a]?) (hsz : H.size ≤ H1.size) (h : z_EX ax zf xL xs A U H) : z_EX ax zf xL xs A U H1 :=
  ⟨fun i hi => ⟨(h.1 i hi).1.kept hq, (h.1 i hi).2.kept hq⟩, h.2.1.kept hq, h.2.2.1.kept hq, h.2.2.2.1.kept hq, h.2.2.2.2.1, h.2.2.2.2.2.1.kept (hq _ h.2.2.2.2.2.2.1 h.2.2.2.2.2.2.2), Nat.lt_of_lt_of_le h.2.2.2.2.2.2.1 hsz, h.2.2.2.2.2.2.2⟩
theorem z_EX.narrow {ax : Nat → Nat} {zf : Value} {xL : Nat} {xs : Nat → Int32} {A B : Nat → Prop} {U : State} {H : Heap} (hAB : ∀ q, B q → A q) (h : z_EX ax zf xL xs A U H) : z_EX ax zf xL xs B U H :=
  ⟨fun i hi => ⟨(h.1 i hi).1.narrow hAB, (h.1 i hi).2.narrow hAB⟩, h.2.1.narrow hAB, h.2.2.1.narrow hAB, h.2.2.2.1.narrow hAB, h.2.2.2.2.1, h.2.2.2.2.2.1, h.2.2.2.2.2.2.1, fun z => h.2.2.2.2.2.2.2 (hAB _ z)⟩
def z_Pre (D : va_G) (ax : Nat → Nat) (zf : Value) (xL : Nat) (xs : Nat → Int32) (ad : Nat → Nat) (ca : Nat → ClassId) (n : Nat) (σ : Nat → Nat → Int32) (ρ : Nat → Nat → Option Nat) (sz : Nat) (U : State) : Prop :=
  U.heap.size = sz ∧ va_P D vwCl (z_W ad ca n σ ρ) U.heap ∧ va_D (fun _ => True) (z_W ad ca n σ ρ) ∧ z_AT ca n U ∧ z_NW U ∧ va_K D vwCl [] U ∧ z_EX ax zf xL xs (va_A (z_W ad ca n σ ρ) sz) U U.heap
theorem z_blind {D : va_G} {ax : Nat → Nat} {zf : Value} {xL : Nat} {xs : Nat → Int32} {ad : Nat → Nat} {ca : Nat → ClassId} {n : Nat} {σ : Nat → Nat → Int32} {ρ : Nat → Nat → Option Nat} {sz : Nat} {av : List Value} : FrameBlind (va_Pc av (z_Pre D ax zf xL xs ad ca n σ ρ sz)) := fun a U g mk q => by
  obtain ⟨q0, h1, h2, h3, h4, h5, h6, h7⟩ := q
  exact ⟨q0, h1, h2, h3, z_AT.moved (u := U) (U := U.calling g mk a) (Vm.Alike.refl U.vm) h4, z_NW.same (s := U) (U := U.calling g mk a) rfl h5, va_K.moved (u := U) (U := U.calling g mk a) (Vm.Alike.refl U.vm) h6, z_EX.moved (u := U) (U := U.calling g mk a) (Vm.Alike.refl U.vm) (fun _ _ _ _ z => vk_R.same rfl z) h7⟩
theorem z_ini_ret : ∀ a, a < 242 → (z_mq a).1 = 2 → z_mr a = none := by decide +kernel
abbrev z_S2 : Type := (Nat → Nat) × (Nat → ClassId)
def z_Bw (D : va_G) (ad : Nat → Nat) (ca : Nat → ClassId) (n n' : Nat) (σ' : Nat → Nat → Int32) (ρ' : Nat → Nat → Option Nat) (A : Nat → Prop) (u : z_S2) (t : State) : Prop :=
  va_P D vwCl (z_W u.1 u.2 n' σ' ρ') t.heap ∧ va_D A (z_W u.1 u.2 n' σ' ρ') ∧ z_AT u.2 n' t ∧ (∀ k j r, ρ' k j = some r → r < n') ∧ n' ≤ 105 ∧ (∀ k, k < n → u.1 k = ad k ∧ u.2 k = ca k) ∧ (n' = n → u.1 = ad ∧ u.2 = ca)
def z_Q (res : Option Value) (Bw : z_S2 → State → Prop) (ax : Nat → Nat) (zf : Value) (A : Nat → Prop) : Array Value → State → Outcome → State → Prop := match res with
  | none => va_Qv (S := z_S2) (fun _ => True) Bw A
  | some (.int x) => va_Qi (fun r _ => r = x) Bw A
  | some (.long x) => va_Ql (fun r _ => r = x) Bw A
  | some (.ref k) => va_Qr (fun _ => True) (fun u a t => Bw u t ∧ Value.ref a = z_cv u.1 ax zf (.ref k)) A
  | _ => fun _ _ _ _ => False
section ZD
variable {p : Program} {l : Launch} {en : Env} {R : Room} {s : State} {m : MethodId} {args : Array Value} {below : List Frame} {meth : Method} {c : Code} {H : Heap} {locs : List Loc} {cells slots : Nat} {Q : State → Prop}
variable {cc : ByteArray} {ad ax : Nat → Nat} {ca : Nat → ClassId} {zf : Value} {D : va_G} {A : Nat → Prop} {xL : Nat} {xs : Nat → Int32} {n : Nat} {σ : Nat → Nat → Int32} {ρ : Nat → Nat → Option Nat} {ls : Array Slot}
theorem z_after {res : Option Value} {Bw : z_S2 → State → Prop} {A0 A1 : Nat → Prop} {H0 : Heap} {mc ms pc : Nat} {free : Addr → Prop} {st0 rest : List Value} {a : Array Value} (hr : va_Run p l en R s m args below meth c H locs cells slots mc ms (F0 m pc ls st0) rest (z_Q res Bw ax zf A1 a) free) (hS : va_S A0 H0 H locs) (hA : ∀ q, q < H.size → A1 q → A0 q) (hf : ∀ q, free q → A0 q)
    (kk : ∀ (u : z_S2) (t : State) (H1 : Heap) (locs1 : List Loc), t.heap = H1 → s.vm.Alike t.vm → Bw u t → va_S A0 H0 H1 locs1 → W p l en R s m args below meth c H1 locs1 (cells + mc) (slots + ms) Q (F0 m (pc + 3) ls (res.toList.map (z_cv u.1 ax zf) ++ rest))) : W p l en R s m args below meth c H locs cells slots Q (F0 m pc ls st0) := by
  cases res with
  | none => exact va_callv (a := a) hr hS hA hf (fun u t H1 locs1 h1 h2 _ hB h4 h5 h6 => kk u t H1 locs1 h1 h2 hB h6)
  | some v =>
    cases v
    case int x =>
      refine va_calli (a := a) hr hS hA hf (fun r u t H1 locs1 h1 h2 hp hB h4 h5 h6 => ?_)
      subst hp
      exact kk u t H1 locs1 h1 h2 hB h6
    case long x =>
      refine va_calll (a := a) hr hS hA hf (fun r u t H1 locs1 h1 h2 hp hB h4 h5 h6 => ?_)
      subst hp
      exact kk u t H1 locs1 h1 h2 hB h6
    case ref k =>
      refine va_callr (a := a) hr hS hA hf (fun u ra t H1 locs1 h1 h2 hp hB h4 h5 h6 => ?_)
      rw [hB.2]
      exact kk u t H1 locs1 h1 h2 hB.1 h6
    all_goals
      intro T hT X
      obtain ⟨v, st₀, t, T', L, h0, X', hL, e1, e2, hq, st⟩ := hr T hT X
      exact hq.elim
set_option maxHeartbeats 4000000 in
theorem z_ret (hx : p.tables.exec = Jvm.exec) (hb : c.code = cc) (hlocks : meth.locks = false) {mr : Option FieldType} (hr : meth.sig.returnType = mr) {Bw : z_S2 → State → Prop} {cn pc : Nat} {e : zI} {st : List Value} {res : Option Value} (hok : z_ok cc cn e = true) (hpc : z_pc e = pc) (h : z_R mr e st = some res) (hB : ∀ t : State, t.heap = H → s.WarmedH t.vm → Bw (ad, ca) t) (hS : va_S A s.heap H locs) : W p l en R s m args below meth c H locs cells slots (MQ below (z_Q res Bw ax zf A) args s cells slots A) (F0 m pc ls (st.map (z_cv ad ax zf))) := by
  obtain ⟨pc0, ins, k0, a, b, v, w⟩ := e
  obtain rfl : pc0 = pc := hpc
  simp only [z_ok, Bool.and_eq_true, decide_eq_true_eq] at hok
  obtain ⟨hd, hs⟩ := hok
  try dsimp only [z_a, z_b, z_k, z_v, z_w] at hs
  cases ins
  case ireturn =>
    simp only [z_R] at h
    split at h
    · rename_i x
      split at h
      · cases h
        exact W.iret hx hb hr (fun t ht hW => ⟨⟨x, (ad, ca), rfl, rfl, hB t ht hW⟩, hS.F ht⟩) hS.2.2 hd (hlocks := hlocks)
      · split at h
        · rename_i hn
          cases h
          exact W.zret hx hb hr hn (fun t ht hW => ⟨⟨x, (ad, ca), rfl, rfl, hB t ht hW⟩, hS.F ht⟩) hS.2.2 hd (hlocks := hlocks)
        · cases h
      · split at h
        · rename_i hn
          cases h
          exact W.zret hx hb hr hn (fun t ht hW => ⟨⟨x, (ad, ca), rfl, rfl, hB t ht hW⟩, hS.F ht⟩) hS.2.2 hd (hlocks := hlocks)
        · cases h
      · split at h
        · rename_i hn
          cases h
          exact W.zret hx hb hr hn (fun t ht hW => ⟨⟨x, (ad, ca), rfl, rfl, hB t ht hW⟩, hS.F ht⟩) hS.2.2 hd (hlocks := hlocks)
        · cases h
      · cases h
    · cases h
  case lreturn =>
    simp only [z_R] at h
    split at h
    · rename_i x
      split at h
      · cases h
        exact W.lret hx hb hr (fun t ht hW => ⟨⟨x, (ad, ca), rfl, rfl, hB t ht hW⟩, hS.F ht⟩) hS.2.2 hd (hlocks := hlocks)
      · cases h
    · cases h
  case areturn =>
    simp only [z_R] at h
    split at h
    · rename_i k
      split at h
      · rename_i nm
        split at h
        · cases h
        · rename_i hne
          cases h
          obtain ⟨y, hy⟩ := z_cv_ref (ad := ad) (ax := ax) (zf := zf) hne
          simp only [List.map_cons, List.map_nil]
          rw [hy]
          exact W.aret hx hb hr (Or.inl ⟨_, rfl⟩) (Or.inr ⟨y, rfl⟩) (fun t ht hW => ⟨⟨(ad, ca), y, rfl, trivial, hB t ht hW, hy.symm⟩, hS.F ht⟩) hS.2.2 hd (hlocks := hlocks)
      · cases h
    · cases h
  case return_ =>
    simp only [z_R] at h
    split at h
    · split at h
      · cases h
        exact W.vret hx hb hr (fun t ht hW => ⟨⟨(ad, ca), rfl, trivial, hB t ht hW⟩, hS.F ht⟩) hS.2.2 hd (hlocks := hlocks)
      · cases h
    · cases h
  all_goals (simp only [z_R] at h; cases h)
theorem z_Afree {ws : va_W} {H0 : Heap} (hD : va_D A ws) (hS : va_S A H0 H locs) (hA : ∀ q, H0.size ≤ q → A q) : ∀ q, va_A ws H.size q → A q := by
  intro q h
  rcases h with ⟨k, e, h⟩ | h
  · exact hD.2 k (q, e) h
  · exact hA q (Nat.le_trans hS.1 h)
theorem z_pre_of (F : z_Fr D ax zf xL xs A args s) (Wd : z_Wd D ad ca n σ ρ A s H locs) {U : State} (hU : U.heap = H) (hW : s.WarmedH U.vm) : z_Pre D ax zf xL xs ad ca n σ ρ H.size U := by
  subst hU
  refine ⟨rfl, Wd.1, Wd.2.1.weaken (fun _ _ _ _ => trivial), Wd.2.2.2.1.moved hW.alike, F.2.1.warm hW, va_K.moved hW.alike F.2.2.1, ?_⟩
  exact ((F.2.2.2.1.kept Wd.2.2.1.2.1 Wd.2.2.1.1).narrow (z_Afree Wd.2.1 Wd.2.2.1 F.2.2.2.2.1)).moved hW.alike (fun _ _ _ _ z => vk_R.warm hW z)
set_option maxHeartbeats 4000000 in
theorem z_Dsnd (hx : p.tables.exec = Jvm.exec) (hb : c.code = cc) (hml : c.maxLocals = ls.size) (F : z_Fr D ax zf xL xs A args s) {cn pc d n1 : Nat} {σ1 : Nat → Nat → Int32} {ρ1 : Nat → Nat → Option Nat} {res : Option Value} {e : zI} {st as r : List Value} {mj : Nat} (hown : s.vm.findClass (z_cn cn) = some m.cls) (hok : z_ok cc cn e = true) (hpc : z_pc e = pc) (h : z_D e st n = some (mj, as, r)) (Wd : z_Wd D ad ca n σ ρ A s H locs) (hfr : d + 2 ≤ R.frames) (hlo : 60 * (d + 2) ≤ R.locals) (hmlj : z_ml_ mj ≤ 30)
    (hM : mj < 242 → (as.map fun v => v.category).sum ≤ z_ml_ mj → Met l (z_my mj) (z_ws mj) { frames := d + 1, cells := n1 - n, slots := z_SL n1 - z_SL n, locals := 60 * (d + 1) } (va_Pc (as.map (z_cv ad ax zf)) (z_Pre D ax zf xL xs ad ca n σ ρ H.size)) (z_Q res (z_Bw D ad ca n n1 σ1 ρ1 (va_A (z_W ad ca n σ ρ) H.size)) ax zf (va_A (z_W ad ca n σ ρ) H.size)) (n1 - n) (z_SL n1 - z_SL n) (va_A (z_W ad ca n σ ρ) H.size))
    (hce : cells + (n1 - n) ≤ R.cells ∧ slots + (z_SL n1 - z_SL n) ≤ R.slots)
    (kk : ∀ (ad' : Nat → Nat) (ca' : Nat → ClassId) (H1 : Heap) (locs1 : List Loc), z_Wd D ad' ca' n1 σ1 ρ1 A s H1 locs1 → (∀ k, k < n → ad' k = ad k ∧ ca' k = ca k) → (n1 = n → ad' = ad ∧ ca' = ca) → W p l en R s m args below meth c H1 locs1 (cells + (n1 - n)) (slots + (z_SL n1 - z_SL n)) Q (F0 m (pc + 3) ls (res.toList.map (z_cv ad' ax zf) ++ r.map (z_cv ad ax zf)))) : W p l en R s m args below meth c H locs cells slots Q (F0 m pc ls (st.map (z_cv ad ax zf))) := by
  obtain ⟨pc0, ins, k0, a, b, v, w⟩ := e
  obtain rfl : pc0 = pc := hpc
  simp only [z_ok, Bool.and_eq_true, decide_eq_true_eq] at hok
  obtain ⟨hd, hs⟩ := hok
  try dsimp only [z_a, z_b, z_k, z_v, z_w] at hs
  have hfree := z_Afree Wd.2.1 Wd.2.2.1 F.2.2.2.2.1
  have fin : ∀ {mc ms : Nat} {st0 rest : List Value} {aa : Array Value}, va_Run p l en R s m args below meth c H locs cells slots (n1 - n) (z_SL n1 - z_SL n) (F0 m pc0 ls (st.map (z_cv ad ax zf))) (r.map (z_cv ad ax zf)) (z_Q res (z_Bw D ad ca n n1 σ1 ρ1 (va_A (z_W ad ca n σ ρ) H.size)) ax zf (va_A (z_W ad ca n σ ρ) H.size) aa) (va_A (z_W ad ca n σ ρ) H.size) → W p l en R s m args below meth c H locs cells slots Q (F0 m pc0 ls (st.map (z_cv ad ax zf))) := by
    intro mc ms st0 rest aa hr
    refine z_after hr Wd.2.2.1 (fun q _ z => hfree q z) hfree (fun u t H1 locs1 ht hvm hB hS1 => ?_)
    obtain ⟨b1, b2, b3, b4, b5, b6, b7⟩ := hB
    rw [ht] at b1
    exact kk u.1 u.2 H1 locs1 ⟨b1, b2.weaken (fun _ _ _ z => hfree _ z), hS1, b3.moved hvm.symm, b4, b5⟩ b6 b7
  have words : ∀ mj : Nat, mj < 242 → ¬ mj = 0 → ¬ z_mc mj = 16 → lw_tbl[(z_mq mj).2.2.2.1]? = some (.initialized (z_my mj).cls) ∧ ((z_my mj).cls ≠ "java/lang/invoke/MethodHandle" ∧ (z_my mj).cls ≠ "java/lang/invoke/VarHandle" ∧ (parseMethodDescriptor (z_my mj).desc).map (fun d => d.parameters.length) = some (z_mq mj).2.2.2.2.2) := by
    intro mj h1 h2 h3
    have h4 := z_mokB_all mj h1
    simp only [z_mokB, Bool.or_eq_true, Bool.and_eq_true, decide_eq_true_eq] at h4
    rcases h4 with (h4 | h4) | h4
    · exact absurd h4 h2
    · exact absurd h4 h3
    · exact ⟨h4.1.1.1, h4.1.1.2.1, h4.1.1.2.2, h4.2⟩
  have hz := F.2.2.2.2.2
  cases ins
  case invokevirtual i =>
    simp only [z_D] at h
    try dsimp only [z_a, z_b, z_k, z_v, z_w] at h
    split at h
    · rename_i k r0 hdrop
      obtain ⟨k, rfl⟩ : ∃ k' : Nat, k' = k := ⟨k, rfl⟩
      unfold z_Dv at h
      try dsimp only [z_a, z_b, z_k, z_v, z_w] at h
      split at h
      · rename_i hk
        obtain ⟨k00, hrc, htl, hsum, hms⟩ := hk
        have k00 : k0 = 0 := k00
        simp only [Option.some.injEq, Prod.mk.injEq] at h
        obtain ⟨rfl, rfl, rfl⟩ := h
        simp only [Bool.or_eq_true, beq_iff_eq] at hs
        obtain ⟨q, hq, hq2⟩ := z_any (hs.resolve_left (by omega))
        simp only [Bool.and_eq_true, beq_iff_eq] at hq2
        obtain ⟨⟨⟨⟨q1, q2⟩, q3⟩, q4⟩, q5⟩ := hq2
        have hw := z_ml_ok q hq
        rw [q1, q2, q3, q4, q5, if_neg (by omega), if_neg (by omega), if_neg (by omega), if_neg (by omega), if_pos k00, if_neg (by omega)] at hw
        obtain ⟨w1, w2, w3, w4, w5, w6⟩ := hw
        obtain ⟨i1, i2⟩ := words a w1 w2 w3
        have hC := z_mokC_all a w1
        unfold z_mokC at hC
        rw [if_neg (by omega), if_pos w5] at hC
        simp only [Bool.and_eq_true, decide_eq_true_eq] at hC
        have hcls : z_cn (z_mc a) = (z_my a).cls := of_decide_eq_true (z_mokD_all a (by omega))
        have hst : st.map (z_cv ad ax zf) = ((st.take b).reverse.map (z_cv ad ax zf)).reverse ++ z_cv ad ax zf (.ref k) :: r0.map (z_cv ad ax zf) := by
          rw [← List.map_reverse, List.reverse_reverse, ← List.map_cons, ← hdrop, ← List.map_append, List.take_append_drop]
        have hn := Wd.2.2.2.2.2
        obtain ⟨y, hy, hrecv⟩ : ∃ y : Nat, z_cv ad ax zf (.ref k) = .ref y ∧ ∃ cell : Cell, H[y]? = some cell ∧ cell.vm.isStatics = false ∧ s.vm.findClass (z_my a).cls = some cell.cls := by
          have hrc : z_rc a n k = true := hrc
          simp only [z_rc, Bool.or_eq_true, Bool.and_eq_true, decide_eq_true_eq, beq_iff_eq] at hrc
          rcases hrc with ⟨⟨g1, g2⟩, g3⟩ | ⟨⟨g1, g2⟩, g3⟩
          · refine ⟨ad k, z_cv_in (by omega), ?_⟩
            have hat := z_W_at (ad := ad) (ca := ca) (σ := σ) (ρ := ρ) g1
            rw [z_E0 g2] at hat
            have hci : z_sc k < 11 := ((z_sh_ok k (by omega)).1 g2).1
            rw [← hcls, ← g3]
            exact va_recv F.2.2.1 Wd.1 (z_vw (z_sc k) hci) hat
          · refine ⟨ax k, z_cv_out (by omega) (by omega), ?_⟩
            have h9 := vk_recv F.2.2.2.1.2.2.2.1 (i := k - 2000) (by omega) Wd.2.2.1
            have e0 : 2000 + (k - 2000) = k := by omega
            simp only [e0] at h9
            rw [← hcls, g3]
            exact h9
        have hM := hM w1 hms
        rw [List.map_cons, hy] at hM
        rw [hy] at hst
        refine fin (mc := 0) (ms := 0) (st0 := []) (rest := []) (va_runV (As := (st.take b).reverse.map (z_cv ad ax zf)) (rest := r0.map (z_cv ad ax zf)) (C := (z_my a).cls) (index := i) (own := z_cn cn) (n := b) (b := y) ⟨hx, hb, hml, hown, F.1⟩ hM ⟨callB_of b F.1 (z_ws_good a w1) rfl rfl rfl (F.1 _ (z_gw_in i1 rfl)) (F.1 _ (z_gw_in w6 rfl)) (by rw [w4]; exact i2) ⟨hfr, by show 8 + (z_ml_ a + 11) + 60 * (d + 1) ≤ _; omega⟩, F.1 _ (z_gw_in hC.1 rfl), F.1 _ (z_gw_in hC.2 rfl)⟩ ⟨z_blind, hrecv, fun U hU hW => ⟨rfl, z_pre_of F Wd hU hW⟩⟩ rfl (by rw [List.length_map, List.length_reverse]; exact htl) rfl hst (by show 2 * 0 + _ ≤ 8; rw [z_sumcat hz]; omega) hd hce)
      · cases h
    · cases h
  case invokestatic i =>
    simp only [z_D] at h
    try dsimp only [z_a, z_b, z_k, z_v, z_w] at h
    split at h
    · rename_i hk
      obtain ⟨k14, htl, hsum, hms⟩ := hk
      have k14 : k0 = 1 ∨ k0 = 4 := k14
      simp only [Option.some.injEq, Prod.mk.injEq] at h
      obtain ⟨rfl, rfl, rfl⟩ := h
      simp only [Bool.or_eq_true, beq_iff_eq] at hs
      obtain ⟨q, hq, hq2⟩ := z_any (hs.resolve_left (by omega))
      simp only [Bool.and_eq_true, beq_iff_eq] at hq2
      obtain ⟨⟨⟨⟨q1, q2⟩, q3⟩, q4⟩, q5⟩ := hq2
      have hw := z_ml_ok q hq
      rw [q1, q2, q3, q4, q5, if_neg (by omega), if_neg (by omega), if_neg (by omega), if_neg (by omega), if_neg (by omega), if_pos (by omega)] at hw
      obtain ⟨w1, w2, w3, w4, w5, w6⟩ := hw
      obtain ⟨i1, i2⟩ := words a w1 w2 w3
      have hC := z_mokC_all a w1
      unfold z_mokC at hC
      rw [if_pos w5] at hC
      simp only [decide_eq_true_eq] at hC
      have hst : st.map (z_cv ad ax zf) = ((st.take b).reverse.map (z_cv ad ax zf)).reverse ++ (st.drop b).map (z_cv ad ax zf) := by
        rw [← List.map_reverse, List.reverse_reverse, ← List.map_append, List.take_append_drop]
      have hM := hM w1 hms
      rcases k14 with k1 | k4
      · rw [if_neg (by omega)] at w6
        exact fin (mc := 0) (ms := 0) (st0 := []) (rest := []) (va_runS (As := (st.take b).reverse.map (z_cv ad ax zf)) (rest := (st.drop b).map (z_cv ad ax zf)) (index := i) (own := z_cn cn) (n := b) ⟨hx, hb, hml, hown, F.1⟩ hM ⟨callB_of b F.1 (z_ws_good a w1) rfl rfl rfl (F.1 _ (z_gw_in i1 rfl)) (F.1 _ (z_gw_in w6 rfl)) (by rw [w4]; exact i2) ⟨hfr, by show 8 + (z_ml_ a + 11) + 60 * (d + 1) ≤ _; omega⟩, F.1 _ (z_gw_in hC rfl)⟩ ⟨z_blind, fun U hU hW => ⟨rfl, z_pre_of F Wd hU hW⟩⟩ rfl (by rw [List.length_map, List.length_reverse]; exact htl) rfl hst (by show 2 * 0 + _ ≤ 8; rw [z_sumcat hz]; omega) hd hce)
      · have hnw := F.2.1.1 q hq (by omega)
        rw [q1, q2, q4] at hnw
        exact fin (mc := 0) (ms := 0) (st0 := []) (rest := []) (va_runSN (As := (st.take b).reverse.map (z_cv ad ax zf)) (rest := (st.drop b).map (z_cv ad ax zf)) (index := i) (own := z_cn cn) (host := "SeasonYard") (n := b) ⟨hx, hb, hml, hown, F.1⟩ hM ⟨va_cnB b F.1 (z_ws_good a w1) rfl rfl rfl hnw (F.1 _ (z_gw_in i1 rfl)) (by rw [w4]; exact i2) ⟨hfr, by show 8 + (z_ml_ a + 11) + 60 * (d + 1) ≤ _; omega⟩, F.1 _ (z_gw_in hC rfl), trivial⟩ ⟨z_blind, fun U hU hW => ⟨rfl, z_pre_of F Wd hU hW⟩⟩ rfl (by rw [List.length_map, List.length_reverse]; exact htl) rfl hst (by show 2 * 0 + _ ≤ 8; rw [z_sumcat hz]; omega) hd hce)
    · cases h
  case invokespecial i =>
    simp only [z_D] at h
    try dsimp only [z_a, z_b, z_k, z_v, z_w] at h
    split at h
    · rename_i k r0 hdrop
      obtain ⟨k, rfl⟩ : ∃ k' : Nat, k' = k := ⟨k, rfl⟩
      unfold z_Di at h
      try dsimp only [z_a, z_b, z_k, z_v, z_w] at h
      split at h
      · rename_i hk
        obtain ⟨k23, hne, htl, hsum, hms⟩ := hk
        have k23 : k0 = 2 ∨ k0 = 3 := k23
        simp only [Option.some.injEq, Prod.mk.injEq] at h
        obtain ⟨rfl, rfl, rfl⟩ := h
        obtain ⟨q, hq, hq2⟩ := z_any hs
        simp only [Bool.and_eq_true, beq_iff_eq] at hq2
        obtain ⟨⟨⟨⟨q1, q2⟩, q3⟩, q4⟩, q5⟩ := hq2
        have hw := z_ml_ok q hq
        rw [q1, q2, q3, q4, q5, if_neg (by omega), if_neg (by omega), if_neg (by omega), if_neg (by omega), if_neg (by omega), if_neg (by omega)] at hw
        obtain ⟨w1, w2, w3, w4, w5, w6⟩ := hw
        obtain ⟨i1, i2⟩ := words a w1 w2 w3
        have hC := z_mokC_all a w1
        unfold z_mokC at hC
        rw [if_neg (by omega), if_neg (by omega)] at hC
        simp only [Bool.and_eq_true, decide_eq_true_eq] at hC
        obtain ⟨y, hy⟩ := z_cv_ref (ad := ad) (ax := ax) (zf := zf) hne
        have hst : st.map (z_cv ad ax zf) = ((st.take b).reverse.map (z_cv ad ax zf)).reverse ++ .ref y :: r0.map (z_cv ad ax zf) := by
          rw [← hy, ← List.map_reverse, List.reverse_reverse, ← List.map_cons, ← hdrop, ← List.map_append, List.take_append_drop]
        have hM := hM w1 hms
        rw [List.map_cons, hy] at hM
        have hret : z_mr a = none := z_ini_ret a w1 w5
        have hws : z_ws a = Cond.code (z_my a) (z_mb a) (z_ml_ a) none :: z_gw := by rw [← hret]; rfl
        rcases k23 with k2 | k3
        · rw [if_neg (by omega)] at w6
          exact fin (mc := 0) (ms := 0) (st0 := []) (rest := []) (va_runI (As := (st.take b).reverse.map (z_cv ad ax zf)) (rest := r0.map (z_cv ad ax zf)) (index := i) (own := z_cn cn) (n := b) (b := y) ⟨hx, hb, hml, hown, F.1⟩ hM ⟨callB_of b F.1 (z_ws_good a w1) hws rfl rfl (F.1 _ (z_gw_in i1 rfl)) (F.1 _ (z_gw_in w6 rfl)) (by rw [w4]; exact i2) ⟨hfr, by show 8 + (z_ml_ a + 11) + 60 * (d + 1) ≤ _; omega⟩, hC.2, F.1 _ (z_gw_in hC.1 rfl)⟩ ⟨z_blind, fun U hU hW => ⟨rfl, z_pre_of F Wd hU hW⟩⟩ rfl (by rw [List.length_map, List.length_reverse]; exact htl) rfl hst (by show 2 * 0 + _ ≤ 8; rw [z_sumcat hz]; omega) hd hce)
        · have hnw := F.2.1.1 q hq (by omega)
          rw [q1, q2, q4] at hnw
          exact fin (mc := 0) (ms := 0) (st0 := []) (rest := []) (va_runIN (As := (st.take b).reverse.map (z_cv ad ax zf)) (rest := r0.map (z_cv ad ax zf)) (index := i) (own := z_cn cn) (host := "SeasonYard") (n := b) (b := y) ⟨hx, hb, hml, hown, F.1⟩ hM ⟨va_cnB b F.1 (z_ws_good a w1) hws rfl rfl hnw (F.1 _ (z_gw_in i1 rfl)) (by rw [w4]; exact i2) ⟨hfr, by show 8 + (z_ml_ a + 11) + 60 * (d + 1) ≤ _; omega⟩, hC.2, F.1 _ (z_gw_in hC.1 rfl)⟩ ⟨z_blind, fun U hU hW => ⟨rfl, z_pre_of F Wd hU hW⟩⟩ rfl (by rw [List.length_map, List.length_reverse]; exact htl) rfl hst (by show 2 * 0 + _ ≤ 8; rw [z_sumcat hz]; omega) hd hce)
      · cases h
    · cases h
  all_goals (simp only [z_D] at h; cases h)
end ZD
