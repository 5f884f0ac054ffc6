/-! soundness: what the machine does where the abstract one steps without asking a cell -/
def z_cvr (ad ax : Nat → Nat) (zf : Value) (k : Nat) : Value := if k = 4001 then zf else if 1000 ≤ k then .ref (ax k) else .ref (ad k)
def z_cv (ad ax : Nat → Nat) (zf : Value) (v : Value) : Value := match v with
  | .ref k => z_cvr ad ax zf k
  | v => v
def z_cl (ad ax : Nat → Nat) (zf : Value) (L : List (Nat × Value)) : List (Nat × Value) := L.map fun q => (q.1, z_cv ad ax zf q.2)
def z_zf (zf : Value) : Prop := zf = .null ∨ ∃ a, zf = .ref a
theorem z_cv_cat {ad ax : Nat → Nat} {zf : Value} (hz : z_zf zf) (v : Value) : (z_cv ad ax zf v).category = v.category := by
  cases v <;> try rfl
  rename_i k
  simp only [z_cv, z_cvr]
  split
  · rcases hz with rfl | ⟨a, rfl⟩ <;> rfl
  · split <;> rfl
theorem z_get_mem {L : List (Nat × Value)} {i : Nat} {v : Value} (h : z_get L i = some v) : (i, v) ∈ L := by
  induction L with
  | nil => cases h
  | cons q l ih =>
    simp only [z_get] at h
    split at h
    · rename_i hq
      cases h
      rw [← hq]
      exact List.mem_cons_self
    · exact List.mem_cons_of_mem _ (ih h)
theorem z_at {ad ax : Nat → Nat} {zf : Value} {L : List (Nat × Value)} {ls : Array Slot} {nL i : Nat} {v : Value} (hl : lv_has ls nL (z_cl ad ax zf L)) (h : z_get L i = some v) : ls[i]? = some (.val (z_cv ad ax zf v)) :=
  hl.2.2 (i, z_cv ad ax zf v) (List.mem_map.mpr ⟨(i, v), z_get_mem h, rfl⟩)
theorem z_at2 {ad ax : Nat → Nat} {zf : Value} {L : List (Nat × Value)} {i : Nat} {v : Value} (h : z_get L i = some v) : ∃ k : Nat, (z_cl ad ax zf L)[k]? = some (i, z_cv ad ax zf v) :=
  List.mem_iff_getElem?.mp (List.mem_map.mpr ⟨(i, v), z_get_mem h, rfl⟩)
theorem z_s1_cl {ad ax : Nat → Nat} {zf : Value} (hz : z_zf zf) (L : List (Nat × Value)) (i : Nat) (v : Value) : (i, z_cv ad ax zf v) :: (z_cl ad ax zf L).filter (fun q => !(q.1 == i) && !(q.1 + 1 == i && q.2.category == 2)) = z_cl ad ax zf (z_s1 L i v) := by
  simp only [z_cl, z_s1, List.map_cons, List.filter_map]
  congr 2
  apply List.filter_congr
  intro q _
  simp only [Function.comp, z_cv_cat hz]
theorem z_s2_cl {ad ax : Nat → Nat} {zf : Value} (hz : z_zf zf) (L : List (Nat × Value)) (i : Nat) (v : Value) : (i, z_cv ad ax zf v) :: (z_cl ad ax zf L).filter (fun q => !(q.1 == i) && (!(q.1 == i + 1) && !(q.1 + 1 == i && q.2.category == 2))) = z_cl ad ax zf (z_s2 L i v) := by
  simp only [z_cl, z_s2, List.map_cons, List.filter_map]
  congr 2
  apply List.filter_congr
  intro q _
  simp only [Function.comp, z_cv_cat hz]
theorem z_cv_ref {ad ax : Nat → Nat} {zf : Value} {k : Nat} (h : ¬ k = 4001) : ∃ a, z_cv ad ax zf (.ref k) = .ref a := by
  simp only [z_cv, z_cvr, if_neg h]
  split <;> exact ⟨_, rfl⟩
section ZA
variable {p : Program} {l : Launch} {en : Env} {R : Room} {s : State} {m : MethodId} {args : Array Value} {below : List Frame} {meth : Method} {c : Code} {H : Heap} {locs : List Loc} {cells slots : Nat} {Q : State → Prop}
variable {cc : ByteArray} {ad ax : Nat → Nat} {zf : Value}
set_option maxHeartbeats 4000000 in
theorem z_Asnd (hx : p.tables.exec = Jvm.exec) (hb : c.code = cc) (hz : z_zf zf) {cn nL pc pc' : Nat} {e : zI} {L L' : List (Nat × Value)} {st st' : List Value} {ls : Array Slot} (hok : z_ok cc cn e = true) (hpc : z_pc e = pc) (h : z_A nL e pc L st = some (pc', L', st')) (hl : lv_has ls nL (z_cl ad ax zf L))
    (kk : ∀ ls', lv_has ls' nL (z_cl ad ax zf L') → W p l en R s m args below meth c H locs cells slots Q (F0 m pc' ls' (st'.map (z_cv ad ax zf)))) : W p l en R s m args below meth c H locs cells slots Q (F0 m pc ls (st.map (z_cv ad ax zf))) := by
  obtain ⟨pc0, ins, k, a, b, v, w⟩ := e
  obtain rfl : pc0 = pc := hpc
  simp only [z_ok, Bool.and_eq_true, decide_eq_true_eq] at hok
  obtain ⟨hd, hs⟩ := hok
  cases ins
  case iconst n =>
    simp only [z_A, Option.some.injEq, Prod.mk.injEq] at h
    obtain ⟨rfl, rfl, rfl⟩ := h
    exact lv_iconst hx hb hd (of_decide_eq_true hs) (kk ls hl)
  case bipush n =>
    simp only [z_A, Option.some.injEq, Prod.mk.injEq] at h
    obtain ⟨rfl, rfl, rfl⟩ := h
    exact lv_bipush hx hb hd (of_decide_eq_true hs) (kk ls hl)
  case sipush n =>
    simp only [z_A, Option.some.injEq, Prod.mk.injEq] at h
    obtain ⟨rfl, rfl, rfl⟩ := h
    exact lv_sipush hx hb hd (of_decide_eq_true hs) (kk ls hl)
  case lconst n =>
    simp only [z_A, Option.some.injEq, Prod.mk.injEq] at h
    obtain ⟨rfl, rfl, rfl⟩ := h
    exact lv_lconst hx hb hd (of_decide_eq_true hs) (kk ls hl)
  case iload_n n =>
    simp only [z_A] at h
    split at h
    · rename_i x hg
      simp only [Option.some.injEq, Prod.mk.injEq] at h
      obtain ⟨rfl, rfl, rfl⟩ := h
      exact lv_iload_n hx hb hd rfl (z_at hl hg) (kk ls hl)
    · cases h
  case iload n =>
    simp only [z_A] at h
    split at h
    · rename_i x hg
      simp only [Option.some.injEq, Prod.mk.injEq] at h
      obtain ⟨rfl, rfl, rfl⟩ := h
      exact lv_iload hx hb hd (z_at hl hg) (kk ls hl)
    · cases h
  case lload_n n =>
    simp only [z_A] at h
    split at h
    · rename_i x hg
      simp only [Option.some.injEq, Prod.mk.injEq] at h
      obtain ⟨rfl, rfl, rfl⟩ := h
      exact lv_lload_n hx hb hd rfl (z_at hl hg) (kk ls hl)
    · cases h
  case lload n =>
    simp only [z_A] at h
    split at h
    · rename_i x hg
      simp only [Option.some.injEq, Prod.mk.injEq] at h
      obtain ⟨rfl, rfl, rfl⟩ := h
      exact lv_lload hx hb hd (z_at hl hg) (kk ls hl)
    · cases h
  case aload_n n =>
    simp only [z_A] at h
    split at h
    · rename_i x hg
      split at h
      · cases h
      · rename_i hne
        simp only [Option.some.injEq, Prod.mk.injEq] at h
        obtain ⟨rfl, rfl, rfl⟩ := h
        obtain ⟨y, hy⟩ := z_cv_ref (ad := ad) (ax := ax) (zf := zf) hne
        have h1 := z_at hl hg
        have h2 := kk ls hl
        simp only [List.map_cons] at h2
        rw [hy] at h1 h2
        exact lv_aload_n hx hb hd rfl h1 h2
    · cases h
  case aload n =>
    simp only [z_A] at h
    split at h
    · rename_i x hg
      split at h
      · cases h
      · rename_i hne
        simp only [Option.some.injEq, Prod.mk.injEq] at h
        obtain ⟨rfl, rfl, rfl⟩ := h
        obtain ⟨y, hy⟩ := z_cv_ref (ad := ad) (ax := ax) (zf := zf) hne
        have h1 := z_at hl hg
        have h2 := kk ls hl
        simp only [List.map_cons] at h2
        rw [hy] at h1 h2
        exact lv_aload hx hb hd h1 h2
    · cases h
  case istore_n n =>
    simp only [z_A] at h
    split at h
    · rename_i x r
      split at h
      · rename_i hn
        simp only [Option.some.injEq, Prod.mk.injEq] at h
        obtain ⟨rfl, rfl, rfl⟩ := h
        exact lv_istore_n hx hb hd rfl hl hn (z_s1_cl hz L n (.int x)) kk
      · cases h
    · cases h
  case istore n =>
    simp only [z_A] at h
    split at h
    · rename_i x r
      split at h
      · rename_i hn
        simp only [Option.some.injEq, Prod.mk.injEq] at h
        obtain ⟨rfl, rfl, rfl⟩ := h
        exact lv_istore hx hb hd hl hn (z_s1_cl hz L n (.int x)) kk
      · cases h
    · cases h
  case lstore_n n =>
    simp only [z_A] at h
    split at h
    · rename_i x r
      split at h
      · rename_i hn
        simp only [Option.some.injEq, Prod.mk.injEq] at h
        obtain ⟨rfl, rfl, rfl⟩ := h
        exact lv_lstore_n hx hb hd rfl hl hn (z_s2_cl hz L n (.long x)) kk
      · cases h
    · cases h
  case lstore n =>
    simp only [z_A] at h
    split at h
    · rename_i x r
      split at h
      · rename_i hn
        simp only [Option.some.injEq, Prod.mk.injEq] at h
        obtain ⟨rfl, rfl, rfl⟩ := h
        exact lv_lstore hx hb hd hl hn (z_s2_cl hz L n (.long x)) kk
      · cases h
    · cases h
  case astore_n n =>
    simp only [z_A] at h
    split at h
    · rename_i x r
      split at h
      · rename_i hn
        simp only [Option.some.injEq, Prod.mk.injEq] at h
        obtain ⟨rfl, rfl, rfl⟩ := h
        obtain ⟨y, hy⟩ := z_cv_ref (ad := ad) (ax := ax) (zf := zf) hn.2
        simp only [List.map_cons]
        rw [hy]
        exact lv_astore_n hx hb hd rfl hl hn.1 (by rw [← hy]; exact z_s1_cl hz L n (.ref x)) kk
      · cases h
    · cases h
  case astore n =>
    simp only [z_A] at h
    split at h
    · rename_i x r
      split at h
      · rename_i hn
        simp only [Option.some.injEq, Prod.mk.injEq] at h
        obtain ⟨rfl, rfl, rfl⟩ := h
        obtain ⟨y, hy⟩ := z_cv_ref (ad := ad) (ax := ax) (zf := zf) hn.2
        simp only [List.map_cons]
        rw [hy]
        exact lv_astore hx hb hd hl hn.1 (by rw [← hy]; exact z_s1_cl hz L n (.ref x)) kk
      · cases h
    · cases h
  case iinc n z =>
    simp only [z_A] at h
    split at h
    · rename_i x hg
      split at h
      · rename_i hn
        simp only [Option.some.injEq, Prod.mk.injEq] at h
        obtain ⟨rfl, rfl, rfl⟩ := h
        obtain ⟨kx, hkx⟩ := z_at2 (ad := ad) (ax := ax) (zf := zf) hg
        have hv : Int32.ofInt z = v := of_decide_eq_true hs
        exact lv_iinc hx hb hd hl hkx (by rw [hv]) hn (z_s1_cl hz L n (.int (x + v))) kk
      · cases h
    · cases h
  case iadd =>
    simp only [z_A] at h
    split at h
    · simp only [Option.some.injEq, Prod.mk.injEq] at h
      obtain ⟨rfl, rfl, rfl⟩ := h
      exact lv_iadd hx hb hd (kk ls hl)
    · cases h
  case isub =>
    simp only [z_A] at h
    split at h
    · simp only [Option.some.injEq, Prod.mk.injEq] at h
      obtain ⟨rfl, rfl, rfl⟩ := h
      exact lv_isub hx hb hd (kk ls hl)
    · cases h
  case imul =>
    simp only [z_A] at h
    split at h
    · simp only [Option.some.injEq, Prod.mk.injEq] at h
      obtain ⟨rfl, rfl, rfl⟩ := h
      exact lv_imul hx hb hd (kk ls hl)
    · cases h
  case iand =>
    simp only [z_A] at h
    split at h
    · simp only [Option.some.injEq, Prod.mk.injEq] at h
      obtain ⟨rfl, rfl, rfl⟩ := h
      exact lv_iand hx hb hd (kk ls hl)
    · cases h
  case ior =>
    simp only [z_A] at h
    split at h
    · simp only [Option.some.injEq, Prod.mk.injEq] at h
      obtain ⟨rfl, rfl, rfl⟩ := h
      exact lv_ior hx hb hd (kk ls hl)
    · cases h
  case ixor =>
    simp only [z_A] at h
    split at h
    · simp only [Option.some.injEq, Prod.mk.injEq] at h
      obtain ⟨rfl, rfl, rfl⟩ := h
      exact lv_ixor hx hb hd (kk ls hl)
    · cases h
  case ishl =>
    simp only [z_A] at h
    split at h
    · simp only [Option.some.injEq, Prod.mk.injEq] at h
      obtain ⟨rfl, rfl, rfl⟩ := h
      exact lv_ishl hx hb hd (kk ls hl)
    · cases h
  case ishr =>
    simp only [z_A] at h
    split at h
    · simp only [Option.some.injEq, Prod.mk.injEq] at h
      obtain ⟨rfl, rfl, rfl⟩ := h
      exact lv_ishr hx hb hd (kk ls hl)
    · cases h
  case iushr =>
    simp only [z_A] at h
    split at h
    · simp only [Option.some.injEq, Prod.mk.injEq] at h
      obtain ⟨rfl, rfl, rfl⟩ := h
      exact lv_iushr hx hb hd rfl (kk ls hl)
    · cases h
  case idiv =>
    simp only [z_A] at h
    split at h
    · split at h
      · cases h
      · rename_i hne
        simp only [Option.some.injEq, Prod.mk.injEq] at h
        obtain ⟨rfl, rfl, rfl⟩ := h
        exact lv_idiv hx hb hd hne (kk ls hl)
    · cases h
  case irem =>
    simp only [z_A] at h
    split at h
    · split at h
      · cases h
      · rename_i hne
        simp only [Option.some.injEq, Prod.mk.injEq] at h
        obtain ⟨rfl, rfl, rfl⟩ := h
        exact lv_irem hx hb hd hne (kk ls hl)
    · cases h
  case ladd =>
    simp only [z_A] at h
    split at h
    · simp only [Option.some.injEq, Prod.mk.injEq] at h
      obtain ⟨rfl, rfl, rfl⟩ := h
      exact lv_ladd hx hb hd (kk ls hl)
    · cases h
  case lmul =>
    simp only [z_A] at h
    split at h
    · simp only [Option.some.injEq, Prod.mk.injEq] at h
      obtain ⟨rfl, rfl, rfl⟩ := h
      exact lv_lmul hx hb hd (kk ls hl)
    · cases h
  case ldiv =>
    simp only [z_A] at h
    split at h
    · split at h
      · cases h
      · rename_i hne
        simp only [Option.some.injEq, Prod.mk.injEq] at h
        obtain ⟨rfl, rfl, rfl⟩ := h
        exact lv_ldiv hx hb hd hne (kk ls hl)
    · cases h
  case lrem =>
    simp only [z_A] at h
    split at h
    · split at h
      · cases h
      · rename_i hne
        simp only [Option.some.injEq, Prod.mk.injEq] at h
        obtain ⟨rfl, rfl, rfl⟩ := h
        exact lv_lrem hx hb hd hne (kk ls hl)
    · cases h
  case lcmp =>
    simp only [z_A] at h
    split at h
    · simp only [Option.some.injEq, Prod.mk.injEq] at h
      obtain ⟨rfl, rfl, rfl⟩ := h
      exact W.lcmp hx hb hd (kk ls hl)
    · cases h
  case i2l =>
    simp only [z_A] at h
    split at h
    · simp only [Option.some.injEq, Prod.mk.injEq] at h
      obtain ⟨rfl, rfl, rfl⟩ := h
      exact lv_i2l hx hb hd rfl (kk ls hl)
    · cases h
  case i2b =>
    simp only [z_A] at h
    split at h
    · simp only [Option.some.injEq, Prod.mk.injEq] at h
      obtain ⟨rfl, rfl, rfl⟩ := h
      exact lv_i2b hx hb hd rfl (kk ls hl)
    · cases h
  case i2s =>
    simp only [z_A] at h
    split at h
    · simp only [Option.some.injEq, Prod.mk.injEq] at h
      obtain ⟨rfl, rfl, rfl⟩ := h
      exact lv_i2s hx hb hd rfl (kk ls hl)
    · cases h
  case i2c =>
    simp only [z_A] at h
    split at h
    · simp only [Option.some.injEq, Prod.mk.injEq] at h
      obtain ⟨rfl, rfl, rfl⟩ := h
      exact lv_i2c hx hb hd rfl (kk ls hl)
    · cases h
  case dup =>
    simp only [z_A] at h
    split at h
    · split at h
      · rename_i hc
        simp only [Option.some.injEq, Prod.mk.injEq] at h
        obtain ⟨rfl, rfl, rfl⟩ := h
        exact lv_dup hx hb hd (by rw [z_cv_cat hz]; exact hc) (kk ls hl)
      · cases h
    · cases h
  case pop =>
    simp only [z_A] at h
    split at h
    · split at h
      · rename_i hc
        simp only [Option.some.injEq, Prod.mk.injEq] at h
        obtain ⟨rfl, rfl, rfl⟩ := h
        exact lv_pop hx hb hd (by rw [z_cv_cat hz]; exact hc) (kk ls hl)
      · cases h
    · cases h
  case dup2 =>
    simp only [z_A] at h
    split at h
    · split at h
      · rename_i hc
        simp only [Option.some.injEq, Prod.mk.injEq] at h
        obtain ⟨rfl, rfl, rfl⟩ := h
        exact lv_dup2_11 hx hb hd (by rw [z_cv_cat hz]; exact hc.1) (by rw [z_cv_cat hz]; exact hc.2) (kk ls hl)
      · cases h
    · cases h
  case goto n =>
    simp only [z_A, Option.some.injEq, Prod.mk.injEq] at h
    obtain ⟨rfl, rfl, rfl⟩ := h
    exact lv_goto hx hb hd (of_decide_eq_true hs) (kk ls hl)
  case ifCond cd n =>
    have ht : (pc0 : Int) + n = (a : Int) := of_decide_eq_true hs
    cases cd <;> simp only [z_A] at h <;> split at h
    all_goals first | (cases h; done) | skip
    · refine lv_if_eq hx hb hd ht (fun q => ?_) (fun q => ?_)
      · rw [if_pos q] at h; cases h; exact kk ls hl
      · rw [if_neg q] at h; cases h; exact kk ls hl
    · refine lv_if_ne hx hb hd ht (fun q => ?_) (fun q => ?_)
      · rw [if_pos q] at h; cases h; exact kk ls hl
      · rw [if_neg (fun z => z q)] at h; cases h; exact kk ls hl
    · refine lv_if_lt hx hb hd ht (fun q => ?_) (fun q => ?_)
      · rw [if_pos q] at h; cases h; exact kk ls hl
      · rw [if_neg q] at h; cases h; exact kk ls hl
    · refine lv_if_ge hx hb hd ht (fun q => ?_) (fun q => ?_)
      · rw [if_pos q] at h; cases h; exact kk ls hl
      · rw [if_neg q] at h; cases h; exact kk ls hl
    · refine lv_if_gt hx hb hd ht (fun q => ?_) (fun q => ?_)
      · rw [if_pos q] at h; cases h; exact kk ls hl
      · rw [if_neg q] at h; cases h; exact kk ls hl
    · refine lv_if_le hx hb hd ht (fun q => ?_) (fun q => ?_)
      · rw [if_pos q] at h; cases h; exact kk ls hl
      · rw [if_neg q] at h; cases h; exact kk ls hl
  case if_icmp cd n =>
    have ht : (pc0 : Int) + n = (a : Int) := of_decide_eq_true hs
    cases cd <;> simp only [z_A] at h <;> split at h
    all_goals first | (cases h; done) | skip
    · refine lv_icmp_eq hx hb hd ht (fun q => ?_) (fun q => ?_)
      · rw [if_pos q] at h; cases h; exact kk ls hl
      · rw [if_neg q] at h; cases h; exact kk ls hl
    · refine lv_icmp_ne hx hb hd ht (fun q => ?_) (fun q => ?_)
      · rw [if_pos q] at h; cases h; exact kk ls hl
      · rw [if_neg (fun z => z q)] at h; cases h; exact kk ls hl
    · refine lv_icmp_lt hx hb hd ht (fun q => ?_) (fun q => ?_)
      · rw [if_pos q] at h; cases h; exact kk ls hl
      · rw [if_neg q] at h; cases h; exact kk ls hl
    · refine lv_icmp_ge hx hb hd ht (fun q => ?_) (fun q => ?_)
      · rw [if_pos q] at h; cases h; exact kk ls hl
      · rw [if_neg q] at h; cases h; exact kk ls hl
    · refine lv_icmp_gt hx hb hd ht (fun q => ?_) (fun q => ?_)
      · rw [if_pos q] at h; cases h; exact kk ls hl
      · rw [if_neg q] at h; cases h; exact kk ls hl
    · refine lv_icmp_le hx hb hd ht (fun q => ?_) (fun q => ?_)
      · rw [if_pos q] at h; cases h; exact kk ls hl
      · rw [if_neg q] at h; cases h; exact kk ls hl
  case tableswitch dd lo hi offs =>
    simp only [z_A] at h
    split at h
    · rename_i x r
      split at h
      · rename_i ho
        split at h
        · rename_i hp
          simp only [Option.some.injEq, Prod.mk.injEq] at h
          obtain ⟨rfl, rfl, rfl⟩ := h
          exact lv_tableOut hx hb hd ho (by omega) (kk ls hl)
        · cases h
      · rename_i ho
        split at h
        · rename_i off hoff
          split at h
          · rename_i hp
            simp only [Option.some.injEq, Prod.mk.injEq] at h
            obtain ⟨rfl, rfl, rfl⟩ := h
            exact lv_tableIn hx hb hd (fun q => ho (Or.inl q)) (fun q => ho (Or.inr q)) hoff (by omega) (kk ls hl)
          · cases h
        · cases h
    · cases h
  all_goals (simp only [z_A] at h; cases h)
end ZA
