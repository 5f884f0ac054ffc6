/-! the constructors, by evaluation; they ask the script nothing -/
def z_gd (e : zI) (st : List Value) : Bool := match z_in e with
  | .iaload => match st with
    | _ :: .ref k :: _ => !(Nat.beq k 4000)
    | _ => true
  | .arraylength => match st with
    | .ref k :: _ => !(Nat.beq k 4000)
    | _ => true
  | _ => true
def z_y : Nat → Nat → Nat → Nat → List (Nat × Value) → List Value → zH → Option (Option Value × zH)
  | 0, _, _, _, _, _, _ => none
  | f + 1, d, mi, pc, L, st, h => match z_fi (z_mi mi) pc with
    | none => none
    | some e => if z_gd e st = true then (match z_A (z_ml_ mi) e pc L st with
      | some (pc', L', st') => z_y f d mi pc' L' st' h
      | none => match z_B 0 (fun _ => 0) (z_ct mi) e st h.1 h.2.1 h.2.2 with
        | some (st', h') => z_y f d mi (pc + z_len e) L st' h'
        | none => match z_C e st h.1 h.2.1 h.2.2 with
          | some (st', h') => if (L.all fun q => z_av h.1 q.2) && st.all (z_av h.1) then z_y f d mi (pc + z_len e) L st' h' else none
          | none => match z_R (z_mr mi) e st with
            | some r => some (r, h)
            | none => match z_D e st h.1 with
              | none => none
              | some (mj, as, r) => match d with
                | 0 => none
                | d' + 1 => match z_y f d' mj 0 (lv_args 0 as) [] h with
                  | none => none
                  | some (v, h') => if h'.1 = h.1 ∨ ((L.all fun q => z_av h.1 q.2) && st.all (z_av h.1)) = true then z_y f (d' + 1) mi (pc + 3) L (v.toList ++ r) h' else none) else none
theorem z_B_gd {xL : Nat} {xs : Nat → Int32} {ctor : Nat} {e : zI} {st : List Value} {n : Nat} {σ : Nat → Nat → Int32} {ρ : Nat → Nat → Option Nat} (h : z_gd e st = true) : z_B xL xs ctor e st n σ ρ = z_B 0 (fun _ => 0) ctor e st n σ ρ := by
  obtain ⟨pc, ins, k, a, b, v, w⟩ := e
  cases ins
  case iaload =>
    simp only [z_gd] at h
    simp only [z_B]
    split
    · rename_i i k9 r
      obtain ⟨k9, rfl⟩ : ∃ k' : Nat, k' = k9 := ⟨k9, rfl⟩
      have hk : ¬ k9 = 4000 := by
        intro e
        rw [e] at h
        exact Bool.noConfusion (show false = true from h)
      unfold z_ild
      split
      · rfl
      · split
        · rfl
        · rw [if_neg (fun z => hk z.1), if_neg (fun z => hk z.1)]
    · rfl
  case arraylength =>
    simp only [z_gd] at h
    simp only [z_B]
    split
    · rename_i k9 r
      obtain ⟨k9, rfl⟩ : ∃ k' : Nat, k' = k9 := ⟨k9, rfl⟩
      have hk : ¬ k9 = 4000 := by
        intro e
        rw [e] at h
        exact Bool.noConfusion (show false = true from h)
      unfold z_aln
      split
      · rfl
      · split
        · rfl
        · split
          · rfl
          · first
            | rfl
            | rw [if_neg hk, if_neg hk]
    · rfl
  all_goals rfl
set_option maxHeartbeats 4000000 in
theorem z_y_x {xL : Nat} {xs : Nat → Int32} : ∀ (f d mi pc : Nat) (L : List (Nat × Value)) (st : List Value) (h : zH) (r : Option Value × zH), z_y f d mi pc L st h = some r → z_x xL xs f d mi pc L st h = some r := by
  intro f
  induction f with
  | zero => intro d mi pc L st h r hr; simp only [z_y] at hr; cases hr
  | succ f ih =>
    intro d mi pc L st h r hr
    rw [z_y] at hr
    rw [z_x]
    split at hr
    · cases hr
    rename_i e he
    rw [he]
    split at hr
    · rename_i hg
      simp only
      rw [z_B_gd hg]
      split at hr
      · rename_i pc1 L1 st1 hA
        simp only [hA]
        exact ih _ _ _ _ _ _ _ hr
      rename_i hA
      split at hr
      · rename_i st1 h1 hB
        simp only [hA, hB]
        exact ih _ _ _ _ _ _ _ hr
      rename_i hB
      split at hr
      · rename_i st1 h1 hC
        split at hr
        · rename_i hav
          simp only [hA, hB, hC]
          rw [if_pos hav]
          exact ih _ _ _ _ _ _ _ hr
        · cases hr
      rename_i hC
      split at hr
      · rename_i r1 hR
        simp only [hA, hB, hC, hR]
        exact hr
      rename_i hR
      split at hr
      · cases hr
      rename_i mj as r1 hDd
      split at hr
      · cases hr
      split at hr
      · cases hr
      rename_i v h1 hcall
      simp only [hA, hB, hC, hR, hDd]
      rw [ih _ _ _ _ _ _ _ hcall]
      simp only
      split at hr
      · rename_i hav
        rw [if_pos hav]
        exact ih _ _ _ _ _ _ _ hr
      · cases hr
    · cases hr
def z_it : List (List Int32) := [[], [2, 2], [4, 4, 4, 4, 4, 4, 4, 4, 4, 4, 4, 4, 4, 4, 4, 4], [], [(-4), (-4), (-4), (-4), (-4), (-4), (-4), (-4), (-4), (-4), (-4), (-4), (-4), (-4), (-4), (-4)], [], [], [], [], [], [], [], [], [1, 1, 1, 1], [], [], [], [2, 2], [4, 4, 4, 4, 4, 4, 4, 4, 4, 4, 4, 4, 4, 4, 4, 4], [], [(-4), (-4), (-4), (-4), (-4), (-4), (-4), (-4), (-4), (-4), (-4), (-4), (-4), (-4), (-4), (-4)], [], [], [], [], [], [], [], [], [1, 1, 1, 1], [], [], [], [], [], [], [], [], [], [], [], [], [], [], [], [], [], [], [], [], [2, 2], [4, 4, 4, 4, 4, 4, 4, 4, 4, 4, 4, 4, 4, 4, 4, 4], [], [(-4), (-4), (-4), (-4), (-4), (-4), (-4), (-4), (-4), (-4), (-4), (-4), (-4), (-4), (-4), (-4)], [], [], [], [], [], [], [], [], [1, 1, 1, 1], [], [], [], [2, 2], [4, 4, 4, 4, 4, 4, 4, 4, 4, 4, 4, 4, 4, 4, 4, 4], [], [(-4), (-4), (-4), (-4), (-4), (-4), (-4), (-4), (-4), (-4), (-4), (-4), (-4), (-4), (-4), (-4)], [], [], [], [], [], [], [], [], [1, 1, 1, 1], [], [], [], [0, 0, (-4)], [], [0, 0, (-4)], [], [0, 0, (-4)], [], [0, 0, (-4)], [], [0, 2, 2], [], [1, 2, 3, 3, 0, 1, 0, 0, 0, 2, 2, (-4), 1, 2, (-4)], [], [], [], [0, 4, 7, 10, 13, 17, 21, 26, 31, 36, 39, 43, 47, 51], [115, 105, 122, 101, 108, 97, 121, 115, 111, 119, 111, 119, 110, 119, 97, 108, 108, 114, 117, 108, 101, 115, 116, 111, 99, 107, 112, 117, 114, 115, 101, 119, 104, 101, 97, 116, 114, 121, 101, 109, 111, 115, 115, 114, 111, 115, 101, 98, 101, 97, 110], [], [], [], [], [(-4), (-4), (-4), (-4)], [], []]
/-- what a fresh pair of objects holds -/
def z_iv (k j : Nat) : Int32 := (z_it.getD k []).getD j 0
def z_ckR (ρ : Nat → Nat → Option Nat) : Bool := (List.range 105).all fun k => (List.range (z_rt.getD k []).length).all fun j => match z_R0 k j with
  | some q => decide (ρ k j = some q)
  | none => true
def z_ckS (σ : Nat → Nat → Int32) : Bool := (List.range 105).all fun k => (List.range (z_sl_ k)).all fun j => decide (σ k j = z_iv k j)
theorem z_ckR_ok {ρ : Nat → Nat → Option Nat} (h : z_ckR ρ = true) : z_hR ρ := by
  intro k j q hq
  have hk : k < 105 := by
    rcases Nat.lt_or_ge k 105 with z | z
    · exact z
    · have e : z_rt.getD k [] = [] := by
        rw [List.getD_eq_getElem?_getD, List.getElem?_eq_none (by show z_rt.length ≤ k; exact z)]; rfl
      unfold z_R0 at hq
      rw [e] at hq
      cases hq
  have hj : j < (z_rt.getD k []).length := by
    rcases Nat.lt_or_ge j (z_rt.getD k []).length with z | z
    · exact z
    · unfold z_R0 at hq
      rw [List.getD_eq_getElem?_getD, List.getElem?_eq_none z] at hq
      cases hq
  have h1 := List.all_eq_true.mp h k (List.mem_range.mpr hk)
  have h2 := List.all_eq_true.mp h1 j (List.mem_range.mpr hj)
  rw [hq] at h2
  exact of_decide_eq_true h2
theorem z_ckS_ok {σ : Nat → Nat → Int32} (h : z_ckS σ = true) : ∀ k, k < 105 → ∀ j, j < z_sl_ k → σ k j = z_iv k j := fun k hk j hj => of_decide_eq_true (List.all_eq_true.mp (List.all_eq_true.mp h k (List.mem_range.mpr hk)) j (List.mem_range.mpr hj))
def z_o1 : Option (Option Value × zH) := z_y 100000 29 98 0 (lv_args 0 [.ref 0]) [] (1, z_0 (fun _ _ => 0) 0, z_0r (fun _ _ => none) 0)
def z_h1 : zH := match z_o1 with
  | some (_, h) => h
  | none => (0, fun _ _ => 0, fun _ _ => none)
def z_o2 : Option (Option Value × zH) := z_y 100000 29 148 0 (lv_args 0 [.ref 90]) [] (91, z_0 z_h1.2.1 90, z_0r z_h1.2.2 90)
def z_h2 : zH := match z_o2 with
  | some (_, h) => h
  | none => (0, fun _ _ => 0, fun _ _ => none)
def z_isv (o : Option (Option Value × zH)) (n : Nat) : Bool := match o with
  | some (none, h) => decide (h.1 = n)
  | _ => false
theorem z_o1_ok : z_isv z_o1 90 = true := by decide +kernel
theorem z_o2_ok : z_isv z_o2 105 = true := by decide +kernel
theorem z_h2_R : z_ckR z_h2.2.2 = true := by decide +kernel
theorem z_h2_S : z_ckS z_h2.2.1 = true := by decide +kernel
theorem z_isv_ok {o : Option (Option Value × zH)} {n : Nat} (h : z_isv o n = true) : ∃ σ ρ, o = some (none, (n, σ, ρ)) := by
  unfold z_isv at h
  split at h
  · rename_i h9
    obtain ⟨n9, σ, ρ⟩ := h9
    have e : n9 = n := of_decide_eq_true h
    subst e
    exact ⟨σ, ρ, rfl⟩
  · cases h
section ZI
variable {xL : Nat} {xs : Nat → Int32} {d mi pc pc' n : Nat} {L L' : List (Nat × Value)} {st st' : List Value} {h h' : zH} {e : zI} {r : Option Value × zH}
theorem z_sA (he : z_fi (z_mi mi) pc = some e) (hA : z_A (z_ml_ mi) e pc L st = some (pc', L', st')) (k : ∃ f, z_x xL xs f d mi pc' L' st' h = some r) : ∃ f, z_x xL xs f d mi pc L st h = some r := by
  obtain ⟨f, hf⟩ := k
  refine ⟨f + 1, ?_⟩
  rw [z_x, he]
  simp only [hA]
  exact hf
theorem z_sC (he : z_fi (z_mi mi) pc = some e) (hA : z_A (z_ml_ mi) e pc L st = none) (hB : z_B xL xs (z_ct mi) e st h.1 h.2.1 h.2.2 = none) (hC : z_C e st h.1 h.2.1 h.2.2 = some (st', h')) (hv : ((L.all fun q => z_av h.1 q.2) && st.all (z_av h.1)) = true) (hp : pc + z_len e = pc') (k : ∃ f, z_x xL xs f d mi pc' L st' h' = some r) : ∃ f, z_x xL xs f d mi pc L st h = some r := by
  subst hp
  obtain ⟨f, hf⟩ := k
  refine ⟨f + 1, ?_⟩
  rw [z_x, he]
  simp only [hA, hB, hC, hv, if_true]
  exact hf
theorem z_sD {mj : Nat} {as r0 : List Value} {v : Option Value} (he : z_fi (z_mi mi) pc = some e) (hA : z_A (z_ml_ mi) e pc L st = none) (hB : z_B xL xs (z_ct mi) e st h.1 h.2.1 h.2.2 = none) (hC : z_C e st h.1 h.2.1 h.2.2 = none) (hR : z_R (z_mr mi) e st = none) (hD : z_D e st h.1 = some (mj, as, r0)) (hc : ∃ f, z_x xL xs f d mj 0 (lv_args 0 as) [] h = some (v, h')) (hv : ((L.all fun q => z_av h.1 q.2) && st.all (z_av h.1)) = true) (hp : pc + 3 = pc') (k : ∃ f, z_x xL xs f (d + 1) mi pc' L (v.toList ++ r0) h' = some r) : ∃ f, z_x xL xs f (d + 1) mi pc L st h = some r := by
  subst hp
  obtain ⟨f, hf⟩ := k
  obtain ⟨f2, hf2⟩ := hc
  refine ⟨f + f2 + 1, ?_⟩
  rw [z_x, he]
  simp only [hA, hB, hC, hR, hD]
  rw [z_x_le (Nat.le_add_left f2 f) hf2]
  simp only
  rw [if_pos (Or.inr hv)]
  exact z_x_le (Nat.le_add_right f f2) hf
end ZI
set_option maxRecDepth 20000 in
set_option maxHeartbeats 4000000 in
theorem z_init (xL : Nat) (xs : Nat → Int32) : ∃ (σ0 : zS) (ρ0 : Nat → Nat → Option Nat), z_hR ρ0 ∧ (∀ k, k < 105 → ∀ j, j < z_sl_ k → σ0 k j = z_iv k j) ∧ ∀ r, (∃ f, z_x xL xs f 30 242 16 [(2, .ref 90), (1, .ref 0), (0, .ref 4000)] [] (105, σ0, ρ0) = some r) → ∃ f, z_x xL xs f 30 242 0 [(0, .ref 4000)] [] (0, fun _ _ => 0, fun _ _ => none) = some r := by
  obtain ⟨σ1, ρ1, h1⟩ := z_isv_ok z_o1_ok
  obtain ⟨σ2, ρ2, h2⟩ := z_isv_ok z_o2_ok
  have e1 : z_h1 = (90, σ1, ρ1) := by unfold z_h1; rw [h1]
  have e2 : z_h2 = (105, σ2, ρ2) := by unfold z_h2; rw [h2]
  have hR := z_ckR_ok z_h2_R
  have hS := z_ckS_ok z_h2_S
  rw [e2] at hR hS
  refine ⟨σ2, ρ2, hR, hS, fun r k => ?_⟩
  have c1 : ∃ f, z_x xL xs f 29 98 0 (lv_args 0 [.ref 0]) [] (1, z_0 (fun _ _ => 0) 0, z_0r (fun _ _ => none) 0) = some (none, (90, σ1, ρ1)) := ⟨100000, z_y_x _ _ _ _ _ _ _ _ h1⟩
  have c2 : ∃ f, z_x xL xs f 29 148 0 (lv_args 0 [.ref 90]) [] (91, z_0 σ1 90, z_0r ρ1 90) = some (none, (105, σ2, ρ2)) := by
    refine ⟨100000, z_y_x _ _ _ _ _ _ _ _ ?_⟩
    have h3 : z_o2 = some (none, (105, σ2, ρ2)) := h2
    unfold z_o2 at h3
    rw [e1] at h3
    exact h3
  refine z_sC (pc' := 3) (h' := (1, z_0 (fun _ _ => 0) 0, z_0r (fun _ _ => none) 0)) (st' := [.ref 0]) rfl rfl rfl rfl rfl rfl ?_
  refine z_sA (pc' := 4) (L' := [(0, .ref 4000)]) (st' := [.ref 0, .ref 0]) rfl rfl ?_
  refine z_sD (pc' := 7) (mj := 98) (as := [.ref 0]) (r0 := [.ref 0]) (v := none) (h' := (90, σ1, ρ1)) rfl rfl rfl rfl rfl rfl c1 rfl rfl ?_
  refine z_sA (pc' := 8) (L' := [(1, .ref 0), (0, .ref 4000)]) (st' := []) rfl rfl ?_
  refine z_sC (pc' := 11) (h' := (91, z_0 σ1 90, z_0r ρ1 90)) (st' := [.ref 90]) rfl rfl rfl rfl rfl rfl ?_
  refine z_sA (pc' := 12) (L' := [(1, .ref 0), (0, .ref 4000)]) (st' := [.ref 90, .ref 90]) rfl rfl ?_
  refine z_sD (pc' := 15) (mj := 148) (as := [.ref 90]) (r0 := [.ref 90]) (v := none) (h' := (105, σ2, ρ2)) rfl rfl rfl rfl rfl rfl c2 rfl rfl ?_
  exact z_sA (pc' := 16) (L' := [(2, .ref 90), (1, .ref 0), (0, .ref 4000)]) (st' := []) rfl rfl k
