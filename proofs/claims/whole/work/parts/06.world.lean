/-! the world: all cells made so far, at their addresses; what stays true of the rest -/
def z_E (ad : Nat → Nat) (ca : Nat → ClassId) (σ : Nat → Nat → Int32) (ρ : Nat → Nat → Option Nat) (k : Nat) : va_E :=
  if z_sk k = 0 then .inr (z_sc k, (List.range (z_N (z_sc k))).map (fun j => if z_rf (z_sc k) j = true then va_rf ((ρ k j).map ad) else .int (σ k j)))
  else if z_sk k = 4 then .inl (ca k, z_sl_ k, .inr (.inr (.inr (.inr (fun j => (ρ k j).map ad)))))
  else .inl (ca k, z_sl_ k, .inl (σ k))
def z_W (ad : Nat → Nat) (ca : Nat → ClassId) (n : Nat) (σ : Nat → Nat → Int32) (ρ : Nat → Nat → Option Nat) : va_W := (List.range n).map (fun k => (ad k, z_E ad ca σ ρ k))
def z_ty (k : Nat) : FieldType := if z_sk k = 1 then .int else if z_sk k = 2 then .byte else if z_sk k = 3 then .boolean else .object (z_cn (z_sc k))
theorem z_W_at {ad : Nat → Nat} {ca : Nat → ClassId} {n : Nat} {σ : Nat → Nat → Int32} {ρ : Nat → Nat → Option Nat} {k : Nat} (h : k < n) : (z_W ad ca n σ ρ)[k]? = some (ad k, z_E ad ca σ ρ k) := by
  simp [z_W, h]
theorem z_W_len {ad : Nat → Nat} {ca : Nat → ClassId} {n : Nat} {σ : Nat → Nat → Int32} {ρ : Nat → Nat → Option Nat} : (z_W ad ca n σ ρ).length = n := by
  simp [z_W]
theorem z_W_set {ad : Nat → Nat} {ca : Nat → ClassId} {n : Nat} {σ σ' : Nat → Nat → Int32} {ρ ρ' : Nat → Nat → Option Nat} {k : Nat} {E : va_E} (h : k < n) (hE : z_E ad ca σ' ρ' k = E) (hne : ∀ j, ¬ j = k → z_E ad ca σ' ρ' j = z_E ad ca σ ρ j) : (z_W ad ca n σ ρ).set k (ad k, E) = z_W ad ca n σ' ρ' := by
  subst hE
  apply List.ext_getElem?
  intro i
  rw [List.getElem?_set]
  by_cases hi : k = i
  · subst hi
    rw [if_pos rfl, z_W_len, if_pos h, z_W_at h]
  · rw [if_neg hi]
    by_cases hin : i < n
    · rw [z_W_at hin, z_W_at hin, hne i (fun e => hi e.symm)]
    · rw [List.getElem?_eq_none (by rw [z_W_len]; omega), List.getElem?_eq_none (by rw [z_W_len]; omega)]
theorem z_W_push {ad ad' : Nat → Nat} {ca ca' : Nat → ClassId} {n q : Nat} {σ σ' : Nat → Nat → Int32} {ρ ρ' : Nat → Nat → Option Nat} {E : va_E} (hq : ad' n = q) (hE : z_E ad' ca' σ' ρ' n = E) (ha : ∀ k, k < n → ad' k = ad k) (hne : ∀ k, k < n → z_E ad' ca' σ' ρ' k = z_E ad ca σ ρ k) : z_W ad ca n σ ρ ++ [(q, E)] = z_W ad' ca' (n + 1) σ' ρ' := by
  subst hq
  subst hE
  simp only [z_W, List.range_succ, List.map_append, List.map_cons, List.map_nil]
  congr 1
  apply List.map_congr_left
  intro k hk
  rw [ha k (List.mem_range.mp hk), hne k (List.mem_range.mp hk)]
theorem z_vw (ci : Nat) (h : ci < 11) : vwCl[ci]? = some (z_cn ci, z_T ci, z_N ci) := by
  rcases (by omega : ci = 0 ∨ ci = 1 ∨ ci = 2 ∨ ci = 3 ∨ ci = 4 ∨ ci = 5 ∨ ci = 6 ∨ ci = 7 ∨ ci = 8 ∨ ci = 9 ∨ ci = 10) with rfl | rfl | rfl | rfl | rfl | rfl | rfl | rfl | rfl | rfl | rfl <;> rfl
theorem z_lay (ci : Nat) (h : ci < 11) : ∀ w ∈ u_ws (z_cn ci) (z_T ci) (z_N ci), w ∈ z_gw := by
  intro w hw
  obtain ⟨k, hk, rfl⟩ := List.mem_map.mp hw
  refine List.mem_filter.mpr ⟨z_lay_ok ci h k (List.mem_range.mp hk), ?_⟩
  unfold u_lay
  split <;> rfl
def z_tf (ci k : Nat) : FieldType := (parseFieldDescriptor (z_T ci k).2.2.1).getD .int
theorem z_I : parseFieldDescriptor "I" = some .int := by decide +kernel
theorem z_tf_ok (ci : Nat) (h : ci < 11) : ∀ k, k < z_N ci → parseFieldDescriptor (z_T ci k).2.2.1 = some (z_tf ci k) := by
  intro k hk
  unfold z_tf
  rcases (z_fld_ok ci h k hk).2 with e | e
  · rw [e, z_I]; rfl
  · cases hp : parseFieldDescriptor (z_T ci k).2.2.1 with
    | none => rw [hp] at e; cases e
    | some t => rfl
/-- what holds of a frame's start -/
def z_NW (s : State) : Prop := (∀ q ∈ z_ml, (q.2.2.1 = 3 ∨ q.2.2.1 = 4) → va_Nw (.methodLinkNest (z_cn q.1) q.2.1 (z_my q.2.2.2.1) "SeasonYard") s) ∧ va_AO (z_cn 0) s ∧ va_AO (z_cn 3) s
def z_EX (ax : Nat → Nat) (zf : Value) (xL : Nat) (xs : Nat → Int32) (A : Nat → Prop) (U : State) (H : Heap) : Prop :=
  (∀ i, i < 4 → va_Z (z_sn.getD i ("", "")).1 (z_sn.getD i ("", "")).2 "[I" (.ref (ax (1000 + i))) A U H ∧ va_T .int (ax (1000 + i)) (z_sv.getD i []).length (fun j => .int ((z_sv.getD i []).getD j 0)) A U H) ∧
  va_Z "java/lang/String" "COMPACT_STRINGS" "Z" (.int 1) A U H ∧ va_Z "jdk/internal/util/Preconditions" "SIOOBE_FORMATTER" "Ljava/util/function/BiFunction;" zf A U H ∧
  vk_S 13 z_tl z_tb (fun i => ax (2000 + i)) (fun i => ax (3000 + i)) A U H ∧
  (∀ i, i < 13 → vk_R "SeasonYard$TextReader" (z_sr.getD i (0, 0, 0, 0)).2.1 (z_tx.getD i "") (ax (2000 + i)) U) ∧
  va_X (ax 4000) xL xs U H ∧ ax 4000 < H.size ∧ ¬ A (ax 4000)
def z_Fr (D : va_G) (ax : Nat → Nat) (zf : Value) (xL : Nat) (xs : Nat → Int32) (A : Nat → Prop) (args : Array Value) (s : State) : Prop :=
  (∀ w ∈ z_gw, w.before args s = true) ∧ z_NW s ∧ va_K D vwCl [] s ∧ z_EX ax zf xL xs A s s.heap ∧ (∀ q, s.heap.size ≤ q → A q) ∧ z_zf zf
def z_AT (ca : Nat → ClassId) (n : Nat) (s : State) : Prop := ∀ k, k < n → ¬ z_sk k = 0 → ArrOfT s (ca k) (z_ty k) ∧ va_RA s (ca k) (z_ty k)
def z_Wd (D : va_G) (ad : Nat → Nat) (ca : Nat → ClassId) (n : Nat) (σ : Nat → Nat → Int32) (ρ : Nat → Nat → Option Nat) (A : Nat → Prop) (s : State) (H : Heap) (locs : List Loc) : Prop :=
  va_P D vwCl (z_W ad ca n σ ρ) H ∧ va_D A (z_W ad ca n σ ρ) ∧ va_S A s.heap H locs ∧ z_AT ca n s ∧ (∀ k j r, ρ k j = some r → r < n) ∧ n ≤ 105
theorem z_K1 {D : va_G} {ca : Nat → ClassId} {n k : Nat} {s : State} (hK : va_K D vwCl [] s) (h : z_AT ca n s) (hk : k < n) (h0 : ¬ z_sk k = 0) : va_K D vwCl [(ca k, z_ty k)] s :=
  ⟨hK.1, fun i q hq => by
    match i, hq with
    | 0, hq => cases hq; exact h k hk h0
    | i + 1, hq => simp at hq⟩
theorem z_cv_in {ad ax : Nat → Nat} {zf : Value} {k : Nat} (h : k < 1000) : z_cv ad ax zf (.ref k) = .ref (ad k) := by
  simp only [z_cv, z_cvr]
  have h1 : ¬ k = 4001 := by omega
  have h2 : ¬ 1000 ≤ k := by omega
  rw [if_neg h1, if_neg h2]
theorem z_cv_out {ad ax : Nat → Nat} {zf : Value} {k : Nat} (h : 1000 ≤ k) (h2 : ¬ k = 4001) : z_cv ad ax zf (.ref k) = .ref (ax k) := by
  simp only [z_cv, z_cvr]
  rw [if_neg h2, if_pos h]
theorem z_E0 {ad : Nat → Nat} {ca : Nat → ClassId} {σ : Nat → Nat → Int32} {ρ : Nat → Nat → Option Nat} {k : Nat} (h : z_sk k = 0) : z_E ad ca σ ρ k = .inr (z_sc k, (List.range (z_N (z_sc k))).map (fun j => if z_rf (z_sc k) j = true then va_rf ((ρ k j).map ad) else .int (σ k j))) := by
  unfold z_E; rw [if_pos h]
theorem z_E4 {ad : Nat → Nat} {ca : Nat → ClassId} {σ : Nat → Nat → Int32} {ρ : Nat → Nat → Option Nat} {k : Nat} (h : z_sk k = 4) : z_E ad ca σ ρ k = .inl (ca k, z_sl_ k, .inr (.inr (.inr (.inr (fun j => (ρ k j).map ad))))) := by
  unfold z_E; rw [if_neg (by rw [h]; decide), if_pos h]
theorem z_E1 {ad : Nat → Nat} {ca : Nat → ClassId} {σ : Nat → Nat → Int32} {ρ : Nat → Nat → Option Nat} {k : Nat} (h : ¬ z_sk k = 0) (h4 : ¬ z_sk k = 4) : z_E ad ca σ ρ k = .inl (ca k, z_sl_ k, .inl (σ k)) := by
  unfold z_E; rw [if_neg h, if_neg h4]
theorem z_E_u {ad : Nat → Nat} {ca : Nat → ClassId} {σ σ' : Nat → Nat → Int32} {ρ ρ' : Nat → Nat → Option Nat} {k : Nat} (h1 : σ' k = σ k) (h2 : ρ' k = ρ k) : z_E ad ca σ' ρ' k = z_E ad ca σ ρ k := by
  unfold z_E; rw [h1, h2]
theorem z_u_ne {σ : Nat → Nat → Int32} {k j a : Nat} {x : Int32} (h : ¬ a = k) : z_u σ k j x a = σ a := by
  simp only [z_u, if_neg h]
theorem z_u_eq {σ : Nat → Nat → Int32} {k j : Nat} {x : Int32} : z_u σ k j x k = upd (σ k) j x := by
  simp only [z_u, if_true]
theorem z_ur_ne {ρ : Nat → Nat → Option Nat} {k j a : Nat} {x : Option Nat} (h : ¬ a = k) : z_ur ρ k j x a = ρ a := by
  simp only [z_ur, if_neg h]
theorem z_ur_eq {ρ : Nat → Nat → Option Nat} {k j : Nat} {x : Option Nat} : z_ur ρ k j x k = va_up (ρ k) j x := by
  simp only [z_ur, if_true]
/-- an object's fields, one of them changed -/
theorem z_fs_i {ad : Nat → Nat} {ci N k b : Nat} {σ : Nat → Nat → Int32} {ρ : Nat → Nat → Option Nat} {x : Int32} (hr : z_rf ci b = false) : ((List.range N).map (fun j => if z_rf ci j = true then va_rf ((ρ k j).map ad) else .int (σ k j))).set b (.int x) = (List.range N).map (fun j => if z_rf ci j = true then va_rf ((ρ k j).map ad) else .int (z_u σ k b x k j)) := by
  apply List.ext_getElem?
  intro i
  rw [List.getElem?_set]
  by_cases hi : b = i
  · subst hi
    rw [if_pos rfl]
    by_cases hb : b < N
    · simp [hb, hr, z_u, upd]
    · rw [if_neg (by simpa using hb), List.getElem?_eq_none (by simp; omega)]
  · rw [if_neg hi]
    by_cases hb : i < N
    · have e : z_u σ k b x k i = σ k i := by simp [z_u, upd, Ne.symm hi]
      simp [hb, e]
    · rw [List.getElem?_eq_none (by simp; omega), List.getElem?_eq_none (by simp; omega)]
theorem z_fs_r {ad : Nat → Nat} {ci N k b q : Nat} {σ : Nat → Nat → Int32} {ρ : Nat → Nat → Option Nat} (hr : z_rf ci b = true) : ((List.range N).map (fun j => if z_rf ci j = true then va_rf ((ρ k j).map ad) else .int (σ k j))).set b (.ref (ad q)) = (List.range N).map (fun j => if z_rf ci j = true then va_rf ((z_ur ρ k b (some q) k j).map ad) else .int (σ k j)) := by
  apply List.ext_getElem?
  intro i
  rw [List.getElem?_set]
  by_cases hi : b = i
  · subst hi
    rw [if_pos rfl]
    by_cases hb : b < N
    · simp [hb, hr, z_ur, va_up, va_rf]
    · rw [if_neg (by simpa using hb), List.getElem?_eq_none (by simp; omega)]
  · rw [if_neg hi]
    by_cases hb : i < N
    · have e : z_ur ρ k b (some q) k i = ρ k i := by simp [z_ur, va_up, Ne.symm hi]
      simp [hb, e]
    · rw [List.getElem?_eq_none (by simp; omega), List.getElem?_eq_none (by simp; omega)]
theorem z_rf_I {ci k : Nat} (h : z_rf ci k = false) : (z_T ci k).2.2.1 = "I" := by
  simpa [z_rf] using h
theorem z_rf_R {ci k : Nat} (h : z_rf ci k = true) : ¬ (z_T ci k).2.2.1 = "I" := by
  simpa [z_rf] using h
theorem z_any {α : Type} {l : List α} {f : α → Bool} (h : l.any f = true) : ∃ q ∈ l, f q = true := List.any_eq_true.mp h
