/-! the law on the abstract machine -/
theorem z_iv_16 : ∀ c, c < 16 → (c < z_sl_ 2 ∧ z_iv 2 c = nI 4) ∧ (c < z_sl_ 3 ∧ z_iv 3 c = nI 0) ∧ (c < z_sl_ 4 ∧ z_iv 4 c = - nI 4) ∧ (c < z_sl_ 5 ∧ z_iv 5 c = nI 0) ∧ (c < z_sl_ 6 ∧ z_iv 6 c = nI 0) := by decide +kernel
theorem z_iv_4 : ∀ c, c < 4 → (c < z_sl_ 12 ∧ z_iv 12 c = nI 0) ∧ (c < z_sl_ 13 ∧ z_iv 13 c = nI 1) ∧ (c < z_sl_ 102 ∧ z_iv 102 c = - nI 4) := by decide +kernel
theorem z_iv_3 : ∀ c, c < 3 → c < z_sl_ 14 ∧ z_iv 14 c = nI 0 := by decide +kernel
theorem z_iv_110 : ∀ c, c < 110 → c < z_sl_ 91 ∧ z_iv 91 c = nI 0 := by decide +kernel
theorem z_iv_15 : ∀ c, c < 15 → c < z_sl_ 92 ∧ z_iv 92 c = if g_wt c = 9 then - nI 4 else nI (g_wt c) := by decide +kernel
theorem z_iv_c : (∀ c, c < 14 → c < z_sl_ 96) ∧ (∀ c, c < 51 → c < z_sl_ 97) := by decide +kernel
theorem z_iv_f : (z_iv 1 0 = nI 2 ∧ z_iv 1 1 = nI 2 ∧ z_iv 7 3 = nI 0 ∧ z_iv 1 7 = nI 0 ∧ z_iv 11 2 = nI 0 ∧ z_iv 1 10 = nI 0 ∧ z_iv 1 12 = nI 0) ∧ (z_iv 90 1 = nI 2 ∧ z_iv 90 2 = nI 2 ∧ z_iv 90 3 = nI 0 ∧ z_iv 0 8 = nI 0 ∧ z_iv 101 0 = nI 0 ∧ z_iv 101 1 = nI 0) ∧ (z_iv 35 1 = nI 0 ∧ z_iv 90 13 = nI 0 ∧ z_iv 44 2 = nI 0 ∧ z_iv 90 26 = nI 0) ∧ (z_iv 82 2 = - nI 4 ∧ z_iv 84 2 = - nI 4 ∧ z_iv 86 2 = - nI 4 ∧ z_iv 88 2 = - nI 4) ∧ (z_iv 0 9 = z_iv 90 14 ∧ z_iv 0 10 = z_iv 90 31) := by decide +kernel
theorem z_iv_s : 13 ≤ z_sl_ 1 ∧ 4 ≤ z_sl_ 7 ∧ 3 ≤ z_sl_ 11 ∧ 32 ≤ z_sl_ 90 ∧ 11 ≤ z_sl_ 0 ∧ 2 ≤ z_sl_ 101 ∧ 2 ≤ z_sl_ 35 ∧ 3 ≤ z_sl_ 44 ∧ 3 ≤ z_sl_ 82 ∧ 3 ≤ z_sl_ 84 ∧ 3 ≤ z_sl_ 86 ∧ 3 ≤ z_sl_ 88 := by decide +kernel
theorem z_Inv0 {σ : zS} (hv : ∀ k, k < 105 → ∀ j, j < z_sl_ k → σ k j = z_iv k j) : z_Inv σ := by
  obtain ⟨⟨f0, f1, f2, f3, f4, f5, f6⟩, ⟨g1, g2, g3, g4, g5, g6⟩, ⟨t1, t2, t3, t4⟩, ⟨s1, s2, s3, s4⟩, u1, u2⟩ := z_iv_f
  obtain ⟨l1, l2, l3, l4, l5, l6, l7, l8, l9, l10, l11, l12⟩ := z_iv_s
  refine ⟨2, 2, 0, fun _ => 0, ⟨by omega, by omega, by omega, by omega, by omega⟩, ⟨fun c hc => ⟨Nat.zero_le _, Nat.zero_le _, Nat.zero_le _, Nat.zero_le _, Nat.zero_le _⟩, (show (0 : Nat) < 2 ^ 32 by omega), fun k hk => absurd hk (by omega), fun s hs => ⟨Nat.zero_le _, Nat.zero_le _⟩, Nat.zero_le _⟩, ⟨?_, ?_, ?_, fun c hc => ?_, fun c hc => ?_, fun c hc => ?_, fun c hc => ?_, fun c hc => ?_, ?_, fun k hk => absurd hk (by omega), fun k hk => absurd hk (by omega), fun k hk => absurd hk (by omega), fun s hs => ?_, fun s hs => ?_, ?_, ?_, fun o ho => ?_, ?_⟩, fun k hk => ?_, ⟨⟨?_, ?_, ?_, fun k hk => ?_⟩, ⟨false, false, ?_, ?_, ?_, fun z => absurd z Bool.false_ne_true, fun z => absurd z Bool.false_ne_true⟩, ⟨0, by omega, ?_, ?_, fun j hj => absurd hj (by omega)⟩, ⟨0, by omega, ?_, ?_, fun j hj => absurd hj (by omega)⟩, ⟨Or.inl ⟨?_, ?_⟩, Or.inl ⟨?_, ?_⟩, Or.inl ⟨?_, ?_⟩, Or.inl ⟨?_, ?_⟩⟩, ⟨?_, ?_⟩, ⟨fun j hj => ?_, fun j hj => ?_⟩⟩, ⟨Nat.zero_le _, fun o ho => Nat.zero_le _⟩⟩
  · rw [hv 1 (by omega) 0 (by omega)]; exact f0
  · rw [hv 1 (by omega) 1 (by omega)]; exact f1
  · rw [hv 7 (by omega) 3 (by omega)]; exact f2
  · obtain ⟨⟨a1, a2⟩, -⟩ := z_iv_16 c hc
    rw [hv 2 (by omega) c a1]; exact a2
  · obtain ⟨-, ⟨a1, a2⟩, -⟩ := z_iv_16 c hc
    rw [hv 3 (by omega) c a1]; exact a2
  · obtain ⟨-, -, ⟨a1, a2⟩, -⟩ := z_iv_16 c hc
    rw [hv 4 (by omega) c a1]; exact a2
  · obtain ⟨-, -, -, ⟨a1, a2⟩, -⟩ := z_iv_16 c hc
    rw [hv 5 (by omega) c a1]; exact a2
  · obtain ⟨-, -, -, -, ⟨a1, a2⟩⟩ := z_iv_16 c hc
    rw [hv 6 (by omega) c a1]; exact a2
  · rw [hv 1 (by omega) 7 (by omega)]; exact f3
  · obtain ⟨⟨a1, a2⟩, -⟩ := z_iv_4 s hs
    rw [hv 12 (by omega) s a1]; exact a2
  · obtain ⟨-, ⟨a1, a2⟩, -⟩ := z_iv_4 s hs
    rw [hv 13 (by omega) s a1]; exact a2
  · rw [hv 11 (by omega) 2 (by omega)]; exact f4
  · rw [hv 1 (by omega) 10 (by omega)]; exact f5
  · obtain ⟨a1, a2⟩ := z_iv_3 o ho
    rw [hv 14 (by omega) o a1]; exact a2
  · rw [hv 1 (by omega) 12 (by omega)]; exact f6
  · obtain ⟨a1, a2⟩ := z_iv_110 k hk
    rw [Nat.zero_add, hv 91 (by omega) k a1]; exact a2
  · rw [hv 90 (by omega) 1 (by omega)]; exact g1
  · rw [hv 90 (by omega) 2 (by omega)]; exact g2
  · rw [hv 90 (by omega) 3 (by omega)]; exact g3
  · obtain ⟨a1, a2⟩ := z_iv_15 k hk
    rw [hv 92 (by omega) k a1]; exact a2
  · rw [hv 0 (by omega) 8 (by omega)]; exact g4
  · rw [hv 101 (by omega) 0 (by omega)]; exact g5
  · rw [hv 101 (by omega) 1 (by omega)]; exact g6
  · rw [hv 35 (by omega) 1 (by omega)]; exact t1
  · rw [hv 90 (by omega) 13 (by omega)]; exact t2
  · rw [hv 44 (by omega) 2 (by omega)]; exact t3
  · rw [hv 90 (by omega) 26 (by omega)]; exact t4
  · rw [hv 82 (by omega) 2 (by omega)]; exact s1
  · obtain ⟨-, -, ⟨a1, a2⟩⟩ := z_iv_4 0 (by omega)
    rw [hv 102 (by omega) 0 a1]; exact a2
  · rw [hv 84 (by omega) 2 (by omega)]; exact s2
  · obtain ⟨-, -, ⟨a1, a2⟩⟩ := z_iv_4 1 (by omega)
    rw [hv 102 (by omega) 1 a1]; exact a2
  · rw [hv 86 (by omega) 2 (by omega)]; exact s3
  · obtain ⟨-, -, ⟨a1, a2⟩⟩ := z_iv_4 2 (by omega)
    rw [hv 102 (by omega) 2 a1]; exact a2
  · rw [hv 88 (by omega) 2 (by omega)]; exact s4
  · obtain ⟨-, -, ⟨a1, a2⟩⟩ := z_iv_4 3 (by omega)
    rw [hv 102 (by omega) 3 a1]; exact a2
  · rw [hv 0 (by omega) 9 (by omega), hv 90 (by omega) 14 (by omega)]; exact u1
  · rw [hv 0 (by omega) 10 (by omega), hv 90 (by omega) 31 (by omega)]; exact u2
  · exact hv 96 (by omega) j (z_iv_c.1 j hj)
  · exact hv 97 (by omega) j (z_iv_c.2 j hj)
theorem z_law (L : Nat) (hL : L ≤ 320) (xs : Nat → Int32) : ∃ (f : Nat) (h' : zH), h'.1 ≤ 105 ∧ z_x L xs f 30 242 0 [(0, .ref 4000)] [] (0, fun _ _ => 0, fun _ _ => none) = some (some (.int 1), h') := by
  obtain ⟨σ0, ρ0, hR, hv, k⟩ := z_init L xs
  obtain ⟨τ, hτ⟩ := z_lawloop hL xs (z_Inv0 hv)
  have J := t_L_law_4000 (xL := L) (xs := xs) hR 16 σ0
  have E := J _ hτ _ rfl
  obtain ⟨f, hf⟩ := k (some (.int 1), (105, τ, ρ0)) (E [(2, .ref 90), (1, .ref 0), (0, .ref 4000)] (fun i v hi => by
    rcases i with _ | _ | _ | _ | i
    · exact Or.inr hi
    · exact Or.inr hi
    · exact Or.inr hi
    · exact Or.inl (Option.some.inj hi).symm
    · simp at hi))
  exact ⟨f, (105, τ, ρ0), Nat.le_refl _, hf⟩
/-- from the entry, for every script of at most 320 ints, the law comes to its end with true -/
theorem whole_start {p : Program} {e : Env} {s : State} {m : MethodId} {below : List Frame} {meth : Method} {c : Code} (l : Launch) (hflags : l.flags = flags0) {b L : Nat} {xs : Nat → Int32} (hL : L ≤ 320) (C0 : lw_At p s m meth c b L xs) : W p l e room_1 s m #[Value.ref b] below meth c s.heap [] 0 0 (lw_Z below #[Value.ref b] s) (entryFrame m ([Value.ref b] : List Value).toArray 4) :=
  z_whole l C0 (z_law L hL xs)
