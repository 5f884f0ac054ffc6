/-! the text: what stands between lines -/
def tx_J (j : Nat) : Prop := j = 1 ∨ j = 2 ∨ j = 3 ∨ j = 4 ∨ j = 6
def tx_SY (x : zS) (b : Nat → Nat) (L W H R : Nat) (p t : Nat → Nat) (c0 c7 n : Nat) : Prop := hg_G17 x p W H R ∧ tx_Y x b L ∧ x 37 5 = nI n ∧ x 38 0 = nI c0 ∧ x 38 7 = nI c7 ∧ ∀ j, tx_J j → x 38 j = nI (t j)
def tx_SM (y : zS) (b : Nat → Nat) (L W H R : Nat) (p t : Nat → Nat) (o m : Nat) : Prop := tx_M y b L ∧ y 90 9 = nI o ∧ (∀ j, tx_J j → y 94 j = nI (t j)) ∧ (∀ k, k < 110 → y 93 k = nI (p k)) ∧ y 90 6 = nI W ∧ y 90 7 = nI H ∧ y 90 8 = nI R ∧ y 90 11 = nI m - nI 1
def tx_SP (W H R : Nat) (p t : Nat → Nat) (o m : Nat) : Prop := hg_D W H R ∧ hg_V p R ∧ hg_B p ∧ (∀ c, c < 16 → p (5 * c + 3) = 0) ∧ o < 2 ^ 8 ∧ (∀ j, tx_J j → t j < 2 ^ 32) ∧ t 4 = p 80 ∧ m ≤ 16 ∧ (t 1 ||| t 2 ||| t 3) < 2 ^ m ∧ (m = 0 ∨ 2 ^ (m - 1) ≤ t 1 ||| t 2 ||| t 3)
def tx_b (o i : Nat) : Nat := if o.testBit i = true then 1 else 0
def tyF (x x' : zS) : Prop := ∀ q, (q < 17 ∨ 30 < q) → q ≠ 37 → q ≠ 38 → q ≠ 39 → q ≠ 40 → x' q = x q
def tmF (y y' : zS) : Prop := (∀ q, q ≠ 90 → q ≠ 93 → q ≠ 94 → y' q = y q) ∧ ∀ j, (j < 6 ∨ j = 10 ∨ j = 12 ∨ j = 13 ∨ j = 14 ∨ 20 < j) → y' 90 j = y 90 j
theorem tyF_t {x s u : zS} (h : tyF x s) (h2 : tyF s u) : tyF x u := fun q a b c d e => by rw [h2 q a b c d e, h q a b c d e]
theorem tmF_t {y s u : zS} (h : tmF y s) (h2 : tmF s u) : tmF y u := ⟨fun q a b c => by rw [h2.1 q a b c, h.1 q a b c], fun j a => by rw [h2.2 j a, h.2 j a]⟩
theorem tyF_r (x : zS) : tyF x x := fun _ _ _ _ _ _ => rfl
theorem tmF_r (y : zS) : tmF y y := ⟨fun _ _ _ _ => rfl, fun _ _ => rfl⟩
theorem tmF_fr {y s : zS} (h : tx_fr y s) : tmF y s := ⟨fun q a _ _ => h.1 q a, fun j a => h.2 j (by omega)⟩
theorem tyF_fr {x s : zS} (h : ty_fr x s) : tyF x s := fun q _ a _ c d => h.1 q a c d
theorem tmF_u93 {y s : zS} {j : Nat} {v : Int32} (h : tmF y s) : tmF y (z_u s 93 j v) := ⟨fun q a b c => by rw [hg_u_n b]; exact h.1 q a b c, fun i a => by rw [hg_u_n (by omega)]; exact h.2 i a⟩
theorem tmF_u94 {y s : zS} {j : Nat} {v : Int32} (h : tmF y s) : tmF y (z_u s 94 j v) := ⟨fun q a b c => by rw [hg_u_n c]; exact h.1 q a b c, fun i a => by rw [hg_u_n (by omega)]; exact h.2 i a⟩
theorem tmF_u90 {y s : zS} {j : Nat} {v : Int32} (h : tmF y s) (h2 : j = 6 ∨ j = 7 ∨ j = 8 ∨ j = 9 ∨ j = 11) : tmF y (z_u s 90 j v) := ⟨fun q a b c => by rw [hg_u_n a]; exact h.1 q a b c, fun i a => by rw [hg_u_j (by omega)]; exact h.2 i a⟩
theorem tm_bk_93 {y : zS} {w f j : Nat} {v : Int32} (h : tm_bk y w f) : tm_bk (z_u y 93 j v) w f := by
  obtain ⟨a, b, c, d, e⟩ := h
  exact ⟨a, b, c, by rw [hg_u_n (by omega)]; exact d, by rw [hg_u_n (by omega)]; exact e⟩
theorem tm_bk_94 {y : zS} {w f j : Nat} {v : Int32} (h : tm_bk y w f) : tm_bk (z_u y 94 j v) w f := by
  obtain ⟨a, b, c, d, e⟩ := h
  exact ⟨a, b, c, by rw [hg_u_n (by omega)]; exact d, by rw [hg_u_n (by omega)]; exact e⟩
theorem tm_bk_90 {y : zS} {w f j : Nat} {v : Int32} (h : tm_bk y w f) (hj : j < 15) : tm_bk (z_u y 90 j v) w f := by
  obtain ⟨a, b, c, d, e⟩ := h
  exact ⟨a, b, c, by rw [hg_u_j (by omega)]; exact d, by rw [hg_u_j (by omega)]; exact e⟩
theorem tm_otherK {y : zS} {w f : Nat} {a1 a2 a3 : Int32} (h : tm_bk y w f) : f_M_other a1 a2 a3 y = some (a1, y) := tm_otherB h.2.2.2.1 (by have := h.1; omega) (by have := h.2.1; omega)
theorem tk_93 {y : zS} {f e k v j : Nat} {z : Int32} (h : tx_tk y f e k v) : tx_tk (z_u y 93 j z) f e k v := by
  unfold tx_tk at *
  rw [hg_u_n (by omega)]
  exact h
theorem tk_94 {y : zS} {f e k v j : Nat} {z : Int32} (h : tx_tk y f e k v) : tx_tk (z_u y 94 j z) f e k v := by
  unfold tx_tk at *
  rw [hg_u_n (by omega)]
  exact h
theorem tk_90 {y : zS} {f e k v j : Nat} {z : Int32} (h : tx_tk y f e k v) (hj : j < 15) : tx_tk (z_u y 90 j z) f e k v := by
  unfold tx_tk at *
  rw [hg_u_j (by omega), hg_u_j (by omega), hg_u_j (by omega), hg_u_j (by omega), hg_u_j (by omega), hg_u_j (by omega)]
  exact h
section SS
variable {b : Nat → Nat} {L W H R : Nat} {p t : Nat → Nat} {o m c0 c7 n : Nat}
theorem tx_SY_c {x s : zS} (h : tx_SY x b L W H R p t c0 c7 n) (e : ∀ q, 17 ≤ q → q ≤ 38 → q ≠ 37 → s q = x q) (e5 : s 37 5 = x 37 5) : tx_SY s b L W H R p t c0 c7 n := by
  obtain ⟨h1, h2, h3, h4, h5, h6⟩ := h
  refine ⟨hg_G17_c h1 (fun k a c => e k a (by omega) (by omega)), tx_Y_c h2 (e 35 (by omega) (by omega) (by omega)) (e 36 (by omega) (by omega) (by omega)), by rw [e5]; exact h3, ?_, ?_, fun j hj => ?_⟩
  · rw [e 38 (by omega) (by omega) (by omega)]; exact h4
  · rw [e 38 (by omega) (by omega) (by omega)]; exact h5
  · rw [e 38 (by omega) (by omega) (by omega)]; exact h6 j hj
theorem tx_SY_fr {x s : zS} (h : tx_SY x b L W H R p t c0 c7 n) (e : ty_fr x s) : tx_SY s b L W H R p t c0 c7 n :=
  tx_SY_c h (fun q a c d => e.1 q d (by omega) (by omega)) (e.2 5 (by omega) (by omega))
theorem tx_SM_fr {y s : zS} (h : tx_SM y b L W H R p t o m) (e : tx_fr y s) : tx_SM s b L W H R p t o m := by
  obtain ⟨h1, h2, h3, h4, h5, h6, h7, h8⟩ := h
  unfold tx_SM
  rw [e.2 9 (by omega), e.2 6 (by omega), e.2 7 (by omega), e.2 8 (by omega), e.2 11 (by omega), e.1 94 (by omega), e.1 93 (by omega)]
  exact ⟨tx_M_fr h1 e, h2, h3, h4, h5, h6, h7, h8⟩
theorem tx_SM_p {y : zS} {i v : Nat} (h : tx_SM y b L W H R p t o m) : tx_SM (z_u y 93 i (nI v)) b L W H R (g_up p i v) t o m := by
  obtain ⟨h1, h2, h3, h4, h5, h6, h7, h8⟩ := h
  unfold tx_SM
  rw [hg_u_n (show (90 : Nat) ≠ 93 by omega), hg_u_n (show (94 : Nat) ≠ 93 by omega)]
  refine ⟨tx_M_c h1 (by rw [hg_u_n (by omega)]) (hg_u_n (by omega)) (hg_u_n (by omega)) (hg_u_n (by omega)), h2, h3, fun k hk => ?_, h5, h6, h7, h8⟩
  by_cases c : k = i
  · rw [c, hg_u_s, g_up_s]
  · rw [hg_u_j c, g_up_n c]; exact h4 k hk
theorem tx_SM_e {y : zS} {p' : Nat → Nat} (h : tx_SM y b L W H R p t o m) (e : ∀ k, k < 110 → p' k = p k) : tx_SM y b L W H R p' t o m := by
  obtain ⟨h1, h2, h3, h4, h5, h6, h7, h8⟩ := h
  exact ⟨h1, h2, h3, fun k hk => by rw [e k hk]; exact h4 k hk, h5, h6, h7, h8⟩
theorem tx_SM_W {y : zS} {v : Nat} (h : tx_SM y b L W H R p t o m) : tx_SM (z_u y 90 6 (nI v)) b L v H R p t o m := by
  obtain ⟨h1, h2, h3, h4, h5, h6, h7, h8⟩ := h
  unfold tx_SM
  rw [hg_u_n (show (93 : Nat) ≠ 90 by omega), hg_u_n (show (94 : Nat) ≠ 90 by omega), hg_u_s, hg_u_j (by omega), hg_u_j (by omega), hg_u_j (by omega), hg_u_j (by omega)]
  exact ⟨tx_M_c h1 (by rw [hg_u_j (by omega)]) (hg_u_n (by omega)) (hg_u_n (by omega)) (hg_u_n (by omega)), h2, h3, h4, rfl, h6, h7, h8⟩
theorem tx_SM_H {y : zS} {v : Nat} (h : tx_SM y b L W H R p t o m) : tx_SM (z_u y 90 7 (nI v)) b L W v R p t o m := by
  obtain ⟨h1, h2, h3, h4, h5, h6, h7, h8⟩ := h
  unfold tx_SM
  rw [hg_u_n (show (93 : Nat) ≠ 90 by omega), hg_u_n (show (94 : Nat) ≠ 90 by omega), hg_u_s, hg_u_j (by omega), hg_u_j (by omega), hg_u_j (by omega), hg_u_j (by omega)]
  exact ⟨tx_M_c h1 (by rw [hg_u_j (by omega)]) (hg_u_n (by omega)) (hg_u_n (by omega)) (hg_u_n (by omega)), h2, h3, h4, h5, rfl, h7, h8⟩
theorem tx_SM_R {y : zS} {v : Nat} (h : tx_SM y b L W H R p t o m) : tx_SM (z_u y 90 8 (nI v)) b L W H v p t o m := by
  obtain ⟨h1, h2, h3, h4, h5, h6, h7, h8⟩ := h
  unfold tx_SM
  rw [hg_u_n (show (93 : Nat) ≠ 90 by omega), hg_u_n (show (94 : Nat) ≠ 90 by omega), hg_u_s, hg_u_j (by omega), hg_u_j (by omega), hg_u_j (by omega), hg_u_j (by omega)]
  exact ⟨tx_M_c h1 (by rw [hg_u_j (by omega)]) (hg_u_n (by omega)) (hg_u_n (by omega)) (hg_u_n (by omega)), h2, h3, h4, h5, h6, rfl, h8⟩
theorem tx_SM_o {y : zS} {v : Nat} (h : tx_SM y b L W H R p t o m) : tx_SM (z_u y 90 9 (nI v)) b L W H R p t v m := by
  obtain ⟨h1, h2, h3, h4, h5, h6, h7, h8⟩ := h
  unfold tx_SM
  rw [hg_u_n (show (93 : Nat) ≠ 90 by omega), hg_u_n (show (94 : Nat) ≠ 90 by omega), hg_u_s, hg_u_j (by omega), hg_u_j (by omega), hg_u_j (by omega), hg_u_j (by omega)]
  exact ⟨tx_M_c h1 (by rw [hg_u_j (by omega)]) (hg_u_n (by omega)) (hg_u_n (by omega)) (hg_u_n (by omega)), rfl, h3, h4, h5, h6, h7, h8⟩
/-- what a line leaves behind -/
def tx_O (b : Nat → Nat) (L n u : Nat) (x' y' : zS) (g : Int32) : Prop := (g = 0 ∧ ∃ w f, ty_bk x' w f ∧ tm_bk y' w f) ∨ (g = 1 ∧ ∃ W H R p t o m u' f e k v, tx_SP W H R p t o m ∧ tx_SY x' b L W H R p t (tx_b o 0) (tx_b o 7) (n + 1) ∧ tx_SM y' b L W H R p t o m ∧ x' 37 6 = nI 0 ∧ x' 40 4 = nI u' ∧ u < u' ∧ u' ≤ L ∧ tx_T b L u' f e k v ∧ tx_tk y' f e k v)
theorem tx_bad {x s y y' : zS} {l m' i w f u : Nat} (hl : l < 8) (hm : (z_sv.getD 1 []).getD l 0 = nI m') (hm3 : m' ≤ 3) (hi : i ≤ m') (h1 : ty_bk s w f) (h2 : tm_bk y' w f) (h3 : tyF x s) (h4 : tmF y y') : ∃ g x' z, (z_loop (ty_ls l) (nI i, s)).bind (ty_lc l) = some (g, x') ∧ tm_fc y' = some z ∧ tyF x x' ∧ tmF y z ∧ tx_O b L n u x' z g := by
  rw [ty_ls_bad hl hm hm3 hi h1, z_bs, ty_lc_bad h1, tm_fc_bad h2]
  exact ⟨_, _, _, rfl, rfl, h3, h4, Or.inl ⟨rfl, w, f, h1, h2⟩⟩
theorem tx_tail {x s y y3 : zS} {l m' u u3 f e k v : Nat} (hl : l < 8) (hm : (z_sv.getD 1 []).getD l 0 = nI m') (hm3 : m' ≤ 3) (hY : tx_Y s b L) (h0 : s 37 6 = nI 0) (hu : s 40 4 = nI u3) (hu3 : u ≤ u3) (hT : tx_T b L u3 f e k v) (hK : tx_tk y3 f e k v) (hP : tx_SP W H R p t o m) (hM : tx_SM y3 b L W H R p t o m) (hF : tyF x s) (hG : tmF y y3) (hk : ∀ s1, s1 40 4 = nI e → (∀ q, q ≠ 40 → s1 q = s q) → ∃ s2, f_Tr_take_37 (nI l) s1 = some s2 ∧ s2 40 = s1 40 ∧ s2 37 = s1 37 ∧ tx_SY s2 b L W H R p t (tx_b o 0) (tx_b o 7) n ∧ tyF s1 s2) : ∃ g x' z, (z_loop (ty_ls l) (nI m', s)).bind (ty_lc l) = some (g, x') ∧ tm_fc y3 = some z ∧ tyF x x' ∧ tmF y z ∧ tx_O b L n u x' z g := by
  rw [ty_ls_end hl hm rfl hm3, z_bs]
  obtain ⟨f1, f2, f3, f4, f5, f6, f7⟩ := tx_T_f hT
  by_cases c : k = 3
  · subst c
    obtain ⟨s1, a1, a2, a3⟩ := ty_lc_good (l := l) (n := n) hY h0 hu hT
    obtain ⟨s2, b1, b2, b3, b4, b5⟩ := hk s1 a1 a2
    obtain ⟨y', f', e', k', v', d1, d2, d3, d4⟩ := tm_fc_good hM.1 hK hT
    have z6 : s2 37 6 = nI 0 := by rw [b3, a2 37 (by omega)]; exact h0
    rw [a3 s2 b1 z6 b4.2.2.1, d1]
    refine ⟨_, _, _, rfl, rfl, ?_, tmF_t hG (tmF_fr d4), Or.inr ⟨rfl, W, H, R, p, t, o, m, e, f', e', k', v', hP, ?_, tx_SM_fr hM d4, ?_, ?_, by omega, f3, d2, d3⟩⟩
    · intro q q1 q2 q3 q4 q5
      rw [hg_u_n q2, b5 q q1 q2 q3 q4 q5, a2 q q5, hF q q1 q2 q3 q4 q5]
    · obtain ⟨g1, g2, g3, g4, g5, g6⟩ := b4
      exact ⟨hg_G17_c g1 (fun q _ _ => hg_u_n (by omega)), tx_Y_c g2 (hg_u_n (by omega)) (hg_u_n (by omega)), hg_u_s, by rw [hg_u_n (by omega)]; exact g4, by rw [hg_u_n (by omega)]; exact g5, fun j hj => by rw [hg_u_n (by omega)]; exact g6 j hj⟩
    · rw [hg_u_j (by omega)]; exact z6
    · rw [hg_u_n (by omega), b2]; exact a1
  · obtain ⟨s', a1, a2, a3⟩ := ty_lc_semi (l := l) hY h0 hu hT c
    obtain ⟨y', d1, d2, d3⟩ := tm_fc_semi hM.1 hK hT c
    rw [a1, d1]
    exact ⟨_, _, _, rfl, rfl, tyF_t hF (fun q _ q2 _ _ q5 => a3 q q2 q5), tmF_t hG (tmF_fr d3), Or.inl ⟨rfl, _, f, a2, d2⟩⟩
def tx_mx (l m v : Nat) : Nat := if l < 4 ∧ m < v + 1 then v + 1 else m
theorem tm_fresh {y : zS} {l hi f e k v u : Nat} (hj : tx_J l) (hP : tx_SP W H R p t o m) (hM : tx_SM y b L W H R p t o m) (hK : tx_tk y f e k v) (hT : tx_T b L u f e k v) (hhi : hi < 32) : ∃ r y', f_M_fresh (nI l) (nI hi) y = some (nI r, y') ∧ tmF y y' ∧ (¬ tx_q k 0 hi (t l) v = 0 → (r = 0 ∧ ∀ j, (j = 17 ∨ j = 18 ∨ j = 19) → y' 90 j = y 90 j) ∧ tm_bk y' (tx_q k 0 hi (t l) v) f) ∧ (tx_q k 0 hi (t l) v = 0 → r = v ∧ tx_SM y' b L W H R p (g_up t l (t l ||| 2 ^ v)) o (tx_mx l m v) ∧ ∃ f' e' k' v', tx_T b L e f' e' k' v' ∧ tx_tk y' f' e' k' v') := by
  obtain ⟨P1, P2, P3, P4, P5, P6, P7, P8, P9, P10⟩ := id hP
  obtain ⟨h1, h2, h3, h4, h5, h6, h7, h8⟩ := id hM
  obtain ⟨r, y', a1, a2, a3, a4⟩ := tm_other (lo := 0) (hi := hi) (s := t l) h1 hK hT (by omega) (by omega) (P6 l hj)
  obtain ⟨f1, f2, f3, f4, f5, f6, f7⟩ := tx_T_f hT
  have hl : l < 8 := by unfold tx_J at hj; omega
  have hr : r < 32 := by
    by_cases c : tx_q k 0 hi (t l) v = 0
    · have := (a4 c).1
      unfold tx_q at c
      by_cases c4 : k = 4
      · rw [if_pos c4] at c; omega
      · rw [if_neg c4] at c
        by_cases c2 : k = 2
        · rw [if_neg (fun z => z c2)] at c
          by_cases c3 : 0 ≤ v ∧ v ≤ hi
          · omega
          · rw [if_pos c3] at c; omega
        · rw [if_pos c2] at c; omega
    · have := (a3 c).1.1
      omega
  unfold f_M_fresh
  rw [if_pos ((z_ibn (by omega)).mpr hl), nI_clamp (by omega), h3 l hj, show f_M_other (0 : Int32) (nI hi) (nI (t l)) y = some (nI r, y') from a1, z_bs, if_pos ((z_ibn (by omega)).mpr hl), if_pos ((z_ibn (by omega)).mpr hl)]
  dsimp only
  rw [z_let_e, a2.1 94 (by omega), h3 l hj, show ((1 : Int32) <<< (nI r &&& 31)) = nI (2 ^ r) from z_shl hr, z_or, hg_u_n (by omega), a2.2 11 (by omega), h8]
  have hmi : (nI m - nI 1).toInt = (m : Int) - 1 := by
    rcases Nat.eq_zero_or_pos m with z | z
    · subst z; rfl
    · rw [pk_sub z, nI_toInt (by omega)]; omega
  rw [hg_join_to (x := nI (tx_mx l m r) - nI 1) (fun j => by
    rw [z_join_e]
    unfold tx_mx
    by_cases c4 : l < 4
    · rw [show (4 : Int32) = nI 4 from rfl, if_neg (nI_ge c4 (by omega))]
      by_cases cm : m < r + 1
      · rw [show (if l < 4 ∧ m < r + 1 then r + 1 else m) = r + 1 from if_pos ⟨c4, cm⟩, show nI (r + 1) - nI 1 = nI r by rw [pk_sub (by omega)]; rfl]
        by_cases ce : r ≤ (nI m - nI 1).toInt.toNat ∧ 0 ≤ (nI m - nI 1).toInt
        · omega
        · rw [if_neg (show ¬ nI r ≤ nI m - nI 1 by rw [Int32.le_iff_toInt_le, hmi, nI_toInt (by omega)]; omega)]
      · rw [show (if l < 4 ∧ m < r + 1 then r + 1 else m) = m from if_neg (fun z => cm z.2), if_pos (show nI r ≤ nI m - nI 1 by rw [Int32.le_iff_toInt_le, hmi, nI_toInt (by omega)]; omega)]
    · rw [show (4 : Int32) = nI 4 from rfl, if_pos (nI_le (show 4 ≤ l by omega) (by omega)), show (if l < 4 ∧ m < r + 1 then r + 1 else m) = m from if_neg (fun z => c4 z.1)])]
  rw [z_let_e]
  refine ⟨r, _, rfl, tmF_u90 (tmF_u94 (tmF_fr a2)) (by omega), fun c => ⟨⟨(a3 c).1.1, fun j hj => by rw [hg_u_j (by omega), hg_u_n (by omega)]; exact (a3 c).1.2 j hj⟩, tm_bk_90 (tm_bk_94 (a3 c).2) (by omega)⟩, fun c => ?_⟩
  obtain ⟨b1, f', e', k', v', b2, b3⟩ := a4 c
  subst b1
  refine ⟨rfl, ?_, f', e', k', v', b2, tk_90 (tk_94 b3) (by omega)⟩
  obtain ⟨g1, g2, g3, g4, g5, g6, g7, g8⟩ := tx_SM_fr hM a2
  refine ⟨tx_M_c g1 (by rw [hg_u_j (by omega), hg_u_n (by omega)]) (by rw [hg_u_n (by omega), hg_u_n (by omega)]) (by rw [hg_u_n (by omega), hg_u_n (by omega)]) (by rw [hg_u_n (by omega), hg_u_n (by omega)]), ?_, fun j hj' => ?_, fun q hq => ?_, ?_, ?_, ?_, ?_⟩
  · rw [hg_u_j (by omega), hg_u_n (by omega)]; exact g2
  · rw [hg_u_n (by omega)]
    by_cases z : j = l
    · rw [z, hg_u_s, g_up_s]
    · rw [hg_u_j z, g_up_n z]; exact g3 j hj'
  · rw [hg_u_n (by omega), hg_u_n (by omega)]; exact g4 q hq
  · rw [hg_u_j (by omega), hg_u_n (by omega)]; exact g5
  · rw [hg_u_j (by omega), hg_u_n (by omega)]; exact g6
  · rw [hg_u_j (by omega), hg_u_n (by omega)]; exact g7
  · rw [hg_u_s]
theorem tx_q_0 {k lo hi s v : Nat} (h : tx_q k lo hi s v = 0) : k = 2 ∧ lo ≤ v ∧ v ≤ hi ∧ ¬ (v < 32 ∧ s.testBit v = true) := by
  unfold tx_q at h
  by_cases c4 : k = 4
  · rw [if_pos c4] at h; omega
  · rw [if_neg c4] at h
    by_cases c2 : k = 2
    · rw [if_neg (fun z => z c2)] at h
      by_cases c3 : lo ≤ v ∧ v ≤ hi
      · rw [if_neg (fun z => z c3)] at h
        by_cases c5 : v < 32 ∧ s.testBit v = true
        · rw [if_pos c5] at h; omega
        · exact ⟨c2, c3.1, c3.2, c5⟩
      · rw [if_pos c3] at h; omega
    · rw [if_pos c2] at h; omega
theorem tx_or3 {a c d v m : Nat} {l : Nat} (h : (a ||| c ||| d) < 2 ^ m) (h2 : m = 0 ∨ 2 ^ (m - 1) ≤ a ||| c ||| d) (z : Nat) (hz : z = (a ||| c ||| d) ||| 2 ^ v) (hl : l < 4) : z < 2 ^ (tx_mx l m v) ∧ (tx_mx l m v = 0 ∨ 2 ^ (tx_mx l m v - 1) ≤ z) := by
  subst hz
  unfold tx_mx
  have l1 : (a ||| c ||| d) ≤ (a ||| c ||| d) ||| 2 ^ v := Nat.left_le_or
  have l2 : 2 ^ v ≤ (a ||| c ||| d) ||| 2 ^ v := Nat.right_le_or
  by_cases cm : m < v + 1
  · rw [if_pos ⟨hl, cm⟩]
    refine ⟨Nat.or_lt_two_pow (Nat.lt_of_lt_of_le h (Nat.pow_le_pow_right (by omega) (by omega))) (Nat.pow_lt_pow_right (by omega) (by omega)), Or.inr ?_⟩
    rw [show v + 1 - 1 = v by omega]
    exact l2
  · rw [if_neg (fun z => cm z.2)]
    refine ⟨Nat.or_lt_two_pow h (Nat.pow_lt_pow_right (by omega) (by omega)), ?_⟩
    rcases h2 with h2 | h2
    · exact Or.inl h2
    · exact Or.inr (Nat.le_trans h2 l1)
/-- a cell told -/
theorem tx_SP_t {l v : Nat} (hP : tx_SP W H R p t o m) (hl : l = 1 ∨ l = 2 ∨ l = 3) (hv : v ≤ 15) : tx_SP W H R p (g_up t l (t l ||| 2 ^ v)) o (tx_mx l m v) := by
  obtain ⟨P1, P2, P3, P4, P5, P6, P7, P8, P9, P10⟩ := hP
  obtain ⟨w1, w2⟩ := tx_or3 (l := l) (v := v) P9 P10 (g_up t l (t l ||| 2 ^ v) 1 ||| g_up t l (t l ||| 2 ^ v) 2 ||| g_up t l (t l ||| 2 ^ v) 3) (by
    rcases hl with rfl | rfl | rfl
    · rw [g_up_s, g_up_n (by omega), g_up_n (by omega), Nat.or_assoc, Nat.or_assoc, Nat.or_assoc, Nat.or_assoc, Nat.or_comm (2 ^ v), Nat.or_assoc]
    · rw [g_up_s, g_up_n (by omega), g_up_n (by omega), Nat.or_assoc, Nat.or_assoc, Nat.or_assoc, Nat.or_assoc, Nat.or_comm (2 ^ v)]
    · rw [g_up_s, g_up_n (by omega), g_up_n (by omega), Nat.or_assoc, Nat.or_assoc, Nat.or_assoc]) (by omega)
  refine ⟨P1, P2, P3, P4, P5, fun j hj => ?_, by rw [g_up_n (by omega)]; exact P7, by unfold tx_mx; split <;> omega, w1, w2⟩
  by_cases z : j = l
  · rw [z, g_up_s]
    exact hg_or_lt (P6 l (z ▸ hj)) (by omega)
  · rw [g_up_n z]; exact P6 j hj
end SS
