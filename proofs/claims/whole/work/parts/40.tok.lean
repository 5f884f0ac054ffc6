/-! the text: tokens -/
def tx_e (b : Nat → Nat) (L lo hi t e : Nat) : Prop := t ≤ e ∧ e ≤ L ∧ (∀ i, t ≤ i → i < e → lo ≤ b i ∧ b i ≤ hi) ∧ (e = L ∨ ¬ (lo ≤ b e ∧ b e ≤ hi))
theorem tx_e_ex {b : Nat → Nat} {L lo hi : Nat} : ∀ (n t : Nat), L = t + n → ∃ e, tx_e b L lo hi t e := by
  intro n
  induction n with
  | zero => intro t h; exact ⟨t, Nat.le_refl _, by omega, fun i a c => by omega, Or.inl (by omega)⟩
  | succ n ih =>
    intro t h
    by_cases c : lo ≤ b t ∧ b t ≤ hi
    · obtain ⟨e, e1, e2, e3, e4⟩ := ih (t + 1) (by omega)
      refine ⟨e, by omega, e2, fun i a d => ?_, e4⟩
      by_cases z : i = t
      · rw [z]; exact c
      · exact e3 i (by omega) d
    · exact ⟨t, Nat.le_refl _, by omega, fun i a c => by omega, Or.inr c⟩
theorem tx_e_ex' {b : Nat → Nat} {L lo hi t : Nat} (h : t ≤ L) : ∃ e, tx_e b L lo hi t e := tx_e_ex (L - t) t (by omega)
/-- the number told by the first digits -/
def tx_n (b : Nat → Nat) (f i : Nat) : Nat := if i = 0 then 0 else if i = 1 then b f - 48 else 10 * (b f - 48) + b (f + 1) - 48
/-- the token from a place: where it starts, ends, its kind (0 end, 1 name, 2 number, 3 semicolon, 4 wrong), its value -/
def tx_T (b : Nat → Nat) (L t f e k v : Nat) : Prop := tx_e b L 32 32 t f ∧ ((k = 0 ∧ f = L ∧ e = f) ∨ (f < L ∧ ((k = 3 ∧ b f = 59 ∧ e = f + 1) ∨ (k = 1 ∧ 97 ≤ b f ∧ b f ≤ 122 ∧ tx_e b L 97 122 f e) ∨ (48 ≤ b f ∧ b f ≤ 57 ∧ tx_e b L 48 57 f e ∧ ((k = 2 ∧ e - f ≤ 2 ∧ v = tx_n b f (e - f)) ∨ (k = 4 ∧ 2 < e - f))) ∨ (k = 4 ∧ ¬ b f = 59 ∧ ¬ (97 ≤ b f ∧ b f ≤ 122) ∧ ¬ (48 ≤ b f ∧ b f ≤ 57) ∧ e = f + 1))))
theorem tx_T_ex {b : Nat → Nat} {L t : Nat} (h : t ≤ L) : ∃ f e k v, tx_T b L t f e k v := by
  obtain ⟨f, hf⟩ := tx_e_ex' (b := b) (lo := 32) (hi := 32) h
  have hf2 := hf.2.1
  by_cases c0 : f = L
  · exact ⟨f, f, 0, 0, hf, Or.inl ⟨rfl, c0, rfl⟩⟩
  · have hl : f < L := by omega
    by_cases c1 : b f = 59
    · exact ⟨f, f + 1, 3, 0, hf, Or.inr ⟨hl, Or.inl ⟨rfl, c1, rfl⟩⟩⟩
    · by_cases c2 : 97 ≤ b f ∧ b f ≤ 122
      · obtain ⟨e, he⟩ := tx_e_ex' (b := b) (lo := 97) (hi := 122) hf2
        exact ⟨f, e, 1, 0, hf, Or.inr ⟨hl, Or.inr (Or.inl ⟨rfl, c2.1, c2.2, he⟩)⟩⟩
      · by_cases c3 : 48 ≤ b f ∧ b f ≤ 57
        · obtain ⟨e, he⟩ := tx_e_ex' (b := b) (lo := 48) (hi := 57) hf2
          by_cases c4 : e - f ≤ 2
          · exact ⟨f, e, 2, _, hf, Or.inr ⟨hl, Or.inr (Or.inr (Or.inl ⟨c3.1, c3.2, he, Or.inl ⟨rfl, c4, rfl⟩⟩))⟩⟩
          · exact ⟨f, e, 4, 0, hf, Or.inr ⟨hl, Or.inr (Or.inr (Or.inl ⟨c3.1, c3.2, he, Or.inr ⟨rfl, by omega⟩⟩))⟩⟩
        · exact ⟨f, f + 1, 4, 0, hf, Or.inr ⟨hl, Or.inr (Or.inr (Or.inr ⟨rfl, c1, c2, c3, rfl⟩))⟩⟩
theorem tx_e_lt {b : Nat → Nat} {L lo hi f e : Nat} (h : tx_e b L lo hi f e) (hf : f < L) (h1 : lo ≤ b f) (h2 : b f ≤ hi) : f < e := by
  obtain ⟨e1, e2, e3, e4⟩ := h
  rcases Nat.lt_or_ge f e with z | z
  · exact z
  · have : f = e := by omega
    subst this
    rcases e4 with e4 | e4
    · omega
    · exact absurd ⟨h1, h2⟩ e4
theorem tx_n_le {b : Nat → Nat} {L f e : Nat} (h : tx_e b L 48 57 f e) : ∀ i, i ≤ e - f → tx_n b f i ≤ 99 := by
  obtain ⟨e1, e2, e3, e4⟩ := h
  intro i hi
  unfold tx_n
  by_cases c0 : i = 0
  · rw [if_pos c0]; omega
  · rw [if_neg c0]
    have h0 := e3 f (by omega) (by omega)
    by_cases c1 : i = 1
    · rw [if_pos c1]; omega
    · rw [if_neg c1]
      have h1 := e3 (f + 1) (by omega) (by omega)
      omega
theorem tx_T_f {b : Nat → Nat} {L t f e k v : Nat} (h : tx_T b L t f e k v) : t ≤ f ∧ f ≤ e ∧ e ≤ L ∧ k ≤ 4 ∧ (k = 2 → v ≤ 99) ∧ (¬ k = 0 → f < e) ∧ (k = 0 → f = L) := by
  obtain ⟨⟨h1, h2, -, -⟩, h3⟩ := h
  rcases h3 with ⟨a1, a2, a3⟩ | ⟨a0, ⟨a1, a2, a3⟩ | ⟨a1, a2, a3, a4⟩ | ⟨a1, a2, a3, ⟨a4, a5, a6⟩ | ⟨a4, a5⟩⟩ | ⟨a1, a2, a3, a4, a5⟩⟩
  · omega
  · omega
  · have := tx_e_lt a4 a0 a2 a3
    obtain ⟨e1, e2, -, -⟩ := a4
    omega
  · have := tx_e_lt a3 a0 a1 a2
    have := tx_n_le a3 (e - f) (Nat.le_refl _)
    obtain ⟨e1, e2, -, -⟩ := a3
    omega
  · have := tx_e_lt a3 a0 a1 a2
    obtain ⟨e1, e2, -, -⟩ := a3
    omega
  · omega
/-- the tape, as the class has it -/
def tx_Y (x : zS) (b : Nat → Nat) (L : Nat) : Prop := x 35 1 = nI L ∧ L ≤ 160 ∧ ∀ j, j < L → b j < 128 ∧ x 36 j = nI (b j)
/-- the tape and the letters, as the reference has them -/
def tx_M (y : zS) (b : Nat → Nat) (L : Nat) : Prop := y 90 13 = nI L ∧ L ≤ 160 ∧ (∀ j, j < L → b j < 128 ∧ y 95 j = nI (b j)) ∧ (∀ j, j < 14 → y 96 j = z_iv 96 j) ∧ ∀ j, j < 51 → y 97 j = z_iv 97 j
section TY
variable {x : zS} {b : Nat → Nat} {L : Nat}
theorem tx_Y_c {x' : zS} (h : tx_Y x b L) (e1 : x' 35 = x 35) (e2 : x' 36 = x 36) : tx_Y x' b L := by
  unfold tx_Y at *
  rw [e1, e2]
  exact h
theorem ty_at (h : tx_Y x b L) {i : Nat} (hi : i < L) : f_Tp_at_35 (nI i) x = some (nI (b i)) := by
  obtain ⟨h1, h2, h3⟩ := h
  unfold f_Tp_at_35
  rw [nl0, if_neg (nI_nlt (show 0 ≤ i by omega) (by omega)), h1, if_neg (nI_ge hi (by omega)), show (160 : Int32) = nI 160 from rfl, if_neg (nI_ge (show i < 160 by omega) (by omega)), if_pos ((z_ibn (by omega)).mpr (by omega)), nI_clamp (by omega), (h3 i hi).2]
theorem ty_atE (h : tx_Y x b L) {i : Nat} (hi : L ≤ i) (hi2 : i < 2 ^ 31) : f_Tp_at_35 (nI i) x = some (-4) := by
  obtain ⟨h1, h2, h3⟩ := h
  unfold f_Tp_at_35
  rw [nl0, if_neg (nI_nlt (show 0 ≤ i by omega) (by omega)), h1, if_pos (nI_le hi (by omega))]
theorem ty_behind (h : tx_Y x b L) {lo hi t e : Nat} (hlo : lo < 2 ^ 31) (hhi : hi < 2 ^ 31) (he : tx_e b L lo hi t e) : f_Tk_behindAll_40 (nI lo) (nI hi) (nI t) x = some (nI e) := by
  obtain ⟨h1, h2, h3⟩ := id h
  obtain ⟨e1, e2, e3, e4⟩ := he
  unfold f_Tk_behindAll_40
  refine z_ex (z_lp (fun i s => s = nI (t + i)) (e - t) rfl (fun i s hi' hs => ?_) (fun s hs => ?_))
  · subst hs
    left
    have r := e3 (t + i) (by omega) (by omega)
    have hb := (h3 (t + i) (by omega)).1
    rw [h1, if_neg (nI_ge (show t + i < L by omega) (by omega)), ty_at h (by omega), z_bs, y_isIn, nI_toInt (show lo < 2 ^ 31 from hlo), nI_toInt (show b (t + i) < 2 ^ 31 by omega), nI_toInt (show hi < 2 ^ 31 from hhi), if_pos (show (lo : Int) ≤ (b (t + i) : Int) ∧ (b (t + i) : Int) ≤ (hi : Int) by omega), z_bs, if_neg (show ¬ nI 1 = 0 by decide), nl1, nI_add]
    exact ⟨_, rfl, rfl⟩
  · subst hs
    rw [show t + (e - t) = e by omega, h1]
    by_cases z : e = L
    · rw [if_pos (nI_le (show L ≤ e by omega) (by omega))]
      exact ⟨_, rfl, _, rfl, rfl⟩
    · have hb := (h3 e (by omega)).1
      have e5 : ¬ (lo ≤ b e ∧ b e ≤ hi) := by omega
      rw [if_neg (nI_ge (show e < L by omega) (by omega)), ty_at h (by omega), z_bs, y_isIn, nI_toInt (show lo < 2 ^ 31 from hlo), nI_toInt (show b e < 2 ^ 31 by omega), nI_toInt (show hi < 2 ^ 31 from hhi), if_neg (show ¬ ((lo : Int) ≤ (b e : Int) ∧ (b e : Int) ≤ (hi : Int)) by omega), z_bs, if_pos (show nI 0 = 0 from rfl)]
      exact ⟨_, rfl, _, rfl, rfl⟩
theorem ty_isIn {a lo hi : Nat} (ha : a < 2 ^ 31) (hlo : lo < 2 ^ 31) (hhi : hi < 2 ^ 31) : f_Y_isIn (nI a) (nI lo) (nI hi) x = some (nI (if lo ≤ a ∧ a ≤ hi then 1 else 0)) := by
  rw [y_isIn, nI_toInt ha, nI_toInt hlo, nI_toInt hhi]
  by_cases c : lo ≤ a ∧ a ≤ hi
  · rw [if_pos c, if_pos (show (lo : Int) ≤ (a : Int) ∧ (a : Int) ≤ (hi : Int) by omega)]
  · rw [if_neg c, if_neg (show ¬ ((lo : Int) ≤ (a : Int) ∧ (a : Int) ≤ (hi : Int)) by omega)]
theorem tx_n_s {i f L e : Nat} (h : tx_e b L 48 57 f e) (hi : i < e - f) (h2 : i < 2) : 10 * tx_n b f i + b (f + i) - 48 = tx_n b f (i + 1) ∧ 48 ≤ 10 * tx_n b f i + b (f + i) := by
  obtain ⟨e1, e2, e3, e4⟩ := h
  have h0 := e3 f (by omega) (by omega)
  have h1 := e3 (f + i) (by omega) (by omega)
  unfold tx_n
  by_cases c : i = 0
  · subst c
    rw [if_pos rfl, if_neg (by omega), if_pos (by omega), Nat.add_zero]
    omega
  · have : i = 1 := by omega
    subst this
    rw [if_neg (by omega), if_pos (by omega), if_neg (by omega), if_neg (by omega)]
    exact ⟨rfl, by omega⟩
theorem ty_number (h : tx_Y x b L) {f e : Nat} (h1 : x 40 4 = nI e) (h2 : x 40 2 = nI f) (he : tx_e b L 48 57 f e) (hl : e - f ≤ 2) : f_Tk_numberHere_40 x = some (nI (tx_n b f (e - f))) := by
  obtain ⟨e1, e2, e3, e4⟩ := id he
  have hL := h.2.1
  unfold f_Tk_numberHere_40
  rw [h2]
  refine z_ex (z_lp (fun i s => s = (nI (tx_n b f i), nI (f + i))) (e - f) rfl (fun i s hi' hs => ?_) (fun s hs => ?_))
  · subst hs
    left
    obtain ⟨s1, s2⟩ := tx_n_s he hi' (by omega)
    have s3 := tx_n_le he i (by omega)
    have hb := (h.2.2 (f + i) (by omega)).1
    dsimp only
    rw [h1, if_neg (nI_ge (show f + i < e by omega) (by omega)), ty_at h (by omega), z_bs]
    rw [show (10 : Int32) = nI 10 from rfl, show (48 : Int32) = nI 48 from rfl, pk_mul, nI_add, pk_sub s2, s1, nl1, nI_add]
    exact ⟨_, rfl, rfl⟩
  · subst hs
    dsimp only
    rw [h1, if_pos (nI_le (show e ≤ f + (e - f) by omega) (by omega))]
    exact ⟨_, rfl, _, rfl, rfl⟩
theorem ty_move (h : tx_Y x b L) {t f e k v : Nat} (h0 : x 40 4 = nI t) (hT : tx_T b L t f e k v) : ∃ x', f_Tk_move_40 x = some x' ∧ x' 40 1 = nI k ∧ x' 40 2 = nI f ∧ x' 40 4 = nI e ∧ (k = 2 → x' 40 3 = nI v) ∧ ∀ q, q ≠ 40 → x' q = x q := by
  obtain ⟨h1, h2, h3⟩ := id h
  obtain ⟨hf, hT⟩ := hT
  obtain ⟨f1, f2, -, -⟩ := id hf
  unfold f_Tk_move_40
  rw [h0, show (32 : Int32) = nI 32 from rfl, ty_behind h (by omega) (by omega) hf, z_bs, z_let_e, z_let_e, hg_u_s]
  have q1 : (z_u (z_u x 40 2 (nI f)) 40 4 (nI f + 1)) 40 2 = nI f := by rw [hg_u_j (by omega), hg_u_s]
  have q2 : (z_u (z_u x 40 2 (nI f)) 40 4 (nI f + 1)) 40 4 = nI (f + 1) := by rw [hg_u_s, nl1, nI_add]
  have q3 : ∀ q, q ≠ 40 → (z_u (z_u x 40 2 (nI f)) 40 4 (nI f + 1)) q = x q := fun q hq => by rw [hg_u_n hq, hg_u_n hq]
  generalize z_u (z_u x 40 2 (nI f)) 40 4 (nI f + 1) = y at q1 q2 q3
  have hy : tx_Y y b L := tx_Y_c h (q3 35 (by omega)) (q3 36 (by omega))
  obtain ⟨y1, y2, y3⟩ := id hy
  rw [q1, y1]
  rcases hT with ⟨a1, a2, a3⟩ | ⟨a0, hT⟩
  · subst a1 a2 a3
    rw [ty_atE hy (Nat.le_refl _) (by omega), z_bs, if_neg (nI_nlt (Nat.le_refl _) (by omega)), z_let_e, z_let_e]
    refine ⟨_, rfl, ?_, ?_, ?_, fun z => absurd z (by omega), fun q hq => ?_⟩
    · rw [hg_u_j (by omega), hg_u_s, nl0]
    · rw [hg_u_j (by omega), hg_u_j (by omega), q1]
    · rw [hg_u_s, hg_u_j (by omega), q1]
    · rw [hg_u_n hq, hg_u_n hq, q3 q hq]
  · have hb := (h3 f a0).1
    rw [ty_at hy a0, z_bs, if_pos (nI_lt a0 (by omega)), show (59 : Int32) = nI 59 from rfl, show (97 : Int32) = nI 97 from rfl, show (122 : Int32) = nI 122 from rfl, show (48 : Int32) = nI 48 from rfl, show (57 : Int32) = nI 57 from rfl]
    rw [ty_isIn (by omega) (by omega) (by omega), z_bs, ty_isIn (by omega) (by omega) (by omega), z_bs]
    rcases hT with ⟨a1, a2, a3⟩ | ⟨a1, a2, a3, a4⟩ | ⟨a1, a2, a3, a4⟩ | ⟨a1, a2, a3, a4, a5⟩
    · subst a1 a3
      rw [if_pos (show nI (b f) = nI 59 by rw [a2]), z_let_e]
      refine ⟨_, rfl, ?_, ?_, ?_, fun z => absurd z (by omega), fun q hq => ?_⟩
      · rw [hg_u_s]; rfl
      · rw [hg_u_j (by omega), q1]
      · rw [hg_u_j (by omega), q2]
      · rw [hg_u_n hq, q3 q hq]
    · subst a1
      rw [if_neg (show ¬ nI (b f) = nI 59 by rw [nI_eq (by omega) (by omega)]; omega), if_pos (show 97 ≤ b f ∧ b f ≤ 122 from ⟨a2, a3⟩), if_neg (show ¬ nI 1 = 0 by decide), z_let_e, hg_u_j (by omega), q1, ty_behind (tx_Y_c hy (hg_u_n (by omega)) (hg_u_n (by omega))) (by omega) (by omega) a4, z_bs, z_let_e]
      refine ⟨_, rfl, ?_, ?_, ?_, fun z => absurd z (by omega), fun q hq => ?_⟩
      · rw [hg_u_j (by omega), hg_u_s]; rfl
      · rw [hg_u_j (by omega), hg_u_j (by omega), q1]
      · rw [hg_u_s]
      · rw [hg_u_n hq, hg_u_n hq, q3 q hq]
    · rw [if_neg (show ¬ nI (b f) = nI 59 by rw [nI_eq (by omega) (by omega)]; omega), if_neg (show ¬ (97 ≤ b f ∧ b f ≤ 122) by omega), if_pos (show nI 0 = 0 from rfl), if_pos (show 48 ≤ b f ∧ b f ≤ 57 from ⟨a1, a2⟩), if_neg (show ¬ nI 1 = 0 by decide), ty_behind hy (by omega) (by omega) a3, z_bs, z_let_e, hg_u_s, hg_u_j (by omega), q1]
      obtain ⟨e1, e2, -, -⟩ := id a3
      rw [pk_sub (by omega), show (2 : Int32) = nI 2 from rfl]
      rcases a4 with ⟨b1, b2, b3⟩ | ⟨b1, b2⟩
      · subst b1 b3
        rw [hg_join_to (x := nI 2) (fun j => if_pos (nI_le b2 (by omega))), z_let_e, hg_u_s]
        rw [hg_join_to (x := nI (tx_n b f (e - f))) (fun j => by
          rw [if_pos rfl, ty_number (tx_Y_c hy (by rw [hg_u_n (by omega), hg_u_n (by omega)]) (by rw [hg_u_n (by omega), hg_u_n (by omega)])) (by rw [hg_u_j (by omega), hg_u_s]) (by rw [hg_u_j (by omega), hg_u_j (by omega), q1]) a3 b2, z_bs]), z_let_e]
        refine ⟨_, rfl, ?_, ?_, ?_, fun z => ?_, fun q hq => ?_⟩
        · rw [hg_u_j (by omega), hg_u_s]
        · rw [hg_u_j (by omega), hg_u_j (by omega), hg_u_j (by omega), q1]
        · rw [hg_u_j (by omega), hg_u_j (by omega), hg_u_s]
        · rw [hg_u_s]
        · rw [hg_u_n hq, hg_u_n hq, hg_u_n hq, q3 q hq]
      · subst b1
        rw [hg_join_to (x := (4 : Int32)) (fun j => if_neg (nI_ge b2 (by omega))), z_let_e, hg_u_s]
        rw [hg_join_to (x := (0 : Int32)) (fun j => if_neg (show ¬ (4 : Int32) = nI 2 by decide)), z_let_e]
        refine ⟨_, rfl, ?_, ?_, ?_, fun z => absurd z (by omega), fun q hq => ?_⟩
        · rw [hg_u_j (by omega), hg_u_s]; rfl
        · rw [hg_u_j (by omega), hg_u_j (by omega), hg_u_j (by omega), q1]
        · rw [hg_u_j (by omega), hg_u_j (by omega), hg_u_s]
        · rw [hg_u_n hq, hg_u_n hq, hg_u_n hq, q3 q hq]
    · subst a1 a5
      rw [if_neg (show ¬ nI (b f) = nI 59 by rw [nI_eq (by omega) (by omega)]; exact a2), if_neg a3, if_pos (show nI 0 = 0 from rfl), if_neg a4, if_pos (show nI 0 = 0 from rfl), z_let_e]
      refine ⟨_, rfl, ?_, ?_, ?_, fun z => absurd z (by omega), fun q hq => ?_⟩
      · rw [hg_u_s]; rfl
      · rw [hg_u_j (by omega), q1]
      · rw [hg_u_j (by omega), q2]
      · rw [hg_u_n hq, q3 q hq]
end TY
