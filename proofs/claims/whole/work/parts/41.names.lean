/-! the text: names -/
def tx_w : List (List Nat) := [[115, 105, 122, 101], [108, 97, 121], [115, 111, 119], [111, 119, 110], [119, 97, 108, 108], [114, 117, 108, 101], [115, 116, 111, 99, 107], [112, 117, 114, 115, 101], [119, 104, 101, 97, 116], [114, 121, 101], [109, 111, 115, 115], [114, 111, 115, 101], [98, 101, 97, 110]]
def tx_cs : List Nat := [0, 4, 7, 10, 13, 17, 21, 26, 31, 36, 39, 43, 47, 51]
def tx_wl (n : Nat) : Nat := (tx_w.getD n []).length
def tx_wc (n i : Nat) : Nat := (tx_w.getD n []).getD i 0
def tx_c (n : Nat) : Nat := tx_cs.getD n 0
theorem tx_wl_le : ∀ n, n < 13 → 3 ≤ tx_wl n ∧ tx_wl n ≤ 5 ∧ tx_c (n + 1) - tx_c n = tx_wl n ∧ tx_c n ≤ tx_c (n + 1) ∧ tx_c n + tx_wl n ≤ 51 := by decide
theorem tx_wc_le : ∀ n, n < 13 → ∀ i, i < tx_wl n → 97 ≤ tx_wc n i ∧ tx_wc n i ≤ 122 := by decide
theorem tx_wu : ∀ n, n < 13 → ∀ m, m < 13 → tx_wc n 0 = tx_wc m 0 → tx_wc n 1 = tx_wc m 1 → n = m := by decide
theorem tx_cut : ∀ n, n < 14 → z_iv 96 n = nI (tx_c n) := by decide +kernel
theorem tx_let : ∀ n, n < 13 → ∀ i, i < tx_wl n → z_iv 97 (tx_c n + i) = nI (tx_wc n i) := by decide +kernel
theorem ty_len (σ : zS) : ∀ n, n < 13 → f_JS_length (2000 + n) σ = some (nI (tx_wl n)) := by
  intro n hn
  match n, hn with
  | 0, _ => rfl
  | 1, _ => rfl
  | 2, _ => rfl
  | 3, _ => rfl
  | 4, _ => rfl
  | 5, _ => rfl
  | 6, _ => rfl
  | 7, _ => rfl
  | 8, _ => rfl
  | 9, _ => rfl
  | 10, _ => rfl
  | 11, _ => rfl
  | 12, _ => rfl
theorem ty_chr (σ : zS) : ∀ n, n < 13 → ∀ i, i < tx_wl n → f_JS_charAt (2000 + n) (nI i) σ = some (nI (tx_wc n i)) := by
  intro n hn i hi
  match n, hn, i, hi with
  | 0, _, 0, _ => rfl
  | 0, _, 1, _ => rfl
  | 0, _, 2, _ => rfl
  | 0, _, 3, _ => rfl
  | 1, _, 0, _ => rfl
  | 1, _, 1, _ => rfl
  | 1, _, 2, _ => rfl
  | 2, _, 0, _ => rfl
  | 2, _, 1, _ => rfl
  | 2, _, 2, _ => rfl
  | 3, _, 0, _ => rfl
  | 3, _, 1, _ => rfl
  | 3, _, 2, _ => rfl
  | 4, _, 0, _ => rfl
  | 4, _, 1, _ => rfl
  | 4, _, 2, _ => rfl
  | 4, _, 3, _ => rfl
  | 5, _, 0, _ => rfl
  | 5, _, 1, _ => rfl
  | 5, _, 2, _ => rfl
  | 5, _, 3, _ => rfl
  | 6, _, 0, _ => rfl
  | 6, _, 1, _ => rfl
  | 6, _, 2, _ => rfl
  | 6, _, 3, _ => rfl
  | 6, _, 4, _ => rfl
  | 7, _, 0, _ => rfl
  | 7, _, 1, _ => rfl
  | 7, _, 2, _ => rfl
  | 7, _, 3, _ => rfl
  | 7, _, 4, _ => rfl
  | 8, _, 0, _ => rfl
  | 8, _, 1, _ => rfl
  | 8, _, 2, _ => rfl
  | 8, _, 3, _ => rfl
  | 8, _, 4, _ => rfl
  | 9, _, 0, _ => rfl
  | 9, _, 1, _ => rfl
  | 9, _, 2, _ => rfl
  | 10, _, 0, _ => rfl
  | 10, _, 1, _ => rfl
  | 10, _, 2, _ => rfl
  | 10, _, 3, _ => rfl
  | 11, _, 0, _ => rfl
  | 11, _, 1, _ => rfl
  | 11, _, 2, _ => rfl
  | 11, _, 3, _ => rfl
  | 12, _, 0, _ => rfl
  | 12, _, 1, _ => rfl
  | 12, _, 2, _ => rfl
  | 12, _, 3, _ => rfl
/-- the token is the name n -/
def tx_m (b : Nat → Nat) (f e n : Nat) : Prop := e - f = tx_wl n ∧ ∀ i, i < tx_wl n → b (f + i) = tx_wc n i
theorem tx_m_u {b : Nat → Nat} {f e n m : Nat} (hn : n < 13) (hm : m < 13) (h1 : tx_m b f e n) (h2 : tx_m b f e m) : n = m := by
  have l1 := tx_wl_le n hn
  have l2 := tx_wl_le m hm
  exact tx_wu n hn m hm (by rw [← h1.2 0 (by omega), ← h2.2 0 (by omega)]) (by rw [← h1.2 1 (by omega), ← h2.2 1 (by omega)])
/-- which name a token is; 13: none -/
def tx_N (b : Nat → Nat) (f e k n : Nat) : Prop := (k = 1 ∧ n < 13 ∧ tx_m b f e n) ∨ (n = 13 ∧ (k = 1 → ∀ m, m < 13 → ¬ tx_m b f e m))
theorem tx_N_ex (b : Nat → Nat) (f e k : Nat) : ∃ n, tx_N b f e k n := by
  by_cases c : k = 1 ∧ ∃ n, n < 13 ∧ tx_m b f e n
  · obtain ⟨c1, n, c2, c3⟩ := c
    exact ⟨n, Or.inl ⟨c1, c2, c3⟩⟩
  · exact ⟨13, Or.inr ⟨rfl, fun z m hm hz => c ⟨z, m, hm, hz⟩⟩⟩
theorem tx_N_le {b : Nat → Nat} {f e k n : Nat} (h : tx_N b f e k n) : n ≤ 13 := by
  rcases h with ⟨h1, h2, h3⟩ | ⟨h1, h2⟩ <;> omega
theorem tx_N_no {b : Nat → Nat} {f e k n i : Nat} (h : tx_N b f e k n) (hi : i < 13) (hn : i ≠ n) (hk : k = 1) : ¬ tx_m b f e i := by
  rcases h with ⟨h1, h2, h3⟩ | ⟨h1, h2⟩
  · exact fun z => hn (tx_m_u hi h2 z h3)
  · exact h2 hk i hi
theorem z_inr2 {S β γ : Type} {o : Option (S ⊕ β)} {k : β → Option γ} {Q : γ → Prop} (h : ∃ g, o = some g ∧ ∃ b, g = Sum.inr b ∧ ∃ u, k b = some u ∧ Q u) : ∃ b, o = some (Sum.inr b) ∧ ∃ g, k b = some g ∧ Q g := by
  obtain ⟨g, h1, b, h2, h3⟩ := h
  exact ⟨b, by rw [h1, h2], h3⟩
section TN
variable {x y : zS} {b : Nat → Nat} {L f e k n : Nat}
theorem ty_isName (h : tx_Y x b L) (h1 : x 40 1 = nI k) (h2 : x 40 2 = nI f) (h3 : x 40 4 = nI e) (hk : k ≤ 4) (hfe : f ≤ e) (he : e ≤ L) (hN : tx_N b f e k n) {i : Nat} (hi : i < 13) : f_Tk_isName_40 (2000 + i) x = some (nI (if i = n then 1 else 0)) := by
  have hL := h.2.1
  obtain ⟨l1, l2, -, -, -⟩ := tx_wl_le i hi
  unfold f_Tk_isName_40
  rw [h1]
  by_cases ck : k = 1
  · rw [if_pos (show nI k = (1 : Int32) by rw [ck]; rfl), if_pos (show 2000 ≤ 2000 + i ∧ 2000 + i < 2013 by omega), ty_len x i hi, z_bs, h2, h3, pk_sub hfe]
    by_cases cl : e - f = tx_wl i
    · rw [if_pos (show nI (e - f) = nI (tx_wl i) by rw [cl])]
      by_cases cm : tx_m b f e i
      · have hin : i = n := Classical.byContradiction (fun z => tx_N_no hN hi z ck cm)
        rw [if_pos hin]
        refine z_ex (z_lp (fun j s => s = nI j) (tx_wl i) rfl (fun j s hj hs => ?_) (fun s hs => ?_))
        · subst hs
          left
          have hw := tx_wc_le i hi j hj
          rw [if_pos (show 2000 ≤ 2000 + i ∧ 2000 + i < 2013 by omega), z_bs, if_neg (nI_ge hj (by omega)), nI_add, ty_at h (by omega), z_bs, if_pos (show 2000 ≤ 2000 + i ∧ 2000 + i < 2013 by omega), ty_chr x i hi j hj, z_bs, if_pos (show nI (b (f + j)) = nI (tx_wc i j) by rw [cm.2 j hj]), nl1, nI_add]
          exact ⟨_, rfl, rfl⟩
        · subst hs
          rw [if_pos (show 2000 ≤ 2000 + i ∧ 2000 + i < 2013 by omega), z_bs, if_pos (nI_le (Nat.le_refl _) (by omega))]
          exact ⟨_, rfl, _, rfl, rfl⟩
      · have hin : ¬ i = n := fun z => by
          subst z
          rcases hN with ⟨a1, a2, a3⟩ | ⟨a1, a2⟩
          · exact cm a3
          · omega
        rw [if_neg hin]
        refine z_ex (z_lp (fun j s => s = nI j ∧ ∀ q, q < j → b (f + q) = tx_wc i q) (tx_wl i) ⟨rfl, fun q hq => by omega⟩ (fun j s hj hs => ?_) (fun s hs => absurd ⟨cl, hs.2⟩ cm))
        obtain ⟨rfl, hs⟩ := hs
        have hw := tx_wc_le i hi j hj
        have hb := (h.2.2 (f + j) (by omega)).1
        rw [if_pos (show 2000 ≤ 2000 + i ∧ 2000 + i < 2013 by omega), z_bs, if_neg (nI_ge hj (by omega)), nI_add, ty_at h (by omega), z_bs, if_pos (show 2000 ≤ 2000 + i ∧ 2000 + i < 2013 by omega), ty_chr x i hi j hj, z_bs]
        by_cases cc : b (f + j) = tx_wc i j
        · left
          rw [if_pos (show nI (b (f + j)) = nI (tx_wc i j) by rw [cc]), nl1, nI_add]
          refine ⟨_, rfl, rfl, fun q hq => ?_⟩
          by_cases z : q = j
          · rw [z]; exact cc
          · exact hs q (by omega)
        · right
          rw [if_neg (show ¬ nI (b (f + j)) = nI (tx_wc i j) by rw [nI_eq (by omega) (by omega)]; exact cc)]
          exact ⟨_, rfl, _, rfl, rfl⟩
    · have hin : ¬ i = n := fun z => by
        subst z
        rcases hN with ⟨a1, a2, a3⟩ | ⟨a1, a2⟩
        · exact cl a3.1
        · omega
      rw [if_neg (show ¬ nI (e - f) = nI (tx_wl i) by rw [nI_eq (by omega) (by omega)]; exact cl), if_neg hin]
      rfl
  · have hin : ¬ i = n := fun z => by
      rcases hN with ⟨a1, a2, a3⟩ | ⟨a1, a2⟩ <;> omega
    rw [nl1, if_neg (show ¬ nI k = nI 1 by rw [nI_eq (by omega) (by omega)]; exact ck), if_neg hin]
    rfl
theorem ty_lineName (σ : zS) : ∀ i, i < 8 → f_Tr_lineName (nI i) σ = some (2000 + i) := by
  intro i hi
  match i, hi with
  | 0, _ => rfl
  | 1, _ => rfl
  | 2, _ => rfl
  | 3, _ => rfl
  | 4, _ => rfl
  | 5, _ => rfl
  | 6, _ => rfl
  | 7, _ => rfl
theorem ty_cropName (σ : zS) : ∀ i, i < 5 → f_Tr_cropName (nI i) σ = some (2000 + (8 + i)) := by
  intro i hi
  match i, hi with
  | 0, _ => rfl
  | 1, _ => rfl
  | 2, _ => rfl
  | 3, _ => rfl
  | 4, _ => rfl
theorem ty_lineNamed (h : tx_Y x b L) (h1 : x 40 1 = nI k) (h2 : x 40 2 = nI f) (h3 : x 40 4 = nI e) (hk : k ≤ 4) (hfe : f ≤ e) (he : e ≤ L) (hN : tx_N b f e k n) : f_Tr_lineNamed_37 x = some (if n < 8 then nI n else -4) := by
  unfold f_Tr_lineNamed_37
  have hc := fun (i : Nat) (hi : i < 13) => ty_isName h h1 h2 h3 hk hfe he hN hi
  by_cases c : n < 8
  · rw [if_pos c]
    refine z_ex (z_lp (fun j s => s = nI j) n rfl (fun j s hj hs => ?_) (fun s hs => ?_))
    · subst hs
      left
      rw [show (8 : Int32) = nI 8 from rfl, if_neg (nI_ge (show j < 8 by omega) (by omega)), ty_lineName x j (by omega), z_bs, if_pos (show 2000 ≤ 2000 + j ∧ 2000 + j < 2013 by omega), hc j (by omega), if_neg (show ¬ j = n by omega), z_bs, if_pos (show nI 0 = 0 from rfl), nl1, nI_add]
      exact ⟨_, rfl, rfl⟩
    · subst hs
      rw [show (8 : Int32) = nI 8 from rfl, if_neg (nI_ge c (by omega)), ty_lineName x n c, z_bs, if_pos (show 2000 ≤ 2000 + n ∧ 2000 + n < 2013 by omega), hc n (by omega), if_pos rfl, z_bs, if_neg (show ¬ nI 1 = 0 by decide)]
      exact ⟨_, rfl, _, rfl, rfl⟩
  · rw [if_neg c]
    refine z_ex (z_lp (fun j s => s = nI j) 8 rfl (fun j s hj hs => ?_) (fun s hs => ?_))
    · subst hs
      left
      rw [show (8 : Int32) = nI 8 from rfl, if_neg (nI_ge (show j < 8 by omega) (by omega)), ty_lineName x j (by omega), z_bs, if_pos (show 2000 ≤ 2000 + j ∧ 2000 + j < 2013 by omega), hc j (by omega), if_neg (show ¬ j = n by omega), z_bs, if_pos (show nI 0 = 0 from rfl), nl1, nI_add]
      exact ⟨_, rfl, rfl⟩
    · subst hs
      rw [show (8 : Int32) = nI 8 from rfl, if_pos (nI_le (Nat.le_refl _) (by omega))]
      exact ⟨_, rfl, _, rfl, rfl⟩
theorem ty_cropNamed (h : tx_Y x b L) (h1 : x 40 1 = nI k) (h2 : x 40 2 = nI f) (h3 : x 40 4 = nI e) (hk : k ≤ 4) (hfe : f ≤ e) (he : e ≤ L) (hN : tx_N b f e k n) : f_Tr_cropNamed_37 x = some (if 8 ≤ n ∧ n < 13 then nI (n - 8) else -4) := by
  unfold f_Tr_cropNamed_37
  have hc := fun (i : Nat) (hi : i < 13) => ty_isName h h1 h2 h3 hk hfe he hN hi
  by_cases c : 8 ≤ n ∧ n < 13
  · rw [if_pos c]
    refine z_ex (z_lp (fun j s => s = nI j) (n - 8) rfl (fun j s hj hs => ?_) (fun s hs => ?_))
    · subst hs
      left
      rw [show (5 : Int32) = nI 5 from rfl, if_neg (nI_ge (show j < 5 by omega) (by omega)), ty_cropName x j (by omega), z_bs, if_pos (show 2000 ≤ 2000 + (8 + j) ∧ 2000 + (8 + j) < 2013 by omega), hc (8 + j) (by omega), if_neg (show ¬ 8 + j = n by omega), z_bs, if_pos (show nI 0 = 0 from rfl), nl1, nI_add]
      exact ⟨_, rfl, rfl⟩
    · subst hs
      rw [show (5 : Int32) = nI 5 from rfl, if_neg (nI_ge (show n - 8 < 5 by omega) (by omega)), ty_cropName x (n - 8) (by omega), z_bs, if_pos (show 2000 ≤ 2000 + (8 + (n - 8)) ∧ 2000 + (8 + (n - 8)) < 2013 by omega), hc (8 + (n - 8)) (by omega), if_pos (show 8 + (n - 8) = n by omega), z_bs, if_neg (show ¬ nI 1 = 0 by decide)]
      exact ⟨_, rfl, _, rfl, rfl⟩
  · rw [if_neg c]
    refine z_ex (z_lp (fun j s => s = nI j) 5 rfl (fun j s hj hs => ?_) (fun s hs => ?_))
    · subst hs
      left
      rw [show (5 : Int32) = nI 5 from rfl, if_neg (nI_ge (show j < 5 by omega) (by omega)), ty_cropName x j (by omega), z_bs, if_pos (show 2000 ≤ 2000 + (8 + j) ∧ 2000 + (8 + j) < 2013 by omega), hc (8 + j) (by omega), if_neg (show ¬ 8 + j = n by omega), z_bs, if_pos (show nI 0 = 0 from rfl), nl1, nI_add]
      exact ⟨_, rfl, rfl⟩
    · subst hs
      rw [show (5 : Int32) = nI 5 from rfl, if_pos (nI_le (Nat.le_refl _) (by omega))]
      exact ⟨_, rfl, _, rfl, rfl⟩
theorem tm_name (h : tx_M y b L) (h1 : y 90 19 = nI k) (h2 : y 90 18 = nI f) (h3 : y 90 17 = nI e) (hk : k ≤ 4) (hfe : f ≤ e) (he : e ≤ L) (hN : tx_N b f e k n) : f_M_nameHere y = some (if n < 13 then nI n else -4) := by
  obtain ⟨-, hL, -, hcut, hlet⟩ := id h
  have hn := tx_N_le hN
  unfold f_M_nameHere
  by_cases ck : k = 1
  · refine z_ex (z_lp (fun j s => s = nI j) n rfl (fun i s hi hs => ?_) (fun s hs => ?_))
    · subst hs
      left
      have hm := tx_N_no hN (show i < 13 by omega) (by omega) ck
      obtain ⟨l1, l2, l3, l4, l5⟩ := tx_wl_le i (by omega)
      rw [show (13 : Int32) = nI 13 from rfl, if_neg (nI_ge (show i < 13 by omega) (by omega)), h1, if_pos (show nI k = (1 : Int32) by rw [ck]; rfl), nl1, nI_add, if_pos ((z_ibn (by omega)).mpr (by omega)), if_pos ((z_ibn (by omega)).mpr (by omega)), nI_clamp (by omega), nI_clamp (by omega), h2, h3, hcut i (by omega), hcut (i + 1) (by omega), tx_cut i (by omega), tx_cut (i + 1) (by omega), pk_sub hfe, pk_sub l4, l3]
      refine z_inl ?_
      by_cases cl : e - f = tx_wl i
      · rw [hg_join_to (x := nI 1) (fun j => if_pos (show nI (e - f) = nI (tx_wl i) by rw [cl]))]
        refine z_lp (fun j s => (s = (nI 1, nI j) ∧ ∀ q, q < j → b (f + q) = tx_wc i q) ∨ ∃ s2, s = (nI 0, s2)) (tx_wl i) (Or.inl ⟨rfl, fun q hq => by omega⟩) (fun j s hj hs => ?_) (fun s hs => ?_)
        · rcases hs with ⟨rfl, hs⟩ | ⟨s2, rfl⟩
          · left
            have hw := tx_wc_le i (by omega) j hj
            have hb := (h.2.2.1 (f + j) (by omega)).1
            dsimp only
            rw [if_neg (show ¬ nI 1 = 0 by decide), if_neg (nI_ge (show j < e - f by omega) (by omega)), nI_add, tm_at h (by omega), z_bs, if_pos ((z_ibn (by omega)).mpr (by omega)), nI_add, if_pos ((z_ibn (by omega)).mpr (by omega)), nI_clamp (by omega), hlet _ (by omega), tx_let i (by omega) j hj]
            by_cases cc : b (f + j) = tx_wc i j
            · rw [hg_join_to (x := nI 1) (fun j' => if_pos (show nI (b (f + j)) = nI (tx_wc i j) by rw [cc])), nI_add]
              refine ⟨_, rfl, Or.inl ⟨rfl, fun q hq => ?_⟩⟩
              by_cases z : q = j
              · rw [z]; exact cc
              · exact hs q (by omega)
            · rw [hg_join_to (x := (0 : Int32)) (fun j' => if_neg (show ¬ nI (b (f + j)) = nI (tx_wc i j) by rw [nI_eq (by omega) (by omega)]; exact cc)), nI_add]
              exact ⟨_, rfl, Or.inr ⟨_, rfl⟩⟩
          · right
            dsimp only
            rw [if_pos (show nI 0 = 0 from rfl)]
            exact ⟨_, rfl, _, rfl, _, rfl, rfl⟩
        · rcases hs with ⟨rfl, hs⟩ | ⟨s2, rfl⟩
          · exact absurd ⟨cl, hs⟩ hm
          · dsimp only
            rw [if_pos (show nI 0 = 0 from rfl)]
            exact ⟨_, rfl, _, rfl, _, rfl, rfl⟩
      · rw [hg_join_to (x := (0 : Int32)) (fun j => if_neg (show ¬ nI (e - f) = nI (tx_wl i) by rw [nI_eq (by omega) (by omega)]; exact cl))]
        refine z_lp (fun j s => s = ((0 : Int32), (0 : Int32))) 0 rfl (fun j s hj => absurd hj (by omega)) (fun s hs => ?_)
        subst hs
        dsimp only
        rw [if_pos rfl]
        exact ⟨_, rfl, _, rfl, _, rfl, rfl⟩
    · subst hs
      by_cases c : n < 13
      · have hm : tx_m b f e n := by
          rcases hN with ⟨a1, a2, a3⟩ | ⟨a1, a2⟩
          · exact a3
          · omega
        obtain ⟨l1, l2, l3, l4, l5⟩ := tx_wl_le n c
        rw [if_pos c, show (13 : Int32) = nI 13 from rfl, if_neg (nI_ge c (by omega)), h1, if_pos (show nI k = (1 : Int32) by rw [ck]; rfl), nl1, nI_add, if_pos ((z_ibn (by omega)).mpr (by omega)), if_pos ((z_ibn (by omega)).mpr (by omega)), nI_clamp (by omega), nI_clamp (by omega), h2, h3, hcut n (by omega), hcut (n + 1) (by omega), tx_cut n (by omega), tx_cut (n + 1) (by omega), pk_sub hfe, pk_sub l4, l3]
        rw [hg_join_to (x := nI 1) (fun j => if_pos (show nI (e - f) = nI (tx_wl n) by rw [hm.1]))]
        have hgo : ∀ {γ : Type} (k' : Int32 → Option γ), True := fun _ => trivial
        refine z_inr2 ?_
        refine z_lp (fun j s => s = (nI 1, nI j)) (tx_wl n) rfl (fun j s hj hs => ?_) (fun s hs => ?_)
        · subst hs
          left
          have hb := (h.2.2.1 (f + j) (by rw [← hm.1] at hj; omega)).1
          dsimp only
          rw [if_neg (show ¬ nI 1 = 0 by decide), if_neg (nI_ge (show j < e - f by rw [hm.1]; exact hj) (by omega)), nI_add, tm_at h (by rw [← hm.1] at hj; omega), z_bs, if_pos ((z_ibn (by omega)).mpr (by omega)), nI_add, if_pos ((z_ibn (by omega)).mpr (by omega)), nI_clamp (by omega), hlet _ (by omega), tx_let n c j hj, hg_join_to (x := nI 1) (fun j' => if_pos (show nI (b (f + j)) = nI (tx_wc n j) by rw [hm.2 j hj])), nI_add]
          exact ⟨_, rfl, rfl⟩
        · subst hs
          dsimp only
          rw [if_neg (show ¬ nI 1 = 0 by decide), if_pos (nI_le (show e - f ≤ tx_wl n by rw [hm.1]; exact Nat.le_refl _) (by omega))]
          refine ⟨_, rfl, _, if_neg (show ¬ nI 1 = 0 by decide), _, rfl, _, rfl, rfl⟩
      · rw [if_neg c, show n = 13 by omega, show (13 : Int32) = nI 13 from rfl, if_pos (nI_le (Nat.le_refl _) (by omega))]
        exact ⟨_, rfl, _, rfl, rfl⟩
  · have hn13 : ¬ n < 13 := fun z => by
      rcases hN with ⟨a1, a2, a3⟩ | ⟨a1, a2⟩ <;> omega
    rw [if_neg hn13]
    refine z_ex (z_lp (fun j s => s = nI 0) 0 rfl (fun i s hi => absurd hi (by omega)) (fun s hs => ?_))
    subst hs
    rw [if_neg (show ¬ (13 : Int32) ≤ nI 0 by decide), h1, nl1, if_neg (show ¬ nI k = nI 1 by rw [nI_eq (by omega) (by omega)]; exact ck)]
    exact ⟨_, rfl, _, rfl, rfl⟩
end TN
