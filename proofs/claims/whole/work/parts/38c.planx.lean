/-! the call plan -/
def gp_an (k : Nat) (pr : Nat → Nat) (n l0 s0 : Nat) (d : Int32) : Int32 := if gp_C k pr n l0 s0 < 100000 then (if d = nI 0 then nI (gp_C k pr n l0 s0) else nI (gp_a k pr n l0 s0 (d.toNatClampNeg - 10))) else - nI 4
theorem gp_ch_v {b : Nat} (h : b ≤ 36) : gp_v (gp_ch b) = true ∧ gp_ch b ≤ 49 ∧ (gp_ch b = 0 ↔ b = 0) := by
  unfold gp_ch
  by_cases c : b = 0
  · rw [if_pos c]
    exact ⟨rfl, by omega, by omega⟩
  · rw [if_neg c]
    have h1 := gp_rl_of (l := b) (by omega) h
    unfold gp_rl at h1
    refine ⟨?_, by omega, by omega⟩
    unfold gp_v
    rw [decide_eq_true (show 11 ≤ 10 * (gp_se b + 1) + gp_y b by omega), decide_eq_true (show 10 * (gp_se b + 1) + gp_y b ≤ 49 by omega), decide_eq_true (show 0 < (10 * (gp_se b + 1) + gp_y b) % 10 by omega)]
    simp
theorem gp_ch_cl {b l : Nat} (h : b ≤ 36) : gp_cl (gp_ch b) l = if b = 0 then l else b := by
  obtain ⟨h1, h2, h3⟩ := gp_ch_v h
  unfold gp_cl
  by_cases c : b = 0
  · rw [if_pos (h3.mpr c), if_pos c]
  · have h4 := gp_rl_of (l := b) (by omega) h
    unfold gp_rl at h4
    rw [if_neg (fun z => c (h3.mp z)), if_neg c]
    unfold gp_ch
    rw [if_neg c]
    omega
/-- a choice ahead of the one that is taken lays less -/
theorem gp_ch_lt {b ch : Nat} (h : b ≤ 36) (hv : gp_v ch = true) (hc : ch < gp_ch b) (h0 : ¬ ch = 0) : 1 ≤ gp_cl ch 0 ∧ gp_cl ch 0 < b ∧ ∀ l, gp_cl ch l = gp_cl ch 0 := by
  have hb : ¬ b = 0 := fun z => by
    have := (gp_ch_v h).2.2.mpr z
    omega
  have h4 := gp_rl_of (l := b) (by omega) h
  unfold gp_rl at h4
  unfold gp_v at hv
  rw [decide_eq_false h0, Bool.false_or, Bool.and_eq_true, Bool.and_eq_true, decide_eq_true_iff, decide_eq_true_iff, decide_eq_true_iff] at hv
  unfold gp_ch at hc
  rw [if_neg hb] at hc
  unfold gp_cl
  rw [if_neg h0]
  refine ⟨by omega, by omega, fun l => by rw [if_neg h0]⟩
section PX
variable {σ : zS} {p : Nat → Nat} {W H R : Nat}
theorem gp_not {k : Nat} {pr : Nat → Nat} {r l st ch v : Nat} (hF : gp_C k pr (r + 1) l st < 100000) (hv : gp_v ch = true) (hc : ch < gp_ch (gp_b k pr r l st)) (hm : min v 100000 = gp_x (if ch = 0 then 0 else gp_c pr (gp_cl ch l)) (gp_B k (gp_C k pr r) (gp_cl ch l) st)) : ¬ v = gp_C k pr (r + 1) l st := by
  intro e
  have hb := gp_b_le hF
  have hx : gp_x (if ch = 0 then 0 else gp_c pr (gp_cl ch l)) (gp_B k (gp_C k pr r) (gp_cl ch l) st) = gp_C k pr (r + 1) l st := by rw [← hm, e]; omega
  by_cases z : ch = 0
  · have hbn : ¬ gp_b k pr r l st = 0 := fun q => by
      have := (gp_ch_v hb).2.2.mpr q
      omega
    apply hbn
    unfold gp_b
    rw [if_pos]
    unfold gp_cl gp_x at hx
    rw [if_pos z, if_pos z] at hx
    split at hx <;> omega
  · obtain ⟨q1, q2, q3⟩ := gp_ch_lt hb hv hc z
    rw [if_neg z, q3 l] at hx
    unfold gp_b at q2
    split at q2
    · omega
    · have := g_ft_no (gp_bq k pr r l st) 36 (gp_cl ch 0 - 1) (by omega)
      unfold gp_bq at this
      rw [decide_eq_false_iff_not, show gp_cl ch 0 - 1 + 1 = gp_cl ch 0 by omega] at this
      apply this
      unfold gp_x at hx
      split at hx <;> omega
theorem gp_yes {k : Nat} {pr : Nat → Nat} {r l st v : Nat} (hF : gp_C k pr (r + 1) l st < 100000) (hm : min v 100000 = gp_x (if gp_ch (gp_b k pr r l st) = 0 then 0 else gp_c pr (gp_cl (gp_ch (gp_b k pr r l st)) l)) (gp_B k (gp_C k pr r) (gp_cl (gp_ch (gp_b k pr r l st)) l) st)) : v = gp_C k pr (r + 1) l st := by
  have hb := gp_b_le hF
  have hi := gp_b_is hF
  obtain ⟨c1, c2, c3⟩ := gp_ch_v hb
  rw [gp_ch_cl hb] at hm
  by_cases z : gp_b k pr r l st = 0
  · rw [if_pos z, if_pos z] at hi
    rw [if_pos (c3.mpr z), if_pos z] at hm
    unfold gp_x at hm
    split at hm <;> omega
  · rw [if_neg z, if_neg z] at hi
    rw [if_neg (fun q => z (c3.mp q)), if_neg z] at hm
    unfold gp_x at hm
    split at hm <;> omega
theorem mp_plan (hD : hg_D W H R) (hM : hg_M σ W H R) (hV : hg_V p R) (hQ : hg_Q σ 0 p) {c n : Nat} (hc : c < W * H) (hk : ¬ p (5 * c + 2) = 0) (ha : 0 ≤ (nI c).toInt ∧ (nI c).toInt < ((W * H : Nat) : Int)) (hb : 1 ≤ (nI n).toInt ∧ (nI n).toInt ≤ 6) (hn1 : 1 ≤ n) (hn : n ≤ 6) {d : Int32} (hd : d = nI 0 ∨ ∃ w, w < n ∧ d = nI (10 + w)) : ∃ τ, f_M_plan (nI c) (nI n) d σ = some (gp_an (p (5 * c + 2) - 1) (fun s => p (97 + 2 * s) + 1) n (if p (5 * c + 1) = 0 then 0 else 9 * p (5 * c) + p (5 * c + 1)) (p (5 * c + 3)) d, τ) ∧ ∀ q, q ≠ 99 → τ q = σ q := by
  obtain ⟨n1, n2⟩ := hg_D_N hD
  obtain ⟨v1, v2, v3, v4, v5⟩ := hV.1 c (by omega)
  have hgk : g_k p c = nI (p (5 * c + 2) - 1) := by unfold g_k; rw [if_neg hk]
  have hc0 : f_M_cropIn (nI 0) (nI c) σ = some (g_k p c) := mm_cropIn hV hQ (by omega) (by omega)
  have hpr : ∀ s, s < 4 → (fun s => p (97 + 2 * s) + 1) s ≤ 9 := fun s hs => by
    have := (hV.2.2.2.1 s hs).2
    show p (97 + 2 * s) + 1 ≤ 9
    omega
  obtain ⟨τ, t1, t2, t3⟩ := mp_lay hM hV hQ (show p (5 * c + 2) - 1 < 5 by omega) hn1 hn
  have hM2 : hg_M τ W H R := hg_M_c hM (t3 90 (by omega)) (t3 92 (by omega))
  have hQ2 : hg_Q τ 0 p := hg_Q_c hQ (t3 91 (by omega))
  have q := hg_Q0 hQ2
  have hrl0 : gp_rl (p (5 * c)) (p (5 * c + 1)) (if p (5 * c + 1) = 0 then 0 else 9 * p (5 * c) + p (5 * c + 1)) := by
    unfold gp_rl
    split <;> omega
  unfold f_M_plan
  rw [mm_isCell hD hM, z_bs, if_pos ha, if_neg (show ¬ nI 1 = 0 by decide), km_1_6, z_bs, if_pos hb, if_neg (show ¬ nI 1 = 0 by decide)]
  rw [hg_join_to (x := ()) (by
    intro j
    rcases hd with rfl | ⟨w, hw, rfl⟩
    · exact if_pos rfl
    · rw [if_neg (show ¬ nI (10 + w) = 0 by rw [nl0, nI_eq (by omega) (by omega)]; omega), nl9, nI_add, mm_inI, Int32.toInt_toInt64, nI_toInt (by omega), nI_toInt (by omega), show (10 : Int64).toInt = 10 from rfl, z_bs, if_pos (show (10 : Int) ≤ ((10 + w : Nat) : Int) ∧ ((10 + w : Nat) : Int) ≤ ((9 + n : Nat) : Int) by omega), if_neg (show ¬ nI 1 = 0 by decide)])]
  rw [show (0 : Int32) = nI 0 from rfl, hc0, z_bs, z_lit4, if_neg (fun z => hk ((g_k_0 v3).mp z)), hgk, t1, z_bs, nl5, nl1, nl3, pk_mul, nI_add, nI_add, if_pos ((z_ibn (show 5 * c < 2 ^ 31 by omega)).mpr (by omega)), z_let_e, if_pos ((z_ibn (show 5 * c + 1 < 2 ^ 31 by omega)).mpr (by omega)), z_let_e, if_pos ((z_ibn (show 5 * c + 3 < 2 ^ 31 by omega)).mpr (by omega)), z_let_e, nI_clamp (show 5 * c < 2 ^ 31 by omega), nI_clamp (show 5 * c + 1 < 2 ^ 31 by omega), nI_clamp (show 5 * c + 3 < 2 ^ 31 by omega), q _ (by omega), q _ (by omega), q _ (by omega), mp_atl hrl0, z_bs]
  have hl0 := (gp_rl_se hrl0).2.2.1
  have hst0 : p (5 * c + 3) < 3 := by omega
  have hk5 : p (5 * c + 2) - 1 < 5 := by omega
  generalize p (5 * c + 3) = s0 at hst0
  generalize (if p (5 * c + 1) = 0 then 0 else 9 * p (5 * c) + p (5 * c + 1)) = l0 at hrl0 hl0
  generalize p (5 * c + 1) = y0 at hrl0
  generalize p (5 * c) = se0 at hrl0
  generalize p (5 * c + 2) - 1 = k at t2 hk5
  have hix0 := gp_ix_lt hl0
  have row0 := t2 0 (by omega) l0 s0 hl0 hst0
  rw [Nat.sub_zero] at row0
  have hCF := gp_C_F (k := k) hpr n hn l0 s0
  have hCl := gp_F_le hCF hn
  rw [if_pos ((z_ibn (show 150 * 0 + gp_ix l0 + s0 < 2 ^ 31 by omega)).mpr (by omega)), nI_clamp (by omega), row0]
  unfold gp_an
  simp only [z_join]
  by_cases hF : gp_C k (fun s => p (97 + 2 * s) + 1) n l0 s0 < 100000
  · rw [if_neg (show ¬ (100000 : Int32) ≤ nI (gp_C k (fun s => p (97 + 2 * s) + 1) n l0 s0) from nI_ge (b := 100000) hF (by omega)), if_pos hF]
    rcases hd with rfl | ⟨w, hw, rfl⟩
    · rw [if_pos rfl, if_pos (show nI (gp_C k (fun s => p (97 + 2 * s) + 1) n l0 s0) < (100000 : Int32) from nI_lt (b := 100000) hF (by omega))]
      exact ⟨τ, rfl, t3⟩
    · rw [if_neg (show ¬ nI (10 + w) = nI 0 by rw [nI_eq (by omega) (by omega)]; omega), nI_clamp (show 10 + w < 2 ^ 31 by omega), if_neg (show ¬ nI (10 + w) = nI 0 by rw [nI_eq (by omega) (by omega)]; omega), nl10, pk_sub (by omega), show 10 + w - 10 = w by omega]
      refine ⟨τ, ?_, t3⟩
      refine z_ex (z_lp' (fun i (x : Int32 × Int32 × Int32 × Int32 × Int32) => ∃ se y, x.1 = nI se ∧ x.2.1 = nI y ∧ gp_rl se y (gp_s k (fun s => p (97 + 2 * s) + 1) n l0 s0 i).1 ∧ x.2.2.1 = nI (gp_s k (fun s => p (97 + 2 * s) + 1) n l0 s0 i).2 ∧ x.2.2.2.2 = nI i ∧ i ≤ w + 1 ∧ (1 ≤ i → x.2.2.2.1 = nI (gp_a k (fun s => p (97 + 2 * s) + 1) n l0 s0 (i - 1)))) (w + 1) ?_ ?_ ?_)
      · exact ⟨se0, y0, rfl, rfl, hrl0, rfl, rfl, by omega, fun z => absurd z (by omega)⟩
      · intro i x hi hP
        obtain ⟨se, y, e1, e2, e3, e4, e5, e6, e7⟩ := hP
        obtain ⟨o1, o2, o3⟩ := gp_s_ok hF hl0 hst0 i (by omega)
        have es : gp_s k (fun s => p (97 + 2 * s) + 1) n l0 s0 (i + 1) = if 3 ≤ (gp_s k (fun s => p (97 + 2 * s) + 1) n l0 s0 i).2 then gp_s k (fun s => p (97 + 2 * s) + 1) n l0 s0 i else (gp_le (if gp_b k (fun s => p (97 + 2 * s) + 1) (n - 1 - i) (gp_s k (fun s => p (97 + 2 * s) + 1) n l0 s0 i).1 (gp_s k (fun s => p (97 + 2 * s) + 1) n l0 s0 i).2 = 0 then (gp_s k (fun s => p (97 + 2 * s) + 1) n l0 s0 i).1 else gp_b k (fun s => p (97 + 2 * s) + 1) (n - 1 - i) (gp_s k (fun s => p (97 + 2 * s) + 1) n l0 s0 i).1 (gp_s k (fun s => p (97 + 2 * s) + 1) n l0 s0 i).2), g_sb k (gp_s k (fun s => p (97 + 2 * s) + 1) n l0 s0 i).2 (gp_se (if gp_b k (fun s => p (97 + 2 * s) + 1) (n - 1 - i) (gp_s k (fun s => p (97 + 2 * s) + 1) n l0 s0 i).1 (gp_s k (fun s => p (97 + 2 * s) + 1) n l0 s0 i).2 = 0 then (gp_s k (fun s => p (97 + 2 * s) + 1) n l0 s0 i).1 else gp_b k (fun s => p (97 + 2 * s) + 1) (n - 1 - i) (gp_s k (fun s => p (97 + 2 * s) + 1) n l0 s0 i).1 (gp_s k (fun s => p (97 + 2 * s) + 1) n l0 s0 i).2))) := rfl
        have ea : gp_a k (fun s => p (97 + 2 * s) + 1) n l0 s0 i = if 3 ≤ (gp_s k (fun s => p (97 + 2 * s) + 1) n l0 s0 i).2 then 0 else gp_ch (gp_b k (fun s => p (97 + 2 * s) + 1) (n - 1 - i) (gp_s k (fun s => p (97 + 2 * s) + 1) n l0 s0 i).1 (gp_s k (fun s => p (97 + 2 * s) + 1) n l0 s0 i).2) := rfl
        rw [e1, e2, e4, e5, if_neg (nI_nlt (show i ≤ w by omega) (by omega))]
        generalize gp_s k (fun s => p (97 + 2 * s) + 1) n l0 s0 i = sx at e3 o1 o2 o3 es ea
        refine z_inl ?_
        by_cases cs : 3 ≤ sx.2
        · rw [if_pos cs] at es ea
          refine z_lp (fun _ (z : Int32) => z = nI 0) 0 rfl (fun j z hj => absurd hj (by omega)) (fun z hz => ?_)
          subst hz
          rw [if_pos (nI_le cs (by omega))]
          refine ⟨_, rfl, ?_⟩
          rw [if_pos (nI_le cs (by omega)), nI_add]
          exact ⟨_, rfl, _, rfl, se, y, rfl, rfl, by rw [es]; exact e3, by rw [es], rfl, by omega, fun _ => by rw [show i + 1 - 1 = i by omega, ea]⟩
        · rw [if_neg cs] at es ea
          have hst : sx.2 < 3 := by omega
          have o4 := o3 hst
          rw [show n - i = (n - 1 - i) + 1 by omega] at o4
          have hb2 := gp_b_le o4
          have hrow := t2 i (by omega)
          rw [show n - i = (n - 1 - i) + 1 by omega] at hrow
          have hr2 : gp_m τ k (fun s => p (97 + 2 * s) + 1) (i + 1) (n - 1 - i) ∨ n - 1 - i = 0 := by
            by_cases z : n - 1 - i = 0
            · exact Or.inr z
            · refine Or.inl ?_
              have := t2 (i + 1) (by omega)
              rw [show n - (i + 1) = n - 1 - i by omega] at this
              exact this
          obtain ⟨k1, k2, k3⟩ := gp_ch_v hb2
          have kcl := gp_ch_cl (l := sx.1) hb2
          have gn := fun ch v => gp_not (k := k) (pr := fun s => p (97 + 2 * s) + 1) (r := n - 1 - i) (l := sx.1) (st := sx.2) (ch := ch) (v := v) o4
          have gy := fun v => gp_yes (k := k) (pr := fun s => p (97 + 2 * s) + 1) (r := n - 1 - i) (l := sx.1) (st := sx.2) (v := v) o4
          generalize gp_b k (fun s => p (97 + 2 * s) + 1) (n - 1 - i) sx.1 sx.2 = b at hb2 k1 k2 k3 kcl gn gy es ea
          have hix := gp_ix_lt o1
          refine z_lp (fun ch (z : Int32) => z = nI ch ∧ ch ≤ gp_ch b) (gp_ch b) ⟨rfl, by omega⟩ ?_ ?_
          · intro ch z hch hz
            obtain ⟨rfl, hz2⟩ := hz
            left
            rw [if_neg (nI_ge hst (by omega)), mp_is (by omega), z_bs]
            cases hv : gp_v ch with
            | false =>
              rw [if_pos (show nI (if false = true then 1 else 0) = nI 0 from rfl), nI_add]
              exact ⟨_, rfl, rfl, by omega⟩
            | true =>
              obtain ⟨v, w1, w2, w3⟩ := mp_cost hM2 hV hQ2 hk5 (t := i) (n := n) hn (by omega) hr2 e3 hst hv (by omega)
              have hne := gn ch v hv hch w3
              rw [if_neg (show ¬ nI (if true = true then 1 else 0) = nI 0 by decide), w1, z_bs, mp_atl e3, z_bs, if_pos ((z_ibn (by omega)).mpr (by omega)), nI_clamp (by omega), hrow _ _ o1 hst, if_neg (by rw [nI_eq (by omega) (by omega)]; exact hne), nI_add]
              exact ⟨_, rfl, rfl, by omega⟩
          · intro z hz
            obtain ⟨rfl, hz2⟩ := hz
            obtain ⟨v, w1, w2, w3⟩ := mp_cost hM2 hV hQ2 hk5 (t := i) (n := n) hn (by omega) hr2 e3 hst k1 k2
            have heq := gy v w3
            rw [if_neg (nI_ge hst (by omega)), mp_is k2, z_bs, k1, if_neg (show ¬ nI (if true = true then 1 else 0) = nI 0 by decide), w1, z_bs, mp_atl e3, z_bs, if_pos ((z_ibn (by omega)).mpr (by omega)), nI_clamp (by omega), hrow _ _ o1 hst, if_pos (by rw [heq])]
            refine ⟨_, rfl, ?_⟩
            rw [if_neg (nI_ge hst (by omega))]
            have hrl : gp_rl (if gp_ch b = 0 then se else gp_ch b / 10 - 1) (if gp_ch b = 0 then y else gp_ch b % 10) (if b = 0 then sx.1 else b) := by
              by_cases z : b = 0
              · rw [if_pos (k3.mpr z), if_pos (k3.mpr z), if_pos z]
                exact e3
              · have h4 := gp_rl_of (l := b) (by omega) hb2
                rw [if_neg (fun u => z (k3.mp u)), if_neg (fun u => z (k3.mp u)), if_neg z]
                unfold gp_rl at h4 ⊢
                unfold gp_ch
                rw [if_neg z]
                omega
            obtain ⟨a1, a2, a3, a4, a5⟩ := gp_rl_se hrl
            have hrl2 := gp_rl_le hrl
            generalize (if b = 0 then sx.1 else b) = L at hrl hrl2 a1 a2 a3 es
            have hse := gp_se_le a3
            by_cases z0 : gp_ch b = 0
            · rw [if_pos (show nI (gp_ch b) = nI 0 by rw [z0]), if_pos (show nI (gp_ch b) = nI 0 by rw [z0])]
              rw [if_pos z0] at a5
              rw [if_pos z0] at a4
              rw [if_pos z0] at a2
              rw [if_pos z0, if_pos z0] at hrl hrl2 a1
              have hS : ∃ S, S = se := ⟨_, rfl⟩
              have hY : ∃ Y, Y = y := ⟨_, rfl⟩
              obtain ⟨S, hS⟩ := hS
              obtain ⟨Y, hY⟩ := hY
              rw [← hS, ← hY] at hrl hrl2 a1 ⊢
              rw [← hY] at a2 a4
              rw [← hS] at a5
              by_cases cy : Y = 0
              · rw [if_pos (show nI Y = nI 0 by rw [cy]), show (4 : Int32) = nI 4 from rfl, show nI 4 = nI (gp_se L) by rw [a1, if_pos cy], mm_stageBy hM2 hk5 hst (by omega), z_bs, if_pos (nI_le (show Y ≤ 0 by omega) (by omega)), nI_add, pk_sub (by omega)]
                rw [cy] at hrl2
                exact ⟨_, rfl, _, rfl, S, 0, rfl, by rw [cy], by rw [es]; exact hrl2, by rw [es], rfl, by omega, fun _ => by rw [show i + 1 - 1 = i by omega, ea]⟩
              · rw [if_neg (show ¬ nI Y = nI 0 by rw [nI_eq (by omega) (by omega)]; exact cy), show nI S = nI (gp_se L) by rw [a1, if_neg cy], mm_stageBy hM2 hk5 hst (by omega), z_bs, if_neg (nI_ge (show 0 < Y by omega) (by omega)), nI_add, pk_sub (by omega)]
                exact ⟨_, rfl, _, rfl, S, Y - 1, by rw [a1, if_neg cy], rfl, by rw [es]; exact hrl2, by rw [es], rfl, by omega, fun _ => by rw [show i + 1 - 1 = i by omega, ea]⟩
            · have z11 : 11 ≤ gp_ch b := by
                unfold gp_v at k1
                rw [decide_eq_false z0, Bool.false_or, Bool.and_eq_true, Bool.and_eq_true, decide_eq_true_iff] at k1
                exact k1.1.1
              rw [if_neg (show ¬ nI (gp_ch b) = nI 0 by rw [nI_eq (by omega) (by omega)]; exact z0), if_neg (show ¬ nI (gp_ch b) = nI 0 by rw [nI_eq (by omega) (by omega)]; exact z0), pk_rem (by omega) (by omega) (by omega), pk_div (by omega) (by omega) (by omega), pk_sub (by omega)]
              rw [if_neg z0] at a5
              rw [if_neg z0] at a4
              rw [if_neg z0] at a2
              rw [if_neg z0, if_neg z0] at hrl hrl2 a1
              generalize gp_ch b / 10 - 1 = S at hrl hrl2 a1 a5
              generalize gp_ch b % 10 = Y at hrl hrl2 a1 a2 a4
              by_cases cy : Y = 0
              · rw [if_pos (show nI Y = nI 0 by rw [cy]), show (4 : Int32) = nI 4 from rfl, show nI 4 = nI (gp_se L) by rw [a1, if_pos cy], mm_stageBy hM2 hk5 hst (by omega), z_bs, if_pos (nI_le (show Y ≤ 0 by omega) (by omega)), nI_add, pk_sub (by omega)]
                rw [cy] at hrl2
                exact ⟨_, rfl, _, rfl, S, 0, rfl, by rw [cy], by rw [es]; exact hrl2, by rw [es], rfl, by omega, fun _ => by rw [show i + 1 - 1 = i by omega, ea]⟩
              · rw [if_neg (show ¬ nI Y = nI 0 by rw [nI_eq (by omega) (by omega)]; exact cy), show nI S = nI (gp_se L) by rw [a1, if_neg cy], mm_stageBy hM2 hk5 hst (by omega), z_bs, if_neg (nI_ge (show 0 < Y by omega) (by omega)), nI_add, pk_sub (by omega)]
                exact ⟨_, rfl, _, rfl, S, Y - 1, by rw [a1, if_neg cy], rfl, by rw [es]; exact hrl2, by rw [es], rfl, by omega, fun _ => by rw [show i + 1 - 1 = i by omega, ea]⟩
      · intro x hP
        obtain ⟨se, y, e1, e2, e3, e4, e5, e6, e7⟩ := hP
        rw [e5, if_pos (nI_lt (by omega) (by omega))]
        refine ⟨_, rfl, _, rfl, ?_⟩
        rw [e7 (by omega), show w + 1 - 1 = w by omega]
  · rw [if_pos (show (100000 : Int32) ≤ nI (gp_C k (fun s => p (97 + 2 * s) + 1) n l0 s0) from nI_le (a := 100000) (by omega) (by omega)), if_neg hF, if_neg (show ¬ nI (gp_C k (fun s => p (97 + 2 * s) + 1) n l0 s0) < (100000 : Int32) from nI_nlt (b := 100000) (by omega) (by omega))]
    exact ⟨τ, rfl, t3⟩
theorem yp_plan (hD : hg_D W H R) (hV : hg_V p R) (hG : hg_G1 σ p W H R) {c n : Nat} (hc : c < W * H) (hk : ¬ p (5 * c + 2) = 0) (ha : 0 ≤ (nI c).toInt ∧ (nI c).toInt < ((W * H : Nat) : Int)) (hb : 1 ≤ (nI n).toInt ∧ (nI n).toInt ≤ 6) (hn1 : 1 ≤ n) (hn : n ≤ 6) {d : Int32} (hd : d = nI 0 ∨ ∃ w, w < n ∧ d = nI (10 + w)) : ∃ τ, f_Y_plan (nI c) (nI n) d σ = some (gp_an (p (5 * c + 2) - 1) (fun s => p (97 + 2 * s) + 1) n (if p (5 * c + 1) = 0 then 0 else 9 * p (5 * c) + p (5 * c + 1)) (p (5 * c + 3)) d, τ) ∧ ∀ q, (q < 41 ∨ 43 < q) → τ q = σ q := by
  obtain ⟨n1, n2⟩ := hg_D_N hD
  obtain ⟨v1, v2, v3, v4, v5⟩ := hV.1 c (by omega)
  have hpr : ∀ s, s < 4 → (fun s => p (97 + 2 * s) + 1) s ≤ 9 := fun s hs => by
    have := (hV.2.2.2.1 s hs).2
    show p (97 + 2 * s) + 1 ≤ 9
    omega
  obtain ⟨τ, t1, t2, t3⟩ := yp_weigh hV hG (show c < 16 by omega) hk hn1 hn
  have hl0 : (if p (5 * c + 1) = 0 then 0 else 9 * p (5 * c) + p (5 * c + 1)) ≤ 36 := by split <;> omega
  refine ⟨τ, ?_, t3⟩
  unfold f_Y_plan
  rw [y_hasCell_1 hD hG, z_bs, if_pos ha, if_neg (show ¬ nI 1 = 0 by decide), show f_Y_isIn (nI n) (1 : Int32) (6 : Int32) σ = some (nI (if 1 ≤ (nI n).toInt ∧ (nI n).toInt ≤ 6 then 1 else 0)) from ki_1_6 _ _, z_bs, if_pos hb, if_neg (show ¬ nI 1 = 0 by decide)]
  rw [hg_join_to (x := ()) (by
    intro j
    rcases hd with rfl | ⟨w, hw, rfl⟩
    · exact if_pos rfl
    · rw [if_neg (show ¬ nI (10 + w) = 0 by rw [nl0, nI_eq (by omega) (by omega)]; omega), nl9, nI_add, y_isIn, nI_toInt (by omega), nI_toInt (by omega), show (10 : Int32).toInt = 10 from rfl, z_bs, if_pos (show (10 : Int) ≤ ((10 + w : Nat) : Int) ∧ ((10 + w : Nat) : Int) ≤ ((9 + n : Nat) : Int) by omega), if_neg (show ¬ nI 1 = 0 by decide)])]
  rw [if_pos ((z_ibn (show c < 2 ^ 31 by omega)).mpr (show c < 16 by omega)), nI_clamp (show c < 2 ^ 31 by omega), hG.2.2.2.2.2.1 c (by omega), z_lit4, if_neg (fun z => hk ((g_k_0 v3).mp z)), t1, z_bs, t2.2.2.2.1]
  generalize (if p (5 * c + 1) = 0 then 0 else 9 * p (5 * c) + p (5 * c + 1)) = l0 at t2 hl0
  have hCF := gp_C_F (k := p (5 * c + 2) - 1) hpr n hn l0 (p (5 * c + 3))
  have hEl := gp_E_le (v := gp_C (p (5 * c + 2) - 1) (fun s => p (97 + 2 * s) + 1) n l0 (p (5 * c + 3)))
  unfold gp_an
  by_cases hF : gp_C (p (5 * c + 2) - 1) (fun s => p (97 + 2 * s) + 1) n l0 (p (5 * c + 3)) < 100000
  · have hE : gp_E (gp_C (p (5 * c + 2) - 1) (fun s => p (97 + 2 * s) + 1) n l0 (p (5 * c + 3))) = gp_C (p (5 * c + 2) - 1) (fun s => p (97 + 2 * s) + 1) n l0 (p (5 * c + 3)) := if_pos hF
    rw [if_pos hF, hE, if_pos (show nI (gp_C (p (5 * c + 2) - 1) (fun s => p (97 + 2 * s) + 1) n l0 (p (5 * c + 3))) < (1000000 : Int32) from nI_lt (b := 1000000) (by omega) (by omega))]
    rcases hd with rfl | ⟨w, hw, rfl⟩
    · rw [if_pos (show nI 0 = 0 from rfl), if_pos rfl]
    · rw [if_neg (show ¬ nI (10 + w) = 0 by rw [nl0, nI_eq (by omega) (by omega)]; omega), if_neg (show ¬ nI (10 + w) = nI 0 by rw [nI_eq (by omega) (by omega)]; omega), nI_clamp (show 10 + w < 2 ^ 31 by omega), nl10, pk_sub (by omega), show 10 + w - 10 = w by omega, yp_laid t2 (by omega) hpr hn hl0 (by omega) hF hw, z_bs]
  · have hE : gp_E (gp_C (p (5 * c + 2) - 1) (fun s => p (97 + 2 * s) + 1) n l0 (p (5 * c + 3))) = 1000000 := if_neg hF
    rw [if_neg hF, hE, if_neg (show ¬ nI 1000000 < (1000000 : Int32) from nI_nlt (b := 1000000) (Nat.le_refl _) (by omega))]
end PX
theorem c_plan {σ : zS} (h : z_Inv σ) (a b d : Int32) : hc_B (f_Y_plan a b d) (f_M_plan a b d) σ := by
  obtain ⟨W, H, R, p, h⟩ := h
  obtain ⟨hD, hV, hG, hQ, hX, hB⟩ := id h
  obtain ⟨n1, n2⟩ := hg_D_N hD
  obtain ⟨d1, d2, d3, d4, d5⟩ := id hD
  obtain ⟨G0, G1, G2, G3, G4, G5, G6, G7, G8, G9, G10, G11, G12, G13, G14, G15, G16, G17⟩ := id hG
  have hM := hX.1
  have q := hg_Q0 hQ
  have hI : z_Inv σ := ⟨W, H, R, p, h⟩
  by_cases ha : 0 ≤ a.toInt ∧ a.toInt < ((W * H : Nat) : Int)
  · by_cases hb : 1 ≤ b.toInt ∧ b.toInt ≤ 6
    · obtain ⟨c, hc, rfl⟩ := hg_arg (by omega) ha
      obtain ⟨n, hn1, hn, rfl⟩ := hg_arg2 (lo := 1) (hi := 6) (by omega) hb
      have v3 := (hV.1 c (by omega)).2.2.1
      by_cases hd : d = nI 0 ∨ ∃ w, w < n ∧ d = nI (10 + w)
      · by_cases hk : p (5 * c + 2) = 0
        · have hg0 := (g_k_0 v3).mpr hk
          have hc0 : f_M_cropIn (nI 0) (nI c) σ = some (g_k p c) := mm_cropIn hV hQ (by omega) (by omega)
          refine ⟨- nI 2, σ, σ, ?_, ?_, hI⟩
          · unfold f_Y_plan
            rw [y_hasCell_1 hD hG, z_bs, if_pos ha, if_neg (show ¬ nI 1 = 0 by decide), show f_Y_isIn (nI n) (1 : Int32) (6 : Int32) σ = some (nI (if 1 ≤ (nI n).toInt ∧ (nI n).toInt ≤ 6 then 1 else 0)) from ki_1_6 _ _, z_bs, if_pos hb, if_neg (show ¬ nI 1 = 0 by decide)]
            rw [hg_join_to (x := ()) (by
              intro j
              rcases hd with rfl | ⟨w, hw, rfl⟩
              · exact if_pos rfl
              · rw [if_neg (show ¬ nI (10 + w) = 0 by rw [nl0, nI_eq (by omega) (by omega)]; omega), nl9, nI_add, y_isIn, nI_toInt (by omega), nI_toInt (by omega), show (10 : Int32).toInt = 10 from rfl, z_bs, if_pos (show (10 : Int) ≤ ((10 + w : Nat) : Int) ∧ ((10 + w : Nat) : Int) ≤ ((9 + n : Nat) : Int) by omega), if_neg (show ¬ nI 1 = 0 by decide)])]
            rw [if_pos ((z_ibn (show c < 2 ^ 31 by omega)).mpr (show c < 16 by omega)), nI_clamp (show c < 2 ^ 31 by omega), G5 c (by omega), z_lit4, if_pos hg0]
            rfl
          · unfold f_M_plan
            rw [mm_isCell hD hM, z_bs, if_pos ha, if_neg (show ¬ nI 1 = 0 by decide), km_1_6, z_bs, if_pos hb, if_neg (show ¬ nI 1 = 0 by decide)]
            rw [hg_join_to (x := ()) (by
              intro j
              rcases hd with rfl | ⟨w, hw, rfl⟩
              · exact if_pos rfl
              · rw [if_neg (show ¬ nI (10 + w) = 0 by rw [nl0, nI_eq (by omega) (by omega)]; omega), nl9, nI_add, mm_inI, Int32.toInt_toInt64, nI_toInt (by omega), nI_toInt (by omega), show (10 : Int64).toInt = 10 from rfl, z_bs, if_pos (show (10 : Int) ≤ ((10 + w : Nat) : Int) ∧ ((10 + w : Nat) : Int) ≤ ((9 + n : Nat) : Int) by omega), if_neg (show ¬ nI 1 = 0 by decide)])]
            rw [nl0, hc0, z_bs, z_lit4, if_pos hg0]
            rfl
        · obtain ⟨τ, t1, t2⟩ := yp_plan hD hV hG hc hk ha hb hn1 hn hd
          obtain ⟨υ, u1, u2⟩ := mp_plan (σ := τ) hD (hg_M_c hM (t2 90 (by omega)) (t2 92 (by omega))) hV (hg_Q_c hQ (t2 91 (by omega))) hc hk ha hb hn1 hn hd
          refine ⟨_, τ, υ, t1, u1, hg_I_c2 h (fun k hk => ?_) (fun j hj => by rw [u2 91 (by omega), t2 91 (by omega)])⟩
          unfold zk at hk
          rw [u2 k (by omega), t2 k (by omega)]
      · have hd0 : ¬ d = 0 := fun z => hd (Or.inl z)
        have hdx : ¬ ((10 : Int) ≤ d.toInt ∧ d.toInt ≤ ((9 + n : Nat) : Int)) := fun z => by
          obtain ⟨x, x1, x2, x3⟩ := hg_arg2 (a := d) (lo := 10) (hi := 9 + n) (by omega) z
          exact hd (Or.inr ⟨x - 10, by omega, by rw [x3, show 10 + (x - 10) = x by omega]⟩)
        refine ⟨-1, σ, σ, ?_, ?_, hI⟩
        · unfold f_Y_plan
          rw [y_hasCell_1 hD hG, z_bs, if_pos ha, if_neg (show ¬ nI 1 = 0 by decide), show f_Y_isIn (nI n) (1 : Int32) (6 : Int32) σ = some (nI (if 1 ≤ (nI n).toInt ∧ (nI n).toInt ≤ 6 then 1 else 0)) from ki_1_6 _ _, z_bs, if_pos hb, if_neg (show ¬ nI 1 = 0 by decide)]
          rw [show ∀ {T γ : Type} (rest : T → Option γ) (body : (T → Option γ) → Option γ), z_join rest body = body rest from fun _ _ => rfl, if_neg hd0, nl9, nI_add, y_isIn, nI_toInt (show 9 + n < 2 ^ 31 by omega), show (10 : Int32).toInt = 10 from rfl, z_bs, if_neg hdx, if_pos (show nI 0 = 0 from rfl)]
        · unfold f_M_plan
          rw [mm_isCell hD hM, z_bs, if_pos ha, if_neg (show ¬ nI 1 = 0 by decide), km_1_6, z_bs, if_pos hb, if_neg (show ¬ nI 1 = 0 by decide)]
          rw [show ∀ {T γ : Type} (rest : T → Option γ) (body : (T → Option γ) → Option γ), z_join rest body = body rest from fun _ _ => rfl, if_neg hd0, nl9, nI_add, mm_inI, Int32.toInt_toInt64, nI_toInt (show 9 + n < 2 ^ 31 by omega), show (10 : Int64).toInt = 10 from rfl, z_bs, if_neg hdx, if_pos (show nI 0 = 0 from rfl)]
    · refine ⟨-1, σ, σ, ?_, ?_, hI⟩
      · unfold f_Y_plan
        rw [y_hasCell_1 hD hG, z_bs, if_pos ha, if_neg (show ¬ nI 1 = 0 by decide), show f_Y_isIn b (1 : Int32) (6 : Int32) σ = some (nI (if 1 ≤ b.toInt ∧ b.toInt ≤ 6 then 1 else 0)) from ki_1_6 _ _, z_bs, if_neg hb, if_pos (show nI 0 = 0 from rfl)]
      · unfold f_M_plan
        rw [mm_isCell hD hM, z_bs, if_pos ha, if_neg (show ¬ nI 1 = 0 by decide), km_1_6, z_bs, if_neg hb, if_pos (show nI 0 = 0 from rfl)]
  · refine ⟨-1, σ, σ, ?_, ?_, hI⟩
    · unfold f_Y_plan
      rw [y_hasCell_1 hD hG, z_bs, if_neg ha, if_pos (show nI 0 = 0 from rfl)]
    · unfold f_M_plan
      rw [mm_isCell hD hM, z_bs, if_neg ha, if_pos (show nI 0 = 0 from rfl)]
