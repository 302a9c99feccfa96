/-! AHEAD, FIELDS, LONGEST -/
theorem sd0 {σ : Nat → Int32} (V : s_V σ) : s_sd σ = 0 ↔ ∀ t, t < hs_n σ → 0 ≤ (σ (13 + 4 * t)).toInt := by
  have nn := s_Vn V
  unfold s_sd
  rw [bs_zero (by omega)]
  constructor
  · intro h t ht
    have := of_decide_eq_false (h t ht)
    omega
  · intro h t ht
    exact decide_eq_false (by have := h t ht; omega)
theorem hb0 {σ : Nat → Int32} {h : Nat} (V : s_V σ) (c : ∀ t, t < hs_n σ → 0 ≤ (σ (13 + 4 * t)).toInt) : s_hb σ h = 0 := by
  have nn := s_Vn V
  unfold s_hb
  rw [bs_zero (by omega)]
  intro t ht
  unfold s_ho
  rw [decide_eq_false (by have := c t ht; omega)]
  rfl
theorem yr_38 {r : s_Ru} {σ : Nat → Int32} (V : s_V σ) {j : Nat} (h1 : j < 38) (h2 : j ≠ 4) (h3 : ∀ k, k < 7 → j ≠ 13 + 4 * k) : (s_yr r σ).2 j = σ j := by
  have nn := s_Vn V
  show hs_set (s_ks (s_ag (s_fo σ (s_Ls r σ) (hs_m σ)) (hs_m σ)) (hs_n σ)).2 4 _ j = σ j
  rw [hs_sn h2, ks_o h3 _ (by omega), ag_o (fun k hk => by omega) _ (by omega), fo_lo (by omega)]
theorem ny_38 {r : s_Ru} {σ : Nat → Int32} (V : s_V σ) (hy : 0 ≤ (σ 4).toInt ∧ (σ 4).toInt ≤ 999) {j : Nat} (h1 : j < 38) (h2 : j ≠ 4) (h3 : ∀ k, k < 7 → j ≠ 13 + 4 * k) : ∀ k, k ≤ 10000 → s_ny r σ k j = σ j := by
  intro k
  induction k with
  | zero => intro _; rfl
  | succ k ih =>
    intro hk
    exact (yr_38 (ny_i V hy k (by omega)).1.1 h1 h2 h3).trans (ih (by omega))
theorem ny_sk {r : s_Ru} {σ : Nat → Int32} (V : s_V σ) (hy : 0 ≤ (σ 4).toInt ∧ (σ 4).toInt ≤ 999) {t k : Nat} (ht : t < 7) (c : 0 ≤ (s_ny r σ k (13 + 4 * t)).toInt) : ∀ d, k + d ≤ 10000 → s_ny r σ (k + d) (13 + 4 * t) = s_ny r σ k (13 + 4 * t) := by
  intro d
  induction d with
  | zero => intro _; rfl
  | succ d ih =>
    intro hd
    have e := ih (by omega)
    have V1 := (ny_i (r := r) V hy (k + d) (by omega)).1.1
    rcases yr_st (r := r) V1 ht with z | z
    · exact z.trans e
    · rw [e] at z
      omega
theorem ny_sb {r : s_Ru} {σ : Nat → Int32} (V : s_V σ) (hy : 0 ≤ (σ 4).toInt ∧ (σ 4).toInt ≤ 999) (Q : s_Qd σ) {t : Nat} (ht : t < hs_n σ) : ∀ k, k ≤ 1000 → (s_ny r σ k (13 + 4 * t)).toInt ≤ 999 + k := by
  have nn := s_Vn V
  intro k
  induction k with
  | zero => intro _; exact (by have := Q.2 t ht; show (σ (13 + 4 * t)).toInt ≤ _; omega)
  | succ k ih =>
    intro hk
    have V1 := ny_i (r := r) V hy k (by omega)
    rcases yr_st (r := r) V1.1.1 (t := t) (by omega) with z | z
    · have := ih (by omega)
      show ((s_yr r (s_ny r σ k)).2 (13 + 4 * t)).toInt ≤ _
      rw [z]
      omega
    · show ((s_yr r (s_ny r σ k)).2 (13 + 4 * t)).toInt ≤ _
      rw [z.1]
      omega
/-- all STRUCK: the same for ever -/
theorem ny_all {r : s_Ru} {σ : Nat → Int32} (V : s_V σ) (hy : 0 ≤ (σ 4).toInt ∧ (σ 4).toInt ≤ 999) {k n : Nat} (hkn : k ≤ n) (hn : n ≤ 1000) (c : s_sd (s_ny r σ k) = 0) : ∀ t, t < hs_n σ → 0 ≤ (s_ny r σ k (13 + 4 * t)).toInt ∧ s_ny r σ n (13 + 4 * t) = s_ny r σ k (13 + 4 * t) := by
  intro t ht
  have nn := s_Vn V
  have V1 := (ny_i (r := r) V hy k (by omega)).1.1
  have nm := ny_nm (r := r) V hy (k := k) (by omega)
  have a := (sd0 V1).mp c t (by rw [nm.1]; exact ht)
  have := ny_sk (r := r) V hy (t := t) (k := k) (by omega) a (n - k) (by omega)
  rw [show k + (n - k) = n by omega] at this
  exact ⟨a, this⟩
theorem C_look_L13 {M0 : gM} {e : Nat} {r : s_Ru} {ρ : Nat → Int32} {N : Int32} {nn : Nat} (B : q_B M0 e r ρ) (V : s_V ρ) (hy : 0 ≤ (ρ 4).toInt ∧ (ρ 4).toInt ≤ 999) (hN : N.toInt = (nn : Int)) (h2 : nn ≤ 200) : ∀ (n k : Nat) {l2 : Int32} {M : gM}, q_C M0 M e (s_ny r ρ k) → l2.toInt = (k : Int) → k ≤ nn → nn - k < n → Ok (F_X11_lookAhead_L13 n (some 2) N l2 M) (fun M' => ∃ k, k ≤ nn ∧ q_C M0 M' e (s_ny r ρ k) ∧ (k = nn ∨ s_sd (s_ny r ρ k) = 0)) := by
  intro n
  induction n with
  | zero => intro k l2 M _ _ _ _; omega
  | succ n ih =>
    intro k l2 M Q hl hk hn
    obtain ⟨⟨G, r11⟩, X⟩ := q_G B Q.1
    have g2 := G_k2 G
    obtain ⟨_, ⟨⟨ks, _⟩, _⟩, _⟩ := k_XE Q.2
    show Ok (F_X11_lookAhead_b13 (F_X11_lookAhead_L13 n) (some 2) N l2 M) _
    delta F_X11_lookAhead_b13
    by_cases c : N ≤ l2
    · have := i_le c
      exact Ok_t c (Ok_s ⟨k, hk, Q, Or.inl (by omega)⟩)
    · have := i_nle c
      refine Ok_e c (x_gR g2 (G_r6 G) (x_gR g2 r11 (x_gO ks (x_eq (C_standing Q.2) ?_))))
      refine Ok_i (fun d => Ok_s ⟨k, hk, Q, Or.inr d⟩) (fun _ => ?_)
      refine x_gR g2 (G_r4 G) (x_gR g2 r11 (x_gR g2 (G_r6 G) (x_gO g2 ?_)))
      refine Ok_b (C_q_rule B Q.1) (fun rl J => ?_)
      have V1 := ny_i (r := r) V hy k (by omega)
      refine x_gO (G_k4 G) (Ok_b (C_q_year B Q (by omega) J) (fun q z => ?_))
      obtain ⟨v, M12⟩ := q
      exact ih (k + 1) z (i_nx hl (by omega)) (by omega) (by omega)
theorem C_lookAhead {M0 M : gM} {e : Nat} {r : s_Ru} {ρ : Nat → Int32} {N : Int32} {nn : Nat} (B : q_B M0 e r ρ) (f : q_F M0 M) (V : s_V ρ) (hy : 0 ≤ (ρ 4).toInt ∧ (ρ 4).toInt ≤ 999) (hN : N.toInt = (nn : Int)) (h2 : nn ≤ 200) : Ok (F_X11_lookAhead (some 2) N M) (fun M' => ∃ k, k ≤ nn ∧ q_C M0 M' e (s_ny r ρ k) ∧ (k = nn ∨ s_sd (s_ny r ρ k) = 0)) := by
  obtain ⟨⟨G, r11⟩, X⟩ := q_G B f
  have g2 := G_k2 G
  delta F_X11_lookAhead F_X11_lookAhead_b0
  refine x_gR g2 (G_r6 G) (x_gR g2 (G_r5 G) (x_gO (k_LS_of G (s := 14) (by decide)).1.1 ?_))
  refine Ok_b (C_q_copy B f) (fun M4 Q => ?_)
  exact C_look_L13 B V hy hN h2 g_fuel 0 (l2 := 0) Q rfl (Nat.zero_le _) (n_fu (by omega))
theorem q_done {r : s_Ru} {ρ : Nat → Int32} {M : gM} (Q : e_Q r ρ M ρ) : ∀ j, j < 157 → M.2.1 185 j = ρ j := fun j _ => by rw [Q.1.1.2.1]
theorem E_ahead_L28 {r : s_Ru} {ρ : Nat → Int32} {l1 N : Int32} {h nn : Nat} (V : s_V ρ) (hy : 0 ≤ (ρ 4).toInt ∧ (ρ 4).toInt ≤ 999) (h1 : l1.toInt = (h : Int)) (hh : h < 7) (hN : N.toInt = (nn : Int)) (h2 : nn ≤ 200) : ∀ (n k : Nat) {l3 : Int32} {M : gM}, e_Q r ρ M (s_ny r ρ k) → l3.toInt = (k : Int) → k ≤ nn → nn - k < n → Ok (F_X12_ahead_L28 n (some 175) l1 N l3 M) (fun q => q.1 = s_hb (s_ny r ρ nn) h ∧ ∀ j, j < 157 → q.2.2.1 185 j = ρ j) := by
  intro n
  induction n with
  | zero => intro k l3 M _ _ _ _; omega
  | succ n ih =>
    intro k l3 M Q hl hk hn
    show Ok (F_X12_ahead_b28 (F_X12_ahead_L28 n) (some 175) l1 N l3 M) _
    delta F_X12_ahead_b28
    by_cases c : N ≤ l3
    · have := i_le c
      have e : k = nn := by omega
      subst e
      refine Ok_t c (x_eq (e_gO Q.1.1.1) (x_eq (E_holdsOf Q.1.1 h1 hh) ?_))
      refine Ok_b (E_q_lays V Q) (fun M3 z => ?_)
      exact Ok_s ⟨rfl, q_done z.1⟩
    · have := i_nle c
      have V1 := ny_i (r := r) V hy k (by omega)
      refine Ok_e c (x_eq (e_gO Q.1.1.1) (Ok_b (E_q_year Q (by omega)) (fun q z => ?_)))
      obtain ⟨v, M6⟩ := q
      exact ih (k + 1) z.2 (i_nx hl (by omega)) (by omega) (by omega)
theorem lw9_ahead {L : Nat} {M : gM} {l1 l2 : Int32} (R : lw9 L M) : lw_42 L M (F_X11_ahead (some 2) l1 l2 M) (F_X12_ahead (some 175) l1 l2) := by
  have R8 := R.1
  have G := R8.2
  have hl := lw8_len R8.1.1.1
  refine lw9_qry R (S_X11_ahead R8.1.1.1.1.1.1 R8.1.1.1.2.1.1.1) (fun M1 H W => S_X12_ahead H W) (by decide) (by decide) (by decide) (by decide) (fun e σ nx sz P I rc Rr C h6 hf => ?_)
  have X := C.1.1.2
  have k2 := G_k2 G
  have V := X.1.1.2.2
  have Q := X.2.2
  have z0 : (0 : Int32).toInt = 0 := rfl
  have z200 : (200 : Int32).toInt = 200 := rfl
  have B := q_B_of G hl C h6 hf
  have nn := s_Vn V
  by_cases kH : s_iH σ l1 = true
  · obtain ⟨a, a1, a2, a3, _⟩ := s_iH_n V kH
    by_cases c : 0 ≤ l2.toInt ∧ l2.toInt ≤ 200
    · obtain ⟨N, hN⟩ : ∃ N : Nat, l2.toInt = (N : Int) := ⟨l2.toInt.toNat, by omega⟩
      refine ⟨s_hb (s_ny (s_ru Rr (M.2.1 2 13)) σ N) a, ?_, fun M1 X1 E1 f1 _ => ?_⟩
      · delta F_X11_ahead F_X11_ahead_b0
        refine x_gO k2 (x_eq (C_isHeirX k2 C.1.1.1 X.1.1) ?_)
        rw [if_pos kH, if_neg (by decide), if_neg (fun z => by have := i_lt z; omega), if_pos (Int32.le_iff_toInt_le.mpr (by omega))]
        refine Ok_b (C_lookAhead B q_F_r V Q.1 hN (by omega)) (fun M3 z => ?_)
        obtain ⟨k, hk, q, d⟩ := z
        obtain ⟨⟨G3, r3⟩, _⟩ := q_G B q.1
        obtain ⟨_, ⟨⟨ks, _⟩, _⟩, _⟩ := k_XE q.2
        have nm := ny_nm (r := s_ru Rr (M.2.1 2 13)) V Q.1 (k := k) (by omega)
        refine x_gR (G_k2 G3) (G_r6 G3) (x_gR (G_k2 G3) r3 (x_gO ks (x_eq (C_heldBy q.2 a1 (by omega)) ?_)))
        refine Ok_s ⟨?_, q_F_w q.1⟩
        show s_hb (s_ny (s_ru Rr (M.2.1 2 13)) σ k) a = _
        rcases d with d | d
        · rw [d]
        · have al := ny_all (r := s_ru Rr (M.2.1 2 13)) V Q.1 hk (by omega) d
          have nm2 := ny_nm (r := s_ru Rr (M.2.1 2 13)) V Q.1 (k := N) (by omega)
          rw [hb0 (ny_i V Q.1 k (by omega)).1.1 (fun t ht => (al t (by omega)).1), hb0 (ny_i V Q.1 N (by omega)).1.1 (fun t ht => by rw [(al t (by omega)).2]; exact (al t (by omega)).1)]
      · have J := E_inForce E1 h6 (by rw [f1]; exact hf)
        rw [f1] at J
        delta F_X12_ahead F_X12_ahead_b0
        rw [e_gO X1.1, Option.bind_some, E_isHeirX X1, Option.bind_some, if_pos kH, if_neg (by decide), E_in (a := 0) (b := 200) rfl rfl, Option.bind_some, if_pos c, if_neg (by decide)]
        refine Ok_b (E_q_keeps X1 J) (fun M4 z => ?_)
        exact E_ahead_L28 V Q.1 a1 (by omega) hN (by omega) g_fuel 0 (l3 := 0) z.1 rfl (Nat.zero_le _) (n_fu (by omega))
    · refine lw9_qn (w := -1) ?_ (fun M1 X1 => ?_)
      · delta F_X11_ahead F_X11_ahead_b0 F_X11_ahead_b19
        rw [t_gO k2, Option.bind_some, C_isHeirX k2 C.1.1.1 X.1.1, Option.bind_some, if_pos kH, if_neg (by decide)]
        by_cases d : l2 < 0
        · rw [if_pos d]
        · have := i_nlt d
          rw [if_neg d, if_neg (fun z => by have := i_le z; omega)]
      · delta F_X12_ahead F_X12_ahead_b0 F_X12_ahead_b20
        rw [e_gO X1.1, Option.bind_some, E_isHeirX X1, Option.bind_some, if_pos kH, if_neg (by decide), E_in (a := 0) (b := 200) rfl rfl, Option.bind_some, if_neg c, if_pos rfl]
  · refine lw9_qn (w := -1) ?_ (fun M1 X1 => ?_)
    · delta F_X11_ahead F_X11_ahead_b0 F_X11_ahead_b19
      rw [t_gO k2, Option.bind_some, C_isHeirX k2 C.1.1.1 X.1.1, Option.bind_some, if_neg kH, if_pos rfl]
    · delta F_X12_ahead F_X12_ahead_b0 F_X12_ahead_b20
      rw [e_gO X1.1, Option.bind_some, E_isHeirX X1, Option.bind_some, if_neg kH, if_pos rfl]
