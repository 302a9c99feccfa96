/-! STRIKE and COST -/
theorem i_nm {x : Int32} (h : 0 ≤ x.toInt) : ¬ x = -1 := fun z => by rw [z] at h; exact absurd h (by decide)
noncomputable def s_sl (r : s_Ru) (t : Nat) : Nat → (Nat → Int32) → Int32
  | 0, σ => σ (13 + 4 * t)
  | n + 1, σ => if (σ (13 + 4 * t)).toInt < 0 then s_sl r t n (s_yr r σ).2 else σ (13 + 4 * t)
theorem sl_r {r : s_Ru} {t : Nat} : ∀ (n : Nat) {σ : Nat → Int32}, s_V σ → t < hs_n σ → n ≤ 200 → 0 ≤ (σ 4).toInt → (σ 4).toInt ≤ 2000 - n → -1 ≤ (s_sl r t n σ).toInt := by
  intro n
  induction n with
  | zero =>
    intro σ V ht _ _ _
    have nn := s_Vn V
    exact (V.2.2.1 t (by omega)).2.2
  | succ n ih =>
    intro σ V ht hn h0 h1
    have nn := s_Vn V
    have y4 := yr_4 (r := r) V
    have a4 := i_addc (x := σ 4) (c := (1 : Int32)) (n := 1) rfl (by omega) (by omega)
    unfold s_sl
    split
    · exact ih (yr_Vx V h0) (by rw [(yr_nm V).1]; exact ht) (by omega) (by rw [y4]; omega) (by rw [y4]; omega)
    · exact (V.2.2.1 t (by omega)).2.2
theorem C_strike_L2 {M0 : gM} {e : Nat} {r : s_Ru} {ρ : Nat → Int32} {l1 : Int32} {t : Nat} (B : q_B M0 e r ρ) (h1 : l1.toInt = (t : Int)) : ∀ (n k : Nat) {l2 : Int32} {M : gM} {σ : Nat → Int32}, q_C M0 M e σ → t < hs_n σ → 0 ≤ (σ 4).toInt → (σ 4).toInt ≤ 1000 + k → l2.toInt = (k : Int) → k ≤ 200 → 200 - k < n → Ok (F_X11_strikeLater_L2 n (some 2) l1 l2 M) (fun q => q.1 = s_sl r t (200 - k) σ ∧ q_F M0 q.2) := by
  have z200 : (200 : Int32).toInt = 200 := rfl
  intro n
  induction n with
  | zero => intro k l2 M σ _ _ _ _ _ _ _; omega
  | succ n ih =>
    intro k l2 M σ Q ht h0 hy hl hk hn
    obtain ⟨⟨G, r11⟩, _⟩ := q_G B Q.1
    have g2 := G_k2 G
    obtain ⟨_, ⟨⟨ks, _⟩, k3, k4⟩, _, r2, r3⟩ := k_XE Q.2
    have V := Q.2.2.2
    have nn := s_Vn V
    have ft := k_Xsk Q.2 ht
    have ss := s_struck (t := t) V (by omega)
    have out : Ok (F_X11_strikeLater_b48 (some 2) l1 M) (fun q => q.1 = σ (13 + 4 * t) ∧ q_F M0 q.2) := by
      delta F_X11_strikeLater_b48
      exact x_gR g2 (G_r6 G) (x_gR ks r3 (x_aI k4 h1 (by omega) ft.1 (Ok_s ⟨rfl, Q.1⟩)))
    show Ok (F_X11_strikeLater_b2 (F_X11_strikeLater_L2 n) (some 2) l1 l2 M) _
    delta F_X11_strikeLater_b2
    by_cases c : (200 : Int32) ≤ l2
    · have := i_le c
      have e : 200 - k = 0 := by omega
      rw [e]
      exact Ok_t c out
    · have := i_nle c
      have e : 200 - k = (200 - (k + 1)) + 1 := by omega
      rw [e]
      refine Ok_e c (x_gR g2 (G_r6 G) (x_gR ks r3 (x_aI k4 h1 (by omega) ft.1 ?_)))
      refine Ok_i (fun d => ?_) (fun d => ?_)
      · refine x_gR g2 (G_r4 G) (x_gR g2 r11 (x_gR g2 (G_r6 G) (x_gO g2 ?_)))
        refine Ok_b (C_q_rule B Q.1) (fun rl J => ?_)
        refine x_gO (G_k4 G) (Ok_b (C_q_year B Q h0 J) (fun q z => ?_))
        obtain ⟨v, M11⟩ := q
        have y4 := yr_4 (r := r) V
        have a4 := i_addc (x := σ 4) (c := (1 : Int32)) (n := 1) rfl (by omega) (by omega)
        have := ih (k + 1) z (by rw [(yr_nm V).1]; exact ht) (by rw [y4]; omega) (by rw [y4]; omega) (i_nx hl (by omega)) (by omega) (by omega)
        show Ok _ (fun q : Int32 × gM => q.1 = (if (σ (13 + 4 * t)).toInt < 0 then s_sl r t (200 - (k + 1)) (s_yr r σ).2 else σ (13 + 4 * t)) ∧ q_F M0 q.2)
        rw [if_pos (ss.mp d)]
        exact this
      · show Ok _ (fun q : Int32 × gM => q.1 = (if (σ (13 + 4 * t)).toInt < 0 then s_sl r t (200 - (k + 1)) (s_yr r σ).2 else σ (13 + 4 * t)) ∧ q_F M0 q.2)
        rw [if_neg (mt ss.mpr d)]
        exact out
theorem E_strike_L2 {r : s_Ru} {ρ : Nat → Int32} {l1 : Int32} {t : Nat} (Vρ : s_V ρ) (h1 : l1.toInt = (t : Int)) : ∀ (n k : Nat) {l2 : Int32} {M : gM} {σ : Nat → Int32}, e_Q r ρ M σ → t < hs_n σ → 0 ≤ (σ 4).toInt → (σ 4).toInt ≤ 1000 + k → l2.toInt = (k : Int) → k ≤ 200 → 200 - k < n → Ok (F_X12_strikeOf_L2 n (some 175) l1 l2 M) (fun q => q.1 = s_sl r t (200 - k) σ ∧ e_Q r ρ q.2 ρ) := by
  have z200 : (200 : Int32).toInt = 200 := rfl
  have z0 : (0 : Int32).toInt = 0 := rfl
  intro n
  induction n with
  | zero => intro k l2 M σ _ _ _ _ _ _ _; omega
  | succ n ih =>
    intro k l2 M σ Q ht h0 hy hl hk hn
    have X := Q.1.1
    have V := X.2.2
    have nn := s_Vn V
    have tv := E_thingOf X h1 (l2 := 3) (w := 3) rfl (by omega) (by decide)
    rw [show 10 + 4 * t + 3 = 13 + 4 * t by omega] at tv
    have out : Ok (F_X12_strikeOf_b29 (some 175) l1 M) (fun q => q.1 = σ (13 + 4 * t) ∧ e_Q r ρ q.2 ρ) := by
      delta F_X12_strikeOf_b29
      exact x_eq (e_gO X.1) (x_eq tv (Ok_b (E_q_lays Vρ Q) (fun M3 z => Ok_s ⟨rfl, z.1⟩)))
    show Ok (F_X12_strikeOf_b2 (F_X12_strikeOf_L2 n) (some 175) l1 l2 M) _
    delta F_X12_strikeOf_b2
    by_cases c : (200 : Int32) ≤ l2
    · have := i_le c
      have e : 200 - k = 0 := by omega
      rw [e]
      exact Ok_t c out
    · have := i_nle c
      have e : 200 - k = (200 - (k + 1)) + 1 := by omega
      rw [e]
      refine Ok_e c (x_eq (e_gO X.1) (x_eq tv ?_))
      refine Ok_i (fun d => ?_) (fun d => ?_)
      · have d := i_le d
        show Ok _ (fun q : Int32 × gM => q.1 = (if (σ (13 + 4 * t)).toInt < 0 then s_sl r t (200 - (k + 1)) (s_yr r σ).2 else σ (13 + 4 * t)) ∧ e_Q r ρ q.2 ρ)
        rw [if_neg (by omega)]
        exact out
      · have d := i_nle d
        refine Ok_b (E_q_year Q h0) (fun q z => ?_)
        obtain ⟨v, M4⟩ := q
        have y4 := yr_4 (r := r) V
        have a4 := i_addc (x := σ 4) (c := (1 : Int32)) (n := 1) rfl (by omega) (by omega)
        have := ih (k + 1) z.2 (by rw [(yr_nm V).1]; exact ht) (by rw [y4]; omega) (by rw [y4]; omega) (i_nx hl (by omega)) (by omega) (by omega)
        show Ok _ (fun q : Int32 × gM => q.1 = (if (σ (13 + 4 * t)).toInt < 0 then s_sl r t (200 - (k + 1)) (s_yr r σ).2 else σ (13 + 4 * t)) ∧ e_Q r ρ q.2 ρ)
        rw [if_pos (by omega)]
        exact this
theorem C_strikeLater {M0 M : gM} {e : Nat} {r : s_Ru} {ρ σ : Nat → Int32} {l1 : Int32} {t : Nat} (B : q_B M0 e r ρ) (h1 : l1.toInt = (t : Int)) (Q : q_C M0 M e σ) (ht : t < hs_n σ) (hy : 0 ≤ (σ 4).toInt ∧ (σ 4).toInt ≤ 999) : Ok (F_X11_strikeLater (some 2) l1 M) (fun q => q.1 = s_sl r t 200 σ ∧ q_F M0 q.2) := by
  delta F_X11_strikeLater F_X11_strikeLater_b0
  exact C_strike_L2 B h1 g_fuel 0 (l2 := 0) Q ht hy.1 (by omega) rfl (Nat.zero_le _) (n_fu (by omega))
theorem E_strikeOf {r : s_Ru} {ρ σ : Nat → Int32} {M : gM} {l1 : Int32} {t : Nat} (Vρ : s_V ρ) (h1 : l1.toInt = (t : Int)) (Q : e_Q r ρ M σ) (ht : t < hs_n σ) (hy : 0 ≤ (σ 4).toInt ∧ (σ 4).toInt ≤ 999) : Ok (F_X12_strikeOf (some 175) l1 M) (fun q => q.1 = s_sl r t 200 σ ∧ e_Q r ρ q.2 ρ) := by
  delta F_X12_strikeOf F_X12_strikeOf_b0
  exact E_strike_L2 Vρ h1 g_fuel 0 (l2 := 0) Q ht hy.1 (by omega) rfl (Nat.zero_le _) (n_fu (by omega))
theorem lw9_strike {L : Nat} {M : gM} {l1 : Int32} (R : lw9 L M) : lw_42 L M (F_X11_strike (some 2) l1 M) (F_X12_strike (some 175) l1) := by
  have R8 := R.1
  have G := R8.2
  have hl := lw8_len R8.1.1.1
  refine lw9_qry R (S_X11_strike R8.1.1.1.1.1.1 R8.1.1.1.2.1.1.1) (fun M1 H W => S_X12_strike H W) (by decide) (by decide) (by decide) (by decide) (fun e σ nx sz P I rc Rr C h6 hf => ?_)
  have X := C.1.1.2
  have k2 := G_k2 G
  have V := X.1.1.2.2
  have Q := X.2.2
  have Qy := Q.1
  have z0 : (0 : Int32).toInt = 0 := rfl
  have zm : (-1 : Int32).toInt = -1 := rfl
  have B := q_B_of G hl C h6 hf
  have nn := s_Vn V
  have ks : g_k M 9 = (8, 0) := X.1.1.1.2.1.1
  by_cases kT : s_iT σ l1 = true
  · obtain ⟨a, a1, a2, a3, _⟩ := s_iT_n V kT
    have lr := sl_r (r := s_ru Rr (M.2.1 2 13)) (t := a) 200 V a2 (by omega) Q.1.1 (by omega)
    refine ⟨(if s_sl (s_ru Rr (M.2.1 2 13)) a 200 σ = -1 then -2 else s_sl (s_ru Rr (M.2.1 2 13)) a 200 σ), ?_, fun M1 X1 E1 f1 _ => ?_⟩
    · delta F_X11_strike F_X11_strike_b0
      refine x_gO k2 (x_eq (C_isThingX k2 C.1.1.1 X.1.1) ?_)
      rw [if_pos kT, if_neg (by decide)]
      refine x_gR k2 (G_r6 G) (x_gR k2 (G_r5 G) (x_gO (k_LS_of G (s := 14) (by decide)).1.1 ?_))
      refine Ok_b (C_q_copy B q_F_r) (fun M6 q => ?_)
      have G6 := (q_G B q.1).1.1
      refine x_gC (G_k2 G6) (Ok_b (C_strikeLater B a1 q a2 Q.1) (fun x z => ?_))
      obtain ⟨v, M9⟩ := x
      obtain ⟨z1, z2⟩ := z
      dsimp only at z1 z2 ⊢
      subst z1
      refine Ok_i (fun d => Ok_s ⟨?_, q_F_w z2⟩) (fun d => Ok_s ⟨?_, q_F_w z2⟩)
      · rw [if_pos d]
      · rw [if_neg d]
    · have J := E_inForce E1 h6 (by rw [f1]; exact hf)
      rw [f1] at J
      delta F_X12_strike F_X12_strike_b0
      rw [e_gO X1.1, Option.bind_some, E_isThingX X1, Option.bind_some, if_pos kT, if_neg (by decide)]
      refine Ok_b (E_q_keeps X1 J) (fun M3 z => ?_)
      rw [e_gC z.1.1.1.1, Option.bind_some]
      refine Ok_b (E_strikeOf V a1 z.1 a2 Q.1) (fun x z => ?_)
      obtain ⟨v, M6⟩ := x
      obtain ⟨z1, z2⟩ := z
      dsimp only at z1 z2 ⊢
      subst z1
      refine Ok_i (fun d => Ok_s ⟨?_, q_done z2⟩) (fun d => Ok_s ⟨?_, q_done z2⟩)
      · have := i_le d
        rw [if_neg (fun z => by rw [z] at this; omega)]
      · have := i_nle d
        rw [if_pos (Int32.toInt_inj.mp (by omega))]
  · refine lw9_qn (w := -1) ?_ (fun M1 X1 => ?_)
    · delta F_X11_strike F_X11_strike_b0
      rw [t_gO k2, Option.bind_some, C_isThingX k2 C.1.1.1 X.1.1, Option.bind_some, if_neg kT, if_pos rfl]
    · delta F_X12_strike F_X12_strike_b0
      rw [e_gO X1.1, Option.bind_some, E_isThingX X1, Option.bind_some, if_neg kT, if_pos rfl]
/-! COST -/
theorem lw9_cost {L : Nat} {M : gM} {l1 : Int32} (R : lw9 L M) : lw_42 L M (F_X11_cost (some 2) l1 M) (F_X12_cost (some 175) l1) := by
  have R8 := R.1
  have G := R8.2
  have hl := lw8_len R8.1.1.1
  refine lw9_qry R (S_X11_cost R8.1.1.1.1.1.1 R8.1.1.1.2.1.1.1) (fun M1 H W => S_X12_cost H W) (by decide) (by decide) (by decide) (by decide) (fun e σ nx sz P I rc Rr C h6 hf => ?_)
  have X := C.1.1.2
  have k2 := G_k2 G
  have V := X.1.1.2.2
  have Q := X.2.2
  have Qy := Q.1
  have z0 : (0 : Int32).toInt = 0 := rfl
  have zm : (-1 : Int32).toInt = -1 := rfl
  have B := q_B_of G hl C h6 hf
  have nn := s_Vn V
  have wh := X.1.2
  obtain ⟨_, ⟨⟨ks, _⟩, k3, k4⟩, _, r2, r3⟩ := k_XE X.1.1
  have v8 : M.2.1 9 4 = σ 8 := X.1.1.2.1.2.1.1.1
  by_cases kT : s_iT σ l1 = true
  · obtain ⟨a, a1, a2, a3, _⟩ := s_iT_n V kT
    have ft := k_Xsk X.1.1 a2
    have ss := s_struck (t := a) V (by omega)
    have tv : ∀ M1, e_V M1 σ → F_X12_thingOf (some 175) l1 3 M1 = some (σ (13 + 4 * a)) := fun M1 X1 => by
      have := E_thingOf X1 a1 (l2 := 3) (w := 3) rfl (by omega) (by decide)
      rwa [show 10 + 4 * a + 3 = 13 + 4 * a by omega] at this
    by_cases kb : hs_is (σ 8) l1 = 1
    · refine lw9_qn (w := 0) ?_ (fun M1 X1 => ?_)
      · delta F_X11_cost F_X11_cost_b0 F_X11_cost_b40
        rw [t_gO k2, Option.bind_some, C_isThingX k2 C.1.1.1 X.1.1, Option.bind_some, if_pos kT, if_neg (by decide), t_gR k2 (G_r5 G), Option.bind_some, t_gI ks, Option.bind_some, v8, C_bit, Option.bind_some, if_pos kb]
      · delta F_X12_cost F_X12_cost_b0 F_X12_cost_b35
        rw [e_gO X1.1, Option.bind_some, E_isThingX X1, Option.bind_some, if_pos kT, if_neg (by decide), e_sd X1 (k := 8) rfl (by decide)]
        rw [show F_X12_isOf (σ 8) l1 M1 = some 1 from if_pos kb, Option.bind_some, if_neg (by decide)]
    · by_cases c : (σ (13 + 4 * a)).toInt < 0
      · obtain ⟨τ, hτ⟩ : ∃ τ, τ = hs_set σ 8 (σ 8 ||| hs_bit l1) := ⟨_, rfl⟩
        have ne : ∀ j, j ≠ 8 → τ j = σ j := fun j hj => by rw [hτ]; exact hs_sn hj
        have nm := nm_of (σ := σ) (σ' := τ) (fun j hj => ne j (by omega))
        have lr := sl_r (r := s_ru Rr (M.2.1 2 13)) (t := a) 200 V a2 (by omega) Q.1.1 (by omega)
        refine ⟨(if s_sl (s_ru Rr (M.2.1 2 13)) a 200 σ = -1 then -1000 else if s_sl (s_ru Rr (M.2.1 2 13)) a 200 τ = -1 then -1000 else s_sl (s_ru Rr (M.2.1 2 13)) a 200 σ - s_sl (s_ru Rr (M.2.1 2 13)) a 200 τ), ?_, fun M1 X1 E1 f1 _ => ?_⟩
        · delta F_X11_cost F_X11_cost_b0
          refine x_gO k2 (x_eq (C_isThingX k2 C.1.1.1 X.1.1) ?_)
          rw [if_pos kT, if_neg (by decide)]
          refine x_gR k2 (G_r5 G) (x_gI ks v8 (x_eq C_bit (Ok_e kb ?_)))
          refine x_gR k2 (G_r5 G) (x_gR ks r3 (x_aI k4 a1 (by omega) ft.1 (Ok_t (ss.mpr c) ?_)))
          refine x_gR k2 (G_r6 G) (x_gR k2 (G_r5 G) (x_gO (k_LS_of G (s := 14) (by decide)).1.1 ?_))
          refine Ok_b (C_q_copy B q_F_r) (fun M12 q => ?_)
          have G12 := (q_G B q.1).1.1
          refine x_gC (G_k2 G12) (Ok_b (C_strikeLater B a1 q a2 Q.1) (fun x z => ?_))
          obtain ⟨v14, M15⟩ := x
          obtain ⟨z1, q15⟩ := z
          dsimp only at z1 q15 ⊢
          subst z1
          have G15 := (q_G B q15).1.1
          have g15 := G_k2 G15
          refine x_gR g15 (G_r6 G15) (x_gR g15 (G_r5 G15) (x_gO (k_LS_of G15 (s := 14) (by decide)).1.1 ?_))
          refine Ok_b (C_q_copy B q15) (fun M19 q => ?_)
          have G19 := (q_G B q.1).1.1
          have ks19 := (k_LS_of G19 (s := 14) (by decide)).1.1
          refine x_gR (G_k2 G19) (G_r6 G19) (x_gI ks19 (q.2.2.1.2.1.1.1) (x_pI ks19 ?_))
          have f2 : k_Fs 14 M19 (mI M19 14 4 (σ 8 ||| hs_bit l1)) := k_Fs_up (by omega)
          have q22 : q_C M (mI M19 14 4 (σ 8 ||| hs_bit l1)) e τ := by
            refine ⟨q_F_t q.1 (q_F_s f2), ?_⟩
            rw [hτ]
            exact k_X_8 q.2 (by unfold w_h at wh; omega) f2 y_mI1 (fun i k h1 h2 h3 => mI_ne (by omega))
          have G22 := (q_G B q22.1).1.1
          refine x_gC (G_k2 G22) (Ok_b (C_strikeLater B a1 q22 (by omega) (by rw [ne 4 (by decide)]; exact Q.1)) (fun x z => ?_))
          obtain ⟨v24, M25⟩ := x
          obtain ⟨z1, q25⟩ := z
          dsimp only at z1 q25 ⊢
          subst z1
          delta F_X11_cost_b101
          refine Ok_i (fun d => Ok_s ⟨?_, q_F_w q25⟩) (fun d => Ok_i (fun d2 => Ok_s ⟨?_, q_F_w q25⟩) (fun d2 => Ok_s ⟨?_, q_F_w q25⟩))
          · rw [if_pos d]
          · rw [if_neg d, if_pos d2]
          · rw [if_neg d, if_neg d2]
        · have J := E_inForce E1 h6 (by rw [f1]; exact hf)
          rw [f1] at J
          delta F_X12_cost F_X12_cost_b0
          rw [e_gO X1.1, Option.bind_some, E_isThingX X1, Option.bind_some, if_pos kT, if_neg (by decide), e_sd X1 (k := 8) rfl (by decide)]
          rw [show F_X12_isOf (σ 8) l1 M1 = some 0 from if_neg kb, Option.bind_some, if_pos rfl, tv M1 X1, Option.bind_some, if_pos (Int32.lt_iff_toInt_lt.mpr (by omega))]
          refine Ok_b (E_q_keeps X1 J) (fun M7 z => ?_)
          rw [e_gC z.1.1.1.1, Option.bind_some]
          refine Ok_b (E_strikeOf V a1 z.1 a2 Q.1) (fun x z => ?_)
          obtain ⟨v9, M10⟩ := x
          obtain ⟨z1, q10⟩ := z
          dsimp only at z1 q10 ⊢
          subst z1
          have X10 := q10.1.1
          have H10 := X10.1
          rw [e_gR H10 (w := 185) rfl (by decide), Option.bind_some, e_aI H10 (t := 20) (i := 185) (n := 157) rfl (by decide) (by decide) (by decide), Option.bind_some]
          refine e_s185 H10 X10.2.1 (k := 8) rfl (by decide) (y_full rfl) (fun M13 H13 f13 e13 => ?_)
          have e13' : M13.2.1 185 = τ := by
            rw [e13, X10.2.1, hτ]
            rfl
          have Vτ : s_V τ := by
            obtain ⟨V1, V2, V3, V4⟩ := V
            unfold s_V s_va s_st
            rw [ne 1 (by decide), ne 2 (by decide)]
            refine ⟨V1, fun a t ha ht => ?_, fun t ht => ?_, fun a ha => ?_⟩
            · rw [ne _ (by omega), ne _ (by omega)]
              exact V2 a t ha ht
            · rw [ne _ (by omega), ne _ (by omega), ne _ (by omega), ne _ (by omega)]
              exact V3 t ht
            · rw [ne _ (by omega), ne _ (by omega)]
              exact V4 a ha
          have q13 : e_Q (s_ru Rr (M.2.1 2 13)) σ M13 τ := ⟨⟨⟨H13, e13', Vτ⟩, e_I_m q10.1.2 f13 (by decide)⟩, fun j hj => by rw [y_fa (i := 188) f13 (by decide) (by decide) j]; exact q10.2.1 j hj, fun j hj => ne j (by omega)⟩
          rw [e_gC H13, Option.bind_some]
          refine Ok_b (E_strikeOf V a1 q13 (by omega) (by rw [ne 4 (by decide)]; exact Q.1)) (fun x z => ?_)
          obtain ⟨v15, M16⟩ := x
          obtain ⟨z1, q16⟩ := z
          dsimp only at z1 q16 ⊢
          subst z1
          have lr2 := sl_r (r := s_ru Rr (M.2.1 2 13)) (t := a) 200 Vτ (by omega) (by omega) (by rw [ne 4 (by decide)]; exact Q.1.1) (by rw [ne 4 (by decide)]; omega)
          delta F_X12_cost_b74
          refine Ok_i (fun d => Ok_s ⟨?_, q_done q16⟩) (fun d => Ok_i (fun d2 => Ok_s ⟨?_, q_done q16⟩) (fun d2 => Ok_s ⟨?_, q_done q16⟩))
          · have := i_lt d
            rw [if_pos (Int32.toInt_inj.mp (by omega))]
          · have := i_nlt d
            have := i_le d2
            rw [if_neg (i_nm (by omega)), if_neg (i_nm (by omega))]
          · have := i_nlt d
            have := i_nle d2
            rw [if_neg (i_nm (by omega)), if_pos (Int32.toInt_inj.mp (by omega))]
      · refine lw9_qn (w := 0) ?_ (fun M1 X1 => ?_)
        · delta F_X11_cost F_X11_cost_b0 F_X11_cost_b40
          rw [t_gO k2, Option.bind_some, C_isThingX k2 C.1.1.1 X.1.1, Option.bind_some, if_pos kT, if_neg (by decide), t_gR k2 (G_r5 G), Option.bind_some, t_gI ks, Option.bind_some, v8, C_bit, Option.bind_some, if_neg kb, Option.bind_some, t_gR ks r3, Option.bind_some, t_aI k4 (by omega) (by omega), Option.bind_some, i_cl a1, ft.1, if_neg (mt ss.mp c)]
        · delta F_X12_cost F_X12_cost_b0 F_X12_cost_b35
          rw [e_gO X1.1, Option.bind_some, E_isThingX X1, Option.bind_some, if_pos kT, if_neg (by decide), e_sd X1 (k := 8) rfl (by decide)]
          rw [show F_X12_isOf (σ 8) l1 M1 = some 0 from if_neg kb, Option.bind_some, if_pos rfl, tv M1 X1, Option.bind_some, if_neg (fun z => by have := i_lt z; omega)]
  · refine lw9_qn (w := -2000) ?_ (fun M1 X1 => ?_)
    · delta F_X11_cost F_X11_cost_b0
      rw [t_gO k2, Option.bind_some, C_isThingX k2 C.1.1.1 X.1.1, Option.bind_some, if_neg kT, if_pos rfl]
    · delta F_X12_cost F_X12_cost_b0
      rw [e_gO X1.1, Option.bind_some, E_isThingX X1, Option.bind_some, if_neg kT, if_pos rfl]
