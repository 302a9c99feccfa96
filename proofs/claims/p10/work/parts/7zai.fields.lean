/-! FIELDS and LONGEST -/
theorem k_Xsk {M : gM} {s e t : Nat} {σ : Nat → Int32} (X : k_X M s e σ) (ht : t < hs_n σ) : M.2.1 (s + 4) t = σ (13 + 4 * t) ∧ M.2.1 (e + 3) t = σ (12 + 4 * t) := by
  have nn := s_Vn X.2.2
  exact ⟨X.2.1.2.2.2 t (by omega), (X.2.1.1.2.2.1 t (by omega)).2⟩
def s_fi (σ : Nat → Int32) : Nat → Int32
  | 0 => 0
  | t + 1 => if (σ (13 + 4 * t)).toInt < 0 then s_fi σ t + σ (12 + 4 * t) else s_fi σ t
theorem fi_congr {σ σ' : Nat → Int32} : ∀ n, (∀ t, t < n → σ' (13 + 4 * t) = σ (13 + 4 * t) ∧ σ' (12 + 4 * t) = σ (12 + 4 * t)) → s_fi σ' n = s_fi σ n := by
  intro n
  induction n with
  | zero => intro _; rfl
  | succ n ih =>
    intro h
    unfold s_fi
    rw [ih (fun t ht => h t (by omega)), (h n (by omega)).1, (h n (by omega)).2]
theorem C_fields_L32 {M0 M : gM} {e : Nat} {r : s_Ru} {ρ σ : Nat → Int32} (B : q_B M0 e r ρ) (Q : q_C M0 M e σ) : ∀ (n t : Nat) {l2 l3 : Int32}, l2 = s_fi σ t → l3.toInt = (t : Int) → t ≤ hs_n σ → hs_n σ - t < n → Ok (F_X11_fields_L32 n (some 2) l2 l3 M) (fun q => q.1 = s_fi σ (hs_n σ) ∧ q_F M0 q.2) := by
  obtain ⟨⟨G, r11⟩, _⟩ := q_G B Q.1
  have g2 := G_k2 G
  obtain ⟨⟨ke, ⟨e6, e7⟩, _⟩, ⟨⟨ks, _⟩, k3, k4⟩, _, r2, r3⟩ := k_XE Q.2
  have R2 : g_k M (e + 3) = (20, 7) ∧ M.2.2.2 e 2 = some (e + 3) := k_XR (i := 2) Q.2 (by decide)
  have nn := s_Vn Q.2.2.2
  intro n
  induction n with
  | zero => intro t l2 l3 _ _ _ _; omega
  | succ n ih =>
    intro t l2 l3 h2 h3 ht hn
    show Ok (F_X11_fields_b32 (F_X11_fields_L32 n) (some 2) l2 l3 M) _
    delta F_X11_fields_b32
    refine x_gR g2 r11 (x_gI ke e6 ?_)
    by_cases c : σ 1 ≤ l3
    · have := i_le c
      have et : t = hs_n σ := by omega
      subst et
      exact Ok_t c (Ok_s ⟨h2, Q.1⟩)
    · have := i_nle c
      have ft := k_Xsk Q.2 (t := t) (by omega)
      have ss := s_struck (t := t) Q.2.2.2 (by omega)
      refine Ok_e c (x_gR g2 (G_r6 G) (x_gR ks r3 (x_aI k4 h3 (by omega) ft.1 ?_)))
      delta F_X11_fields_b68
      refine Ok_i (fun d => ?_) (fun d => ?_)
      · refine x_gR g2 r11 (x_gR ke R2.2 (x_aI R2.1 h3 (by omega) ft.2 ?_))
        refine ih (t + 1) ?_ (i_nx h3 (by omega)) (by omega) (by omega)
        show _ = s_fi σ (t + 1)
        unfold s_fi
        rw [if_pos (ss.mp d), h2]
      · refine ih (t + 1) ?_ (i_nx h3 (by omega)) (by omega) (by omega)
        show _ = s_fi σ (t + 1)
        unfold s_fi
        rw [if_neg (mt ss.mpr d), h2]
theorem E_fields_L47 {r : s_Ru} {ρ σ : Nat → Int32} {M : gM} (V : s_V ρ) (Q : e_Q r ρ M σ) : ∀ (n t : Nat) {l2 l3 : Int32}, l2 = s_fi σ t → l3.toInt = (t : Int) → t ≤ hs_n σ → hs_n σ - t < n → Ok (F_X12_fields_L47 n (some 175) l2 l3 M) (fun q => q.1 = s_fi σ (hs_n σ) ∧ ∀ j, j < 157 → q.2.2.1 185 j = ρ j) := by
  have X := Q.1.1
  have nn := s_Vn X.2.2
  have z0 : (0 : Int32).toInt = 0 := rfl
  intro n
  induction n with
  | zero => intro t l2 l3 _ _ _ _; omega
  | succ n ih =>
    intro t l2 l3 h2 h3 ht hn
    show Ok (F_X12_fields_b47 (F_X12_fields_L47 n) (some 175) l2 l3 M) _
    delta F_X12_fields_b47 F_X12_fields_b77
    rw [e_sd X (k := 1) rfl (by decide)]
    by_cases c : σ 1 ≤ l3
    · have := i_le c
      have et : t = hs_n σ := by omega
      subst et
      refine Ok_t c (x_eq (e_gO X.1) (Ok_b (E_q_lays V Q) (fun M3 z => ?_)))
      exact Ok_s ⟨h2, q_done z.1⟩
    · have := i_nle c
      refine Ok_e c (x_eq (e_gO X.1) (x_eq (E_thingOf X h3 (w := 3) rfl (by omega) (by decide)) ?_))
      rw [show 10 + 4 * t + 3 = 13 + 4 * t by omega]
      refine Ok_i (fun d => ?_) (fun d => ?_)
      · have := i_le d
        refine ih (t + 1) ?_ (i_nx h3 (by omega)) (by omega) (by omega)
        show _ = s_fi σ (t + 1)
        unfold s_fi
        rw [if_neg (by omega), h2, Int32.add_zero]
      · have := i_nle d
        refine x_eq (E_thingOf X h3 (w := 2) rfl (by omega) (by decide)) ?_
        refine ih (t + 1) ?_ (i_nx h3 (by omega)) (by omega) (by omega)
        show _ = s_fi σ (t + 1)
        unfold s_fi
        rw [if_pos (by omega), h2, show 10 + 4 * t + 2 = 12 + 4 * t by omega]
theorem E_fields_L29 {r : s_Ru} {ρ : Nat → Int32} {N : Int32} {nn : Nat} (V : s_V ρ) (hy : 0 ≤ (ρ 4).toInt ∧ (ρ 4).toInt ≤ 999) (hN : N.toInt = (nn : Int)) (h2 : nn ≤ 200) : ∀ (n k : Nat) {l3 : Int32} {M : gM}, e_Q r ρ M (s_ny r ρ k) → l3.toInt = (k : Int) → k ≤ nn → nn - k < n → Ok (F_X12_fields_L29 n (some 175) N (0 : Int32) l3 M) (fun q => q.1 = s_fi (s_ny r ρ nn) (hs_n ρ) ∧ ∀ j, j < 157 → q.2.2.1 185 j = ρ j) := by
  intro n
  induction n with
  | zero => intro k l3 M _ _ _ _; omega
  | succ n ih =>
    intro k l3 M Q hl hk hn
    have V1 := ny_i (r := r) V hy k (by omega)
    show Ok (F_X12_fields_b29 (F_X12_fields_L29 n) (some 175) N (0 : Int32) l3 M) _
    delta F_X12_fields_b29
    by_cases c : N ≤ l3
    · have := i_le c
      have e : k = nn := by omega
      subst e
      have nn1 := s_Vn V1.1.1
      have := E_fields_L47 V Q g_fuel 0 (l2 := 0) (l3 := 0) rfl rfl (Nat.zero_le _) (n_fu (by omega))
      rw [(ny_nm (r := r) V hy (k := k) (by omega)).1] at this
      exact Ok_t c this
    · have := i_nle c
      refine Ok_e c (x_eq (e_gO Q.1.1.1) (Ok_b (E_q_year Q (by omega)) (fun q z => ?_)))
      obtain ⟨v, M6⟩ := q
      exact ih (k + 1) z.2 (i_nx hl (by omega)) (by omega) (by omega)
theorem lw9_fields {L : Nat} {M : gM} {l1 : Int32} (R : lw9 L M) : lw_42 L M (F_X11_fields (some 2) l1 M) (F_X12_fields (some 175) l1) := by
  have R8 := R.1
  have G := R8.2
  have hl := lw8_len R8.1.1.1
  refine lw9_qry R (S_X11_fields R8.1.1.1.1.1.1 R8.1.1.1.2.1.1.1) (fun M1 H W => S_X12_fields H W) (by decide) (by decide) (by decide) (by decide) (fun e σ nx sz P I rc Rr C h6 hf => ?_)
  have X := C.1.1.2
  have k2 := G_k2 G
  have V := X.1.1.2.2
  have Q := X.2.2
  have z0 : (0 : Int32).toInt = 0 := rfl
  have z200 : (200 : Int32).toInt = 200 := rfl
  have B := q_B_of G hl C h6 hf
  have nn := s_Vn V
  have ke : g_k M e = (1, 0) := X.1.1.1.1.1
  have t5 := X.2.1
  by_cases c : 0 ≤ l1.toInt ∧ l1.toInt ≤ 200
  · by_cases kH : 0 < (σ 0).toInt
    · rw [if_pos kH] at t5
      obtain ⟨N, hN⟩ : ∃ N : Nat, l1.toInt = (N : Int) := ⟨l1.toInt.toNat, by omega⟩
      refine ⟨s_fi (s_ny (s_ru Rr (M.2.1 2 13)) σ N) (hs_n σ), ?_, fun M1 X1 E1 f1 _ => ?_⟩
      · delta F_X11_fields F_X11_fields_b0
        rw [if_neg (fun z => by have := i_lt z; omega), if_neg (fun z => by have := i_lt z; omega)]
        refine x_gR k2 C.1.1.1 (x_gI ke t5 ?_)
        rw [if_neg (by decide)]
        refine x_gO k2 (Ok_b (C_lookAhead B q_F_r V Q.1 hN (by omega)) (fun M3 z => ?_))
        obtain ⟨k, hk, q, d⟩ := z
        have nm := ny_nm (r := s_ru Rr (M.2.1 2 13)) V Q.1 (k := k) (by omega)
        have nn1 := s_Vn q.2.2.2
        refine Ok_w (C_fields_L32 B q g_fuel 0 (l2 := 0) (l3 := 0) rfl rfl (Nat.zero_le _) (n_fu (by omega))) (fun x z => ⟨?_, q_F_w z.2⟩)
        rw [z.1, nm.1]
        rcases d with d | d
        · rw [d]
        · have al := ny_all (r := s_ru Rr (M.2.1 2 13)) V Q.1 hk (by omega) d
          exact fi_congr _ (fun t ht => ⟨(al t ht).2.symm, by rw [ny_38 V Q.1 (by omega) (by omega) (fun k _ => by omega) k (by omega), ny_38 V Q.1 (by omega) (by omega) (fun k _ => by omega) N (by omega)]⟩)
      · have J := E_inForce E1 h6 (by rw [f1]; exact hf)
        rw [f1] at J
        delta F_X12_fields F_X12_fields_b0
        rw [e_gO X1.1, Option.bind_some, E_isHouseX X1, Option.bind_some, if_pos kH, if_neg (by decide), E_in (a := 0) (b := 200) rfl rfl, Option.bind_some, if_pos c, if_neg (by decide)]
        refine Ok_b (E_q_keeps X1 J) (fun M4 z => ?_)
        exact E_fields_L29 V Q.1 hN (by omega) g_fuel 0 (l3 := 0) z.1 rfl (Nat.zero_le _) (n_fu (by omega))
    · rw [if_neg kH] at t5
      refine lw9_qn (w := -1) ?_ (fun M1 X1 => ?_)
      · delta F_X11_fields F_X11_fields_b0 F_X11_fields_b21
        rw [if_neg (fun z => by have := i_lt z; omega), if_neg (fun z => by have := i_lt z; omega), t_gR k2 C.1.1.1, Option.bind_some, t_gI ke, Option.bind_some, t5, if_pos rfl]
      · delta F_X12_fields F_X12_fields_b0 F_X12_fields_b19
        rw [e_gO X1.1, Option.bind_some, E_isHouseX X1, Option.bind_some, if_neg kH, if_pos rfl]
  · refine lw9_qn (w := -1) ?_ (fun M1 X1 => ?_)
    · delta F_X11_fields F_X11_fields_b0 F_X11_fields_b21
      by_cases d : l1 < 0
      · rw [if_pos d]
      · have := i_nlt d
        rw [if_neg d, if_pos (Int32.lt_iff_toInt_lt.mpr (by omega))]
    · delta F_X12_fields F_X12_fields_b0 F_X12_fields_b19
      rw [e_gO X1.1, Option.bind_some, E_isHouseX X1, Option.bind_some]
      by_cases kH : 0 < (σ 0).toInt
      · rw [if_pos kH, if_neg (by decide), E_in (a := 0) (b := 200) rfl rfl, Option.bind_some, if_neg c, if_pos rfl]
      · rw [if_neg kH, if_pos rfl]
/-! LONGEST -/
def s_lg (σ : Nat → Int32) (t : Nat) : Int := if (σ (13 + 4 * t)).toInt < 0 then 100000 else (σ (13 + 4 * t)).toInt
def s_bl (σ : Nat → Int32) : Nat → Nat
  | 0 => 0
  | t + 1 => if s_lg σ (s_bl σ t) < s_lg σ (t + 1) then t + 1 else s_bl σ t
theorem bl_le {σ : Nat → Int32} : ∀ k, s_bl σ k ≤ k := by
  intro k
  induction k with
  | zero => exact Nat.le_refl _
  | succ k ih =>
    unfold s_bl
    split
    · exact Nat.le_refl _
    · omega
theorem lg_congr {σ σ' : Nat → Int32} {t : Nat} (h : σ' (13 + 4 * t) = σ (13 + 4 * t)) : s_lg σ' t = s_lg σ t := by unfold s_lg; rw [h]
theorem bl_congr {σ σ' : Nat → Int32} : ∀ k, (∀ t, t ≤ k → σ' (13 + 4 * t) = σ (13 + 4 * t)) → s_bl σ' k = s_bl σ k := by
  intro k
  induction k with
  | zero => intro _; rfl
  | succ k ih =>
    intro h
    have e := ih (fun t ht => h t (by omega))
    have b := bl_le (σ := σ) k
    show (if s_lg σ' (s_bl σ' k) < s_lg σ' (k + 1) then k + 1 else s_bl σ' k) = if s_lg σ (s_bl σ k) < s_lg σ (k + 1) then k + 1 else s_bl σ k
    rw [e, lg_congr (h _ (Nat.le_refl _)), lg_congr (h (s_bl σ k) (by omega))]
theorem C_lasts {M : gM} {s e t : Nat} {σ : Nat → Int32} {l : Int32} (X : k_X M s e σ) (h1 : l.toInt = (t : Int)) (ht : t < hs_n σ) : F_X8_lasts (some s) l M = some (if (σ (13 + 4 * t)).toInt < 0 then 1000000 else σ (13 + 4 * t)) := by
  obtain ⟨_, ⟨⟨ks, _⟩, k3, k4⟩, _, r2, r3⟩ := k_XE X
  have nn := s_Vn X.2.2
  have ss := s_struck (t := t) X.2.2 (by omega)
  have ft := k_Xsk X ht
  delta F_X8_lasts F_X8_lasts_b0
  rw [t_gR ks r3, Option.bind_some, t_aI k4 (by omega) (by omega), Option.bind_some, i_cl h1, ft.1]
  by_cases c : (σ (13 + 4 * t)).toInt < 0
  · rw [if_pos (ss.mpr c), if_pos c]
  · rw [if_neg (mt ss.mp c), if_neg c, Option.bind_some, t_aI k4 (by omega) (by omega), Option.bind_some, i_cl h1, ft.1]
theorem C_longest_L36 {M0 M : gM} {e : Nat} {r : s_Ru} {ρ σ : Nat → Int32} (B : q_B M0 e r ρ) (Q : q_C M0 M e σ) (hb : ∀ t, t < hs_n σ → (σ (13 + 4 * t)).toInt ≤ 2000) : ∀ (n t : Nat) {l1 l2 : Int32}, l1.toInt = (s_bl σ t : Int) → l2.toInt = ((t + 1 : Nat) : Int) → t + 1 ≤ hs_n σ → hs_n σ - (t + 1) < n → Ok (F_X11_longest_L36 n (some 2) l1 l2 M) (fun q => q.1 = Int32.ofNat (s_bl σ (hs_n σ - 1)) ∧ q_F M0 q.2) := by
  obtain ⟨⟨G, r11⟩, _⟩ := q_G B Q.1
  have g2 := G_k2 G
  obtain ⟨⟨ke, ⟨e6, e7⟩, _⟩, ⟨⟨ks, _⟩, k3, k4⟩, _, r2, r3⟩ := k_XE Q.2
  have nn := s_Vn Q.2.2.2
  have zM : (1000000 : Int32).toInt = 1000000 := rfl
  intro n
  induction n with
  | zero => intro t l1 l2 _ _ _ _; omega
  | succ n ih =>
    intro t l1 l2 h1 h2 ht hn
    have bt := bl_le (σ := σ) t
    show Ok (F_X11_longest_b36 (F_X11_longest_L36 n) (some 2) l1 l2 M) _
    delta F_X11_longest_b36
    refine x_gR g2 r11 (x_gI ke e6 ?_)
    by_cases c : σ 1 ≤ l2
    · have := i_le c
      have et : hs_n σ - 1 = t := by omega
      rw [et]
      exact Ok_t c (Ok_s ⟨i_of h1 (by omega), Q.1⟩)
    · have := i_nle c
      refine Ok_e c (x_gR g2 (G_r6 G) (x_gO ks (x_eq (C_lasts Q.2 h2 (by omega)) (x_gR g2 (G_r6 G) (x_gO ks (x_eq (C_lasts Q.2 h1 (by omega)) ?_))))))
      delta F_X11_longest_b68
      have b1 := hb (t + 1) (by omega)
      have b2 := hb (s_bl σ t) (by omega)
      have val : ∀ u, u < hs_n σ → (if (σ (13 + 4 * u)).toInt < 0 then (1000000 : Int32) else σ (13 + 4 * u)).toInt = if s_lg σ u = 100000 then 1000000 else s_lg σ u := by
        intro u hu
        have := hb u hu
        unfold s_lg
        by_cases d : (σ (13 + 4 * u)).toInt < 0
        · rw [if_pos d, if_pos d, if_pos rfl]; rfl
        · rw [if_neg d, if_neg d, if_neg (by omega)]
      have v1 := val (t + 1) (by omega)
      have v2 := val (s_bl σ t) (by omega)
      have lb : ∀ u, u < hs_n σ → s_lg σ u ≤ 100000 := by
        intro u hu
        have := hb u hu
        unfold s_lg
        split <;> omega
      have y1 := lb (t + 1) (by omega)
      have y2 := lb (s_bl σ t) (by omega)
      have lb2 : ∀ u, u < hs_n σ → s_lg σ u = 100000 ∨ s_lg σ u ≤ 2000 := by
        intro u hu
        have := hb u hu
        unfold s_lg
        split <;> omega
      have w1 := lb2 (t + 1) (by omega)
      have w2 := lb2 (s_bl σ t) (by omega)
      refine Ok_i (fun d => ?_) (fun d => ?_)
      · have d := i_le d
        rw [v1, v2] at d
        refine ih (t + 1) ?_ (i_nx h2 (by omega)) (by omega) (by omega)
        show _ = ((if s_lg σ (s_bl σ t) < s_lg σ (t + 1) then t + 1 else s_bl σ t : Nat) : Int)
        rw [if_neg (by split at d <;> split at d <;> omega), h1]
      · have d := i_nle d
        rw [v1, v2] at d
        refine ih (t + 1) ?_ (i_nx h2 (by omega)) (by omega) (by omega)
        show _ = ((if s_lg σ (s_bl σ t) < s_lg σ (t + 1) then t + 1 else s_bl σ t : Nat) : Int)
        rw [if_pos (by split at d <;> split at d <;> omega), h2]
theorem E_longest_L40 {r : s_Ru} {ρ σ : Nat → Int32} {M : gM} (V : s_V ρ) (Q : e_Q r ρ M σ) (hb : ∀ t, t < hs_n σ → (σ (13 + 4 * t)).toInt ≤ 2000) : ∀ (n t : Nat) {l1 l2 l3 : Int32}, (t = 0 ∧ l1 = -2 ∨ ∃ u, t = u + 1 ∧ l1.toInt = (s_bl σ u : Int) ∧ l2.toInt = s_lg σ (s_bl σ u)) → l3.toInt = (t : Int) → t ≤ hs_n σ → hs_n σ - t < n → Ok (F_X12_longest_L40 n (some 175) l1 l2 l3 M) (fun q => q.1 = (if hs_n σ = 0 then -2 else Int32.ofNat (s_bl σ (hs_n σ - 1))) ∧ ∀ j, j < 157 → q.2.2.1 185 j = ρ j) := by
  have X := Q.1.1
  have nn := s_Vn X.2.2
  have z0 : (0 : Int32).toInt = 0 := rfl
  have z2 : (-2 : Int32).toInt = -2 := rfl
  have zM : (100000 : Int32).toInt = 100000 := rfl
  intro n
  induction n with
  | zero => intro t l1 l2 l3 _ _ _ _; omega
  | succ n ih =>
    intro t l1 l2 l3 h1 h3 ht hn
    show Ok (F_X12_longest_b40 (F_X12_longest_L40 n) (some 175) l1 l2 l3 M) _
    delta F_X12_longest_b40
    rw [e_sd X (k := 1) rfl (by decide)]
    by_cases c : σ 1 ≤ l3
    · have := i_le c
      have et : t = hs_n σ := by omega
      refine Ok_t c (x_eq (e_gO X.1) (Ok_b (E_q_lays V Q) (fun M3 z => ?_)))
      refine Ok_s ⟨?_, q_done z.1⟩
      show l1 = _
      rcases h1 with ⟨a, b⟩ | ⟨u, a, b, _⟩
      · rw [if_pos (by omega), b]
      · have bu := bl_le (σ := σ) u
        rw [if_neg (by omega), show hs_n σ - 1 = u by omega]
        exact i_of b (by omega)
    · have := i_nle c
      have go : ∀ (s0 : Int32), s0.toInt = s_lg σ t → Ok (F_X12_longest_b71 (F_X12_longest_L40 n) (some 175) l1 l2 l3 s0 M) (fun q => q.1 = (if hs_n σ = 0 then -2 else Int32.ofNat (s_bl σ (hs_n σ - 1))) ∧ ∀ j, j < 157 → q.2.2.1 185 j = ρ j) := by
        intro s0 hs
        delta F_X12_longest_b71 F_X12_longest_b86 F_X12_longest_b91
        rcases h1 with ⟨a, b⟩ | ⟨u, a, b, b2⟩
        · subst a
          refine Ok_t (Int32.lt_iff_toInt_lt.mpr (by rw [b]; decide)) ?_
          exact ih 1 (Or.inr ⟨0, rfl, h3, hs⟩) (i_nx h3 (by omega)) (by omega) (by omega)
        · subst a
          have bu := bl_le (σ := σ) u
          refine Ok_e (fun z => by have := i_lt z; omega) ?_
          refine Ok_i (fun d => ?_) (fun d => ?_)
          · have := i_lt d
            have e : s_bl σ (u + 1) = u + 1 := by
              show (if s_lg σ (s_bl σ u) < s_lg σ (u + 1) then u + 1 else s_bl σ u) = u + 1
              rw [if_pos (by omega)]
            exact ih (u + 1 + 1) (Or.inr ⟨u + 1, rfl, by rw [e]; exact h3, by rw [e]; exact hs⟩) (i_nx h3 (by omega)) (by omega) (by omega)
          · have := i_nlt d
            have e : s_bl σ (u + 1) = s_bl σ u := by
              show (if s_lg σ (s_bl σ u) < s_lg σ (u + 1) then u + 1 else s_bl σ u) = s_bl σ u
              rw [if_neg (by omega)]
            exact ih (u + 1 + 1) (Or.inr ⟨u + 1, rfl, by rw [e]; exact b, by rw [e]; exact b2⟩) (i_nx h3 (by omega)) (by omega) (by omega)
      refine Ok_e c (x_eq (e_gO X.1) (x_eq (E_thingOf X h3 (w := 3) rfl (by omega) (by decide)) ?_))
      rw [show 10 + 4 * t + 3 = 13 + 4 * t by omega]
      refine Ok_i (fun d => ?_) (fun d => ?_)
      · have := i_le d
        refine x_eq (E_thingOf X h3 (w := 3) rfl (by omega) (by decide)) (go _ ?_)
        rw [show 10 + 4 * t + 3 = 13 + 4 * t by omega]
        unfold s_lg
        rw [if_neg (by omega)]
      · have := i_nle d
        refine go _ ?_
        unfold s_lg
        rw [if_pos (by omega)]
        rfl
theorem E_longest_L20 {r : s_Ru} {ρ : Nat → Int32} (V : s_V ρ) (hy : 0 ≤ (ρ 4).toInt ∧ (ρ 4).toInt ≤ 999) (Qd : s_Qd ρ) : ∀ (n k : Nat) {l3 : Int32} {M : gM}, e_Q r ρ M (s_ny r ρ k) → l3.toInt = (k : Int) → k ≤ 200 → 200 - k < n → Ok (F_X12_longest_L20 n (some 175) (-2 : Int32) (0 : Int32) l3 M) (fun q => q.1 = (if hs_n ρ = 0 then -2 else Int32.ofNat (s_bl (s_ny r ρ 200) (hs_n ρ - 1))) ∧ ∀ j, j < 157 → q.2.2.1 185 j = ρ j) := by
  have z200 : (200 : Int32).toInt = 200 := rfl
  intro n
  induction n with
  | zero => intro k l3 M _ _ _ _; omega
  | succ n ih =>
    intro k l3 M Q hl hk hn
    have V1 := ny_i (r := r) V hy k (by omega)
    show Ok (F_X12_longest_b20 (F_X12_longest_L20 n) (some 175) (-2 : Int32) (0 : Int32) l3 M) _
    delta F_X12_longest_b20
    by_cases c : (200 : Int32) ≤ l3
    · have := i_le c
      have e : k = 200 := by omega
      subst e
      have nn1 := s_Vn V1.1.1
      have nm := (ny_nm (r := r) V hy (k := 200) (by omega)).1
      have := E_longest_L40 V Q (fun t ht => by have := ny_sb (r := r) V hy Qd (t := t) (by omega) 200 (by omega); omega) g_fuel 0 (l1 := -2) (l2 := 0) (l3 := 0) (Or.inl ⟨rfl, rfl⟩) rfl (Nat.zero_le _) (n_fu (by omega))
      rw [nm] at this
      exact Ok_t c this
    · have := i_nle c
      refine Ok_e c (x_eq (e_gO Q.1.1.1) (Ok_b (E_q_year Q (by omega)) (fun q z => ?_)))
      obtain ⟨v, M6⟩ := q
      exact ih (k + 1) z.2 (i_nx hl (by omega)) (by omega) (by omega)
theorem lw9_longest {L : Nat} {M : gM} (R : lw9 L M) : lw_42 L M (F_X11_longest (some 2) M) (F_X12_longest (some 175)) := by
  have R8 := R.1
  have G := R8.2
  have hl := lw8_len R8.1.1.1
  refine lw9_qry R (S_X11_longest R8.1.1.1.1.1.1 R8.1.1.1.2.1.1.1) (fun M1 H W => S_X12_longest H W) (by decide) (by decide) (by decide) (by decide) (fun e σ nx sz P I rc Rr C h6 hf => ?_)
  have X := C.1.1.2
  have k2 := G_k2 G
  have V := X.1.1.2.2
  have Q := X.2.2
  have z0 : (0 : Int32).toInt = 0 := rfl
  have B := q_B_of G hl C h6 hf
  have nn := s_Vn V
  have ke : g_k M e = (1, 0) := X.1.1.1.1.1
  have e6 : M.2.1 e 6 = σ 1 := X.1.1.2.1.1.1.1.1
  have t5 := X.2.1
  by_cases kH : 0 < (σ 0).toInt
  · rw [if_pos kH] at t5
    refine ⟨(if hs_n σ = 0 then -2 else Int32.ofNat (s_bl (s_ny (s_ru Rr (M.2.1 2 13)) σ 200) (hs_n σ - 1))), ?_, fun M1 X1 E1 f1 _ => ?_⟩
    · delta F_X11_longest F_X11_longest_b0
      refine x_gR k2 C.1.1.1 (x_gI ke t5 ?_)
      rw [if_neg (by decide)]
      refine x_gR k2 C.1.1.1 (x_gI ke e6 ?_)
      by_cases n0 : σ 1 = 0
      · have : (σ 1).toInt = 0 := by rw [n0]; rfl
        rw [if_pos n0, if_pos (by omega)]
        exact Ok_s ⟨rfl, w_F_r⟩
      · have := i_ne n0
        rw [if_neg n0, if_neg (by omega)]
        refine x_gO k2 (Ok_b (C_lookAhead (nn := 200) B q_F_r V Q.1 rfl (by omega)) (fun M3 z => ?_))
        obtain ⟨k, hk, q, d⟩ := z
        have nm := ny_nm (r := s_ru Rr (M.2.1 2 13)) V Q.1 (k := k) (by omega)
        have nn1 := s_Vn q.2.2.2
        refine Ok_w (C_longest_L36 B q (fun t ht => by have := ny_sb (r := s_ru Rr (M.2.1 2 13)) V Q.1 Q.2.2.2 (t := t) (by omega) k (by omega); omega) g_fuel 0 (l1 := 0) (l2 := 1) rfl rfl (by omega) (n_fu (by omega))) (fun x z => ⟨?_, q_F_w z.2⟩)
        rw [z.1, nm.1]
        rcases d with d | d
        · rw [d]
        · have al := ny_all (r := s_ru Rr (M.2.1 2 13)) V Q.1 hk (by omega) d
          rw [bl_congr _ (fun t ht => (al t (by omega)).2)]
    · have J := E_inForce E1 h6 (by rw [f1]; exact hf)
      rw [f1] at J
      delta F_X12_longest F_X12_longest_b0
      rw [e_gO X1.1, Option.bind_some, E_isHouseX X1, Option.bind_some, if_pos kH, if_neg (by decide)]
      refine Ok_b (E_q_keeps X1 J) (fun M4 z => ?_)
      exact E_longest_L20 V Q.1 Q.2.2.2 g_fuel 0 (l3 := 0) z.1 rfl (Nat.zero_le _) (n_fu (by omega))
  · rw [if_neg kH] at t5
    refine lw9_qn (w := -1) ?_ (fun M1 X1 => ?_)
    · delta F_X11_longest F_X11_longest_b0
      rw [t_gR k2 C.1.1.1, Option.bind_some, t_gI ke, Option.bind_some, t5, if_pos rfl]
    · delta F_X12_longest F_X12_longest_b0
      rw [e_gO X1.1, Option.bind_some, E_isHouseX X1, Option.bind_some, if_neg kH, if_pos rfl]
