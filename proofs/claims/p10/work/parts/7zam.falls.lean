/-! FALLS and EXAMINE -/
theorem i_ext {a b : Int32} (h : ∀ i, i < 32 → a.toBitVec.getLsbD i = b.toBitVec.getLsbD i) : a = b := Int32.toBitVec_inj.mp (BitVec.eq_of_getLsbD_eq (fun i hi => h i hi))
theorem bs_diff {f g : Nat → Bool} {n : Nat} (hn : n ≤ 7) : s_bs f n &&& (s_bs g n ^^^ (-1 : Int32)) = s_bs (fun t => f t && !g t) n := by
  refine i_ext (fun i hi => ?_)
  have e1 : ((-1 : Int32)).toBitVec = BitVec.allOnes 32 := by decide
  rw [and_get, bs_get (by omega), bs_get (by omega), Int32.toBitVec_xor, BitVec.getLsbD_xor, bs_get (by omega), e1, BitVec.getLsbD_allOnes]
  by_cases c : i < n
  · simp [c, hi]
  · simp [c, hi]
def s_fg (σ : Nat → Int32) (h : Nat) : Nat → Nat → Int32
  | 0 => σ
  | t + 1 => s_kw (s_fg σ h t) h t 0 0
theorem fg_nm {σ : Nat → Int32} {h : Nat} : ∀ k, hs_n (s_fg σ h k) = hs_n σ ∧ hs_m (s_fg σ h k) = hs_m σ := by
  intro k
  induction k with
  | zero => exact ⟨rfl, rfl⟩
  | succ k ih => exact ⟨kw_nm.1.trans ih.1, kw_nm.2.trans ih.2⟩
theorem C_falls_L53 {M0 M : gM} {e : Nat} {r : s_Ru} {ρ σ : Nat → Int32} (B : q_B M0 e r ρ) (Q : q_C M0 M e σ) (hn1 : hs_n σ = hs_n ρ) : ∀ (n t : Nat) {l2 l3 : Int32}, l2 = s_bs (fun t => s_hs ρ t != 0 && !(s_hs σ t != 0)) t → l3.toInt = (t : Int) → t ≤ hs_n ρ → hs_n ρ - t < n → Ok (F_X11_falls_L53 n (some 2) l2 l3 M) (fun q => q.1 = s_bs (fun t => s_hs ρ t != 0 && !(s_hs σ t != 0)) (hs_n ρ) ∧ q_F M0 q.2) := by
  obtain ⟨⟨G, r11⟩, X9⟩ := q_G B Q.1
  have g2 := G_k2 G
  obtain ⟨⟨ke, ⟨e6, e7⟩, _⟩, ⟨⟨ks, _⟩, _⟩, _⟩ := k_XE X9.1.1
  have ks2 := (k_XE Q.2).2.1.1.1
  have nn := s_Vn X9.1.1.2.2
  have nn2 := s_Vn Q.2.2.2
  intro n
  induction n with
  | zero => intro t l2 l3 _ _ _ _; omega
  | succ n ih =>
    intro t l2 l3 h2 h3 ht hn
    show Ok (F_X11_falls_b53 (F_X11_falls_L53 n) (some 2) l2 l3 M) _
    delta F_X11_falls_b53 F_X11_falls_b100
    refine x_gR g2 r11 (x_gI ke e6 ?_)
    have bn := bs_next (f := fun t => s_hs ρ t != 0 && !(s_hs σ t != 0)) h3 (by omega)
    by_cases c : ρ 1 ≤ l3
    · have := i_le c
      have et : t = hs_n ρ := by omega
      subst et
      exact Ok_t c (Ok_s ⟨h2, Q.1⟩)
    · have := i_nle c
      refine Ok_e c (x_gR g2 (G_r5 G) (x_gR g2 r11 (x_gO ks (x_eq (C_holdersOf X9.1.1 h3 (by omega)) ?_))))
      refine Ok_i (fun d => ?_) (fun d => ?_)
      · refine ih (t + 1) ?_ (i_nx h3 (by omega)) (by omega) (by omega)
        rw [bn, h2]
        simp [d]
      · refine x_gR g2 (G_r6 G) (x_gR g2 r11 (x_gO ks2 (x_eq (C_holdersOf Q.2 h3 (by omega)) ?_)))
        refine Ok_i (fun d2 => ?_) (fun d2 => ?_)
        · refine ih (t + 1) ?_ (i_nx h3 (by omega)) (by omega) (by omega)
          rw [bn, h2]
          simp [d, d2]
          rfl
        · refine ih (t + 1) ?_ (i_nx h3 (by omega)) (by omega) (by omega)
          rw [bn, h2]
          simp [d, d2]
theorem C_falls_L23 {M0 : gM} {e h : Nat} {r : s_Ru} {ρ : Nat → Int32} {l1 : Int32} (B : q_B M0 e r ρ) (V : s_V ρ) (h1 : l1.toInt = (h : Int)) (hh : h < hs_m ρ) : ∀ (n t : Nat) {l2 : Int32} {M : gM}, q_C M0 M e (s_fg ρ h t) → l2.toInt = (t : Int) → t ≤ hs_n ρ → hs_n ρ - t < n → Ok (F_X11_falls_L23 n (some 2) l1 l2 M) (fun q => q.1 = s_bs (fun t => s_hs ρ t != 0 && !(s_hs (s_fg ρ h (hs_n ρ)) t != 0)) (hs_n ρ) ∧ q_F M0 q.2) := by
  have nn := s_Vn V
  have wh := B.1.2.2.1.2
  intro n
  induction n with
  | zero => intro t l2 M _ _ _ _; omega
  | succ n ih =>
    intro t l2 M Q h2 ht hn
    obtain ⟨⟨G, r11⟩, X9⟩ := q_G B Q.1
    have g2 := G_k2 G
    obtain ⟨⟨ke, ⟨e6, e7⟩, _⟩, _⟩ := k_XE X9.1.1
    have ks2 := (k_XE Q.2).2.1.1.1
    have fn := fg_nm (σ := ρ) (h := h) t
    show Ok (F_X11_falls_b23 (F_X11_falls_L23 n) (some 2) l1 l2 M) _
    delta F_X11_falls_b23
    refine x_gR g2 r11 (x_gI ke e6 ?_)
    by_cases c : ρ 1 ≤ l2
    · have := i_le c
      have et : t = hs_n ρ := by omega
      subst et
      exact Ok_t c (C_falls_L53 B Q fn.1 g_fuel 0 (l2 := 0) (l3 := 0) rfl rfl (Nat.zero_le _) (n_fu (by omega)))
    · have := i_nle c
      refine Ok_e c (x_gR g2 (G_r6 G) (x_gO ks2 ?_))
      refine Ok_b (C_forgetX (a := 0) Q.2 (by unfold w_h at wh; omega) h1 h2 (by omega) (by omega)) (fun M5 z => ?_)
      exact ih (t + 1) ⟨q_F_t Q.1 (q_F_s z.1), z.2⟩ (i_nx h2 (by omega)) (by omega) (by omega)
theorem E_falls_L90 {r : s_Ru} {ρ σ : Nat → Int32} {M : gM} {l2 : Int32} (V : s_V ρ) (Q : e_Q r ρ M σ) (hn1 : hs_n σ = hs_n ρ) (h2 : l2 = s_bs (fun t => s_hs ρ t != 0) (hs_n ρ)) : ∀ (n t : Nat) {l3 l4 : Int32}, l3 = s_bs (fun t => s_hs σ t != 0) t → l4.toInt = (t : Int) → t ≤ hs_n ρ → hs_n ρ - t < n → Ok (F_X12_falls_L90 n (some 175) l2 l3 l4 M) (fun q => q.1 = s_bs (fun t => s_hs ρ t != 0 && !(s_hs σ t != 0)) (hs_n ρ) ∧ ∀ j, j < 157 → q.2.2.1 185 j = ρ j) := by
  have X := Q.1.1
  have nn := s_Vn X.2.2
  intro n
  induction n with
  | zero => intro t l3 l4 _ _ _ _; omega
  | succ n ih =>
    intro t l3 l4 h3 h4 ht hn
    show Ok (F_X12_falls_b90 (F_X12_falls_L90 n) (some 175) l2 l3 l4 M) _
    delta F_X12_falls_b90 F_X12_falls_b119
    rw [e_sd X (k := 1) rfl (by decide)]
    have bn := bs_next (f := fun t => s_hs σ t != 0) h4 (by omega)
    by_cases c : σ 1 ≤ l4
    · have := i_le c
      have et : t = hs_n ρ := by omega
      refine Ok_t c (x_eq (e_gO X.1) (Ok_b (E_q_lays V Q) (fun M3 z => ?_)))
      refine Ok_s ⟨?_, q_done z.1⟩
      show l2 &&& (l3 ^^^ (-1 : Int32)) = _
      rw [h2, h3, et]
      exact bs_diff (by omega)
    · have := i_nle c
      refine Ok_e c (x_eq (e_gO X.1) (x_eq (E_holdersOf X h4 (by omega)) ?_))
      refine Ok_i (fun d => ?_) (fun d => ?_)
      · refine ih (t + 1) ?_ (i_nx h4 (by omega)) (by omega) (by omega)
        rw [bn, h3]
        simp [d]
      · refine ih (t + 1) ?_ (i_nx h4 (by omega)) (by omega) (by omega)
        rw [bn, h3]
        simp [d]
        rfl
theorem E_falls_L61 {r : s_Ru} {ρ : Nat → Int32} {h : Nat} {l1 l2 : Int32} (V : s_V ρ) (h1 : l1.toInt = (h : Int)) (hh : h < hs_m ρ) (h2 : l2 = s_bs (fun t => s_hs ρ t != 0) (hs_n ρ)) : ∀ (n t : Nat) {l4 : Int32} {M : gM}, e_Q r ρ M (s_fg ρ h t) → l4.toInt = (t : Int) → t ≤ hs_n ρ → hs_n ρ - t < n → Ok (F_X12_falls_L61 n (some 175) l1 l2 (0 : Int32) l4 M) (fun q => q.1 = s_bs (fun t => s_hs ρ t != 0 && !(s_hs (s_fg ρ h (hs_n ρ)) t != 0)) (hs_n ρ) ∧ ∀ j, j < 157 → q.2.2.1 185 j = ρ j) := by
  have nn := s_Vn V
  intro n
  induction n with
  | zero => intro t l4 M _ _ _ _; omega
  | succ n ih =>
    intro t l4 M Q h4 ht hn
    have X := Q.1.1
    have fn := fg_nm (σ := ρ) (h := h) t
    have nn1 := s_Vn X.2.2
    show Ok (F_X12_falls_b61 (F_X12_falls_L61 n) (some 175) l1 l2 (0 : Int32) l4 M) _
    delta F_X12_falls_b61
    rw [e_sd X (k := 1) rfl (by decide)]
    by_cases c : s_fg ρ h t 1 ≤ l4
    · have := i_le c
      have et : t = hs_n ρ := by omega
      subst et
      exact Ok_t c (E_falls_L90 V Q fn.1 h2 g_fuel 0 (l3 := 0) (l4 := 0) rfl rfl (Nat.zero_le _) (n_fu (by omega)))
    · have := i_nle c
      refine Ok_e c (x_eq (e_gO X.1) ?_)
      refine Ok_b (E_knowsNow X h1 h4 (by omega) (by omega) (by decide) (fun z => absurd z (by decide))) (fun M4 z => ?_)
      refine ih (t + 1) ⟨⟨z.2, e_I_m Q.1.2 z.1 (by decide)⟩, fun j hj => by rw [y_fa (i := 188) z.1 (by decide) (by decide) j]; exact Q.2.1 j hj, fun j hj => ?_⟩ (i_nx h4 (by omega)) (by omega) (by omega)
      exact (kw_hi (by omega) (by omega) hj).trans (Q.2.2 j hj)
theorem E_falls_L21 {r : s_Ru} {ρ : Nat → Int32} {h : Nat} {l1 : Int32} {M : gM} (V : s_V ρ) (h1 : l1.toInt = (h : Int)) (hh : h < hs_m ρ) (Q : e_Q r ρ M ρ) : ∀ (n t : Nat) {l2 l4 : Int32}, l2 = s_bs (fun t => s_hs ρ t != 0) t → l4.toInt = (t : Int) → t ≤ hs_n ρ → hs_n ρ - t < n → Ok (F_X12_falls_L21 n (some 175) l1 l2 (0 : Int32) l4 M) (fun q => q.1 = s_bs (fun t => s_hs ρ t != 0 && !(s_hs (s_fg ρ h (hs_n ρ)) t != 0)) (hs_n ρ) ∧ ∀ j, j < 157 → q.2.2.1 185 j = ρ j) := by
  have X := Q.1.1
  have nn := s_Vn V
  intro n
  induction n with
  | zero => intro t l2 l4 _ _ _ _; omega
  | succ n ih =>
    intro t l2 l4 h2 h4 ht hn
    show Ok (F_X12_falls_b21 (F_X12_falls_L21 n) (some 175) l1 l2 (0 : Int32) l4 M) _
    delta F_X12_falls_b21 F_X12_falls_b50
    rw [e_sd X (k := 1) rfl (by decide)]
    have bn := bs_next (f := fun t => s_hs ρ t != 0) h4 (by omega)
    by_cases c : ρ 1 ≤ l4
    · have := i_le c
      have et : t = hs_n ρ := by omega
      subst et
      exact Ok_t c (E_falls_L61 V h1 hh h2 g_fuel 0 (l4 := 0) Q rfl (Nat.zero_le _) (n_fu (by omega)))
    · have := i_nle c
      refine Ok_e c (x_eq (e_gO X.1) (x_eq (E_holdersOf X h4 (by omega)) ?_))
      refine Ok_i (fun d => ?_) (fun d => ?_)
      · refine ih (t + 1) ?_ (i_nx h4 (by omega)) (by omega) (by omega)
        rw [bn, h2]
        simp [d]
      · refine ih (t + 1) ?_ (i_nx h4 (by omega)) (by omega) (by omega)
        rw [bn, h2]
        simp [d]
        rfl
theorem lw9_falls {L : Nat} {M : gM} {l1 : Int32} (R : lw9 L M) : lw_42 L M (F_X11_falls (some 2) l1 M) (F_X12_falls (some 175) l1) := by
  have R8 := R.1
  have G := R8.2
  have hl := lw8_len R8.1.1.1
  refine lw9_qry R (S_X11_falls R8.1.1.1.1.1.1 R8.1.1.1.2.1.1.1) (fun M1 H W => S_X12_falls H) (by decide) (by decide) (by decide) (by decide) (fun e σ nx sz P I rc Rr C h6 hf => ?_)
  have X := C.1.1.2
  have k2 := G_k2 G
  have V := X.1.1.2.2
  have B := q_B_of G hl C h6 hf
  have nn := s_Vn V
  by_cases kH : s_iH σ l1 = true
  · obtain ⟨a, a1, a2, a3, _⟩ := s_iH_n V kH
    refine ⟨s_bs (fun t => s_hs σ t != 0 && !(s_hs (s_fg σ a (hs_n σ)) t != 0)) (hs_n σ), ?_, fun M1 X1 E1 f1 _ => ?_⟩
    · delta F_X11_falls F_X11_falls_b0
      refine x_gO k2 (x_eq (C_isHeirX k2 C.1.1.1 X.1.1) ?_)
      rw [if_pos kH, if_neg (by decide)]
      refine x_gR k2 (G_r6 G) (x_gR k2 (G_r5 G) (x_gO (k_LS_of G (s := 14) (by decide)).1.1 ?_))
      refine Ok_b (C_q_copy B q_F_r) (fun M6 q => ?_)
      exact Ok_w (C_falls_L23 B V a1 a2 g_fuel 0 (l2 := 0) q rfl (Nat.zero_le _) (n_fu (by omega))) (fun x z => ⟨z.1, q_F_w z.2⟩)
    · have J := E_inForce E1 h6 (by rw [f1]; exact hf)
      rw [f1] at J
      delta F_X12_falls F_X12_falls_b0
      rw [e_gO X1.1, Option.bind_some, E_isHeirX X1, Option.bind_some, if_pos kH, if_neg (by decide)]
      refine Ok_b (E_q_keeps X1 J) (fun M4 z => ?_)
      exact E_falls_L21 V a1 a2 z.1 g_fuel 0 (l2 := 0) (l4 := 0) rfl rfl (Nat.zero_le _) (n_fu (by omega))
  · refine lw9_qn (w := -1) ?_ (fun M1 X1 => ?_)
    · delta F_X11_falls F_X11_falls_b0
      rw [t_gO k2, Option.bind_some, C_isHeirX k2 C.1.1.1 X.1.1, Option.bind_some, if_neg kH, if_pos rfl]
    · delta F_X12_falls F_X12_falls_b0
      rw [e_gO X1.1, Option.bind_some, E_isHeirX X1, Option.bind_some, if_neg kH, if_pos rfl]
