/-! a YEAR of the class, when the losses lie there -/
theorem ag_o {σ : Nat → Int32} {j : Nat} (hj : ∀ k, k < 7 → j ≠ 38 + 2 * k) : ∀ k, k ≤ 7 → s_ag σ k j = σ j := by
  intro k
  induction k with
  | zero => intro _; rfl
  | succ k ih => intro hk; exact (a1_o (hj k (by omega))).trans (ih (by omega))
theorem ag_V {σ : Nat → Int32} (V : s_V σ) : ∀ k, k ≤ hs_m σ → s_V (s_ag σ k) := by
  intro k
  have nn := s_Vn V
  induction k with
  | zero => intro _; exact V
  | succ k ih =>
    intro hk
    refine a1_V (ih (by omega)) ?_
    rw [(nm_of (fun j hj => ag_o (fun i hi => by omega) k (by omega))).2]
    exact hk
theorem ks_o {σ : Nat → Int32} {j : Nat} (hj : ∀ k, k < 7 → j ≠ 13 + 4 * k) : ∀ k, k ≤ 7 → (s_ks σ k).2 j = σ j := by
  intro k
  induction k with
  | zero => intro _; rfl
  | succ k ih =>
    intro hk
    show (if s_kc (s_ks σ k).2 k = true then ((s_ks σ k).1 + 1, hs_set (s_ks σ k).2 (13 + 4 * k) ((s_ks σ k).2 4)) else s_ks σ k).2 j = _
    by_cases c : s_kc (s_ks σ k).2 k = true
    · rw [if_pos c]
      exact (hs_sn (hj k (by omega))).trans (ih (by omega))
    · rw [if_neg c]
      exact ih (by omega)
theorem st_V {σ : Nat → Int32} {t : Nat} {y : Int32} (V : s_V σ) (ht : t < 7) (hy : -1 ≤ y.toInt) : s_V (hs_set σ (13 + 4 * t) y) := by
  obtain ⟨V1, V2, V3, V4⟩ := V
  refine ⟨by rw [hs_sn (by omega), hs_sn (by omega)]; exact V1, fun h' t' hh' ht' => ?_, fun t' ht' => ?_, fun h' hh' => ?_⟩
  · rw [hs_sn (by omega)] at hh'
    unfold s_va s_st
    rw [hs_sn (by omega), hs_sn (by omega)]
    exact V2 h' t' hh' ht'
  · rw [hs_sn (by omega)] at ht'
    rw [hs_sn (by omega), hs_sn (by omega), hs_sn (by omega)]
    refine ⟨(V3 t' ht').1, (V3 t' ht').2.1, ?_⟩
    by_cases e : t' = t
    · subst e
      rw [hs_se]
      exact hy
    · rw [hs_sn (by omega)]
      exact (V3 t' ht').2.2
  · rw [hs_sn (by omega)] at hh'
    have n2 := V1.2
    rw [hs_sn (by omega), hs_sn (by omega)]
    exact V4 h' hh'
theorem ks_V {σ : Nat → Int32} (V : s_V σ) (hy : 0 ≤ (σ 4).toInt) : ∀ k, k ≤ 7 → s_V (s_ks σ k).2 := by
  intro k
  induction k with
  | zero => intro _; exact V
  | succ k ih =>
    intro hk
    have ih := ih (by omega)
    show s_V (if s_kc (s_ks σ k).2 k = true then ((s_ks σ k).1 + 1, hs_set (s_ks σ k).2 (13 + 4 * k) ((s_ks σ k).2 4)) else s_ks σ k).2
    by_cases c : s_kc (s_ks σ k).2 k = true
    · rw [if_pos c]
      refine st_V ih (by omega) ?_
      rw [ks_o (fun i hi => by omega) k (by omega)]
      omega
    · rw [if_neg c]
      exact ih
theorem p3_4 {σ : Nat → Int32} {L : Nat → Nat → Int32} (V : s_V σ) : (s_p3 σ L).2 4 = σ 4 := by
  have nn := s_Vn V
  unfold s_p3
  rw [ks_o (fun i hi => by omega) _ nn.1.2, ag_o (fun i hi => by omega) _ nn.2.2, fo_lo (by decide)]
theorem yr_V {σ : Nat → Int32} {y : Int32} (V : s_V σ) : s_V (hs_set σ 4 y) := by
  obtain ⟨V1, V2, V3, V4⟩ := V
  refine ⟨by rw [hs_sn (by omega), hs_sn (by omega)]; exact V1, fun h' t' hh' ht' => ?_, fun t' ht' => ?_, fun h' hh' => ?_⟩
  · rw [hs_sn (by omega)] at hh'
    unfold s_va s_st
    rw [hs_sn (by omega), hs_sn (by omega)]
    exact V2 h' t' hh' ht'
  · rw [hs_sn (by omega)] at ht'
    rw [hs_sn (by omega), hs_sn (by omega), hs_sn (by omega), hs_sn (by omega)]
    exact V3 t' ht'
  · rw [hs_sn (by omega)] at hh'
    rw [hs_sn (by omega), hs_sn (by omega)]
    exact V4 h' hh'
theorem p3_nm {σ : Nat → Int32} {L : Nat → Nat → Int32} (V : s_V σ) {j : Nat} (hj : j < 10) : (s_p3 σ L).2 j = σ j := by
  have nn := s_Vn V
  unfold s_p3
  rw [ks_o (fun i hi => by omega) _ nn.1.2, ag_o (fun i hi => by omega) _ nn.2.2, fo_lo (by omega)]
theorem ps_V {σ : Nat → Int32} {L : Nat → Nat → Int32} (V : s_V σ) (LV : s_LV L) (hy : 0 ≤ (σ 4).toInt) : s_V (s_ps σ L).2 := by
  have nn := s_Vn V
  have e := nm_of (σ := σ) (σ' := s_fo σ L (hs_m σ)) (fun j hj => fo_lo (by omega) (hs_m σ))
  refine yr_V (ks_V (ag_V (fo_V V LV _ (Nat.le_refl _)) _ (by rw [e.2]; exact Nat.le_refl _)) ?_ _ nn.1.2)
  rw [ag_o (fun i hi => by omega) _ nn.2.2, fo_lo (by decide)]
  exact hy
theorem C_strike_L5 {M0 : gM} {s e : Nat} {σ0 : Nat → Int32} (hd : e + 5 < s ∨ s + 4 < e) (V : s_V σ0) (hy : 0 ≤ (σ0 4).toInt) : ∀ (n t : Nat) {l3 l4 : Int32} {M : gM}, k_FC M0 s e M (s_ks σ0 t).2 → l3 = (s_ks σ0 t).1 → l4.toInt = (t : Int) → t ≤ hs_n σ0 → hs_n σ0 - t < n → Ok (F_X10_strikeForgotten_L5 n (some e) (some s) l3 l4 M) (fun r => r.1 = (s_ks σ0 (hs_n σ0)).1 ∧ k_FC M0 s e r.2 (s_ks σ0 (hs_n σ0)).2) := by
  intro n
  induction n with
  | zero => intro t l3 l4 M C h3 h4 ht hn; omega
  | succ n ih =>
    intro t l3 l4 M C h3 h4 ht hn
    have nn0 := s_Vn V
    have en := nm_of (σ := σ0) (σ' := (s_ks σ0 t).2) (fun i hi => ks_o (fun k hk => by omega) t (by omega))
    obtain ⟨F, X⟩ := C
    obtain ⟨⟨ke, ⟨e6, e7⟩, _⟩, ⟨⟨ks, k1, k2⟩, k3, k4⟩, ⟨r0, r1⟩, r2, r3⟩ := k_XE X
    have nn := s_Vn X.2.2
    show Ok (F_X10_strikeForgotten_b5 (F_X10_strikeForgotten_L5 n) (some e) (some s) l3 l4 M) _
    delta F_X10_strikeForgotten_b5 F_X10_strikeForgotten_b49
    refine x_gI ke e6 ?_
    have c0 := i_le_n h4 nn.1.1
    by_cases c : hs_n σ0 ≤ t
    · have : t = hs_n σ0 := by omega
      subst this
      rw [if_pos (c0.mpr (by omega))]
      exact Ok_s ⟨h3, F, X⟩
    · have ht' : (t : Int) < ((s_ks σ0 t).2 1).toInt := by omega
      have ss := s_struck X.2.2 ht'
      have stv : M.2.1 (s + 4) t = (s_ks σ0 t).2 (13 + 4 * t) := X.2.1.2.2.2 t ht'
      have nx := i_nx h4 (by omega)
      rw [if_neg (fun z => by have := c0.mp z; omega)]
      refine x_gR ks r3 (x_aI k4 h4 (by omega) stv ?_)
      have step : s_ks σ0 (t + 1) = if s_kc (s_ks σ0 t).2 t = true then ((s_ks σ0 t).1 + 1, hs_set (s_ks σ0 t).2 (13 + 4 * t) ((s_ks σ0 t).2 4)) else s_ks σ0 t := rfl
      have same : s_kc (s_ks σ0 t).2 t = false → Ok (F_X10_strikeForgotten_L5 n (some e) (some s) l3 (l4 + 1) M) (fun r => r.1 = (s_ks σ0 (hs_n σ0)).1 ∧ k_FC M0 s e r.2 (s_ks σ0 (hs_n σ0)).2) := by
        intro kf
        rw [kf, if_neg (by decide)] at step
        exact ih (t + 1) (by rw [step]; exact ⟨F, X⟩) (by rw [step]; exact h3) nx (by omega) (by omega)
      by_cases c1 : ((s_ks σ0 t).2 (13 + 4 * t)).toInt < 0
      · rw [if_pos (ss.mpr c1)]
        refine x_gO ks (x_eq (C_holdersOf X h4 ht') ?_)
        by_cases c2 : s_hs (s_ks σ0 t).2 t = 0
        · have kt : s_kc (s_ks σ0 t).2 t = true := by
            unfold s_kc
            rw [decide_eq_true c1, c2]
            rfl
          rw [if_pos c2]
          rw [kt, if_pos rfl] at step
          have yv : M.2.1 s 5 = (s_ks σ0 t).2 4 := X.2.1.2.1.1.2
          refine x_gR ks r3 (x_gI ks yv (x_sI k4 h4 (by omega) ?_))
          have f1 : k_Fs s M (mI M (s + 4) t ((s_ks σ0 t).2 4)) := k_Fs_up (by omega)
          have y4 : (s_ks σ0 t).2 4 = σ0 4 := ks_o (fun i hi => by omega) t (by omega)
          refine ih (t + 1) ?_ (by rw [step, h3]) nx (by omega) (by omega)
          rw [step]
          dsimp only
          refine ⟨k_Fs_tr F f1, k_X_Fs X hd f1 ?_ (st_V X.2.2 (by omega) (by rw [y4]; omega)) (fun j _ _ _ _ h9 => hs_sn (h9 t (by omega)).1)⟩
          obtain ⟨S1, S2, S3⟩ := X.2.1.2
          refine ⟨?_, fun h' hh' => ?_, fun t' ht'' => ?_⟩
          · rw [hs_sn (by omega), hs_sn (by omega), hs_sn (by omega), mI_ne (by omega), mI_ne (by omega), mI_ne (by omega)]
            exact S1
          · rw [hs_sn (by omega)] at hh'
            rw [hs_sn (by omega), mI_ne (by omega)]
            exact ⟨(S2 h' hh').1, fun tt htt => k_cm ((S2 h' hh').2 tt htt) (mI_ne (by omega)) (mI_ne (by omega)) (hs_sn (by omega)) (hs_sn (by omega))⟩
          · rw [hs_sn (by omega)] at ht''
            by_cases ett : t' = t
            · subst ett
              rw [y_mI1, hs_se]
            · rw [mI_ne (by omega), hs_sn (by omega)]
              exact S3 t' ht''
        · rw [if_neg c2]
          refine same ?_
          unfold s_kc
          rw [decide_eq_true c1]
          simp [c2]
      · rw [if_neg (mt ss.mp c1)]
        refine same ?_
        unfold s_kc
        rw [decide_eq_false c1]
        rfl
theorem C_age_L16 {M0 : gM} {s e : Nat} {σ0 : Nat → Int32} (hd : e + 5 < s ∨ s + 4 < e) (Y : k_Y M0) (hs5 : 5 < s) (V : s_V σ0) (hy : 0 ≤ (σ0 4).toInt) : ∀ (n h : Nat) {l4 : Int32} {M : gM}, k_FC M0 s e M (s_ag σ0 h) → l4.toInt = (h : Int) → h ≤ hs_m σ0 → hs_m σ0 - h < n → Ok (F_X10_pass_L16 n (some 4) (some e) (some s) l4 M) (fun r => r.1 = (s_ks (s_ag σ0 (hs_m σ0)) (hs_n σ0)).1 ∧ k_FC M0 s e r.2 (hs_set (s_ks (s_ag σ0 (hs_m σ0)) (hs_n σ0)).2 4 ((s_ks (s_ag σ0 (hs_m σ0)) (hs_n σ0)).2 4 + 1))) := by
  intro n
  induction n with
  | zero => intro h l4 M C h4 hh hn; omega
  | succ n ih =>
    intro h l4 M C h4 hh hn
    have nn0 := s_Vn V
    have en := nm_of (σ := σ0) (σ' := s_ag σ0 h) (fun i hi => ag_o (fun k hk => by omega) h (by omega))
    obtain ⟨F, X⟩ := C
    obtain ⟨⟨ke, ⟨e6, e7⟩, _⟩, ⟨⟨ks, k1, k2⟩, k3, k4⟩, ⟨r0, r1⟩, r2, r3⟩ := k_XE X
    have nn := s_Vn X.2.2
    show Ok (F_X10_pass_b16 (F_X10_pass_L16 n) (some 4) (some e) (some s) l4 M) _
    delta F_X10_pass_b16
    refine x_gI ke e7 ?_
    have c0 := i_le_n h4 nn.2.1
    by_cases c : hs_m σ0 ≤ h
    · have : h = hs_m σ0 := by omega
      subst this
      rw [if_pos (c0.mpr (by omega))]
      refine x_gO (k_Y_m Y F.1.1.1 F.1.2).1.1.1 ?_
      have y4 : s_ag σ0 (hs_m σ0) 4 = σ0 4 := ag_o (fun i hi => by omega) _ nn0.2.2
      have z := C_strike_L5 (M0 := M0) (σ0 := s_ag σ0 (hs_m σ0)) hd X.2.2 (by rw [y4]; exact hy) g_fuel 0 (l3 := 0) (l4 := 0) (M := M) ⟨F, X⟩ rfl rfl (Nat.zero_le _) (n_fu (by omega))
      rw [en.1] at z
      delta F_X10_strikeForgotten F_X10_strikeForgotten_b0
      refine Ok_b z (fun r q => ?_)
      obtain ⟨v3, M4⟩ := r
      obtain ⟨q1, F4, X4⟩ := q
      dsimp only at q1 F4 X4 ⊢
      obtain ⟨_, ⟨⟨ks', _⟩, _⟩, _⟩ := k_XE X4
      have yv : M4.2.1 s 5 = (s_ks (s_ag σ0 (hs_m σ0)) (hs_n σ0)).2 4 := X4.2.1.2.1.1.2
      refine x_gI ks' yv (x_pI ks' ?_)
      have f1 : k_Fs s M4 (mI M4 s 5 ((s_ks (s_ag σ0 (hs_m σ0)) (hs_n σ0)).2 4 + 1)) := k_Fs_up (by omega)
      refine Ok_s ⟨q1, k_Fs_tr F4 f1, k_X_Fs X4 hd f1 ?_ (yr_V X4.2.2) (fun j _ h4 _ _ _ => hs_sn h4)⟩
      obtain ⟨S1, S2, S3⟩ := X4.2.1.2
      refine ⟨⟨⟨?_, ?_⟩, ?_⟩, fun h' hh' => ?_, fun t' ht' => ?_⟩
      · rw [hs_sn (by omega), mI_ne (by omega)]
        exact S1.1.1
      · rw [y_mI1, hs_se]
      · rw [hs_sn (by omega), mI_ne (by omega)]
        exact S1.2
      · rw [hs_sn (by omega)] at hh'
        rw [hs_sn (by omega), mI_ne (by omega)]
        exact ⟨(S2 h' hh').1, fun tt htt => k_cm ((S2 h' hh').2 tt htt) (mI_ne (by omega)) (mI_ne (by omega)) (hs_sn (by omega)) (hs_sn (by omega))⟩
      · rw [hs_sn (by omega)] at ht'
        rw [hs_sn (by omega), mI_ne (by omega)]
        exact S3 t' ht'
    · have hh' : h < hs_m σ0 := by omega
      rw [if_neg (fun z => by have := c0.mp z; omega)]
      have av : M.2.1 (s + 3) h = s_ag σ0 h (38 + 2 * h) := (X.2.1.2.2.1 h (by omega)).1
      refine x_gR ks r2 (x_gR ks r2 (x_aI k3 h4 (by omega) av ?_))
      refine x_sI k3 h4 (by omega) ?_
      have f1 : k_Fs s M (mI M (s + 3) h (if s_ag σ0 h (38 + 2 * h) + 1 < 99 then s_ag σ0 h (38 + 2 * h) + 1 else 99)) := k_Fs_up (by omega)
      have go : k_S (mI M (s + 3) h (if s_ag σ0 h (38 + 2 * h) + 1 < 99 then s_ag σ0 h (38 + 2 * h) + 1 else 99)) s (s_a1 (s_ag σ0 h) h) → Ok (F_X10_pass_L16 n (some 4) (some e) (some s) (l4 + 1) (mI M (s + 3) h (if s_ag σ0 h (38 + 2 * h) + 1 < 99 then s_ag σ0 h (38 + 2 * h) + 1 else 99))) _ := fun hS => ih (h + 1) ⟨k_Fs_tr F f1, k_X_Fs X hd f1 hS (a1_V X.2.2 (by omega)) (fun j _ _ _ _ h9 => a1_o (h9 h (by omega)).2)⟩ (i_nx h4 (by omega)) (by omega) (by omega)
      refine go ?_
      obtain ⟨S1, S2, S3⟩ := X.2.1.2
      refine ⟨?_, fun h' hh'' => ?_, fun t' ht'' => ?_⟩
      · rw [a1_o (by omega), a1_o (by omega), a1_o (by omega), mI_ne (by omega), mI_ne (by omega), mI_ne (by omega)]
        exact S1
      · rw [a1_o (by omega)] at hh''
        refine ⟨?_, fun tt htt => k_cm ((S2 h' hh'').2 tt htt) (mI_ne (by omega)) (mI_ne (by omega)) (a1_o (by omega)) (a1_o (by omega))⟩
        by_cases eh : h' = h
        · subst eh
          rw [y_mI1]
          unfold s_a1
          rw [hs_se]
        · rw [mI_ne (by omega), a1_o (by omega)]
          exact (S2 h' hh'').1
      · rw [a1_o (by omega)] at ht''
        rw [mI_ne (by omega), a1_o (by omega)]
        exact S3 t' ht''
/-- the YEAR, once all losses are weighed -/
theorem C_pass {M : gM} {s e : Nat} {σ : Nat → Int32} {L : Nat → Nat → Int32} {rl : Option Nat} {W : gM → gM → Prop} (hs5 : 5 < s) (hd : e + 5 < s ∨ s + 4 < e) (Y : k_Y M) (V : s_V σ) (LV : s_LV L) (hy : 0 ≤ (σ 4).toInt)
    (w : Ok (F_X10_weigh (some 4) (some e) (some s) rl M) (fun M2 => k_X M2 s e σ ∧ k_Y M2 ∧ k_Ls M2 σ L ∧ W M M2)) : Ok (F_X10_pass (some 4) (some e) (some s) rl M) (fun r => r.1 = (s_ps σ L).1 ∧ ∃ M2, W M M2 ∧ k_FC M2 s e r.2 (s_ps σ L).2) := by
  have nn := s_Vn V
  delta F_X10_pass F_X10_pass_b0
  refine x_gO Y.1.1.1 ?_
  refine Ok_b w (fun M2 z => ?_)
  obtain ⟨X2, Y2, LS2, W2⟩ := z
  refine x_gC Y2.1.1.1 ?_
  delta F_X10_fadeAll F_X10_fadeAll_b0
  refine Ok_b (C_fade_L2 hs5 hd Y2 V LV LS2 g_fuel 0 (l3 := 0) (M := M2) ⟨k_Fs_rf, X2⟩ rfl (Nat.zero_le _) (n_fu (by omega))) (fun M4 C4 => ?_)
  have en := nm_of (σ := σ) (σ' := s_fo σ L (hs_m σ)) (fun i hi => fo_lo (by omega) (hs_m σ))
  have z := C_age_L16 (M0 := M2) (σ0 := s_fo σ L (hs_m σ)) hd Y2 hs5 C4.2.2.2 (by rw [fo_lo (by decide)]; exact hy) g_fuel 0 (l4 := 0) (M := M4) C4 rfl (Nat.zero_le _) (n_fu (by omega))
  rw [en.1, en.2] at z
  exact Ok_w z (fun r q => ⟨q.1, M2, W2, q.2⟩)
