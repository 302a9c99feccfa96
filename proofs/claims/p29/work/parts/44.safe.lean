theorem S_X11_falls_L53 {b : Nat → Bool} : ∀ (n : Nat) {l0 : Nat} {l2 : Int32} {l3 : Int32} {M : gM}, q_HT 0 M → (q_Kd M l0 (11, 0)) → (0 ≤ l3.toInt ∧ l3.toInt ≤ 7) → 7 - l3.toInt < (n : Int) → Ok (F_X11_falls_L53 n (some l0) l2 l3 M) (q_PI b M (-2147483648) (2147483647)) := by
  intro n
  induction n with
  | zero =>
    intro l0 l2 l3 M H K_l0 h_l3  hm
    exfalso
    omega
  | succ n ih =>
    intro l0 l2 l3 M H K_l0 h_l3  hm
    exact S_X11_falls_b53 (b := b) (m53 := 7 - l3.toInt) (fun H K_l0 h_l3  hm2 => ih H K_l0 h_l3  (by omega)) H K_l0 h_l3  (Int.le_refl _)
theorem S_X11_falls_b23 {b : Nat → Bool} {k23 : Option Nat → Int32 → Int32 → gM → Option (Int32 × gM)} {m23 : Int} {l0 : Nat} {l1 : Int32} {l2 : Int32} {M : gM} (hk23 : ∀ {l0 : Nat} {l1 : Int32} {l2 : Int32} {M : gM}, q_HT 0 M → (q_Kd M l0 (11, 0)) → (0 ≤ l1.toInt ∧ l1.toInt ≤ 6) → (0 ≤ l2.toInt ∧ l2.toInt ≤ 7) → 7 - l2.toInt < m23 → Ok (k23 (some l0) l1 l2 M) (q_PI b M (-2147483648) (2147483647))) (H : q_HT 0 M) (K_l0 : q_Kd M l0 (11, 0)) (h_l1 : 0 ≤ l1.toInt ∧ l1.toInt ≤ 6) (h_l2 : 0 ≤ l2.toInt ∧ l2.toInt ≤ 7) (hm23 : 7 - l2.toInt ≤ m23) : Ok (F_X11_falls_b23 k23 (some l0) l1 l2 M) (q_PI b M (-2147483648) (2147483647)) := by
  delta F_X11_falls_b23
  have z_0 := L_0
  have z_1 := L_1
  refine d_gR (q := (1, 0)) H K_l0 (by decide) rfl (fun v1 r_v1 K_v1 => ?_)
  refine d_gI (lo := 0) (hi := 7) H K_v1 (by decide) rfl (fun v2 q_v2 e_v2 => ?_)
  refine Ok_i (fun c_1 => ?_) (fun c_1 => ?_)
  · skip
    replace c_1 := i_le c_1
    exact w_PI (q_rf _ _) (S_X11_falls_L53 (b := b)  g_fuel H K_l0 (by decide) (q_fu (by omega))) (by decide) (by decide)
  · skip
    replace c_1 := i_nle c_1
    refine d_gR (q := (8, 0)) H K_l0 (by decide) rfl (fun v3 r_v3 K_v3 => ?_)
    refine c_gO K_v3 ?_
    refine Ok_b (S_X8_forget (b := b) H K_v3 h_l1 (by omega)) (fun M5 zM5 => ?_)
    obtain ⟨HM5, fM5⟩ := zM5
    have K_2 := (q_mo K_l0 (by decide) fM5)
    have a_3 := i_addc (x := l2) (c := 1) z_1 (by omega) (by omega)
    exact w_PI fM5 (hk23 HM5 K_2 h_l1 (by omega) (by omega)) (by decide) (by decide)
theorem S_X11_falls_L23 {b : Nat → Bool} : ∀ (n : Nat) {l0 : Nat} {l1 : Int32} {l2 : Int32} {M : gM}, q_HT 0 M → (q_Kd M l0 (11, 0)) → (0 ≤ l1.toInt ∧ l1.toInt ≤ 6) → (0 ≤ l2.toInt ∧ l2.toInt ≤ 7) → 7 - l2.toInt < (n : Int) → Ok (F_X11_falls_L23 n (some l0) l1 l2 M) (q_PI b M (-2147483648) (2147483647)) := by
  intro n
  induction n with
  | zero =>
    intro l0 l1 l2 M H K_l0 h_l1 h_l2  hm
    exfalso
    omega
  | succ n ih =>
    intro l0 l1 l2 M H K_l0 h_l1 h_l2  hm
    exact S_X11_falls_b23 (b := b) (m23 := 7 - l2.toInt) (fun H K_l0 h_l1 h_l2  hm2 => ih H K_l0 h_l1 h_l2  (by omega)) H K_l0 h_l1 h_l2  (Int.le_refl _)
theorem S_X11_falls_b0 {b : Nat → Bool} {l0 : Nat} {l1 : Int32} {M : gM} (H : q_HT 0 M) (K_l0 : q_Kd M l0 (11, 0)) : Ok (F_X11_falls_b0 (some l0) l1 M) (q_PI b M (-2147483648) (2147483647)) := by
  delta F_X11_falls_b0
  have z_m1 := L_m1
  have z_0 := L_0
  refine c_gO K_l0 ?_
  refine Ok_b (S_X11_isHeir H K_l0) (fun v2 e_v2 => ?_)
  obtain ⟨e_v2, w_v2⟩ := e_v2
  refine Ok_i (fun c_1 => ?_) (fun c_1 => ?_)
  · skip
    replace c_1 := i_eq c_1
    exact r_PI (i_rng _) H (q_rf _ _)
  · skip
    replace c_1 := i_ne c_1
    have x_v2 := w_v2 (by omega)
    refine d_gR (q := (8, 0)) H K_l0 (by decide) rfl (fun v3 r_v3 K_v3 => ?_)
    refine d_gR (q := (8, 0)) H K_l0 (by decide) rfl (fun v4 r_v4 K_v4 => ?_)
    refine c_gO K_v3 ?_
    refine Ok_b (S_X8_copy (b := b) H K_v3 K_v4) (fun M6 zM6 => ?_)
    obtain ⟨HM6, fM6⟩ := zM6
    have K_2 := (q_mo K_l0 (by decide) fM6)
    exact w_PI fM6 (S_X11_falls_L23 (b := b)  g_fuel HM6 K_2 (by omega) (by decide) (q_fu (by omega))) (by decide) (by decide)
theorem S_X11_falls {b : Nat → Bool} {l0 : Nat} {l1 : Int32} {M : gM} (H : q_HT 0 M) (K_l0 : q_Kd M l0 (11, 0)) : Ok (F_X11_falls (some l0) l1 M) (q_PI b M (-2147483648) (2147483647)) := by
  delta F_X11_falls
  exact w_PI (q_rf _ _) (S_X11_falls_b0 (b := b)  H K_l0) (by decide) (by decide)
theorem S_X8_heldTogether_b4 {k4 : Option Nat → Option Nat → Int32 → Int32 → Option Int32} {m4 : Int} {l0 : Nat} {l1 : Nat} {l2 : Int32} {l3 : Int32} {M : gM} (hk4 : ∀ {l0 : Nat} {l1 : Nat} {l2 : Int32} {l3 : Int32}, q_HT 0 M → (q_Kd M l0 (8, 0)) → (q_Kd M l1 (1, 0)) → (0 ≤ l3.toInt ∧ l3.toInt ≤ 7) → 7 - l3.toInt < m4 → Ok (k4 (some l0) (some l1) l2 l3) (q_pi (-2147483648) (2147483647))) (H : q_HT 0 M) (K_l0 : q_Kd M l0 (8, 0)) (K_l1 : q_Kd M l1 (1, 0)) (h_l3 : 0 ≤ l3.toInt ∧ l3.toInt ≤ 7) (hm4 : 7 - l3.toInt ≤ m4) : Ok (F_X8_heldTogether_b4 k4 M (some l0) (some l1) l2 l3) (q_pi (-2147483648) (2147483647)) := by
  delta F_X8_heldTogether_b4
  have z_1 := L_1
  refine d_gI (lo := 0) (hi := 7) H K_l1 (by decide) rfl (fun v1 q_v1 e_v1 => ?_)
  refine Ok_i (fun c_1 => ?_) (fun c_1 => ?_)
  · skip
    replace c_1 := i_le c_1
    exact r_pi (i_rng _)
  · skip
    replace c_1 := i_nle c_1
    refine c_gO K_l0 ?_
    refine Ok_b (S_X8_holdersOf H K_l0 K_l1 (by omega)) (fun v3 e_v3 => ?_)
    refine Ok_b (S_J6_bitCount_0f7a4 H) (fun v4 e_v4 => ?_)
    have a_2 := i_addc (x := l3) (c := 1) z_1 (by omega) (by omega)
    exact w_pi (hk4 H K_l0 K_l1 (by omega) (by omega)) (by decide) (by decide)
theorem S_X8_heldTogether_L4 {M : gM} : ∀ (n : Nat) {l0 : Nat} {l1 : Nat} {l2 : Int32} {l3 : Int32}, q_HT 0 M → (q_Kd M l0 (8, 0)) → (q_Kd M l1 (1, 0)) → (0 ≤ l3.toInt ∧ l3.toInt ≤ 7) → 7 - l3.toInt < (n : Int) → Ok (F_X8_heldTogether_L4 M n (some l0) (some l1) l2 l3) (q_pi (-2147483648) (2147483647)) := by
  intro n
  induction n with
  | zero =>
    intro l0 l1 l2 l3 H K_l0 K_l1 h_l3  hm
    exfalso
    omega
  | succ n ih =>
    intro l0 l1 l2 l3 H K_l0 K_l1 h_l3  hm
    exact S_X8_heldTogether_b4 (m4 := 7 - l3.toInt) (fun H K_l0 K_l1 h_l3  hm2 => ih H K_l0 K_l1 h_l3  (by omega)) H K_l0 K_l1 h_l3  (Int.le_refl _)
theorem S_X8_heldTogether_b0 {l0 : Nat} {l1 : Nat} {M : gM} (H : q_HT 0 M) (K_l0 : q_Kd M l0 (8, 0)) (K_l1 : q_Kd M l1 (1, 0)) : Ok (F_X8_heldTogether_b0 M (some l0) (some l1)) (q_pi (-2147483648) (2147483647)) := by
  delta F_X8_heldTogether_b0
  have z_0 := L_0
  exact w_pi (S_X8_heldTogether_L4  g_fuel H K_l0 K_l1 (by decide) (q_fu (by omega))) (by decide) (by decide)
theorem S_X8_heldTogether {l0 : Nat} {l1 : Nat} {M : gM} (H : q_HT 0 M) (K_l0 : q_Kd M l0 (8, 0)) (K_l1 : q_Kd M l1 (1, 0)) : Ok (F_X8_heldTogether (some l0) (some l1) M) (q_pi (-2147483648) (2147483647)) := by
  delta F_X8_heldTogether
  exact w_pi (S_X8_heldTogether_b0  H K_l0 K_l1) (by decide) (by decide)
theorem S_X11_heldBehindAsk_b0 {b : Nat → Bool} {l0 : Nat} {l1 : Int32} {M : gM} (H : q_HT 0 M) (K_l0 : q_Kd M l0 (11, 0)) (h_l1 : 0 ≤ l1.toInt ∧ l1.toInt ≤ 48) : Ok (F_X11_heldBehindAsk_b0 (some l0) l1 M) (q_PI b M (-2147483648) (2147483647)) := by
  delta F_X11_heldBehindAsk_b0
  have z_7 := L_7
  refine d_gR (q := (8, 0)) H K_l0 (by decide) rfl (fun v1 r_v1 K_v1 => ?_)
  refine d_gR (q := (8, 0)) H K_l0 (by decide) rfl (fun v2 r_v2 K_v2 => ?_)
  refine c_gO K_v1 ?_
  refine Ok_b (S_X8_copy (b := b) H K_v1 K_v2) (fun M4 zM4 => ?_)
  obtain ⟨HM4, fM4⟩ := zM4
  have K_1 := (q_mo K_l0 (by decide) fM4)
  refine d_gR (q := (8, 0)) HM4 K_1 (by decide) rfl (fun v5 r_v5 K_v5 => ?_)
  refine d_gR (q := (1, 0)) HM4 K_1 (by decide) rfl (fun v6 r_v6 K_v6 => ?_)
  refine c_gO K_v5 ?_
  have a_2 := i_div (x := l1) (c := (7 : Int32)) (n := 7) z_7 (by decide) (by omega)
  have a_3 := i_mod (x := l1) (c := (7 : Int32)) (n := 7) z_7 (by decide) (by omega)
  refine Ok_b (S_X8_isAsked (b := b) HM4 K_v5 K_v6 (by omega) (by omega)) (fun M8 zM8 => ?_)
  obtain ⟨HM8, fM8⟩ := zM8
  have g_4 := q_tr fM4 fM8
  have K_5 := (q_mo K_1 (by decide) fM8)
  refine d_gR (q := (8, 0)) HM8 K_5 (by decide) rfl (fun v9 r_v9 K_v9 => ?_)
  refine d_gR (q := (1, 0)) HM8 K_5 (by decide) rfl (fun v10 r_v10 K_v10 => ?_)
  refine c_gO K_v9 ?_
  refine Ok_b (S_X8_heldTogether HM8 K_v9 K_v10) (fun v12 e_v12 => ?_)
  exact r_PI (i_rng _) HM8 g_4
theorem S_X11_heldBehindAsk {b : Nat → Bool} {l0 : Nat} {l1 : Int32} {M : gM} (H : q_HT 0 M) (K_l0 : q_Kd M l0 (11, 0)) (h_l1 : 0 ≤ l1.toInt ∧ l1.toInt ≤ 48) : Ok (F_X11_heldBehindAsk (some l0) l1 M) (q_PI b M (-2147483648) (2147483647)) := by
  delta F_X11_heldBehindAsk
  exact w_PI (q_rf _ _) (S_X11_heldBehindAsk_b0 (b := b)  H K_l0 h_l1) (by decide) (by decide)
theorem S_X11_examine_b19 {b : Nat → Bool}  {M : gM} (H : q_HT 0 M) : Ok (F_X11_examine_b19 M) (q_PI b M (-2147483648) (2147483647)) := by
  delta F_X11_examine_b19
  have z_m1 := L_m1
  exact r_PI (i_rng _) H (q_rf _ _)
theorem S_X11_examine_b41 {b : Nat → Bool}  {M : gM} (H : q_HT 0 M) : Ok (F_X11_examine_b41 M) (q_PI b M (-2147483648) (2147483647)) := by
  delta F_X11_examine_b41
  have z_m2 := L_m2
  exact r_PI (i_rng _) H (q_rf _ _)
theorem S_X11_examine_b105 {b : Nat → Bool} {k55 : Option Nat → Int32 → Int32 → Int32 → Int32 → gM → Option (Int32 × gM)} {m55 : Int} {l0 : Nat} {l1 : Int32} {l2 : Int32} {l3 : Int32} {l4 : Int32} {M : gM} (hk55 : ∀ {l0 : Nat} {l1 : Int32} {l2 : Int32} {l3 : Int32} {l4 : Int32} {M : gM}, q_HT 0 M → (q_Kd M l0 (11, 0)) → (0 ≤ l1.toInt ∧ l1.toInt ≤ 2) → (0 ≤ l2.toInt ∧ l2.toInt ≤ 48) → (1 ≤ l4.toInt ∧ l4.toInt ≤ 49) → 49 - l4.toInt < m55 → Ok (k55 (some l0) l1 l2 l3 l4 M) (q_PI b M (-2147483648) (2147483647))) (H : q_HT 0 M) (K_l0 : q_Kd M l0 (11, 0)) (h_l1 : 0 ≤ l1.toInt ∧ l1.toInt ≤ 2) (h_l2 : 0 ≤ l2.toInt ∧ l2.toInt ≤ 48) (h_l4 : 1 ≤ l4.toInt ∧ l4.toInt ≤ 48) (hm55 : 49 - l4.toInt ≤ m55) : Ok (F_X11_examine_b105 k55 (some l0) l1 l2 l3 l4 M) (q_PI b M (-2147483648) (2147483647)) := by
  delta F_X11_examine_b105
  have z_1 := L_1
  have a_1 := i_addc (x := l4) (c := 1) z_1 (by omega) (by omega)
  exact w_PI (q_rf _ _) (hk55 H K_l0 h_l1 h_l2 (by omega) (by omega)) (by decide) (by decide)
set_option maxHeartbeats 1000000 in
theorem S_X11_examine_b55 {b : Nat → Bool} {k55 : Option Nat → Int32 → Int32 → Int32 → Int32 → gM → Option (Int32 × gM)} {m55 : Int} {l0 : Nat} {l1 : Int32} {l2 : Int32} {l3 : Int32} {l4 : Int32} {M : gM} (hk55 : ∀ {l0 : Nat} {l1 : Int32} {l2 : Int32} {l3 : Int32} {l4 : Int32} {M : gM}, q_HT 0 M → (q_Kd M l0 (11, 0)) → (0 ≤ l1.toInt ∧ l1.toInt ≤ 2) → (0 ≤ l2.toInt ∧ l2.toInt ≤ 48) → (1 ≤ l4.toInt ∧ l4.toInt ≤ 49) → 49 - l4.toInt < m55 → Ok (k55 (some l0) l1 l2 l3 l4 M) (q_PI b M (-2147483648) (2147483647))) (H : q_HT 0 M) (K_l0 : q_Kd M l0 (11, 0)) (h_l1 : 0 ≤ l1.toInt ∧ l1.toInt ≤ 2) (h_l2 : 0 ≤ l2.toInt ∧ l2.toInt ≤ 48) (h_l4 : 1 ≤ l4.toInt ∧ l4.toInt ≤ 49) (hm55 : 49 - l4.toInt ≤ m55) : Ok (F_X11_examine_b55 k55 (some l0) l1 l2 l3 l4 M) (q_PI b M (-2147483648) (2147483647)) := by
  delta F_X11_examine_b55
  have z_0 := L_0
  have z_2 := L_2
  have z_7 := L_7
  refine d_gR (q := (1, 0)) H K_l0 (by decide) rfl (fun v1 r_v1 K_v1 => ?_)
  refine d_gI (lo := 0) (hi := 7) H K_v1 (by decide) rfl (fun v2 q_v2 e_v2 => ?_)
  have a_1 := i_mulR (x := v2) (c := (7 : Int32)) z_7 (by omega) (by omega)
  refine Ok_i (fun c_2 => ?_) (fun c_2 => ?_)
  · skip
    replace c_2 := i_le c_2
    refine Ok_i (fun c_3 => ?_) (fun c_3 => ?_)
    · skip
      replace c_3 := i_eq c_3
      exact r_PI (i_rng _) H (q_rf _ _)
    · skip
      replace c_3 := i_ne c_3
      refine Ok_i (fun c_4 => ?_) (fun c_4 => ?_)
      · skip
        replace c_4 := i_eq c_4
        have a_5 := i_div (x := l2) (c := (7 : Int32)) (n := 7) z_7 (by decide) (by omega)
        exact r_PI (i_rng _) H (q_rf _ _)
      · skip
        replace c_4 := i_ne c_4
        have a_6 := i_mod (x := l2) (c := (7 : Int32)) (n := 7) z_7 (by decide) (by omega)
        exact r_PI (i_rng _) H (q_rf _ _)
  · skip
    replace c_2 := i_nle c_2
    refine c_gRs K_l0 r_v1 ?_
    refine d_gI (lo := 0) (hi := 7) H K_v1 (by decide) rfl (fun v4 q_v4 e_v4 => ?_)
    have a_7 := i_mod (x := l4) (c := (7 : Int32)) (n := 7) z_7 (by decide) (by omega)
    refine Ok_i (fun c_8 => ?_) (fun c_8 => ?_)
    · skip
      replace c_8 := i_le c_8
      exact w_PI (q_rf _ _) (S_X11_examine_b105 (b := b) hk55 H K_l0 h_l1 h_l2 (by omega) (by omega)) (by decide) (by decide)
    · skip
      replace c_8 := i_nle c_8
      refine c_gO K_l0 ?_
      refine Ok_b (S_X11_heldBehindAsk (b := b) H K_l0 (by omega)) (fun yM7 zM7 => ?_)
      obtain ⟨v6, M7⟩ := yM7
      obtain ⟨e_v6, HM7, fM7⟩ := zM7
      try dsimp only at e_v6 HM7 fM7
      refine Ok_i (fun c_9 => ?_) (fun c_9 => ?_)
      · skip
        replace c_9 := i_le c_9
        have K_10 := (q_mo K_l0 (by decide) fM7)
        exact w_PI fM7 (S_X11_examine_b105 (b := b) hk55 HM7 K_10 h_l1 h_l2 (by omega) (by omega)) (by decide) (by decide)
      · skip
        replace c_9 := i_nle c_9
        have K_11 := (q_mo K_l0 (by decide) fM7)
        exact w_PI fM7 (S_X11_examine_b105 (b := b) hk55 HM7 K_11 h_l1 (by omega) (by omega) (by omega)) (by decide) (by decide)
theorem S_X11_examine_L55 {b : Nat → Bool} : ∀ (n : Nat) {l0 : Nat} {l1 : Int32} {l2 : Int32} {l3 : Int32} {l4 : Int32} {M : gM}, q_HT 0 M → (q_Kd M l0 (11, 0)) → (0 ≤ l1.toInt ∧ l1.toInt ≤ 2) → (0 ≤ l2.toInt ∧ l2.toInt ≤ 48) → (1 ≤ l4.toInt ∧ l4.toInt ≤ 49) → 49 - l4.toInt < (n : Int) → Ok (F_X11_examine_L55 n (some l0) l1 l2 l3 l4 M) (q_PI b M (-2147483648) (2147483647)) := by
  intro n
  induction n with
  | zero =>
    intro l0 l1 l2 l3 l4 M H K_l0 h_l1 h_l2 h_l4  hm
    exfalso
    omega
  | succ n ih =>
    intro l0 l1 l2 l3 l4 M H K_l0 h_l1 h_l2 h_l4  hm
    exact S_X11_examine_b55 (b := b) (m55 := 49 - l4.toInt) (fun H K_l0 h_l1 h_l2 h_l4  hm2 => ih H K_l0 h_l1 h_l2 h_l4  (by omega)) H K_l0 h_l1 h_l2 h_l4  (Int.le_refl _)
set_option maxHeartbeats 1000000 in
theorem S_X11_examine_b0 {b : Nat → Bool} {l0 : Nat} {l1 : Int32} {M : gM} (H : q_HT 0 M) (K_l0 : q_Kd M l0 (11, 0)) : Ok (F_X11_examine_b0 (some l0) l1 M) (q_PI b M (-2147483648) (2147483647)) := by
  delta F_X11_examine_b0
  have z_0 := L_0
  have z_1 := L_1
  have z_2 := L_2
  refine Ok_i (fun c_1 => ?_) (fun c_1 => ?_)
  · skip
    replace c_1 := i_lt c_1
    exact w_PI (q_rf _ _) (S_X11_examine_b19 (b := b)  H) (by decide) (by decide)
  · skip
    replace c_1 := i_nlt c_1
    refine Ok_i (fun c_2 => ?_) (fun c_2 => ?_)
    · skip
      replace c_2 := i_lt c_2
      exact w_PI (q_rf _ _) (S_X11_examine_b19 (b := b)  H) (by decide) (by decide)
    · skip
      replace c_2 := i_nlt c_2
      refine d_gR (q := (1, 0)) H K_l0 (by decide) rfl (fun v1 r_v1 K_v1 => ?_)
      refine d_gI (lo := 0) (hi := 1) H K_v1 (by decide) rfl (fun v2 q_v2 e_v2 => ?_)
      refine Ok_i (fun c_3 => ?_) (fun c_3 => ?_)
      · skip
        replace c_3 := i_eq c_3
        exact w_PI (q_rf _ _) (S_X11_examine_b19 (b := b)  H) (by decide) (by decide)
      · skip
        replace c_3 := i_ne c_3
        refine c_gRs K_l0 r_v1 ?_
        refine d_gI (lo := 0) (hi := 7) H K_v1 (by decide) rfl (fun v4 q_v4 e_v4 => ?_)
        refine Ok_i (fun c_4 => ?_) (fun c_4 => ?_)
        · skip
          replace c_4 := i_eq c_4
          exact w_PI (q_rf _ _) (S_X11_examine_b41 (b := b)  H) (by decide) (by decide)
        · skip
          replace c_4 := i_ne c_4
          refine c_gRs K_l0 r_v1 ?_
          refine d_gI (lo := 0) (hi := 7) H K_v1 (by decide) rfl (fun v6 q_v6 e_v6 => ?_)
          refine Ok_i (fun c_5 => ?_) (fun c_5 => ?_)
          · skip
            replace c_5 := i_eq c_5
            exact w_PI (q_rf _ _) (S_X11_examine_b41 (b := b)  H) (by decide) (by decide)
          · skip
            replace c_5 := i_ne c_5
            refine c_gO K_l0 ?_
            refine Ok_b (S_X11_heldBehindAsk (b := b) H K_l0 (by decide)) (fun yM9 zM9 => ?_)
            obtain ⟨v8, M9⟩ := yM9
            obtain ⟨e_v8, HM9, fM9⟩ := zM9
            try dsimp only at e_v8 HM9 fM9
            have K_6 := (q_mo K_l0 (by decide) fM9)
            exact w_PI fM9 (S_X11_examine_L55 (b := b)  g_fuel HM9 K_6 (by omega) (by decide) (by decide) (q_fu (by omega))) (by decide) (by decide)
theorem S_X11_examine {b : Nat → Bool} {l0 : Nat} {l1 : Int32} {M : gM} (H : q_HT 0 M) (K_l0 : q_Kd M l0 (11, 0)) : Ok (F_X11_examine (some l0) l1 M) (q_PI b M (-2147483648) (2147483647)) := by
  delta F_X11_examine
  exact w_PI (q_rf _ _) (S_X11_examine_b0 (b := b)  H K_l0) (by decide) (by decide)
theorem S_X8_strengthAs_b47 {k6 : Option Nat → Option Nat → Int32 → Int32 → Int32 → Int32 → Option Int32} {m6 : Int} {l0 : Nat} {l1 : Nat} {l2 : Int32} {l3 : Int32} {l4 : Int32} {l5 : Int32} {M : gM} (hk6 : ∀ {l0 : Nat} {l1 : Nat} {l2 : Int32} {l3 : Int32} {l4 : Int32} {l5 : Int32}, q_HT 0 M → (q_Kd M l0 (8, 0)) → (q_Kd M l1 (1, 0)) → (0 ≤ l2.toInt ∧ l2.toInt ≤ 6) → (0 ≤ l3.toInt ∧ l3.toInt ≤ 10) → (0 ≤ l5.toInt ∧ l5.toInt ≤ 7) → 7 - l5.toInt < m6 → Ok (k6 (some l0) (some l1) l2 l3 l4 l5) (q_pi (-2147483648) (2147483647))) (H : q_HT 0 M) (K_l0 : q_Kd M l0 (8, 0)) (K_l1 : q_Kd M l1 (1, 0)) (h_l2 : 0 ≤ l2.toInt ∧ l2.toInt ≤ 6) (h_l3 : 0 ≤ l3.toInt ∧ l3.toInt ≤ 10) (h_l5 : 0 ≤ l5.toInt ∧ l5.toInt ≤ 6) (hm6 : 7 - l5.toInt ≤ m6) : Ok (F_X8_strengthAs_b47 k6 M (some l0) (some l1) l2 l3 l4 l5) (q_pi (-2147483648) (2147483647)) := by
  delta F_X8_strengthAs_b47
  have z_1 := L_1
  have a_1 := i_addc (x := l5) (c := 1) z_1 (by omega) (by omega)
  exact w_pi (hk6 H K_l0 K_l1 h_l2 h_l3 (by omega) (by omega)) (by decide) (by decide)
theorem S_X8_strengthAs_b6 {k6 : Option Nat → Option Nat → Int32 → Int32 → Int32 → Int32 → Option Int32} {m6 : Int} {l0 : Nat} {l1 : Nat} {l2 : Int32} {l3 : Int32} {l4 : Int32} {l5 : Int32} {M : gM} (hk6 : ∀ {l0 : Nat} {l1 : Nat} {l2 : Int32} {l3 : Int32} {l4 : Int32} {l5 : Int32}, q_HT 0 M → (q_Kd M l0 (8, 0)) → (q_Kd M l1 (1, 0)) → (0 ≤ l2.toInt ∧ l2.toInt ≤ 6) → (0 ≤ l3.toInt ∧ l3.toInt ≤ 10) → (0 ≤ l5.toInt ∧ l5.toInt ≤ 7) → 7 - l5.toInt < m6 → Ok (k6 (some l0) (some l1) l2 l3 l4 l5) (q_pi (-2147483648) (2147483647))) (H : q_HT 0 M) (K_l0 : q_Kd M l0 (8, 0)) (K_l1 : q_Kd M l1 (1, 0)) (h_l2 : 0 ≤ l2.toInt ∧ l2.toInt ≤ 6) (h_l3 : 0 ≤ l3.toInt ∧ l3.toInt ≤ 10) (h_l5 : 0 ≤ l5.toInt ∧ l5.toInt ≤ 7) (hm6 : 7 - l5.toInt ≤ m6) : Ok (F_X8_strengthAs_b6 k6 M (some l0) (some l1) l2 l3 l4 l5) (q_pi (-2147483648) (2147483647)) := by
  delta F_X8_strengthAs_b6
  have z_7 := L_7
  refine d_gI (lo := 0) (hi := 7) H K_l1 (by decide) rfl (fun v1 q_v1 e_v1 => ?_)
  refine Ok_i (fun c_1 => ?_) (fun c_1 => ?_)
  · skip
    replace c_1 := i_le c_1
    exact r_pi (i_rng _)
  · skip
    replace c_1 := i_nle c_1
    refine d_gR (q := (20, 49)) H K_l0 (by decide) rfl (fun v2 r_v2 K_v2 => ?_)
    have a_2 := i_mulR (x := l5) (c := (7 : Int32)) z_7 (by omega) (by omega)
    have a_3 := i_add (x := (l5 * (7 : Int32))) (y := l2) (by omega) (by omega)
    refine c_aI K_v2 (by omega) (by omega) (fun v3 => ?_)
    refine Ok_i (fun c_4 => ?_) (fun c_4 => ?_)
    · skip
      replace c_4 := i_eq c_4
      refine d_gR (q := (20, 49)) H K_l0 (by decide) rfl (fun v4 r_v4 K_v4 => ?_)
      refine c_aI K_v4 (by omega) (by omega) (fun v5 => ?_)
      exact w_pi (S_X8_strengthAs_b47 hk6 H K_l0 K_l1 h_l2 h_l3 (by omega) (by omega)) (by decide) (by decide)
    · skip
      replace c_4 := i_ne c_4
      exact w_pi (S_X8_strengthAs_b47 hk6 H K_l0 K_l1 h_l2 h_l3 (by omega) (by omega)) (by decide) (by decide)
theorem S_X8_strengthAs_L6 {M : gM} : ∀ (n : Nat) {l0 : Nat} {l1 : Nat} {l2 : Int32} {l3 : Int32} {l4 : Int32} {l5 : Int32}, q_HT 0 M → (q_Kd M l0 (8, 0)) → (q_Kd M l1 (1, 0)) → (0 ≤ l2.toInt ∧ l2.toInt ≤ 6) → (0 ≤ l3.toInt ∧ l3.toInt ≤ 10) → (0 ≤ l5.toInt ∧ l5.toInt ≤ 7) → 7 - l5.toInt < (n : Int) → Ok (F_X8_strengthAs_L6 M n (some l0) (some l1) l2 l3 l4 l5) (q_pi (-2147483648) (2147483647)) := by
  intro n
  induction n with
  | zero =>
    intro l0 l1 l2 l3 l4 l5 H K_l0 K_l1 h_l2 h_l3 h_l5  hm
    exfalso
    omega
  | succ n ih =>
    intro l0 l1 l2 l3 l4 l5 H K_l0 K_l1 h_l2 h_l3 h_l5  hm
    exact S_X8_strengthAs_b6 (m6 := 7 - l5.toInt) (fun H K_l0 K_l1 h_l2 h_l3 h_l5  hm2 => ih H K_l0 K_l1 h_l2 h_l3 h_l5  (by omega)) H K_l0 K_l1 h_l2 h_l3 h_l5  (Int.le_refl _)
theorem S_X8_strengthAs_b0 {l0 : Nat} {l1 : Nat} {l2 : Int32} {l3 : Int32} {M : gM} (H : q_HT 0 M) (K_l0 : q_Kd M l0 (8, 0)) (K_l1 : q_Kd M l1 (1, 0)) (h_l2 : 0 ≤ l2.toInt ∧ l2.toInt ≤ 6) (h_l3 : 0 ≤ l3.toInt ∧ l3.toInt ≤ 9) : Ok (F_X8_strengthAs_b0 M (some l0) (some l1) l2 l3) (q_pi (-2147483648) (2147483647)) := by
  delta F_X8_strengthAs_b0
  have z_0 := L_0
  exact w_pi (S_X8_strengthAs_L6  g_fuel H K_l0 K_l1 h_l2 (by omega) (by decide) (q_fu (by omega))) (by decide) (by decide)
theorem S_X8_strengthAs {l0 : Nat} {l1 : Nat} {l2 : Int32} {l3 : Int32} {M : gM} (H : q_HT 0 M) (K_l0 : q_Kd M l0 (8, 0)) (K_l1 : q_Kd M l1 (1, 0)) (h_l2 : 0 ≤ l2.toInt ∧ l2.toInt ≤ 6) (h_l3 : 0 ≤ l3.toInt ∧ l3.toInt ≤ 9) : Ok (F_X8_strengthAs (some l0) (some l1) l2 l3 M) (q_pi (-2147483648) (2147483647)) := by
  delta F_X8_strengthAs
  exact w_pi (S_X8_strengthAs_b0  H K_l0 K_l1 h_l2 h_l3) (by decide) (by decide)
theorem S_X11_likeliest_b17  {M : gM} (H : q_HT 0 M) : Ok (F_X11_likeliest_b17 M) (q_pi (-2) (2147483647)) := by
  delta F_X11_likeliest_b17
  have z_m1 := L_m1
  exact r_pi (by decide)
theorem S_X11_likeliest_b64 {k27 : Option Nat → Int32 → Int32 → Int32 → Int32 → Int32 → Option Int32} {m27 : Int} {l0 : Nat} {l1 : Int32} {l2 : Int32} {l3 : Int32} {l4 : Int32} {l5 : Int32} {M : gM} (hk27 : ∀ {l0 : Nat} {l1 : Int32} {l2 : Int32} {l3 : Int32} {l4 : Int32} {l5 : Int32}, q_HT 0 M → (q_Kd M l0 (11, 0)) → (0 ≤ l1.toInt ∧ l1.toInt ≤ 6) → (0 ≤ l2.toInt ∧ l2.toInt ≤ 1) → (-1 ≤ l3.toInt ∧ l3.toInt ≤ 10) → (0 ≤ l4.toInt ∧ l4.toInt ≤ 2147483647) → (0 ≤ l5.toInt ∧ l5.toInt ≤ 10) → 10 - l5.toInt < m27 → Ok (k27 (some l0) l1 l2 l3 l4 l5) (q_pi (-2) (2147483647))) (H : q_HT 0 M) (K_l0 : q_Kd M l0 (11, 0)) (h_l1 : 0 ≤ l1.toInt ∧ l1.toInt ≤ 6) (h_l2 : 0 ≤ l2.toInt ∧ l2.toInt ≤ 1) (h_l3 : -1 ≤ l3.toInt ∧ l3.toInt ≤ 10) (h_l4 : 0 ≤ l4.toInt ∧ l4.toInt ≤ 2147483647) (h_l5 : 0 ≤ l5.toInt ∧ l5.toInt ≤ 9) (hm27 : 10 - l5.toInt ≤ m27) : Ok (F_X11_likeliest_b64 k27 M (some l0) l1 l2 l3 l4 l5) (q_pi (-2) (2147483647)) := by
  delta F_X11_likeliest_b64
  have z_1 := L_1
  have a_1 := i_addc (x := l5) (c := 1) z_1 (by omega) (by omega)
  exact w_pi (hk27 H K_l0 h_l1 h_l2 h_l3 h_l4 (by omega) (by omega)) (by decide) (by decide)
set_option maxHeartbeats 1000000 in
theorem S_X11_likeliest_b27 {k27 : Option Nat → Int32 → Int32 → Int32 → Int32 → Int32 → Option Int32} {m27 : Int} {l0 : Nat} {l1 : Int32} {l2 : Int32} {l3 : Int32} {l4 : Int32} {l5 : Int32} {M : gM} (hk27 : ∀ {l0 : Nat} {l1 : Int32} {l2 : Int32} {l3 : Int32} {l4 : Int32} {l5 : Int32}, q_HT 0 M → (q_Kd M l0 (11, 0)) → (0 ≤ l1.toInt ∧ l1.toInt ≤ 6) → (0 ≤ l2.toInt ∧ l2.toInt ≤ 1) → (-1 ≤ l3.toInt ∧ l3.toInt ≤ 10) → (0 ≤ l4.toInt ∧ l4.toInt ≤ 2147483647) → (0 ≤ l5.toInt ∧ l5.toInt ≤ 10) → 10 - l5.toInt < m27 → Ok (k27 (some l0) l1 l2 l3 l4 l5) (q_pi (-2) (2147483647))) (H : q_HT 0 M) (K_l0 : q_Kd M l0 (11, 0)) (h_l1 : 0 ≤ l1.toInt ∧ l1.toInt ≤ 6) (h_l2 : 0 ≤ l2.toInt ∧ l2.toInt ≤ 1) (h_l3 : -1 ≤ l3.toInt ∧ l3.toInt ≤ 10) (h_l4 : 0 ≤ l4.toInt ∧ l4.toInt ≤ 2147483647) (h_l5 : 0 ≤ l5.toInt ∧ l5.toInt ≤ 10) (hm27 : 10 - l5.toInt ≤ m27) : Ok (F_X11_likeliest_b27 k27 M (some l0) l1 l2 l3 l4 l5) (q_pi (-2) (2147483647)) := by
  delta F_X11_likeliest_b27
  have z_m2 := L_m2
  have z_m1 := L_m1
  have z_0 := L_0
  have z_9 := L_9
  refine Ok_i (fun c_1 => ?_) (fun c_1 => ?_)
  · skip
    replace c_1 := i_lt c_1
    refine Ok_i (fun c_2 => ?_) (fun c_2 => ?_)
    · skip
      replace c_2 := i_eq c_2
      exact r_pi (by decide)
    · skip
      replace c_2 := i_ne c_2
      refine Ok_i (fun c_3 => ?_) (fun c_3 => ?_)
      · skip
        replace c_3 := i_eq c_3
        exact r_pi (by omega)
      · skip
        replace c_3 := i_ne c_3
        exact r_pi (by omega)
  · skip
    replace c_1 := i_nlt c_1
    refine d_gR (q := (8, 0)) H K_l0 (by decide) rfl (fun v1 r_v1 K_v1 => ?_)
    refine d_gR (q := (1, 0)) H K_l0 (by decide) rfl (fun v2 r_v2 K_v2 => ?_)
    refine c_gO K_v1 ?_
    refine Ok_b (S_X8_strengthAs H K_v1 K_v2 h_l1 (by omega)) (fun v4 e_v4 => ?_)
    refine Ok_i (fun c_4 => ?_) (fun c_4 => ?_)
    · skip
      replace c_4 := i_le c_4
      exact w_pi (S_X11_likeliest_b64 hk27 H K_l0 h_l1 h_l2 h_l3 h_l4 (by omega) (by omega)) (by decide) (by decide)
    · skip
      replace c_4 := i_nle c_4
      exact w_pi (S_X11_likeliest_b64 hk27 H K_l0 h_l1 h_l2 (by omega) (by omega) (by omega) (by omega)) (by decide) (by decide)
theorem S_X11_likeliest_L27 {M : gM} : ∀ (n : Nat) {l0 : Nat} {l1 : Int32} {l2 : Int32} {l3 : Int32} {l4 : Int32} {l5 : Int32}, q_HT 0 M → (q_Kd M l0 (11, 0)) → (0 ≤ l1.toInt ∧ l1.toInt ≤ 6) → (0 ≤ l2.toInt ∧ l2.toInt ≤ 1) → (-1 ≤ l3.toInt ∧ l3.toInt ≤ 10) → (0 ≤ l4.toInt ∧ l4.toInt ≤ 2147483647) → (0 ≤ l5.toInt ∧ l5.toInt ≤ 10) → 10 - l5.toInt < (n : Int) → Ok (F_X11_likeliest_L27 M n (some l0) l1 l2 l3 l4 l5) (q_pi (-2) (2147483647)) := by
  intro n
  induction n with
  | zero =>
    intro l0 l1 l2 l3 l4 l5 H K_l0 h_l1 h_l2 h_l3 h_l4 h_l5  hm
    exfalso
    omega
  | succ n ih =>
    intro l0 l1 l2 l3 l4 l5 H K_l0 h_l1 h_l2 h_l3 h_l4 h_l5  hm
    exact S_X11_likeliest_b27 (m27 := 10 - l5.toInt) (fun H K_l0 h_l1 h_l2 h_l3 h_l4 h_l5  hm2 => ih H K_l0 h_l1 h_l2 h_l3 h_l4 h_l5  (by omega)) H K_l0 h_l1 h_l2 h_l3 h_l4 h_l5  (Int.le_refl _)
set_option maxHeartbeats 1000000 in
theorem S_X11_likeliest_b0 {l0 : Nat} {l1 : Int32} {l2 : Int32} {M : gM} (H : q_HT 0 M) (K_l0 : q_Kd M l0 (11, 0)) : Ok (F_X11_likeliest_b0 M (some l0) l1 l2) (q_pi (-2) (2147483647)) := by
  delta F_X11_likeliest_b0
  have z_0 := L_0
  have z_1 := L_1
  refine c_gO K_l0 ?_
  refine Ok_b (S_X11_isThing H K_l0) (fun v2 e_v2 => ?_)
  obtain ⟨e_v2, w_v2⟩ := e_v2
  refine Ok_i (fun c_1 => ?_) (fun c_1 => ?_)
  · skip
    replace c_1 := i_eq c_1
    exact w_pi (S_X11_likeliest_b17  H) (by decide) (by decide)
  · skip
    replace c_1 := i_ne c_1
    have x_v2 := w_v2 (by omega)
    refine Ok_i (fun c_2 => ?_) (fun c_2 => ?_)
    · skip
      replace c_2 := i_lt c_2
      exact w_pi (S_X11_likeliest_b17  H) (by decide) (by decide)
    · skip
      replace c_2 := i_nlt c_2
      refine Ok_i (fun c_3 => ?_) (fun c_3 => ?_)
      · skip
        replace c_3 := i_le c_3
        exact w_pi (S_X11_likeliest_L27  g_fuel H K_l0 (by omega) (by omega) (by decide) (by decide) (by decide) (q_fu (by omega))) (by decide) (by decide)
      · skip
        replace c_3 := i_nle c_3
        exact w_pi (S_X11_likeliest_b17  H) (by decide) (by decide)
theorem S_X11_likeliest {l0 : Nat} {l1 : Int32} {l2 : Int32} {M : gM} (H : q_HT 0 M) (K_l0 : q_Kd M l0 (11, 0)) : Ok (F_X11_likeliest (some l0) l1 l2 M) (q_pi (-2) (2147483647)) := by
  delta F_X11_likeliest
  exact w_pi (S_X11_likeliest_b0  H K_l0) (by decide) (by decide)
theorem S_X8_knownUnlike_b123 {k6 : Option Nat → Option Nat → Int32 → Int32 → Int32 → Int32 → Option Int32} {m6 : Int} {l0 : Nat} {l1 : Nat} {l2 : Int32} {l3 : Int32} {l4 : Int32} {l5 : Int32} {M : gM} (hk6 : ∀ {l0 : Nat} {l1 : Nat} {l2 : Int32} {l3 : Int32} {l4 : Int32} {l5 : Int32}, q_HT 0 M → (q_Kd M l0 (8, 0)) → (q_Kd M l1 (1, 0)) → (0 ≤ l2.toInt ∧ l2.toInt ≤ 6) → (1 ≤ l3.toInt ∧ l3.toInt ≤ 6) → (0 ≤ l5.toInt ∧ l5.toInt ≤ 7) → 7 - l5.toInt < m6 → Ok (k6 (some l0) (some l1) l2 l3 l4 l5) (q_pi (-2147483648) (2147483647))) (H : q_HT 0 M) (K_l0 : q_Kd M l0 (8, 0)) (K_l1 : q_Kd M l1 (1, 0)) (h_l2 : 0 ≤ l2.toInt ∧ l2.toInt ≤ 6) (h_l3 : 1 ≤ l3.toInt ∧ l3.toInt ≤ 6) (h_l5 : 0 ≤ l5.toInt ∧ l5.toInt ≤ 6) (hm6 : 7 - l5.toInt ≤ m6) : Ok (F_X8_knownUnlike_b123 k6 M (some l0) (some l1) l2 l3 l4 l5) (q_pi (-2147483648) (2147483647)) := by
  delta F_X8_knownUnlike_b123
  have z_1 := L_1
  have a_1 := i_addc (x := l5) (c := 1) z_1 (by omega) (by omega)
  exact w_pi (hk6 H K_l0 K_l1 h_l2 h_l3 (by omega) (by omega)) (by decide) (by decide)
theorem S_X8_knownUnlike_b114 {k6 : Option Nat → Option Nat → Int32 → Int32 → Int32 → Int32 → Option Int32} {m6 : Int} {l0 : Nat} {l1 : Nat} {l2 : Int32} {l3 : Int32} {l4 : Int32} {l5 : Int32} {M : gM} (hk6 : ∀ {l0 : Nat} {l1 : Nat} {l2 : Int32} {l3 : Int32} {l4 : Int32} {l5 : Int32}, q_HT 0 M → (q_Kd M l0 (8, 0)) → (q_Kd M l1 (1, 0)) → (0 ≤ l2.toInt ∧ l2.toInt ≤ 6) → (1 ≤ l3.toInt ∧ l3.toInt ≤ 6) → (0 ≤ l5.toInt ∧ l5.toInt ≤ 7) → 7 - l5.toInt < m6 → Ok (k6 (some l0) (some l1) l2 l3 l4 l5) (q_pi (-2147483648) (2147483647))) (H : q_HT 0 M) (K_l0 : q_Kd M l0 (8, 0)) (K_l1 : q_Kd M l1 (1, 0)) (h_l2 : 0 ≤ l2.toInt ∧ l2.toInt ≤ 6) (h_l3 : 1 ≤ l3.toInt ∧ l3.toInt ≤ 6) (h_l5 : 0 ≤ l5.toInt ∧ l5.toInt ≤ 6) (hm6 : 7 - l5.toInt ≤ m6) : Ok (F_X8_knownUnlike_b114 k6 M (some l0) (some l1) l2 l3 l4 l5) (q_pi (-2147483648) (2147483647)) := by
  delta F_X8_knownUnlike_b114
  exact w_pi (S_X8_knownUnlike_b123 hk6 H K_l0 K_l1 h_l2 h_l3 h_l5 (by omega)) (by decide) (by decide)
set_option maxHeartbeats 1000000 in
theorem S_X8_knownUnlike_b85 {k6 : Option Nat → Option Nat → Int32 → Int32 → Int32 → Int32 → Option Int32} {m6 : Int} {l0 : Nat} {l1 : Nat} {l2 : Int32} {l3 : Int32} {l4 : Int32} {l5 : Int32} {l6 : Int32} {l7 : Int32} {l8 : Int32} {s0 : Int32} {M : gM} (hk6 : ∀ {l0 : Nat} {l1 : Nat} {l2 : Int32} {l3 : Int32} {l4 : Int32} {l5 : Int32}, q_HT 0 M → (q_Kd M l0 (8, 0)) → (q_Kd M l1 (1, 0)) → (0 ≤ l2.toInt ∧ l2.toInt ≤ 6) → (1 ≤ l3.toInt ∧ l3.toInt ≤ 6) → (0 ≤ l5.toInt ∧ l5.toInt ≤ 7) → 7 - l5.toInt < m6 → Ok (k6 (some l0) (some l1) l2 l3 l4 l5) (q_pi (-2147483648) (2147483647))) (H : q_HT 0 M) (K_l0 : q_Kd M l0 (8, 0)) (K_l1 : q_Kd M l1 (1, 0)) (h_l2 : 0 ≤ l2.toInt ∧ l2.toInt ≤ 6) (h_l3 : 1 ≤ l3.toInt ∧ l3.toInt ≤ 6) (h_l5 : 0 ≤ l5.toInt ∧ l5.toInt ≤ 6) (h_l6 : 0 ≤ l6.toInt ∧ l6.toInt ≤ 48) (h_l7 : 7 ≤ l7.toInt ∧ l7.toInt ≤ 48) (h_l8 : 0 ≤ l8.toInt ∧ l8.toInt ≤ 1) (h_s0 : 0 ≤ s0.toInt ∧ s0.toInt ≤ 1) (hm6 : 7 - l5.toInt ≤ m6) : Ok (F_X8_knownUnlike_b85 k6 M (some l0) (some l1) l2 l3 l4 l5 l6 l7 l8 s0) (q_pi (-2147483648) (2147483647)) := by
  delta F_X8_knownUnlike_b85
  have z_0 := L_0
  refine Ok_i (fun c_1 => ?_) (fun c_1 => ?_)
  · skip
    replace c_1 := i_eq c_1
    refine Ok_i (fun c_2 => ?_) (fun c_2 => ?_)
    · skip
      replace c_2 := i_eq c_2
      exact w_pi (S_X8_knownUnlike_b114 hk6 H K_l0 K_l1 h_l2 h_l3 h_l5 (by omega)) (by decide) (by decide)
    · skip
      replace c_2 := i_ne c_2
      refine d_gR (q := (20, 49)) H K_l0 (by decide) rfl (fun v1 r_v1 K_v1 => ?_)
      refine c_aI K_v1 (by omega) (by omega) (fun v2 => ?_)
      refine c_gRs K_l0 r_v1 ?_
      refine c_aI K_v1 (by omega) (by omega) (fun v4 => ?_)
      refine Ok_i (fun c_3 => ?_) (fun c_3 => ?_)
      · skip
        replace c_3 := i_eq c_3
        exact w_pi (S_X8_knownUnlike_b123 hk6 H K_l0 K_l1 h_l2 h_l3 h_l5 (by omega)) (by decide) (by decide)
      · skip
        replace c_3 := i_ne c_3
        exact w_pi (S_X8_knownUnlike_b114 hk6 H K_l0 K_l1 h_l2 h_l3 h_l5 (by omega)) (by decide) (by decide)
  · skip
    replace c_1 := i_ne c_1
    exact w_pi (S_X8_knownUnlike_b123 hk6 H K_l0 K_l1 h_l2 h_l3 h_l5 (by omega)) (by decide) (by decide)
theorem S_X8_knownUnlike_b84 {k6 : Option Nat → Option Nat → Int32 → Int32 → Int32 → Int32 → Option Int32} {m6 : Int} {l0 : Nat} {l1 : Nat} {l2 : Int32} {l3 : Int32} {l4 : Int32} {l5 : Int32} {l6 : Int32} {l7 : Int32} {l8 : Int32} {M : gM} (hk6 : ∀ {l0 : Nat} {l1 : Nat} {l2 : Int32} {l3 : Int32} {l4 : Int32} {l5 : Int32}, q_HT 0 M → (q_Kd M l0 (8, 0)) → (q_Kd M l1 (1, 0)) → (0 ≤ l2.toInt ∧ l2.toInt ≤ 6) → (1 ≤ l3.toInt ∧ l3.toInt ≤ 6) → (0 ≤ l5.toInt ∧ l5.toInt ≤ 7) → 7 - l5.toInt < m6 → Ok (k6 (some l0) (some l1) l2 l3 l4 l5) (q_pi (-2147483648) (2147483647))) (H : q_HT 0 M) (K_l0 : q_Kd M l0 (8, 0)) (K_l1 : q_Kd M l1 (1, 0)) (h_l2 : 0 ≤ l2.toInt ∧ l2.toInt ≤ 6) (h_l3 : 1 ≤ l3.toInt ∧ l3.toInt ≤ 6) (h_l5 : 0 ≤ l5.toInt ∧ l5.toInt ≤ 6) (h_l6 : 0 ≤ l6.toInt ∧ l6.toInt ≤ 48) (h_l7 : 7 ≤ l7.toInt ∧ l7.toInt ≤ 48) (h_l8 : 0 ≤ l8.toInt ∧ l8.toInt ≤ 1) (hm6 : 7 - l5.toInt ≤ m6) : Ok (F_X8_knownUnlike_b84 k6 M (some l0) (some l1) l2 l3 l4 l5 l6 l7 l8) (q_pi (-2147483648) (2147483647)) := by
  delta F_X8_knownUnlike_b84
  exact w_pi (S_X8_knownUnlike_b85 hk6 H K_l0 K_l1 h_l2 h_l3 h_l5 h_l6 h_l7 h_l8 (by decide) (by omega)) (by decide) (by decide)
theorem S_X8_knownUnlike_b58 {k6 : Option Nat → Option Nat → Int32 → Int32 → Int32 → Int32 → Option Int32} {m6 : Int} {l0 : Nat} {l1 : Nat} {l2 : Int32} {l3 : Int32} {l4 : Int32} {l5 : Int32} {l6 : Int32} {l7 : Int32} {s0 : Int32} {M : gM} (hk6 : ∀ {l0 : Nat} {l1 : Nat} {l2 : Int32} {l3 : Int32} {l4 : Int32} {l5 : Int32}, q_HT 0 M → (q_Kd M l0 (8, 0)) → (q_Kd M l1 (1, 0)) → (0 ≤ l2.toInt ∧ l2.toInt ≤ 6) → (1 ≤ l3.toInt ∧ l3.toInt ≤ 6) → (0 ≤ l5.toInt ∧ l5.toInt ≤ 7) → 7 - l5.toInt < m6 → Ok (k6 (some l0) (some l1) l2 l3 l4 l5) (q_pi (-2147483648) (2147483647))) (H : q_HT 0 M) (K_l0 : q_Kd M l0 (8, 0)) (K_l1 : q_Kd M l1 (1, 0)) (h_l2 : 0 ≤ l2.toInt ∧ l2.toInt ≤ 6) (h_l3 : 1 ≤ l3.toInt ∧ l3.toInt ≤ 6) (h_l5 : 0 ≤ l5.toInt ∧ l5.toInt ≤ 6) (h_l6 : 0 ≤ l6.toInt ∧ l6.toInt ≤ 48) (h_l7 : 7 ≤ l7.toInt ∧ l7.toInt ≤ 48) (h_s0 : 0 ≤ s0.toInt ∧ s0.toInt ≤ 1) (hm6 : 7 - l5.toInt ≤ m6) : Ok (F_X8_knownUnlike_b58 k6 M (some l0) (some l1) l2 l3 l4 l5 l6 l7 s0) (q_pi (-2147483648) (2147483647)) := by
  delta F_X8_knownUnlike_b58
  have z_0 := L_0
  refine d_gR (q := (20, 49)) H K_l0 (by decide) rfl (fun v1 r_v1 K_v1 => ?_)
  refine c_aI K_v1 (by omega) (by omega) (fun v2 => ?_)
  refine Ok_i (fun c_1 => ?_) (fun c_1 => ?_)
  · skip
    replace c_1 := i_eq c_1
    refine c_gRs K_l0 r_v1 ?_
    refine c_aI K_v1 (by omega) (by omega) (fun v4 => ?_)
    refine Ok_i (fun c_2 => ?_) (fun c_2 => ?_)
    · skip
      replace c_2 := i_eq c_2
      exact w_pi (S_X8_knownUnlike_b85 hk6 H K_l0 K_l1 h_l2 h_l3 h_l5 h_l6 h_l7 h_s0 (by decide) (by omega)) (by decide) (by decide)
    · skip
      replace c_2 := i_ne c_2
      exact w_pi (S_X8_knownUnlike_b84 hk6 H K_l0 K_l1 h_l2 h_l3 h_l5 h_l6 h_l7 h_s0 (by omega)) (by decide) (by decide)
  · skip
    replace c_1 := i_ne c_1
    exact w_pi (S_X8_knownUnlike_b84 hk6 H K_l0 K_l1 h_l2 h_l3 h_l5 h_l6 h_l7 h_s0 (by omega)) (by decide) (by decide)
theorem S_X8_knownUnlike_b57 {k6 : Option Nat → Option Nat → Int32 → Int32 → Int32 → Int32 → Option Int32} {m6 : Int} {l0 : Nat} {l1 : Nat} {l2 : Int32} {l3 : Int32} {l4 : Int32} {l5 : Int32} {l6 : Int32} {l7 : Int32} {M : gM} (hk6 : ∀ {l0 : Nat} {l1 : Nat} {l2 : Int32} {l3 : Int32} {l4 : Int32} {l5 : Int32}, q_HT 0 M → (q_Kd M l0 (8, 0)) → (q_Kd M l1 (1, 0)) → (0 ≤ l2.toInt ∧ l2.toInt ≤ 6) → (1 ≤ l3.toInt ∧ l3.toInt ≤ 6) → (0 ≤ l5.toInt ∧ l5.toInt ≤ 7) → 7 - l5.toInt < m6 → Ok (k6 (some l0) (some l1) l2 l3 l4 l5) (q_pi (-2147483648) (2147483647))) (H : q_HT 0 M) (K_l0 : q_Kd M l0 (8, 0)) (K_l1 : q_Kd M l1 (1, 0)) (h_l2 : 0 ≤ l2.toInt ∧ l2.toInt ≤ 6) (h_l3 : 1 ≤ l3.toInt ∧ l3.toInt ≤ 6) (h_l5 : 0 ≤ l5.toInt ∧ l5.toInt ≤ 6) (h_l6 : 0 ≤ l6.toInt ∧ l6.toInt ≤ 48) (h_l7 : 7 ≤ l7.toInt ∧ l7.toInt ≤ 48) (hm6 : 7 - l5.toInt ≤ m6) : Ok (F_X8_knownUnlike_b57 k6 M (some l0) (some l1) l2 l3 l4 l5 l6 l7) (q_pi (-2147483648) (2147483647)) := by
  delta F_X8_knownUnlike_b57
  exact w_pi (S_X8_knownUnlike_b58 hk6 H K_l0 K_l1 h_l2 h_l3 h_l5 h_l6 h_l7 (by decide) (by omega)) (by decide) (by decide)
set_option maxHeartbeats 1000000 in
theorem S_X8_knownUnlike_b6 {k6 : Option Nat → Option Nat → Int32 → Int32 → Int32 → Int32 → Option Int32} {m6 : Int} {l0 : Nat} {l1 : Nat} {l2 : Int32} {l3 : Int32} {l4 : Int32} {l5 : Int32} {M : gM} (hk6 : ∀ {l0 : Nat} {l1 : Nat} {l2 : Int32} {l3 : Int32} {l4 : Int32} {l5 : Int32}, q_HT 0 M → (q_Kd M l0 (8, 0)) → (q_Kd M l1 (1, 0)) → (0 ≤ l2.toInt ∧ l2.toInt ≤ 6) → (1 ≤ l3.toInt ∧ l3.toInt ≤ 6) → (0 ≤ l5.toInt ∧ l5.toInt ≤ 7) → 7 - l5.toInt < m6 → Ok (k6 (some l0) (some l1) l2 l3 l4 l5) (q_pi (-2147483648) (2147483647))) (H : q_HT 0 M) (K_l0 : q_Kd M l0 (8, 0)) (K_l1 : q_Kd M l1 (1, 0)) (h_l2 : 0 ≤ l2.toInt ∧ l2.toInt ≤ 6) (h_l3 : 1 ≤ l3.toInt ∧ l3.toInt ≤ 6) (h_l5 : 0 ≤ l5.toInt ∧ l5.toInt ≤ 7) (hm6 : 7 - l5.toInt ≤ m6) : Ok (F_X8_knownUnlike_b6 k6 M (some l0) (some l1) l2 l3 l4 l5) (q_pi (-2147483648) (2147483647)) := by
  delta F_X8_knownUnlike_b6
  have z_0 := L_0
  have z_7 := L_7
  refine d_gI (lo := 0) (hi := 7) H K_l1 (by decide) rfl (fun v1 q_v1 e_v1 => ?_)
  refine Ok_i (fun c_1 => ?_) (fun c_1 => ?_)
  · skip
    replace c_1 := i_le c_1
    exact r_pi (i_rng _)
  · skip
    replace c_1 := i_nle c_1
    refine d_gR (q := (20, 49)) H K_l0 (by decide) rfl (fun v2 r_v2 K_v2 => ?_)
    have a_2 := i_mulR (x := l2) (c := (7 : Int32)) z_7 (by omega) (by omega)
    have a_3 := i_add (x := (l2 * (7 : Int32))) (y := l5) (by omega) (by omega)
    refine c_aI K_v2 (by omega) (by omega) (fun v3 => ?_)
    refine Ok_i (fun c_4 => ?_) (fun c_4 => ?_)
    · skip
      replace c_4 := i_le c_4
      have a_5 := i_mulR (x := l3) (c := (7 : Int32)) z_7 (by omega) (by omega)
      have a_6 := i_add (x := (l3 * (7 : Int32))) (y := l5) (by omega) (by omega)
      exact w_pi (S_X8_knownUnlike_b57 hk6 H K_l0 K_l1 h_l2 h_l3 (by omega) (by omega) (by omega) (by omega)) (by decide) (by decide)
    · skip
      replace c_4 := i_nle c_4
      refine c_gRs K_l0 r_v2 ?_
      have a_7 := i_mulR (x := l3) (c := (7 : Int32)) z_7 (by omega) (by omega)
      have a_8 := i_add (x := (l3 * (7 : Int32))) (y := l5) (by omega) (by omega)
      refine c_aI K_v2 (by omega) (by omega) (fun v5 => ?_)
      refine Ok_i (fun c_9 => ?_) (fun c_9 => ?_)
      · skip
        replace c_9 := i_le c_9
        exact w_pi (S_X8_knownUnlike_b57 hk6 H K_l0 K_l1 h_l2 h_l3 (by omega) (by omega) (by omega) (by omega)) (by decide) (by decide)
      · skip
        replace c_9 := i_nle c_9
        exact w_pi (S_X8_knownUnlike_b58 hk6 H K_l0 K_l1 h_l2 h_l3 (by omega) (by omega) (by omega) (by decide) (by omega)) (by decide) (by decide)
theorem S_X8_knownUnlike_L6 {M : gM} : ∀ (n : Nat) {l0 : Nat} {l1 : Nat} {l2 : Int32} {l3 : Int32} {l4 : Int32} {l5 : Int32}, q_HT 0 M → (q_Kd M l0 (8, 0)) → (q_Kd M l1 (1, 0)) → (0 ≤ l2.toInt ∧ l2.toInt ≤ 6) → (1 ≤ l3.toInt ∧ l3.toInt ≤ 6) → (0 ≤ l5.toInt ∧ l5.toInt ≤ 7) → 7 - l5.toInt < (n : Int) → Ok (F_X8_knownUnlike_L6 M n (some l0) (some l1) l2 l3 l4 l5) (q_pi (-2147483648) (2147483647)) := by
  intro n
  induction n with
  | zero =>
    intro l0 l1 l2 l3 l4 l5 H K_l0 K_l1 h_l2 h_l3 h_l5  hm
    exfalso
    omega
  | succ n ih =>
    intro l0 l1 l2 l3 l4 l5 H K_l0 K_l1 h_l2 h_l3 h_l5  hm
    exact S_X8_knownUnlike_b6 (m6 := 7 - l5.toInt) (fun H K_l0 K_l1 h_l2 h_l3 h_l5  hm2 => ih H K_l0 K_l1 h_l2 h_l3 h_l5  (by omega)) H K_l0 K_l1 h_l2 h_l3 h_l5  (Int.le_refl _)
theorem S_X8_knownUnlike_b0 {l0 : Nat} {l1 : Nat} {l2 : Int32} {l3 : Int32} {M : gM} (H : q_HT 0 M) (K_l0 : q_Kd M l0 (8, 0)) (K_l1 : q_Kd M l1 (1, 0)) (h_l2 : 0 ≤ l2.toInt ∧ l2.toInt ≤ 6) (h_l3 : 1 ≤ l3.toInt ∧ l3.toInt ≤ 6) : Ok (F_X8_knownUnlike_b0 M (some l0) (some l1) l2 l3) (q_pi (-2147483648) (2147483647)) := by
  delta F_X8_knownUnlike_b0
  have z_0 := L_0
  exact w_pi (S_X8_knownUnlike_L6  g_fuel H K_l0 K_l1 h_l2 h_l3 (by decide) (q_fu (by omega))) (by decide) (by decide)
theorem S_X8_knownUnlike {l0 : Nat} {l1 : Nat} {l2 : Int32} {l3 : Int32} {M : gM} (H : q_HT 0 M) (K_l0 : q_Kd M l0 (8, 0)) (K_l1 : q_Kd M l1 (1, 0)) (h_l2 : 0 ≤ l2.toInt ∧ l2.toInt ≤ 6) (h_l3 : 1 ≤ l3.toInt ∧ l3.toInt ≤ 6) : Ok (F_X8_knownUnlike (some l0) (some l1) l2 l3 M) (q_pi (-2147483648) (2147483647)) := by
  delta F_X8_knownUnlike
  exact w_pi (S_X8_knownUnlike_b0  H K_l0 K_l1 h_l2 h_l3) (by decide) (by decide)
theorem S_X11_fillUnlike_b83 {b : Nat → Bool} {k4 : Option Nat → Int32 → Int32 → Int32 → gM → Option (Int32 × gM)} {m4 : Int} {k20 : Option Nat → Int32 → Int32 → Int32 → Int32 → gM → Option (Int32 × gM)} {m20 : Int} {l0 : Nat} {l1 : Int32} {l2 : Int32} {l3 : Int32} {l4 : Int32} {M : gM} (hk4 : ∀ {l0 : Nat} {l1 : Int32} {l2 : Int32} {l3 : Int32} {M : gM}, q_HT 0 M → (q_Kd M l0 (11, 0)) → (0 ≤ l1.toInt ∧ l1.toInt ≤ 127) → (0 ≤ l2.toInt ∧ l2.toInt ≤ 21) → (0 ≤ l3.toInt ∧ l3.toInt ≤ 7) → 7 - l3.toInt < m4 → Ok (k4 (some l0) l1 l2 l3 M) (q_PI b M (0) (21))) (hk20 : ∀ {l0 : Nat} {l1 : Int32} {l2 : Int32} {l3 : Int32} {l4 : Int32} {M : gM}, q_HT 0 M → (q_Kd M l0 (11, 0)) → (0 ≤ l1.toInt ∧ l1.toInt ≤ 127) → (0 ≤ l2.toInt ∧ l2.toInt ≤ 21) → (0 ≤ l3.toInt ∧ l3.toInt ≤ 6) → (1 ≤ l4.toInt ∧ l4.toInt ≤ 7) → 7 - l3.toInt ≤ m4 → 7 - l4.toInt < m20 → Ok (k20 (some l0) l1 l2 l3 l4 M) (q_PI b M (0) (21))) (H : q_HT 0 M) (K_l0 : q_Kd M l0 (11, 0)) (h_l1 : 0 ≤ l1.toInt ∧ l1.toInt ≤ 127) (h_l2 : 0 ≤ l2.toInt ∧ l2.toInt ≤ 21) (h_l3 : 0 ≤ l3.toInt ∧ l3.toInt ≤ 6) (h_l4 : 1 ≤ l4.toInt ∧ l4.toInt ≤ 6) (hm4 : 7 - l3.toInt ≤ m4) (hm20 : 7 - l4.toInt ≤ m20) : Ok (F_X11_fillUnlike_b83 k4 k20 (some l0) l1 l2 l3 l4 M) (q_PI b M (0) (21)) := by
  delta F_X11_fillUnlike_b83
  have z_1 := L_1
  have a_1 := i_addc (x := l4) (c := 1) z_1 (by omega) (by omega)
  exact w_PI (q_rf _ _) (hk20 H K_l0 h_l1 h_l2 h_l3 (by omega) (by omega)) (by decide) (by decide)
set_option maxHeartbeats 1000000 in
theorem S_X11_fillUnlike_b20 {b : Nat → Bool} {k4 : Option Nat → Int32 → Int32 → Int32 → gM → Option (Int32 × gM)} {m4 : Int} {k20 : Option Nat → Int32 → Int32 → Int32 → Int32 → gM → Option (Int32 × gM)} {m20 : Int} {l0 : Nat} {l1 : Int32} {l2 : Int32} {l3 : Int32} {l4 : Int32} {M : gM} (hk4 : ∀ {l0 : Nat} {l1 : Int32} {l2 : Int32} {l3 : Int32} {M : gM}, q_HT 0 M → (q_Kd M l0 (11, 0)) → (0 ≤ l1.toInt ∧ l1.toInt ≤ 127) → (0 ≤ l2.toInt ∧ l2.toInt ≤ 21) → (0 ≤ l3.toInt ∧ l3.toInt ≤ 7) → 7 - l3.toInt < m4 → Ok (k4 (some l0) l1 l2 l3 M) (q_PI b M (0) (21))) (hk20 : ∀ {l0 : Nat} {l1 : Int32} {l2 : Int32} {l3 : Int32} {l4 : Int32} {M : gM}, q_HT 0 M → (q_Kd M l0 (11, 0)) → (0 ≤ l1.toInt ∧ l1.toInt ≤ 127) → (0 ≤ l2.toInt ∧ l2.toInt ≤ 21) → (0 ≤ l3.toInt ∧ l3.toInt ≤ 6) → (1 ≤ l4.toInt ∧ l4.toInt ≤ 7) → 7 - l3.toInt ≤ m4 → 7 - l4.toInt < m20 → Ok (k20 (some l0) l1 l2 l3 l4 M) (q_PI b M (0) (21))) (H : q_HT 0 M) (K_l0 : q_Kd M l0 (11, 0)) (h_l1 : 0 ≤ l1.toInt ∧ l1.toInt ≤ 127) (h_l2 : 0 ≤ l2.toInt ∧ l2.toInt ≤ 21) (h_l3 : 0 ≤ l3.toInt ∧ l3.toInt ≤ 6) (h_l4 : 1 ≤ l4.toInt ∧ l4.toInt ≤ 7) (hm4 : 7 - l3.toInt ≤ m4) (hm20 : 7 - l4.toInt ≤ m20) : Ok (F_X11_fillUnlike_b20 k4 k20 (some l0) l1 l2 l3 l4 M) (q_PI b M (0) (21)) := by
  delta F_X11_fillUnlike_b20
  have z_1 := L_1
  refine d_gR (q := (1, 0)) H K_l0 (by decide) rfl (fun v1 r_v1 K_v1 => ?_)
  refine d_gI (lo := 0) (hi := 7) H K_v1 (by decide) rfl (fun v2 q_v2 e_v2 => ?_)
  refine Ok_i (fun c_1 => ?_) (fun c_1 => ?_)
  · skip
    replace c_1 := i_le c_1
    have a_2 := i_addc (x := l3) (c := 1) z_1 (by omega) (by omega)
    exact w_PI (q_rf _ _) (hk4 H K_l0 h_l1 h_l2 (by omega) (by omega)) (by decide) (by decide)
  · skip
    replace c_1 := i_nle c_1
    refine Ok_b (S_X11_bit H) (fun v3 e_v3 => ?_)
    refine Ok_i (fun c_3 => ?_) (fun c_3 => ?_)
    · skip
      replace c_3 := i_eq c_3
      refine Ok_b (S_X11_bit H) (fun v4 e_v4 => ?_)
      refine Ok_i (fun c_4 => ?_) (fun c_4 => ?_)
      · skip
        replace c_4 := i_eq c_4
        refine d_gR (q := (20, 21)) H K_l0 (by decide) rfl (fun v5 r_v5 K_v5 => ?_)
        refine c_aN K_v5 (by decide) (by decide) (fun v6 e_v6 => ?_)
        refine Ok_i (fun c_5 => ?_) (fun c_5 => ?_)
        · skip
          replace c_5 := i_le c_5
          exact w_PI (q_rf _ _) (S_X11_fillUnlike_b83 (b := b) hk4 hk20 H K_l0 h_l1 h_l2 h_l3 (by omega) (by omega) (by omega)) (by decide) (by decide)
        · skip
          replace c_5 := i_nle c_5
          refine c_gRs K_l0 r_v5 ?_
          refine d_gR (q := (8, 0)) H K_l0 (by decide) rfl (fun v8 r_v8 K_v8 => ?_)
          refine c_gRs K_l0 r_v1 ?_
          refine c_gO K_v8 ?_
          refine Ok_b (S_X8_knownUnlike H K_v8 K_v1 h_l3 (by omega)) (fun v11 e_v11 => ?_)
          refine c_sI (b := b) H K_v5 (by omega) (by omega) (fun M12 HM12 fM12 o_M12 rr_M12 => ?_)
          have q_6 := (congrFun (o_M12 _ (q_dn K_v1 K_v5 (Or.inl (Nat.le_of_ble_eq_true rfl)))) 7).trans q_v2
          have r_7 := (congrFun (congrFun rr_M12 _) 11).trans r_v1
          have r_8 := (congrFun (congrFun rr_M12 _) 9).trans r_v5
          have r_9 := (congrFun (congrFun rr_M12 _) 5).trans r_v8
          have K_10 := (q_mo K_l0 (by decide) fM12)
          have a_11 := i_addc (x := l2) (c := 1) z_1 (by omega) (by omega)
          exact w_PI fM12 (S_X11_fillUnlike_b83 (b := b) hk4 hk20 HM12 K_10 h_l1 (by omega) h_l3 (by omega) (by omega) (by omega)) (by decide) (by decide)
      · skip
        replace c_4 := i_ne c_4
        exact w_PI (q_rf _ _) (S_X11_fillUnlike_b83 (b := b) hk4 hk20 H K_l0 h_l1 h_l2 h_l3 (by omega) (by omega) (by omega)) (by decide) (by decide)
    · skip
      replace c_3 := i_ne c_3
      exact w_PI (q_rf _ _) (S_X11_fillUnlike_b83 (b := b) hk4 hk20 H K_l0 h_l1 h_l2 h_l3 (by omega) (by omega) (by omega)) (by decide) (by decide)
theorem S_X11_fillUnlike_L20 {b : Nat → Bool} {k4 : Option Nat → Int32 → Int32 → Int32 → gM → Option (Int32 × gM)} {m4 : Int} (hk4 : ∀ {l0 : Nat} {l1 : Int32} {l2 : Int32} {l3 : Int32} {M : gM}, q_HT 0 M → (q_Kd M l0 (11, 0)) → (0 ≤ l1.toInt ∧ l1.toInt ≤ 127) → (0 ≤ l2.toInt ∧ l2.toInt ≤ 21) → (0 ≤ l3.toInt ∧ l3.toInt ≤ 7) → 7 - l3.toInt < m4 → Ok (k4 (some l0) l1 l2 l3 M) (q_PI b M (0) (21))) : ∀ (n : Nat) {l0 : Nat} {l1 : Int32} {l2 : Int32} {l3 : Int32} {l4 : Int32} {M : gM}, q_HT 0 M → (q_Kd M l0 (11, 0)) → (0 ≤ l1.toInt ∧ l1.toInt ≤ 127) → (0 ≤ l2.toInt ∧ l2.toInt ≤ 21) → (0 ≤ l3.toInt ∧ l3.toInt ≤ 6) → (1 ≤ l4.toInt ∧ l4.toInt ≤ 7) → 7 - l3.toInt ≤ m4 → 7 - l4.toInt < (n : Int) → Ok (F_X11_fillUnlike_L20 k4 n (some l0) l1 l2 l3 l4 M) (q_PI b M (0) (21)) := by
  intro n
  induction n with
  | zero =>
    intro l0 l1 l2 l3 l4 M H K_l0 h_l1 h_l2 h_l3 h_l4 hm4 hm
    exfalso
    omega
  | succ n ih =>
    intro l0 l1 l2 l3 l4 M H K_l0 h_l1 h_l2 h_l3 h_l4 hm4 hm
    exact S_X11_fillUnlike_b20 (b := b) (m20 := 7 - l4.toInt) hk4 (fun H K_l0 h_l1 h_l2 h_l3 h_l4 hm4 hm2 => ih H K_l0 h_l1 h_l2 h_l3 h_l4 hm4 (by omega)) H K_l0 h_l1 h_l2 h_l3 h_l4 hm4 (Int.le_refl _)
theorem S_X11_fillUnlike_b4 {b : Nat → Bool} {k4 : Option Nat → Int32 → Int32 → Int32 → gM → Option (Int32 × gM)} {m4 : Int} {l0 : Nat} {l1 : Int32} {l2 : Int32} {l3 : Int32} {M : gM} (hk4 : ∀ {l0 : Nat} {l1 : Int32} {l2 : Int32} {l3 : Int32} {M : gM}, q_HT 0 M → (q_Kd M l0 (11, 0)) → (0 ≤ l1.toInt ∧ l1.toInt ≤ 127) → (0 ≤ l2.toInt ∧ l2.toInt ≤ 21) → (0 ≤ l3.toInt ∧ l3.toInt ≤ 7) → 7 - l3.toInt < m4 → Ok (k4 (some l0) l1 l2 l3 M) (q_PI b M (0) (21))) (H : q_HT 0 M) (K_l0 : q_Kd M l0 (11, 0)) (h_l1 : 0 ≤ l1.toInt ∧ l1.toInt ≤ 127) (h_l2 : 0 ≤ l2.toInt ∧ l2.toInt ≤ 21) (h_l3 : 0 ≤ l3.toInt ∧ l3.toInt ≤ 7) (hm4 : 7 - l3.toInt ≤ m4) : Ok (F_X11_fillUnlike_b4 k4 (some l0) l1 l2 l3 M) (q_PI b M (0) (21)) := by
  delta F_X11_fillUnlike_b4
  have z_1 := L_1
  refine d_gR (q := (1, 0)) H K_l0 (by decide) rfl (fun v1 r_v1 K_v1 => ?_)
  refine d_gI (lo := 0) (hi := 7) H K_v1 (by decide) rfl (fun v2 q_v2 e_v2 => ?_)
  refine Ok_i (fun c_1 => ?_) (fun c_1 => ?_)
  · skip
    replace c_1 := i_le c_1
    exact r_PI (by omega) H (q_rf _ _)
  · skip
    replace c_1 := i_nle c_1
    have a_2 := i_addc (x := l3) (c := (1 : Int32)) z_1 (by omega) (by omega)
    exact w_PI (q_rf _ _) (S_X11_fillUnlike_L20 (b := b) hk4 g_fuel H K_l0 h_l1 h_l2 (by omega) (by omega) (by omega) (q_fu (by omega))) (by decide) (by decide)
theorem S_X11_fillUnlike_L4 {b : Nat → Bool} : ∀ (n : Nat) {l0 : Nat} {l1 : Int32} {l2 : Int32} {l3 : Int32} {M : gM}, q_HT 0 M → (q_Kd M l0 (11, 0)) → (0 ≤ l1.toInt ∧ l1.toInt ≤ 127) → (0 ≤ l2.toInt ∧ l2.toInt ≤ 21) → (0 ≤ l3.toInt ∧ l3.toInt ≤ 7) → 7 - l3.toInt < (n : Int) → Ok (F_X11_fillUnlike_L4 n (some l0) l1 l2 l3 M) (q_PI b M (0) (21)) := by
  intro n
  induction n with
  | zero =>
    intro l0 l1 l2 l3 M H K_l0 h_l1 h_l2 h_l3  hm
    exfalso
    omega
  | succ n ih =>
    intro l0 l1 l2 l3 M H K_l0 h_l1 h_l2 h_l3  hm
    exact S_X11_fillUnlike_b4 (b := b) (m4 := 7 - l3.toInt) (fun H K_l0 h_l1 h_l2 h_l3  hm2 => ih H K_l0 h_l1 h_l2 h_l3  (by omega)) H K_l0 h_l1 h_l2 h_l3  (Int.le_refl _)
theorem S_X11_fillUnlike_b0 {b : Nat → Bool} {l0 : Nat} {l1 : Int32} {M : gM} (H : q_HT 0 M) (K_l0 : q_Kd M l0 (11, 0)) (h_l1 : 0 ≤ l1.toInt ∧ l1.toInt ≤ 127) : Ok (F_X11_fillUnlike_b0 (some l0) l1 M) (q_PI b M (0) (21)) := by
  delta F_X11_fillUnlike_b0
  have z_0 := L_0
  exact w_PI (q_rf _ _) (S_X11_fillUnlike_L4 (b := b)  g_fuel H K_l0 h_l1 (by decide) (by decide) (q_fu (by omega))) (by decide) (by decide)
theorem S_X11_fillUnlike {b : Nat → Bool} {l0 : Nat} {l1 : Int32} {M : gM} (H : q_HT 0 M) (K_l0 : q_Kd M l0 (11, 0)) (h_l1 : 0 ≤ l1.toInt ∧ l1.toInt ≤ 127) : Ok (F_X11_fillUnlike (some l0) l1 M) (q_PI b M (0) (21)) := by
  delta F_X11_fillUnlike
  exact w_PI (q_rf _ _) (S_X11_fillUnlike_b0 (b := b)  H K_l0 h_l1) (by decide) (by decide)
theorem S_X11_partsAll_b35  {M : gM} (H : q_HT 0 M) : Ok (F_X11_partsAll_b35 M) (q_pi (0) (1)) := by
  delta F_X11_partsAll_b35
  have z_1 := L_1
  exact r_pi (by decide)
set_option maxHeartbeats 1000000 in
theorem S_X11_partsAll_b2 {k2 : Option Nat → Int32 → Int32 → Int32 → Option Int32} {m2 : Int} {l0 : Nat} {l1 : Int32} {l2 : Int32} {l3 : Int32} {M : gM} (hk2 : ∀ {l0 : Nat} {l1 : Int32} {l2 : Int32} {l3 : Int32}, q_HT 0 M → (q_Kd M l0 (11, 0)) → (0 ≤ l1.toInt ∧ l1.toInt ≤ 128) → (0 ≤ l2.toInt ∧ l2.toInt ≤ 21) → (0 ≤ l3.toInt ∧ l3.toInt ≤ 21) → 21 - l3.toInt < m2 → Ok (k2 (some l0) l1 l2 l3) (q_pi (0) (1))) (H : q_HT 0 M) (K_l0 : q_Kd M l0 (11, 0)) (h_l1 : 0 ≤ l1.toInt ∧ l1.toInt ≤ 128) (h_l2 : 0 ≤ l2.toInt ∧ l2.toInt ≤ 21) (h_l3 : 0 ≤ l3.toInt ∧ l3.toInt ≤ 21) (hm2 : 21 - l3.toInt ≤ m2) : Ok (F_X11_partsAll_b2 k2 M (some l0) l1 l2 l3) (q_pi (0) (1)) := by
  delta F_X11_partsAll_b2
  have z_0 := L_0
  have z_1 := L_1
  refine Ok_i (fun c_1 => ?_) (fun c_1 => ?_)
  · skip
    replace c_1 := i_le c_1
    exact w_pi (S_X11_partsAll_b35  H) (by decide) (by decide)
  · skip
    replace c_1 := i_nle c_1
    refine d_gR (q := (20, 21)) H K_l0 (by decide) rfl (fun v1 r_v1 K_v1 => ?_)
    refine c_aN K_v1 (by decide) (by decide) (fun v2 e_v2 => ?_)
    refine Ok_i (fun c_2 => ?_) (fun c_2 => ?_)
    · skip
      replace c_2 := i_le c_2
      exfalso
      omega
    · skip
      replace c_2 := i_nle c_2
      refine c_gRs K_l0 r_v1 ?_
      refine c_aI K_v1 (by omega) (by omega) (fun v4 => ?_)
      refine Ok_i (fun c_3 => ?_) (fun c_3 => ?_)
      · skip
        replace c_3 := i_eq c_3
        exact r_pi (by decide)
      · skip
        replace c_3 := i_ne c_3
        have a_4 := i_addc (x := l3) (c := 1) z_1 (by omega) (by omega)
        exact w_pi (hk2 H K_l0 h_l1 h_l2 (by omega) (by omega)) (by decide) (by decide)
theorem S_X11_partsAll_L2 {M : gM} : ∀ (n : Nat) {l0 : Nat} {l1 : Int32} {l2 : Int32} {l3 : Int32}, q_HT 0 M → (q_Kd M l0 (11, 0)) → (0 ≤ l1.toInt ∧ l1.toInt ≤ 128) → (0 ≤ l2.toInt ∧ l2.toInt ≤ 21) → (0 ≤ l3.toInt ∧ l3.toInt ≤ 21) → 21 - l3.toInt < (n : Int) → Ok (F_X11_partsAll_L2 M n (some l0) l1 l2 l3) (q_pi (0) (1)) := by
  intro n
  induction n with
  | zero =>
    intro l0 l1 l2 l3 H K_l0 h_l1 h_l2 h_l3  hm
    exfalso
    omega
  | succ n ih =>
    intro l0 l1 l2 l3 H K_l0 h_l1 h_l2 h_l3  hm
    exact S_X11_partsAll_b2 (m2 := 21 - l3.toInt) (fun H K_l0 h_l1 h_l2 h_l3  hm2 => ih H K_l0 h_l1 h_l2 h_l3  (by omega)) H K_l0 h_l1 h_l2 h_l3  (Int.le_refl _)
theorem S_X11_partsAll_b0 {l0 : Nat} {l1 : Int32} {l2 : Int32} {M : gM} (H : q_HT 0 M) (K_l0 : q_Kd M l0 (11, 0)) (h_l1 : 0 ≤ l1.toInt ∧ l1.toInt ≤ 127) (h_l2 : 0 ≤ l2.toInt ∧ l2.toInt ≤ 21) : Ok (F_X11_partsAll_b0 M (some l0) l1 l2) (q_pi (0) (1)) := by
  delta F_X11_partsAll_b0
  have z_0 := L_0
  exact w_pi (S_X11_partsAll_L2  g_fuel H K_l0 (by omega) h_l2 (by decide) (q_fu (by omega))) (by decide) (by decide)
theorem S_X11_partsAll {l0 : Nat} {l1 : Int32} {l2 : Int32} {M : gM} (H : q_HT 0 M) (K_l0 : q_Kd M l0 (11, 0)) (h_l1 : 0 ≤ l1.toInt ∧ l1.toInt ≤ 127) (h_l2 : 0 ≤ l2.toInt ∧ l2.toInt ≤ 21) : Ok (F_X11_partsAll (some l0) l1 l2 M) (q_pi (0) (1)) := by
  delta F_X11_partsAll
  exact w_pi (S_X11_partsAll_b0  H K_l0 h_l1 h_l2) (by decide) (by decide)
theorem S_X11_parts_b26 {b : Nat → Bool}  {M : gM} (H : q_HT 0 M) : Ok (F_X11_parts_b26 M) (q_PI b M (-2) (128)) := by
  delta F_X11_parts_b26
  have z_m1 := L_m1
  exact r_PI (by decide) H (q_rf _ _)
theorem S_X11_parts_b99 {b : Nat → Bool} {k40 : Option Nat → Int32 → Int32 → Int32 → Int32 → gM → Option (Int32 × gM)} {m40 : Int} {l0 : Nat} {l2 : Int32} {l3 : Int32} {l4 : Int32} {l5 : Int32} {M : gM} (hk40 : ∀ {l0 : Nat} {l2 : Int32} {l3 : Int32} {l4 : Int32} {l5 : Int32} {M : gM}, q_HT 0 M → (q_Kd M l0 (11, 0)) → (0 ≤ l2.toInt ∧ l2.toInt ≤ 1) → (0 ≤ l3.toInt ∧ l3.toInt ≤ 21) → (-1 ≤ l4.toInt ∧ l4.toInt ≤ 128) → (0 ≤ l5.toInt ∧ l5.toInt ≤ 128) → 128 - l5.toInt < m40 → Ok (k40 (some l0) l2 l3 l4 l5 M) (q_PI b M (-2) (128))) (H : q_HT 0 M) (K_l0 : q_Kd M l0 (11, 0)) (h_l2 : 0 ≤ l2.toInt ∧ l2.toInt ≤ 1) (h_l3 : 0 ≤ l3.toInt ∧ l3.toInt ≤ 21) (h_l4 : -1 ≤ l4.toInt ∧ l4.toInt ≤ 128) (h_l5 : 0 ≤ l5.toInt ∧ l5.toInt ≤ 127) (hm40 : 128 - l5.toInt ≤ m40) : Ok (F_X11_parts_b99 k40 (some l0) l2 l3 l4 l5 M) (q_PI b M (-2) (128)) := by
  delta F_X11_parts_b99
  have z_1 := L_1
  have a_1 := i_addc (x := l5) (c := 1) z_1 (by omega) (by omega)
  exact w_PI (q_rf _ _) (hk40 H K_l0 h_l2 h_l3 h_l4 (by omega) (by omega)) (by decide) (by decide)
theorem S_X11_parts_b78 {b : Nat → Bool} {k40 : Option Nat → Int32 → Int32 → Int32 → Int32 → gM → Option (Int32 × gM)} {m40 : Int} {l0 : Nat} {l2 : Int32} {l3 : Int32} {l4 : Int32} {l5 : Int32} {s0 : Int32} {M : gM} (hk40 : ∀ {l0 : Nat} {l2 : Int32} {l3 : Int32} {l4 : Int32} {l5 : Int32} {M : gM}, q_HT 0 M → (q_Kd M l0 (11, 0)) → (0 ≤ l2.toInt ∧ l2.toInt ≤ 1) → (0 ≤ l3.toInt ∧ l3.toInt ≤ 21) → (-1 ≤ l4.toInt ∧ l4.toInt ≤ 128) → (0 ≤ l5.toInt ∧ l5.toInt ≤ 128) → 128 - l5.toInt < m40 → Ok (k40 (some l0) l2 l3 l4 l5 M) (q_PI b M (-2) (128))) (H : q_HT 0 M) (K_l0 : q_Kd M l0 (11, 0)) (h_l2 : 0 ≤ l2.toInt ∧ l2.toInt ≤ 1) (h_l3 : 0 ≤ l3.toInt ∧ l3.toInt ≤ 21) (h_l4 : -1 ≤ l4.toInt ∧ l4.toInt ≤ 128) (h_l5 : 0 ≤ l5.toInt ∧ l5.toInt ≤ 127) (h_s0 : 0 ≤ s0.toInt ∧ s0.toInt ≤ 1) (hm40 : 128 - l5.toInt ≤ m40) : Ok (F_X11_parts_b78 k40 (some l0) l2 l3 l4 l5 s0 M) (q_PI b M (-2) (128)) := by
  delta F_X11_parts_b78
  have z_0 := L_0
  refine Ok_i (fun c_1 => ?_) (fun c_1 => ?_)
  · skip
    replace c_1 := i_eq c_1
    exact w_PI (q_rf _ _) (S_X11_parts_b99 (b := b) hk40 H K_l0 h_l2 h_l3 h_l4 h_l5 (by omega)) (by decide) (by decide)
  · skip
    replace c_1 := i_ne c_1
    refine c_gO K_l0 ?_
    refine Ok_b (S_X11_partsAll H K_l0 h_l5 h_l3) (fun v2 e_v2 => ?_)
    refine Ok_i (fun c_2 => ?_) (fun c_2 => ?_)
    · skip
      replace c_2 := i_eq c_2
      exact w_PI (q_rf _ _) (S_X11_parts_b99 (b := b) hk40 H K_l0 h_l2 h_l3 h_l4 h_l5 (by omega)) (by decide) (by decide)
    · skip
      replace c_2 := i_ne c_2
      exact w_PI (q_rf _ _) (S_X11_parts_b99 (b := b) hk40 H K_l0 h_l2 h_l3 (by omega) h_l5 (by omega)) (by decide) (by decide)
theorem S_X11_parts_b73 {b : Nat → Bool} {k40 : Option Nat → Int32 → Int32 → Int32 → Int32 → gM → Option (Int32 × gM)} {m40 : Int} {l0 : Nat} {l2 : Int32} {l3 : Int32} {l4 : Int32} {l5 : Int32} {M : gM} (hk40 : ∀ {l0 : Nat} {l2 : Int32} {l3 : Int32} {l4 : Int32} {l5 : Int32} {M : gM}, q_HT 0 M → (q_Kd M l0 (11, 0)) → (0 ≤ l2.toInt ∧ l2.toInt ≤ 1) → (0 ≤ l3.toInt ∧ l3.toInt ≤ 21) → (-1 ≤ l4.toInt ∧ l4.toInt ≤ 128) → (0 ≤ l5.toInt ∧ l5.toInt ≤ 128) → 128 - l5.toInt < m40 → Ok (k40 (some l0) l2 l3 l4 l5 M) (q_PI b M (-2) (128))) (H : q_HT 0 M) (K_l0 : q_Kd M l0 (11, 0)) (h_l2 : 0 ≤ l2.toInt ∧ l2.toInt ≤ 1) (h_l3 : 0 ≤ l3.toInt ∧ l3.toInt ≤ 21) (h_l4 : -1 ≤ l4.toInt ∧ l4.toInt ≤ 128) (h_l5 : 0 ≤ l5.toInt ∧ l5.toInt ≤ 127) (hm40 : 128 - l5.toInt ≤ m40) : Ok (F_X11_parts_b73 k40 (some l0) l2 l3 l4 l5 M) (q_PI b M (-2) (128)) := by
  delta F_X11_parts_b73
  exact w_PI (q_rf _ _) (S_X11_parts_b78 (b := b) hk40 H K_l0 h_l2 h_l3 h_l4 h_l5 (by decide) (by omega)) (by decide) (by decide)
set_option maxHeartbeats 1000000 in
theorem S_X11_parts_b40 {b : Nat → Bool} {k40 : Option Nat → Int32 → Int32 → Int32 → Int32 → gM → Option (Int32 × gM)} {m40 : Int} {l0 : Nat} {l2 : Int32} {l3 : Int32} {l4 : Int32} {l5 : Int32} {M : gM} (hk40 : ∀ {l0 : Nat} {l2 : Int32} {l3 : Int32} {l4 : Int32} {l5 : Int32} {M : gM}, q_HT 0 M → (q_Kd M l0 (11, 0)) → (0 ≤ l2.toInt ∧ l2.toInt ≤ 1) → (0 ≤ l3.toInt ∧ l3.toInt ≤ 21) → (-1 ≤ l4.toInt ∧ l4.toInt ≤ 128) → (0 ≤ l5.toInt ∧ l5.toInt ≤ 128) → 128 - l5.toInt < m40 → Ok (k40 (some l0) l2 l3 l4 l5 M) (q_PI b M (-2) (128))) (H : q_HT 0 M) (K_l0 : q_Kd M l0 (11, 0)) (h_l2 : 0 ≤ l2.toInt ∧ l2.toInt ≤ 1) (h_l3 : 0 ≤ l3.toInt ∧ l3.toInt ≤ 21) (h_l4 : -1 ≤ l4.toInt ∧ l4.toInt ≤ 128) (h_l5 : 0 ≤ l5.toInt ∧ l5.toInt ≤ 128) (hm40 : 128 - l5.toInt ≤ m40) : Ok (F_X11_parts_b40 k40 (some l0) l2 l3 l4 l5 M) (q_PI b M (-2) (128)) := by
  delta F_X11_parts_b40
  have z_m2 := L_m2
  have z_m1 := L_m1
  have z_0 := L_0
  refine d_gR (q := (1, 0)) H K_l0 (by decide) rfl (fun v1 r_v1 K_v1 => ?_)
  refine d_gI (lo := 0) (hi := 7) H K_v1 (by decide) rfl (fun v2 q_v2 e_v2 => ?_)
  have a_1 := i_shl1 (v := v2) (by omega)
  refine Ok_i (fun c_2 => ?_) (fun c_2 => ?_)
  · skip
    replace c_2 := i_le c_2
    refine Ok_i (fun c_3 => ?_) (fun c_3 => ?_)
    · skip
      replace c_3 := i_eq c_3
      exact r_PI (by decide) H (q_rf _ _)
    · skip
      replace c_3 := i_ne c_3
      refine Ok_i (fun c_4 => ?_) (fun c_4 => ?_)
      · skip
        replace c_4 := i_eq c_4
        refine Ok_b (S_J6_bitCount_0f7a4 H) (fun v3 e_v3 => ?_)
        exact r_PI (by omega) H (q_rf _ _)
      · skip
        replace c_4 := i_ne c_4
        exact r_PI (by omega) H (q_rf _ _)
  · skip
    replace c_2 := i_nle c_2
    refine Ok_i (fun c_5 => ?_) (fun c_5 => ?_)
    · skip
      replace c_5 := i_eq c_5
      exact w_PI (q_rf _ _) (S_X11_parts_b73 (b := b) hk40 H K_l0 h_l2 h_l3 h_l4 (by omega) (by omega)) (by decide) (by decide)
    · skip
      replace c_5 := i_ne c_5
      refine Ok_b (S_J6_bitCount_0f7a4 H) (fun v4 e_v4 => ?_)
      refine Ok_b (S_J6_bitCount_0f7a4 H) (fun v5 e_v5 => ?_)
      refine Ok_i (fun c_6 => ?_) (fun c_6 => ?_)
      · skip
        replace c_6 := i_le c_6
        exact w_PI (q_rf _ _) (S_X11_parts_b78 (b := b) hk40 H K_l0 h_l2 h_l3 h_l4 (by omega) (by decide) (by omega)) (by decide) (by decide)
      · skip
        replace c_6 := i_nle c_6
        exact w_PI (q_rf _ _) (S_X11_parts_b73 (b := b) hk40 H K_l0 h_l2 h_l3 h_l4 (by omega) (by omega)) (by decide) (by decide)
theorem S_X11_parts_L40 {b : Nat → Bool} : ∀ (n : Nat) {l0 : Nat} {l2 : Int32} {l3 : Int32} {l4 : Int32} {l5 : Int32} {M : gM}, q_HT 0 M → (q_Kd M l0 (11, 0)) → (0 ≤ l2.toInt ∧ l2.toInt ≤ 1) → (0 ≤ l3.toInt ∧ l3.toInt ≤ 21) → (-1 ≤ l4.toInt ∧ l4.toInt ≤ 128) → (0 ≤ l5.toInt ∧ l5.toInt ≤ 128) → 128 - l5.toInt < (n : Int) → Ok (F_X11_parts_L40 n (some l0) l2 l3 l4 l5 M) (q_PI b M (-2) (128)) := by
  intro n
  induction n with
  | zero =>
    intro l0 l2 l3 l4 l5 M H K_l0 h_l2 h_l3 h_l4 h_l5  hm
    exfalso
    omega
  | succ n ih =>
    intro l0 l2 l3 l4 l5 M H K_l0 h_l2 h_l3 h_l4 h_l5  hm
    exact S_X11_parts_b40 (b := b) (m40 := 128 - l5.toInt) (fun H K_l0 h_l2 h_l3 h_l4 h_l5  hm2 => ih H K_l0 h_l2 h_l3 h_l4 h_l5  (by omega)) H K_l0 h_l2 h_l3 h_l4 h_l5  (Int.le_refl _)
set_option maxHeartbeats 1000000 in
theorem S_X11_parts_b0 {b : Nat → Bool} {l0 : Nat} {l1 : Int32} {l2 : Int32} {M : gM} (H : q_HT 0 M) (K_l0 : q_Kd M l0 (11, 0)) : Ok (F_X11_parts_b0 (some l0) l1 l2 M) (q_PI b M (-2) (128)) := by
  delta F_X11_parts_b0
  have z_0 := L_0
  have z_1 := L_1
  refine Ok_i (fun c_1 => ?_) (fun c_1 => ?_)
  · skip
    replace c_1 := i_lt c_1
    exact w_PI (q_rf _ _) (S_X11_parts_b26 (b := b)  H) (by decide) (by decide)
  · skip
    replace c_1 := i_nlt c_1
    refine d_gR (q := (1, 0)) H K_l0 (by decide) rfl (fun v1 r_v1 K_v1 => ?_)
    refine d_gI (lo := 0) (hi := 7) H K_v1 (by decide) rfl (fun v2 q_v2 e_v2 => ?_)
    have a_2 := i_shl1 (v := v2) (by omega)
    refine Ok_i (fun c_3 => ?_) (fun c_3 => ?_)
    · skip
      replace c_3 := i_le c_3
      exact w_PI (q_rf _ _) (S_X11_parts_b26 (b := b)  H) (by decide) (by decide)
    · skip
      replace c_3 := i_nle c_3
      refine Ok_i (fun c_4 => ?_) (fun c_4 => ?_)
      · skip
        replace c_4 := i_lt c_4
        exact w_PI (q_rf _ _) (S_X11_parts_b26 (b := b)  H) (by decide) (by decide)
      · skip
        replace c_4 := i_nlt c_4
        refine Ok_i (fun c_5 => ?_) (fun c_5 => ?_)
        · skip
          replace c_5 := i_le c_5
          refine c_gO K_l0 ?_
          refine Ok_b (S_X11_fillUnlike (b := b) H K_l0 (by omega)) (fun yM5 zM5 => ?_)
          obtain ⟨v4, M5⟩ := yM5
          obtain ⟨e_v4, HM5, fM5⟩ := zM5
          try dsimp only at e_v4 HM5 fM5
          have K_6 := (q_mo K_l0 (by decide) fM5)
          exact w_PI fM5 (S_X11_parts_L40 (b := b)  g_fuel HM5 K_6 (by omega) e_v4 (by decide) (by decide) (q_fu (by omega))) (by decide) (by decide)
        · skip
          replace c_5 := i_nle c_5
          exact w_PI (q_rf _ _) (S_X11_parts_b26 (b := b)  H) (by decide) (by decide)
theorem S_X11_parts {b : Nat → Bool} {l0 : Nat} {l1 : Int32} {l2 : Int32} {M : gM} (H : q_HT 0 M) (K_l0 : q_Kd M l0 (11, 0)) : Ok (F_X11_parts (some l0) l1 l2 M) (q_PI b M (-2) (128)) := by
  delta F_X11_parts
  exact w_PI (q_rf _ _) (S_X11_parts_b0 (b := b)  H K_l0) (by decide) (by decide)
theorem S_X0_clear_b39 {b : Nat → Bool} {k12 : Option Nat → Int32 → gM → Option gM} {m12 : Int} {l0 : Nat} {l2 : Int32} {s0 : Nat} {s1 : Int32} {s2 : Int64} {M : gM} (hk12 : ∀ {l0 : Nat} {l2 : Int32} {M : gM}, q_HT 0 M → (q_Kd M l0 (0, 0)) → (0 ≤ l2.toInt ∧ l2.toInt ≤ 49) → 49 - l2.toInt < m12 → Ok (k12 (some l0) l2 M) (q_PV b M)) (H : q_HT 0 M) (K_l0 : q_Kd M l0 (0, 0)) (h_l2 : 0 ≤ l2.toInt ∧ l2.toInt ≤ 48) (K_s0 : q_Kd M s0 (21, 49)) (h_s1 : 0 ≤ s1.toInt ∧ s1.toInt ≤ 48) (hm12 : 49 - l2.toInt ≤ m12) : Ok (F_X0_clear_b39 k12 (some l0) l2 (some s0) s1 s2 M) (q_PV b M) := by
  delta F_X0_clear_b39
  have z_1 := L_1
  refine c_sL (b := b) H K_s0 (by omega) (by omega) (fun M1 HM1 fM1 o_M1 rr_M1 => ?_)
  have K_1 := (q_mo K_l0 (by decide) fM1)
  have a_2 := i_addc (x := l2) (c := 1) z_1 (by omega) (by omega)
  exact w_PV fM1 (hk12 HM1 K_1 (by omega) (by omega))
theorem S_X0_clear_b12 {b : Nat → Bool} {k12 : Option Nat → Int32 → gM → Option gM} {m12 : Int} {l0 : Nat} {l2 : Int32} {M : gM} (hk12 : ∀ {l0 : Nat} {l2 : Int32} {M : gM}, q_HT 0 M → (q_Kd M l0 (0, 0)) → (0 ≤ l2.toInt ∧ l2.toInt ≤ 49) → 49 - l2.toInt < m12 → Ok (k12 (some l0) l2 M) (q_PV b M)) (H : q_HT 0 M) (K_l0 : q_Kd M l0 (0, 0)) (h_l2 : 0 ≤ l2.toInt ∧ l2.toInt ≤ 49) (hm12 : 49 - l2.toInt ≤ m12) : Ok (F_X0_clear_b12 k12 (some l0) l2 M) (q_PV b M) := by
  delta F_X0_clear_b12
  have z_7 := L_7
  have z_49 := L_49
  refine Ok_i (fun c_1 => ?_) (fun c_1 => ?_)
  · skip
    replace c_1 := i_le c_1
    exact r_PV H (q_rf _ _)
  · skip
    replace c_1 := i_nle c_1
    refine d_gR (q := (21, 49)) H K_l0 (by decide) rfl (fun v1 r_v1 K_v1 => ?_)
    have a_2 := i_div (x := l2) (c := (7 : Int32)) (n := 7) z_7 (by decide) (by omega)
    have a_3 := i_mod (x := l2) (c := (7 : Int32)) (n := 7) z_7 (by decide) (by omega)
    refine Ok_i (fun c_4 => ?_) (fun c_4 => ?_)
    · skip
      replace c_4 := i_eq c_4
      exact w_PV (q_rf _ _) (S_X0_clear_b39 (b := b) hk12 H K_l0 (by omega) K_v1 (by omega) (by omega))
    · skip
      replace c_4 := i_ne c_4
      exact w_PV (q_rf _ _) (S_X0_clear_b39 (b := b) hk12 H K_l0 (by omega) K_v1 (by omega) (by omega))
theorem S_X0_clear_L12 {b : Nat → Bool} : ∀ (n : Nat) {l0 : Nat} {l2 : Int32} {M : gM}, q_HT 0 M → (q_Kd M l0 (0, 0)) → (0 ≤ l2.toInt ∧ l2.toInt ≤ 49) → 49 - l2.toInt < (n : Int) → Ok (F_X0_clear_L12 n (some l0) l2 M) (q_PV b M) := by
  intro n
  induction n with
  | zero =>
    intro l0 l2 M H K_l0 h_l2  hm
    exfalso
    omega
  | succ n ih =>
    intro l0 l2 M H K_l0 h_l2  hm
    exact S_X0_clear_b12 (b := b) (m12 := 49 - l2.toInt) (fun H K_l0 h_l2  hm2 => ih H K_l0 h_l2  (by omega)) H K_l0 h_l2  (Int.le_refl _)
theorem S_X0_clear_b0 {b : Nat → Bool} {l0 : Nat} {l1 : Int32} {M : gM} (H : q_HT 0 M) (K_l0 : q_Kd M l0 (0, 0)) (h_l1 : 0 ≤ l1.toInt ∧ l1.toInt ≤ 7) : Ok (F_X0_clear_b0 (some l0) l1 M) (q_PV b M) := by
  delta F_X0_clear_b0
  have z_0 := L_0
  have z_7 := L_7
  have a_1 := i_min (x := l1) (y := (7 : Int32))
  refine c_pI (b := b) (lo := 0) (hi := 7) H K_l0 (by decide) rfl (by omega) rfl (fun M1 HM1 fM1 q_M1 o_M1 rr_M1 => ?_)
  have K_2 := (q_mo K_l0 (by decide) fM1)
  exact w_PV fM1 (S_X0_clear_L12 (b := b)  g_fuel HM1 K_2 (by decide) (q_fu (by omega)))
theorem S_X0_clear {b : Nat → Bool} {l0 : Nat} {l1 : Int32} {M : gM} (H : q_HT 0 M) (K_l0 : q_Kd M l0 (0, 0)) (h_l1 : 0 ≤ l1.toInt ∧ l1.toInt ≤ 7) : Ok (F_X0_clear (some l0) l1 M) (q_PV b M) := by
  delta F_X0_clear
  exact w_PV (q_rf _ _) (S_X0_clear_b0 (b := b)  H K_l0 h_l1)
set_option maxHeartbeats 1000000 in
theorem S_X11_sharers_b0 {l0 : Nat} {l1 : Int32} {l2 : Int32} {M : gM} (H : q_HT 0 M) (K_l0 : q_Kd M l0 (11, 0)) (h_l1 : 0 ≤ l1.toInt ∧ l1.toInt ≤ 6) (h_l2 : 0 ≤ l2.toInt ∧ l2.toInt ≤ 6) : Ok (F_X11_sharers_b0 M (some l0) l1 l2) (q_pi (-2147483648) (2147483647)) := by
  delta F_X11_sharers_b0
  have z_0 := L_0
  have z_7 := L_7
  refine d_gR (q := (8, 0)) H K_l0 (by decide) rfl (fun v1 r_v1 K_v1 => ?_)
  refine d_gR (q := (1, 0)) H K_l0 (by decide) rfl (fun v2 r_v2 K_v2 => ?_)
  refine c_gO K_v1 ?_
  refine Ok_b (S_X8_errs H K_v1 K_v2 h_l1 h_l2) (fun v4 e_v4 => ?_)
  refine Ok_i (fun c_1 => ?_) (fun c_1 => ?_)
  · skip
    replace c_1 := i_eq c_1
    exact r_pi (i_rng _)
  · skip
    replace c_1 := i_ne c_1
    refine c_gRs K_l0 r_v2 ?_
    refine d_gR (q := (20, 7)) H K_v2 (by decide) rfl (fun v6 r_v6 K_v6 => ?_)
    refine c_aI K_v6 (by omega) (by omega) (fun v7 => ?_)
    refine c_gRs K_l0 r_v1 ?_
    refine c_gRs K_l0 r_v2 ?_
    refine c_gRs K_l0 r_v1 ?_
    refine d_gR (q := (20, 49)) H K_v1 (by decide) rfl (fun v11 r_v11 K_v11 => ?_)
    have a_2 := i_mulR (x := l1) (c := (7 : Int32)) z_7 (by omega) (by omega)
    have a_3 := i_add (x := (l1 * (7 : Int32))) (y := l2) (by omega) (by omega)
    refine c_aI K_v11 (by omega) (by omega) (fun v12 => ?_)
    refine c_gO K_v1 ?_
    refine Ok_b (S_X8_knowersAs H K_v1 K_v2 h_l2) (fun v14 e_v14 => ?_)
    exact r_pi (i_rng _)
theorem S_X11_sharers {l0 : Nat} {l1 : Int32} {l2 : Int32} {M : gM} (H : q_HT 0 M) (K_l0 : q_Kd M l0 (11, 0)) (h_l1 : 0 ≤ l1.toInt ∧ l1.toInt ≤ 6) (h_l2 : 0 ≤ l2.toInt ∧ l2.toInt ≤ 6) : Ok (F_X11_sharers (some l0) l1 l2 M) (q_pi (-2147483648) (2147483647)) := by
  delta F_X11_sharers
  exact w_pi (S_X11_sharers_b0  H K_l0 h_l1 h_l2) (by decide) (by decide)
set_option maxHeartbeats 1000000 in
theorem S_X0_join_b0 {b : Nat → Bool} {l0 : Nat} {l1 : Int32} {l2 : Int32} {M : gM} (H : q_HT 0 M) (K_l0 : q_Kd M l0 (0, 0)) (h_l1 : 0 ≤ l1.toInt ∧ l1.toInt ≤ 6) (h_l2 : 1 ≤ l2.toInt ∧ l2.toInt ≤ 6) : Ok (F_X0_join_b0 (some l0) l1 l2 M) (q_PV b M) := by
  delta F_X0_join_b0
  have z_7 := L_7
  refine d_gR (q := (21, 49)) H K_l0 (by decide) rfl (fun v1 r_v1 K_v1 => ?_)
  have a_1 := i_mulR (x := l1) (c := (7 : Int32)) z_7 (by omega) (by omega)
  have a_2 := i_add (x := (l1 * (7 : Int32))) (y := l1) (by omega) (by omega)
  refine c_aL K_v1 (by omega) (by omega) (fun v2 => ?_)
  refine c_sL (b := b) H K_v1 (by omega) (by omega) (fun M3 HM3 fM3 o_M3 rr_M3 => ?_)
  have r_3 := (congrFun (congrFun rr_M3 _) 0).trans r_v1
  have K_4 := (q_mo K_l0 (by decide) fM3)
  refine c_gRs K_4 r_3 ?_
  have K_5 := (q_mo K_v1 (by decide) fM3)
  have a_6 := i_mulR (x := l2) (c := (7 : Int32)) z_7 (by omega) (by omega)
  have a_7 := i_add (x := (l2 * (7 : Int32))) (y := l2) (by omega) (by omega)
  refine c_aL K_5 (by omega) (by omega) (fun v5 => ?_)
  refine c_sL (b := b) HM3 K_5 (by omega) (by omega) (fun M6 HM6 fM6 o_M6 rr_M6 => ?_)
  have r_8 := (congrFun (congrFun rr_M6 _) 0).trans r_3
  have g_9 := q_tr fM3 fM6
  have K_10 := (q_mo K_4 (by decide) fM6)
  refine c_gRs K_10 r_8 ?_
  have K_11 := (q_mo (q_mo K_v1 (by decide) fM3) (by decide) fM6)
  have a_12 := i_add (x := (l1 * (7 : Int32))) (y := l2) (by omega) (by omega)
  refine c_aL K_11 (by omega) (by omega) (fun v8 => ?_)
  refine c_sL (b := b) HM6 K_11 (by omega) (by omega) (fun M9 HM9 fM9 o_M9 rr_M9 => ?_)
  have r_13 := (congrFun (congrFun rr_M9 _) 0).trans r_8
  have g_14 := q_tr g_9 fM9
  have K_15 := (q_mo K_10 (by decide) fM9)
  refine c_gRs K_15 r_13 ?_
  have K_16 := (q_mo (q_mo (q_mo K_v1 (by decide) fM3) (by decide) fM6) (by decide) fM9)
  have a_17 := i_add (x := (l2 * (7 : Int32))) (y := l1) (by omega) (by omega)
  refine c_aL K_16 (by omega) (by omega) (fun v11 => ?_)
  refine c_sL (b := b) HM9 K_16 (by omega) (by omega) (fun M12 HM12 fM12 o_M12 rr_M12 => ?_)
  have r_18 := (congrFun (congrFun rr_M12 _) 0).trans r_13
  have g_19 := q_tr g_14 fM12
  exact r_PV HM12 g_19
theorem S_X0_join {b : Nat → Bool} {l0 : Nat} {l1 : Int32} {l2 : Int32} {M : gM} (H : q_HT 0 M) (K_l0 : q_Kd M l0 (0, 0)) (h_l1 : 0 ≤ l1.toInt ∧ l1.toInt ≤ 6) (h_l2 : 1 ≤ l2.toInt ∧ l2.toInt ≤ 6) : Ok (F_X0_join (some l0) l1 l2 M) (q_PV b M) := by
  delta F_X0_join
  exact w_PV (q_rf _ _) (S_X0_join_b0 (b := b)  H K_l0 h_l1 h_l2)
theorem S_X0_howMany_b38 {b : Nat → Bool}  {M : gM} (H : q_HT 0 M) : Ok (F_X0_howMany_b38 M) (q_PI b M (-2147483648) (2147483647)) := by
  delta F_X0_howMany_b38
  have z_0 := L_0
  exact r_PI (i_rng _) H (q_rf _ _)
set_option maxHeartbeats 1000000 in
theorem S_X0_howMany_b59 {b : Nat → Bool} {k4 : Option Nat → Int64 → Int32 → gM → Option (Int32 × gM)} {m4 : Int} {k45 : Option Nat → Int64 → Int32 → Int64 → Int32 → gM → Option (Int32 × gM)} {m45 : Int} {k59 : Option Nat → Int64 → Int32 → Int64 → Int32 → Int32 → gM → Option (Int32 × gM)} {m59 : Int} {l0 : Nat} {l1 : Int64} {l3 : Int32} {l4 : Int64} {l6 : Int32} {l7 : Int32} {M : gM} (hk4 : ∀ {l0 : Nat} {l1 : Int64} {l3 : Int32} {M : gM}, q_HT 0 M → (q_Kd M l0 (0, 0)) → (¬ l1 = 0) → (0 ≤ l3.toInt ∧ l3.toInt ≤ 7) → 7 - l3.toInt < m4 → Ok (k4 (some l0) l1 l3 M) (q_PI b M (-2147483648) (2147483647))) (hk45 : ∀ {l0 : Nat} {l1 : Int64} {l3 : Int32} {l4 : Int64} {l6 : Int32} {M : gM}, q_HT 0 M → (q_Kd M l0 (0, 0)) → (¬ l1 = 0) → (0 ≤ l3.toInt ∧ l3.toInt ≤ 6) → (¬ l4 = 0) → (1 ≤ l6.toInt ∧ l6.toInt ≤ 7) → 7 - l3.toInt ≤ m4 → 7 - l6.toInt < m45 → Ok (k45 (some l0) l1 l3 l4 l6 M) (q_PI b M (-2147483648) (2147483647))) (hk59 : ∀ {l0 : Nat} {l1 : Int64} {l3 : Int32} {l4 : Int64} {l6 : Int32} {l7 : Int32} {M : gM}, q_HT 0 M → (q_Kd M l0 (0, 0)) → (¬ l1 = 0) → (0 ≤ l3.toInt ∧ l3.toInt ≤ 6) → (¬ l4 = 0) → (1 ≤ l6.toInt ∧ l6.toInt ≤ 6) → (1 ≤ l7.toInt ∧ l7.toInt ≤ 7) → 7 - l3.toInt ≤ m4 → 7 - l6.toInt ≤ m45 → 7 - l7.toInt < m59 → Ok (k59 (some l0) l1 l3 l4 l6 l7 M) (q_PI b M (-2147483648) (2147483647))) (H : q_HT 0 M) (K_l0 : q_Kd M l0 (0, 0)) (h_l1 : ¬ l1 = 0) (h_l3 : 0 ≤ l3.toInt ∧ l3.toInt ≤ 6) (h_l4 : ¬ l4 = 0) (h_l6 : 1 ≤ l6.toInt ∧ l6.toInt ≤ 6) (h_l7 : 1 ≤ l7.toInt ∧ l7.toInt ≤ 7) (hm4 : 7 - l3.toInt ≤ m4) (hm45 : 7 - l6.toInt ≤ m45) (hm59 : 7 - l7.toInt ≤ m59) : Ok (F_X0_howMany_b59 k4 k45 k59 (some l0) l1 l3 l4 l6 l7 M) (q_PI b M (-2147483648) (2147483647)) := by
  delta F_X0_howMany_b59
  have z_1 := L_1
  have z_7 := L_7
  refine d_gI (lo := 0) (hi := 7) H K_l0 (by decide) rfl (fun v1 q_v1 e_v1 => ?_)
  refine Ok_i (fun c_1 => ?_) (fun c_1 => ?_)
  · skip
    replace c_1 := i_le c_1
    have a_2 := i_addc (x := l6) (c := 1) z_1 (by omega) (by omega)
    exact w_PI (q_rf _ _) (hk45 H K_l0 h_l1 h_l3 h_l4 (by omega) (by omega)) (by decide) (by decide)
  · skip
    replace c_1 := i_nle c_1
    refine d_gR (q := (21, 49)) H K_l0 (by decide) rfl (fun v2 r_v2 K_v2 => ?_)
    have a_3 := i_mulR (x := l6) (c := (7 : Int32)) z_7 (by omega) (by omega)
    have a_4 := i_add (x := (l6 * (7 : Int32))) (y := l3) (by omega) (by omega)
    refine c_aL K_v2 (by omega) (by omega) (fun v3 => ?_)
    refine c_gRs K_l0 r_v2 ?_
    have a_5 := i_mulR (x := l3) (c := (7 : Int32)) z_7 (by omega) (by omega)
    have a_6 := i_add (x := (l3 * (7 : Int32))) (y := l7) (by omega) (by omega)
    refine c_aL K_v2 (by omega) (by omega) (fun v5 => ?_)
    refine c_gRs K_l0 r_v2 ?_
    refine c_gRs K_l0 r_v2 ?_
    have a_7 := i_add (x := (l6 * (7 : Int32))) (y := l7) (by omega) (by omega)
    refine c_aL K_v2 (by omega) (by omega) (fun v8 => ?_)
    refine Ok_e h_l1 ?_
    refine c_sL (b := b) H K_v2 (by omega) (by omega) (fun M10 HM10 fM10 o_M10 rr_M10 => ?_)
    have q_8 := (congrFun (o_M10 _ (q_dn K_l0 K_v2 (Or.inl (Nat.le_of_ble_eq_true rfl)))) 1).trans q_v1
    have r_9 := (congrFun (congrFun rr_M10 _) 0).trans r_v2
    have K_10 := (q_mo K_l0 (by decide) fM10)
    have a_11 := i_addc (x := l7) (c := 1) z_1 (by omega) (by omega)
    exact w_PI fM10 (hk59 HM10 K_10 h_l1 h_l3 h_l4 h_l6 (by omega) (by omega)) (by decide) (by decide)
theorem S_X0_howMany_L59 {b : Nat → Bool} {k4 : Option Nat → Int64 → Int32 → gM → Option (Int32 × gM)} {m4 : Int} {k45 : Option Nat → Int64 → Int32 → Int64 → Int32 → gM → Option (Int32 × gM)} {m45 : Int} (hk4 : ∀ {l0 : Nat} {l1 : Int64} {l3 : Int32} {M : gM}, q_HT 0 M → (q_Kd M l0 (0, 0)) → (¬ l1 = 0) → (0 ≤ l3.toInt ∧ l3.toInt ≤ 7) → 7 - l3.toInt < m4 → Ok (k4 (some l0) l1 l3 M) (q_PI b M (-2147483648) (2147483647))) (hk45 : ∀ {l0 : Nat} {l1 : Int64} {l3 : Int32} {l4 : Int64} {l6 : Int32} {M : gM}, q_HT 0 M → (q_Kd M l0 (0, 0)) → (¬ l1 = 0) → (0 ≤ l3.toInt ∧ l3.toInt ≤ 6) → (¬ l4 = 0) → (1 ≤ l6.toInt ∧ l6.toInt ≤ 7) → 7 - l3.toInt ≤ m4 → 7 - l6.toInt < m45 → Ok (k45 (some l0) l1 l3 l4 l6 M) (q_PI b M (-2147483648) (2147483647))) : ∀ (n : Nat) {l0 : Nat} {l1 : Int64} {l3 : Int32} {l4 : Int64} {l6 : Int32} {l7 : Int32} {M : gM}, q_HT 0 M → (q_Kd M l0 (0, 0)) → (¬ l1 = 0) → (0 ≤ l3.toInt ∧ l3.toInt ≤ 6) → (¬ l4 = 0) → (1 ≤ l6.toInt ∧ l6.toInt ≤ 6) → (1 ≤ l7.toInt ∧ l7.toInt ≤ 7) → 7 - l3.toInt ≤ m4 → 7 - l6.toInt ≤ m45 → 7 - l7.toInt < (n : Int) → Ok (F_X0_howMany_L59 k4 k45 n (some l0) l1 l3 l4 l6 l7 M) (q_PI b M (-2147483648) (2147483647)) := by
  intro n
  induction n with
  | zero =>
    intro l0 l1 l3 l4 l6 l7 M H K_l0 h_l1 h_l3 h_l4 h_l6 h_l7 hm4 hm45 hm
    exfalso
    omega
  | succ n ih =>
    intro l0 l1 l3 l4 l6 l7 M H K_l0 h_l1 h_l3 h_l4 h_l6 h_l7 hm4 hm45 hm
    exact S_X0_howMany_b59 (b := b) (m59 := 7 - l7.toInt) hk4 hk45 (fun H K_l0 h_l1 h_l3 h_l4 h_l6 h_l7 hm4 hm45 hm2 => ih H K_l0 h_l1 h_l3 h_l4 h_l6 h_l7 hm4 hm45 (by omega)) H K_l0 h_l1 h_l3 h_l4 h_l6 h_l7 hm4 hm45 (Int.le_refl _)
theorem S_X0_howMany_b45 {b : Nat → Bool} {k4 : Option Nat → Int64 → Int32 → gM → Option (Int32 × gM)} {m4 : Int} {k45 : Option Nat → Int64 → Int32 → Int64 → Int32 → gM → Option (Int32 × gM)} {m45 : Int} {l0 : Nat} {l1 : Int64} {l3 : Int32} {l4 : Int64} {l6 : Int32} {M : gM} (hk4 : ∀ {l0 : Nat} {l1 : Int64} {l3 : Int32} {M : gM}, q_HT 0 M → (q_Kd M l0 (0, 0)) → (¬ l1 = 0) → (0 ≤ l3.toInt ∧ l3.toInt ≤ 7) → 7 - l3.toInt < m4 → Ok (k4 (some l0) l1 l3 M) (q_PI b M (-2147483648) (2147483647))) (hk45 : ∀ {l0 : Nat} {l1 : Int64} {l3 : Int32} {l4 : Int64} {l6 : Int32} {M : gM}, q_HT 0 M → (q_Kd M l0 (0, 0)) → (¬ l1 = 0) → (0 ≤ l3.toInt ∧ l3.toInt ≤ 6) → (¬ l4 = 0) → (1 ≤ l6.toInt ∧ l6.toInt ≤ 7) → 7 - l3.toInt ≤ m4 → 7 - l6.toInt < m45 → Ok (k45 (some l0) l1 l3 l4 l6 M) (q_PI b M (-2147483648) (2147483647))) (H : q_HT 0 M) (K_l0 : q_Kd M l0 (0, 0)) (h_l1 : ¬ l1 = 0) (h_l3 : 0 ≤ l3.toInt ∧ l3.toInt ≤ 6) (h_l4 : ¬ l4 = 0) (h_l6 : 1 ≤ l6.toInt ∧ l6.toInt ≤ 7) (hm4 : 7 - l3.toInt ≤ m4) (hm45 : 7 - l6.toInt ≤ m45) : Ok (F_X0_howMany_b45 k4 k45 (some l0) l1 l3 l4 l6 M) (q_PI b M (-2147483648) (2147483647)) := by
  delta F_X0_howMany_b45
  have z_1 := L_1
  refine d_gI (lo := 0) (hi := 7) H K_l0 (by decide) rfl (fun v1 q_v1 e_v1 => ?_)
  refine Ok_i (fun c_1 => ?_) (fun c_1 => ?_)
  · skip
    replace c_1 := i_le c_1
    have a_2 := i_addc (x := l3) (c := 1) z_1 (by omega) (by omega)
    exact w_PI (q_rf _ _) (hk4 H K_l0 h_l4 (by omega) (by omega)) (by decide) (by decide)
  · skip
    replace c_1 := i_nle c_1
    have a_3 := i_addc (x := l3) (c := (1 : Int32)) z_1 (by omega) (by omega)
    exact w_PI (q_rf _ _) (S_X0_howMany_L59 (b := b) hk4 hk45 g_fuel H K_l0 h_l1 h_l3 h_l4 (by omega) (by omega) (by omega) (by omega) (q_fu (by omega))) (by decide) (by decide)
theorem S_X0_howMany_L45 {b : Nat → Bool} {k4 : Option Nat → Int64 → Int32 → gM → Option (Int32 × gM)} {m4 : Int} (hk4 : ∀ {l0 : Nat} {l1 : Int64} {l3 : Int32} {M : gM}, q_HT 0 M → (q_Kd M l0 (0, 0)) → (¬ l1 = 0) → (0 ≤ l3.toInt ∧ l3.toInt ≤ 7) → 7 - l3.toInt < m4 → Ok (k4 (some l0) l1 l3 M) (q_PI b M (-2147483648) (2147483647))) : ∀ (n : Nat) {l0 : Nat} {l1 : Int64} {l3 : Int32} {l4 : Int64} {l6 : Int32} {M : gM}, q_HT 0 M → (q_Kd M l0 (0, 0)) → (¬ l1 = 0) → (0 ≤ l3.toInt ∧ l3.toInt ≤ 6) → (¬ l4 = 0) → (1 ≤ l6.toInt ∧ l6.toInt ≤ 7) → 7 - l3.toInt ≤ m4 → 7 - l6.toInt < (n : Int) → Ok (F_X0_howMany_L45 k4 n (some l0) l1 l3 l4 l6 M) (q_PI b M (-2147483648) (2147483647)) := by
  intro n
  induction n with
  | zero =>
    intro l0 l1 l3 l4 l6 M H K_l0 h_l1 h_l3 h_l4 h_l6 hm4 hm
    exfalso
    omega
  | succ n ih =>
    intro l0 l1 l3 l4 l6 M H K_l0 h_l1 h_l3 h_l4 h_l6 hm4 hm
    exact S_X0_howMany_b45 (b := b) (m45 := 7 - l6.toInt) hk4 (fun H K_l0 h_l1 h_l3 h_l4 h_l6 hm4 hm2 => ih H K_l0 h_l1 h_l3 h_l4 h_l6 hm4 (by omega)) H K_l0 h_l1 h_l3 h_l4 h_l6 hm4 (Int.le_refl _)
set_option maxHeartbeats 1000000 in
theorem S_X0_howMany_b4 {b : Nat → Bool} {k4 : Option Nat → Int64 → Int32 → gM → Option (Int32 × gM)} {m4 : Int} {l0 : Nat} {l1 : Int64} {l3 : Int32} {M : gM} (hk4 : ∀ {l0 : Nat} {l1 : Int64} {l3 : Int32} {M : gM}, q_HT 0 M → (q_Kd M l0 (0, 0)) → (¬ l1 = 0) → (0 ≤ l3.toInt ∧ l3.toInt ≤ 7) → 7 - l3.toInt < m4 → Ok (k4 (some l0) l1 l3 M) (q_PI b M (-2147483648) (2147483647))) (H : q_HT 0 M) (K_l0 : q_Kd M l0 (0, 0)) (h_l1 : ¬ l1 = 0) (h_l3 : 0 ≤ l3.toInt ∧ l3.toInt ≤ 7) (hm4 : 7 - l3.toInt ≤ m4) : Ok (F_X0_howMany_b4 k4 (some l0) l1 l3 M) (q_PI b M (-2147483648) (2147483647)) := by
  delta F_X0_howMany_b4
  have z_1 := L_1
  have z_7 := L_7
  refine d_gI (lo := 0) (hi := 7) H K_l0 (by decide) rfl (fun v1 q_v1 e_v1 => ?_)
  refine Ok_i (fun c_1 => ?_) (fun c_1 => ?_)
  · skip
    replace c_1 := i_le c_1
    exact r_PI (i_rng _) H (q_rf _ _)
  · skip
    replace c_1 := i_nle c_1
    refine d_gR (q := (21, 49)) H K_l0 (by decide) rfl (fun v2 r_v2 K_v2 => ?_)
    have a_2 := i_mulR (x := l3) (c := (7 : Int32)) z_7 (by omega) (by omega)
    have a_3 := i_add (x := (l3 * (7 : Int32))) (y := l3) (by omega) (by omega)
    refine c_aL K_v2 (by omega) (by omega) (fun v3 => ?_)
    refine Ok_i (fun c_4 => ?_) (fun c_4 => ?_)
    · skip
      exact w_PI (q_rf _ _) (S_X0_howMany_b38 (b := b)  H) (by decide) (by decide)
    · skip
      have hn_5 := i_nzJ c_4
      refine Ok_i (fun c_6 => ?_) (fun c_6 => ?_)
      · skip
        exact w_PI (q_rf _ _) (S_X0_howMany_b38 (b := b)  H) (by decide) (by decide)
      · skip
        have hn_7 := i_nzJ c_6
        have a_8 := i_addc (x := l3) (c := (1 : Int32)) z_1 (by omega) (by omega)
        exact w_PI (q_rf _ _) (S_X0_howMany_L45 (b := b) hk4 g_fuel H K_l0 hn_7 (by omega) hn_5 (by omega) (by omega) (q_fu (by omega))) (by decide) (by decide)
theorem S_X0_howMany_L4 {b : Nat → Bool} : ∀ (n : Nat) {l0 : Nat} {l1 : Int64} {l3 : Int32} {M : gM}, q_HT 0 M → (q_Kd M l0 (0, 0)) → (¬ l1 = 0) → (0 ≤ l3.toInt ∧ l3.toInt ≤ 7) → 7 - l3.toInt < (n : Int) → Ok (F_X0_howMany_L4 n (some l0) l1 l3 M) (q_PI b M (-2147483648) (2147483647)) := by
  intro n
  induction n with
  | zero =>
    intro l0 l1 l3 M H K_l0 h_l1 h_l3  hm
    exfalso
    omega
  | succ n ih =>
    intro l0 l1 l3 M H K_l0 h_l1 h_l3  hm
    exact S_X0_howMany_b4 (b := b) (m4 := 7 - l3.toInt) (fun H K_l0 h_l1 h_l3  hm2 => ih H K_l0 h_l1 h_l3  (by omega)) H K_l0 h_l1 h_l3  (Int.le_refl _)
theorem S_X0_howMany_b0 {b : Nat → Bool} {l0 : Nat} {M : gM} (H : q_HT 0 M) (K_l0 : q_Kd M l0 (0, 0)) : Ok (F_X0_howMany_b0 (some l0) M) (q_PI b M (-2147483648) (2147483647)) := by
  delta F_X0_howMany_b0
  have z_0 := L_0
  exact w_PI (q_rf _ _) (S_X0_howMany_L4 (b := b)  g_fuel H K_l0 (by decide) (by decide) (q_fu (by omega))) (by decide) (by decide)
theorem S_X0_howMany {b : Nat → Bool} {l0 : Nat} {M : gM} (H : q_HT 0 M) (K_l0 : q_Kd M l0 (0, 0)) : Ok (F_X0_howMany (some l0) M) (q_PI b M (-2147483648) (2147483647)) := by
  delta F_X0_howMany
  exact w_PI (q_rf _ _) (S_X0_howMany_b0 (b := b)  H K_l0) (by decide) (by decide)
theorem S_X11_ways_b75 {b : Nat → Bool} {k26 : Option Nat → Int32 → Int32 → gM → Option (Int32 × gM)} {m26 : Int} {k41 : Option Nat → Int32 → Int32 → Int32 → gM → Option (Int32 × gM)} {m41 : Int} {l0 : Nat} {l1 : Int32} {l2 : Int32} {l3 : Int32} {M : gM} (hk26 : ∀ {l0 : Nat} {l1 : Int32} {l2 : Int32} {M : gM}, q_HT 0 M → (q_Kd M l0 (11, 0)) → (0 ≤ l1.toInt ∧ l1.toInt ≤ 6) → (0 ≤ l2.toInt ∧ l2.toInt ≤ 7) → 7 - l2.toInt < m26 → Ok (k26 (some l0) l1 l2 M) (q_PI b M (-2147483648) (2147483647))) (hk41 : ∀ {l0 : Nat} {l1 : Int32} {l2 : Int32} {l3 : Int32} {M : gM}, q_HT 0 M → (q_Kd M l0 (11, 0)) → (0 ≤ l1.toInt ∧ l1.toInt ≤ 6) → (0 ≤ l2.toInt ∧ l2.toInt ≤ 6) → (1 ≤ l3.toInt ∧ l3.toInt ≤ 7) → 7 - l2.toInt ≤ m26 → 7 - l3.toInt < m41 → Ok (k41 (some l0) l1 l2 l3 M) (q_PI b M (-2147483648) (2147483647))) (H : q_HT 0 M) (K_l0 : q_Kd M l0 (11, 0)) (h_l1 : 0 ≤ l1.toInt ∧ l1.toInt ≤ 6) (h_l2 : 0 ≤ l2.toInt ∧ l2.toInt ≤ 6) (h_l3 : 1 ≤ l3.toInt ∧ l3.toInt ≤ 6) (hm26 : 7 - l2.toInt ≤ m26) (hm41 : 7 - l3.toInt ≤ m41) : Ok (F_X11_ways_b75 k26 k41 (some l0) l1 l2 l3 M) (q_PI b M (-2147483648) (2147483647)) := by
  delta F_X11_ways_b75
  have z_1 := L_1
  have a_1 := i_addc (x := l3) (c := 1) z_1 (by omega) (by omega)
  exact w_PI (q_rf _ _) (hk41 H K_l0 h_l1 h_l2 (by omega) (by omega)) (by decide) (by decide)
set_option maxHeartbeats 1000000 in
theorem S_X11_ways_b41 {b : Nat → Bool} {k26 : Option Nat → Int32 → Int32 → gM → Option (Int32 × gM)} {m26 : Int} {k41 : Option Nat → Int32 → Int32 → Int32 → gM → Option (Int32 × gM)} {m41 : Int} {l0 : Nat} {l1 : Int32} {l2 : Int32} {l3 : Int32} {M : gM} (hk26 : ∀ {l0 : Nat} {l1 : Int32} {l2 : Int32} {M : gM}, q_HT 0 M → (q_Kd M l0 (11, 0)) → (0 ≤ l1.toInt ∧ l1.toInt ≤ 6) → (0 ≤ l2.toInt ∧ l2.toInt ≤ 7) → 7 - l2.toInt < m26 → Ok (k26 (some l0) l1 l2 M) (q_PI b M (-2147483648) (2147483647))) (hk41 : ∀ {l0 : Nat} {l1 : Int32} {l2 : Int32} {l3 : Int32} {M : gM}, q_HT 0 M → (q_Kd M l0 (11, 0)) → (0 ≤ l1.toInt ∧ l1.toInt ≤ 6) → (0 ≤ l2.toInt ∧ l2.toInt ≤ 6) → (1 ≤ l3.toInt ∧ l3.toInt ≤ 7) → 7 - l2.toInt ≤ m26 → 7 - l3.toInt < m41 → Ok (k41 (some l0) l1 l2 l3 M) (q_PI b M (-2147483648) (2147483647))) (H : q_HT 0 M) (K_l0 : q_Kd M l0 (11, 0)) (h_l1 : 0 ≤ l1.toInt ∧ l1.toInt ≤ 6) (h_l2 : 0 ≤ l2.toInt ∧ l2.toInt ≤ 6) (h_l3 : 1 ≤ l3.toInt ∧ l3.toInt ≤ 7) (hm26 : 7 - l2.toInt ≤ m26) (hm41 : 7 - l3.toInt ≤ m41) : Ok (F_X11_ways_b41 k26 k41 (some l0) l1 l2 l3 M) (q_PI b M (-2147483648) (2147483647)) := by
  delta F_X11_ways_b41
  have z_1 := L_1
  refine d_gR (q := (1, 0)) H K_l0 (by decide) rfl (fun v1 r_v1 K_v1 => ?_)
  refine d_gI (lo := 0) (hi := 7) H K_v1 (by decide) rfl (fun v2 q_v2 e_v2 => ?_)
  refine Ok_i (fun c_1 => ?_) (fun c_1 => ?_)
  · skip
    replace c_1 := i_le c_1
    have a_2 := i_addc (x := l2) (c := 1) z_1 (by omega) (by omega)
    exact w_PI (q_rf _ _) (hk26 H K_l0 h_l1 (by omega) (by omega)) (by decide) (by decide)
  · skip
    replace c_1 := i_nle c_1
    refine c_gO K_l0 ?_
    refine Ok_b (S_X11_sharers H K_l0 h_l2 h_l1) (fun v4 e_v4 => ?_)
    refine Ok_b (S_X11_bit H) (fun v5 e_v5 => ?_)
    refine Ok_i (fun c_3 => ?_) (fun c_3 => ?_)
    · skip
      replace c_3 := i_eq c_3
      refine d_gR (q := (0, 0)) H K_l0 (by decide) rfl (fun v6 r_v6 K_v6 => ?_)
      refine c_gO K_v6 ?_
      refine Ok_b (S_X0_join (b := b) H K_v6 h_l2 (by omega)) (fun M8 zM8 => ?_)
      obtain ⟨HM8, fM8⟩ := zM8
      have K_4 := (q_mo K_l0 (by decide) fM8)
      exact w_PI fM8 (S_X11_ways_b75 (b := b) hk26 hk41 HM8 K_4 h_l1 h_l2 (by omega) (by omega) (by omega)) (by decide) (by decide)
    · skip
      replace c_3 := i_ne c_3
      exact w_PI (q_rf _ _) (S_X11_ways_b75 (b := b) hk26 hk41 H K_l0 h_l1 h_l2 (by omega) (by omega) (by omega)) (by decide) (by decide)
theorem S_X11_ways_L41 {b : Nat → Bool} {k26 : Option Nat → Int32 → Int32 → gM → Option (Int32 × gM)} {m26 : Int} (hk26 : ∀ {l0 : Nat} {l1 : Int32} {l2 : Int32} {M : gM}, q_HT 0 M → (q_Kd M l0 (11, 0)) → (0 ≤ l1.toInt ∧ l1.toInt ≤ 6) → (0 ≤ l2.toInt ∧ l2.toInt ≤ 7) → 7 - l2.toInt < m26 → Ok (k26 (some l0) l1 l2 M) (q_PI b M (-2147483648) (2147483647))) : ∀ (n : Nat) {l0 : Nat} {l1 : Int32} {l2 : Int32} {l3 : Int32} {M : gM}, q_HT 0 M → (q_Kd M l0 (11, 0)) → (0 ≤ l1.toInt ∧ l1.toInt ≤ 6) → (0 ≤ l2.toInt ∧ l2.toInt ≤ 6) → (1 ≤ l3.toInt ∧ l3.toInt ≤ 7) → 7 - l2.toInt ≤ m26 → 7 - l3.toInt < (n : Int) → Ok (F_X11_ways_L41 k26 n (some l0) l1 l2 l3 M) (q_PI b M (-2147483648) (2147483647)) := by
  intro n
  induction n with
  | zero =>
    intro l0 l1 l2 l3 M H K_l0 h_l1 h_l2 h_l3 hm26 hm
    exfalso
    omega
  | succ n ih =>
    intro l0 l1 l2 l3 M H K_l0 h_l1 h_l2 h_l3 hm26 hm
    exact S_X11_ways_b41 (b := b) (m41 := 7 - l3.toInt) hk26 (fun H K_l0 h_l1 h_l2 h_l3 hm26 hm2 => ih H K_l0 h_l1 h_l2 h_l3 hm26 (by omega)) H K_l0 h_l1 h_l2 h_l3 hm26 (Int.le_refl _)
theorem S_X11_ways_b26 {b : Nat → Bool} {k26 : Option Nat → Int32 → Int32 → gM → Option (Int32 × gM)} {m26 : Int} {l0 : Nat} {l1 : Int32} {l2 : Int32} {M : gM} (hk26 : ∀ {l0 : Nat} {l1 : Int32} {l2 : Int32} {M : gM}, q_HT 0 M → (q_Kd M l0 (11, 0)) → (0 ≤ l1.toInt ∧ l1.toInt ≤ 6) → (0 ≤ l2.toInt ∧ l2.toInt ≤ 7) → 7 - l2.toInt < m26 → Ok (k26 (some l0) l1 l2 M) (q_PI b M (-2147483648) (2147483647))) (H : q_HT 0 M) (K_l0 : q_Kd M l0 (11, 0)) (h_l1 : 0 ≤ l1.toInt ∧ l1.toInt ≤ 6) (h_l2 : 0 ≤ l2.toInt ∧ l2.toInt ≤ 7) (hm26 : 7 - l2.toInt ≤ m26) : Ok (F_X11_ways_b26 k26 (some l0) l1 l2 M) (q_PI b M (-2147483648) (2147483647)) := by
  delta F_X11_ways_b26
  have z_1 := L_1
  refine d_gR (q := (1, 0)) H K_l0 (by decide) rfl (fun v1 r_v1 K_v1 => ?_)
  refine d_gI (lo := 0) (hi := 7) H K_v1 (by decide) rfl (fun v2 q_v2 e_v2 => ?_)
  refine Ok_i (fun c_1 => ?_) (fun c_1 => ?_)
  · skip
    replace c_1 := i_le c_1
    refine d_gR (q := (0, 0)) H K_l0 (by decide) rfl (fun v3 r_v3 K_v3 => ?_)
    refine c_gO K_v3 ?_
    refine Ok_b (S_X0_howMany (b := b) H K_v3) (fun yM6 zM6 => ?_)
    obtain ⟨v5, M6⟩ := yM6
    obtain ⟨e_v5, HM6, fM6⟩ := zM6
    try dsimp only at e_v5 HM6 fM6
    exact r_PI (i_rng _) HM6 fM6
  · skip
    replace c_1 := i_nle c_1
    have a_2 := i_addc (x := l2) (c := (1 : Int32)) z_1 (by omega) (by omega)
    exact w_PI (q_rf _ _) (S_X11_ways_L41 (b := b) hk26 g_fuel H K_l0 h_l1 (by omega) (by omega) (by omega) (q_fu (by omega))) (by decide) (by decide)
theorem S_X11_ways_L26 {b : Nat → Bool} : ∀ (n : Nat) {l0 : Nat} {l1 : Int32} {l2 : Int32} {M : gM}, q_HT 0 M → (q_Kd M l0 (11, 0)) → (0 ≤ l1.toInt ∧ l1.toInt ≤ 6) → (0 ≤ l2.toInt ∧ l2.toInt ≤ 7) → 7 - l2.toInt < (n : Int) → Ok (F_X11_ways_L26 n (some l0) l1 l2 M) (q_PI b M (-2147483648) (2147483647)) := by
  intro n
  induction n with
  | zero =>
    intro l0 l1 l2 M H K_l0 h_l1 h_l2  hm
    exfalso
    omega
  | succ n ih =>
    intro l0 l1 l2 M H K_l0 h_l1 h_l2  hm
    exact S_X11_ways_b26 (b := b) (m26 := 7 - l2.toInt) (fun H K_l0 h_l1 h_l2  hm2 => ih H K_l0 h_l1 h_l2  (by omega)) H K_l0 h_l1 h_l2  (Int.le_refl _)
theorem S_X11_ways_b0 {b : Nat → Bool} {l0 : Nat} {l1 : Int32} {M : gM} (H : q_HT 0 M) (K_l0 : q_Kd M l0 (11, 0)) : Ok (F_X11_ways_b0 (some l0) l1 M) (q_PI b M (-2147483648) (2147483647)) := by
  delta F_X11_ways_b0
  have z_m1 := L_m1
  have z_0 := L_0
  refine c_gO K_l0 ?_
  refine Ok_b (S_X11_isThing H K_l0) (fun v2 e_v2 => ?_)
  obtain ⟨e_v2, w_v2⟩ := e_v2
  refine Ok_i (fun c_1 => ?_) (fun c_1 => ?_)
  · skip
    replace c_1 := i_eq c_1
    exact r_PI (i_rng _) H (q_rf _ _)
  · skip
    replace c_1 := i_ne c_1
    have x_v2 := w_v2 (by omega)
    refine d_gR (q := (0, 0)) H K_l0 (by decide) rfl (fun v3 r_v3 K_v3 => ?_)
    refine d_gR (q := (1, 0)) H K_l0 (by decide) rfl (fun v4 r_v4 K_v4 => ?_)
    refine d_gI (lo := 0) (hi := 7) H K_v4 (by decide) rfl (fun v5 q_v5 e_v5 => ?_)
    refine c_gO K_v3 ?_
    refine Ok_b (S_X0_clear (b := b) H K_v3 e_v5) (fun M7 zM7 => ?_)
    obtain ⟨HM7, fM7⟩ := zM7
    have K_2 := (q_mo K_l0 (by decide) fM7)
    exact w_PI fM7 (S_X11_ways_L26 (b := b)  g_fuel HM7 K_2 (by omega) (by decide) (q_fu (by omega))) (by decide) (by decide)
theorem S_X11_ways {b : Nat → Bool} {l0 : Nat} {l1 : Int32} {M : gM} (H : q_HT 0 M) (K_l0 : q_Kd M l0 (11, 0)) : Ok (F_X11_ways (some l0) l1 M) (q_PI b M (-2147483648) (2147483647)) := by
  delta F_X11_ways
  exact w_PI (q_rf _ _) (S_X11_ways_b0 (b := b)  H K_l0) (by decide) (by decide)
theorem S_X11_taught_b16  {M : gM} (H : q_HT 0 M) : Ok (F_X11_taught_b16 M) (q_pi (-4) (-1)) := by
  delta F_X11_taught_b16
  have z_m4 := L_m4
  exact r_pi (by decide)
set_option maxHeartbeats 1000000 in
theorem S_X11_taught_b0 {l0 : Nat} {l1 : Int32} {l2 : Int32} {M : gM} (H : q_HT 0 M) (K_l0 : q_Kd M l0 (11, 0)) : Ok (F_X11_taught_b0 M (some l0) l1 l2) (q_pi (-4) (-1)) := by
  delta F_X11_taught_b0
  have z_m3 := L_m3
  have z_m2 := L_m2
  have z_m1 := L_m1
  have z_0 := L_0
  refine c_gO K_l0 ?_
  refine Ok_b (S_X11_isHeir H K_l0) (fun v2 e_v2 => ?_)
  obtain ⟨e_v2, w_v2⟩ := e_v2
  refine Ok_i (fun c_1 => ?_) (fun c_1 => ?_)
  · skip
    replace c_1 := i_eq c_1
    exact w_pi (S_X11_taught_b16  H) (by decide) (by decide)
  · skip
    replace c_1 := i_ne c_1
    have x_v2 := w_v2 (by omega)
    refine Ok_b (S_X11_isThing H K_l0) (fun v3 e_v3 => ?_)
    obtain ⟨e_v3, w_v3⟩ := e_v3
    refine Ok_i (fun c_2 => ?_) (fun c_2 => ?_)
    · skip
      replace c_2 := i_eq c_2
      exact w_pi (S_X11_taught_b16  H) (by decide) (by decide)
    · skip
      replace c_2 := i_ne c_2
      have x_v3 := w_v3 (by omega)
      refine d_gR (q := (8, 0)) H K_l0 (by decide) rfl (fun v4 r_v4 K_v4 => ?_)
      refine d_gR (q := (1, 0)) H K_l0 (by decide) rfl (fun v5 r_v5 K_v5 => ?_)
      refine c_gO K_v4 ?_
      refine Ok_b (S_X8_errs H K_v4 K_v5 (by omega) (by omega)) (fun v7 e_v7 => ?_)
      refine Ok_i (fun c_3 => ?_) (fun c_3 => ?_)
      · skip
        replace c_3 := i_eq c_3
        exact r_pi (by decide)
      · skip
        replace c_3 := i_ne c_3
        refine Ok_b (S_X11_sharers H K_l0 (by omega) (by omega)) (fun v8 e_v8 => ?_)
        refine Ok_i (fun c_4 => ?_) (fun c_4 => ?_)
        · skip
          replace c_4 := i_eq c_4
          exact r_pi (by decide)
        · skip
          replace c_4 := i_ne c_4
          exact r_pi (by decide)
theorem S_X11_taught {l0 : Nat} {l1 : Int32} {l2 : Int32} {M : gM} (H : q_HT 0 M) (K_l0 : q_Kd M l0 (11, 0)) : Ok (F_X11_taught (some l0) l1 l2 M) (q_pi (-4) (-1)) := by
  delta F_X11_taught
  exact w_pi (S_X11_taught_b0  H K_l0) (by decide) (by decide)
theorem S_X11_prompts_b20  {M : gM} (H : q_HT 0 M) : Ok (F_X11_prompts_b20 M) (q_pi (-2147483648) (2147483647)) := by
  delta F_X11_prompts_b20
  have z_m1 := L_m1
  exact r_pi (i_rng _)
theorem S_X11_prompts_b132 {k54 : Option Nat → Int32 → Int32 → Int32 → Int32 → Int32 → Int32 → Option Int32} {m54 : Int} {l0 : Nat} {l1 : Int32} {l2 : Int32} {l3 : Int32} {l4 : Int32} {l5 : Int32} {l6 : Int32} {l8 : Int32} {M : gM} (hk54 : ∀ {l0 : Nat} {l1 : Int32} {l2 : Int32} {l3 : Int32} {l4 : Int32} {l5 : Int32} {l6 : Int32}, q_HT 0 M → (q_Kd M l0 (11, 0)) → (0 ≤ l1.toInt ∧ l1.toInt ≤ 6) → (0 ≤ l2.toInt ∧ l2.toInt ≤ 6) → (1 ≤ l3.toInt ∧ l3.toInt ≤ 40) → (0 ≤ l6.toInt ∧ l6.toInt ≤ 40) → 40 - l6.toInt < m54 → Ok (k54 (some l0) l1 l2 l3 l4 l5 l6) (q_pi (-2147483648) (2147483647))) (H : q_HT 0 M) (K_l0 : q_Kd M l0 (11, 0)) (h_l1 : 0 ≤ l1.toInt ∧ l1.toInt ≤ 6) (h_l2 : 0 ≤ l2.toInt ∧ l2.toInt ≤ 6) (h_l3 : 1 ≤ l3.toInt ∧ l3.toInt ≤ 40) (h_l6 : 0 ≤ l6.toInt ∧ l6.toInt ≤ 39) (hm54 : 40 - l6.toInt ≤ m54) : Ok (F_X11_prompts_b132 k54 M (some l0) l1 l2 l3 l4 l5 l6 l8) (q_pi (-2147483648) (2147483647)) := by
  delta F_X11_prompts_b132
  have z_m2 := L_m2
  have z_1 := L_1
  refine Ok_i (fun c_1 => ?_) (fun c_1 => ?_)
  · skip
    replace c_1 := i_lt c_1
    have a_2 := i_addc (x := l6) (c := 1) z_1 (by omega) (by omega)
    exact w_pi (hk54 H K_l0 h_l1 h_l2 h_l3 (by omega) (by omega)) (by decide) (by decide)
  · skip
    replace c_1 := i_nlt c_1
    exact r_pi (i_rng _)
theorem S_X11_prompts_b102 {k54 : Option Nat → Int32 → Int32 → Int32 → Int32 → Int32 → Int32 → Option Int32} {m54 : Int} {k102 : Option Nat → Int32 → Int32 → Int32 → Int32 → Int32 → Int32 → Int32 → Int32 → Option Int32} {m102 : Int} {l0 : Nat} {l1 : Int32} {l2 : Int32} {l3 : Int32} {l4 : Int32} {l5 : Int32} {l6 : Int32} {l8 : Int32} {l9 : Int32} {M : gM} (hk54 : ∀ {l0 : Nat} {l1 : Int32} {l2 : Int32} {l3 : Int32} {l4 : Int32} {l5 : Int32} {l6 : Int32}, q_HT 0 M → (q_Kd M l0 (11, 0)) → (0 ≤ l1.toInt ∧ l1.toInt ≤ 6) → (0 ≤ l2.toInt ∧ l2.toInt ≤ 6) → (1 ≤ l3.toInt ∧ l3.toInt ≤ 40) → (0 ≤ l6.toInt ∧ l6.toInt ≤ 40) → 40 - l6.toInt < m54 → Ok (k54 (some l0) l1 l2 l3 l4 l5 l6) (q_pi (-2147483648) (2147483647))) (hk102 : ∀ {l0 : Nat} {l1 : Int32} {l2 : Int32} {l3 : Int32} {l4 : Int32} {l5 : Int32} {l6 : Int32} {l8 : Int32} {l9 : Int32}, q_HT 0 M → (q_Kd M l0 (11, 0)) → (0 ≤ l1.toInt ∧ l1.toInt ≤ 6) → (0 ≤ l2.toInt ∧ l2.toInt ≤ 6) → (1 ≤ l3.toInt ∧ l3.toInt ≤ 40) → (0 ≤ l6.toInt ∧ l6.toInt ≤ 39) → (0 ≤ l9.toInt ∧ l9.toInt ≤ 10) → 40 - l6.toInt ≤ m54 → 10 - l9.toInt < m102 → Ok (k102 (some l0) l1 l2 l3 l4 l5 l6 l8 l9) (q_pi (-2147483648) (2147483647))) (H : q_HT 0 M) (K_l0 : q_Kd M l0 (11, 0)) (h_l1 : 0 ≤ l1.toInt ∧ l1.toInt ≤ 6) (h_l2 : 0 ≤ l2.toInt ∧ l2.toInt ≤ 6) (h_l3 : 1 ≤ l3.toInt ∧ l3.toInt ≤ 40) (h_l6 : 0 ≤ l6.toInt ∧ l6.toInt ≤ 39) (h_l9 : 0 ≤ l9.toInt ∧ l9.toInt ≤ 10) (hm54 : 40 - l6.toInt ≤ m54) (hm102 : 10 - l9.toInt ≤ m102) : Ok (F_X11_prompts_b102 k54 k102 M (some l0) l1 l2 l3 l4 l5 l6 l8 l9) (q_pi (-2147483648) (2147483647)) := by
  delta F_X11_prompts_b102
  have z_1 := L_1
  have z_10 := L_10
  refine Ok_i (fun c_1 => ?_) (fun c_1 => ?_)
  · skip
    replace c_1 := i_le c_1
    exact w_pi (S_X11_prompts_b132 hk54 H K_l0 h_l1 h_l2 h_l3 h_l6 (by omega)) (by decide) (by decide)
  · skip
    replace c_1 := i_nle c_1
    refine Ok_i (fun c_2 => ?_) (fun c_2 => ?_)
    · skip
      replace c_2 := i_lt c_2
      exact w_pi (S_X11_prompts_b132 hk54 H K_l0 h_l1 h_l2 h_l3 h_l6 (by omega)) (by decide) (by decide)
    · skip
      replace c_2 := i_nlt c_2
      refine Ok_b (S_X11_prompted H) (fun v1 e_v1 => ?_)
      have a_3 := i_addc (x := l9) (c := 1) z_1 (by omega) (by omega)
      exact w_pi (hk102 H K_l0 h_l1 h_l2 h_l3 h_l6 (by omega) (by omega)) (by decide) (by decide)
theorem S_X11_prompts_L102 {k54 : Option Nat → Int32 → Int32 → Int32 → Int32 → Int32 → Int32 → Option Int32} {m54 : Int} {M : gM} (hk54 : ∀ {l0 : Nat} {l1 : Int32} {l2 : Int32} {l3 : Int32} {l4 : Int32} {l5 : Int32} {l6 : Int32}, q_HT 0 M → (q_Kd M l0 (11, 0)) → (0 ≤ l1.toInt ∧ l1.toInt ≤ 6) → (0 ≤ l2.toInt ∧ l2.toInt ≤ 6) → (1 ≤ l3.toInt ∧ l3.toInt ≤ 40) → (0 ≤ l6.toInt ∧ l6.toInt ≤ 40) → 40 - l6.toInt < m54 → Ok (k54 (some l0) l1 l2 l3 l4 l5 l6) (q_pi (-2147483648) (2147483647))) : ∀ (n : Nat) {l0 : Nat} {l1 : Int32} {l2 : Int32} {l3 : Int32} {l4 : Int32} {l5 : Int32} {l6 : Int32} {l8 : Int32} {l9 : Int32}, q_HT 0 M → (q_Kd M l0 (11, 0)) → (0 ≤ l1.toInt ∧ l1.toInt ≤ 6) → (0 ≤ l2.toInt ∧ l2.toInt ≤ 6) → (1 ≤ l3.toInt ∧ l3.toInt ≤ 40) → (0 ≤ l6.toInt ∧ l6.toInt ≤ 39) → (0 ≤ l9.toInt ∧ l9.toInt ≤ 10) → 40 - l6.toInt ≤ m54 → 10 - l9.toInt < (n : Int) → Ok (F_X11_prompts_L102 k54 M n (some l0) l1 l2 l3 l4 l5 l6 l8 l9) (q_pi (-2147483648) (2147483647)) := by
  intro n
  induction n with
  | zero =>
    intro l0 l1 l2 l3 l4 l5 l6 l8 l9 H K_l0 h_l1 h_l2 h_l3 h_l6 h_l9 hm54 hm
    exfalso
    omega
  | succ n ih =>
    intro l0 l1 l2 l3 l4 l5 l6 l8 l9 H K_l0 h_l1 h_l2 h_l3 h_l6 h_l9 hm54 hm
    exact S_X11_prompts_b102 (m102 := 10 - l9.toInt) hk54 (fun H K_l0 h_l1 h_l2 h_l3 h_l6 h_l9 hm54 hm2 => ih H K_l0 h_l1 h_l2 h_l3 h_l6 h_l9 hm54 (by omega)) H K_l0 h_l1 h_l2 h_l3 h_l6 h_l9 hm54 (Int.le_refl _)
theorem S_X11_prompts_b54 {k54 : Option Nat → Int32 → Int32 → Int32 → Int32 → Int32 → Int32 → Option Int32} {m54 : Int} {l0 : Nat} {l1 : Int32} {l2 : Int32} {l3 : Int32} {l4 : Int32} {l5 : Int32} {l6 : Int32} {M : gM} (hk54 : ∀ {l0 : Nat} {l1 : Int32} {l2 : Int32} {l3 : Int32} {l4 : Int32} {l5 : Int32} {l6 : Int32}, q_HT 0 M → (q_Kd M l0 (11, 0)) → (0 ≤ l1.toInt ∧ l1.toInt ≤ 6) → (0 ≤ l2.toInt ∧ l2.toInt ≤ 6) → (1 ≤ l3.toInt ∧ l3.toInt ≤ 40) → (0 ≤ l6.toInt ∧ l6.toInt ≤ 40) → 40 - l6.toInt < m54 → Ok (k54 (some l0) l1 l2 l3 l4 l5 l6) (q_pi (-2147483648) (2147483647))) (H : q_HT 0 M) (K_l0 : q_Kd M l0 (11, 0)) (h_l1 : 0 ≤ l1.toInt ∧ l1.toInt ≤ 6) (h_l2 : 0 ≤ l2.toInt ∧ l2.toInt ≤ 6) (h_l3 : 1 ≤ l3.toInt ∧ l3.toInt ≤ 40) (h_l6 : 0 ≤ l6.toInt ∧ l6.toInt ≤ 40) (hm54 : 40 - l6.toInt ≤ m54) : Ok (F_X11_prompts_b54 k54 M (some l0) l1 l2 l3 l4 l5 l6) (q_pi (-2147483648) (2147483647)) := by
  delta F_X11_prompts_b54
  have z_0 := L_0
  refine Ok_i (fun c_1 => ?_) (fun c_1 => ?_)
  · skip
    replace c_1 := i_le c_1
    exact r_pi (i_rng _)
  · skip
    replace c_1 := i_nle c_1
    refine d_gR (q := (8, 0)) H K_l0 (by decide) rfl (fun v1 r_v1 K_v1 => ?_)
    refine d_gR (q := (20, 7)) H K_v1 (by decide) rfl (fun v2 r_v2 K_v2 => ?_)
    refine c_aI K_v2 (by omega) (by omega) (fun v3 => ?_)
    refine d_gR (q := (1, 0)) H K_l0 (by decide) rfl (fun v4 r_v4 K_v4 => ?_)
    refine c_gRs K_l0 r_v1 ?_
    refine c_gIt K_v1 (fun v6 q_v6 => ?_)
    refine c_gO K_v4 ?_
    refine Ok_b (S_X1_plainLoss H K_v4 h_l1 h_l2) (fun v8 e_v8 => ?_)
    exact w_pi (S_X11_prompts_L102 hk54 g_fuel H K_l0 h_l1 h_l2 h_l3 (by omega) (by decide) (by omega) (q_fu (by omega))) (by decide) (by decide)
theorem S_X11_prompts_L54 {M : gM} : ∀ (n : Nat) {l0 : Nat} {l1 : Int32} {l2 : Int32} {l3 : Int32} {l4 : Int32} {l5 : Int32} {l6 : Int32}, q_HT 0 M → (q_Kd M l0 (11, 0)) → (0 ≤ l1.toInt ∧ l1.toInt ≤ 6) → (0 ≤ l2.toInt ∧ l2.toInt ≤ 6) → (1 ≤ l3.toInt ∧ l3.toInt ≤ 40) → (0 ≤ l6.toInt ∧ l6.toInt ≤ 40) → 40 - l6.toInt < (n : Int) → Ok (F_X11_prompts_L54 M n (some l0) l1 l2 l3 l4 l5 l6) (q_pi (-2147483648) (2147483647)) := by
  intro n
  induction n with
  | zero =>
    intro l0 l1 l2 l3 l4 l5 l6 H K_l0 h_l1 h_l2 h_l3 h_l6  hm
    exfalso
    omega
  | succ n ih =>
    intro l0 l1 l2 l3 l4 l5 l6 H K_l0 h_l1 h_l2 h_l3 h_l6  hm
    exact S_X11_prompts_b54 (m54 := 40 - l6.toInt) (fun H K_l0 h_l1 h_l2 h_l3 h_l6  hm2 => ih H K_l0 h_l1 h_l2 h_l3 h_l6  (by omega)) H K_l0 h_l1 h_l2 h_l3 h_l6  (Int.le_refl _)
set_option maxHeartbeats 1000000 in
theorem S_X11_prompts_b0 {l0 : Nat} {l1 : Int32} {l2 : Int32} {l3 : Int32} {M : gM} (H : q_HT 0 M) (K_l0 : q_Kd M l0 (11, 0)) : Ok (F_X11_prompts_b0 M (some l0) l1 l2 l3) (q_pi (-2147483648) (2147483647)) := by
  delta F_X11_prompts_b0
  have z_m3 := L_m3
  have z_0 := L_0
  have z_1 := L_1
  have z_7 := L_7
  have z_40 := L_40
  refine c_gO K_l0 ?_
  refine Ok_b (S_X11_isKnown H K_l0) (fun v2 e_v2 => ?_)
  obtain ⟨e_v2, w_v2⟩ := e_v2
  refine Ok_i (fun c_1 => ?_) (fun c_1 => ?_)
  · skip
    replace c_1 := i_eq c_1
    exact w_pi (S_X11_prompts_b20  H) (by decide) (by decide)
  · skip
    replace c_1 := i_ne c_1
    have x_v2 := w_v2 (by omega)
    refine Ok_i (fun c_2 => ?_) (fun c_2 => ?_)
    · skip
      replace c_2 := i_lt c_2
      exact w_pi (S_X11_prompts_b20  H) (by decide) (by decide)
    · skip
      replace c_2 := i_nlt c_2
      refine Ok_i (fun c_3 => ?_) (fun c_3 => ?_)
      · skip
        replace c_3 := i_le c_3
        refine Ok_b (S_X11_ruleInForce H K_l0) (fun v3 e_v3 => ?_)
        rcases e_v3 with w_4 | ⟨v3_p, w_4, KN_v3⟩
        · subst w_4
          refine Ok_t rfl ?_
          refine d_gR (q := (8, 0)) H K_l0 (by decide) rfl (fun v4 r_v4 K_v4 => ?_)
          refine d_gR (q := (20, 49)) H K_v4 (by decide) rfl (fun v5 r_v5 K_v5 => ?_)
          have a_5 := i_mulR (x := l1) (c := (7 : Int32)) z_7 (by omega) (by omega)
          have a_6 := i_add (x := (l1 * (7 : Int32))) (y := l2) (by omega) (by omega)
          refine c_aI K_v5 (by omega) (by omega) (fun v6 => ?_)
          exact w_pi (S_X11_prompts_L54  g_fuel H K_l0 (by omega) (by omega) (by omega) (by decide) (q_fu (by omega))) (by decide) (by decide)
        · subst w_4
          refine Ok_e (by simp) ?_
          exact r_pi (i_rng _)
      · skip
        replace c_3 := i_nle c_3
        exact w_pi (S_X11_prompts_b20  H) (by decide) (by decide)
theorem S_X11_prompts {l0 : Nat} {l1 : Int32} {l2 : Int32} {l3 : Int32} {M : gM} (H : q_HT 0 M) (K_l0 : q_Kd M l0 (11, 0)) : Ok (F_X11_prompts (some l0) l1 l2 l3 M) (q_pi (-2147483648) (2147483647)) := by
  delta F_X11_prompts
  exact w_pi (S_X11_prompts_b0  H K_l0) (by decide) (by decide)
theorem S_X11_cost_b40 {b : Nat → Bool}  {M : gM} (H : q_HT 0 M) : Ok (F_X11_cost_b40 M) (q_PI b M (-2147483648) (2147483647)) := by
  delta F_X11_cost_b40
  have z_0 := L_0
  exact r_PI (i_rng _) H (q_rf _ _)
theorem S_X11_cost_b101 {b : Nat → Bool}  {M : gM} (H : q_HT 0 M) : Ok (F_X11_cost_b101 M) (q_PI b M (-2147483648) (2147483647)) := by
  delta F_X11_cost_b101
  have z_m1000 := L_m1000
  exact r_PI (i_rng _) H (q_rf _ _)
set_option maxHeartbeats 1000000 in
theorem S_X11_cost_b0 {b : Nat → Bool} {l0 : Nat} {l1 : Int32} {M : gM} (H : q_HT 0 M) (K_l0 : q_Kd M l0 (11, 0)) : Ok (F_X11_cost_b0 (some l0) l1 M) (q_PI b M (-2147483648) (2147483647)) := by
  delta F_X11_cost_b0
  have z_m2000 := L_m2000
  have z_m1 := L_m1
  have z_0 := L_0
  have z_1 := L_1
  refine c_gO K_l0 ?_
  refine Ok_b (S_X11_isThing H K_l0) (fun v2 e_v2 => ?_)
  obtain ⟨e_v2, w_v2⟩ := e_v2
  refine Ok_i (fun c_1 => ?_) (fun c_1 => ?_)
  · skip
    replace c_1 := i_eq c_1
    exact r_PI (i_rng _) H (q_rf _ _)
  · skip
    replace c_1 := i_ne c_1
    have x_v2 := w_v2 (by omega)
    refine d_gR (q := (8, 0)) H K_l0 (by decide) rfl (fun v3 r_v3 K_v3 => ?_)
    refine c_gIt K_v3 (fun v4 q_v4 => ?_)
    refine Ok_b (S_X11_bit H) (fun v5 e_v5 => ?_)
    refine Ok_i (fun c_2 => ?_) (fun c_2 => ?_)
    · skip
      replace c_2 := i_eq c_2
      exact w_PI (q_rf _ _) (S_X11_cost_b40 (b := b)  H) (by decide) (by decide)
    · skip
      replace c_2 := i_ne c_2
      refine c_gRs K_l0 r_v3 ?_
      refine d_gR (q := (20, 7)) H K_v3 (by decide) rfl (fun v7 r_v7 K_v7 => ?_)
      refine c_aI K_v7 (by omega) (by omega) (fun v8 => ?_)
      refine Ok_i (fun c_3 => ?_) (fun c_3 => ?_)
      · skip
        replace c_3 := i_eq c_3
        refine d_gR (q := (8, 0)) H K_l0 (by decide) rfl (fun v9 r_v9 K_v9 => ?_)
        refine c_gRs K_l0 r_v3 ?_
        refine c_gO K_v9 ?_
        refine Ok_b (S_X8_copy (b := b) H K_v9 K_v3) (fun M12 zM12 => ?_)
        obtain ⟨HM12, fM12⟩ := zM12
        have K_4 := (q_mo K_l0 (by decide) fM12)
        refine c_gC K_4 ?_
        refine Ok_b (S_X11_strikeLater (b := b) HM12 K_4 (by omega)) (fun yM15 zM15 => ?_)
        obtain ⟨v14, M15⟩ := yM15
        obtain ⟨e_v14, HM15, fM15⟩ := zM15
        try dsimp only at e_v14 HM15 fM15
        have g_5 := q_tr fM12 fM15
        have K_6 := (q_mo K_4 (by decide) fM15)
        refine d_gR (q := (8, 0)) HM15 K_6 (by decide) rfl (fun v16 r_v16 K_v16 => ?_)
        refine d_gR (q := (8, 0)) HM15 K_6 (by decide) rfl (fun v17 r_v17 K_v17 => ?_)
        refine c_gO K_v16 ?_
        refine Ok_b (S_X8_copy (b := b) HM15 K_v16 K_v17) (fun M19 zM19 => ?_)
        obtain ⟨HM19, fM19⟩ := zM19
        have g_7 := q_tr g_5 fM19
        have K_8 := (q_mo K_6 (by decide) fM19)
        refine d_gR (q := (8, 0)) HM19 K_8 (by decide) rfl (fun v20 r_v20 K_v20 => ?_)
        refine c_gIt K_v20 (fun v21 q_v21 => ?_)
        refine c_pI (b := b) (lo := -2147483648) (hi := 2147483647) HM19 K_v20 (by decide) rfl (i_rng _) rfl (fun M22 HM22 fM22 q_M22 o_M22 rr_M22 => ?_)
        have r_9 := (congrFun (congrFun rr_M22 _) 6).trans r_v20
        have g_10 := q_tr g_7 fM22
        have K_11 := (q_mo K_8 (by decide) fM22)
        refine c_gC K_11 ?_
        refine Ok_b (S_X11_strikeLater (b := b) HM22 K_11 (by omega)) (fun yM25 zM25 => ?_)
        obtain ⟨v24, M25⟩ := yM25
        obtain ⟨e_v24, HM25, fM25⟩ := zM25
        try dsimp only at e_v24 HM25 fM25
        have g_12 := q_tr g_10 fM25
        refine Ok_i (fun c_13 => ?_) (fun c_13 => ?_)
        · skip
          replace c_13 := i_eq c_13
          exact w_PI g_12 (S_X11_cost_b101 (b := b)  HM25) (by decide) (by decide)
        · skip
          replace c_13 := i_ne c_13
          refine Ok_i (fun c_14 => ?_) (fun c_14 => ?_)
          · skip
            replace c_14 := i_eq c_14
            exact w_PI g_12 (S_X11_cost_b101 (b := b)  HM25) (by decide) (by decide)
          · skip
            replace c_14 := i_ne c_14
            exact r_PI (i_rng _) HM25 g_12
      · skip
        replace c_3 := i_ne c_3
        exact w_PI (q_rf _ _) (S_X11_cost_b40 (b := b)  H) (by decide) (by decide)
theorem S_X11_cost {b : Nat → Bool} {l0 : Nat} {l1 : Int32} {M : gM} (H : q_HT 0 M) (K_l0 : q_Kd M l0 (11, 0)) : Ok (F_X11_cost (some l0) l1 M) (q_PI b M (-2147483648) (2147483647)) := by
  delta F_X11_cost
  exact w_PI (q_rf _ _) (S_X11_cost_b0 (b := b)  H K_l0) (by decide) (by decide)
theorem S_X11_drinkLater_b72 {k2 : Option Nat → Int32 → gM → Option gM} {m2 : Int} {l0 : Nat} {l1 : Int32} {M : gM} (hk2 : ∀ {l0 : Nat} {l1 : Int32} {M : gM}, q_HT 0 M → (q_Kd M l0 (11, 0)) → (0 ≤ l1.toInt ∧ l1.toInt ≤ 7) → 7 - l1.toInt < m2 → Ok (k2 (some l0) l1 M) (q_PV q_bn M)) (H : q_HT 0 M) (K_l0 : q_Kd M l0 (11, 0)) (h_l1 : 0 ≤ l1.toInt ∧ l1.toInt ≤ 6) (hm2 : 7 - l1.toInt ≤ m2) : Ok (F_X11_drinkLater_b72 k2 (some l0) l1 M) (q_PV q_bn M) := by
  delta F_X11_drinkLater_b72
  have z_1 := L_1
  have a_1 := i_addc (x := l1) (c := 1) z_1 (by omega) (by omega)
  exact w_PV (q_rf _ _) (hk2 H K_l0 (by omega) (by omega))
theorem S_X11_drinkLater_b37 {k2 : Option Nat → Int32 → gM → Option gM} {m2 : Int} {l0 : Nat} {l1 : Int32} {s0 : Int32} {M : gM} (hk2 : ∀ {l0 : Nat} {l1 : Int32} {M : gM}, q_HT 0 M → (q_Kd M l0 (11, 0)) → (0 ≤ l1.toInt ∧ l1.toInt ≤ 7) → 7 - l1.toInt < m2 → Ok (k2 (some l0) l1 M) (q_PV q_bn M)) (H : q_HT 0 M) (K_l0 : q_Kd M l0 (11, 0)) (h_l1 : 0 ≤ l1.toInt ∧ l1.toInt ≤ 6) (h_s0 : 0 ≤ s0.toInt ∧ s0.toInt ≤ 1) (hm2 : 7 - l1.toInt ≤ m2) : Ok (F_X11_drinkLater_b37 k2 (some l0) l1 s0 M) (q_PV q_bn M) := by
  delta F_X11_drinkLater_b37
  sorry
set_option maxHeartbeats 1000000 in
theorem S_X11_drinkLater_b2 {k2 : Option Nat → Int32 → gM → Option gM} {m2 : Int} {l0 : Nat} {l1 : Int32} {M : gM} (hk2 : ∀ {l0 : Nat} {l1 : Int32} {M : gM}, q_HT 0 M → (q_Kd M l0 (11, 0)) → (0 ≤ l1.toInt ∧ l1.toInt ≤ 7) → 7 - l1.toInt < m2 → Ok (k2 (some l0) l1 M) (q_PV q_bn M)) (H : q_HT 0 M) (K_l0 : q_Kd M l0 (11, 0)) (h_l1 : 0 ≤ l1.toInt ∧ l1.toInt ≤ 7) (hm2 : 7 - l1.toInt ≤ m2) : Ok (F_X11_drinkLater_b2 k2 (some l0) l1 M) (q_PV q_bn M) := by
  delta F_X11_drinkLater_b2
  have z_100 := L_100
  refine d_gR (q := (1, 0)) H K_l0 (by decide) rfl (fun v1 r_v1 K_v1 => ?_)
  refine d_gI (lo := 0) (hi := 7) H K_v1 (by decide) rfl (fun v2 q_v2 e_v2 => ?_)
  refine Ok_i (fun c_1 => ?_) (fun c_1 => ?_)
  · skip
    replace c_1 := i_le c_1
    exact r_PV H (q_rf _ _)
  · skip
    replace c_1 := i_nle c_1
    refine c_gO K_l0 ?_
    refine Ok_b (S_X11_draw H K_l0) (fun yM5 zM5 => ?_)
    obtain ⟨v4, M5⟩ := yM5
    obtain ⟨e_v4, HM5, fM5⟩ := zM5
    try dsimp only at e_v4 HM5 fM5
    have K_2 := (q_mo K_l0 (by decide) fM5)
    refine d_gR (q := (1, 0)) HM5 K_2 (by decide) rfl (fun v6 r_v6 K_v6 => ?_)
    refine d_gR (q := (20, 7)) HM5 K_v6 (by decide) rfl (fun v7 r_v7 K_v7 => ?_)
    refine c_aI K_v7 (by omega) (by omega) (fun v8 => ?_)
    have a_3 := i_mod (x := v4) (c := (100 : Int32)) (n := 100) z_100 (by decide) (by omega)
    refine Ok_i (fun c_4 => ?_) (fun c_4 => ?_)
    · skip
      replace c_4 := i_le c_4
      exact w_PV fM5 (S_X11_drinkLater_b37 hk2 HM5 K_2 (by omega) (by decide) (by omega))
    · skip
      replace c_4 := i_nle c_4
      exact w_PV fM5 (S_X11_drinkLater_b37 hk2 HM5 K_2 (by omega) (by decide) (by omega))
theorem S_X11_drinkLater_L2 : ∀ (n : Nat) {l0 : Nat} {l1 : Int32} {M : gM}, q_HT 0 M → (q_Kd M l0 (11, 0)) → (0 ≤ l1.toInt ∧ l1.toInt ≤ 7) → 7 - l1.toInt < (n : Int) → Ok (F_X11_drinkLater_L2 n (some l0) l1 M) (q_PV q_bn M) := by
  intro n
  induction n with
  | zero =>
    intro l0 l1 M H K_l0 h_l1  hm
    exfalso
    omega
  | succ n ih =>
    intro l0 l1 M H K_l0 h_l1  hm
    exact S_X11_drinkLater_b2 (m2 := 7 - l1.toInt) (fun H K_l0 h_l1  hm2 => ih H K_l0 h_l1  (by omega)) H K_l0 h_l1  (Int.le_refl _)
theorem S_X11_drinkLater_b0 {l0 : Nat} {M : gM} (H : q_HT 0 M) (K_l0 : q_Kd M l0 (11, 0)) : Ok (F_X11_drinkLater_b0 (some l0) M) (q_PV q_bn M) := by
  delta F_X11_drinkLater_b0
  have z_0 := L_0
  exact w_PV (q_rf _ _) (S_X11_drinkLater_L2  g_fuel H K_l0 (by decide) (q_fu (by omega)))
theorem S_X11_drinkLater {l0 : Nat} {M : gM} (H : q_HT 0 M) (K_l0 : q_Kd M l0 (11, 0)) : Ok (F_X11_drinkLater (some l0) M) (q_PV q_bn M) := by
  delta F_X11_drinkLater
  exact w_PV (q_rf _ _) (S_X11_drinkLater_b0  H K_l0)
theorem S_X11_drawn_b41  {M : gM} (H : q_HT 0 M) : Ok (F_X11_drawn_b41 M) (q_PI q_bn M (-2147483648) (2147483647)) := by
  delta F_X11_drawn_b41
  have z_m1 := L_m1
  exact r_PI (i_rng _) H (q_rf _ _)
theorem S_X11_drawn_b145 {k55 : Option Nat → Int32 → Int32 → Int32 → Int32 → Int32 → Int32 → gM → Option (Int32 × gM)} {m55 : Int} {l0 : Nat} {l1 : Int32} {l2 : Int32} {l3 : Int32} {l4 : Int32} {l6 : Int32} {s0 : Int32} {s1 : Int32} {M : gM} (hk55 : ∀ {l0 : Nat} {l1 : Int32} {l2 : Int32} {l3 : Int32} {l4 : Int32} {l5 : Int32} {l6 : Int32} {M : gM}, q_HT 0 M → (q_Kd M l0 (11, 0)) → (1 ≤ l1.toInt ∧ l1.toInt ≤ 10) → (1 ≤ l2.toInt ∧ l2.toInt ≤ 60) → (0 ≤ l3.toInt ∧ l3.toInt ≤ 1) → (0 ≤ l4.toInt ∧ l4.toInt ≤ 2147483647) → (0 ≤ l6.toInt ∧ l6.toInt ≤ 11) → 11 - l6.toInt < m55 → Ok (k55 (some l0) l1 l2 l3 l4 l5 l6 M) (q_PI q_bn M (-2147483648) (2147483647))) (H : q_HT 0 M) (K_l0 : q_Kd M l0 (11, 0)) (h_l1 : 1 ≤ l1.toInt ∧ l1.toInt ≤ 10) (h_l2 : 1 ≤ l2.toInt ∧ l2.toInt ≤ 60) (h_l3 : 0 ≤ l3.toInt ∧ l3.toInt ≤ 1) (h_l4 : 0 ≤ l4.toInt ∧ l4.toInt ≤ 2147483647) (h_l6 : 0 ≤ l6.toInt ∧ l6.toInt ≤ 10) (hm55 : 11 - l6.toInt ≤ m55) : Ok (F_X11_drawn_b145 k55 (some l0) l1 l2 l3 l4 l6 s0 s1 M) (q_PI q_bn M (-2147483648) (2147483647)) := by
  delta F_X11_drawn_b145
  have z_1 := L_1
  have a_1 := i_addc (x := l6) (c := 1) z_1 (by omega) (by omega)
  exact w_PI (q_rf _ _) (hk55 H K_l0 h_l1 h_l2 h_l3 h_l4 (by omega) (by omega)) (by decide) (by decide)
set_option maxHeartbeats 1000000 in
theorem S_X11_drawn_b75 {k55 : Option Nat → Int32 → Int32 → Int32 → Int32 → Int32 → Int32 → gM → Option (Int32 × gM)} {m55 : Int} {k75 : Option Nat → Int32 → Int32 → Int32 → Int32 → Int32 → Int32 → Int32 → gM → Option (Int32 × gM)} {m75 : Int} {l0 : Nat} {l1 : Int32} {l2 : Int32} {l3 : Int32} {l4 : Int32} {l5 : Int32} {l6 : Int32} {l7 : Int32} {M : gM} (hk55 : ∀ {l0 : Nat} {l1 : Int32} {l2 : Int32} {l3 : Int32} {l4 : Int32} {l5 : Int32} {l6 : Int32} {M : gM}, q_HT 0 M → (q_Kd M l0 (11, 0)) → (1 ≤ l1.toInt ∧ l1.toInt ≤ 10) → (1 ≤ l2.toInt ∧ l2.toInt ≤ 60) → (0 ≤ l3.toInt ∧ l3.toInt ≤ 1) → (0 ≤ l4.toInt ∧ l4.toInt ≤ 2147483647) → (0 ≤ l6.toInt ∧ l6.toInt ≤ 11) → 11 - l6.toInt < m55 → Ok (k55 (some l0) l1 l2 l3 l4 l5 l6 M) (q_PI q_bn M (-2147483648) (2147483647))) (hk75 : ∀ {l0 : Nat} {l1 : Int32} {l2 : Int32} {l3 : Int32} {l4 : Int32} {l5 : Int32} {l6 : Int32} {l7 : Int32} {M : gM}, q_HT 0 M → (q_Kd M l0 (11, 0)) → (1 ≤ l1.toInt ∧ l1.toInt ≤ 10) → (1 ≤ l2.toInt ∧ l2.toInt ≤ 60) → (0 ≤ l3.toInt ∧ l3.toInt ≤ 1) → (0 ≤ l4.toInt ∧ l4.toInt ≤ 2147483647) → (0 ≤ l6.toInt ∧ l6.toInt ≤ 10) → (0 ≤ l7.toInt ∧ l7.toInt ≤ 60) → 11 - l6.toInt ≤ m55 → 60 - l7.toInt < m75 → Ok (k75 (some l0) l1 l2 l3 l4 l5 l6 l7 M) (q_PI q_bn M (-2147483648) (2147483647))) (H : q_HT 0 M) (K_l0 : q_Kd M l0 (11, 0)) (h_l1 : 1 ≤ l1.toInt ∧ l1.toInt ≤ 10) (h_l2 : 1 ≤ l2.toInt ∧ l2.toInt ≤ 60) (h_l3 : 0 ≤ l3.toInt ∧ l3.toInt ≤ 1) (h_l4 : 0 ≤ l4.toInt ∧ l4.toInt ≤ 2147483647) (h_l6 : 0 ≤ l6.toInt ∧ l6.toInt ≤ 10) (h_l7 : 0 ≤ l7.toInt ∧ l7.toInt ≤ 60) (hm55 : 11 - l6.toInt ≤ m55) (hm75 : 60 - l7.toInt ≤ m75) : Ok (F_X11_drawn_b75 k55 k75 (some l0) l1 l2 l3 l4 l5 l6 l7 M) (q_PI q_bn M (-2147483648) (2147483647)) := by
  delta F_X11_drawn_b75
  have z_0 := L_0
  have z_1 := L_1
  refine Ok_i (fun c_1 => ?_) (fun c_1 => ?_)
  · skip
    replace c_1 := i_le c_1
    refine Ok_i (fun c_2 => ?_) (fun c_2 => ?_)
    · skip
      replace c_2 := i_eq c_2
      refine d_gR (q := (8, 0)) H K_l0 (by decide) rfl (fun v5 r_v5 K_v5 => ?_)
      refine d_gR (q := (1, 0)) H K_l0 (by decide) rfl (fun v6 r_v6 K_v6 => ?_)
      refine c_gO K_v5 ?_
      refine Ok_b (S_X8_standing H K_v5 K_v6) (fun v8 e_v8 => ?_)
      refine Ok_b (S_J6_bitCount_0f7a4 H) (fun v9 e_v9 => ?_)
      exact w_PI (q_rf _ _) (S_X11_drawn_b145 hk55 H K_l0 h_l1 h_l2 h_l3 h_l4 h_l6 (by omega)) (by decide) (by decide)
    · skip
      replace c_2 := i_ne c_2
      refine d_gR (q := (8, 0)) H K_l0 (by decide) rfl (fun v1 r_v1 K_v1 => ?_)
      refine d_gR (q := (1, 0)) H K_l0 (by decide) rfl (fun v2 r_v2 K_v2 => ?_)
      refine c_gO K_v1 ?_
      refine Ok_b (S_X8_heldTogether H K_v1 K_v2) (fun v4 e_v4 => ?_)
      exact w_PI (q_rf _ _) (S_X11_drawn_b145 hk55 H K_l0 h_l1 h_l2 h_l3 h_l4 h_l6 (by omega)) (by decide) (by decide)
  · skip
    replace c_1 := i_nle c_1
    refine c_gO K_l0 ?_
    refine Ok_b (S_X11_drinkLater H K_l0) (fun M11 zM11 => ?_)
    obtain ⟨HM11, fM11⟩ := zM11
    have K_3 := (q_mo K_l0 (by decide) fM11)
    refine d_gR (q := (10, 0)) HM11 K_3 (by decide) rfl (fun v12 r_v12 K_v12 => ?_)
    refine d_gR (q := (1, 0)) HM11 K_3 (by decide) rfl (fun v13 r_v13 K_v13 => ?_)
    refine d_gR (q := (8, 0)) HM11 K_3 (by decide) rfl (fun v14 r_v14 K_v14 => ?_)
    refine c_gC K_3 ?_
    refine Ok_b (S_X11_ruleInForce HM11 K_3) (fun v16 e_v16 => ?_)
    refine c_gO K_v12 ?_
    refine Ok_b (S_X10_pass (b := q_bn) HM11 K_v12 K_v13 K_v14 e_v16) (fun yM19 zM19 => ?_)
    obtain ⟨v18, M19⟩ := yM19
    obtain ⟨e_v18, HM19, fM19⟩ := zM19
    try dsimp only at e_v18 HM19 fM19
    have g_4 := q_tr fM11 fM19
    have K_5 := (q_mo K_3 (by decide) fM19)
    have a_6 := i_addc (x := l7) (c := 1) z_1 (by omega) (by omega)
    exact w_PI g_4 (hk75 HM19 K_5 h_l1 h_l2 h_l3 h_l4 h_l6 (by omega) (by omega)) (by decide) (by decide)
theorem S_X11_drawn_L75 {k55 : Option Nat → Int32 → Int32 → Int32 → Int32 → Int32 → Int32 → gM → Option (Int32 × gM)} {m55 : Int} (hk55 : ∀ {l0 : Nat} {l1 : Int32} {l2 : Int32} {l3 : Int32} {l4 : Int32} {l5 : Int32} {l6 : Int32} {M : gM}, q_HT 0 M → (q_Kd M l0 (11, 0)) → (1 ≤ l1.toInt ∧ l1.toInt ≤ 10) → (1 ≤ l2.toInt ∧ l2.toInt ≤ 60) → (0 ≤ l3.toInt ∧ l3.toInt ≤ 1) → (0 ≤ l4.toInt ∧ l4.toInt ≤ 2147483647) → (0 ≤ l6.toInt ∧ l6.toInt ≤ 11) → 11 - l6.toInt < m55 → Ok (k55 (some l0) l1 l2 l3 l4 l5 l6 M) (q_PI q_bn M (-2147483648) (2147483647))) : ∀ (n : Nat) {l0 : Nat} {l1 : Int32} {l2 : Int32} {l3 : Int32} {l4 : Int32} {l5 : Int32} {l6 : Int32} {l7 : Int32} {M : gM}, q_HT 0 M → (q_Kd M l0 (11, 0)) → (1 ≤ l1.toInt ∧ l1.toInt ≤ 10) → (1 ≤ l2.toInt ∧ l2.toInt ≤ 60) → (0 ≤ l3.toInt ∧ l3.toInt ≤ 1) → (0 ≤ l4.toInt ∧ l4.toInt ≤ 2147483647) → (0 ≤ l6.toInt ∧ l6.toInt ≤ 10) → (0 ≤ l7.toInt ∧ l7.toInt ≤ 60) → 11 - l6.toInt ≤ m55 → 60 - l7.toInt < (n : Int) → Ok (F_X11_drawn_L75 k55 n (some l0) l1 l2 l3 l4 l5 l6 l7 M) (q_PI q_bn M (-2147483648) (2147483647)) := by
  intro n
  induction n with
  | zero =>
    intro l0 l1 l2 l3 l4 l5 l6 l7 M H K_l0 h_l1 h_l2 h_l3 h_l4 h_l6 h_l7 hm55 hm
    exfalso
    omega
  | succ n ih =>
    intro l0 l1 l2 l3 l4 l5 l6 l7 M H K_l0 h_l1 h_l2 h_l3 h_l4 h_l6 h_l7 hm55 hm
    exact S_X11_drawn_b75 (m75 := 60 - l7.toInt) hk55 (fun H K_l0 h_l1 h_l2 h_l3 h_l4 h_l6 h_l7 hm55 hm2 => ih H K_l0 h_l1 h_l2 h_l3 h_l4 h_l6 h_l7 hm55 (by omega)) H K_l0 h_l1 h_l2 h_l3 h_l4 h_l6 h_l7 hm55 (Int.le_refl _)
theorem S_X11_drawn_b55 {k55 : Option Nat → Int32 → Int32 → Int32 → Int32 → Int32 → Int32 → gM → Option (Int32 × gM)} {m55 : Int} {l0 : Nat} {l1 : Int32} {l2 : Int32} {l3 : Int32} {l4 : Int32} {l5 : Int32} {l6 : Int32} {M : gM} (hk55 : ∀ {l0 : Nat} {l1 : Int32} {l2 : Int32} {l3 : Int32} {l4 : Int32} {l5 : Int32} {l6 : Int32} {M : gM}, q_HT 0 M → (q_Kd M l0 (11, 0)) → (1 ≤ l1.toInt ∧ l1.toInt ≤ 10) → (1 ≤ l2.toInt ∧ l2.toInt ≤ 60) → (0 ≤ l3.toInt ∧ l3.toInt ≤ 1) → (0 ≤ l4.toInt ∧ l4.toInt ≤ 2147483647) → (0 ≤ l6.toInt ∧ l6.toInt ≤ 11) → 11 - l6.toInt < m55 → Ok (k55 (some l0) l1 l2 l3 l4 l5 l6 M) (q_PI q_bn M (-2147483648) (2147483647))) (H : q_HT 0 M) (K_l0 : q_Kd M l0 (11, 0)) (h_l1 : 1 ≤ l1.toInt ∧ l1.toInt ≤ 10) (h_l2 : 1 ≤ l2.toInt ∧ l2.toInt ≤ 60) (h_l3 : 0 ≤ l3.toInt ∧ l3.toInt ≤ 1) (h_l4 : 0 ≤ l4.toInt ∧ l4.toInt ≤ 2147483647) (h_l6 : 0 ≤ l6.toInt ∧ l6.toInt ≤ 11) (hm55 : 11 - l6.toInt ≤ m55) : Ok (F_X11_drawn_b55 k55 (some l0) l1 l2 l3 l4 l5 l6 M) (q_PI q_bn M (-2147483648) (2147483647)) := by
  delta F_X11_drawn_b55
  have z_0 := L_0
  refine Ok_i (fun c_1 => ?_) (fun c_1 => ?_)
  · skip
    replace c_1 := i_le c_1
    refine c_pI (b := q_bn) (lo := 0) (hi := 2147483647) H K_l0 (by decide) rfl (by omega) rfl (fun M1 HM1 fM1 q_M1 o_M1 rr_M1 => ?_)
    exact r_PI (i_rng _) HM1 fM1
  · skip
    replace c_1 := i_nle c_1
    refine d_gR (q := (8, 0)) H K_l0 (by decide) rfl (fun v2 r_v2 K_v2 => ?_)
    refine d_gR (q := (8, 0)) H K_l0 (by decide) rfl (fun v3 r_v3 K_v3 => ?_)
    refine c_gO K_v2 ?_
    refine Ok_b (S_X8_copy (b := q_bn) H K_v2 K_v3) (fun M5 zM5 => ?_)
    obtain ⟨HM5, fM5⟩ := zM5
    have K_2 := (q_mo K_l0 (by decide) fM5)
    exact w_PI fM5 (S_X11_drawn_L75 hk55 g_fuel HM5 K_2 h_l1 h_l2 h_l3 h_l4 (by omega) (by decide) (by omega) (q_fu (by omega))) (by decide) (by decide)
theorem S_X11_drawn_L55 : ∀ (n : Nat) {l0 : Nat} {l1 : Int32} {l2 : Int32} {l3 : Int32} {l4 : Int32} {l5 : Int32} {l6 : Int32} {M : gM}, q_HT 0 M → (q_Kd M l0 (11, 0)) → (1 ≤ l1.toInt ∧ l1.toInt ≤ 10) → (1 ≤ l2.toInt ∧ l2.toInt ≤ 60) → (0 ≤ l3.toInt ∧ l3.toInt ≤ 1) → (0 ≤ l4.toInt ∧ l4.toInt ≤ 2147483647) → (0 ≤ l6.toInt ∧ l6.toInt ≤ 11) → 11 - l6.toInt < (n : Int) → Ok (F_X11_drawn_L55 n (some l0) l1 l2 l3 l4 l5 l6 M) (q_PI q_bn M (-2147483648) (2147483647)) := by
  intro n
  induction n with
  | zero =>
    intro l0 l1 l2 l3 l4 l5 l6 M H K_l0 h_l1 h_l2 h_l3 h_l4 h_l6  hm
    exfalso
    omega
  | succ n ih =>
    intro l0 l1 l2 l3 l4 l5 l6 M H K_l0 h_l1 h_l2 h_l3 h_l4 h_l6  hm
    exact S_X11_drawn_b55 (m55 := 11 - l6.toInt) (fun H K_l0 h_l1 h_l2 h_l3 h_l4 h_l6  hm2 => ih H K_l0 h_l1 h_l2 h_l3 h_l4 h_l6  (by omega)) H K_l0 h_l1 h_l2 h_l3 h_l4 h_l6  (Int.le_refl _)
set_option maxHeartbeats 1000000 in
theorem S_X11_drawn_b0 {l0 : Nat} {l1 : Int32} {l2 : Int32} {l3 : Int32} {M : gM} (H : q_HT 0 M) (K_l0 : q_Kd M l0 (11, 0)) : Ok (F_X11_drawn_b0 (some l0) l1 l2 l3 M) (q_PI q_bn M (-2147483648) (2147483647)) := by
  delta F_X11_drawn_b0
  have z_0 := L_0
  have z_1 := L_1
  have z_10 := L_10
  have z_60 := L_60
  refine Ok_i (fun c_1 => ?_) (fun c_1 => ?_)
  · skip
    replace c_1 := i_lt c_1
    exact w_PI (q_rf _ _) (S_X11_drawn_b41  H) (by decide) (by decide)
  · skip
    replace c_1 := i_nlt c_1
    refine Ok_i (fun c_2 => ?_) (fun c_2 => ?_)
    · skip
      replace c_2 := i_lt c_2
      exact w_PI (q_rf _ _) (S_X11_drawn_b41  H) (by decide) (by decide)
    · skip
      replace c_2 := i_nlt c_2
      refine Ok_i (fun c_3 => ?_) (fun c_3 => ?_)
      · skip
        replace c_3 := i_lt c_3
        exact w_PI (q_rf _ _) (S_X11_drawn_b41  H) (by decide) (by decide)
      · skip
        replace c_3 := i_nlt c_3
        refine Ok_i (fun c_4 => ?_) (fun c_4 => ?_)
        · skip
          replace c_4 := i_lt c_4
          exact w_PI (q_rf _ _) (S_X11_drawn_b41  H) (by decide) (by decide)
        · skip
          replace c_4 := i_nlt c_4
          refine Ok_i (fun c_5 => ?_) (fun c_5 => ?_)
          · skip
            replace c_5 := i_lt c_5
            exact w_PI (q_rf _ _) (S_X11_drawn_b41  H) (by decide) (by decide)
          · skip
            replace c_5 := i_nlt c_5
            refine Ok_i (fun c_6 => ?_) (fun c_6 => ?_)
            · skip
              replace c_6 := i_lt c_6
              exact w_PI (q_rf _ _) (S_X11_drawn_b41  H) (by decide) (by decide)
            · skip
              replace c_6 := i_nlt c_6
              refine d_gR (q := (1, 0)) H K_l0 (by decide) rfl (fun v1 r_v1 K_v1 => ?_)
              refine d_gI (lo := 0) (hi := 1) H K_v1 (by decide) rfl (fun v2 q_v2 e_v2 => ?_)
              refine Ok_i (fun c_7 => ?_) (fun c_7 => ?_)
              · skip
                replace c_7 := i_eq c_7
                exact w_PI (q_rf _ _) (S_X11_drawn_b41  H) (by decide) (by decide)
              · skip
                replace c_7 := i_ne c_7
                refine d_gI (lo := 0) (hi := 2147483647) H K_l0 (by decide) rfl (fun v3 q_v3 e_v3 => ?_)
                exact w_PI (q_rf _ _) (S_X11_drawn_L55  g_fuel H K_l0 (by omega) (by omega) (by omega) e_v3 (by decide) (q_fu (by omega))) (by decide) (by decide)
