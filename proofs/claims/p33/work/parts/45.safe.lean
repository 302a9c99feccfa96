theorem S_X11_fillUnlike_L20 {b : Nat → Bool} {k4 : Option Nat → Int32 → Int32 → Int32 → gM → Option (Int32 × gM)} {m4 : Int} (hk4 : ∀ {l0 : Nat} {l1 : Int32} {l2 : Int32} {l3 : Int32} {M : gM}, q_HT 0 M → (q_Kd M l0 (11, 0)) → (0 ≤ l1.toInt ∧ l1.toInt ≤ 127) → (0 ≤ l2.toInt ∧ l2.toInt ≤ 21) → (0 ≤ l3.toInt ∧ l3.toInt ≤ 7) → 7 - l3.toInt < m4 → Ok (k4 (some l0) l1 l2 l3 M) (q_PI b M (0) (21))) : ∀ (n : Nat) {l0 : Nat} {l1 : Int32} {l2 : Int32} {l3 : Int32} {l4 : Int32} {M : gM}, q_HT 0 M → (q_Kd M l0 (11, 0)) → (0 ≤ l1.toInt ∧ l1.toInt ≤ 127) → (0 ≤ l2.toInt ∧ l2.toInt ≤ 21) → (0 ≤ l3.toInt ∧ l3.toInt ≤ 6) → (1 ≤ l4.toInt ∧ l4.toInt ≤ 7) → 7 - l3.toInt ≤ m4 → 7 - l4.toInt < (n : Int) → Ok (F_X11_fillUnlike_L20 k4 n (some l0) l1 l2 l3 l4 M) (q_PI b M (0) (21)) := by
  intro n
  induction n with
  | zero =>
    intro l0 l1 l2 l3 l4 M H K_l0 h_l1 h_l2 h_l3 h_l4 hm4 hm
    exfalso
    omega
  | succ n ih =>
    intro l0 l1 l2 l3 l4 M H K_l0 h_l1 h_l2 h_l3 h_l4 hm4 hm
    exact S_X11_fillUnlike_b20 (b := b) (m20 := 7 - l4.toInt) hk4 (fun H K_l0 h_l1 h_l2 h_l3 h_l4 hm4 hmz => ih H K_l0 h_l1 h_l2 h_l3 h_l4 hm4 (by omega)) H K_l0 h_l1 h_l2 h_l3 h_l4 hm4 (Int.le_refl _)
theorem S_X11_fillUnlike_b4 {b : Nat → Bool} {k4 : Option Nat → Int32 → Int32 → Int32 → gM → Option (Int32 × gM)} {m4 : Int} {l0 : Nat} {l1 : Int32} {l2 : Int32} {l3 : Int32} {M : gM} (hk4 : ∀ {l0 : Nat} {l1 : Int32} {l2 : Int32} {l3 : Int32} {M : gM}, q_HT 0 M → (q_Kd M l0 (11, 0)) → (0 ≤ l1.toInt ∧ l1.toInt ≤ 127) → (0 ≤ l2.toInt ∧ l2.toInt ≤ 21) → (0 ≤ l3.toInt ∧ l3.toInt ≤ 7) → 7 - l3.toInt < m4 → Ok (k4 (some l0) l1 l2 l3 M) (q_PI b M (0) (21))) (H : q_HT 0 M) (K_l0 : q_Kd M l0 (11, 0)) (h_l1 : 0 ≤ l1.toInt ∧ l1.toInt ≤ 127) (h_l2 : 0 ≤ l2.toInt ∧ l2.toInt ≤ 21) (h_l3 : 0 ≤ l3.toInt ∧ l3.toInt ≤ 7) (hm4 : 7 - l3.toInt ≤ m4) : Ok (F_X11_fillUnlike_b4 k4 (some l0) l1 l2 l3 M) (q_PI b M (0) (21)) := by
  delta F_X11_fillUnlike_b4
  refine d_gR (q := (1, 0)) H K_l0 (by decide) rfl (fun v1 r_v1 K_v1 => ?_)
  refine d_gI (lo := 0) (hi := 7) H K_v1 (by decide) rfl (fun v2 q_v2 e_v2 => ?_)
  refine Ok_i (fun c_1 => ?_) (fun c_1 => ?_)
  · skip
    replace c_1 := i_le c_1
    exact r_PI (by omega) H (q_rf _ _)
  · skip
    replace c_1 := i_nle c_1
    have a_2 := i_addc (x := l3) (c := (1 : Int32)) L_1 (by omega) (by omega)
    exact w_PI (q_rf _ _) (S_X11_fillUnlike_L20 (b := b) hk4 g_fuel H K_l0 h_l1 h_l2 (by omega) (by omega) (by omega) (q_fu (by omega))) (by decide) (by decide)
theorem S_X11_fillUnlike_L4 {b : Nat → Bool} : ∀ (n : Nat) {l0 : Nat} {l1 : Int32} {l2 : Int32} {l3 : Int32} {M : gM}, q_HT 0 M → (q_Kd M l0 (11, 0)) → (0 ≤ l1.toInt ∧ l1.toInt ≤ 127) → (0 ≤ l2.toInt ∧ l2.toInt ≤ 21) → (0 ≤ l3.toInt ∧ l3.toInt ≤ 7) → 7 - l3.toInt < (n : Int) → Ok (F_X11_fillUnlike_L4 n (some l0) l1 l2 l3 M) (q_PI b M (0) (21)) := by
  intro n
  induction n with
  | zero =>
    intro l0 l1 l2 l3 M H K_l0 h_l1 h_l2 h_l3  hm
    exfalso
    omega
  | succ n ih =>
    intro l0 l1 l2 l3 M H K_l0 h_l1 h_l2 h_l3  hm
    exact S_X11_fillUnlike_b4 (b := b) (m4 := 7 - l3.toInt) (fun H K_l0 h_l1 h_l2 h_l3  hmz => ih H K_l0 h_l1 h_l2 h_l3  (by omega)) H K_l0 h_l1 h_l2 h_l3  (Int.le_refl _)
theorem S_X11_fillUnlike_b0 {b : Nat → Bool} {l0 : Nat} {l1 : Int32} {M : gM} (H : q_HT 0 M) (K_l0 : q_Kd M l0 (11, 0)) (h_l1 : 0 ≤ l1.toInt ∧ l1.toInt ≤ 127) : Ok (F_X11_fillUnlike_b0 (some l0) l1 M) (q_PI b M (0) (21)) := by
  delta F_X11_fillUnlike_b0
  exact w_PI (q_rf _ _) (S_X11_fillUnlike_L4 (b := b)  g_fuel H K_l0 h_l1 (by decide) (by decide) (q_fu (by rw [L_0]; omega))) (by decide) (by decide)
theorem S_X11_fillUnlike {b : Nat → Bool} {l0 : Nat} {l1 : Int32} {M : gM} (H : q_HT 0 M) (K_l0 : q_Kd M l0 (11, 0)) (h_l1 : 0 ≤ l1.toInt ∧ l1.toInt ≤ 127) : Ok (F_X11_fillUnlike (some l0) l1 M) (q_PI b M (0) (21)) := by
  delta F_X11_fillUnlike
  exact w_PI (q_rf _ _) (S_X11_fillUnlike_b0 (b := b)  H K_l0 h_l1) (by decide) (by decide)
theorem S_X11_partsAll_b35  {M : gM} (H : q_HT 0 M) : Ok (F_X11_partsAll_b35 M) (q_pi (0) (1)) := by
  delta F_X11_partsAll_b35
  exact r_pi (by decide)
set_option maxHeartbeats 1000000 in
theorem S_X11_partsAll_b2 {k2 : Option Nat → Int32 → Int32 → Int32 → Option Int32} {m2 : Int} {l0 : Nat} {l1 : Int32} {l2 : Int32} {l3 : Int32} {M : gM} (hk2 : ∀ {l0 : Nat} {l1 : Int32} {l2 : Int32} {l3 : Int32}, q_HT 0 M → (q_Kd M l0 (11, 0)) → (0 ≤ l1.toInt ∧ l1.toInt ≤ 128) → (0 ≤ l2.toInt ∧ l2.toInt ≤ 21) → (0 ≤ l3.toInt ∧ l3.toInt ≤ 21) → 21 - l3.toInt < m2 → Ok (k2 (some l0) l1 l2 l3) (q_pi (0) (1))) (H : q_HT 0 M) (K_l0 : q_Kd M l0 (11, 0)) (h_l1 : 0 ≤ l1.toInt ∧ l1.toInt ≤ 128) (h_l2 : 0 ≤ l2.toInt ∧ l2.toInt ≤ 21) (h_l3 : 0 ≤ l3.toInt ∧ l3.toInt ≤ 21) (hm2 : 21 - l3.toInt ≤ m2) : Ok (F_X11_partsAll_b2 k2 M (some l0) l1 l2 l3) (q_pi (0) (1)) := by
  delta F_X11_partsAll_b2
  refine Ok_i (fun c_1 => ?_) (fun c_1 => ?_)
  · skip
    replace c_1 := i_le c_1
    exact w_pi (S_X11_partsAll_b35  H) (by decide) (by decide)
  · skip
    replace c_1 := i_nle c_1
    refine d_gR (q := (20, 21)) H K_l0 (by decide) rfl (fun v1 r_v1 K_v1 => ?_)
    refine c_aN K_v1 (by decide) (by decide) (fun v2 e_v2 => ?_)
    refine Ok_i (fun c_2 => ?_) (fun c_2 => ?_)
    · skip
      replace c_2 := i_le c_2
      exfalso
      omega
    · skip
      replace c_2 := i_nle c_2
      refine c_gRs K_l0 r_v1 ?_
      refine c_aI K_v1 (by omega) (by omega) (fun v4 => ?_)
      refine Ok_i (fun c_3 => ?_) (fun c_3 => ?_)
      · skip
        replace c_3 := i_eq c_3
        rw [L_0] at c_3
        exact r_pi (by decide)
      · skip
        replace c_3 := i_ne c_3
        rw [L_0] at c_3
        have a_4 := i_addc (x := l3) (c := 1) L_1 (by omega) (by omega)
        exact w_pi (hk2 H K_l0 h_l1 h_l2 (by omega) (by omega)) (by decide) (by decide)
theorem S_X11_partsAll_L2 {M : gM} : ∀ (n : Nat) {l0 : Nat} {l1 : Int32} {l2 : Int32} {l3 : Int32}, q_HT 0 M → (q_Kd M l0 (11, 0)) → (0 ≤ l1.toInt ∧ l1.toInt ≤ 128) → (0 ≤ l2.toInt ∧ l2.toInt ≤ 21) → (0 ≤ l3.toInt ∧ l3.toInt ≤ 21) → 21 - l3.toInt < (n : Int) → Ok (F_X11_partsAll_L2 M n (some l0) l1 l2 l3) (q_pi (0) (1)) := by
  intro n
  induction n with
  | zero =>
    intro l0 l1 l2 l3 H K_l0 h_l1 h_l2 h_l3  hm
    exfalso
    omega
  | succ n ih =>
    intro l0 l1 l2 l3 H K_l0 h_l1 h_l2 h_l3  hm
    exact S_X11_partsAll_b2 (m2 := 21 - l3.toInt) (fun H K_l0 h_l1 h_l2 h_l3  hmz => ih H K_l0 h_l1 h_l2 h_l3  (by omega)) H K_l0 h_l1 h_l2 h_l3  (Int.le_refl _)
theorem S_X11_partsAll_b0 {l0 : Nat} {l1 : Int32} {l2 : Int32} {M : gM} (H : q_HT 0 M) (K_l0 : q_Kd M l0 (11, 0)) (h_l1 : 0 ≤ l1.toInt ∧ l1.toInt ≤ 127) (h_l2 : 0 ≤ l2.toInt ∧ l2.toInt ≤ 21) : Ok (F_X11_partsAll_b0 M (some l0) l1 l2) (q_pi (0) (1)) := by
  delta F_X11_partsAll_b0
  exact w_pi (S_X11_partsAll_L2  g_fuel H K_l0 (by omega) h_l2 (by decide) (q_fu (by rw [L_0]; omega))) (by decide) (by decide)
theorem S_X11_partsAll {l0 : Nat} {l1 : Int32} {l2 : Int32} {M : gM} (H : q_HT 0 M) (K_l0 : q_Kd M l0 (11, 0)) (h_l1 : 0 ≤ l1.toInt ∧ l1.toInt ≤ 127) (h_l2 : 0 ≤ l2.toInt ∧ l2.toInt ≤ 21) : Ok (F_X11_partsAll (some l0) l1 l2 M) (q_pi (0) (1)) := by
  delta F_X11_partsAll
  exact w_pi (S_X11_partsAll_b0  H K_l0 h_l1 h_l2) (by decide) (by decide)
theorem S_X11_parts_b26 {b : Nat → Bool}  {M : gM} (H : q_HT 0 M) : Ok (F_X11_parts_b26 M) (q_PI b M (-2) (128)) := by
  delta F_X11_parts_b26
  exact r_PI (by decide) H (q_rf _ _)
theorem S_X11_parts_b99 {b : Nat → Bool} {k40 : Option Nat → Int32 → Int32 → Int32 → Int32 → gM → Option (Int32 × gM)} {m40 : Int} {l0 : Nat} {l2 : Int32} {l3 : Int32} {l4 : Int32} {l5 : Int32} {M : gM} (hk40 : ∀ {l0 : Nat} {l2 : Int32} {l3 : Int32} {l4 : Int32} {l5 : Int32} {M : gM}, q_HT 0 M → (q_Kd M l0 (11, 0)) → (0 ≤ l2.toInt ∧ l2.toInt ≤ 1) → (0 ≤ l3.toInt ∧ l3.toInt ≤ 21) → (-1 ≤ l4.toInt ∧ l4.toInt ≤ 128) → (0 ≤ l5.toInt ∧ l5.toInt ≤ 128) → 128 - l5.toInt < m40 → Ok (k40 (some l0) l2 l3 l4 l5 M) (q_PI b M (-2) (128))) (H : q_HT 0 M) (K_l0 : q_Kd M l0 (11, 0)) (h_l2 : 0 ≤ l2.toInt ∧ l2.toInt ≤ 1) (h_l3 : 0 ≤ l3.toInt ∧ l3.toInt ≤ 21) (h_l4 : -1 ≤ l4.toInt ∧ l4.toInt ≤ 128) (h_l5 : 0 ≤ l5.toInt ∧ l5.toInt ≤ 127) (hm40 : 128 - l5.toInt ≤ m40) : Ok (F_X11_parts_b99 k40 (some l0) l2 l3 l4 l5 M) (q_PI b M (-2) (128)) := by
  delta F_X11_parts_b99
  have a_1 := i_addc (x := l5) (c := 1) L_1 (by omega) (by omega)
  exact w_PI (q_rf _ _) (hk40 H K_l0 h_l2 h_l3 h_l4 (by omega) (by omega)) (by decide) (by decide)
theorem S_X11_parts_b78 {b : Nat → Bool} {k40 : Option Nat → Int32 → Int32 → Int32 → Int32 → gM → Option (Int32 × gM)} {m40 : Int} {l0 : Nat} {l2 : Int32} {l3 : Int32} {l4 : Int32} {l5 : Int32} {s0 : Int32} {M : gM} (hk40 : ∀ {l0 : Nat} {l2 : Int32} {l3 : Int32} {l4 : Int32} {l5 : Int32} {M : gM}, q_HT 0 M → (q_Kd M l0 (11, 0)) → (0 ≤ l2.toInt ∧ l2.toInt ≤ 1) → (0 ≤ l3.toInt ∧ l3.toInt ≤ 21) → (-1 ≤ l4.toInt ∧ l4.toInt ≤ 128) → (0 ≤ l5.toInt ∧ l5.toInt ≤ 128) → 128 - l5.toInt < m40 → Ok (k40 (some l0) l2 l3 l4 l5 M) (q_PI b M (-2) (128))) (H : q_HT 0 M) (K_l0 : q_Kd M l0 (11, 0)) (h_l2 : 0 ≤ l2.toInt ∧ l2.toInt ≤ 1) (h_l3 : 0 ≤ l3.toInt ∧ l3.toInt ≤ 21) (h_l4 : -1 ≤ l4.toInt ∧ l4.toInt ≤ 128) (h_l5 : 0 ≤ l5.toInt ∧ l5.toInt ≤ 127) (h_s0 : 0 ≤ s0.toInt ∧ s0.toInt ≤ 1) (hm40 : 128 - l5.toInt ≤ m40) : Ok (F_X11_parts_b78 k40 (some l0) l2 l3 l4 l5 s0 M) (q_PI b M (-2) (128)) := by
  delta F_X11_parts_b78
  refine Ok_i (fun c_1 => ?_) (fun c_1 => ?_)
  · skip
    replace c_1 := i_eq c_1
    rw [L_0] at c_1
    exact w_PI (q_rf _ _) (S_X11_parts_b99 (b := b) hk40 H K_l0 h_l2 h_l3 h_l4 h_l5 (by omega)) (by decide) (by decide)
  · skip
    replace c_1 := i_ne c_1
    rw [L_0] at c_1
    refine c_gO K_l0 ?_
    refine Ok_b (S_X11_partsAll H K_l0 h_l5 h_l3) (fun v2 e_v2 => ?_)
    replace e_v2 := q_un e_v2
    refine Ok_i (fun c_2 => ?_) (fun c_2 => ?_)
    · skip
      replace c_2 := i_eq c_2
      rw [L_0] at c_2
      exact w_PI (q_rf _ _) (S_X11_parts_b99 (b := b) hk40 H K_l0 h_l2 h_l3 h_l4 h_l5 (by omega)) (by decide) (by decide)
    · skip
      replace c_2 := i_ne c_2
      rw [L_0] at c_2
      exact w_PI (q_rf _ _) (S_X11_parts_b99 (b := b) hk40 H K_l0 h_l2 h_l3 (by omega) h_l5 (by omega)) (by decide) (by decide)
theorem S_X11_parts_b73 {b : Nat → Bool} {k40 : Option Nat → Int32 → Int32 → Int32 → Int32 → gM → Option (Int32 × gM)} {m40 : Int} {l0 : Nat} {l2 : Int32} {l3 : Int32} {l4 : Int32} {l5 : Int32} {M : gM} (hk40 : ∀ {l0 : Nat} {l2 : Int32} {l3 : Int32} {l4 : Int32} {l5 : Int32} {M : gM}, q_HT 0 M → (q_Kd M l0 (11, 0)) → (0 ≤ l2.toInt ∧ l2.toInt ≤ 1) → (0 ≤ l3.toInt ∧ l3.toInt ≤ 21) → (-1 ≤ l4.toInt ∧ l4.toInt ≤ 128) → (0 ≤ l5.toInt ∧ l5.toInt ≤ 128) → 128 - l5.toInt < m40 → Ok (k40 (some l0) l2 l3 l4 l5 M) (q_PI b M (-2) (128))) (H : q_HT 0 M) (K_l0 : q_Kd M l0 (11, 0)) (h_l2 : 0 ≤ l2.toInt ∧ l2.toInt ≤ 1) (h_l3 : 0 ≤ l3.toInt ∧ l3.toInt ≤ 21) (h_l4 : -1 ≤ l4.toInt ∧ l4.toInt ≤ 128) (h_l5 : 0 ≤ l5.toInt ∧ l5.toInt ≤ 127) (hm40 : 128 - l5.toInt ≤ m40) : Ok (F_X11_parts_b73 k40 (some l0) l2 l3 l4 l5 M) (q_PI b M (-2) (128)) := by
  delta F_X11_parts_b73
  exact w_PI (q_rf _ _) (S_X11_parts_b78 (b := b) hk40 H K_l0 h_l2 h_l3 h_l4 h_l5 (by decide) (by omega)) (by decide) (by decide)
set_option maxHeartbeats 1000000 in
theorem S_X11_parts_b40 {b : Nat → Bool} {k40 : Option Nat → Int32 → Int32 → Int32 → Int32 → gM → Option (Int32 × gM)} {m40 : Int} {l0 : Nat} {l2 : Int32} {l3 : Int32} {l4 : Int32} {l5 : Int32} {M : gM} (hk40 : ∀ {l0 : Nat} {l2 : Int32} {l3 : Int32} {l4 : Int32} {l5 : Int32} {M : gM}, q_HT 0 M → (q_Kd M l0 (11, 0)) → (0 ≤ l2.toInt ∧ l2.toInt ≤ 1) → (0 ≤ l3.toInt ∧ l3.toInt ≤ 21) → (-1 ≤ l4.toInt ∧ l4.toInt ≤ 128) → (0 ≤ l5.toInt ∧ l5.toInt ≤ 128) → 128 - l5.toInt < m40 → Ok (k40 (some l0) l2 l3 l4 l5 M) (q_PI b M (-2) (128))) (H : q_HT 0 M) (K_l0 : q_Kd M l0 (11, 0)) (h_l2 : 0 ≤ l2.toInt ∧ l2.toInt ≤ 1) (h_l3 : 0 ≤ l3.toInt ∧ l3.toInt ≤ 21) (h_l4 : -1 ≤ l4.toInt ∧ l4.toInt ≤ 128) (h_l5 : 0 ≤ l5.toInt ∧ l5.toInt ≤ 128) (hm40 : 128 - l5.toInt ≤ m40) : Ok (F_X11_parts_b40 k40 (some l0) l2 l3 l4 l5 M) (q_PI b M (-2) (128)) := by
  delta F_X11_parts_b40
  refine d_gR (q := (1, 0)) H K_l0 (by decide) rfl (fun v1 r_v1 K_v1 => ?_)
  refine d_gI (lo := 0) (hi := 7) H K_v1 (by decide) rfl (fun v2 q_v2 e_v2 => ?_)
  have a_1 := i_shl1 (v := v2) (by omega)
  refine Ok_i (fun c_2 => ?_) (fun c_2 => ?_)
  · skip
    replace c_2 := i_le c_2
    refine Ok_i (fun c_3 => ?_) (fun c_3 => ?_)
    · skip
      replace c_3 := i_eq c_3
      rw [L_m1] at c_3
      exact r_PI (by decide) H (q_rf _ _)
    · skip
      replace c_3 := i_ne c_3
      rw [L_m1] at c_3
      refine Ok_i (fun c_4 => ?_) (fun c_4 => ?_)
      · skip
        replace c_4 := i_eq c_4
        rw [L_0] at c_4
        refine Ok_b (S_J6_bitCount_0f7a4 H) (fun v3 e_v3 => ?_)
        replace e_v3 := q_un e_v3
        exact r_PI (by omega) H (q_rf _ _)
      · skip
        replace c_4 := i_ne c_4
        rw [L_0] at c_4
        exact r_PI (by omega) H (q_rf _ _)
  · skip
    replace c_2 := i_nle c_2
    refine Ok_i (fun c_5 => ?_) (fun c_5 => ?_)
    · skip
      replace c_5 := i_eq c_5
      rw [L_m1] at c_5
      exact w_PI (q_rf _ _) (S_X11_parts_b73 (b := b) hk40 H K_l0 h_l2 h_l3 h_l4 (by omega) (by omega)) (by decide) (by decide)
    · skip
      replace c_5 := i_ne c_5
      rw [L_m1] at c_5
      refine Ok_b (S_J6_bitCount_0f7a4 H) (fun v4 e_v4 => ?_)
      replace e_v4 := q_un e_v4
      refine Ok_b (S_J6_bitCount_0f7a4 H) (fun v5 e_v5 => ?_)
      replace e_v5 := q_un e_v5
      refine Ok_i (fun c_6 => ?_) (fun c_6 => ?_)
      · skip
        replace c_6 := i_le c_6
        exact w_PI (q_rf _ _) (S_X11_parts_b78 (b := b) hk40 H K_l0 h_l2 h_l3 h_l4 (by omega) (by decide) (by omega)) (by decide) (by decide)
      · skip
        replace c_6 := i_nle c_6
        exact w_PI (q_rf _ _) (S_X11_parts_b73 (b := b) hk40 H K_l0 h_l2 h_l3 h_l4 (by omega) (by omega)) (by decide) (by decide)
theorem S_X11_parts_L40 {b : Nat → Bool} : ∀ (n : Nat) {l0 : Nat} {l2 : Int32} {l3 : Int32} {l4 : Int32} {l5 : Int32} {M : gM}, q_HT 0 M → (q_Kd M l0 (11, 0)) → (0 ≤ l2.toInt ∧ l2.toInt ≤ 1) → (0 ≤ l3.toInt ∧ l3.toInt ≤ 21) → (-1 ≤ l4.toInt ∧ l4.toInt ≤ 128) → (0 ≤ l5.toInt ∧ l5.toInt ≤ 128) → 128 - l5.toInt < (n : Int) → Ok (F_X11_parts_L40 n (some l0) l2 l3 l4 l5 M) (q_PI b M (-2) (128)) := by
  intro n
  induction n with
  | zero =>
    intro l0 l2 l3 l4 l5 M H K_l0 h_l2 h_l3 h_l4 h_l5  hm
    exfalso
    omega
  | succ n ih =>
    intro l0 l2 l3 l4 l5 M H K_l0 h_l2 h_l3 h_l4 h_l5  hm
    exact S_X11_parts_b40 (b := b) (m40 := 128 - l5.toInt) (fun H K_l0 h_l2 h_l3 h_l4 h_l5  hmz => ih H K_l0 h_l2 h_l3 h_l4 h_l5  (by omega)) H K_l0 h_l2 h_l3 h_l4 h_l5  (Int.le_refl _)
set_option maxHeartbeats 1000000 in
theorem S_X11_parts_b0 {b : Nat → Bool} {l0 : Nat} {l1 : Int32} {l2 : Int32} {M : gM} (H : q_HT 0 M) (K_l0 : q_Kd M l0 (11, 0)) : Ok (F_X11_parts_b0 (some l0) l1 l2 M) (q_PI b M (-2) (128)) := by
  delta F_X11_parts_b0
  refine Ok_i (fun c_1 => ?_) (fun c_1 => ?_)
  · skip
    replace c_1 := i_lt c_1
    rw [L_0] at c_1
    exact w_PI (q_rf _ _) (S_X11_parts_b26 (b := b)  H) (by decide) (by decide)
  · skip
    replace c_1 := i_nlt c_1
    rw [L_0] at c_1
    refine d_gR (q := (1, 0)) H K_l0 (by decide) rfl (fun v1 r_v1 K_v1 => ?_)
    refine d_gI (lo := 0) (hi := 7) H K_v1 (by decide) rfl (fun v2 q_v2 e_v2 => ?_)
    have a_2 := i_shl1 (v := v2) (by omega)
    refine Ok_i (fun c_3 => ?_) (fun c_3 => ?_)
    · skip
      replace c_3 := i_le c_3
      exact w_PI (q_rf _ _) (S_X11_parts_b26 (b := b)  H) (by decide) (by decide)
    · skip
      replace c_3 := i_nle c_3
      refine Ok_i (fun c_4 => ?_) (fun c_4 => ?_)
      · skip
        replace c_4 := i_lt c_4
        rw [L_0] at c_4
        exact w_PI (q_rf _ _) (S_X11_parts_b26 (b := b)  H) (by decide) (by decide)
      · skip
        replace c_4 := i_nlt c_4
        rw [L_0] at c_4
        refine Ok_i (fun c_5 => ?_) (fun c_5 => ?_)
        · skip
          replace c_5 := i_le c_5
          rw [L_1] at c_5
          refine c_gO K_l0 ?_
          refine Ok_b (S_X11_fillUnlike (b := b) H K_l0 (by omega)) (fun yM5 zM5 => ?_)
          obtain ⟨v4, M5⟩ := yM5
          obtain ⟨e_v4, HM5, fM5⟩ := zM5
          try dsimp only at e_v4 HM5 fM5
          have K_6 := (q_mo K_l0 (by decide) fM5)
          exact w_PI fM5 (S_X11_parts_L40 (b := b)  g_fuel HM5 K_6 (by omega) e_v4 (by decide) (by decide) (q_fu (by rw [L_0]; omega))) (by decide) (by decide)
        · skip
          replace c_5 := i_nle c_5
          rw [L_1] at c_5
          exact w_PI (q_rf _ _) (S_X11_parts_b26 (b := b)  H) (by decide) (by decide)
theorem S_X11_parts {b : Nat → Bool} {l0 : Nat} {l1 : Int32} {l2 : Int32} {M : gM} (H : q_HT 0 M) (K_l0 : q_Kd M l0 (11, 0)) : Ok (F_X11_parts (some l0) l1 l2 M) (q_PI b M (-2) (128)) := by
  delta F_X11_parts
  exact w_PI (q_rf _ _) (S_X11_parts_b0 (b := b)  H K_l0) (by decide) (by decide)
theorem S_X0_clear_b39 {b : Nat → Bool} {k12 : Option Nat → Int32 → gM → Option gM} {m12 : Int} {l0 : Nat} {l2 : Int32} {s0 : Nat} {s1 : Int32} {s2 : Int64} {M : gM} (hk12 : ∀ {l0 : Nat} {l2 : Int32} {M : gM}, q_HT 0 M → (q_Kd M l0 (0, 0)) → (0 ≤ l2.toInt ∧ l2.toInt ≤ 49) → 49 - l2.toInt < m12 → Ok (k12 (some l0) l2 M) (q_PV b M)) (H : q_HT 0 M) (K_l0 : q_Kd M l0 (0, 0)) (h_l2 : 0 ≤ l2.toInt ∧ l2.toInt ≤ 48) (K_s0 : q_Kd M s0 (21, 49)) (h_s1 : 0 ≤ s1.toInt ∧ s1.toInt ≤ 48) (hm12 : 49 - l2.toInt ≤ m12) : Ok (F_X0_clear_b39 k12 (some l0) l2 (some s0) s1 s2 M) (q_PV b M) := by
  delta F_X0_clear_b39
  refine c_sL (b := b) H K_s0 (by omega) (by omega) (fun M1 HM1 fM1 o_M1 rr_M1 => ?_)
  have K_1 := (q_mo K_l0 (by decide) fM1)
  have a_2 := i_addc (x := l2) (c := 1) L_1 (by omega) (by omega)
  exact w_PV fM1 (hk12 HM1 K_1 (by omega) (by omega))
theorem S_X0_clear_b12 {b : Nat → Bool} {k12 : Option Nat → Int32 → gM → Option gM} {m12 : Int} {l0 : Nat} {l2 : Int32} {M : gM} (hk12 : ∀ {l0 : Nat} {l2 : Int32} {M : gM}, q_HT 0 M → (q_Kd M l0 (0, 0)) → (0 ≤ l2.toInt ∧ l2.toInt ≤ 49) → 49 - l2.toInt < m12 → Ok (k12 (some l0) l2 M) (q_PV b M)) (H : q_HT 0 M) (K_l0 : q_Kd M l0 (0, 0)) (h_l2 : 0 ≤ l2.toInt ∧ l2.toInt ≤ 49) (hm12 : 49 - l2.toInt ≤ m12) : Ok (F_X0_clear_b12 k12 (some l0) l2 M) (q_PV b M) := by
  delta F_X0_clear_b12
  refine Ok_i (fun c_1 => ?_) (fun c_1 => ?_)
  · skip
    replace c_1 := i_le c_1
    rw [L_49] at c_1
    exact r_PV H (q_rf _ _)
  · skip
    replace c_1 := i_nle c_1
    rw [L_49] at c_1
    refine d_gR (q := (21, 49)) H K_l0 (by decide) rfl (fun v1 r_v1 K_v1 => ?_)
    have a_2 := i_div (x := l2) (c := (7 : Int32)) (n := 7) L_7 (by decide) (by omega)
    have a_3 := i_mod (x := l2) (c := (7 : Int32)) (n := 7) L_7 (by decide) (by omega)
    refine Ok_i (fun c_4 => ?_) (fun c_4 => ?_)
    · skip
      replace c_4 := i_eq c_4
      exact w_PV (q_rf _ _) (S_X0_clear_b39 (b := b) hk12 H K_l0 (by omega) K_v1 (by omega) (by omega))
    · skip
      replace c_4 := i_ne c_4
      exact w_PV (q_rf _ _) (S_X0_clear_b39 (b := b) hk12 H K_l0 (by omega) K_v1 (by omega) (by omega))
theorem S_X0_clear_L12 {b : Nat → Bool} : ∀ (n : Nat) {l0 : Nat} {l2 : Int32} {M : gM}, q_HT 0 M → (q_Kd M l0 (0, 0)) → (0 ≤ l2.toInt ∧ l2.toInt ≤ 49) → 49 - l2.toInt < (n : Int) → Ok (F_X0_clear_L12 n (some l0) l2 M) (q_PV b M) := by
  intro n
  induction n with
  | zero =>
    intro l0 l2 M H K_l0 h_l2  hm
    exfalso
    omega
  | succ n ih =>
    intro l0 l2 M H K_l0 h_l2  hm
    exact S_X0_clear_b12 (b := b) (m12 := 49 - l2.toInt) (fun H K_l0 h_l2  hmz => ih H K_l0 h_l2  (by omega)) H K_l0 h_l2  (Int.le_refl _)
theorem S_X0_clear_b0 {b : Nat → Bool} {l0 : Nat} {l1 : Int32} {M : gM} (H : q_HT 0 M) (K_l0 : q_Kd M l0 (0, 0)) (h_l1 : 0 ≤ l1.toInt ∧ l1.toInt ≤ 7) : Ok (F_X0_clear_b0 (some l0) l1 M) (q_PV b M) := by
  delta F_X0_clear_b0
  have a_1 := i_min (x := l1) (y := (7 : Int32))
  rw [L_7] at a_1
  refine c_pI (b := b) (lo := 0) (hi := 7) H K_l0 (by decide) rfl (by omega) rfl (fun M1 HM1 fM1 q_M1 o_M1 rr_M1 => ?_)
  have K_2 := (q_mo K_l0 (by decide) fM1)
  exact w_PV fM1 (S_X0_clear_L12 (b := b)  g_fuel HM1 K_2 (by decide) (q_fu (by rw [L_0]; omega)))
theorem S_X0_clear {b : Nat → Bool} {l0 : Nat} {l1 : Int32} {M : gM} (H : q_HT 0 M) (K_l0 : q_Kd M l0 (0, 0)) (h_l1 : 0 ≤ l1.toInt ∧ l1.toInt ≤ 7) : Ok (F_X0_clear (some l0) l1 M) (q_PV b M) := by
  delta F_X0_clear
  exact w_PV (q_rf _ _) (S_X0_clear_b0 (b := b)  H K_l0 h_l1)
set_option maxHeartbeats 1000000 in
theorem S_X11_sharers_b0 {l0 : Nat} {l1 : Int32} {l2 : Int32} {M : gM} (H : q_HT 0 M) (K_l0 : q_Kd M l0 (11, 0)) (h_l1 : 0 ≤ l1.toInt ∧ l1.toInt ≤ 6) (h_l2 : 0 ≤ l2.toInt ∧ l2.toInt ≤ 6) : Ok (F_X11_sharers_b0 M (some l0) l1 l2) (q_pi (-2147483648) (2147483647)) := by
  delta F_X11_sharers_b0
  refine d_gR (q := (8, 0)) H K_l0 (by decide) rfl (fun v1 r_v1 K_v1 => ?_)
  refine d_gR (q := (1, 0)) H K_l0 (by decide) rfl (fun v2 r_v2 K_v2 => ?_)
  refine c_gO K_v1 ?_
  refine Ok_b (S_X8_errs H K_v1 K_v2 h_l1 h_l2) (fun v4 e_v4 => ?_)
  replace e_v4 := q_un e_v4
  refine Ok_i (fun c_1 => ?_) (fun c_1 => ?_)
  · skip
    replace c_1 := i_eq c_1
    rw [L_0] at c_1
    exact r_pi (i_rng _)
  · skip
    replace c_1 := i_ne c_1
    rw [L_0] at c_1
    refine c_gRs K_l0 r_v2 ?_
    refine d_gR (q := (20, 7)) H K_v2 (by decide) rfl (fun v6 r_v6 K_v6 => ?_)
    refine c_aI K_v6 (by omega) (by omega) (fun v7 => ?_)
    refine c_gRs K_l0 r_v1 ?_
    refine c_gRs K_l0 r_v2 ?_
    refine c_gRs K_l0 r_v1 ?_
    refine d_gR (q := (20, 49)) H K_v1 (by decide) rfl (fun v11 r_v11 K_v11 => ?_)
    have a_2 := i_mulR (x := l1) (c := (7 : Int32)) L_7 (by omega) (by omega)
    have a_3 := i_add (x := (l1 * (7 : Int32))) (y := l2) (by omega) (by omega)
    refine c_aI K_v11 (by omega) (by omega) (fun v12 => ?_)
    refine c_gO K_v1 ?_
    refine Ok_b (S_X8_knowersAs H K_v1 K_v2 h_l2) (fun v14 e_v14 => ?_)
    clear e_v14
    exact r_pi (i_rng _)
theorem S_X11_sharers {l0 : Nat} {l1 : Int32} {l2 : Int32} {M : gM} (H : q_HT 0 M) (K_l0 : q_Kd M l0 (11, 0)) (h_l1 : 0 ≤ l1.toInt ∧ l1.toInt ≤ 6) (h_l2 : 0 ≤ l2.toInt ∧ l2.toInt ≤ 6) : Ok (F_X11_sharers (some l0) l1 l2 M) (q_pi (-2147483648) (2147483647)) := by
  delta F_X11_sharers
  exact w_pi (S_X11_sharers_b0  H K_l0 h_l1 h_l2) (by decide) (by decide)
set_option maxHeartbeats 1000000 in
theorem S_X0_join_b0 {b : Nat → Bool} {l0 : Nat} {l1 : Int32} {l2 : Int32} {M : gM} (H : q_HT 0 M) (K_l0 : q_Kd M l0 (0, 0)) (h_l1 : 0 ≤ l1.toInt ∧ l1.toInt ≤ 6) (h_l2 : 1 ≤ l2.toInt ∧ l2.toInt ≤ 6) : Ok (F_X0_join_b0 (some l0) l1 l2 M) (q_PV b M) := by
  delta F_X0_join_b0
  refine d_gR (q := (21, 49)) H K_l0 (by decide) rfl (fun v1 r_v1 K_v1 => ?_)
  have a_1 := i_mulR (x := l1) (c := (7 : Int32)) L_7 (by omega) (by omega)
  have a_2 := i_add (x := (l1 * (7 : Int32))) (y := l1) (by omega) (by omega)
  refine c_aL K_v1 (by omega) (by omega) (fun v2 => ?_)
  refine c_sL (b := b) H K_v1 (by omega) (by omega) (fun M3 HM3 fM3 o_M3 rr_M3 => ?_)
  have r_3 := (congrFun (congrFun rr_M3 _) 0).trans r_v1
  have K_4 := (q_mo K_l0 (by decide) fM3)
  refine c_gRs K_4 r_3 ?_
  have K_5 := (q_mo K_v1 (by decide) fM3)
  have a_6 := i_mulR (x := l2) (c := (7 : Int32)) L_7 (by omega) (by omega)
  have a_7 := i_add (x := (l2 * (7 : Int32))) (y := l2) (by omega) (by omega)
  refine c_aL K_5 (by omega) (by omega) (fun v5 => ?_)
  refine c_sL (b := b) HM3 K_5 (by omega) (by omega) (fun M6 HM6 fM6 o_M6 rr_M6 => ?_)
  have r_8 := (congrFun (congrFun rr_M6 _) 0).trans r_3
  have g_9 := q_tr fM3 fM6
  have K_10 := (q_mo K_4 (by decide) fM6)
  refine c_gRs K_10 r_8 ?_
  have K_11 := (q_mo (q_mo K_v1 (by decide) fM3) (by decide) fM6)
  have a_12 := i_add (x := (l1 * (7 : Int32))) (y := l2) (by omega) (by omega)
  refine c_aL K_11 (by omega) (by omega) (fun v8 => ?_)
  refine c_sL (b := b) HM6 K_11 (by omega) (by omega) (fun M9 HM9 fM9 o_M9 rr_M9 => ?_)
  have r_13 := (congrFun (congrFun rr_M9 _) 0).trans r_8
  have g_14 := q_tr g_9 fM9
  have K_15 := (q_mo K_10 (by decide) fM9)
  refine c_gRs K_15 r_13 ?_
  have K_16 := (q_mo (q_mo (q_mo K_v1 (by decide) fM3) (by decide) fM6) (by decide) fM9)
  have a_17 := i_add (x := (l2 * (7 : Int32))) (y := l1) (by omega) (by omega)
  refine c_aL K_16 (by omega) (by omega) (fun v11 => ?_)
  refine c_sL (b := b) HM9 K_16 (by omega) (by omega) (fun M12 HM12 fM12 o_M12 rr_M12 => ?_)
  have r_18 := (congrFun (congrFun rr_M12 _) 0).trans r_13
  have g_19 := q_tr g_14 fM12
  exact r_PV HM12 g_19
theorem S_X0_join {b : Nat → Bool} {l0 : Nat} {l1 : Int32} {l2 : Int32} {M : gM} (H : q_HT 0 M) (K_l0 : q_Kd M l0 (0, 0)) (h_l1 : 0 ≤ l1.toInt ∧ l1.toInt ≤ 6) (h_l2 : 1 ≤ l2.toInt ∧ l2.toInt ≤ 6) : Ok (F_X0_join (some l0) l1 l2 M) (q_PV b M) := by
  delta F_X0_join
  exact w_PV (q_rf _ _) (S_X0_join_b0 (b := b)  H K_l0 h_l1 h_l2)
theorem S_X0_howMany_b38 {b : Nat → Bool}  {M : gM} (H : q_HT 0 M) : Ok (F_X0_howMany_b38 M) (q_PI b M (-2147483648) (2147483647)) := by
  delta F_X0_howMany_b38
  exact r_PI (i_rng _) H (q_rf _ _)
set_option maxHeartbeats 1000000 in
theorem S_X0_howMany_b59 {b : Nat → Bool} {k4 : Option Nat → Int64 → Int32 → gM → Option (Int32 × gM)} {m4 : Int} {k45 : Option Nat → Int64 → Int32 → Int64 → Int32 → gM → Option (Int32 × gM)} {m45 : Int} {k59 : Option Nat → Int64 → Int32 → Int64 → Int32 → Int32 → gM → Option (Int32 × gM)} {m59 : Int} {l0 : Nat} {l1 : Int64} {l3 : Int32} {l4 : Int64} {l6 : Int32} {l7 : Int32} {M : gM} (hk4 : ∀ {l0 : Nat} {l1 : Int64} {l3 : Int32} {M : gM}, q_HT 0 M → (q_Kd M l0 (0, 0)) → (¬ l1 = 0) → (0 ≤ l3.toInt ∧ l3.toInt ≤ 7) → 7 - l3.toInt < m4 → Ok (k4 (some l0) l1 l3 M) (q_PI b M (-2147483648) (2147483647))) (hk45 : ∀ {l0 : Nat} {l1 : Int64} {l3 : Int32} {l4 : Int64} {l6 : Int32} {M : gM}, q_HT 0 M → (q_Kd M l0 (0, 0)) → (¬ l1 = 0) → (0 ≤ l3.toInt ∧ l3.toInt ≤ 6) → (¬ l4 = 0) → (1 ≤ l6.toInt ∧ l6.toInt ≤ 7) → 7 - l3.toInt ≤ m4 → 7 - l6.toInt < m45 → Ok (k45 (some l0) l1 l3 l4 l6 M) (q_PI b M (-2147483648) (2147483647))) (hk59 : ∀ {l0 : Nat} {l1 : Int64} {l3 : Int32} {l4 : Int64} {l6 : Int32} {l7 : Int32} {M : gM}, q_HT 0 M → (q_Kd M l0 (0, 0)) → (¬ l1 = 0) → (0 ≤ l3.toInt ∧ l3.toInt ≤ 6) → (¬ l4 = 0) → (1 ≤ l6.toInt ∧ l6.toInt ≤ 6) → (1 ≤ l7.toInt ∧ l7.toInt ≤ 7) → 7 - l3.toInt ≤ m4 → 7 - l6.toInt ≤ m45 → 7 - l7.toInt < m59 → Ok (k59 (some l0) l1 l3 l4 l6 l7 M) (q_PI b M (-2147483648) (2147483647))) (H : q_HT 0 M) (K_l0 : q_Kd M l0 (0, 0)) (h_l1 : ¬ l1 = 0) (h_l3 : 0 ≤ l3.toInt ∧ l3.toInt ≤ 6) (h_l4 : ¬ l4 = 0) (h_l6 : 1 ≤ l6.toInt ∧ l6.toInt ≤ 6) (h_l7 : 1 ≤ l7.toInt ∧ l7.toInt ≤ 7) (hm4 : 7 - l3.toInt ≤ m4) (hm45 : 7 - l6.toInt ≤ m45) (hm59 : 7 - l7.toInt ≤ m59) : Ok (F_X0_howMany_b59 k4 k45 k59 (some l0) l1 l3 l4 l6 l7 M) (q_PI b M (-2147483648) (2147483647)) := by
  delta F_X0_howMany_b59
  refine d_gI (lo := 0) (hi := 7) H K_l0 (by decide) rfl (fun v1 q_v1 e_v1 => ?_)
  refine Ok_i (fun c_1 => ?_) (fun c_1 => ?_)
  · skip
    replace c_1 := i_le c_1
    have a_2 := i_addc (x := l6) (c := 1) L_1 (by omega) (by omega)
    exact w_PI (q_rf _ _) (hk45 H K_l0 h_l1 h_l3 h_l4 (by omega) (by omega) (by omega)) (by decide) (by decide)
  · skip
    replace c_1 := i_nle c_1
    refine d_gR (q := (21, 49)) H K_l0 (by decide) rfl (fun v2 r_v2 K_v2 => ?_)
    have a_3 := i_mulR (x := l6) (c := (7 : Int32)) L_7 (by omega) (by omega)
    have a_4 := i_add (x := (l6 * (7 : Int32))) (y := l3) (by omega) (by omega)
    refine c_aL K_v2 (by omega) (by omega) (fun v3 => ?_)
    refine c_gRs K_l0 r_v2 ?_
    have a_5 := i_mulR (x := l3) (c := (7 : Int32)) L_7 (by omega) (by omega)
    have a_6 := i_add (x := (l3 * (7 : Int32))) (y := l7) (by omega) (by omega)
    refine c_aL K_v2 (by omega) (by omega) (fun v5 => ?_)
    refine c_gRs K_l0 r_v2 ?_
    refine c_gRs K_l0 r_v2 ?_
    have a_7 := i_add (x := (l6 * (7 : Int32))) (y := l7) (by omega) (by omega)
    refine c_aL K_v2 (by omega) (by omega) (fun v8 => ?_)
    refine Ok_e h_l1 ?_
    refine c_sL (b := b) H K_v2 (by omega) (by omega) (fun M10 HM10 fM10 o_M10 rr_M10 => ?_)
    have q_8 := (congrFun (o_M10 _ (q_dn K_l0 K_v2 (Or.inl (Nat.le_of_ble_eq_true rfl)))) 1).trans q_v1
    have r_9 := (congrFun (congrFun rr_M10 _) 0).trans r_v2
    have K_10 := (q_mo K_l0 (by decide) fM10)
    have a_11 := i_addc (x := l7) (c := 1) L_1 (by omega) (by omega)
    exact w_PI fM10 (hk59 HM10 K_10 h_l1 h_l3 h_l4 h_l6 (by omega) (by omega) (by omega) (by omega)) (by decide) (by decide)
theorem S_X0_howMany_L59 {b : Nat → Bool} {k4 : Option Nat → Int64 → Int32 → gM → Option (Int32 × gM)} {m4 : Int} {k45 : Option Nat → Int64 → Int32 → Int64 → Int32 → gM → Option (Int32 × gM)} {m45 : Int} (hk4 : ∀ {l0 : Nat} {l1 : Int64} {l3 : Int32} {M : gM}, q_HT 0 M → (q_Kd M l0 (0, 0)) → (¬ l1 = 0) → (0 ≤ l3.toInt ∧ l3.toInt ≤ 7) → 7 - l3.toInt < m4 → Ok (k4 (some l0) l1 l3 M) (q_PI b M (-2147483648) (2147483647))) (hk45 : ∀ {l0 : Nat} {l1 : Int64} {l3 : Int32} {l4 : Int64} {l6 : Int32} {M : gM}, q_HT 0 M → (q_Kd M l0 (0, 0)) → (¬ l1 = 0) → (0 ≤ l3.toInt ∧ l3.toInt ≤ 6) → (¬ l4 = 0) → (1 ≤ l6.toInt ∧ l6.toInt ≤ 7) → 7 - l3.toInt ≤ m4 → 7 - l6.toInt < m45 → Ok (k45 (some l0) l1 l3 l4 l6 M) (q_PI b M (-2147483648) (2147483647))) : ∀ (n : Nat) {l0 : Nat} {l1 : Int64} {l3 : Int32} {l4 : Int64} {l6 : Int32} {l7 : Int32} {M : gM}, q_HT 0 M → (q_Kd M l0 (0, 0)) → (¬ l1 = 0) → (0 ≤ l3.toInt ∧ l3.toInt ≤ 6) → (¬ l4 = 0) → (1 ≤ l6.toInt ∧ l6.toInt ≤ 6) → (1 ≤ l7.toInt ∧ l7.toInt ≤ 7) → 7 - l3.toInt ≤ m4 → 7 - l6.toInt ≤ m45 → 7 - l7.toInt < (n : Int) → Ok (F_X0_howMany_L59 k4 k45 n (some l0) l1 l3 l4 l6 l7 M) (q_PI b M (-2147483648) (2147483647)) := by
  intro n
  induction n with
  | zero =>
    intro l0 l1 l3 l4 l6 l7 M H K_l0 h_l1 h_l3 h_l4 h_l6 h_l7 hm4 hm45 hm
    exfalso
    omega
  | succ n ih =>
    intro l0 l1 l3 l4 l6 l7 M H K_l0 h_l1 h_l3 h_l4 h_l6 h_l7 hm4 hm45 hm
    exact S_X0_howMany_b59 (b := b) (m59 := 7 - l7.toInt) hk4 hk45 (fun H K_l0 h_l1 h_l3 h_l4 h_l6 h_l7 hm4 hm45 hmz => ih H K_l0 h_l1 h_l3 h_l4 h_l6 h_l7 hm4 hm45 (by omega)) H K_l0 h_l1 h_l3 h_l4 h_l6 h_l7 hm4 hm45 (Int.le_refl _)
theorem S_X0_howMany_b45 {b : Nat → Bool} {k4 : Option Nat → Int64 → Int32 → gM → Option (Int32 × gM)} {m4 : Int} {k45 : Option Nat → Int64 → Int32 → Int64 → Int32 → gM → Option (Int32 × gM)} {m45 : Int} {l0 : Nat} {l1 : Int64} {l3 : Int32} {l4 : Int64} {l6 : Int32} {M : gM} (hk4 : ∀ {l0 : Nat} {l1 : Int64} {l3 : Int32} {M : gM}, q_HT 0 M → (q_Kd M l0 (0, 0)) → (¬ l1 = 0) → (0 ≤ l3.toInt ∧ l3.toInt ≤ 7) → 7 - l3.toInt < m4 → Ok (k4 (some l0) l1 l3 M) (q_PI b M (-2147483648) (2147483647))) (hk45 : ∀ {l0 : Nat} {l1 : Int64} {l3 : Int32} {l4 : Int64} {l6 : Int32} {M : gM}, q_HT 0 M → (q_Kd M l0 (0, 0)) → (¬ l1 = 0) → (0 ≤ l3.toInt ∧ l3.toInt ≤ 6) → (¬ l4 = 0) → (1 ≤ l6.toInt ∧ l6.toInt ≤ 7) → 7 - l3.toInt ≤ m4 → 7 - l6.toInt < m45 → Ok (k45 (some l0) l1 l3 l4 l6 M) (q_PI b M (-2147483648) (2147483647))) (H : q_HT 0 M) (K_l0 : q_Kd M l0 (0, 0)) (h_l1 : ¬ l1 = 0) (h_l3 : 0 ≤ l3.toInt ∧ l3.toInt ≤ 6) (h_l4 : ¬ l4 = 0) (h_l6 : 1 ≤ l6.toInt ∧ l6.toInt ≤ 7) (hm4 : 7 - l3.toInt ≤ m4) (hm45 : 7 - l6.toInt ≤ m45) : Ok (F_X0_howMany_b45 k4 k45 (some l0) l1 l3 l4 l6 M) (q_PI b M (-2147483648) (2147483647)) := by
  delta F_X0_howMany_b45
  refine d_gI (lo := 0) (hi := 7) H K_l0 (by decide) rfl (fun v1 q_v1 e_v1 => ?_)
  refine Ok_i (fun c_1 => ?_) (fun c_1 => ?_)
  · skip
    replace c_1 := i_le c_1
    have a_2 := i_addc (x := l3) (c := 1) L_1 (by omega) (by omega)
    exact w_PI (q_rf _ _) (hk4 H K_l0 h_l4 (by omega) (by omega)) (by decide) (by decide)
  · skip
    replace c_1 := i_nle c_1
    have a_3 := i_addc (x := l3) (c := (1 : Int32)) L_1 (by omega) (by omega)
    exact w_PI (q_rf _ _) (S_X0_howMany_L59 (b := b) hk4 hk45 g_fuel H K_l0 h_l1 h_l3 h_l4 (by omega) (by omega) (by omega) (by omega) (q_fu (by omega))) (by decide) (by decide)
theorem S_X0_howMany_L45 {b : Nat → Bool} {k4 : Option Nat → Int64 → Int32 → gM → Option (Int32 × gM)} {m4 : Int} (hk4 : ∀ {l0 : Nat} {l1 : Int64} {l3 : Int32} {M : gM}, q_HT 0 M → (q_Kd M l0 (0, 0)) → (¬ l1 = 0) → (0 ≤ l3.toInt ∧ l3.toInt ≤ 7) → 7 - l3.toInt < m4 → Ok (k4 (some l0) l1 l3 M) (q_PI b M (-2147483648) (2147483647))) : ∀ (n : Nat) {l0 : Nat} {l1 : Int64} {l3 : Int32} {l4 : Int64} {l6 : Int32} {M : gM}, q_HT 0 M → (q_Kd M l0 (0, 0)) → (¬ l1 = 0) → (0 ≤ l3.toInt ∧ l3.toInt ≤ 6) → (¬ l4 = 0) → (1 ≤ l6.toInt ∧ l6.toInt ≤ 7) → 7 - l3.toInt ≤ m4 → 7 - l6.toInt < (n : Int) → Ok (F_X0_howMany_L45 k4 n (some l0) l1 l3 l4 l6 M) (q_PI b M (-2147483648) (2147483647)) := by
  intro n
  induction n with
  | zero =>
    intro l0 l1 l3 l4 l6 M H K_l0 h_l1 h_l3 h_l4 h_l6 hm4 hm
    exfalso
    omega
  | succ n ih =>
    intro l0 l1 l3 l4 l6 M H K_l0 h_l1 h_l3 h_l4 h_l6 hm4 hm
    exact S_X0_howMany_b45 (b := b) (m45 := 7 - l6.toInt) hk4 (fun H K_l0 h_l1 h_l3 h_l4 h_l6 hm4 hmz => ih H K_l0 h_l1 h_l3 h_l4 h_l6 hm4 (by omega)) H K_l0 h_l1 h_l3 h_l4 h_l6 hm4 (Int.le_refl _)
set_option maxHeartbeats 1000000 in
theorem S_X0_howMany_b4 {b : Nat → Bool} {k4 : Option Nat → Int64 → Int32 → gM → Option (Int32 × gM)} {m4 : Int} {l0 : Nat} {l1 : Int64} {l3 : Int32} {M : gM} (hk4 : ∀ {l0 : Nat} {l1 : Int64} {l3 : Int32} {M : gM}, q_HT 0 M → (q_Kd M l0 (0, 0)) → (¬ l1 = 0) → (0 ≤ l3.toInt ∧ l3.toInt ≤ 7) → 7 - l3.toInt < m4 → Ok (k4 (some l0) l1 l3 M) (q_PI b M (-2147483648) (2147483647))) (H : q_HT 0 M) (K_l0 : q_Kd M l0 (0, 0)) (h_l1 : ¬ l1 = 0) (h_l3 : 0 ≤ l3.toInt ∧ l3.toInt ≤ 7) (hm4 : 7 - l3.toInt ≤ m4) : Ok (F_X0_howMany_b4 k4 (some l0) l1 l3 M) (q_PI b M (-2147483648) (2147483647)) := by
  delta F_X0_howMany_b4
  refine d_gI (lo := 0) (hi := 7) H K_l0 (by decide) rfl (fun v1 q_v1 e_v1 => ?_)
  refine Ok_i (fun c_1 => ?_) (fun c_1 => ?_)
  · skip
    replace c_1 := i_le c_1
    exact r_PI (i_rng _) H (q_rf _ _)
  · skip
    replace c_1 := i_nle c_1
    refine d_gR (q := (21, 49)) H K_l0 (by decide) rfl (fun v2 r_v2 K_v2 => ?_)
    have a_2 := i_mulR (x := l3) (c := (7 : Int32)) L_7 (by omega) (by omega)
    have a_3 := i_add (x := (l3 * (7 : Int32))) (y := l3) (by omega) (by omega)
    refine c_aL K_v2 (by omega) (by omega) (fun v3 => ?_)
    refine Ok_i (fun c_4 => ?_) (fun c_4 => ?_)
    · skip
      exact w_PI (q_rf _ _) (S_X0_howMany_b38 (b := b)  H) (by decide) (by decide)
    · skip
      have hn_5 := i_nzJ c_4
      refine Ok_i (fun c_6 => ?_) (fun c_6 => ?_)
      · skip
        exact w_PI (q_rf _ _) (S_X0_howMany_b38 (b := b)  H) (by decide) (by decide)
      · skip
        have hn_7 := i_nzJ c_6
        have a_8 := i_addc (x := l3) (c := (1 : Int32)) L_1 (by omega) (by omega)
        exact w_PI (q_rf _ _) (S_X0_howMany_L45 (b := b) hk4 g_fuel H K_l0 hn_7 (by omega) hn_5 (by omega) (by omega) (q_fu (by omega))) (by decide) (by decide)
theorem S_X0_howMany_L4 {b : Nat → Bool} : ∀ (n : Nat) {l0 : Nat} {l1 : Int64} {l3 : Int32} {M : gM}, q_HT 0 M → (q_Kd M l0 (0, 0)) → (¬ l1 = 0) → (0 ≤ l3.toInt ∧ l3.toInt ≤ 7) → 7 - l3.toInt < (n : Int) → Ok (F_X0_howMany_L4 n (some l0) l1 l3 M) (q_PI b M (-2147483648) (2147483647)) := by
  intro n
  induction n with
  | zero =>
    intro l0 l1 l3 M H K_l0 h_l1 h_l3  hm
    exfalso
    omega
  | succ n ih =>
    intro l0 l1 l3 M H K_l0 h_l1 h_l3  hm
    exact S_X0_howMany_b4 (b := b) (m4 := 7 - l3.toInt) (fun H K_l0 h_l1 h_l3  hmz => ih H K_l0 h_l1 h_l3  (by omega)) H K_l0 h_l1 h_l3  (Int.le_refl _)
theorem S_X0_howMany_b0 {b : Nat → Bool} {l0 : Nat} {M : gM} (H : q_HT 0 M) (K_l0 : q_Kd M l0 (0, 0)) : Ok (F_X0_howMany_b0 (some l0) M) (q_PI b M (-2147483648) (2147483647)) := by
  delta F_X0_howMany_b0
  exact w_PI (q_rf _ _) (S_X0_howMany_L4 (b := b)  g_fuel H K_l0 (by decide) (by decide) (q_fu (by rw [L_0]; omega))) (by decide) (by decide)
theorem S_X0_howMany {b : Nat → Bool} {l0 : Nat} {M : gM} (H : q_HT 0 M) (K_l0 : q_Kd M l0 (0, 0)) : Ok (F_X0_howMany (some l0) M) (q_PI b M (-2147483648) (2147483647)) := by
  delta F_X0_howMany
  exact w_PI (q_rf _ _) (S_X0_howMany_b0 (b := b)  H K_l0) (by decide) (by decide)
theorem S_X11_ways_b75 {b : Nat → Bool} {k26 : Option Nat → Int32 → Int32 → gM → Option (Int32 × gM)} {m26 : Int} {k41 : Option Nat → Int32 → Int32 → Int32 → gM → Option (Int32 × gM)} {m41 : Int} {l0 : Nat} {l1 : Int32} {l2 : Int32} {l3 : Int32} {M : gM} (hk26 : ∀ {l0 : Nat} {l1 : Int32} {l2 : Int32} {M : gM}, q_HT 0 M → (q_Kd M l0 (11, 0)) → (0 ≤ l1.toInt ∧ l1.toInt ≤ 6) → (0 ≤ l2.toInt ∧ l2.toInt ≤ 7) → 7 - l2.toInt < m26 → Ok (k26 (some l0) l1 l2 M) (q_PI b M (-2147483648) (2147483647))) (hk41 : ∀ {l0 : Nat} {l1 : Int32} {l2 : Int32} {l3 : Int32} {M : gM}, q_HT 0 M → (q_Kd M l0 (11, 0)) → (0 ≤ l1.toInt ∧ l1.toInt ≤ 6) → (0 ≤ l2.toInt ∧ l2.toInt ≤ 6) → (1 ≤ l3.toInt ∧ l3.toInt ≤ 7) → 7 - l2.toInt ≤ m26 → 7 - l3.toInt < m41 → Ok (k41 (some l0) l1 l2 l3 M) (q_PI b M (-2147483648) (2147483647))) (H : q_HT 0 M) (K_l0 : q_Kd M l0 (11, 0)) (h_l1 : 0 ≤ l1.toInt ∧ l1.toInt ≤ 6) (h_l2 : 0 ≤ l2.toInt ∧ l2.toInt ≤ 6) (h_l3 : 1 ≤ l3.toInt ∧ l3.toInt ≤ 6) (hm26 : 7 - l2.toInt ≤ m26) (hm41 : 7 - l3.toInt ≤ m41) : Ok (F_X11_ways_b75 k26 k41 (some l0) l1 l2 l3 M) (q_PI b M (-2147483648) (2147483647)) := by
  delta F_X11_ways_b75
  have a_1 := i_addc (x := l3) (c := 1) L_1 (by omega) (by omega)
  exact w_PI (q_rf _ _) (hk41 H K_l0 h_l1 h_l2 (by omega) (by omega) (by omega)) (by decide) (by decide)
set_option maxHeartbeats 1000000 in
theorem S_X11_ways_b41 {b : Nat → Bool} {k26 : Option Nat → Int32 → Int32 → gM → Option (Int32 × gM)} {m26 : Int} {k41 : Option Nat → Int32 → Int32 → Int32 → gM → Option (Int32 × gM)} {m41 : Int} {l0 : Nat} {l1 : Int32} {l2 : Int32} {l3 : Int32} {M : gM} (hk26 : ∀ {l0 : Nat} {l1 : Int32} {l2 : Int32} {M : gM}, q_HT 0 M → (q_Kd M l0 (11, 0)) → (0 ≤ l1.toInt ∧ l1.toInt ≤ 6) → (0 ≤ l2.toInt ∧ l2.toInt ≤ 7) → 7 - l2.toInt < m26 → Ok (k26 (some l0) l1 l2 M) (q_PI b M (-2147483648) (2147483647))) (hk41 : ∀ {l0 : Nat} {l1 : Int32} {l2 : Int32} {l3 : Int32} {M : gM}, q_HT 0 M → (q_Kd M l0 (11, 0)) → (0 ≤ l1.toInt ∧ l1.toInt ≤ 6) → (0 ≤ l2.toInt ∧ l2.toInt ≤ 6) → (1 ≤ l3.toInt ∧ l3.toInt ≤ 7) → 7 - l2.toInt ≤ m26 → 7 - l3.toInt < m41 → Ok (k41 (some l0) l1 l2 l3 M) (q_PI b M (-2147483648) (2147483647))) (H : q_HT 0 M) (K_l0 : q_Kd M l0 (11, 0)) (h_l1 : 0 ≤ l1.toInt ∧ l1.toInt ≤ 6) (h_l2 : 0 ≤ l2.toInt ∧ l2.toInt ≤ 6) (h_l3 : 1 ≤ l3.toInt ∧ l3.toInt ≤ 7) (hm26 : 7 - l2.toInt ≤ m26) (hm41 : 7 - l3.toInt ≤ m41) : Ok (F_X11_ways_b41 k26 k41 (some l0) l1 l2 l3 M) (q_PI b M (-2147483648) (2147483647)) := by
  delta F_X11_ways_b41
  refine d_gR (q := (1, 0)) H K_l0 (by decide) rfl (fun v1 r_v1 K_v1 => ?_)
  refine d_gI (lo := 0) (hi := 7) H K_v1 (by decide) rfl (fun v2 q_v2 e_v2 => ?_)
  refine Ok_i (fun c_1 => ?_) (fun c_1 => ?_)
  · skip
    replace c_1 := i_le c_1
    have a_2 := i_addc (x := l2) (c := 1) L_1 (by omega) (by omega)
    exact w_PI (q_rf _ _) (hk26 H K_l0 h_l1 (by omega) (by omega)) (by decide) (by decide)
  · skip
    replace c_1 := i_nle c_1
    refine c_gO K_l0 ?_
    refine Ok_b (S_X11_sharers H K_l0 h_l2 h_l1) (fun v4 e_v4 => ?_)
    clear e_v4
    refine Ok_b (S_X11_bit H) (fun v5 e_v5 => ?_)
    replace e_v5 := q_un e_v5
    refine Ok_i (fun c_3 => ?_) (fun c_3 => ?_)
    · skip
      replace c_3 := i_eq c_3
      rw [L_1] at c_3
      refine d_gR (q := (0, 0)) H K_l0 (by decide) rfl (fun v6 r_v6 K_v6 => ?_)
      refine c_gO K_v6 ?_
      refine Ok_b (S_X0_join (b := b) H K_v6 h_l2 (by omega)) (fun M8 zM8 => ?_)
      obtain ⟨HM8, fM8⟩ := zM8
      have K_4 := (q_mo K_l0 (by decide) fM8)
      exact w_PI fM8 (S_X11_ways_b75 (b := b) hk26 hk41 HM8 K_4 h_l1 h_l2 (by omega) (by omega) (by omega)) (by decide) (by decide)
    · skip
      replace c_3 := i_ne c_3
      rw [L_1] at c_3
      exact w_PI (q_rf _ _) (S_X11_ways_b75 (b := b) hk26 hk41 H K_l0 h_l1 h_l2 (by omega) (by omega) (by omega)) (by decide) (by decide)
theorem S_X11_ways_L41 {b : Nat → Bool} {k26 : Option Nat → Int32 → Int32 → gM → Option (Int32 × gM)} {m26 : Int} (hk26 : ∀ {l0 : Nat} {l1 : Int32} {l2 : Int32} {M : gM}, q_HT 0 M → (q_Kd M l0 (11, 0)) → (0 ≤ l1.toInt ∧ l1.toInt ≤ 6) → (0 ≤ l2.toInt ∧ l2.toInt ≤ 7) → 7 - l2.toInt < m26 → Ok (k26 (some l0) l1 l2 M) (q_PI b M (-2147483648) (2147483647))) : ∀ (n : Nat) {l0 : Nat} {l1 : Int32} {l2 : Int32} {l3 : Int32} {M : gM}, q_HT 0 M → (q_Kd M l0 (11, 0)) → (0 ≤ l1.toInt ∧ l1.toInt ≤ 6) → (0 ≤ l2.toInt ∧ l2.toInt ≤ 6) → (1 ≤ l3.toInt ∧ l3.toInt ≤ 7) → 7 - l2.toInt ≤ m26 → 7 - l3.toInt < (n : Int) → Ok (F_X11_ways_L41 k26 n (some l0) l1 l2 l3 M) (q_PI b M (-2147483648) (2147483647)) := by
  intro n
  induction n with
  | zero =>
    intro l0 l1 l2 l3 M H K_l0 h_l1 h_l2 h_l3 hm26 hm
    exfalso
    omega
  | succ n ih =>
    intro l0 l1 l2 l3 M H K_l0 h_l1 h_l2 h_l3 hm26 hm
    exact S_X11_ways_b41 (b := b) (m41 := 7 - l3.toInt) hk26 (fun H K_l0 h_l1 h_l2 h_l3 hm26 hmz => ih H K_l0 h_l1 h_l2 h_l3 hm26 (by omega)) H K_l0 h_l1 h_l2 h_l3 hm26 (Int.le_refl _)
theorem S_X11_ways_b26 {b : Nat → Bool} {k26 : Option Nat → Int32 → Int32 → gM → Option (Int32 × gM)} {m26 : Int} {l0 : Nat} {l1 : Int32} {l2 : Int32} {M : gM} (hk26 : ∀ {l0 : Nat} {l1 : Int32} {l2 : Int32} {M : gM}, q_HT 0 M → (q_Kd M l0 (11, 0)) → (0 ≤ l1.toInt ∧ l1.toInt ≤ 6) → (0 ≤ l2.toInt ∧ l2.toInt ≤ 7) → 7 - l2.toInt < m26 → Ok (k26 (some l0) l1 l2 M) (q_PI b M (-2147483648) (2147483647))) (H : q_HT 0 M) (K_l0 : q_Kd M l0 (11, 0)) (h_l1 : 0 ≤ l1.toInt ∧ l1.toInt ≤ 6) (h_l2 : 0 ≤ l2.toInt ∧ l2.toInt ≤ 7) (hm26 : 7 - l2.toInt ≤ m26) : Ok (F_X11_ways_b26 k26 (some l0) l1 l2 M) (q_PI b M (-2147483648) (2147483647)) := by
  delta F_X11_ways_b26
  refine d_gR (q := (1, 0)) H K_l0 (by decide) rfl (fun v1 r_v1 K_v1 => ?_)
  refine d_gI (lo := 0) (hi := 7) H K_v1 (by decide) rfl (fun v2 q_v2 e_v2 => ?_)
  refine Ok_i (fun c_1 => ?_) (fun c_1 => ?_)
  · skip
    replace c_1 := i_le c_1
    refine d_gR (q := (0, 0)) H K_l0 (by decide) rfl (fun v3 r_v3 K_v3 => ?_)
    refine c_gO K_v3 ?_
    refine Ok_b (S_X0_howMany (b := b) H K_v3) (fun yM6 zM6 => ?_)
    obtain ⟨v5, M6⟩ := yM6
    obtain ⟨e_v5, HM6, fM6⟩ := zM6
    try dsimp only at e_v5 HM6 fM6
    exact r_PI (i_rng _) HM6 fM6
  · skip
    replace c_1 := i_nle c_1
    have a_2 := i_addc (x := l2) (c := (1 : Int32)) L_1 (by omega) (by omega)
    exact w_PI (q_rf _ _) (S_X11_ways_L41 (b := b) hk26 g_fuel H K_l0 h_l1 (by omega) (by omega) (by omega) (q_fu (by omega))) (by decide) (by decide)
theorem S_X11_ways_L26 {b : Nat → Bool} : ∀ (n : Nat) {l0 : Nat} {l1 : Int32} {l2 : Int32} {M : gM}, q_HT 0 M → (q_Kd M l0 (11, 0)) → (0 ≤ l1.toInt ∧ l1.toInt ≤ 6) → (0 ≤ l2.toInt ∧ l2.toInt ≤ 7) → 7 - l2.toInt < (n : Int) → Ok (F_X11_ways_L26 n (some l0) l1 l2 M) (q_PI b M (-2147483648) (2147483647)) := by
  intro n
  induction n with
  | zero =>
    intro l0 l1 l2 M H K_l0 h_l1 h_l2  hm
    exfalso
    omega
  | succ n ih =>
    intro l0 l1 l2 M H K_l0 h_l1 h_l2  hm
    exact S_X11_ways_b26 (b := b) (m26 := 7 - l2.toInt) (fun H K_l0 h_l1 h_l2  hmz => ih H K_l0 h_l1 h_l2  (by omega)) H K_l0 h_l1 h_l2  (Int.le_refl _)
theorem S_X11_ways_b0 {b : Nat → Bool} {l0 : Nat} {l1 : Int32} {M : gM} (H : q_HT 0 M) (K_l0 : q_Kd M l0 (11, 0)) : Ok (F_X11_ways_b0 (some l0) l1 M) (q_PI b M (-2147483648) (2147483647)) := by
  delta F_X11_ways_b0
  refine c_gO K_l0 ?_
  refine Ok_b (S_X11_isThing H K_l0) (fun v2 e_v2 => ?_)
  obtain ⟨e_v2, w_v2⟩ := e_v2
  refine Ok_i (fun c_1 => ?_) (fun c_1 => ?_)
  · skip
    replace c_1 := i_eq c_1
    rw [L_0] at c_1
    exact r_PI (i_rng _) H (q_rf _ _)
  · skip
    replace c_1 := i_ne c_1
    rw [L_0] at c_1
    have x_v2 := w_v2 (by omega)
    refine d_gR (q := (0, 0)) H K_l0 (by decide) rfl (fun v3 r_v3 K_v3 => ?_)
    refine d_gR (q := (1, 0)) H K_l0 (by decide) rfl (fun v4 r_v4 K_v4 => ?_)
    refine d_gI (lo := 0) (hi := 7) H K_v4 (by decide) rfl (fun v5 q_v5 e_v5 => ?_)
    refine c_gO K_v3 ?_
    refine Ok_b (S_X0_clear (b := b) H K_v3 e_v5) (fun M7 zM7 => ?_)
    obtain ⟨HM7, fM7⟩ := zM7
    have K_2 := (q_mo K_l0 (by decide) fM7)
    exact w_PI fM7 (S_X11_ways_L26 (b := b)  g_fuel HM7 K_2 (by omega) (by decide) (q_fu (by rw [L_0]; omega))) (by decide) (by decide)
theorem S_X11_ways {b : Nat → Bool} {l0 : Nat} {l1 : Int32} {M : gM} (H : q_HT 0 M) (K_l0 : q_Kd M l0 (11, 0)) : Ok (F_X11_ways (some l0) l1 M) (q_PI b M (-2147483648) (2147483647)) := by
  delta F_X11_ways
  exact w_PI (q_rf _ _) (S_X11_ways_b0 (b := b)  H K_l0) (by decide) (by decide)
theorem S_X11_taught_b16  {M : gM} (H : q_HT 0 M) : Ok (F_X11_taught_b16 M) (q_pi (-4) (-1)) := by
  delta F_X11_taught_b16
  exact r_pi (by decide)
set_option maxHeartbeats 1000000 in
theorem S_X11_taught_b0 {l0 : Nat} {l1 : Int32} {l2 : Int32} {M : gM} (H : q_HT 0 M) (K_l0 : q_Kd M l0 (11, 0)) : Ok (F_X11_taught_b0 M (some l0) l1 l2) (q_pi (-4) (-1)) := by
  delta F_X11_taught_b0
  refine c_gO K_l0 ?_
  refine Ok_b (S_X11_isHeir H K_l0) (fun v2 e_v2 => ?_)
  obtain ⟨e_v2, w_v2⟩ := e_v2
  refine Ok_i (fun c_1 => ?_) (fun c_1 => ?_)
  · skip
    replace c_1 := i_eq c_1
    rw [L_0] at c_1
    exact w_pi (S_X11_taught_b16  H) (by decide) (by decide)
  · skip
    replace c_1 := i_ne c_1
    rw [L_0] at c_1
    have x_v2 := w_v2 (by omega)
    refine Ok_b (S_X11_isThing H K_l0) (fun v3 e_v3 => ?_)
    obtain ⟨e_v3, w_v3⟩ := e_v3
    refine Ok_i (fun c_2 => ?_) (fun c_2 => ?_)
    · skip
      replace c_2 := i_eq c_2
      rw [L_0] at c_2
      exact w_pi (S_X11_taught_b16  H) (by decide) (by decide)
    · skip
      replace c_2 := i_ne c_2
      rw [L_0] at c_2
      have x_v3 := w_v3 (by omega)
      refine d_gR (q := (8, 0)) H K_l0 (by decide) rfl (fun v4 r_v4 K_v4 => ?_)
      refine d_gR (q := (1, 0)) H K_l0 (by decide) rfl (fun v5 r_v5 K_v5 => ?_)
      refine c_gO K_v4 ?_
      refine Ok_b (S_X8_errs H K_v4 K_v5 (by omega) (by omega)) (fun v7 e_v7 => ?_)
      replace e_v7 := q_un e_v7
      refine Ok_i (fun c_3 => ?_) (fun c_3 => ?_)
      · skip
        replace c_3 := i_eq c_3
        rw [L_0] at c_3
        exact r_pi (by decide)
      · skip
        replace c_3 := i_ne c_3
        rw [L_0] at c_3
        refine Ok_b (S_X11_sharers H K_l0 (by omega) (by omega)) (fun v8 e_v8 => ?_)
        clear e_v8
        refine Ok_i (fun c_4 => ?_) (fun c_4 => ?_)
        · skip
          replace c_4 := i_eq c_4
          rw [L_0] at c_4
          exact r_pi (by decide)
        · skip
          replace c_4 := i_ne c_4
          rw [L_0] at c_4
          exact r_pi (by decide)
theorem S_X11_taught {l0 : Nat} {l1 : Int32} {l2 : Int32} {M : gM} (H : q_HT 0 M) (K_l0 : q_Kd M l0 (11, 0)) : Ok (F_X11_taught (some l0) l1 l2 M) (q_pi (-4) (-1)) := by
  delta F_X11_taught
  exact w_pi (S_X11_taught_b0  H K_l0) (by decide) (by decide)
theorem S_X11_prompts_b20  {M : gM} (H : q_HT 0 M) : Ok (F_X11_prompts_b20 M) (q_pi (-2147483648) (2147483647)) := by
  delta F_X11_prompts_b20
  exact r_pi (i_rng _)
theorem S_X11_prompts_b132 {k54 : Option Nat → Int32 → Int32 → Int32 → Int32 → Int32 → Int32 → Option Int32} {m54 : Int} {l0 : Nat} {l1 : Int32} {l2 : Int32} {l3 : Int32} {l4 : Int32} {l5 : Int32} {l6 : Int32} {l8 : Int32} {M : gM} (hk54 : ∀ {l0 : Nat} {l1 : Int32} {l2 : Int32} {l3 : Int32} {l4 : Int32} {l5 : Int32} {l6 : Int32}, q_HT 0 M → (q_Kd M l0 (11, 0)) → (0 ≤ l1.toInt ∧ l1.toInt ≤ 6) → (0 ≤ l2.toInt ∧ l2.toInt ≤ 6) → (1 ≤ l3.toInt ∧ l3.toInt ≤ 40) → (0 ≤ l6.toInt ∧ l6.toInt ≤ 40) → 40 - l6.toInt < m54 → Ok (k54 (some l0) l1 l2 l3 l4 l5 l6) (q_pi (-2147483648) (2147483647))) (H : q_HT 0 M) (K_l0 : q_Kd M l0 (11, 0)) (h_l1 : 0 ≤ l1.toInt ∧ l1.toInt ≤ 6) (h_l2 : 0 ≤ l2.toInt ∧ l2.toInt ≤ 6) (h_l3 : 1 ≤ l3.toInt ∧ l3.toInt ≤ 40) (h_l6 : 0 ≤ l6.toInt ∧ l6.toInt ≤ 39) (hm54 : 40 - l6.toInt ≤ m54) : Ok (F_X11_prompts_b132 k54 M (some l0) l1 l2 l3 l4 l5 l6 l8) (q_pi (-2147483648) (2147483647)) := by
  delta F_X11_prompts_b132
  refine Ok_i (fun c_1 => ?_) (fun c_1 => ?_)
  · skip
    replace c_1 := i_lt c_1
    have a_2 := i_addc (x := l6) (c := 1) L_1 (by omega) (by omega)
    exact w_pi (hk54 H K_l0 h_l1 h_l2 h_l3 (by omega) (by omega)) (by decide) (by decide)
  · skip
    replace c_1 := i_nlt c_1
    exact r_pi (i_rng _)
theorem S_X11_prompts_b102 {k54 : Option Nat → Int32 → Int32 → Int32 → Int32 → Int32 → Int32 → Option Int32} {m54 : Int} {k102 : Option Nat → Int32 → Int32 → Int32 → Int32 → Int32 → Int32 → Int32 → Int32 → Option Int32} {m102 : Int} {l0 : Nat} {l1 : Int32} {l2 : Int32} {l3 : Int32} {l4 : Int32} {l5 : Int32} {l6 : Int32} {l8 : Int32} {l9 : Int32} {M : gM} (hk54 : ∀ {l0 : Nat} {l1 : Int32} {l2 : Int32} {l3 : Int32} {l4 : Int32} {l5 : Int32} {l6 : Int32}, q_HT 0 M → (q_Kd M l0 (11, 0)) → (0 ≤ l1.toInt ∧ l1.toInt ≤ 6) → (0 ≤ l2.toInt ∧ l2.toInt ≤ 6) → (1 ≤ l3.toInt ∧ l3.toInt ≤ 40) → (0 ≤ l6.toInt ∧ l6.toInt ≤ 40) → 40 - l6.toInt < m54 → Ok (k54 (some l0) l1 l2 l3 l4 l5 l6) (q_pi (-2147483648) (2147483647))) (hk102 : ∀ {l0 : Nat} {l1 : Int32} {l2 : Int32} {l3 : Int32} {l4 : Int32} {l5 : Int32} {l6 : Int32} {l8 : Int32} {l9 : Int32}, q_HT 0 M → (q_Kd M l0 (11, 0)) → (0 ≤ l1.toInt ∧ l1.toInt ≤ 6) → (0 ≤ l2.toInt ∧ l2.toInt ≤ 6) → (1 ≤ l3.toInt ∧ l3.toInt ≤ 40) → (0 ≤ l6.toInt ∧ l6.toInt ≤ 39) → (0 ≤ l9.toInt ∧ l9.toInt ≤ 10) → 40 - l6.toInt ≤ m54 → 10 - l9.toInt < m102 → Ok (k102 (some l0) l1 l2 l3 l4 l5 l6 l8 l9) (q_pi (-2147483648) (2147483647))) (H : q_HT 0 M) (K_l0 : q_Kd M l0 (11, 0)) (h_l1 : 0 ≤ l1.toInt ∧ l1.toInt ≤ 6) (h_l2 : 0 ≤ l2.toInt ∧ l2.toInt ≤ 6) (h_l3 : 1 ≤ l3.toInt ∧ l3.toInt ≤ 40) (h_l6 : 0 ≤ l6.toInt ∧ l6.toInt ≤ 39) (h_l9 : 0 ≤ l9.toInt ∧ l9.toInt ≤ 10) (hm54 : 40 - l6.toInt ≤ m54) (hm102 : 10 - l9.toInt ≤ m102) : Ok (F_X11_prompts_b102 k54 k102 M (some l0) l1 l2 l3 l4 l5 l6 l8 l9) (q_pi (-2147483648) (2147483647)) := by
  delta F_X11_prompts_b102
  refine Ok_i (fun c_1 => ?_) (fun c_1 => ?_)
  · skip
    replace c_1 := i_le c_1
    rw [L_10] at c_1
    exact w_pi (S_X11_prompts_b132 hk54 H K_l0 h_l1 h_l2 h_l3 h_l6 (by omega)) (by decide) (by decide)
  · skip
    replace c_1 := i_nle c_1
    rw [L_10] at c_1
    refine Ok_i (fun c_2 => ?_) (fun c_2 => ?_)
    · skip
      replace c_2 := i_lt c_2
      exact w_pi (S_X11_prompts_b132 hk54 H K_l0 h_l1 h_l2 h_l3 h_l6 (by omega)) (by decide) (by decide)
    · skip
      replace c_2 := i_nlt c_2
      refine Ok_b (S_X11_prompted H) (fun v1 e_v1 => ?_)
      clear e_v1
      have a_3 := i_addc (x := l9) (c := 1) L_1 (by omega) (by omega)
      exact w_pi (hk102 H K_l0 h_l1 h_l2 h_l3 h_l6 (by omega) (by omega) (by omega)) (by decide) (by decide)
theorem S_X11_prompts_L102 {k54 : Option Nat → Int32 → Int32 → Int32 → Int32 → Int32 → Int32 → Option Int32} {m54 : Int} {M : gM} (hk54 : ∀ {l0 : Nat} {l1 : Int32} {l2 : Int32} {l3 : Int32} {l4 : Int32} {l5 : Int32} {l6 : Int32}, q_HT 0 M → (q_Kd M l0 (11, 0)) → (0 ≤ l1.toInt ∧ l1.toInt ≤ 6) → (0 ≤ l2.toInt ∧ l2.toInt ≤ 6) → (1 ≤ l3.toInt ∧ l3.toInt ≤ 40) → (0 ≤ l6.toInt ∧ l6.toInt ≤ 40) → 40 - l6.toInt < m54 → Ok (k54 (some l0) l1 l2 l3 l4 l5 l6) (q_pi (-2147483648) (2147483647))) : ∀ (n : Nat) {l0 : Nat} {l1 : Int32} {l2 : Int32} {l3 : Int32} {l4 : Int32} {l5 : Int32} {l6 : Int32} {l8 : Int32} {l9 : Int32}, q_HT 0 M → (q_Kd M l0 (11, 0)) → (0 ≤ l1.toInt ∧ l1.toInt ≤ 6) → (0 ≤ l2.toInt ∧ l2.toInt ≤ 6) → (1 ≤ l3.toInt ∧ l3.toInt ≤ 40) → (0 ≤ l6.toInt ∧ l6.toInt ≤ 39) → (0 ≤ l9.toInt ∧ l9.toInt ≤ 10) → 40 - l6.toInt ≤ m54 → 10 - l9.toInt < (n : Int) → Ok (F_X11_prompts_L102 k54 M n (some l0) l1 l2 l3 l4 l5 l6 l8 l9) (q_pi (-2147483648) (2147483647)) := by
  intro n
  induction n with
  | zero =>
    intro l0 l1 l2 l3 l4 l5 l6 l8 l9 H K_l0 h_l1 h_l2 h_l3 h_l6 h_l9 hm54 hm
    exfalso
    omega
  | succ n ih =>
    intro l0 l1 l2 l3 l4 l5 l6 l8 l9 H K_l0 h_l1 h_l2 h_l3 h_l6 h_l9 hm54 hm
    exact S_X11_prompts_b102 (m102 := 10 - l9.toInt) hk54 (fun H K_l0 h_l1 h_l2 h_l3 h_l6 h_l9 hm54 hmz => ih H K_l0 h_l1 h_l2 h_l3 h_l6 h_l9 hm54 (by omega)) H K_l0 h_l1 h_l2 h_l3 h_l6 h_l9 hm54 (Int.le_refl _)
theorem S_X11_prompts_b54 {k54 : Option Nat → Int32 → Int32 → Int32 → Int32 → Int32 → Int32 → Option Int32} {m54 : Int} {l0 : Nat} {l1 : Int32} {l2 : Int32} {l3 : Int32} {l4 : Int32} {l5 : Int32} {l6 : Int32} {M : gM} (hk54 : ∀ {l0 : Nat} {l1 : Int32} {l2 : Int32} {l3 : Int32} {l4 : Int32} {l5 : Int32} {l6 : Int32}, q_HT 0 M → (q_Kd M l0 (11, 0)) → (0 ≤ l1.toInt ∧ l1.toInt ≤ 6) → (0 ≤ l2.toInt ∧ l2.toInt ≤ 6) → (1 ≤ l3.toInt ∧ l3.toInt ≤ 40) → (0 ≤ l6.toInt ∧ l6.toInt ≤ 40) → 40 - l6.toInt < m54 → Ok (k54 (some l0) l1 l2 l3 l4 l5 l6) (q_pi (-2147483648) (2147483647))) (H : q_HT 0 M) (K_l0 : q_Kd M l0 (11, 0)) (h_l1 : 0 ≤ l1.toInt ∧ l1.toInt ≤ 6) (h_l2 : 0 ≤ l2.toInt ∧ l2.toInt ≤ 6) (h_l3 : 1 ≤ l3.toInt ∧ l3.toInt ≤ 40) (h_l6 : 0 ≤ l6.toInt ∧ l6.toInt ≤ 40) (hm54 : 40 - l6.toInt ≤ m54) : Ok (F_X11_prompts_b54 k54 M (some l0) l1 l2 l3 l4 l5 l6) (q_pi (-2147483648) (2147483647)) := by
  delta F_X11_prompts_b54
  refine Ok_i (fun c_1 => ?_) (fun c_1 => ?_)
  · skip
    replace c_1 := i_le c_1
    exact r_pi (i_rng _)
  · skip
    replace c_1 := i_nle c_1
    refine d_gR (q := (8, 0)) H K_l0 (by decide) rfl (fun v1 r_v1 K_v1 => ?_)
    refine d_gR (q := (20, 7)) H K_v1 (by decide) rfl (fun v2 r_v2 K_v2 => ?_)
    refine c_aI K_v2 (by omega) (by omega) (fun v3 => ?_)
    refine d_gR (q := (1, 0)) H K_l0 (by decide) rfl (fun v4 r_v4 K_v4 => ?_)
    refine c_gRs K_l0 r_v1 ?_
    refine c_gIt K_v1 (fun v6 q_v6 => ?_)
    refine c_gO K_v4 ?_
    refine Ok_b (S_X1_plainLoss H K_v4 h_l1 h_l2) (fun v8 e_v8 => ?_)
    clear e_v8
    exact w_pi (S_X11_prompts_L102 hk54 g_fuel H K_l0 h_l1 h_l2 h_l3 (by omega) (by decide) (by omega) (q_fu (by rw [L_0]; omega))) (by decide) (by decide)
theorem S_X11_prompts_L54 {M : gM} : ∀ (n : Nat) {l0 : Nat} {l1 : Int32} {l2 : Int32} {l3 : Int32} {l4 : Int32} {l5 : Int32} {l6 : Int32}, q_HT 0 M → (q_Kd M l0 (11, 0)) → (0 ≤ l1.toInt ∧ l1.toInt ≤ 6) → (0 ≤ l2.toInt ∧ l2.toInt ≤ 6) → (1 ≤ l3.toInt ∧ l3.toInt ≤ 40) → (0 ≤ l6.toInt ∧ l6.toInt ≤ 40) → 40 - l6.toInt < (n : Int) → Ok (F_X11_prompts_L54 M n (some l0) l1 l2 l3 l4 l5 l6) (q_pi (-2147483648) (2147483647)) := by
  intro n
  induction n with
  | zero =>
    intro l0 l1 l2 l3 l4 l5 l6 H K_l0 h_l1 h_l2 h_l3 h_l6  hm
    exfalso
    omega
  | succ n ih =>
    intro l0 l1 l2 l3 l4 l5 l6 H K_l0 h_l1 h_l2 h_l3 h_l6  hm
    exact S_X11_prompts_b54 (m54 := 40 - l6.toInt) (fun H K_l0 h_l1 h_l2 h_l3 h_l6  hmz => ih H K_l0 h_l1 h_l2 h_l3 h_l6  (by omega)) H K_l0 h_l1 h_l2 h_l3 h_l6  (Int.le_refl _)
set_option maxHeartbeats 1000000 in
theorem S_X11_prompts_b0 {l0 : Nat} {l1 : Int32} {l2 : Int32} {l3 : Int32} {M : gM} (H : q_HT 0 M) (K_l0 : q_Kd M l0 (11, 0)) : Ok (F_X11_prompts_b0 M (some l0) l1 l2 l3) (q_pi (-2147483648) (2147483647)) := by
  delta F_X11_prompts_b0
  refine c_gO K_l0 ?_
  refine Ok_b (S_X11_isKnown H K_l0) (fun v2 e_v2 => ?_)
  obtain ⟨e_v2, w_v2⟩ := e_v2
  refine Ok_i (fun c_1 => ?_) (fun c_1 => ?_)
  · skip
    replace c_1 := i_eq c_1
    rw [L_0] at c_1
    exact w_pi (S_X11_prompts_b20  H) (by decide) (by decide)
  · skip
    replace c_1 := i_ne c_1
    rw [L_0] at c_1
    have x_v2 := w_v2 (by omega)
    refine Ok_i (fun c_2 => ?_) (fun c_2 => ?_)
    · skip
      replace c_2 := i_lt c_2
      rw [L_1] at c_2
      exact w_pi (S_X11_prompts_b20  H) (by decide) (by decide)
    · skip
      replace c_2 := i_nlt c_2
      rw [L_1] at c_2
      refine Ok_i (fun c_3 => ?_) (fun c_3 => ?_)
      · skip
        replace c_3 := i_le c_3
        rw [L_40] at c_3
        refine Ok_b (S_X11_ruleInForce H K_l0) (fun v3 e_v3 => ?_)
        rcases e_v3 with w_4 | ⟨v3_p, w_4, KN_v3⟩
        · subst w_4
          refine Ok_t rfl ?_
          refine d_gR (q := (8, 0)) H K_l0 (by decide) rfl (fun v4 r_v4 K_v4 => ?_)
          refine d_gR (q := (20, 49)) H K_v4 (by decide) rfl (fun v5 r_v5 K_v5 => ?_)
          have a_5 := i_mulR (x := l1) (c := (7 : Int32)) L_7 (by omega) (by omega)
          have a_6 := i_add (x := (l1 * (7 : Int32))) (y := l2) (by omega) (by omega)
          refine c_aI K_v5 (by omega) (by omega) (fun v6 => ?_)
          exact w_pi (S_X11_prompts_L54  g_fuel H K_l0 (by omega) (by omega) (by omega) (by decide) (q_fu (by rw [L_0]; omega))) (by decide) (by decide)
        · subst w_4
          refine Ok_e (by simp) ?_
          exact r_pi (i_rng _)
      · skip
        replace c_3 := i_nle c_3
        rw [L_40] at c_3
        exact w_pi (S_X11_prompts_b20  H) (by decide) (by decide)
theorem S_X11_prompts {l0 : Nat} {l1 : Int32} {l2 : Int32} {l3 : Int32} {M : gM} (H : q_HT 0 M) (K_l0 : q_Kd M l0 (11, 0)) : Ok (F_X11_prompts (some l0) l1 l2 l3 M) (q_pi (-2147483648) (2147483647)) := by
  delta F_X11_prompts
  exact w_pi (S_X11_prompts_b0  H K_l0) (by decide) (by decide)
theorem S_X11_cost_b40 {b : Nat → Bool}  {M : gM} (H : q_HT 0 M) : Ok (F_X11_cost_b40 M) (q_PI b M (-2147483648) (2147483647)) := by
  delta F_X11_cost_b40
  exact r_PI (i_rng _) H (q_rf _ _)
theorem S_X11_cost_b101 {b : Nat → Bool}  {M : gM} (H : q_HT 0 M) : Ok (F_X11_cost_b101 M) (q_PI b M (-2147483648) (2147483647)) := by
  delta F_X11_cost_b101
  exact r_PI (i_rng _) H (q_rf _ _)
set_option maxHeartbeats 1000000 in
theorem S_X11_cost_b0 {b : Nat → Bool} {l0 : Nat} {l1 : Int32} {M : gM} (H : q_HT 0 M) (K_l0 : q_Kd M l0 (11, 0)) : Ok (F_X11_cost_b0 (some l0) l1 M) (q_PI b M (-2147483648) (2147483647)) := by
  delta F_X11_cost_b0
  refine c_gO K_l0 ?_
  refine Ok_b (S_X11_isThing H K_l0) (fun v2 e_v2 => ?_)
  obtain ⟨e_v2, w_v2⟩ := e_v2
  refine Ok_i (fun c_1 => ?_) (fun c_1 => ?_)
  · skip
    replace c_1 := i_eq c_1
    rw [L_0] at c_1
    exact r_PI (i_rng _) H (q_rf _ _)
  · skip
    replace c_1 := i_ne c_1
    rw [L_0] at c_1
    have x_v2 := w_v2 (by omega)
    refine d_gR (q := (8, 0)) H K_l0 (by decide) rfl (fun v3 r_v3 K_v3 => ?_)
    refine c_gIt K_v3 (fun v4 q_v4 => ?_)
    refine Ok_b (S_X11_bit H) (fun v5 e_v5 => ?_)
    replace e_v5 := q_un e_v5
    refine Ok_i (fun c_2 => ?_) (fun c_2 => ?_)
    · skip
      replace c_2 := i_eq c_2
      rw [L_1] at c_2
      exact w_PI (q_rf _ _) (S_X11_cost_b40 (b := b)  H) (by decide) (by decide)
    · skip
      replace c_2 := i_ne c_2
      rw [L_1] at c_2
      refine c_gRs K_l0 r_v3 ?_
      refine d_gR (q := (20, 7)) H K_v3 (by decide) rfl (fun v7 r_v7 K_v7 => ?_)
      refine c_aI K_v7 (by omega) (by omega) (fun v8 => ?_)
      refine Ok_i (fun c_3 => ?_) (fun c_3 => ?_)
      · skip
        replace c_3 := i_eq c_3
        rw [L_m1] at c_3
        refine d_gR (q := (8, 0)) H K_l0 (by decide) rfl (fun v9 r_v9 K_v9 => ?_)
        refine c_gRs K_l0 r_v3 ?_
        refine c_gO K_v9 ?_
        refine Ok_b (S_X8_copy (b := b) H K_v9 K_v3) (fun M12 zM12 => ?_)
        obtain ⟨HM12, fM12⟩ := zM12
        have K_4 := (q_mo K_l0 (by decide) fM12)
        refine c_gC K_4 ?_
        refine Ok_b (S_X11_strikeLater (b := b) HM12 K_4 (by omega)) (fun yM15 zM15 => ?_)
        obtain ⟨v14, M15⟩ := yM15
        obtain ⟨e_v14, HM15, fM15⟩ := zM15
        try dsimp only at e_v14 HM15 fM15
        have g_5 := q_tr fM12 fM15
        have K_6 := (q_mo K_4 (by decide) fM15)
        refine d_gR (q := (8, 0)) HM15 K_6 (by decide) rfl (fun v16 r_v16 K_v16 => ?_)
        refine d_gR (q := (8, 0)) HM15 K_6 (by decide) rfl (fun v17 r_v17 K_v17 => ?_)
        refine c_gO K_v16 ?_
        refine Ok_b (S_X8_copy (b := b) HM15 K_v16 K_v17) (fun M19 zM19 => ?_)
        obtain ⟨HM19, fM19⟩ := zM19
        have g_7 := q_tr g_5 fM19
        have K_8 := (q_mo K_6 (by decide) fM19)
        refine d_gR (q := (8, 0)) HM19 K_8 (by decide) rfl (fun v20 r_v20 K_v20 => ?_)
        refine c_gIt K_v20 (fun v21 q_v21 => ?_)
        refine c_pI (b := b) (lo := -2147483648) (hi := 2147483647) HM19 K_v20 (by decide) rfl (i_rng _) rfl (fun M22 HM22 fM22 q_M22 o_M22 rr_M22 => ?_)
        have r_9 := (congrFun (congrFun rr_M22 _) 6).trans r_v20
        have g_10 := q_tr g_7 fM22
        have K_11 := (q_mo K_8 (by decide) fM22)
        refine c_gC K_11 ?_
        refine Ok_b (S_X11_strikeLater (b := b) HM22 K_11 (by omega)) (fun yM25 zM25 => ?_)
        obtain ⟨v24, M25⟩ := yM25
        obtain ⟨e_v24, HM25, fM25⟩ := zM25
        try dsimp only at e_v24 HM25 fM25
        have g_12 := q_tr g_10 fM25
        refine Ok_i (fun c_13 => ?_) (fun c_13 => ?_)
        · skip
          replace c_13 := i_eq c_13
          rw [L_m1] at c_13
          exact w_PI g_12 (S_X11_cost_b101 (b := b)  HM25) (by decide) (by decide)
        · skip
          replace c_13 := i_ne c_13
          rw [L_m1] at c_13
          refine Ok_i (fun c_14 => ?_) (fun c_14 => ?_)
          · skip
            replace c_14 := i_eq c_14
            rw [L_m1] at c_14
            exact w_PI g_12 (S_X11_cost_b101 (b := b)  HM25) (by decide) (by decide)
          · skip
            replace c_14 := i_ne c_14
            rw [L_m1] at c_14
            exact r_PI (i_rng _) HM25 g_12
      · skip
        replace c_3 := i_ne c_3
        rw [L_m1] at c_3
        exact w_PI (q_rf _ _) (S_X11_cost_b40 (b := b)  H) (by decide) (by decide)
theorem S_X11_cost {b : Nat → Bool} {l0 : Nat} {l1 : Int32} {M : gM} (H : q_HT 0 M) (K_l0 : q_Kd M l0 (11, 0)) : Ok (F_X11_cost (some l0) l1 M) (q_PI b M (-2147483648) (2147483647)) := by
  delta F_X11_cost
  exact w_PI (q_rf _ _) (S_X11_cost_b0 (b := b)  H K_l0) (by decide) (by decide)
theorem j_bm {n : Int} (h1 : -9223372036854775808 ≤ n) (h2 : n ≤ 9223372036854775807) : n.bmod 18446744073709551616 = n := by
  rw [Int.bmod_def]
  split <;> omega
theorem q_lcg {v : Int32} (h : 0 ≤ v.toInt ∧ v.toInt ≤ 2147483647) : (((((v).toInt64 * (1103515245 : Int64)) + (12345 : Int64)) - (((v).toInt64 * (1103515245 : Int64)) + (12345 : Int64)) / (2147483648 : Int64) * (2147483648 : Int64))).toInt32.toInt = (v.toInt * 1103515245 + 12345) % 2147483648 := by
  have h0 : (v.toInt64).toInt = v.toInt := Int32.toInt_toInt64 v
  have h1 : (v.toInt64 * (1103515245 : Int64)).toInt = v.toInt * 1103515245 := by
    rw [Int64.toInt_mul, h0]
    exact j_bm (by show -9223372036854775808 ≤ v.toInt * 1103515245; omega) (by show v.toInt * 1103515245 ≤ 9223372036854775807; omega)
  generalize v.toInt64 * (1103515245 : Int64) = p at h1 ⊢
  have h2 : (p + (12345 : Int64)).toInt = v.toInt * 1103515245 + 12345 := by
    rw [Int64.toInt_add, h1]
    exact j_bm (by show -9223372036854775808 ≤ v.toInt * 1103515245 + 12345; omega) (by show v.toInt * 1103515245 + 12345 ≤ 9223372036854775807; omega)
  generalize p + (12345 : Int64) = e at h2 ⊢
  have z : (2147483648 : Int64).toInt = 2147483648 := rfl
  have h3 : (e / (2147483648 : Int64)).toInt = e.toInt / 2147483648 := by
    rw [Int64.toInt_div, z, Int.tdiv_eq_ediv_of_nonneg (by omega)]
    exact j_bm (by omega) (by omega)
  generalize e / (2147483648 : Int64) = d at h3 ⊢
  have h4 : (d * (2147483648 : Int64)).toInt = d.toInt * 2147483648 := by
    rw [Int64.toInt_mul, z]
    exact j_bm (by omega) (by omega)
  generalize d * (2147483648 : Int64) = w at h4 ⊢
  have h5 : (e - w).toInt = e.toInt % 2147483648 := by
    rw [Int64.toInt_sub]
    have : e.toInt - w.toInt = e.toInt % 2147483648 := by omega
    rw [this]
    exact j_bm (by omega) (by omega)
  rw [Int64.toInt_toInt32, h5, h2]
  exact i_bm (by omega) (by omega)
theorem S_X11_draw2 {l0 : Nat} {M : gM} (H : q_HT 0 M) (K_l0 : q_Kd M l0 (11, 0)) : Ok (F_X11_draw (some l0) M) (fun r => q_PI q_bd M 0 32767 r ∧ ((∀ j a, j ≠ l0 ∨ a ≠ 14 → r.2.2.1 j a = M.2.1 j a) ∧ r.2.2.2.2 = M.2.2.2)) := by
  delta F_X11_draw F_X11_draw_b0
  refine d_gI (lo := 0) (hi := 2147483647) H K_l0 (by decide) rfl (fun v1 q1 e1 => ?_)
  have hl := q_lcg e1
  refine c_pI (b := q_bd) (lo := 0) (hi := 2147483647) H K_l0 (by decide) rfl (by omega) rfl (fun M2 H2 f2 q2 o2 rr2 => ?_)
  refine c_gIs (q_mo K_l0 (by decide) f2) q2 (fun v3 e3 => ?_)
  have t3 := congrArg Int32.toInt e3
  have z : (65536 : Int32).toInt = 65536 := rfl
  have d := i_div (x := v3) z (by decide) (by omega)
  exact Ok_s ⟨⟨⟨by dsimp only; omega, by dsimp only; omega⟩, H2, f2⟩, o2, rr2⟩
theorem S_X11_draw {l0 : Nat} {M : gM} (H : q_HT 0 M) (K_l0 : q_Kd M l0 (11, 0)) : Ok (F_X11_draw (some l0) M) (q_PI q_bd M 0 32767) := Ok_w (S_X11_draw2 H K_l0) (fun _ z => z.1)
theorem S_X11_drinkLater_b72 {k2 : Option Nat → Int32 → gM → Option gM} {m2 : Int} {l0 : Nat} {l1 : Int32} {M : gM} (hk2 : ∀ {l0 : Nat} {l1 : Int32} {M : gM}, q_HT 0 M → (q_Kd M l0 (11, 0)) → (0 ≤ l1.toInt ∧ l1.toInt ≤ 7) → 7 - l1.toInt < m2 → Ok (k2 (some l0) l1 M) (q_PV q_bd M)) (H : q_HT 0 M) (K_l0 : q_Kd M l0 (11, 0)) (h_l1 : 0 ≤ l1.toInt ∧ l1.toInt ≤ 6) (hm2 : 7 - l1.toInt ≤ m2) : Ok (F_X11_drinkLater_b72 k2 (some l0) l1 M) (q_PV q_bd M) := by
  delta F_X11_drinkLater_b72
  have a_1 := i_addc (x := l1) (c := 1) L_1 (by omega) (by omega)
  exact w_PV (q_rf _ _) (hk2 H K_l0 (by omega) (by omega))
set_option maxHeartbeats 1000000 in
theorem S_X11_drinkLater_b37 {k2 : Option Nat → Int32 → gM → Option gM} {m2 : Int} {l0 : Nat} {l1 : Int32} {s0 : Int32} {M : gM} (hk2 : ∀ {l0 : Nat} {l1 : Int32} {M : gM}, q_HT 0 M → (q_Kd M l0 (11, 0)) → (0 ≤ l1.toInt ∧ l1.toInt ≤ 7) → 7 - l1.toInt < m2 → Ok (k2 (some l0) l1 M) (q_PV q_bd M)) (H : q_HT 0 M) (K_l0 : q_Kd M l0 (11, 0)) (h_l1 : 0 ≤ l1.toInt ∧ l1.toInt ≤ 6) (h_s0 : 0 ≤ s0.toInt ∧ s0.toInt ≤ 1) (hm2 : 7 - l1.toInt ≤ m2) : Ok (F_X11_drinkLater_b37 k2 (some l0) l1 s0 M) (q_PV q_bd M) := by
  delta F_X11_drinkLater_b37
  have z0 : (0 : Int32).toInt = 0 := rfl
  have z1 : (1 : Int32).toInt = 1 := rfl
  have step : ∀ {M1 : gM}, q_HT 0 M1 → q_Fr q_bd M M1 → Ok (F_X11_drinkLater_b72 k2 (some l0) l1 M1) (q_PV q_bd M) := by
    intro M1 H1 f1
    delta F_X11_drinkLater_b72
    have a := i_addc (x := l1) (c := 1) z1 (by omega) (by omega)
    exact w_PV f1 (hk2 H1 (q_mo K_l0 (by decide) f1) (by omega) (by omega))
  refine Ok_i (fun c => step H (q_rf _ _)) (fun c => ?_)
  refine d_gR (q := (1, 0)) H K_l0 (by decide) rfl (fun v1 r1 K1 => ?_)
  refine d_gI (lo := 0) (hi := 7) H K1 (by decide) rfl (fun v2 q2 e2 => ?_)
  refine Ok_i (fun c2 => step H (q_rf _ _)) (fun c2 => ?_)
  have d2 := i_nle c2
  refine d_gR (q := (8, 0)) H K_l0 (by decide) rfl (fun v3 r3 K3 => ?_)
  refine c_gO K_l0 ?_
  refine Ok_b (S_X11_draw2 H K_l0) (fun y z => ?_)
  obtain ⟨v5, M6⟩ := y
  obtain ⟨⟨e5, H6, f6⟩, o6, rr6⟩ := z
  dsimp only at e5 H6 f6 o6 rr6
  have Ka := q_mo K_l0 (by decide) f6
  refine c_gRs Ka ((congrFun (congrFun rr6 _) 11).trans r1) ?_
  refine c_gIs (q_mo K1 (by decide) f6) ((o6 _ _ (Or.inr (by decide))).trans q2) (fun v8 e8 => ?_)
  have t8 := congrArg Int32.toInt e8
  refine Ok_e (i_nz (by omega)) ?_
  refine c_gO (q_mo K3 (by decide) f6) ?_
  have m := i_modV (x := v5) (c := v8) (by omega) (by omega)
  refine Ok_b (S_X8_forget (b := q_bd) H6 (q_mo K3 (by decide) f6) (by omega) (by omega)) (fun M11 z => ?_)
  exact step z.1 (q_tr f6 z.2)
set_option maxHeartbeats 1000000 in
theorem S_X11_drinkLater_b2 {k2 : Option Nat → Int32 → gM → Option gM} {m2 : Int} {l0 : Nat} {l1 : Int32} {M : gM} (hk2 : ∀ {l0 : Nat} {l1 : Int32} {M : gM}, q_HT 0 M → (q_Kd M l0 (11, 0)) → (0 ≤ l1.toInt ∧ l1.toInt ≤ 7) → 7 - l1.toInt < m2 → Ok (k2 (some l0) l1 M) (q_PV q_bd M)) (H : q_HT 0 M) (K_l0 : q_Kd M l0 (11, 0)) (h_l1 : 0 ≤ l1.toInt ∧ l1.toInt ≤ 7) (hm2 : 7 - l1.toInt ≤ m2) : Ok (F_X11_drinkLater_b2 k2 (some l0) l1 M) (q_PV q_bd M) := by
  delta F_X11_drinkLater_b2
  refine d_gR (q := (1, 0)) H K_l0 (by decide) rfl (fun v1 r_v1 K_v1 => ?_)
  refine d_gI (lo := 0) (hi := 7) H K_v1 (by decide) rfl (fun v2 q_v2 e_v2 => ?_)
  refine Ok_i (fun c_1 => ?_) (fun c_1 => ?_)
  · skip
    replace c_1 := i_le c_1
    exact r_PV H (q_rf _ _)
  · skip
    replace c_1 := i_nle c_1
    refine c_gO K_l0 ?_
    refine Ok_b (S_X11_draw H K_l0) (fun yM5 zM5 => ?_)
    obtain ⟨v4, M5⟩ := yM5
    obtain ⟨e_v4, HM5, fM5⟩ := zM5
    try dsimp only at e_v4 HM5 fM5
    have K_2 := (q_mo K_l0 (by decide) fM5)
    refine d_gR (q := (1, 0)) HM5 K_2 (by decide) rfl (fun v6 r_v6 K_v6 => ?_)
    refine d_gR (q := (20, 7)) HM5 K_v6 (by decide) rfl (fun v7 r_v7 K_v7 => ?_)
    refine c_aI K_v7 (by omega) (by omega) (fun v8 => ?_)
    have a_3 := i_mod (x := v4) (c := (100 : Int32)) (n := 100) L_100 (by decide) (by omega)
    refine Ok_i (fun c_4 => ?_) (fun c_4 => ?_)
    · skip
      replace c_4 := i_le c_4
      exact w_PV fM5 (S_X11_drinkLater_b37 hk2 HM5 K_2 (by omega) (by decide) (by omega))
    · skip
      replace c_4 := i_nle c_4
      exact w_PV fM5 (S_X11_drinkLater_b37 hk2 HM5 K_2 (by omega) (by decide) (by omega))
theorem S_X11_drinkLater_L2 : ∀ (n : Nat) {l0 : Nat} {l1 : Int32} {M : gM}, q_HT 0 M → (q_Kd M l0 (11, 0)) → (0 ≤ l1.toInt ∧ l1.toInt ≤ 7) → 7 - l1.toInt < (n : Int) → Ok (F_X11_drinkLater_L2 n (some l0) l1 M) (q_PV q_bd M) := by
  intro n
  induction n with
  | zero =>
    intro l0 l1 M H K_l0 h_l1  hm
    exfalso
    omega
  | succ n ih =>
    intro l0 l1 M H K_l0 h_l1  hm
    exact S_X11_drinkLater_b2 (m2 := 7 - l1.toInt) (fun H K_l0 h_l1  hmz => ih H K_l0 h_l1  (by omega)) H K_l0 h_l1  (Int.le_refl _)
theorem S_X11_drinkLater_b0 {l0 : Nat} {M : gM} (H : q_HT 0 M) (K_l0 : q_Kd M l0 (11, 0)) : Ok (F_X11_drinkLater_b0 (some l0) M) (q_PV q_bd M) := by
  delta F_X11_drinkLater_b0
  exact w_PV (q_rf _ _) (S_X11_drinkLater_L2  g_fuel H K_l0 (by decide) (q_fu (by rw [L_0]; omega)))
theorem S_X11_drinkLater {l0 : Nat} {M : gM} (H : q_HT 0 M) (K_l0 : q_Kd M l0 (11, 0)) : Ok (F_X11_drinkLater (some l0) M) (q_PV q_bd M) := by
  delta F_X11_drinkLater
  exact w_PV (q_rf _ _) (S_X11_drinkLater_b0  H K_l0)
theorem S_X11_drawn_b41  {M : gM} (H : q_HT 0 M) : Ok (F_X11_drawn_b41 M) (q_PI q_bd M (-2147483648) (2147483647)) := by
  delta F_X11_drawn_b41
  exact r_PI (i_rng _) H (q_rf _ _)
theorem S_X11_drawn_b145 {k55 : Option Nat → Int32 → Int32 → Int32 → Int32 → Int32 → Int32 → gM → Option (Int32 × gM)} {m55 : Int} {l0 : Nat} {l1 : Int32} {l2 : Int32} {l3 : Int32} {l4 : Int32} {l6 : Int32} {s0 : Int32} {s1 : Int32} {M : gM} (hk55 : ∀ {l0 : Nat} {l1 : Int32} {l2 : Int32} {l3 : Int32} {l4 : Int32} {l5 : Int32} {l6 : Int32} {M : gM}, q_HT 0 M → (q_Kd M l0 (11, 0)) → (1 ≤ l1.toInt ∧ l1.toInt ≤ 10) → (1 ≤ l2.toInt ∧ l2.toInt ≤ 60) → (0 ≤ l3.toInt ∧ l3.toInt ≤ 1) → (0 ≤ l4.toInt) → (0 ≤ l6.toInt ∧ l6.toInt ≤ 11) → 11 - l6.toInt < m55 → Ok (k55 (some l0) l1 l2 l3 l4 l5 l6 M) (q_PX M (-2147483648) (2147483647) l0 l4)) (H : q_HT 0 M) (K_l0 : q_Kd M l0 (11, 0)) (h_l1 : 1 ≤ l1.toInt ∧ l1.toInt ≤ 10) (h_l2 : 1 ≤ l2.toInt ∧ l2.toInt ≤ 60) (h_l3 : 0 ≤ l3.toInt ∧ l3.toInt ≤ 1) (h_l4 : 0 ≤ l4.toInt) (h_l6 : 0 ≤ l6.toInt ∧ l6.toInt ≤ 10) (hm55 : 11 - l6.toInt ≤ m55) : Ok (F_X11_drawn_b145 k55 (some l0) l1 l2 l3 l4 l6 s0 s1 M) (q_PX M (-2147483648) (2147483647) l0 l4) := by
  delta F_X11_drawn_b145
  have a_1 := i_addc (x := l6) (c := 1) L_1 (by omega) (by omega)
  exact w_PX (q_rf _ _) (hk55 H K_l0 h_l1 h_l2 h_l3 (by omega) (by omega) (by omega)) (by decide) (by decide)
set_option maxHeartbeats 1000000 in
theorem S_X11_drawn_b75 {k55 : Option Nat → Int32 → Int32 → Int32 → Int32 → Int32 → Int32 → gM → Option (Int32 × gM)} {m55 : Int} {k75 : Option Nat → Int32 → Int32 → Int32 → Int32 → Int32 → Int32 → Int32 → gM → Option (Int32 × gM)} {m75 : Int} {l0 : Nat} {l1 : Int32} {l2 : Int32} {l3 : Int32} {l4 : Int32} {l5 : Int32} {l6 : Int32} {l7 : Int32} {M : gM} (hk55 : ∀ {l0 : Nat} {l1 : Int32} {l2 : Int32} {l3 : Int32} {l4 : Int32} {l5 : Int32} {l6 : Int32} {M : gM}, q_HT 0 M → (q_Kd M l0 (11, 0)) → (1 ≤ l1.toInt ∧ l1.toInt ≤ 10) → (1 ≤ l2.toInt ∧ l2.toInt ≤ 60) → (0 ≤ l3.toInt ∧ l3.toInt ≤ 1) → (0 ≤ l4.toInt) → (0 ≤ l6.toInt ∧ l6.toInt ≤ 11) → 11 - l6.toInt < m55 → Ok (k55 (some l0) l1 l2 l3 l4 l5 l6 M) (q_PX M (-2147483648) (2147483647) l0 l4)) (hk75 : ∀ {l0 : Nat} {l1 : Int32} {l2 : Int32} {l3 : Int32} {l4 : Int32} {l5 : Int32} {l6 : Int32} {l7 : Int32} {M : gM}, q_HT 0 M → (q_Kd M l0 (11, 0)) → (1 ≤ l1.toInt ∧ l1.toInt ≤ 10) → (1 ≤ l2.toInt ∧ l2.toInt ≤ 60) → (0 ≤ l3.toInt ∧ l3.toInt ≤ 1) → (0 ≤ l4.toInt) → (0 ≤ l6.toInt ∧ l6.toInt ≤ 10) → (0 ≤ l7.toInt ∧ l7.toInt ≤ 60) → 11 - l6.toInt ≤ m55 → 60 - l7.toInt < m75 → Ok (k75 (some l0) l1 l2 l3 l4 l5 l6 l7 M) (q_PX M (-2147483648) (2147483647) l0 l4)) (H : q_HT 0 M) (K_l0 : q_Kd M l0 (11, 0)) (h_l1 : 1 ≤ l1.toInt ∧ l1.toInt ≤ 10) (h_l2 : 1 ≤ l2.toInt ∧ l2.toInt ≤ 60) (h_l3 : 0 ≤ l3.toInt ∧ l3.toInt ≤ 1) (h_l4 : 0 ≤ l4.toInt) (h_l6 : 0 ≤ l6.toInt ∧ l6.toInt ≤ 10) (h_l7 : 0 ≤ l7.toInt ∧ l7.toInt ≤ 60) (hm55 : 11 - l6.toInt ≤ m55) (hm75 : 60 - l7.toInt ≤ m75) : Ok (F_X11_drawn_b75 k55 k75 (some l0) l1 l2 l3 l4 l5 l6 l7 M) (q_PX M (-2147483648) (2147483647) l0 l4) := by
  delta F_X11_drawn_b75
  refine Ok_i (fun c_1 => ?_) (fun c_1 => ?_)
  · skip
    replace c_1 := i_le c_1
    refine Ok_i (fun c_2 => ?_) (fun c_2 => ?_)
    · skip
      replace c_2 := i_eq c_2
      rw [L_0] at c_2
      refine d_gR (q := (8, 0)) H K_l0 (by decide) rfl (fun v5 r_v5 K_v5 => ?_)
      refine d_gR (q := (1, 0)) H K_l0 (by decide) rfl (fun v6 r_v6 K_v6 => ?_)
      refine c_gO K_v5 ?_
      refine Ok_b (S_X8_standing H K_v5 K_v6) (fun v8 e_v8 => ?_)
      clear e_v8
      refine Ok_b (S_J6_bitCount_0f7a4 H) (fun v9 e_v9 => ?_)
      replace e_v9 := q_un e_v9
      exact w_PX (q_rf _ _) (S_X11_drawn_b145 hk55 H K_l0 h_l1 h_l2 h_l3 (by omega) h_l6 (by omega)) (by decide) (by decide)
    · skip
      replace c_2 := i_ne c_2
      rw [L_0] at c_2
      refine d_gR (q := (8, 0)) H K_l0 (by decide) rfl (fun v1 r_v1 K_v1 => ?_)
      refine d_gR (q := (1, 0)) H K_l0 (by decide) rfl (fun v2 r_v2 K_v2 => ?_)
      refine c_gO K_v1 ?_
      refine Ok_b (S_X8_heldTogether H K_v1 K_v2) (fun v4 e_v4 => ?_)
      clear e_v4
      exact w_PX (q_rf _ _) (S_X11_drawn_b145 hk55 H K_l0 h_l1 h_l2 h_l3 (by omega) h_l6 (by omega)) (by decide) (by decide)
  · skip
    replace c_1 := i_nle c_1
    refine c_gO K_l0 ?_
    refine Ok_b (S_X11_drinkLater H K_l0) (fun M11 zM11 => ?_)
    obtain ⟨HM11, fM11⟩ := zM11
    have K_3 := (q_mo K_l0 (by decide) fM11)
    refine d_gR (q := (10, 0)) HM11 K_3 (by decide) rfl (fun v12 r_v12 K_v12 => ?_)
    refine d_gR (q := (1, 0)) HM11 K_3 (by decide) rfl (fun v13 r_v13 K_v13 => ?_)
    refine d_gR (q := (8, 0)) HM11 K_3 (by decide) rfl (fun v14 r_v14 K_v14 => ?_)
    refine c_gC K_3 ?_
    refine Ok_b (S_X11_ruleInForce HM11 K_3) (fun v16 e_v16 => ?_)
    refine c_gO K_v12 ?_
    refine Ok_b (S_X10_pass (b := q_bd) HM11 K_v12 K_v13 K_v14 e_v16) (fun yM19 zM19 => ?_)
    obtain ⟨v18, M19⟩ := yM19
    obtain ⟨e_v18, HM19, fM19⟩ := zM19
    try dsimp only at e_v18 HM19 fM19
    have g_4 := q_tr fM11 fM19
    have K_5 := (q_mo K_3 (by decide) fM19)
    have a_6 := i_addc (x := l7) (c := 1) L_1 (by omega) (by omega)
    exact w_PX g_4 (hk75 HM19 K_5 h_l1 h_l2 h_l3 (by omega) h_l6 (by omega) (by omega) (by omega)) (by decide) (by decide)
theorem S_X11_drawn_L75 {k55 : Option Nat → Int32 → Int32 → Int32 → Int32 → Int32 → Int32 → gM → Option (Int32 × gM)} {m55 : Int} (hk55 : ∀ {l0 : Nat} {l1 : Int32} {l2 : Int32} {l3 : Int32} {l4 : Int32} {l5 : Int32} {l6 : Int32} {M : gM}, q_HT 0 M → (q_Kd M l0 (11, 0)) → (1 ≤ l1.toInt ∧ l1.toInt ≤ 10) → (1 ≤ l2.toInt ∧ l2.toInt ≤ 60) → (0 ≤ l3.toInt ∧ l3.toInt ≤ 1) → (0 ≤ l4.toInt) → (0 ≤ l6.toInt ∧ l6.toInt ≤ 11) → 11 - l6.toInt < m55 → Ok (k55 (some l0) l1 l2 l3 l4 l5 l6 M) (q_PX M (-2147483648) (2147483647) l0 l4)) : ∀ (n : Nat) {l0 : Nat} {l1 : Int32} {l2 : Int32} {l3 : Int32} {l4 : Int32} {l5 : Int32} {l6 : Int32} {l7 : Int32} {M : gM}, q_HT 0 M → (q_Kd M l0 (11, 0)) → (1 ≤ l1.toInt ∧ l1.toInt ≤ 10) → (1 ≤ l2.toInt ∧ l2.toInt ≤ 60) → (0 ≤ l3.toInt ∧ l3.toInt ≤ 1) → (0 ≤ l4.toInt) → (0 ≤ l6.toInt ∧ l6.toInt ≤ 10) → (0 ≤ l7.toInt ∧ l7.toInt ≤ 60) → 11 - l6.toInt ≤ m55 → 60 - l7.toInt < (n : Int) → Ok (F_X11_drawn_L75 k55 n (some l0) l1 l2 l3 l4 l5 l6 l7 M) (q_PX M (-2147483648) (2147483647) l0 l4) := by
  intro n
  induction n with
  | zero =>
    intro l0 l1 l2 l3 l4 l5 l6 l7 M H K_l0 h_l1 h_l2 h_l3 h_l4 h_l6 h_l7 hm55 hm
    exfalso
    omega
  | succ n ih =>
    intro l0 l1 l2 l3 l4 l5 l6 l7 M H K_l0 h_l1 h_l2 h_l3 h_l4 h_l6 h_l7 hm55 hm
    exact S_X11_drawn_b75 (m75 := 60 - l7.toInt) hk55 (fun H K_l0 h_l1 h_l2 h_l3 h_l4 h_l6 h_l7 hm55 hmz => ih H K_l0 h_l1 h_l2 h_l3 h_l4 h_l6 h_l7 hm55 (by omega)) H K_l0 h_l1 h_l2 h_l3 h_l4 h_l6 h_l7 hm55 (Int.le_refl _)
theorem S_X11_drawn_b55 {k55 : Option Nat → Int32 → Int32 → Int32 → Int32 → Int32 → Int32 → gM → Option (Int32 × gM)} {m55 : Int} {l0 : Nat} {l1 : Int32} {l2 : Int32} {l3 : Int32} {l4 : Int32} {l5 : Int32} {l6 : Int32} {M : gM} (hk55 : ∀ {l0 : Nat} {l1 : Int32} {l2 : Int32} {l3 : Int32} {l4 : Int32} {l5 : Int32} {l6 : Int32} {M : gM}, q_HT 0 M → (q_Kd M l0 (11, 0)) → (1 ≤ l1.toInt ∧ l1.toInt ≤ 10) → (1 ≤ l2.toInt ∧ l2.toInt ≤ 60) → (0 ≤ l3.toInt ∧ l3.toInt ≤ 1) → (0 ≤ l4.toInt) → (0 ≤ l6.toInt ∧ l6.toInt ≤ 11) → 11 - l6.toInt < m55 → Ok (k55 (some l0) l1 l2 l3 l4 l5 l6 M) (q_PX M (-2147483648) (2147483647) l0 l4)) (H : q_HT 0 M) (K_l0 : q_Kd M l0 (11, 0)) (h_l1 : 1 ≤ l1.toInt ∧ l1.toInt ≤ 10) (h_l2 : 1 ≤ l2.toInt ∧ l2.toInt ≤ 60) (h_l3 : 0 ≤ l3.toInt ∧ l3.toInt ≤ 1) (h_l4 : 0 ≤ l4.toInt) (h_l6 : 0 ≤ l6.toInt ∧ l6.toInt ≤ 11) (hm55 : 11 - l6.toInt ≤ m55) : Ok (F_X11_drawn_b55 k55 (some l0) l1 l2 l3 l4 l5 l6 M) (q_PX M (-2147483648) (2147483647) l0 l4) := by
  delta F_X11_drawn_b55
  refine Ok_i (fun c_1 => ?_) (fun c_1 => ?_)
  · skip
    replace c_1 := i_le c_1
    refine c_pI (b := q_bd) (lo := 0) (hi := 2147483647) H K_l0 (by decide) rfl ⟨by omega, (i_rng _).2⟩ rfl (fun M1 HM1 fM1 q_M1 o_M1 rr_M1 => ?_)
    exact r_PX (i_rng _) HM1 fM1 q_M1
  · skip
    replace c_1 := i_nle c_1
    refine d_gR (q := (8, 0)) H K_l0 (by decide) rfl (fun v2 r_v2 K_v2 => ?_)
    refine d_gR (q := (8, 0)) H K_l0 (by decide) rfl (fun v3 r_v3 K_v3 => ?_)
    refine c_gO K_v2 ?_
    refine Ok_b (S_X8_copy (b := q_bd) H K_v2 K_v3) (fun M5 zM5 => ?_)
    obtain ⟨HM5, fM5⟩ := zM5
    have K_2 := (q_mo K_l0 (by decide) fM5)
    exact w_PX fM5 (S_X11_drawn_L75 hk55 g_fuel HM5 K_2 h_l1 h_l2 h_l3 (by omega) (by omega) (by decide) (by omega) (q_fu (by rw [L_0]; omega))) (by decide) (by decide)
theorem S_X11_drawn_L55 : ∀ (n : Nat) {l0 : Nat} {l1 : Int32} {l2 : Int32} {l3 : Int32} {l4 : Int32} {l5 : Int32} {l6 : Int32} {M : gM}, q_HT 0 M → (q_Kd M l0 (11, 0)) → (1 ≤ l1.toInt ∧ l1.toInt ≤ 10) → (1 ≤ l2.toInt ∧ l2.toInt ≤ 60) → (0 ≤ l3.toInt ∧ l3.toInt ≤ 1) → (0 ≤ l4.toInt) → (0 ≤ l6.toInt ∧ l6.toInt ≤ 11) → 11 - l6.toInt < (n : Int) → Ok (F_X11_drawn_L55 n (some l0) l1 l2 l3 l4 l5 l6 M) (q_PX M (-2147483648) (2147483647) l0 l4) := by
  intro n
  induction n with
  | zero =>
    intro l0 l1 l2 l3 l4 l5 l6 M H K_l0 h_l1 h_l2 h_l3 h_l4 h_l6  hm
    exfalso
    omega
  | succ n ih =>
    intro l0 l1 l2 l3 l4 l5 l6 M H K_l0 h_l1 h_l2 h_l3 h_l4 h_l6  hm
    exact S_X11_drawn_b55 (m55 := 11 - l6.toInt) (fun H K_l0 h_l1 h_l2 h_l3 h_l4 h_l6  hmz => ih H K_l0 h_l1 h_l2 h_l3 h_l4 h_l6  (by omega)) H K_l0 h_l1 h_l2 h_l3 h_l4 h_l6  (Int.le_refl _)
set_option maxHeartbeats 1000000 in
theorem S_X11_drawn_b0 {l0 : Nat} {l1 : Int32} {l2 : Int32} {l3 : Int32} {M : gM} (H : q_HT 0 M) (K_l0 : q_Kd M l0 (11, 0)) : Ok (F_X11_drawn_b0 (some l0) l1 l2 l3 M) (q_PX M (-2147483648) (2147483647) l0 (M.2.1 l0 14)) := by
  delta F_X11_drawn_b0
  have bad : Ok (F_X11_drawn_b41 M) (q_PX M (-2147483648) (2147483647) l0 (M.2.1 l0 14)) := by
    delta F_X11_drawn_b41
    exact r_PX (i_rng _) H (q_rf _ _) rfl
  refine Ok_i (fun _ => bad) (fun c1 => ?_)
  replace c1 := i_nlt c1
  rw [L_1] at c1
  refine Ok_i (fun _ => bad) (fun c2 => ?_)
  replace c2 := i_nlt c2
  rw [L_10] at c2
  refine Ok_i (fun _ => bad) (fun c3 => ?_)
  replace c3 := i_nlt c3
  rw [L_1] at c3
  refine Ok_i (fun _ => bad) (fun c4 => ?_)
  replace c4 := i_nlt c4
  rw [L_60] at c4
  refine Ok_i (fun _ => bad) (fun c5 => ?_)
  replace c5 := i_nlt c5
  rw [L_0] at c5
  refine Ok_i (fun _ => bad) (fun c6 => ?_)
  replace c6 := i_nlt c6
  rw [L_1] at c6
  refine d_gR (q := (1, 0)) H K_l0 (by decide) rfl (fun v1 r_v1 K_v1 => ?_)
  refine d_gI (lo := 0) (hi := 1) H K_v1 (by decide) rfl (fun v2 q_v2 e_v2 => ?_)
  refine Ok_i (fun _ => bad) (fun c7 => ?_)
  refine d_gI (lo := 0) (hi := 2147483647) H K_l0 (by decide) rfl (fun v3 q_v3 e_v3 => ?_)
  rw [q_v3]
  exact w_PX (q_rf _ _) (S_X11_drawn_L55 g_fuel H K_l0 (by omega) (by omega) (by omega) e_v3.1 (by decide) (q_fu (by rw [L_0]; omega))) (by decide) (by decide)
theorem S_X11_drawn {l0 : Nat} {l1 : Int32} {l2 : Int32} {l3 : Int32} {M : gM} (H : q_HT 0 M) (K_l0 : q_Kd M l0 (11, 0)) : Ok (F_X11_drawn (some l0) l1 l2 l3 M) (q_PX M (-2147483648) (2147483647) l0 (M.2.1 l0 14)) := by
  delta F_X11_drawn
  exact S_X11_drawn_b0 H K_l0
set_option maxHeartbeats 1000000 in
theorem S_X11_count_b0 {l0 : Nat} {l1 : Int32} {M : gM} (H : q_HT 0 M) (K_l0 : q_Kd M l0 (11, 0)) : Ok (F_X11_count_b0 M (some l0) l1) (q_pi (-2147483648) (2147483647)) := by
  delta F_X11_count_b0
  refine Ok_i (fun c_1 => ?_) (fun c_1 => ?_)
  · skip
    replace c_1 := i_eq c_1
    rw [L_0] at c_1
    refine d_gR (q := (1, 0)) H K_l0 (by decide) rfl (fun v1 r_v1 K_v1 => ?_)
    refine d_gI (lo := 0) (hi := 7) H K_v1 (by decide) rfl (fun v2 q_v2 e_v2 => ?_)
    exact r_pi (i_rng _)
  · skip
    replace c_1 := i_ne c_1
    rw [L_0] at c_1
    refine Ok_i (fun c_2 => ?_) (fun c_2 => ?_)
    · skip
      replace c_2 := i_eq c_2
      rw [L_1] at c_2
      refine d_gR (q := (1, 0)) H K_l0 (by decide) rfl (fun v3 r_v3 K_v3 => ?_)
      refine d_gI (lo := 0) (hi := 7) H K_v3 (by decide) rfl (fun v4 q_v4 e_v4 => ?_)
      exact r_pi (i_rng _)
    · skip
      replace c_2 := i_ne c_2
      rw [L_1] at c_2
      refine Ok_i (fun c_3 => ?_) (fun c_3 => ?_)
      · skip
        replace c_3 := i_eq c_3
        rw [L_2] at c_3
        refine d_gR (q := (1, 0)) H K_l0 (by decide) rfl (fun v5 r_v5 K_v5 => ?_)
        refine c_gIt K_v5 (fun v6 q_v6 => ?_)
        exact r_pi (i_rng _)
      · skip
        replace c_3 := i_ne c_3
        rw [L_2] at c_3
        refine Ok_i (fun c_4 => ?_) (fun c_4 => ?_)
        · skip
          replace c_4 := i_eq c_4
          rw [L_3] at c_4
          refine d_gI (lo := 0) (hi := 6) H K_l0 (by decide) rfl (fun v7 q_v7 e_v7 => ?_)
          exact r_pi (i_rng _)
        · skip
          replace c_4 := i_ne c_4
          rw [L_3] at c_4
          refine Ok_i (fun c_5 => ?_) (fun c_5 => ?_)
          · skip
            replace c_5 := i_eq c_5
            rw [L_4] at c_5
            refine c_gIt K_l0 (fun v8 q_v8 => ?_)
            exact r_pi (i_rng _)
          · skip
            replace c_5 := i_ne c_5
            rw [L_4] at c_5
            refine Ok_i (fun c_6 => ?_) (fun c_6 => ?_)
            · skip
              replace c_6 := i_eq c_6
              rw [L_5] at c_6
              refine d_gR (q := (8, 0)) H K_l0 (by decide) rfl (fun v9 r_v9 K_v9 => ?_)
              refine c_gIt K_v9 (fun v10 q_v10 => ?_)
              exact r_pi (i_rng _)
            · skip
              replace c_6 := i_ne c_6
              rw [L_5] at c_6
              refine Ok_i (fun c_7 => ?_) (fun c_7 => ?_)
              · skip
                replace c_7 := i_eq c_7
                rw [L_6] at c_7
                refine d_gR (q := (8, 0)) H K_l0 (by decide) rfl (fun v11 r_v11 K_v11 => ?_)
                refine c_gIt K_v11 (fun v12 q_v12 => ?_)
                exact r_pi (i_rng _)
              · skip
                replace c_7 := i_ne c_7
                rw [L_6] at c_7
                refine Ok_i (fun c_8 => ?_) (fun c_8 => ?_)
                · skip
                  replace c_8 := i_eq c_8
                  rw [L_7] at c_8
                  refine d_gR (q := (8, 0)) H K_l0 (by decide) rfl (fun v13 r_v13 K_v13 => ?_)
                  refine d_gR (q := (1, 0)) H K_l0 (by decide) rfl (fun v14 r_v14 K_v14 => ?_)
                  refine c_gO K_v13 ?_
                  refine Ok_b (S_X8_standing H K_v13 K_v14) (fun v16 e_v16 => ?_)
                  clear e_v16
                  exact r_pi (i_rng _)
                · skip
                  replace c_8 := i_ne c_8
                  rw [L_7] at c_8
                  refine Ok_i (fun c_9 => ?_) (fun c_9 => ?_)
                  · skip
                    replace c_9 := i_eq c_9
                    rw [L_8] at c_9
                    refine d_gR (q := (8, 0)) H K_l0 (by decide) rfl (fun v17 r_v17 K_v17 => ?_)
                    refine d_gR (q := (1, 0)) H K_l0 (by decide) rfl (fun v18 r_v18 K_v18 => ?_)
                    refine c_gO K_v17 ?_
                    refine Ok_b (S_X8_heldTogether H K_v17 K_v18) (fun v20 e_v20 => ?_)
                    clear e_v20
                    exact r_pi (i_rng _)
                  · skip
                    replace c_9 := i_ne c_9
                    rw [L_8] at c_9
                    refine Ok_i (fun c_10 => ?_) (fun c_10 => ?_)
                    · skip
                      replace c_10 := i_eq c_10
                      rw [L_9] at c_10
                      refine d_gR (q := (4, 0)) H K_l0 (by decide) rfl (fun v21 r_v21 K_v21 => ?_)
                      refine d_gI (lo := 0) (hi := 20) H K_v21 (by decide) rfl (fun v22 q_v22 e_v22 => ?_)
                      exact r_pi (i_rng _)
                    · skip
                      replace c_10 := i_ne c_10
                      rw [L_9] at c_10
                      refine Ok_i (fun c_11 => ?_) (fun c_11 => ?_)
                      · skip
                        replace c_11 := i_eq c_11
                        rw [L_10] at c_11
                        refine d_gI (lo := 0) (hi := 2147483647) H K_l0 (by decide) rfl (fun v23 q_v23 e_v23 => ?_)
                        exact r_pi (i_rng _)
                      · skip
                        replace c_11 := i_ne c_11
                        rw [L_10] at c_11
                        refine Ok_i (fun c_12 => ?_) (fun c_12 => ?_)
                        · skip
                          replace c_12 := i_eq c_12
                          rw [L_11] at c_12
                          refine d_gR (q := (9, 0)) H K_l0 (by decide) rfl (fun v24 r_v24 K_v24 => ?_)
                          refine d_gI (lo := 0) (hi := 400) H K_v24 (by decide) rfl (fun v25 q_v25 e_v25 => ?_)
                          exact r_pi (i_rng _)
                        · skip
                          replace c_12 := i_ne c_12
                          rw [L_11] at c_12
                          exact r_pi (i_rng _)
theorem S_X11_count {l0 : Nat} {l1 : Int32} {M : gM} (H : q_HT 0 M) (K_l0 : q_Kd M l0 (11, 0)) : Ok (F_X11_count (some l0) l1 M) (q_pi (-2147483648) (2147483647)) := by
  delta F_X11_count
  exact w_pi (S_X11_count_b0  H K_l0) (by decide) (by decide)
