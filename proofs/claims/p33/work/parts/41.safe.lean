/-! numbers, by program -/
theorem L_m2000 : (-2000 : Int32).toInt = -2000 := rfl
theorem L_m1000 : (-1000 : Int32).toInt = -1000 := rfl
theorem L_m8 : (-8 : Int32).toInt = -8 := rfl
theorem L_m4 : (-4 : Int32).toInt = -4 := rfl
theorem L_m3 : (-3 : Int32).toInt = -3 := rfl
theorem L_m2 : (-2 : Int32).toInt = -2 := rfl
theorem L_m1 : (-1 : Int32).toInt = -1 := rfl
theorem L_0 : (0 : Int32).toInt = 0 := rfl
theorem L_1 : (1 : Int32).toInt = 1 := rfl
theorem L_2 : (2 : Int32).toInt = 2 := rfl
theorem L_3 : (3 : Int32).toInt = 3 := rfl
theorem L_4 : (4 : Int32).toInt = 4 := rfl
theorem L_5 : (5 : Int32).toInt = 5 := rfl
theorem L_6 : (6 : Int32).toInt = 6 := rfl
theorem L_7 : (7 : Int32).toInt = 7 := rfl
theorem L_8 : (8 : Int32).toInt = 8 := rfl
theorem L_9 : (9 : Int32).toInt = 9 := rfl
theorem L_10 : (10 : Int32).toInt = 10 := rfl
theorem L_11 : (11 : Int32).toInt = 11 := rfl
theorem L_12 : (12 : Int32).toInt = 12 := rfl
theorem L_13 : (13 : Int32).toInt = 13 := rfl
theorem L_14 : (14 : Int32).toInt = 14 := rfl
theorem L_20 : (20 : Int32).toInt = 20 := rfl
theorem L_24 : (24 : Int32).toInt = 24 := rfl
theorem L_32 : (32 : Int32).toInt = 32 := rfl
theorem L_37 : (37 : Int32).toInt = 37 := rfl
theorem L_40 : (40 : Int32).toInt = 40 := rfl
theorem L_41 : (41 : Int32).toInt = 41 := rfl
theorem L_42 : (42 : Int32).toInt = 42 := rfl
theorem L_43 : (43 : Int32).toInt = 43 := rfl
theorem L_45 : (45 : Int32).toInt = 45 := rfl
theorem L_47 : (47 : Int32).toInt = 47 := rfl
theorem L_48 : (48 : Int32).toInt = 48 := rfl
theorem L_49 : (49 : Int32).toInt = 49 := rfl
theorem L_57 : (57 : Int32).toInt = 57 := rfl
theorem L_60 : (60 : Int32).toInt = 60 := rfl
theorem L_61 : (61 : Int32).toInt = 61 := rfl
theorem L_62 : (62 : Int32).toInt = 62 := rfl
theorem L_91 : (91 : Int32).toInt = 91 := rfl
theorem L_97 : (97 : Int32).toInt = 97 := rfl
theorem L_99 : (99 : Int32).toInt = 99 := rfl
theorem L_100 : (100 : Int32).toInt = 100 := rfl
theorem L_116 : (116 : Int32).toInt = 116 := rfl
theorem L_122 : (122 : Int32).toInt = 122 := rfl
theorem L_200 : (200 : Int32).toInt = 200 := rfl
theorem L_256 : (256 : Int32).toInt = 256 := rfl
theorem L_258 : (258 : Int32).toInt = 258 := rfl
theorem L_259 : (259 : Int32).toInt = 259 := rfl
theorem L_260 : (260 : Int32).toInt = 260 := rfl
theorem L_261 : (261 : Int32).toInt = 261 := rfl
theorem L_262 : (262 : Int32).toInt = 262 := rfl
theorem L_267 : (267 : Int32).toInt = 267 := rfl
theorem L_268 : (268 : Int32).toInt = 268 := rfl
theorem L_275 : (275 : Int32).toInt = 275 := rfl
theorem L_276 : (276 : Int32).toInt = 276 := rfl
theorem L_277 : (277 : Int32).toInt = 277 := rfl
theorem L_278 : (278 : Int32).toInt = 278 := rfl
theorem L_279 : (279 : Int32).toInt = 279 := rfl
theorem L_280 : (280 : Int32).toInt = 280 := rfl
theorem L_281 : (281 : Int32).toInt = 281 := rfl
theorem L_282 : (282 : Int32).toInt = 282 := rfl
theorem L_400 : (400 : Int32).toInt = 400 := rfl
theorem L_999 : (999 : Int32).toInt = 999 := rfl
theorem L_99999 : (99999 : Int32).toInt = 99999 := rfl
theorem L_1000000 : (1000000 : Int32).toInt = 1000000 := rfl
set_option maxHeartbeats 1000000 in
theorem S_X9_append_b3 {k3 : Option Nat → Int32 → Int32 → gM → Option gM} {m3 : Int} {l0 : Nat} {l1 : Int32} {l2 : Int32} {M : gM} (hk3 : ∀ {l0 : Nat} {l1 : Int32} {l2 : Int32} {M : gM}, q_HT 0 M → (q_Kd M l0 (9, 0)) → (-8 ≤ l2.toInt ∧ l2.toInt ≤ 24) → l2.toInt - (-8) < m3 → Ok (k3 (some l0) l1 l2 M) (q_PV q_bt M)) (H : q_HT 0 M) (K_l0 : q_Kd M l0 (9, 0)) (h_l2 : -8 ≤ l2.toInt ∧ l2.toInt ≤ 24) (hm3 : l2.toInt - (-8) ≤ m3) : Ok (F_X9_append_b3 k3 (some l0) l1 l2 M) (q_PV q_bt M) := by
  delta F_X9_append_b3
  refine Ok_i (fun c_1 => ?_) (fun c_1 => ?_)
  · skip
    replace c_1 := i_lt c_1
    rw [L_0] at c_1
    exact r_PV H (q_rf _ _)
  · skip
    replace c_1 := i_nlt c_1
    rw [L_0] at c_1
    refine d_gI (lo := 0) (hi := 400) H K_l0 (by decide) rfl (fun v1 q_v1 e_v1 => ?_)
    refine Ok_i (fun c_2 => ?_) (fun c_2 => ?_)
    · skip
      replace c_2 := i_le c_2
      rw [L_400] at c_2
      exact r_PV H (q_rf _ _)
    · skip
      replace c_2 := i_nle c_2
      rw [L_400] at c_2
      refine d_gR (q := (22, 400)) H K_l0 (by decide) rfl (fun v2 r_v2 K_v2 => ?_)
      refine c_gIs K_l0 q_v1 (fun v3 e_v3 => ?_)
      have t_v3 := congrArg Int32.toInt e_v3
      have q_v3 := q_v1.trans e_v3.symm
      refine c_sB (b := q_bt) rfl H K_v2 (by omega) (by omega) (fun M4 HM4 fM4 o_M4 rr_M4 => ?_)
      have q_3 := (congrFun (o_M4 _ (q_dn K_l0 K_v2 (Or.inl (Nat.le_of_ble_eq_true rfl)))) 6).trans q_v3
      have r_4 := (congrFun (congrFun rr_M4 _) 0).trans r_v2
      have K_5 := (q_mo K_l0 (by decide) fM4)
      refine c_gIs K_5 q_3 (fun v5 e_v5 => ?_)
      have t_v5 := congrArg Int32.toInt e_v5
      have q_v5 := q_3.trans e_v5.symm
      have a_6 := i_addc (x := v5) (c := (1 : Int32)) L_1 (by omega) (by omega)
      refine c_pI (b := q_bt) (lo := 0) (hi := 400) HM4 K_5 (by decide) rfl (by omega) rfl (fun M6 HM6 fM6 q_M6 o_M6 rr_M6 => ?_)
      have r_7 := (congrFun (congrFun rr_M6 _) 0).trans r_4
      have g_8 := q_tr fM4 fM6
      have K_9 := (q_mo K_5 (by decide) fM6)
      have a_10 := i_addc (x := l2) (c := (-8)) L_m8 (by omega) (by omega)
      exact w_PV g_8 (hk3 HM6 K_9 (by omega) (by omega))
theorem S_X9_append_L3 : ∀ (n : Nat) {l0 : Nat} {l1 : Int32} {l2 : Int32} {M : gM}, q_HT 0 M → (q_Kd M l0 (9, 0)) → (-8 ≤ l2.toInt ∧ l2.toInt ≤ 24) → l2.toInt - (-8) < (n : Int) → Ok (F_X9_append_L3 n (some l0) l1 l2 M) (q_PV q_bt M) := by
  intro n
  induction n with
  | zero =>
    intro l0 l1 l2 M H K_l0 h_l2  hm
    exfalso
    omega
  | succ n ih =>
    intro l0 l1 l2 M H K_l0 h_l2  hm
    exact S_X9_append_b3 (m3 := l2.toInt - (-8)) (fun H K_l0 h_l2  hmz => ih H K_l0 h_l2  (by omega)) H K_l0 h_l2  (Int.le_refl _)
theorem S_X9_append_b0 {l0 : Nat} {l1 : Int32} {M : gM} (H : q_HT 0 M) (K_l0 : q_Kd M l0 (9, 0)) : Ok (F_X9_append_b0 (some l0) l1 M) (q_PV q_bt M) := by
  delta F_X9_append_b0
  exact w_PV (q_rf _ _) (S_X9_append_L3  g_fuel H K_l0 (by decide) (q_fu (by rw [L_24]; omega)))
theorem S_X9_append {l0 : Nat} {l1 : Int32} {M : gM} (H : q_HT 0 M) (K_l0 : q_Kd M l0 (9, 0)) : Ok (F_X9_append (some l0) l1 M) (q_PV q_bt M) := by
  delta F_X9_append
  exact w_PV (q_rf _ _) (S_X9_append_b0  H K_l0)
set_option maxHeartbeats 1000000 in
theorem S_X11_feed_b0 {l0 : Nat} {l1 : Int32} {l2 : Int32} {l3 : Int32} {l4 : Int32} {l5 : Int32} {M : gM} (H : q_HT 0 M) (K_l0 : q_Kd M l0 (11, 0)) : Ok (F_X11_feed_b0 (some l0) l1 l2 l3 l4 l5 M) (q_PI q_bt M (-1) (400)) := by
  delta F_X11_feed_b0
  refine d_gR (q := (9, 0)) H K_l0 (by decide) rfl (fun v1 r_v1 K_v1 => ?_)
  refine d_gI (lo := 0) (hi := 400) H K_v1 (by decide) rfl (fun v2 q_v2 e_v2 => ?_)
  have a_1 := i_addc (x := v2) (c := (20 : Int32)) L_20 (by omega) (by omega)
  refine Ok_i (fun c_2 => ?_) (fun c_2 => ?_)
  · skip
    replace c_2 := i_le c_2
    rw [L_400] at c_2
    refine c_gRs K_l0 r_v1 ?_
    refine c_gO K_v1 ?_
    refine Ok_b (S_X9_append H K_v1) (fun M5 zM5 => ?_)
    obtain ⟨HM5, fM5⟩ := zM5
    have K_3 := (q_mo K_l0 (by decide) fM5)
    refine d_gR (q := (9, 0)) HM5 K_3 (by decide) rfl (fun v6 r_v6 K_v6 => ?_)
    refine c_gO K_v6 ?_
    refine Ok_b (S_X9_append HM5 K_v6) (fun M8 zM8 => ?_)
    obtain ⟨HM8, fM8⟩ := zM8
    have g_4 := q_tr fM5 fM8
    have K_5 := (q_mo K_3 (by decide) fM8)
    refine d_gR (q := (9, 0)) HM8 K_5 (by decide) rfl (fun v9 r_v9 K_v9 => ?_)
    refine c_gO K_v9 ?_
    refine Ok_b (S_X9_append HM8 K_v9) (fun M11 zM11 => ?_)
    obtain ⟨HM11, fM11⟩ := zM11
    have g_6 := q_tr g_4 fM11
    have K_7 := (q_mo K_5 (by decide) fM11)
    refine d_gR (q := (9, 0)) HM11 K_7 (by decide) rfl (fun v12 r_v12 K_v12 => ?_)
    refine c_gO K_v12 ?_
    refine Ok_b (S_X9_append HM11 K_v12) (fun M14 zM14 => ?_)
    obtain ⟨HM14, fM14⟩ := zM14
    have g_8 := q_tr g_6 fM14
    have K_9 := (q_mo K_7 (by decide) fM14)
    refine d_gR (q := (9, 0)) HM14 K_9 (by decide) rfl (fun v15 r_v15 K_v15 => ?_)
    refine c_gO K_v15 ?_
    refine Ok_b (S_X9_append HM14 K_v15) (fun M17 zM17 => ?_)
    obtain ⟨HM17, fM17⟩ := zM17
    have g_10 := q_tr g_8 fM17
    have K_11 := (q_mo K_9 (by decide) fM17)
    refine d_gR (q := (9, 0)) HM17 K_11 (by decide) rfl (fun v18 r_v18 K_v18 => ?_)
    refine d_gI (lo := 0) (hi := 400) HM17 K_v18 (by decide) rfl (fun v19 q_v19 e_v19 => ?_)
    exact r_PI (by omega) HM17 g_10
  · skip
    replace c_2 := i_nle c_2
    rw [L_400] at c_2
    exact r_PI (by decide) H (q_rf _ _)
theorem S_X11_feed {l0 : Nat} {l1 : Int32} {l2 : Int32} {l3 : Int32} {l4 : Int32} {l5 : Int32} {M : gM} (H : q_HT 0 M) (K_l0 : q_Kd M l0 (11, 0)) : Ok (F_X11_feed (some l0) l1 l2 l3 l4 l5 M) (q_PI q_bt M (-1) (400)) := by
  delta F_X11_feed
  exact w_PI (q_rf _ _) (S_X11_feed_b0  H K_l0) (by decide) (by decide)
theorem S_X11_end_b15  {M : gM} (H : q_HT 0 M) : Ok (F_X11_end_b15 M) (q_PI q_bs M (-1) (400)) := by
  delta F_X11_end_b15
  exact r_PI (by decide) H (q_rf _ _)
theorem S_X11_end_b0 {l0 : Nat} {l1 : Int32} {M : gM} (H : q_HT 0 M) (K_l0 : q_Kd M l0 (11, 0)) : Ok (F_X11_end_b0 (some l0) l1 M) (q_PI q_bs M (-1) (400)) := by
  delta F_X11_end_b0
  refine Ok_i (fun c_1 => ?_) (fun c_1 => ?_)
  · skip
    replace c_1 := i_lt c_1
    rw [L_0] at c_1
    exact w_PI (q_rf _ _) (S_X11_end_b15  H) (by decide) (by decide)
  · skip
    replace c_1 := i_nlt c_1
    rw [L_0] at c_1
    refine d_gR (q := (9, 0)) H K_l0 (by decide) rfl (fun v1 r_v1 K_v1 => ?_)
    refine d_gI (lo := 0) (hi := 400) H K_v1 (by decide) rfl (fun v2 q_v2 e_v2 => ?_)
    refine Ok_i (fun c_2 => ?_) (fun c_2 => ?_)
    · skip
      replace c_2 := i_le c_2
      refine c_gRs K_l0 r_v1 ?_
      refine c_pI (b := q_bs) (lo := 0) (hi := 400) H K_v1 (by decide) rfl (by omega) rfl (fun M4 HM4 fM4 q_M4 o_M4 rr_M4 => ?_)
      have r_3 := (congrFun (congrFun rr_M4 _) 0).trans r_v1
      exact r_PI (by omega) HM4 fM4
    · skip
      replace c_2 := i_nle c_2
      exact w_PI (q_rf _ _) (S_X11_end_b15  H) (by decide) (by decide)
theorem S_X11_end {l0 : Nat} {l1 : Int32} {M : gM} (H : q_HT 0 M) (K_l0 : q_Kd M l0 (11, 0)) : Ok (F_X11_end (some l0) l1 M) (q_PI q_bs M (-1) (400)) := by
  delta F_X11_end
  exact w_PI (q_rf _ _) (S_X11_end_b0  H K_l0) (by decide) (by decide)
theorem S_X9_byteAt_b32  {M : gM} (H : q_HT 0 M) : Ok (F_X9_byteAt_b32 M) (q_pi (0) (256)) := by
  delta F_X9_byteAt_b32
  exact r_pi (by decide)
set_option maxHeartbeats 1000000 in
theorem S_X9_byteAt_b0 {l0 : Nat} {l1 : Int32} {M : gM} (H : q_HT 0 M) (K_l0 : q_Kd M l0 (9, 0)) (h_l1 : l1.toInt ≤ 400) : Ok (F_X9_byteAt_b0 M (some l0) l1) (q_pi (0) (256)) := by
  delta F_X9_byteAt_b0
  refine Ok_i (fun c_1 => ?_) (fun c_1 => ?_)
  · skip
    replace c_1 := i_lt c_1
    rw [L_0] at c_1
    exact w_pi (S_X9_byteAt_b32  H) (by decide) (by decide)
  · skip
    replace c_1 := i_nlt c_1
    rw [L_0] at c_1
    refine d_gI (lo := 0) (hi := 400) H K_l0 (by decide) rfl (fun v1 q_v1 e_v1 => ?_)
    refine Ok_i (fun c_2 => ?_) (fun c_2 => ?_)
    · skip
      replace c_2 := i_le c_2
      exact w_pi (S_X9_byteAt_b32  H) (by decide) (by decide)
    · skip
      replace c_2 := i_nle c_2
      refine Ok_i (fun c_3 => ?_) (fun c_3 => ?_)
      · skip
        replace c_3 := i_le c_3
        rw [L_400] at c_3
        exfalso
        omega
      · skip
        replace c_3 := i_nle c_3
        rw [L_400] at c_3
        refine d_gR (q := (22, 400)) H K_l0 (by decide) rfl (fun v2 r_v2 K_v2 => ?_)
        refine c_aI K_v2 (by omega) (by omega) (fun v3 => ?_)
        have a_4 := i_andc (a := v3) (m := (255 : Int32)) (n := 255) rfl (by decide)
        exact r_pi (by omega)
theorem S_X9_byteAt {l0 : Nat} {l1 : Int32} {M : gM} (H : q_HT 0 M) (K_l0 : q_Kd M l0 (9, 0)) (h_l1 : l1.toInt ≤ 400) : Ok (F_X9_byteAt (some l0) l1 M) (q_pi (0) (256)) := by
  delta F_X9_byteAt
  exact w_pi (S_X9_byteAt_b0  H K_l0 (by omega)) (by decide) (by decide)
theorem S_X9_isLetter_b16  {M : gM} (H : q_HT 0 M) : Ok (F_X9_isLetter_b16 M) (q_pi (0) (1)) := by
  delta F_X9_isLetter_b16
  exact r_pi (by decide)
theorem S_X9_isLetter_b0 {l0 : Int32} {M : gM} (H : q_HT 0 M) (h_l0 : 0 ≤ l0.toInt ∧ l0.toInt ≤ 256) : Ok (F_X9_isLetter_b0 M l0) (q_pi (0) (1)) := by
  delta F_X9_isLetter_b0
  refine Ok_i (fun c_1 => ?_) (fun c_1 => ?_)
  · skip
    replace c_1 := i_lt c_1
    rw [L_97] at c_1
    exact w_pi (S_X9_isLetter_b16  H) (by decide) (by decide)
  · skip
    replace c_1 := i_nlt c_1
    rw [L_97] at c_1
    refine Ok_i (fun c_2 => ?_) (fun c_2 => ?_)
    · skip
      replace c_2 := i_lt c_2
      rw [L_122] at c_2
      exact w_pi (S_X9_isLetter_b16  H) (by decide) (by decide)
    · skip
      replace c_2 := i_nlt c_2
      rw [L_122] at c_2
      exact r_pi (by decide)
theorem S_X9_isLetter {l0 : Int32} {M : gM} (H : q_HT 0 M) (h_l0 : 0 ≤ l0.toInt ∧ l0.toInt ≤ 256) : Ok (F_X9_isLetter l0 M) (q_pi (0) (1)) := by
  delta F_X9_isLetter
  exact w_pi (S_X9_isLetter_b0  H h_l0) (by decide) (by decide)
theorem S_X9_isDigit_b16  {M : gM} (H : q_HT 0 M) : Ok (F_X9_isDigit_b16 M) (q_pi (0) (1)) := by
  delta F_X9_isDigit_b16
  exact r_pi (by decide)
theorem S_X9_isDigit_b0 {l0 : Int32} {M : gM} (H : q_HT 0 M) (h_l0 : 0 ≤ l0.toInt ∧ l0.toInt ≤ 256) : Ok (F_X9_isDigit_b0 M l0) (q_pi (0) (1)) := by
  delta F_X9_isDigit_b0
  refine Ok_i (fun c_1 => ?_) (fun c_1 => ?_)
  · skip
    replace c_1 := i_lt c_1
    rw [L_48] at c_1
    exact w_pi (S_X9_isDigit_b16  H) (by decide) (by decide)
  · skip
    replace c_1 := i_nlt c_1
    rw [L_48] at c_1
    refine Ok_i (fun c_2 => ?_) (fun c_2 => ?_)
    · skip
      replace c_2 := i_lt c_2
      rw [L_57] at c_2
      exact w_pi (S_X9_isDigit_b16  H) (by decide) (by decide)
    · skip
      replace c_2 := i_nlt c_2
      rw [L_57] at c_2
      exact r_pi (by decide)
theorem S_X9_isDigit {l0 : Int32} {M : gM} (H : q_HT 0 M) (h_l0 : 0 ≤ l0.toInt ∧ l0.toInt ≤ 256) : Ok (F_X9_isDigit l0 M) (q_pi (0) (1)) := by
  delta F_X9_isDigit
  exact w_pi (S_X9_isDigit_b0  H h_l0) (by decide) (by decide)
theorem S_X9_endOfRun_b52 {k13 : Option Nat → Int32 → Int32 → Option Int32} {m13 : Int} {l0 : Nat} {l2 : Int32} {l3 : Int32} {M : gM} (hk13 : ∀ {l0 : Nat} {l2 : Int32} {l3 : Int32}, q_HT 0 M → (q_Kd M l0 (9, 0)) → (0 ≤ l2.toInt ∧ l2.toInt ≤ 1) → (1 ≤ l3.toInt ∧ l3.toInt ≤ 400) → 400 - l3.toInt < m13 → Ok (k13 (some l0) l2 l3) (q_pi (0) (400))) (H : q_HT 0 M) (K_l0 : q_Kd M l0 (9, 0)) (h_l2 : 0 ≤ l2.toInt ∧ l2.toInt ≤ 1) (h_l3 : 1 ≤ l3.toInt ∧ l3.toInt ≤ 399) (hm13 : 400 - l3.toInt ≤ m13) : Ok (F_X9_endOfRun_b52 k13 M (some l0) l2 l3) (q_pi (0) (400)) := by
  delta F_X9_endOfRun_b52
  have a_1 := i_addc (x := l3) (c := 1) L_1 (by omega) (by omega)
  exact w_pi (hk13 H K_l0 h_l2 (by omega) (by omega)) (by decide) (by decide)
theorem S_X9_endOfRun_b50 {l3 : Int32} {M : gM} (H : q_HT 0 M) (h_l3 : 1 ≤ l3.toInt ∧ l3.toInt ≤ 399) : Ok (F_X9_endOfRun_b50 M l3) (q_pi (0) (400)) := by
  delta F_X9_endOfRun_b50
  exact r_pi (by omega)
set_option maxHeartbeats 1000000 in
theorem S_X9_endOfRun_b13 {k13 : Option Nat → Int32 → Int32 → Option Int32} {m13 : Int} {l0 : Nat} {l2 : Int32} {l3 : Int32} {M : gM} (hk13 : ∀ {l0 : Nat} {l2 : Int32} {l3 : Int32}, q_HT 0 M → (q_Kd M l0 (9, 0)) → (0 ≤ l2.toInt ∧ l2.toInt ≤ 1) → (1 ≤ l3.toInt ∧ l3.toInt ≤ 400) → 400 - l3.toInt < m13 → Ok (k13 (some l0) l2 l3) (q_pi (0) (400))) (H : q_HT 0 M) (K_l0 : q_Kd M l0 (9, 0)) (h_l2 : 0 ≤ l2.toInt ∧ l2.toInt ≤ 1) (h_l3 : 1 ≤ l3.toInt ∧ l3.toInt ≤ 400) (hm13 : 400 - l3.toInt ≤ m13) : Ok (F_X9_endOfRun_b13 k13 M (some l0) l2 l3) (q_pi (0) (400)) := by
  delta F_X9_endOfRun_b13
  refine d_gI (lo := 0) (hi := 400) H K_l0 (by decide) rfl (fun v1 q_v1 e_v1 => ?_)
  refine Ok_i (fun c_1 => ?_) (fun c_1 => ?_)
  · skip
    replace c_1 := i_le c_1
    refine c_gIs K_l0 q_v1 (fun v2 e_v2 => ?_)
    have t_v2 := congrArg Int32.toInt e_v2
    have q_v2 := q_v1.trans e_v2.symm
    exact r_pi (by omega)
  · skip
    replace c_1 := i_nle c_1
    refine Ok_i (fun c_2 => ?_) (fun c_2 => ?_)
    · skip
      replace c_2 := i_eq c_2
      rw [L_0] at c_2
      refine c_gO K_l0 ?_
      refine Ok_b (S_X9_byteAt H K_l0 (by omega)) (fun v4 e_v4 => ?_)
      replace e_v4 := q_un e_v4
      refine Ok_b (S_X9_isDigit H e_v4) (fun v5 e_v5 => ?_)
      replace e_v5 := q_un e_v5
      refine Ok_i (fun c_3 => ?_) (fun c_3 => ?_)
      · skip
        replace c_3 := i_eq c_3
        rw [L_0] at c_3
        exact w_pi (S_X9_endOfRun_b50  H (by omega)) (by decide) (by decide)
      · skip
        replace c_3 := i_ne c_3
        rw [L_0] at c_3
        exact w_pi (S_X9_endOfRun_b52 hk13 H K_l0 h_l2 (by omega) (by omega)) (by decide) (by decide)
    · skip
      replace c_2 := i_ne c_2
      rw [L_0] at c_2
      refine c_gO K_l0 ?_
      refine Ok_b (S_X9_byteAt H K_l0 (by omega)) (fun v7 e_v7 => ?_)
      replace e_v7 := q_un e_v7
      refine Ok_b (S_X9_isLetter H e_v7) (fun v8 e_v8 => ?_)
      replace e_v8 := q_un e_v8
      refine Ok_i (fun c_4 => ?_) (fun c_4 => ?_)
      · skip
        replace c_4 := i_eq c_4
        rw [L_0] at c_4
        exact w_pi (S_X9_endOfRun_b50  H (by omega)) (by decide) (by decide)
      · skip
        replace c_4 := i_ne c_4
        rw [L_0] at c_4
        exact w_pi (S_X9_endOfRun_b52 hk13 H K_l0 h_l2 (by omega) (by omega)) (by decide) (by decide)
theorem S_X9_endOfRun_L13 {M : gM} : ∀ (n : Nat) {l0 : Nat} {l2 : Int32} {l3 : Int32}, q_HT 0 M → (q_Kd M l0 (9, 0)) → (0 ≤ l2.toInt ∧ l2.toInt ≤ 1) → (1 ≤ l3.toInt ∧ l3.toInt ≤ 400) → 400 - l3.toInt < (n : Int) → Ok (F_X9_endOfRun_L13 M n (some l0) l2 l3) (q_pi (0) (400)) := by
  intro n
  induction n with
  | zero =>
    intro l0 l2 l3 H K_l0 h_l2 h_l3  hm
    exfalso
    omega
  | succ n ih =>
    intro l0 l2 l3 H K_l0 h_l2 h_l3  hm
    exact S_X9_endOfRun_b13 (m13 := 400 - l3.toInt) (fun H K_l0 h_l2 h_l3  hmz => ih H K_l0 h_l2 h_l3  (by omega)) H K_l0 h_l2 h_l3  (Int.le_refl _)
theorem S_X9_endOfRun_b0 {l0 : Nat} {l1 : Int32} {M : gM} (H : q_HT 0 M) (K_l0 : q_Kd M l0 (9, 0)) (h_l1 : 0 ≤ l1.toInt ∧ l1.toInt ≤ 399) : Ok (F_X9_endOfRun_b0 M (some l0) l1) (q_pi (0) (400)) := by
  delta F_X9_endOfRun_b0
  refine c_gO K_l0 ?_
  refine Ok_b (S_X9_byteAt H K_l0 (by omega)) (fun v2 e_v2 => ?_)
  replace e_v2 := q_un e_v2
  refine Ok_b (S_X9_isLetter H e_v2) (fun v3 e_v3 => ?_)
  replace e_v3 := q_un e_v3
  have a_1 := i_addc (x := l1) (c := (1 : Int32)) L_1 (by omega) (by omega)
  exact w_pi (S_X9_endOfRun_L13  g_fuel H K_l0 e_v3 (by omega) (q_fu (by omega))) (by decide) (by decide)
theorem S_X9_endOfRun {l0 : Nat} {l1 : Int32} {M : gM} (H : q_HT 0 M) (K_l0 : q_Kd M l0 (9, 0)) (h_l1 : 0 ≤ l1.toInt ∧ l1.toInt ≤ 399) : Ok (F_X9_endOfRun (some l0) l1 M) (q_pi (0) (400)) := by
  delta F_X9_endOfRun
  exact w_pi (S_X9_endOfRun_b0  H K_l0 h_l1) (by decide) (by decide)
theorem S_X9_wordKind_b90 {k10 : Option Nat → Int32 → Int32 → Int32 → Int32 → Int32 → Option Int32} {m10 : Int} {l0 : Nat} {l1 : Int32} {l2 : Int32} {l3 : Int32} {l4 : Int32} {l5 : Int32} {M : gM} (hk10 : ∀ {l0 : Nat} {l1 : Int32} {l2 : Int32} {l3 : Int32} {l4 : Int32} {l5 : Int32}, q_HT 0 M → (q_Kd M l0 (9, 0)) → (0 ≤ l1.toInt ∧ l1.toInt ≤ 399) → (0 ≤ l2.toInt ∧ l2.toInt ≤ 400) → (0 ≤ l5.toInt ∧ l5.toInt ≤ 116) → 116 - l5.toInt < m10 → Ok (k10 (some l0) l1 l2 l3 l4 l5) (q_pi (-2147483648) (2147483647))) (H : q_HT 0 M) (K_l0 : q_Kd M l0 (9, 0)) (h_l1 : 0 ≤ l1.toInt ∧ l1.toInt ≤ 399) (h_l2 : 0 ≤ l2.toInt ∧ l2.toInt ≤ 400) (h_l5 : 0 ≤ l5.toInt ∧ l5.toInt ≤ 115) (hm10 : 116 - l5.toInt ≤ m10) : Ok (F_X9_wordKind_b90 k10 M (some l0) l1 l2 l3 l4 l5) (q_pi (-2147483648) (2147483647)) := by
  delta F_X9_wordKind_b90
  have a_1 := i_addc (x := l5) (c := 1) L_1 (by omega) (by omega)
  exact w_pi (hk10 H K_l0 h_l1 h_l2 (by omega) (by omega)) (by decide) (by decide)
theorem S_X9_wordKind_b87 {k10 : Option Nat → Int32 → Int32 → Int32 → Int32 → Int32 → Option Int32} {m10 : Int} {l0 : Nat} {l1 : Int32} {l2 : Int32} {l3 : Int32} {l5 : Int32} {M : gM} (hk10 : ∀ {l0 : Nat} {l1 : Int32} {l2 : Int32} {l3 : Int32} {l4 : Int32} {l5 : Int32}, q_HT 0 M → (q_Kd M l0 (9, 0)) → (0 ≤ l1.toInt ∧ l1.toInt ≤ 399) → (0 ≤ l2.toInt ∧ l2.toInt ≤ 400) → (0 ≤ l5.toInt ∧ l5.toInt ≤ 116) → 116 - l5.toInt < m10 → Ok (k10 (some l0) l1 l2 l3 l4 l5) (q_pi (-2147483648) (2147483647))) (H : q_HT 0 M) (K_l0 : q_Kd M l0 (9, 0)) (h_l1 : 0 ≤ l1.toInt ∧ l1.toInt ≤ 399) (h_l2 : 0 ≤ l2.toInt ∧ l2.toInt ≤ 400) (h_l5 : 0 ≤ l5.toInt ∧ l5.toInt ≤ 115) (hm10 : 116 - l5.toInt ≤ m10) : Ok (F_X9_wordKind_b87 k10 M (some l0) l1 l2 l3 l5) (q_pi (-2147483648) (2147483647)) := by
  delta F_X9_wordKind_b87
  exact w_pi (S_X9_wordKind_b90 hk10 H K_l0 h_l1 h_l2 h_l5 (by omega)) (by decide) (by decide)
set_option maxHeartbeats 1000000 in
theorem S_X9_wordKind_b10 {k10 : Option Nat → Int32 → Int32 → Int32 → Int32 → Int32 → Option Int32} {m10 : Int} {l0 : Nat} {l1 : Int32} {l2 : Int32} {l3 : Int32} {l4 : Int32} {l5 : Int32} {M : gM} (hk10 : ∀ {l0 : Nat} {l1 : Int32} {l2 : Int32} {l3 : Int32} {l4 : Int32} {l5 : Int32}, q_HT 0 M → (q_Kd M l0 (9, 0)) → (0 ≤ l1.toInt ∧ l1.toInt ≤ 399) → (0 ≤ l2.toInt ∧ l2.toInt ≤ 400) → (0 ≤ l5.toInt ∧ l5.toInt ≤ 116) → 116 - l5.toInt < m10 → Ok (k10 (some l0) l1 l2 l3 l4 l5) (q_pi (-2147483648) (2147483647))) (H : q_HT 0 M) (K_l0 : q_Kd M l0 (9, 0)) (h_l1 : 0 ≤ l1.toInt ∧ l1.toInt ≤ 399) (h_l2 : 0 ≤ l2.toInt ∧ l2.toInt ≤ 400) (h_l5 : 0 ≤ l5.toInt ∧ l5.toInt ≤ 116) (hm10 : 116 - l5.toInt ≤ m10) : Ok (F_X9_wordKind_b10 k10 M (some l0) l1 l2 l3 l4 l5) (q_pi (-2147483648) (2147483647)) := by
  delta F_X9_wordKind_b10
  refine Ok_i (fun c_1 => ?_) (fun c_1 => ?_)
  · skip
    replace c_1 := i_le c_1
    rw [L_116] at c_1
    exact r_pi (i_rng _)
  · skip
    replace c_1 := i_nle c_1
    rw [L_116] at c_1
    refine c_gch (by omega) (by omega) (fun v1 => ?_)
    refine Ok_i (fun c_2 => ?_) (fun c_2 => ?_)
    · skip
      replace c_2 := i_eq c_2
      rw [L_32] at c_2
      have a_3 := i_sub (x := l2) (y := l1) (by omega) (by omega)
      refine Ok_i (fun c_4 => ?_) (fun c_4 => ?_)
      · skip
        replace c_4 := i_eq c_4
        exact r_pi (i_rng _)
      · skip
        replace c_4 := i_ne c_4
        exact w_pi (S_X9_wordKind_b90 hk10 H K_l0 h_l1 h_l2 (by omega) (by omega)) (by decide) (by decide)
    · skip
      replace c_2 := i_ne c_2
      rw [L_32] at c_2
      refine Ok_i (fun c_5 => ?_) (fun c_5 => ?_)
      · skip
        replace c_5 := i_lt c_5
        rw [L_0] at c_5
        exact w_pi (S_X9_wordKind_b87 hk10 H K_l0 h_l1 h_l2 (by omega) (by omega)) (by decide) (by decide)
      · skip
        replace c_5 := i_nlt c_5
        rw [L_0] at c_5
        refine Ok_i (fun c_6 => ?_) (fun c_6 => ?_)
        · skip
          replace c_6 := i_le c_6
          exact w_pi (S_X9_wordKind_b87 hk10 H K_l0 h_l1 h_l2 (by omega) (by omega)) (by decide) (by decide)
        · skip
          replace c_6 := i_nle c_6
          refine c_gO K_l0 ?_
          refine Ok_b (S_X9_byteAt H K_l0 (by omega)) (fun v3 e_v3 => ?_)
          replace e_v3 := q_un e_v3
          refine Ok_i (fun c_7 => ?_) (fun c_7 => ?_)
          · skip
            replace c_7 := i_eq c_7
            exact w_pi (S_X9_wordKind_b90 hk10 H K_l0 h_l1 h_l2 (by omega) (by omega)) (by decide) (by decide)
          · skip
            replace c_7 := i_ne c_7
            exact w_pi (S_X9_wordKind_b87 hk10 H K_l0 h_l1 h_l2 (by omega) (by omega)) (by decide) (by decide)
theorem S_X9_wordKind_L10 {M : gM} : ∀ (n : Nat) {l0 : Nat} {l1 : Int32} {l2 : Int32} {l3 : Int32} {l4 : Int32} {l5 : Int32}, q_HT 0 M → (q_Kd M l0 (9, 0)) → (0 ≤ l1.toInt ∧ l1.toInt ≤ 399) → (0 ≤ l2.toInt ∧ l2.toInt ≤ 400) → (0 ≤ l5.toInt ∧ l5.toInt ≤ 116) → 116 - l5.toInt < (n : Int) → Ok (F_X9_wordKind_L10 M n (some l0) l1 l2 l3 l4 l5) (q_pi (-2147483648) (2147483647)) := by
  intro n
  induction n with
  | zero =>
    intro l0 l1 l2 l3 l4 l5 H K_l0 h_l1 h_l2 h_l5  hm
    exfalso
    omega
  | succ n ih =>
    intro l0 l1 l2 l3 l4 l5 H K_l0 h_l1 h_l2 h_l5  hm
    exact S_X9_wordKind_b10 (m10 := 116 - l5.toInt) (fun H K_l0 h_l1 h_l2 h_l5  hmz => ih H K_l0 h_l1 h_l2 h_l5  (by omega)) H K_l0 h_l1 h_l2 h_l5  (Int.le_refl _)
theorem S_X9_wordKind_b0 {l0 : Nat} {l1 : Int32} {l2 : Int32} {M : gM} (H : q_HT 0 M) (K_l0 : q_Kd M l0 (9, 0)) (h_l1 : 0 ≤ l1.toInt ∧ l1.toInt ≤ 399) (h_l2 : 0 ≤ l2.toInt ∧ l2.toInt ≤ 400) : Ok (F_X9_wordKind_b0 M (some l0) l1 l2) (q_pi (-2147483648) (2147483647)) := by
  delta F_X9_wordKind_b0
  exact w_pi (S_X9_wordKind_L10  g_fuel H K_l0 h_l1 h_l2 (by decide) (q_fu (by rw [L_0]; omega))) (by decide) (by decide)
theorem S_X9_wordKind {l0 : Nat} {l1 : Int32} {l2 : Int32} {M : gM} (H : q_HT 0 M) (K_l0 : q_Kd M l0 (9, 0)) (h_l1 : 0 ≤ l1.toInt ∧ l1.toInt ≤ 399) (h_l2 : 0 ≤ l2.toInt ∧ l2.toInt ≤ 400) : Ok (F_X9_wordKind (some l0) l1 l2 M) (q_pi (-2147483648) (2147483647)) := by
  delta F_X9_wordKind
  exact w_pi (S_X9_wordKind_b0  H K_l0 h_l1 h_l2) (by decide) (by decide)
set_option maxHeartbeats 1000000 in
theorem S_X9_add_b0 {b : Nat → Bool} {l0 : Nat} {l1 : Int32} {l2 : Int32} {l3 : Int32} {M : gM} (H : q_HT 0 M) (K_l0 : q_Kd M l0 (9, 0)) (h_l2 : 0 ≤ l2.toInt ∧ l2.toInt ≤ 400) : Ok (F_X9_add_b0 (some l0) l1 l2 l3 M) (q_PV b M) := by
  delta F_X9_add_b0
  refine d_gI (lo := 0) (hi := 401) H K_l0 (by decide) rfl (fun v1 q_v1 e_v1 => ?_)
  refine d_gR (q := (20, 401)) H K_l0 (by decide) rfl (fun v2 r_v2 K_v2 => ?_)
  refine c_aN K_v2 (by decide) (by decide) (fun v3 e_v3 => ?_)
  refine Ok_i (fun c_1 => ?_) (fun c_1 => ?_)
  · skip
    replace c_1 := i_le c_1
    exact r_PV H (q_rf _ _)
  · skip
    replace c_1 := i_nle c_1
    refine c_gRs K_l0 r_v2 ?_
    refine c_gIs K_l0 q_v1 (fun v5 e_v5 => ?_)
    have t_v5 := congrArg Int32.toInt e_v5
    have q_v5 := q_v1.trans e_v5.symm
    refine c_sI (b := b) H K_v2 (by omega) (by omega) (fun M6 HM6 fM6 o_M6 rr_M6 => ?_)
    have q_2 := (congrFun (o_M6 _ (q_dn K_l0 K_v2 (Or.inl (Nat.le_of_ble_eq_true rfl)))) 4).trans q_v5
    have r_3 := (congrFun (congrFun rr_M6 _) 1).trans r_v2
    have K_4 := (q_mo K_l0 (by decide) fM6)
    refine d_gR (q := (20, 401)) HM6 K_4 (by decide) rfl (fun v7 r_v7 K_v7 => ?_)
    refine c_gIs K_4 q_2 (fun v8 e_v8 => ?_)
    have t_v8 := congrArg Int32.toInt e_v8
    have q_v8 := q_2.trans e_v8.symm
    refine c_sI (b := b) HM6 K_v7 (by omega) (by omega) (fun M9 HM9 fM9 o_M9 rr_M9 => ?_)
    have q_5 := (congrFun (o_M9 _ (q_dn K_4 K_v7 (Or.inl (Nat.le_of_ble_eq_true rfl)))) 4).trans q_v8
    have r_6 := (congrFun (congrFun rr_M9 _) 1).trans r_3
    have r_7 := (congrFun (congrFun rr_M9 _) 2).trans r_v7
    have g_8 := q_tr fM6 fM9
    have K_9 := (q_mo K_4 (by decide) fM9)
    refine d_gR (q := (20, 401)) HM9 K_9 (by decide) rfl (fun v10 r_v10 K_v10 => ?_)
    refine c_gIs K_9 q_5 (fun v11 e_v11 => ?_)
    have t_v11 := congrArg Int32.toInt e_v11
    have q_v11 := q_5.trans e_v11.symm
    refine c_sI (b := b) HM9 K_v10 (by omega) (by omega) (fun M12 HM12 fM12 o_M12 rr_M12 => ?_)
    have q_10 := (congrFun (o_M12 _ (q_dn K_9 K_v10 (Or.inl (Nat.le_of_ble_eq_true rfl)))) 4).trans q_v11
    have r_11 := (congrFun (congrFun rr_M12 _) 1).trans r_6
    have r_12 := (congrFun (congrFun rr_M12 _) 2).trans r_7
    have r_13 := (congrFun (congrFun rr_M12 _) 3).trans r_v10
    have g_14 := q_tr g_8 fM12
    have K_15 := (q_mo K_9 (by decide) fM12)
    refine c_gIs K_15 q_10 (fun v13 e_v13 => ?_)
    have t_v13 := congrArg Int32.toInt e_v13
    have q_v13 := q_10.trans e_v13.symm
    have a_16 := i_addc (x := v13) (c := (1 : Int32)) L_1 (by omega) (by omega)
    refine c_pI (b := b) (lo := 0) (hi := 401) HM12 K_15 (by decide) rfl (by omega) rfl (fun M14 HM14 fM14 q_M14 o_M14 rr_M14 => ?_)
    have r_17 := (congrFun (congrFun rr_M14 _) 1).trans r_11
    have r_18 := (congrFun (congrFun rr_M14 _) 2).trans r_12
    have r_19 := (congrFun (congrFun rr_M14 _) 3).trans r_13
    have g_20 := q_tr g_14 fM14
    exact r_PV HM14 g_20
theorem S_X9_add {b : Nat → Bool} {l0 : Nat} {l1 : Int32} {l2 : Int32} {l3 : Int32} {M : gM} (H : q_HT 0 M) (K_l0 : q_Kd M l0 (9, 0)) (h_l2 : 0 ≤ l2.toInt ∧ l2.toInt ≤ 400) : Ok (F_X9_add (some l0) l1 l2 l3 M) (q_PV b M) := by
  delta F_X9_add
  exact w_PV (q_rf _ _) (S_X9_add_b0 (b := b)  H K_l0 h_l2)
theorem S_X9_valueOf_b15 {k15 : Option Nat → Int32 → Int32 → Int32 → Option Int32} {m15 : Int} {l0 : Nat} {l2 : Int32} {l3 : Int32} {l4 : Int32} {M : gM} (hk15 : ∀ {l0 : Nat} {l2 : Int32} {l3 : Int32} {l4 : Int32}, q_HT 0 M → (q_Kd M l0 (9, 0)) → (0 ≤ l2.toInt ∧ l2.toInt ≤ 400) → (0 ≤ l4.toInt ∧ l4.toInt ≤ 400) → 400 - l4.toInt < m15 → Ok (k15 (some l0) l2 l3 l4) (q_pi (-2147483648) (2147483647))) (H : q_HT 0 M) (K_l0 : q_Kd M l0 (9, 0)) (h_l2 : 0 ≤ l2.toInt ∧ l2.toInt ≤ 400) (h_l4 : 0 ≤ l4.toInt ∧ l4.toInt ≤ 400) (hm15 : 400 - l4.toInt ≤ m15) : Ok (F_X9_valueOf_b15 k15 M (some l0) l2 l3 l4) (q_pi (-2147483648) (2147483647)) := by
  delta F_X9_valueOf_b15
  refine Ok_i (fun c_1 => ?_) (fun c_1 => ?_)
  · skip
    replace c_1 := i_le c_1
    exact r_pi (i_rng _)
  · skip
    replace c_1 := i_nle c_1
    refine c_gO K_l0 ?_
    refine Ok_b (S_X9_byteAt H K_l0 (by omega)) (fun v2 e_v2 => ?_)
    replace e_v2 := q_un e_v2
    have a_2 := i_addc (x := l4) (c := 1) L_1 (by omega) (by omega)
    exact w_pi (hk15 H K_l0 h_l2 (by omega) (by omega)) (by decide) (by decide)
theorem S_X9_valueOf_L15 {M : gM} : ∀ (n : Nat) {l0 : Nat} {l2 : Int32} {l3 : Int32} {l4 : Int32}, q_HT 0 M → (q_Kd M l0 (9, 0)) → (0 ≤ l2.toInt ∧ l2.toInt ≤ 400) → (0 ≤ l4.toInt ∧ l4.toInt ≤ 400) → 400 - l4.toInt < (n : Int) → Ok (F_X9_valueOf_L15 M n (some l0) l2 l3 l4) (q_pi (-2147483648) (2147483647)) := by
  intro n
  induction n with
  | zero =>
    intro l0 l2 l3 l4 H K_l0 h_l2 h_l4  hm
    exfalso
    omega
  | succ n ih =>
    intro l0 l2 l3 l4 H K_l0 h_l2 h_l4  hm
    exact S_X9_valueOf_b15 (m15 := 400 - l4.toInt) (fun H K_l0 h_l2 h_l4  hmz => ih H K_l0 h_l2 h_l4  (by omega)) H K_l0 h_l2 h_l4  (Int.le_refl _)
theorem S_X9_valueOf_b0 {l0 : Nat} {l1 : Int32} {l2 : Int32} {M : gM} (H : q_HT 0 M) (K_l0 : q_Kd M l0 (9, 0)) (h_l1 : 0 ≤ l1.toInt ∧ l1.toInt ≤ 399) (h_l2 : 0 ≤ l2.toInt ∧ l2.toInt ≤ 400) : Ok (F_X9_valueOf_b0 M (some l0) l1 l2) (q_pi (-2147483648) (2147483647)) := by
  delta F_X9_valueOf_b0
  have a_1 := i_sub (x := l2) (y := l1) (by omega) (by omega)
  refine Ok_i (fun c_2 => ?_) (fun c_2 => ?_)
  · skip
    replace c_2 := i_le c_2
    rw [L_5] at c_2
    exact w_pi (S_X9_valueOf_L15  g_fuel H K_l0 h_l2 (by omega) (q_fu (by omega))) (by decide) (by decide)
  · skip
    replace c_2 := i_nle c_2
    rw [L_5] at c_2
    exact r_pi (i_rng _)
theorem S_X9_valueOf {l0 : Nat} {l1 : Int32} {l2 : Int32} {M : gM} (H : q_HT 0 M) (K_l0 : q_Kd M l0 (9, 0)) (h_l1 : 0 ≤ l1.toInt ∧ l1.toInt ≤ 399) (h_l2 : 0 ≤ l2.toInt ∧ l2.toInt ≤ 400) : Ok (F_X9_valueOf (some l0) l1 l2 M) (q_pi (-2147483648) (2147483647)) := by
  delta F_X9_valueOf
  exact w_pi (S_X9_valueOf_b0  H K_l0 h_l1 h_l2) (by decide) (by decide)
theorem S_X9_split_b187 {b : Nat → Bool} {l0 : Nat} {M : gM} (H : q_HT 0 M) (K_l0 : q_Kd M l0 (9, 0)) : Ok (F_X9_split_b187 (some l0) M) (q_PV b M) := by
  delta F_X9_split_b187
  refine d_gI (lo := 0) (hi := 400) H K_l0 (by decide) rfl (fun v1 q_v1 e_v1 => ?_)
  refine c_gO K_l0 ?_
  refine Ok_b (S_X9_add (b := b) H K_l0 e_v1) (fun M3 zM3 => ?_)
  obtain ⟨HM3, fM3⟩ := zM3
  exact r_PV HM3 fM3
theorem S_X9_split_b178 {b : Nat → Bool} {k19 : Option Nat → Int32 → Int32 → gM → Option gM} {m19 : Int} {l0 : Nat} {l2 : Int32} {l4 : Int32} {M : gM} (hk19 : ∀ {l0 : Nat} {l1 : Int32} {l2 : Int32} {M : gM}, q_HT 0 M → (q_Kd M l0 (9, 0)) → (0 ≤ l1.toInt ∧ l1.toInt ≤ 401) → (0 ≤ l2.toInt ∧ l2.toInt ≤ 400) → 400 - l2.toInt < m19 → Ok (k19 (some l0) l1 l2 M) (q_PV b M)) (H : q_HT 0 M) (K_l0 : q_Kd M l0 (9, 0)) (h_l2 : 0 ≤ l2.toInt ∧ l2.toInt ≤ 399) (h_l4 : 0 ≤ l4.toInt ∧ l4.toInt ≤ 401) (hm19 : 400 - l2.toInt ≤ m19) : Ok (F_X9_split_b178 k19 (some l0) l2 l4 M) (q_PV b M) := by
  delta F_X9_split_b178
  have a_1 := i_addc (x := l2) (c := 1) L_1 (by omega) (by omega)
  exact w_PV (q_rf _ _) (hk19 H K_l0 h_l4 (by omega) (by omega))
theorem S_X9_split_b165 {b : Nat → Bool} {k19 : Option Nat → Int32 → Int32 → gM → Option gM} {m19 : Int} {l0 : Nat} {l1 : Int32} {l2 : Int32} {l3 : Int32} {l4 : Int32} {M : gM} (hk19 : ∀ {l0 : Nat} {l1 : Int32} {l2 : Int32} {M : gM}, q_HT 0 M → (q_Kd M l0 (9, 0)) → (0 ≤ l1.toInt ∧ l1.toInt ≤ 401) → (0 ≤ l2.toInt ∧ l2.toInt ≤ 400) → 400 - l2.toInt < m19 → Ok (k19 (some l0) l1 l2 M) (q_PV b M)) (H : q_HT 0 M) (K_l0 : q_Kd M l0 (9, 0)) (h_l1 : 0 ≤ l1.toInt ∧ l1.toInt ≤ 399) (h_l2 : 0 ≤ l2.toInt ∧ l2.toInt ≤ 399) (h_l3 : 0 ≤ l3.toInt ∧ l3.toInt ≤ 256) (h_l4 : 0 ≤ l4.toInt ∧ l4.toInt ≤ 400) (hm19 : 400 - l2.toInt ≤ m19) : Ok (F_X9_split_b165 k19 (some l0) l1 l2 l3 l4 M) (q_PV b M) := by
  delta F_X9_split_b165
  refine Ok_i (fun c_1 => ?_) (fun c_1 => ?_)
  · skip
    replace c_1 := i_eq c_1
    rw [L_32] at c_1
    exact w_PV (q_rf _ _) (S_X9_split_b178 (b := b) hk19 H K_l0 h_l2 (by omega) (by omega))
  · skip
    replace c_1 := i_ne c_1
    rw [L_32] at c_1
    refine c_gO K_l0 ?_
    refine Ok_b (S_X9_add (b := b) H K_l0 (by omega)) (fun M2 zM2 => ?_)
    obtain ⟨HM2, fM2⟩ := zM2
    have K_2 := (q_mo K_l0 (by decide) fM2)
    exact w_PV fM2 (S_X9_split_b178 (b := b) hk19 HM2 K_2 h_l2 (by omega) (by omega))
theorem S_X9_split_b154 {b : Nat → Bool} {k19 : Option Nat → Int32 → Int32 → gM → Option gM} {m19 : Int} {l0 : Nat} {l1 : Int32} {l2 : Int32} {l4 : Int32} {s0 : Nat} {s1 : Int32} {M : gM} (hk19 : ∀ {l0 : Nat} {l1 : Int32} {l2 : Int32} {M : gM}, q_HT 0 M → (q_Kd M l0 (9, 0)) → (0 ≤ l1.toInt ∧ l1.toInt ≤ 401) → (0 ≤ l2.toInt ∧ l2.toInt ≤ 400) → 400 - l2.toInt < m19 → Ok (k19 (some l0) l1 l2 M) (q_PV b M)) (H : q_HT 0 M) (K_l0 : q_Kd M l0 (9, 0)) (h_l1 : 0 ≤ l1.toInt ∧ l1.toInt ≤ 399) (h_l2 : 0 ≤ l2.toInt ∧ l2.toInt ≤ 399) (h_l4 : 0 ≤ l4.toInt ∧ l4.toInt ≤ 400) (K_s0 : q_Kd M s0 (9, 0)) (h_s1 : 258 ≤ s1.toInt ∧ s1.toInt ≤ 259) (hm19 : 400 - l2.toInt ≤ m19) : Ok (F_X9_split_b154 k19 (some l0) l1 l2 l4 (some s0) s1 M) (q_PV b M) := by
  delta F_X9_split_b154
  refine c_gO K_s0 ?_
  refine Ok_b (S_X9_add (b := b) H K_s0 (by omega)) (fun M2 zM2 => ?_)
  obtain ⟨HM2, fM2⟩ := zM2
  have K_1 := (q_mo K_l0 (by decide) fM2)
  have a_2 := i_addc (x := l4) (c := 1) L_1 (by omega) (by omega)
  exact w_PV fM2 (S_X9_split_b178 (b := b) hk19 HM2 K_1 h_l2 (by omega) (by omega))
theorem S_X9_split_b127 {b : Nat → Bool} {k19 : Option Nat → Int32 → Int32 → gM → Option gM} {m19 : Int} {l0 : Nat} {l1 : Int32} {l2 : Int32} {l3 : Int32} {l4 : Int32} {M : gM} (hk19 : ∀ {l0 : Nat} {l1 : Int32} {l2 : Int32} {M : gM}, q_HT 0 M → (q_Kd M l0 (9, 0)) → (0 ≤ l1.toInt ∧ l1.toInt ≤ 401) → (0 ≤ l2.toInt ∧ l2.toInt ≤ 400) → 400 - l2.toInt < m19 → Ok (k19 (some l0) l1 l2 M) (q_PV b M)) (H : q_HT 0 M) (K_l0 : q_Kd M l0 (9, 0)) (h_l1 : 0 ≤ l1.toInt ∧ l1.toInt ≤ 399) (h_l2 : 0 ≤ l2.toInt ∧ l2.toInt ≤ 399) (h_l3 : 60 ≤ l3.toInt ∧ l3.toInt ≤ 62) (h_l4 : 0 ≤ l4.toInt ∧ l4.toInt ≤ 400) (hm19 : 400 - l2.toInt ≤ m19) : Ok (F_X9_split_b127 k19 (some l0) l1 l2 l3 l4 M) (q_PV b M) := by
  delta F_X9_split_b127
  refine c_gO K_l0 ?_
  refine Ok_b (S_X9_byteAt H K_l0 (by omega)) (fun v2 e_v2 => ?_)
  replace e_v2 := q_un e_v2
  refine Ok_i (fun c_1 => ?_) (fun c_1 => ?_)
  · skip
    replace c_1 := i_eq c_1
    rw [L_61] at c_1
    refine Ok_i (fun c_2 => ?_) (fun c_2 => ?_)
    · skip
      replace c_2 := i_eq c_2
      rw [L_60] at c_2
      exact w_PV (q_rf _ _) (S_X9_split_b154 (b := b) hk19 H K_l0 h_l1 h_l2 h_l4 K_l0 (by decide) (by omega))
    · skip
      replace c_2 := i_ne c_2
      rw [L_60] at c_2
      exact w_PV (q_rf _ _) (S_X9_split_b154 (b := b) hk19 H K_l0 h_l1 h_l2 h_l4 K_l0 (by decide) (by omega))
  · skip
    replace c_1 := i_ne c_1
    rw [L_61] at c_1
    exact w_PV (q_rf _ _) (S_X9_split_b165 (b := b) hk19 H K_l0 h_l1 h_l2 (by omega) h_l4 (by omega))
set_option maxHeartbeats 1000000 in
theorem S_X9_split_b65 {b : Nat → Bool} {k19 : Option Nat → Int32 → Int32 → gM → Option gM} {m19 : Int} {l0 : Nat} {l1 : Int32} {l2 : Int32} {l3 : Int32} {s0 : Int32} {M : gM} (hk19 : ∀ {l0 : Nat} {l1 : Int32} {l2 : Int32} {M : gM}, q_HT 0 M → (q_Kd M l0 (9, 0)) → (0 ≤ l1.toInt ∧ l1.toInt ≤ 401) → (0 ≤ l2.toInt ∧ l2.toInt ≤ 400) → 400 - l2.toInt < m19 → Ok (k19 (some l0) l1 l2 M) (q_PV b M)) (H : q_HT 0 M) (K_l0 : q_Kd M l0 (9, 0)) (h_l1 : 0 ≤ l1.toInt ∧ l1.toInt ≤ 399) (h_l2 : 0 ≤ l2.toInt ∧ l2.toInt ≤ 399) (h_l3 : 0 ≤ l3.toInt ∧ l3.toInt ≤ 256) (h_s0 : 0 ≤ s0.toInt ∧ s0.toInt ≤ 400) (hm19 : 400 - l2.toInt ≤ m19) : Ok (F_X9_split_b65 k19 (some l0) l1 l2 l3 s0 M) (q_PV b M) := by
  delta F_X9_split_b65
  refine Ok_b (S_X9_isLetter H h_l3) (fun v1 e_v1 => ?_)
  replace e_v1 := q_un e_v1
  refine Ok_i (fun c_1 => ?_) (fun c_1 => ?_)
  · skip
    replace c_1 := i_eq c_1
    rw [L_0] at c_1
    refine Ok_b (S_X9_isDigit H h_l3) (fun v2 e_v2 => ?_)
    replace e_v2 := q_un e_v2
    refine Ok_i (fun c_2 => ?_) (fun c_2 => ?_)
    · skip
      replace c_2 := i_eq c_2
      rw [L_0] at c_2
      refine Ok_i (fun c_3 => ?_) (fun c_3 => ?_)
      · skip
        replace c_3 := i_eq c_3
        rw [L_60] at c_3
        exact w_PV (q_rf _ _) (S_X9_split_b127 (b := b) hk19 H K_l0 h_l1 h_l2 (by omega) h_s0 (by omega))
      · skip
        replace c_3 := i_ne c_3
        rw [L_60] at c_3
        refine Ok_i (fun c_4 => ?_) (fun c_4 => ?_)
        · skip
          replace c_4 := i_eq c_4
          rw [L_62] at c_4
          exact w_PV (q_rf _ _) (S_X9_split_b127 (b := b) hk19 H K_l0 h_l1 h_l2 (by omega) h_s0 (by omega))
        · skip
          replace c_4 := i_ne c_4
          rw [L_62] at c_4
          exact w_PV (q_rf _ _) (S_X9_split_b165 (b := b) hk19 H K_l0 h_l1 h_l2 h_l3 h_s0 (by omega))
    · skip
      replace c_2 := i_ne c_2
      rw [L_0] at c_2
      refine c_gO K_l0 ?_
      refine Ok_b (S_X9_valueOf H K_l0 h_l1 h_s0) (fun v4 e_v4 => ?_)
      clear e_v4
      refine Ok_b (S_X9_add (b := b) H K_l0 (by omega)) (fun M5 zM5 => ?_)
      obtain ⟨HM5, fM5⟩ := zM5
      have K_5 := (q_mo K_l0 (by decide) fM5)
      exact w_PV fM5 (S_X9_split_b178 (b := b) hk19 HM5 K_5 h_l2 (by omega) (by omega))
  · skip
    replace c_1 := i_ne c_1
    rw [L_0] at c_1
    refine c_gO K_l0 ?_
    refine Ok_b (S_X9_wordKind H K_l0 h_l1 h_s0) (fun v7 e_v7 => ?_)
    clear e_v7
    refine Ok_b (S_X9_add (b := b) H K_l0 (by omega)) (fun M8 zM8 => ?_)
    obtain ⟨HM8, fM8⟩ := zM8
    have K_6 := (q_mo K_l0 (by decide) fM8)
    exact w_PV fM8 (S_X9_split_b178 (b := b) hk19 HM8 K_6 h_l2 (by omega) (by omega))
theorem S_X9_split_b54 {b : Nat → Bool} {k19 : Option Nat → Int32 → Int32 → gM → Option gM} {m19 : Int} {l0 : Nat} {l1 : Int32} {l2 : Int32} {l3 : Int32} {M : gM} (hk19 : ∀ {l0 : Nat} {l1 : Int32} {l2 : Int32} {M : gM}, q_HT 0 M → (q_Kd M l0 (9, 0)) → (0 ≤ l1.toInt ∧ l1.toInt ≤ 401) → (0 ≤ l2.toInt ∧ l2.toInt ≤ 400) → 400 - l2.toInt < m19 → Ok (k19 (some l0) l1 l2 M) (q_PV b M)) (H : q_HT 0 M) (K_l0 : q_Kd M l0 (9, 0)) (h_l1 : 0 ≤ l1.toInt ∧ l1.toInt ≤ 399) (h_l2 : 0 ≤ l2.toInt ∧ l2.toInt ≤ 399) (h_l3 : 0 ≤ l3.toInt ∧ l3.toInt ≤ 256) (hm19 : 400 - l2.toInt ≤ m19) : Ok (F_X9_split_b54 k19 (some l0) l1 l2 l3 M) (q_PV b M) := by
  delta F_X9_split_b54
  refine c_gO K_l0 ?_
  refine Ok_b (S_X9_endOfRun H K_l0 h_l1) (fun v2 e_v2 => ?_)
  replace e_v2 := q_un e_v2
  exact w_PV (q_rf _ _) (S_X9_split_b65 (b := b) hk19 H K_l0 h_l1 h_l2 h_l3 e_v2 (by omega))
set_option maxHeartbeats 1000000 in
theorem S_X9_split_b19 {b : Nat → Bool} {k19 : Option Nat → Int32 → Int32 → gM → Option gM} {m19 : Int} {l0 : Nat} {l1 : Int32} {l2 : Int32} {M : gM} (hk19 : ∀ {l0 : Nat} {l1 : Int32} {l2 : Int32} {M : gM}, q_HT 0 M → (q_Kd M l0 (9, 0)) → (0 ≤ l1.toInt ∧ l1.toInt ≤ 401) → (0 ≤ l2.toInt ∧ l2.toInt ≤ 400) → 400 - l2.toInt < m19 → Ok (k19 (some l0) l1 l2 M) (q_PV b M)) (H : q_HT 0 M) (K_l0 : q_Kd M l0 (9, 0)) (h_l1 : 0 ≤ l1.toInt ∧ l1.toInt ≤ 401) (h_l2 : 0 ≤ l2.toInt ∧ l2.toInt ≤ 400) (hm19 : 400 - l2.toInt ≤ m19) : Ok (F_X9_split_b19 k19 (some l0) l1 l2 M) (q_PV b M) := by
  delta F_X9_split_b19
  refine Ok_i (fun c_1 => ?_) (fun c_1 => ?_)
  · skip
    replace c_1 := i_le c_1
    rw [L_400] at c_1
    exact w_PV (q_rf _ _) (S_X9_split_b187 (b := b)  H K_l0)
  · skip
    replace c_1 := i_nle c_1
    rw [L_400] at c_1
    refine d_gI (lo := 0) (hi := 400) H K_l0 (by decide) rfl (fun v1 q_v1 e_v1 => ?_)
    refine Ok_i (fun c_2 => ?_) (fun c_2 => ?_)
    · skip
      replace c_2 := i_le c_2
      exact w_PV (q_rf _ _) (S_X9_split_b187 (b := b)  H K_l0)
    · skip
      replace c_2 := i_nle c_2
      refine c_gO K_l0 ?_
      refine Ok_b (S_X9_byteAt H K_l0 (by omega)) (fun v3 e_v3 => ?_)
      replace e_v3 := q_un e_v3
      refine Ok_b (S_X9_isLetter H e_v3) (fun v4 e_v4 => ?_)
      replace e_v4 := q_un e_v4
      refine Ok_i (fun c_3 => ?_) (fun c_3 => ?_)
      · skip
        replace c_3 := i_eq c_3
        rw [L_0] at c_3
        refine Ok_b (S_X9_isDigit H e_v3) (fun v5 e_v5 => ?_)
        replace e_v5 := q_un e_v5
        refine Ok_i (fun c_4 => ?_) (fun c_4 => ?_)
        · skip
          replace c_4 := i_eq c_4
          rw [L_0] at c_4
          have a_5 := i_addc (x := l1) (c := (1 : Int32)) L_1 (by omega) (by omega)
          exact w_PV (q_rf _ _) (S_X9_split_b65 (b := b) hk19 H K_l0 (by omega) (by omega) e_v3 (by omega) (by omega))
        · skip
          replace c_4 := i_ne c_4
          rw [L_0] at c_4
          exact w_PV (q_rf _ _) (S_X9_split_b54 (b := b) hk19 H K_l0 (by omega) (by omega) e_v3 (by omega))
      · skip
        replace c_3 := i_ne c_3
        rw [L_0] at c_3
        exact w_PV (q_rf _ _) (S_X9_split_b54 (b := b) hk19 H K_l0 (by omega) (by omega) e_v3 (by omega))
theorem S_X9_split_L19 {b : Nat → Bool} : ∀ (n : Nat) {l0 : Nat} {l1 : Int32} {l2 : Int32} {M : gM}, q_HT 0 M → (q_Kd M l0 (9, 0)) → (0 ≤ l1.toInt ∧ l1.toInt ≤ 401) → (0 ≤ l2.toInt ∧ l2.toInt ≤ 400) → 400 - l2.toInt < (n : Int) → Ok (F_X9_split_L19 n (some l0) l1 l2 M) (q_PV b M) := by
  intro n
  induction n with
  | zero =>
    intro l0 l1 l2 M H K_l0 h_l1 h_l2  hm
    exfalso
    omega
  | succ n ih =>
    intro l0 l1 l2 M H K_l0 h_l1 h_l2  hm
    exact S_X9_split_b19 (b := b) (m19 := 400 - l2.toInt) (fun H K_l0 h_l1 h_l2  hmz => ih H K_l0 h_l1 h_l2  (by omega)) H K_l0 h_l1 h_l2  (Int.le_refl _)
theorem S_X9_split_b0 {b : Nat → Bool} {l0 : Nat} {M : gM} (H : q_HT 0 M) (K_l0 : q_Kd M l0 (9, 0)) : Ok (F_X9_split_b0 (some l0) M) (q_PV b M) := by
  delta F_X9_split_b0
  refine c_pI (b := b) (lo := 0) (hi := 401) H K_l0 (by decide) rfl (by decide) rfl (fun M1 HM1 fM1 q_M1 o_M1 rr_M1 => ?_)
  have K_1 := (q_mo K_l0 (by decide) fM1)
  refine c_pI (b := b) (lo := 0) (hi := 401) HM1 K_1 (by decide) rfl (by decide) rfl (fun M2 HM2 fM2 q_M2 o_M2 rr_M2 => ?_)
  have q_2 := (o_M2 _ _ (Or.inr (by decide))).trans q_M1
  have g_3 := q_tr fM1 fM2
  have K_4 := (q_mo K_1 (by decide) fM2)
  refine c_pI (b := b) (lo := -2147483648) (hi := 2147483647) HM2 K_4 (by decide) rfl (i_rng _) rfl (fun M3 HM3 fM3 q_M3 o_M3 rr_M3 => ?_)
  have q_5 := (o_M3 _ _ (Or.inr (by decide))).trans q_2
  have q_6 := (o_M3 _ _ (Or.inr (by decide))).trans q_M2
  have g_7 := q_tr g_3 fM3
  have K_8 := (q_mo K_4 (by decide) fM3)
  exact w_PV g_7 (S_X9_split_L19 (b := b)  g_fuel HM3 K_8 (by decide) (by decide) (q_fu (by rw [L_0]; omega)))
theorem S_X9_split {b : Nat → Bool} {l0 : Nat} {M : gM} (H : q_HT 0 M) (K_l0 : q_Kd M l0 (9, 0)) : Ok (F_X9_split (some l0) M) (q_PV b M) := by
  delta F_X9_split
  exact w_PV (q_rf _ _) (S_X9_split_b0 (b := b)  H K_l0)
set_option maxHeartbeats 1000000 in
theorem S_X8_clear_b30 {b : Nat → Bool} {k30 : Option Nat → Int32 → gM → Option gM} {m30 : Int} {l0 : Nat} {l1 : Int32} {M : gM} (hk30 : ∀ {l0 : Nat} {l1 : Int32} {M : gM}, q_HT 0 M → (q_Kd M l0 (8, 0)) → (0 ≤ l1.toInt ∧ l1.toInt ≤ 7) → 7 - l1.toInt < m30 → Ok (k30 (some l0) l1 M) (q_PV b M)) (H : q_HT 0 M) (K_l0 : q_Kd M l0 (8, 0)) (h_l1 : 0 ≤ l1.toInt ∧ l1.toInt ≤ 7) (hm30 : 7 - l1.toInt ≤ m30) : Ok (F_X8_clear_b30 k30 (some l0) l1 M) (q_PV b M) := by
  delta F_X8_clear_b30
  refine Ok_i (fun c_1 => ?_) (fun c_1 => ?_)
  · skip
    replace c_1 := i_le c_1
    rw [L_7] at c_1
    refine c_pI (b := b) (lo := -2147483648) (hi := 2147483647) H K_l0 (by decide) rfl (i_rng _) rfl (fun M1 HM1 fM1 q_M1 o_M1 rr_M1 => ?_)
    have K_2 := (q_mo K_l0 (by decide) fM1)
    refine c_pI (b := b) (lo := -2147483648) (hi := 2147483647) HM1 K_2 (by decide) rfl (i_rng _) rfl (fun M2 HM2 fM2 q_M2 o_M2 rr_M2 => ?_)
    have q_3 := (o_M2 _ _ (Or.inr (by decide))).trans q_M1
    have g_4 := q_tr fM1 fM2
    have K_5 := (q_mo K_2 (by decide) fM2)
    refine c_pI (b := b) (lo := -2147483648) (hi := 2147483647) HM2 K_5 (by decide) rfl (i_rng _) rfl (fun M3 HM3 fM3 q_M3 o_M3 rr_M3 => ?_)
    have q_6 := (o_M3 _ _ (Or.inr (by decide))).trans q_3
    have q_7 := (o_M3 _ _ (Or.inr (by decide))).trans q_M2
    have g_8 := q_tr g_4 fM3
    exact r_PV HM3 g_8
  · skip
    replace c_1 := i_nle c_1
    rw [L_7] at c_1
    refine d_gR (q := (20, 7)) H K_l0 (by decide) rfl (fun v4 r_v4 K_v4 => ?_)
    refine c_sI (b := b) H K_v4 (by omega) (by omega) (fun M5 HM5 fM5 o_M5 rr_M5 => ?_)
    have r_9 := (congrFun (congrFun rr_M5 _) 2).trans r_v4
    have K_10 := (q_mo K_l0 (by decide) fM5)
    refine d_gR (q := (20, 7)) HM5 K_10 (by decide) rfl (fun v6 r_v6 K_v6 => ?_)
    refine c_sI (b := b) HM5 K_v6 (by omega) (by omega) (fun M7 HM7 fM7 o_M7 rr_M7 => ?_)
    have r_11 := (congrFun (congrFun rr_M7 _) 2).trans r_9
    have r_12 := (congrFun (congrFun rr_M7 _) 3).trans r_v6
    have g_13 := q_tr fM5 fM7
    have K_14 := (q_mo K_10 (by decide) fM7)
    have a_15 := i_addc (x := l1) (c := 1) L_1 (by omega) (by omega)
    exact w_PV g_13 (hk30 HM7 K_14 (by omega) (by omega))
theorem S_X8_clear_L30 {b : Nat → Bool} : ∀ (n : Nat) {l0 : Nat} {l1 : Int32} {M : gM}, q_HT 0 M → (q_Kd M l0 (8, 0)) → (0 ≤ l1.toInt ∧ l1.toInt ≤ 7) → 7 - l1.toInt < (n : Int) → Ok (F_X8_clear_L30 n (some l0) l1 M) (q_PV b M) := by
  intro n
  induction n with
  | zero =>
    intro l0 l1 M H K_l0 h_l1  hm
    exfalso
    omega
  | succ n ih =>
    intro l0 l1 M H K_l0 h_l1  hm
    exact S_X8_clear_b30 (b := b) (m30 := 7 - l1.toInt) (fun H K_l0 h_l1  hmz => ih H K_l0 h_l1  (by omega)) H K_l0 h_l1  (Int.le_refl _)
theorem S_X8_clear_b2 {b : Nat → Bool} {k2 : Option Nat → Int32 → gM → Option gM} {m2 : Int} {l0 : Nat} {l1 : Int32} {M : gM} (hk2 : ∀ {l0 : Nat} {l1 : Int32} {M : gM}, q_HT 0 M → (q_Kd M l0 (8, 0)) → (0 ≤ l1.toInt ∧ l1.toInt ≤ 49) → 49 - l1.toInt < m2 → Ok (k2 (some l0) l1 M) (q_PV b M)) (H : q_HT 0 M) (K_l0 : q_Kd M l0 (8, 0)) (h_l1 : 0 ≤ l1.toInt ∧ l1.toInt ≤ 49) (hm2 : 49 - l1.toInt ≤ m2) : Ok (F_X8_clear_b2 k2 (some l0) l1 M) (q_PV b M) := by
  delta F_X8_clear_b2
  refine Ok_i (fun c_1 => ?_) (fun c_1 => ?_)
  · skip
    replace c_1 := i_le c_1
    rw [L_49] at c_1
    exact w_PV (q_rf _ _) (S_X8_clear_L30 (b := b)  g_fuel H K_l0 (by decide) (q_fu (by rw [L_0]; omega)))
  · skip
    replace c_1 := i_nle c_1
    rw [L_49] at c_1
    refine d_gR (q := (20, 49)) H K_l0 (by decide) rfl (fun v1 r_v1 K_v1 => ?_)
    refine c_sI (b := b) H K_v1 (by omega) (by omega) (fun M2 HM2 fM2 o_M2 rr_M2 => ?_)
    have r_2 := (congrFun (congrFun rr_M2 _) 0).trans r_v1
    have K_3 := (q_mo K_l0 (by decide) fM2)
    refine d_gR (q := (20, 49)) HM2 K_3 (by decide) rfl (fun v3 r_v3 K_v3 => ?_)
    refine c_sI (b := b) HM2 K_v3 (by omega) (by omega) (fun M4 HM4 fM4 o_M4 rr_M4 => ?_)
    have r_4 := (congrFun (congrFun rr_M4 _) 0).trans r_2
    have r_5 := (congrFun (congrFun rr_M4 _) 1).trans r_v3
    have g_6 := q_tr fM2 fM4
    have K_7 := (q_mo K_3 (by decide) fM4)
    have a_8 := i_addc (x := l1) (c := 1) L_1 (by omega) (by omega)
    exact w_PV g_6 (hk2 HM4 K_7 (by omega) (by omega))
theorem S_X8_clear_L2 {b : Nat → Bool} : ∀ (n : Nat) {l0 : Nat} {l1 : Int32} {M : gM}, q_HT 0 M → (q_Kd M l0 (8, 0)) → (0 ≤ l1.toInt ∧ l1.toInt ≤ 49) → 49 - l1.toInt < (n : Int) → Ok (F_X8_clear_L2 n (some l0) l1 M) (q_PV b M) := by
  intro n
  induction n with
  | zero =>
    intro l0 l1 M H K_l0 h_l1  hm
    exfalso
    omega
  | succ n ih =>
    intro l0 l1 M H K_l0 h_l1  hm
    exact S_X8_clear_b2 (b := b) (m2 := 49 - l1.toInt) (fun H K_l0 h_l1  hmz => ih H K_l0 h_l1  (by omega)) H K_l0 h_l1  (Int.le_refl _)
theorem S_X8_clear_b0 {b : Nat → Bool} {l0 : Nat} {M : gM} (H : q_HT 0 M) (K_l0 : q_Kd M l0 (8, 0)) : Ok (F_X8_clear_b0 (some l0) M) (q_PV b M) := by
  delta F_X8_clear_b0
  exact w_PV (q_rf _ _) (S_X8_clear_L2 (b := b)  g_fuel H K_l0 (by decide) (q_fu (by rw [L_0]; omega)))
theorem S_X8_clear {b : Nat → Bool} {l0 : Nat} {M : gM} (H : q_HT 0 M) (K_l0 : q_Kd M l0 (8, 0)) : Ok (F_X8_clear (some l0) M) (q_PV b M) := by
  delta F_X8_clear
  exact w_PV (q_rf _ _) (S_X8_clear_b0 (b := b)  H K_l0)
theorem S_X9_kind_b0 {l0 : Nat} {M : gM} (H : q_HT 0 M) (K_l0 : q_Kd M l0 (9, 0)) : Ok (F_X9_kind_b0 M (some l0)) (q_pi (-2147483648) (2147483647)) := by
  delta F_X9_kind_b0
  refine d_gI (lo := 0) (hi := 401) H K_l0 (by decide) rfl (fun v1 q_v1 e_v1 => ?_)
  refine d_gI (lo := 0) (hi := 401) H K_l0 (by decide) rfl (fun v2 q_v2 e_v2 => ?_)
  refine Ok_i (fun c_1 => ?_) (fun c_1 => ?_)
  · skip
    replace c_1 := i_le c_1
    exact r_pi (i_rng _)
  · skip
    replace c_1 := i_nle c_1
    refine d_gR (q := (20, 401)) H K_l0 (by decide) rfl (fun v3 r_v3 K_v3 => ?_)
    refine c_gIs K_l0 q_v1 (fun v4 e_v4 => ?_)
    have t_v4 := congrArg Int32.toInt e_v4
    have q_v4 := q_v1.trans e_v4.symm
    refine c_aI K_v3 (by omega) (by omega) (fun v5 => ?_)
    exact r_pi (i_rng _)
theorem S_X9_kind {l0 : Nat} {M : gM} (H : q_HT 0 M) (K_l0 : q_Kd M l0 (9, 0)) : Ok (F_X9_kind (some l0) M) (q_pi (-2147483648) (2147483647)) := by
  delta F_X9_kind
  exact w_pi (S_X9_kind_b0  H K_l0) (by decide) (by decide)
theorem S_X2_isClause_b49  {M : gM} (H : q_HT 0 M) : Ok (F_X2_isClause_b49 M) (q_pi (0) (1)) := by
  delta F_X2_isClause_b49
  exact r_pi (by decide)
set_option maxHeartbeats 1000000 in
theorem S_X2_isClause_b0 {l0 : Int32} {M : gM} (H : q_HT 0 M) : Ok (F_X2_isClause_b0 M l0) (q_pi (0) (1)) := by
  delta F_X2_isClause_b0
  refine Ok_i (fun c_1 => ?_) (fun c_1 => ?_)
  · skip
    replace c_1 := i_eq c_1
    rw [L_275] at c_1
    exact w_pi (S_X2_isClause_b49  H) (by decide) (by decide)
  · skip
    replace c_1 := i_ne c_1
    rw [L_275] at c_1
    refine Ok_i (fun c_2 => ?_) (fun c_2 => ?_)
    · skip
      replace c_2 := i_eq c_2
      rw [L_262] at c_2
      exact w_pi (S_X2_isClause_b49  H) (by decide) (by decide)
    · skip
      replace c_2 := i_ne c_2
      rw [L_262] at c_2
      refine Ok_i (fun c_3 => ?_) (fun c_3 => ?_)
      · skip
        replace c_3 := i_eq c_3
        rw [L_268] at c_3
        exact w_pi (S_X2_isClause_b49  H) (by decide) (by decide)
      · skip
        replace c_3 := i_ne c_3
        rw [L_268] at c_3
        refine Ok_i (fun c_4 => ?_) (fun c_4 => ?_)
        · skip
          replace c_4 := i_eq c_4
          rw [L_261] at c_4
          exact w_pi (S_X2_isClause_b49  H) (by decide) (by decide)
        · skip
          replace c_4 := i_ne c_4
          rw [L_261] at c_4
          refine Ok_i (fun c_5 => ?_) (fun c_5 => ?_)
          · skip
            replace c_5 := i_eq c_5
            rw [L_267] at c_5
            exact w_pi (S_X2_isClause_b49  H) (by decide) (by decide)
          · skip
            replace c_5 := i_ne c_5
            rw [L_267] at c_5
            refine Ok_i (fun c_6 => ?_) (fun c_6 => ?_)
            · skip
              replace c_6 := i_eq c_6
              rw [L_276] at c_6
              exact w_pi (S_X2_isClause_b49  H) (by decide) (by decide)
            · skip
              replace c_6 := i_ne c_6
              rw [L_276] at c_6
              refine Ok_i (fun c_7 => ?_) (fun c_7 => ?_)
              · skip
                replace c_7 := i_eq c_7
                rw [L_277] at c_7
                exact w_pi (S_X2_isClause_b49  H) (by decide) (by decide)
              · skip
                replace c_7 := i_ne c_7
                rw [L_277] at c_7
                exact r_pi (by decide)
theorem S_X2_isClause {l0 : Int32} {M : gM} (H : q_HT 0 M) : Ok (F_X2_isClause l0 M) (q_pi (0) (1)) := by
  delta F_X2_isClause
  exact w_pi (S_X2_isClause_b0  H) (by decide) (by decide)
theorem S_X9_place_b0 {l0 : Nat} {M : gM} (H : q_HT 0 M) (K_l0 : q_Kd M l0 (9, 0)) : Ok (F_X9_place_b0 M (some l0)) (q_pi (-2147483648) (2147483647)) := by
  delta F_X9_place_b0
  refine d_gI (lo := 0) (hi := 401) H K_l0 (by decide) rfl (fun v1 q_v1 e_v1 => ?_)
  refine d_gI (lo := 0) (hi := 401) H K_l0 (by decide) rfl (fun v2 q_v2 e_v2 => ?_)
  refine Ok_i (fun c_1 => ?_) (fun c_1 => ?_)
  · skip
    replace c_1 := i_le c_1
    refine d_gI (lo := 0) (hi := 400) H K_l0 (by decide) rfl (fun v3 q_v3 e_v3 => ?_)
    exact r_pi (i_rng _)
  · skip
    replace c_1 := i_nle c_1
    refine d_gR (q := (20, 401)) H K_l0 (by decide) rfl (fun v4 r_v4 K_v4 => ?_)
    refine c_gIs K_l0 q_v1 (fun v5 e_v5 => ?_)
    have t_v5 := congrArg Int32.toInt e_v5
    have q_v5 := q_v1.trans e_v5.symm
    refine c_aI K_v4 (by omega) (by omega) (fun v6 => ?_)
    exact r_pi (i_rng _)
theorem S_X9_place {l0 : Nat} {M : gM} (H : q_HT 0 M) (K_l0 : q_Kd M l0 (9, 0)) : Ok (F_X9_place (some l0) M) (q_pi (-2147483648) (2147483647)) := by
  delta F_X9_place
  exact w_pi (S_X9_place_b0  H K_l0) (by decide) (by decide)
theorem S_X9_blame_b0 {b : Nat → Bool} {l0 : Nat} {l1 : Int32} {l2 : Int32} {M : gM} (H : q_HT 0 M) (K_l0 : q_Kd M l0 (9, 0)) (h_l2 : 0 ≤ l2.toInt ∧ l2.toInt ≤ 4) : Ok (F_X9_blame_b0 (some l0) l1 l2 M) (q_PV b M) := by
  delta F_X9_blame_b0
  refine c_gIt K_l0 (fun v1 q_v1 => ?_)
  refine Ok_i (fun c_1 => ?_) (fun c_1 => ?_)
  · skip
    replace c_1 := i_eq c_1
    rw [L_0] at c_1
    refine c_pI (b := b) (lo := -2147483648) (hi := 2147483647) H K_l0 (by decide) rfl (i_rng _) rfl (fun M2 HM2 fM2 q_M2 o_M2 rr_M2 => ?_)
    exact r_PV HM2 fM2
  · skip
    replace c_1 := i_ne c_1
    rw [L_0] at c_1
    exact r_PV H (q_rf _ _)
theorem S_X9_blame {b : Nat → Bool} {l0 : Nat} {l1 : Int32} {l2 : Int32} {M : gM} (H : q_HT 0 M) (K_l0 : q_Kd M l0 (9, 0)) (h_l2 : 0 ≤ l2.toInt ∧ l2.toInt ≤ 4) : Ok (F_X9_blame (some l0) l1 l2 M) (q_PV b M) := by
  delta F_X9_blame
  exact w_PV (q_rf _ _) (S_X9_blame_b0 (b := b)  H K_l0 h_l2)
theorem S_X2_isFull_b61  {M : gM} (H : q_HT 0 M) : Ok (F_X2_isFull_b61 M) (q_pi (0) (1)) := by
  delta F_X2_isFull_b61
  exact r_pi (by decide)
theorem S_X2_isFull_b57  {M : gM} (H : q_HT 0 M) : Ok (F_X2_isFull_b57 M) (q_pi (0) (1)) := by
  delta F_X2_isFull_b57
  exact r_pi (by decide)
theorem S_X2_isFull_b38 {l0 : Nat} {l1 : Int32} {M : gM} (H : q_HT 0 M) (K_l0 : q_Kd M l0 (2, 0)) : Ok (F_X2_isFull_b38 M (some l0) l1) (q_pi (0) (1)) := by
  delta F_X2_isFull_b38
  refine Ok_i (fun c_1 => ?_) (fun c_1 => ?_)
  · skip
    replace c_1 := i_eq c_1
    rw [L_276] at c_1
    refine d_gR (q := (1, 0)) H K_l0 (by decide) rfl (fun v1 r_v1 K_v1 => ?_)
    refine c_gIt K_v1 (fun v2 q_v2 => ?_)
    refine Ok_i (fun c_2 => ?_) (fun c_2 => ?_)
    · skip
      replace c_2 := i_lt c_2
      rw [L_10] at c_2
      exact w_pi (S_X2_isFull_b61  H) (by decide) (by decide)
    · skip
      replace c_2 := i_nlt c_2
      rw [L_10] at c_2
      exact w_pi (S_X2_isFull_b57  H) (by decide) (by decide)
  · skip
    replace c_1 := i_ne c_1
    rw [L_276] at c_1
    exact w_pi (S_X2_isFull_b61  H) (by decide) (by decide)
theorem S_X2_isFull_b19 {l0 : Nat} {l1 : Int32} {M : gM} (H : q_HT 0 M) (K_l0 : q_Kd M l0 (2, 0)) : Ok (F_X2_isFull_b19 M (some l0) l1) (q_pi (0) (1)) := by
  delta F_X2_isFull_b19
  refine Ok_i (fun c_1 => ?_) (fun c_1 => ?_)
  · skip
    replace c_1 := i_eq c_1
    rw [L_261] at c_1
    refine d_gR (q := (1, 0)) H K_l0 (by decide) rfl (fun v1 r_v1 K_v1 => ?_)
    refine d_gI (lo := 0) (hi := 7) H K_v1 (by decide) rfl (fun v2 q_v2 e_v2 => ?_)
    refine Ok_i (fun c_2 => ?_) (fun c_2 => ?_)
    · skip
      replace c_2 := i_le c_2
      rw [L_7] at c_2
      exact w_pi (S_X2_isFull_b57  H) (by decide) (by decide)
    · skip
      replace c_2 := i_nle c_2
      rw [L_7] at c_2
      exact w_pi (S_X2_isFull_b38  H K_l0) (by decide) (by decide)
  · skip
    replace c_1 := i_ne c_1
    rw [L_261] at c_1
    exact w_pi (S_X2_isFull_b38  H K_l0) (by decide) (by decide)
theorem S_X2_isFull_b0 {l0 : Nat} {l1 : Int32} {M : gM} (H : q_HT 0 M) (K_l0 : q_Kd M l0 (2, 0)) : Ok (F_X2_isFull_b0 M (some l0) l1) (q_pi (0) (1)) := by
  delta F_X2_isFull_b0
  refine Ok_i (fun c_1 => ?_) (fun c_1 => ?_)
  · skip
    replace c_1 := i_eq c_1
    rw [L_262] at c_1
    refine d_gR (q := (1, 0)) H K_l0 (by decide) rfl (fun v1 r_v1 K_v1 => ?_)
    refine d_gI (lo := 0) (hi := 7) H K_v1 (by decide) rfl (fun v2 q_v2 e_v2 => ?_)
    refine Ok_i (fun c_2 => ?_) (fun c_2 => ?_)
    · skip
      replace c_2 := i_le c_2
      rw [L_7] at c_2
      exact w_pi (S_X2_isFull_b57  H) (by decide) (by decide)
    · skip
      replace c_2 := i_nle c_2
      rw [L_7] at c_2
      exact w_pi (S_X2_isFull_b19  H K_l0) (by decide) (by decide)
  · skip
    replace c_1 := i_ne c_1
    rw [L_262] at c_1
    exact w_pi (S_X2_isFull_b19  H K_l0) (by decide) (by decide)
theorem S_X2_isFull {l0 : Nat} {l1 : Int32} {M : gM} (H : q_HT 0 M) (K_l0 : q_Kd M l0 (2, 0)) : Ok (F_X2_isFull (some l0) l1 M) (q_pi (0) (1)) := by
  delta F_X2_isFull
  exact w_pi (S_X2_isFull_b0  H K_l0) (by decide) (by decide)
theorem S_X9_next_b0 {b : Nat → Bool} {l0 : Nat} {M : gM} (H : q_HT 0 M) (K_l0 : q_Kd M l0 (9, 0)) : Ok (F_X9_next_b0 (some l0) M) (q_PV b M) := by
  delta F_X9_next_b0
  refine d_gI (lo := 0) (hi := 401) H K_l0 (by decide) rfl (fun v1 q_v1 e_v1 => ?_)
  refine d_gI (lo := 0) (hi := 401) H K_l0 (by decide) rfl (fun v2 q_v2 e_v2 => ?_)
  have a_1 := i_subc (x := v2) (c := (1 : Int32)) L_1 (by omega) (by omega)
  refine Ok_i (fun c_2 => ?_) (fun c_2 => ?_)
  · skip
    replace c_2 := i_le c_2
    exact r_PV H (q_rf _ _)
  · skip
    replace c_2 := i_nle c_2
    refine c_gIs K_l0 q_v1 (fun v3 e_v3 => ?_)
    have t_v3 := congrArg Int32.toInt e_v3
    have q_v3 := q_v1.trans e_v3.symm
    have a_3 := i_addc (x := v3) (c := (1 : Int32)) L_1 (by omega) (by omega)
    refine c_pI (b := b) (lo := 0) (hi := 401) H K_l0 (by decide) rfl (by omega) rfl (fun M4 HM4 fM4 q_M4 o_M4 rr_M4 => ?_)
    have q_4 := (o_M4 _ _ (Or.inr (by decide))).trans q_v2
    exact r_PV HM4 fM4
theorem S_X9_next {b : Nat → Bool} {l0 : Nat} {M : gM} (H : q_HT 0 M) (K_l0 : q_Kd M l0 (9, 0)) : Ok (F_X9_next (some l0) M) (q_PV b M) := by
  delta F_X9_next
  exact w_PV (q_rf _ _) (S_X9_next_b0 (b := b)  H K_l0)
theorem S_X9_isFaulty_b0 {l0 : Nat} {M : gM} (H : q_HT 0 M) (K_l0 : q_Kd M l0 (9, 0)) : Ok (F_X9_isFaulty_b0 M (some l0)) (q_pi (0) (1)) := by
  delta F_X9_isFaulty_b0
  refine c_gIt K_l0 (fun v1 q_v1 => ?_)
  refine Ok_i (fun c_1 => ?_) (fun c_1 => ?_)
  · skip
    replace c_1 := i_eq c_1
    rw [L_0] at c_1
    exact r_pi (by decide)
  · skip
    replace c_1 := i_ne c_1
    rw [L_0] at c_1
    exact r_pi (by decide)
theorem S_X9_isFaulty {l0 : Nat} {M : gM} (H : q_HT 0 M) (K_l0 : q_Kd M l0 (9, 0)) : Ok (F_X9_isFaulty (some l0) M) (q_pi (0) (1)) := by
  delta F_X9_isFaulty
  exact w_pi (S_X9_isFaulty_b0  H K_l0) (by decide) (by decide)
theorem S_X9_number {b : Nat → Bool} {l0 : Nat} {l1 l2 : Int32} {M : gM} (H : q_HT 0 M) (K_l0 : q_Kd M l0 (9, 0)) : Ok (F_X9_number (some l0) l1 l2 M) (fun r => (r.1.toInt = -1 ∨ (l1.toInt ≤ r.1.toInt ∧ r.1.toInt ≤ l2.toInt)) ∧ (q_HT 0 r.2 ∧ q_Fr b M r.2)) := by
  delta F_X9_number F_X9_number_b0 F_X9_number_b30 F_X9_number_b61
  have bad : ∀ {w : Int32}, (0 ≤ w.toInt ∧ w.toInt ≤ 4) → Ok ((gO 9 M (some l0)).bind fun i1 => (F_X9_place (some i1) M).bind fun v2 => (F_X9_blame (some i1) v2 w M).bind fun M3 => some ((-1 : Int32), M3)) (fun r => (r.1.toInt = -1 ∨ (l1.toInt ≤ r.1.toInt ∧ r.1.toInt ≤ l2.toInt)) ∧ (q_HT 0 r.2 ∧ q_Fr b M r.2)) := by
    intro w hw
    refine c_gO K_l0 ?_
    refine Ok_b (S_X9_place H K_l0) (fun v2 _ => ?_)
    refine Ok_b (S_X9_blame (b := b) H K_l0 hw) (fun M3 z => ?_)
    exact Ok_s ⟨Or.inl rfl, z⟩
  refine c_gO K_l0 ?_
  refine Ok_b (S_X9_isFaulty H K_l0) (fun v2 e2 => ?_)
  refine Ok_i (fun c => ?_) (fun c => ?_)
  · refine Ok_b (S_X9_kind H K_l0) (fun v3 e3 => ?_)
    refine Ok_i (fun c2 => ?_) (fun c2 => ?_)
    · refine d_gI (lo := 0) (hi := 401) H K_l0 (by decide) rfl (fun v4 q4 e4 => ?_)
      refine d_gI (lo := 0) (hi := 401) H K_l0 (by decide) rfl (fun v5 q5 e5 => ?_)
      refine Ok_i (fun c3 => ?_) (fun c3 => ?_)
      · have d3 := i_lt c3
        refine d_gR (q := (20, 401)) H K_l0 (by decide) rfl (fun v6 r6 K6 => ?_)
        refine c_gIs K_l0 q4 (fun v7 e7 => ?_)
        have t7 := congrArg Int32.toInt e7
        refine c_aI K6 (by omega) (by omega) (fun v8 => ?_)
        refine Ok_i (fun c4 => ?_) (fun c4 => ?_)
        · exact bad (by decide)
        · refine Ok_i (fun c5 => ?_) (fun c5 => ?_)
          · refine Ok_b (S_X9_next (b := b) H K_l0) (fun M9 z => ?_)
            exact Ok_s ⟨Or.inr ⟨i_nlt c4, i_le c5⟩, z⟩
          · exact bad (by decide)
      · exact bad (by decide)
    · exact bad (by decide)
  · exact Ok_s ⟨Or.inl rfl, H, q_rf _ _⟩
set_option maxHeartbeats 1000000 in
theorem S_X2_readThing_b0 {b : Nat → Bool} {l0 : Nat} {M : gM} (H : q_HT 0 M) (K_l0 : q_Kd M l0 (2, 0)) : Ok (F_X2_readThing_b0 (some l0) M) (q_PV b M) := by
  delta F_X2_readThing_b0
  refine d_gR (q := (9, 0)) H K_l0 (by decide) rfl (fun v1 r_v1 K_v1 => ?_)
  refine c_gO K_v1 ?_
  refine Ok_b (S_X9_number (b := b) H K_v1) (fun yM4 zM4 => ?_)
  obtain ⟨v3, M4⟩ := yM4
  obtain ⟨e_v3, HM4, fM4⟩ := zM4
  try dsimp only at e_v3 HM4 fM4
  rw [L_0] at e_v3
  rw [L_9] at e_v3
  have K_1 := (q_mo K_l0 (by decide) fM4)
  refine d_gR (q := (9, 0)) HM4 K_1 (by decide) rfl (fun v5 r_v5 K_v5 => ?_)
  refine c_gO K_v5 ?_
  refine Ok_b (S_X9_number (b := b) HM4 K_v5) (fun yM8 zM8 => ?_)
  obtain ⟨v7, M8⟩ := yM8
  obtain ⟨e_v7, HM8, fM8⟩ := zM8
  try dsimp only at e_v7 HM8 fM8
  rw [L_0] at e_v7
  rw [L_20] at e_v7
  have g_2 := q_tr fM4 fM8
  have K_3 := (q_mo K_1 (by decide) fM8)
  refine d_gR (q := (9, 0)) HM8 K_3 (by decide) rfl (fun v9 r_v9 K_v9 => ?_)
  refine c_gO K_v9 ?_
  refine Ok_b (S_X9_number (b := b) HM8 K_v9) (fun yM12 zM12 => ?_)
  obtain ⟨v11, M12⟩ := yM12
  obtain ⟨e_v11, HM12, fM12⟩ := zM12
  try dsimp only at e_v11 HM12 fM12
  rw [L_0] at e_v11
  rw [L_99] at e_v11
  have g_4 := q_tr g_2 fM12
  have K_5 := (q_mo K_3 (by decide) fM12)
  refine d_gR (q := (9, 0)) HM12 K_5 (by decide) rfl (fun v13 r_v13 K_v13 => ?_)
  refine c_gO K_v13 ?_
  refine Ok_b (S_X9_isFaulty HM12 K_v13) (fun v15 e_v15 => ?_)
  replace e_v15 := q_un e_v15
  refine Ok_i (fun c_6 => ?_) (fun c_6 => ?_)
  · skip
    replace c_6 := i_eq c_6
    rw [L_0] at c_6
    refine d_gR (q := (1, 0)) HM12 K_5 (by decide) rfl (fun v16 r_v16 K_v16 => ?_)
    refine d_gI (lo := 0) (hi := 7) HM12 K_v16 (by decide) rfl (fun v17 q_v17 e_v17 => ?_)
    refine Ok_i (fun c_7 => ?_) (fun c_7 => ?_)
    · skip
      replace c_7 := i_le c_7
      rw [L_7] at c_7
      exact r_PV HM12 g_4
    · skip
      replace c_7 := i_nle c_7
      rw [L_7] at c_7
      refine c_gRs K_5 r_v16 ?_
      refine d_gR (q := (20, 7)) HM12 K_v16 (by decide) rfl (fun v19 r_v19 K_v19 => ?_)
      refine c_gRs K_5 r_v16 ?_
      refine c_gIs K_v16 q_v17 (fun v21 e_v21 => ?_)
      have t_v21 := congrArg Int32.toInt e_v21
      have q_v21 := q_v17.trans e_v21.symm
      refine c_sI (b := b) HM12 K_v19 (by omega) (by omega) (fun M22 HM22 fM22 o_M22 rr_M22 => ?_)
      have q_8 := (congrFun (o_M22 _ (q_dn K_v16 K_v19 (Or.inl (Nat.le_of_ble_eq_true rfl)))) 6).trans q_v21
      have r_9 := (congrFun (congrFun rr_M22 _) 0).trans r_v13
      have r_10 := (congrFun (congrFun rr_M22 _) 1).trans r_v16
      have r_11 := (congrFun (congrFun rr_M22 _) 0).trans r_v19
      have g_12 := q_tr g_4 fM22
      have K_13 := (q_mo K_5 (by decide) fM22)
      refine c_gRs K_13 r_10 ?_
      have K_14 := (q_mo K_v16 (by decide) fM22)
      refine d_gR (q := (20, 7)) HM22 K_14 (by decide) rfl (fun v24 r_v24 K_v24 => ?_)
      refine c_gRs K_13 r_10 ?_
      have K_15 := (q_mo K_v16 (by decide) fM22)
      refine c_gIs K_15 q_8 (fun v26 e_v26 => ?_)
      have t_v26 := congrArg Int32.toInt e_v26
      have q_v26 := q_8.trans e_v26.symm
      refine c_sI (b := b) HM22 K_v24 (by omega) (by omega) (fun M27 HM27 fM27 o_M27 rr_M27 => ?_)
      have K_17 := (q_mo K_v16 (by decide) fM22)
      have q_16 := (congrFun (o_M27 _ (q_dn K_17 K_v24 (Or.inl (Nat.le_of_ble_eq_true rfl)))) 6).trans q_v26
      have r_18 := (congrFun (congrFun rr_M27 _) 0).trans r_9
      have r_19 := (congrFun (congrFun rr_M27 _) 1).trans r_10
      have r_20 := (congrFun (congrFun rr_M27 _) 0).trans r_11
      have r_21 := (congrFun (congrFun rr_M27 _) 1).trans r_v24
      have g_22 := q_tr g_12 fM27
      have K_23 := (q_mo K_13 (by decide) fM27)
      refine c_gRs K_23 r_19 ?_
      have K_24 := (q_mo K_17 (by decide) fM27)
      refine d_gR (q := (20, 7)) HM27 K_24 (by decide) rfl (fun v29 r_v29 K_v29 => ?_)
      refine c_gRs K_23 r_19 ?_
      have K_25 := (q_mo K_17 (by decide) fM27)
      refine c_gIs K_25 q_16 (fun v31 e_v31 => ?_)
      have t_v31 := congrArg Int32.toInt e_v31
      have q_v31 := q_16.trans e_v31.symm
      refine c_sI (b := b) HM27 K_v29 (by omega) (by omega) (fun M32 HM32 fM32 o_M32 rr_M32 => ?_)
      have K_27 := (q_mo K_17 (by decide) fM27)
      have q_26 := (congrFun (o_M32 _ (q_dn K_27 K_v29 (Or.inl (Nat.le_of_ble_eq_true rfl)))) 6).trans q_v31
      have r_28 := (congrFun (congrFun rr_M32 _) 0).trans r_18
      have r_29 := (congrFun (congrFun rr_M32 _) 1).trans r_19
      have r_30 := (congrFun (congrFun rr_M32 _) 0).trans r_20
      have r_31 := (congrFun (congrFun rr_M32 _) 1).trans r_21
      have r_32 := (congrFun (congrFun rr_M32 _) 2).trans r_v29
      have g_33 := q_tr g_22 fM32
      have K_34 := (q_mo K_23 (by decide) fM32)
      refine c_gRs K_34 r_29 ?_
      have K_35 := (q_mo K_27 (by decide) fM32)
      refine c_gIs K_35 q_26 (fun v34 e_v34 => ?_)
      have t_v34 := congrArg Int32.toInt e_v34
      have q_v34 := q_26.trans e_v34.symm
      have a_36 := i_addc (x := v34) (c := (1 : Int32)) L_1 (by omega) (by omega)
      refine c_pI (b := b) (lo := 0) (hi := 7) HM32 K_35 (by decide) rfl (by omega) rfl (fun M35 HM35 fM35 q_M35 o_M35 rr_M35 => ?_)
      have r_37 := (congrFun (congrFun rr_M35 _) 0).trans r_28
      have r_38 := (congrFun (congrFun rr_M35 _) 1).trans r_29
      have r_39 := (congrFun (congrFun rr_M35 _) 0).trans r_30
      have r_40 := (congrFun (congrFun rr_M35 _) 1).trans r_31
      have r_41 := (congrFun (congrFun rr_M35 _) 2).trans r_32
      have g_42 := q_tr g_33 fM35
      exact r_PV HM35 g_42
  · skip
    replace c_6 := i_ne c_6
    rw [L_0] at c_6
    exact r_PV HM12 g_4
theorem S_X2_readThing {b : Nat → Bool} {l0 : Nat} {M : gM} (H : q_HT 0 M) (K_l0 : q_Kd M l0 (2, 0)) : Ok (F_X2_readThing (some l0) M) (q_PV b M) := by
  delta F_X2_readThing
  exact w_PV (q_rf _ _) (S_X2_readThing_b0 (b := b)  H K_l0)
theorem S_X2_bitOf_b0 {l0 : Int32} {M : gM} (H : q_HT 0 M) (h_l0 : -1 ≤ l0.toInt ∧ l0.toInt ≤ 6) : Ok (F_X2_bitOf_b0 M l0) (q_pi (0) (128)) := by
  delta F_X2_bitOf_b0
  refine Ok_i (fun c_1 => ?_) (fun c_1 => ?_)
  · skip
    replace c_1 := i_le c_1
    rw [L_0] at c_1
    have a_2 := i_shl1 (v := l0) (by omega)
    exact r_pi (by omega)
  · skip
    replace c_1 := i_nle c_1
    rw [L_0] at c_1
    exact r_pi (by decide)
theorem S_X2_bitOf {l0 : Int32} {M : gM} (H : q_HT 0 M) (h_l0 : -1 ≤ l0.toInt ∧ l0.toInt ≤ 6) : Ok (F_X2_bitOf l0 M) (q_pi (0) (128)) := by
  delta F_X2_bitOf
  exact w_pi (S_X2_bitOf_b0  H h_l0) (by decide) (by decide)
set_option maxHeartbeats 1000000 in
theorem S_X2_readHeir_b0 {b : Nat → Bool} {l0 : Nat} {M : gM} (H : q_HT 0 M) (K_l0 : q_Kd M l0 (2, 0)) : Ok (F_X2_readHeir_b0 (some l0) M) (q_PV b M) := by
  delta F_X2_readHeir_b0
  refine d_gR (q := (9, 0)) H K_l0 (by decide) rfl (fun v1 r_v1 K_v1 => ?_)
  refine c_gO K_v1 ?_
  refine Ok_b (S_X9_number (b := b) H K_v1) (fun yM4 zM4 => ?_)
  obtain ⟨v3, M4⟩ := yM4
  obtain ⟨e_v3, HM4, fM4⟩ := zM4
  try dsimp only at e_v3 HM4 fM4
  rw [L_0] at e_v3
  rw [L_99] at e_v3
  have K_1 := (q_mo K_l0 (by decide) fM4)
  refine d_gR (q := (9, 0)) HM4 K_1 (by decide) rfl (fun v5 r_v5 K_v5 => ?_)
  refine c_gO K_v5 ?_
  refine Ok_b (S_X9_number (b := b) HM4 K_v5) (fun yM8 zM8 => ?_)
  obtain ⟨v7, M8⟩ := yM8
  obtain ⟨e_v7, HM8, fM8⟩ := zM8
  try dsimp only at e_v7 HM8 fM8
  rw [L_0] at e_v7
  rw [L_100] at e_v7
  have g_2 := q_tr fM4 fM8
  have K_3 := (q_mo K_1 (by decide) fM8)
  refine d_gR (q := (9, 0)) HM8 K_3 (by decide) rfl (fun v9 r_v9 K_v9 => ?_)
  refine c_gO K_v9 ?_
  refine Ok_b (S_X9_isFaulty HM8 K_v9) (fun v11 e_v11 => ?_)
  replace e_v11 := q_un e_v11
  refine Ok_i (fun c_4 => ?_) (fun c_4 => ?_)
  · skip
    replace c_4 := i_eq c_4
    rw [L_0] at c_4
    refine d_gR (q := (1, 0)) HM8 K_3 (by decide) rfl (fun v12 r_v12 K_v12 => ?_)
    refine d_gI (lo := 0) (hi := 7) HM8 K_v12 (by decide) rfl (fun v13 q_v13 e_v13 => ?_)
    refine Ok_i (fun c_5 => ?_) (fun c_5 => ?_)
    · skip
      replace c_5 := i_le c_5
      rw [L_7] at c_5
      exact r_PV HM8 g_2
    · skip
      replace c_5 := i_nle c_5
      rw [L_7] at c_5
      refine d_gR (q := (8, 0)) HM8 K_3 (by decide) rfl (fun v14 r_v14 K_v14 => ?_)
      refine d_gR (q := (20, 7)) HM8 K_v14 (by decide) rfl (fun v15 r_v15 K_v15 => ?_)
      refine c_gRs K_3 r_v12 ?_
      refine c_gIs K_v12 q_v13 (fun v17 e_v17 => ?_)
      have t_v17 := congrArg Int32.toInt e_v17
      have q_v17 := q_v13.trans e_v17.symm
      refine c_sI (b := b) HM8 K_v15 (by omega) (by omega) (fun M18 HM18 fM18 o_M18 rr_M18 => ?_)
      have q_6 := (congrFun (o_M18 _ (q_dn K_v12 K_v15 (Or.inl (Nat.le_of_ble_eq_true rfl)))) 7).trans q_v17
      have r_7 := (congrFun (congrFun rr_M18 _) 0).trans r_v9
      have r_8 := (congrFun (congrFun rr_M18 _) 1).trans r_v12
      have r_9 := (congrFun (congrFun rr_M18 _) 2).trans r_v14
      have r_10 := (congrFun (congrFun rr_M18 _) 2).trans r_v15
      have g_11 := q_tr g_2 fM18
      have K_12 := (q_mo K_3 (by decide) fM18)
      refine c_gRs K_12 r_8 ?_
      have K_13 := (q_mo K_v12 (by decide) fM18)
      refine d_gR (q := (20, 7)) HM18 K_13 (by decide) rfl (fun v20 r_v20 K_v20 => ?_)
      refine c_gRs K_12 r_8 ?_
      have K_14 := (q_mo K_v12 (by decide) fM18)
      refine c_gIs K_14 q_6 (fun v22 e_v22 => ?_)
      have t_v22 := congrArg Int32.toInt e_v22
      have q_v22 := q_6.trans e_v22.symm
      refine c_sI (b := b) HM18 K_v20 (by omega) (by omega) (fun M23 HM23 fM23 o_M23 rr_M23 => ?_)
      have K_16 := (q_mo K_v12 (by decide) fM18)
      have q_15 := (congrFun (o_M23 _ (q_dn K_16 K_v20 (Or.inl (Nat.le_of_ble_eq_true rfl)))) 7).trans q_v22
      have r_17 := (congrFun (congrFun rr_M23 _) 0).trans r_7
      have r_18 := (congrFun (congrFun rr_M23 _) 1).trans r_8
      have r_19 := (congrFun (congrFun rr_M23 _) 2).trans r_9
      have r_20 := (congrFun (congrFun rr_M23 _) 2).trans r_10
      have r_21 := (congrFun (congrFun rr_M23 _) 3).trans r_v20
      have g_22 := q_tr g_11 fM23
      have K_23 := (q_mo K_12 (by decide) fM23)
      refine c_gRs K_23 r_18 ?_
      have K_24 := (q_mo K_16 (by decide) fM23)
      refine c_gIs K_24 q_15 (fun v25 e_v25 => ?_)
      have t_v25 := congrArg Int32.toInt e_v25
      have q_v25 := q_15.trans e_v25.symm
      have a_25 := i_addc (x := v25) (c := (1 : Int32)) L_1 (by omega) (by omega)
      refine c_pI (b := b) (lo := 0) (hi := 7) HM23 K_24 (by decide) rfl (by omega) rfl (fun M26 HM26 fM26 q_M26 o_M26 rr_M26 => ?_)
      have r_26 := (congrFun (congrFun rr_M26 _) 0).trans r_17
      have r_27 := (congrFun (congrFun rr_M26 _) 1).trans r_18
      have r_28 := (congrFun (congrFun rr_M26 _) 2).trans r_19
      have r_29 := (congrFun (congrFun rr_M26 _) 2).trans r_20
      have r_30 := (congrFun (congrFun rr_M26 _) 3).trans r_21
      have g_31 := q_tr g_22 fM26
      exact r_PV HM26 g_31
  · skip
    replace c_4 := i_ne c_4
    rw [L_0] at c_4
    exact r_PV HM8 g_2
theorem S_X2_readHeir {b : Nat → Bool} {l0 : Nat} {M : gM} (H : q_HT 0 M) (K_l0 : q_Kd M l0 (2, 0)) : Ok (F_X2_readHeir (some l0) M) (q_PV b M) := by
  delta F_X2_readHeir
  exact w_PV (q_rf _ _) (S_X2_readHeir_b0 (b := b)  H K_l0)
theorem S_X11_bit_b0 {l0 : Int32} {l1 : Int32} {M : gM} (H : q_HT 0 M) : Ok (F_X11_bit_b0 M l0 l1) (q_pi (0) (1)) := by
  delta F_X11_bit_b0
  have a_1 := i_andc (a := (l0 >>> (l1 &&& 31))) (m := (1 : Int32)) (n := 1) rfl (by decide)
  exact r_pi (by omega)
theorem S_X11_bit {l0 : Int32} {l1 : Int32} {M : gM} (H : q_HT 0 M) : Ok (F_X11_bit l0 l1 M) (q_pi (0) (1)) := by
  delta F_X11_bit
  exact w_pi (S_X11_bit_b0  H) (by decide) (by decide)
theorem S_X2_readCousins_b85 {b : Nat → Bool} {l0 : Nat} {l2 : Int32} {M : gM} (H : q_HT 0 M) (K_l0 : q_Kd M l0 (2, 0)) : Ok (F_X2_readCousins_b85 (some l0) l2 M) (q_PV b M) := by
  delta F_X2_readCousins_b85
  refine d_gR (q := (9, 0)) H K_l0 (by decide) rfl (fun v1 r_v1 K_v1 => ?_)
  refine c_gO K_v1 ?_
  refine Ok_b (S_X9_blame (b := b) H K_v1 (by decide)) (fun M3 zM3 => ?_)
  obtain ⟨HM3, fM3⟩ := zM3
  exact r_PV HM3 fM3
set_option maxHeartbeats 1000000 in
theorem S_X2_readCousins_b0 {b : Nat → Bool} {l0 : Nat} {M : gM} (H : q_HT 0 M) (K_l0 : q_Kd M l0 (2, 0)) : Ok (F_X2_readCousins_b0 (some l0) M) (q_PV b M) := by
  delta F_X2_readCousins_b0
  refine d_gR (q := (9, 0)) H K_l0 (by decide) rfl (fun v1 r_v1 K_v1 => ?_)
  refine d_gR (q := (1, 0)) H K_l0 (by decide) rfl (fun v2 r_v2 K_v2 => ?_)
  refine d_gI (lo := 0) (hi := 7) H K_v2 (by decide) rfl (fun v3 q_v3 e_v3 => ?_)
  refine c_gO K_v1 ?_
  have a_1 := i_subc (x := v3) (c := (1 : Int32)) L_1 (by omega) (by omega)
  refine Ok_b (S_X9_number (b := b) H K_v1) (fun yM6 zM6 => ?_)
  obtain ⟨v5, M6⟩ := yM6
  obtain ⟨e_v5, HM6, fM6⟩ := zM6
  try dsimp only at e_v5 HM6 fM6
  rw [L_0] at e_v5
  have K_2 := (q_mo K_l0 (by decide) fM6)
  refine d_gR (q := (9, 0)) HM6 K_2 (by decide) rfl (fun v7 r_v7 K_v7 => ?_)
  refine c_gO K_v7 ?_
  refine Ok_b (S_X9_place HM6 K_v7) (fun v9 e_v9 => ?_)
  clear e_v9
  refine c_gRs K_2 r_v7 ?_
  refine d_gR (q := (1, 0)) HM6 K_2 (by decide) rfl (fun v11 r_v11 K_v11 => ?_)
  refine d_gI (lo := 0) (hi := 7) HM6 K_v11 (by decide) rfl (fun v12 q_v12 e_v12 => ?_)
  refine c_gO K_v7 ?_
  have a_3 := i_subc (x := v12) (c := (1 : Int32)) L_1 (by omega) (by omega)
  refine Ok_b (S_X9_number (b := b) HM6 K_v7) (fun yM15 zM15 => ?_)
  obtain ⟨v14, M15⟩ := yM15
  obtain ⟨e_v14, HM15, fM15⟩ := zM15
  try dsimp only at e_v14 HM15 fM15
  rw [L_0] at e_v14
  have g_4 := q_tr fM6 fM15
  have K_5 := (q_mo K_2 (by decide) fM15)
  refine d_gR (q := (9, 0)) HM15 K_5 (by decide) rfl (fun v16 r_v16 K_v16 => ?_)
  refine c_gO K_v16 ?_
  refine Ok_b (S_X9_isFaulty HM15 K_v16) (fun v18 e_v18 => ?_)
  replace e_v18 := q_un e_v18
  refine Ok_i (fun c_6 => ?_) (fun c_6 => ?_)
  · skip
    replace c_6 := i_eq c_6
    rw [L_0] at c_6
    refine Ok_i (fun c_7 => ?_) (fun c_7 => ?_)
    · skip
      replace c_7 := i_lt c_7
      rw [L_0] at c_7
      exact r_PV HM15 g_4
    · skip
      replace c_7 := i_nlt c_7
      rw [L_0] at c_7
      refine Ok_i (fun c_8 => ?_) (fun c_8 => ?_)
      · skip
        replace c_8 := i_le c_8
        rw [L_0] at c_8
        refine Ok_i (fun c_9 => ?_) (fun c_9 => ?_)
        · skip
          replace c_9 := i_eq c_9
          exact w_PV g_4 (S_X2_readCousins_b85 (b := b)  HM15 K_5)
        · skip
          replace c_9 := i_ne c_9
          refine d_gR (q := (1, 0)) HM15 K_5 (by decide) rfl (fun v19 r_v19 K_v19 => ?_)
          refine d_gR (q := (20, 7)) HM15 K_v19 (by decide) rfl (fun v20 r_v20 K_v20 => ?_)
          refine c_aI K_v20 (by omega) (by omega) (fun v21 => ?_)
          refine Ok_b (S_X11_bit HM15) (fun v22 e_v22 => ?_)
          replace e_v22 := q_un e_v22
          refine Ok_i (fun c_10 => ?_) (fun c_10 => ?_)
          · skip
            replace c_10 := i_eq c_10
            rw [L_1] at c_10
            exact w_PV g_4 (S_X2_readCousins_b85 (b := b)  HM15 K_5)
          · skip
            replace c_10 := i_ne c_10
            rw [L_1] at c_10
            refine c_gRs K_5 r_v19 ?_
            refine c_gRs K_v19 r_v20 ?_
            refine c_aI K_v20 (by omega) (by omega) (fun v25 => ?_)
            refine c_sI (b := b) HM15 K_v20 (by omega) (by omega) (fun M26 HM26 fM26 o_M26 rr_M26 => ?_)
            have r_11 := (congrFun (congrFun rr_M26 _) 0).trans r_v16
            have r_12 := (congrFun (congrFun rr_M26 _) 1).trans r_v19
            have r_13 := (congrFun (congrFun rr_M26 _) 4).trans r_v20
            have g_14 := q_tr g_4 fM26
            have K_15 := (q_mo K_5 (by decide) fM26)
            refine c_gRs K_15 r_12 ?_
            have K_16 := (q_mo K_v19 (by decide) fM26)
            refine c_gRs K_16 r_13 ?_
            have K_17 := (q_mo K_v20 (by decide) fM26)
            refine c_aI K_17 (by omega) (by omega) (fun v29 => ?_)
            refine c_sI (b := b) HM26 K_17 (by omega) (by omega) (fun M30 HM30 fM30 o_M30 rr_M30 => ?_)
            have r_18 := (congrFun (congrFun rr_M30 _) 0).trans r_11
            have r_19 := (congrFun (congrFun rr_M30 _) 1).trans r_12
            have r_20 := (congrFun (congrFun rr_M30 _) 4).trans r_13
            have g_21 := q_tr g_14 fM30
            have K_22 := (q_mo K_15 (by decide) fM30)
            refine c_gRs K_22 r_19 ?_
            have K_23 := (q_mo (q_mo K_v19 (by decide) fM26) (by decide) fM30)
            refine c_gIt K_23 (fun v32 q_v32 => ?_)
            refine c_pI (b := b) (lo := -2147483648) (hi := 2147483647) HM30 K_23 (by decide) rfl (i_rng _) rfl (fun M33 HM33 fM33 q_M33 o_M33 rr_M33 => ?_)
            have r_24 := (congrFun (congrFun rr_M33 _) 0).trans r_18
            have r_25 := (congrFun (congrFun rr_M33 _) 1).trans r_19
            have r_26 := (congrFun (congrFun rr_M33 _) 4).trans r_20
            have g_27 := q_tr g_21 fM33
            exact r_PV HM33 g_27
      · skip
        replace c_8 := i_nle c_8
        rw [L_0] at c_8
        exact r_PV HM15 g_4
  · skip
    replace c_6 := i_ne c_6
    rw [L_0] at c_6
    exact r_PV HM15 g_4
theorem S_X2_readCousins {b : Nat → Bool} {l0 : Nat} {M : gM} (H : q_HT 0 M) (K_l0 : q_Kd M l0 (2, 0)) : Ok (F_X2_readCousins (some l0) M) (q_PV b M) := by
  delta F_X2_readCousins
  exact w_PV (q_rf _ _) (S_X2_readCousins_b0 (b := b)  H K_l0)
theorem S_X8_learn_b0 {b : Nat → Bool} {l0 : Nat} {l1 : Int32} {l2 : Int32} {l3 : Int32} {l4 : Int32} {M : gM} (H : q_HT 0 M) (K_l0 : q_Kd M l0 (8, 0)) (h_l1 : 0 ≤ l1.toInt ∧ l1.toInt ≤ 6) (h_l2 : 0 ≤ l2.toInt ∧ l2.toInt ≤ 6) : Ok (F_X8_learn_b0 (some l0) l1 l2 l3 l4 M) (q_PV b M) := by
  delta F_X8_learn_b0
  refine d_gR (q := (20, 49)) H K_l0 (by decide) rfl (fun v1 r_v1 K_v1 => ?_)
  have a_1 := i_mulR (x := l1) (c := (7 : Int32)) L_7 (by omega) (by omega)
  have a_2 := i_add (x := (l1 * (7 : Int32))) (y := l2) (by omega) (by omega)
  refine c_sI (b := b) H K_v1 (by omega) (by omega) (fun M2 HM2 fM2 o_M2 rr_M2 => ?_)
  have r_3 := (congrFun (congrFun rr_M2 _) 0).trans r_v1
  have K_4 := (q_mo K_l0 (by decide) fM2)
  refine d_gR (q := (20, 49)) HM2 K_4 (by decide) rfl (fun v3 r_v3 K_v3 => ?_)
  refine c_sI (b := b) HM2 K_v3 (by omega) (by omega) (fun M4 HM4 fM4 o_M4 rr_M4 => ?_)
  have r_5 := (congrFun (congrFun rr_M4 _) 0).trans r_3
  have r_6 := (congrFun (congrFun rr_M4 _) 1).trans r_v3
  have g_7 := q_tr fM2 fM4
  exact r_PV HM4 g_7
theorem S_X8_learn {b : Nat → Bool} {l0 : Nat} {l1 : Int32} {l2 : Int32} {l3 : Int32} {l4 : Int32} {M : gM} (H : q_HT 0 M) (K_l0 : q_Kd M l0 (8, 0)) (h_l1 : 0 ≤ l1.toInt ∧ l1.toInt ≤ 6) (h_l2 : 0 ≤ l2.toInt ∧ l2.toInt ≤ 6) : Ok (F_X8_learn (some l0) l1 l2 l3 l4 M) (q_PV b M) := by
  delta F_X8_learn
  exact w_PV (q_rf _ _) (S_X8_learn_b0 (b := b)  H K_l0 h_l1 h_l2)
set_option maxHeartbeats 1000000 in
theorem S_X2_readKnows_b0 {b : Nat → Bool} {l0 : Nat} {M : gM} (H : q_HT 0 M) (K_l0 : q_Kd M l0 (2, 0)) : Ok (F_X2_readKnows_b0 (some l0) M) (q_PV b M) := by
  delta F_X2_readKnows_b0
  refine d_gR (q := (9, 0)) H K_l0 (by decide) rfl (fun v1 r_v1 K_v1 => ?_)
  refine d_gR (q := (1, 0)) H K_l0 (by decide) rfl (fun v2 r_v2 K_v2 => ?_)
  refine d_gI (lo := 0) (hi := 7) H K_v2 (by decide) rfl (fun v3 q_v3 e_v3 => ?_)
  refine c_gO K_v1 ?_
  have a_1 := i_subc (x := v3) (c := (1 : Int32)) L_1 (by omega) (by omega)
  refine Ok_b (S_X9_number (b := b) H K_v1) (fun yM6 zM6 => ?_)
  obtain ⟨v5, M6⟩ := yM6
  obtain ⟨e_v5, HM6, fM6⟩ := zM6
  try dsimp only at e_v5 HM6 fM6
  rw [L_0] at e_v5
  have K_2 := (q_mo K_l0 (by decide) fM6)
  refine d_gR (q := (9, 0)) HM6 K_2 (by decide) rfl (fun v7 r_v7 K_v7 => ?_)
  refine d_gR (q := (1, 0)) HM6 K_2 (by decide) rfl (fun v8 r_v8 K_v8 => ?_)
  refine d_gI (lo := 0) (hi := 7) HM6 K_v8 (by decide) rfl (fun v9 q_v9 e_v9 => ?_)
  refine c_gO K_v7 ?_
  have a_3 := i_subc (x := v9) (c := (1 : Int32)) L_1 (by omega) (by omega)
  refine Ok_b (S_X9_number (b := b) HM6 K_v7) (fun yM12 zM12 => ?_)
  obtain ⟨v11, M12⟩ := yM12
  obtain ⟨e_v11, HM12, fM12⟩ := zM12
  try dsimp only at e_v11 HM12 fM12
  rw [L_0] at e_v11
  have g_4 := q_tr fM6 fM12
  have K_5 := (q_mo K_2 (by decide) fM12)
  refine d_gR (q := (9, 0)) HM12 K_5 (by decide) rfl (fun v13 r_v13 K_v13 => ?_)
  refine c_gO K_v13 ?_
  refine Ok_b (S_X9_number (b := b) HM12 K_v13) (fun yM16 zM16 => ?_)
  obtain ⟨v15, M16⟩ := yM16
  obtain ⟨e_v15, HM16, fM16⟩ := zM16
  try dsimp only at e_v15 HM16 fM16
  rw [L_0] at e_v15
  rw [L_9] at e_v15
  have g_6 := q_tr g_4 fM16
  have K_7 := (q_mo K_5 (by decide) fM16)
  refine d_gR (q := (9, 0)) HM16 K_7 (by decide) rfl (fun v17 r_v17 K_v17 => ?_)
  refine c_gO K_v17 ?_
  refine Ok_b (S_X9_number (b := b) HM16 K_v17) (fun yM20 zM20 => ?_)
  obtain ⟨v19, M20⟩ := yM20
  obtain ⟨e_v19, HM20, fM20⟩ := zM20
  try dsimp only at e_v19 HM20 fM20
  rw [L_1] at e_v19
  rw [L_99] at e_v19
  have g_8 := q_tr g_6 fM20
  have K_9 := (q_mo K_7 (by decide) fM20)
  refine d_gR (q := (9, 0)) HM20 K_9 (by decide) rfl (fun v21 r_v21 K_v21 => ?_)
  refine c_gO K_v21 ?_
  refine Ok_b (S_X9_isFaulty HM20 K_v21) (fun v23 e_v23 => ?_)
  replace e_v23 := q_un e_v23
  refine Ok_i (fun c_10 => ?_) (fun c_10 => ?_)
  · skip
    replace c_10 := i_eq c_10
    rw [L_0] at c_10
    refine Ok_i (fun c_11 => ?_) (fun c_11 => ?_)
    · skip
      replace c_11 := i_lt c_11
      rw [L_0] at c_11
      exact r_PV HM20 g_8
    · skip
      replace c_11 := i_nlt c_11
      rw [L_0] at c_11
      refine Ok_i (fun c_12 => ?_) (fun c_12 => ?_)
      · skip
        replace c_12 := i_lt c_12
        rw [L_0] at c_12
        exact r_PV HM20 g_8
      · skip
        replace c_12 := i_nlt c_12
        rw [L_0] at c_12
        refine d_gR (q := (8, 0)) HM20 K_9 (by decide) rfl (fun v24 r_v24 K_v24 => ?_)
        refine c_gO K_v24 ?_
        refine Ok_b (S_X8_learn (b := b) HM20 K_v24 (by omega) (by omega)) (fun M26 zM26 => ?_)
        obtain ⟨HM26, fM26⟩ := zM26
        have g_13 := q_tr g_8 fM26
        exact r_PV HM26 g_13
  · skip
    replace c_10 := i_ne c_10
    rw [L_0] at c_10
    exact r_PV HM20 g_8
theorem S_X2_readKnows {b : Nat → Bool} {l0 : Nat} {M : gM} (H : q_HT 0 M) (K_l0 : q_Kd M l0 (2, 0)) : Ok (F_X2_readKnows (some l0) M) (q_PV b M) := by
  delta F_X2_readKnows
  exact w_PV (q_rf _ _) (S_X2_readKnows_b0 (b := b)  H K_l0)
theorem S_X2_readNumbers_b191 {b : Nat → Bool} {l0 : Nat} {M : gM} (H : q_HT 0 M) (K_l0 : q_Kd M l0 (2, 0)) : Ok (F_X2_readNumbers_b191 (some l0) M) (q_PV b M) := by
  delta F_X2_readNumbers_b191
  refine c_gO K_l0 ?_
  refine Ok_b (S_X2_readKnows (b := b) H K_l0) (fun M2 zM2 => ?_)
  obtain ⟨HM2, fM2⟩ := zM2
  exact r_PV HM2 fM2
set_option maxHeartbeats 1000000 in
theorem S_X2_readNumbers_b0 {b : Nat → Bool} {l0 : Nat} {l1 : Int32} {M : gM} (H : q_HT 0 M) (K_l0 : q_Kd M l0 (2, 0)) : Ok (F_X2_readNumbers_b0 (some l0) l1 M) (q_PV b M) := by
  delta F_X2_readNumbers_b0
  refine Ok_i (fun c_1 => ?_) (fun c_1 => ?_)
  · skip
    replace c_1 := i_eq c_1
    rw [L_261] at c_1
    refine c_gO K_l0 ?_
    refine Ok_b (S_X2_readHeir (b := b) H K_l0) (fun M2 zM2 => ?_)
    obtain ⟨HM2, fM2⟩ := zM2
    exact r_PV HM2 fM2
  · skip
    replace c_1 := i_ne c_1
    rw [L_261] at c_1
    refine Ok_i (fun c_2 => ?_) (fun c_2 => ?_)
    · skip
      replace c_2 := i_eq c_2
      rw [L_262] at c_2
      refine c_gO K_l0 ?_
      refine Ok_b (S_X2_readThing (b := b) H K_l0) (fun M4 zM4 => ?_)
      obtain ⟨HM4, fM4⟩ := zM4
      exact r_PV HM4 fM4
    · skip
      replace c_2 := i_ne c_2
      rw [L_262] at c_2
      refine Ok_i (fun c_3 => ?_) (fun c_3 => ?_)
      · skip
        replace c_3 := i_eq c_3
        rw [L_267] at c_3
        refine d_gR (q := (1, 0)) H K_l0 (by decide) rfl (fun v5 r_v5 K_v5 => ?_)
        refine c_gIt K_v5 (fun v6 q_v6 => ?_)
        refine d_gR (q := (9, 0)) H K_l0 (by decide) rfl (fun v7 r_v7 K_v7 => ?_)
        refine c_gRs K_l0 r_v5 ?_
        refine d_gI (lo := 0) (hi := 7) H K_v5 (by decide) rfl (fun v9 q_v9 e_v9 => ?_)
        refine c_gO K_v7 ?_
        have a_4 := i_subc (x := v9) (c := (1 : Int32)) L_1 (by omega) (by omega)
        refine Ok_b (S_X9_number (b := b) H K_v7) (fun yM12 zM12 => ?_)
        obtain ⟨v11, M12⟩ := yM12
        obtain ⟨e_v11, HM12, fM12⟩ := zM12
        try dsimp only at e_v11 HM12 fM12
        rw [L_0] at e_v11
        refine Ok_b (S_X2_bitOf HM12 (by omega)) (fun v13 e_v13 => ?_)
        replace e_v13 := q_un e_v13
        have K_5 := (q_mo K_v5 (by decide) fM12)
        refine c_pI (b := b) (lo := -2147483648) (hi := 2147483647) HM12 K_5 (by decide) rfl (i_rng _) rfl (fun M14 HM14 fM14 q_M14 o_M14 rr_M14 => ?_)
        have g_6 := q_tr fM12 fM14
        exact r_PV HM14 g_6
      · skip
        replace c_3 := i_ne c_3
        rw [L_267] at c_3
        refine Ok_i (fun c_7 => ?_) (fun c_7 => ?_)
        · skip
          replace c_7 := i_eq c_7
          rw [L_268] at c_7
          refine d_gR (q := (1, 0)) H K_l0 (by decide) rfl (fun v15 r_v15 K_v15 => ?_)
          refine c_gIt K_v15 (fun v16 q_v16 => ?_)
          refine d_gR (q := (9, 0)) H K_l0 (by decide) rfl (fun v17 r_v17 K_v17 => ?_)
          refine c_gRs K_l0 r_v15 ?_
          refine d_gI (lo := 0) (hi := 7) H K_v15 (by decide) rfl (fun v19 q_v19 e_v19 => ?_)
          refine c_gO K_v17 ?_
          have a_8 := i_subc (x := v19) (c := (1 : Int32)) L_1 (by omega) (by omega)
          refine Ok_b (S_X9_number (b := b) H K_v17) (fun yM22 zM22 => ?_)
          obtain ⟨v21, M22⟩ := yM22
          obtain ⟨e_v21, HM22, fM22⟩ := zM22
          try dsimp only at e_v21 HM22 fM22
          rw [L_0] at e_v21
          refine Ok_b (S_X2_bitOf HM22 (by omega)) (fun v23 e_v23 => ?_)
          replace e_v23 := q_un e_v23
          have K_9 := (q_mo K_v15 (by decide) fM22)
          refine c_pI (b := b) (lo := -2147483648) (hi := 2147483647) HM22 K_9 (by decide) rfl (i_rng _) rfl (fun M24 HM24 fM24 q_M24 o_M24 rr_M24 => ?_)
          have g_10 := q_tr fM22 fM24
          exact r_PV HM24 g_10
        · skip
          replace c_7 := i_ne c_7
          rw [L_268] at c_7
          refine Ok_i (fun c_11 => ?_) (fun c_11 => ?_)
          · skip
            replace c_11 := i_eq c_11
            rw [L_275] at c_11
            refine d_gR (q := (8, 0)) H K_l0 (by decide) rfl (fun v25 r_v25 K_v25 => ?_)
            refine d_gR (q := (9, 0)) H K_l0 (by decide) rfl (fun v26 r_v26 K_v26 => ?_)
            refine c_gO K_v26 ?_
            refine Ok_b (S_X9_number (b := b) H K_v26) (fun yM29 zM29 => ?_)
            obtain ⟨v28, M29⟩ := yM29
            obtain ⟨e_v28, HM29, fM29⟩ := zM29
            try dsimp only at e_v28 HM29 fM29
            rw [L_1] at e_v28
            rw [L_20] at e_v28
            have K_12 := (q_mo K_v25 (by decide) fM29)
            refine c_pI (b := b) (lo := -2147483648) (hi := 2147483647) HM29 K_12 (by decide) rfl (i_rng _) rfl (fun M30 HM30 fM30 q_M30 o_M30 rr_M30 => ?_)
            have g_13 := q_tr fM29 fM30
            exact r_PV HM30 g_13
          · skip
            replace c_11 := i_ne c_11
            rw [L_275] at c_11
            refine Ok_i (fun c_14 => ?_) (fun c_14 => ?_)
            · skip
              replace c_14 := i_eq c_14
              rw [L_276] at c_14
              refine c_gO K_l0 ?_
              refine Ok_b (S_X2_readCousins (b := b) H K_l0) (fun M32 zM32 => ?_)
              obtain ⟨HM32, fM32⟩ := zM32
              exact r_PV HM32 fM32
            · skip
              replace c_14 := i_ne c_14
              rw [L_276] at c_14
              exact w_PV (q_rf _ _) (S_X2_readNumbers_b191 (b := b)  H K_l0)
