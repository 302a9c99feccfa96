/-! numbers of the reference, by program -/
theorem L2_m2000 : (-2000 : Int32).toInt = -2000 := rfl
theorem L2_m1000 : (-1000 : Int32).toInt = -1000 := rfl
theorem L2_m4 : (-4 : Int32).toInt = -4 := rfl
theorem L2_m3 : (-3 : Int32).toInt = -3 := rfl
theorem L2_m2 : (-2 : Int32).toInt = -2 := rfl
theorem L2_m1 : (-1 : Int32).toInt = -1 := rfl
theorem L2_0 : (0 : Int32).toInt = 0 := rfl
theorem L2_1 : (1 : Int32).toInt = 1 := rfl
theorem L2_2 : (2 : Int32).toInt = 2 := rfl
theorem L2_3 : (3 : Int32).toInt = 3 := rfl
theorem L2_4 : (4 : Int32).toInt = 4 := rfl
theorem L2_5 : (5 : Int32).toInt = 5 := rfl
theorem L2_6 : (6 : Int32).toInt = 6 := rfl
theorem L2_7 : (7 : Int32).toInt = 7 := rfl
theorem L2_8 : (8 : Int32).toInt = 8 := rfl
theorem L2_9 : (9 : Int32).toInt = 9 := rfl
theorem L2_10 : (10 : Int32).toInt = 10 := rfl
theorem L2_11 : (11 : Int32).toInt = 11 := rfl
theorem L2_12 : (12 : Int32).toInt = 12 := rfl
theorem L2_13 : (13 : Int32).toInt = 13 := rfl
theorem L2_14 : (14 : Int32).toInt = 14 := rfl
theorem L2_15 : (15 : Int32).toInt = 15 := rfl
theorem L2_16 : (16 : Int32).toInt = 16 := rfl
theorem L2_20 : (20 : Int32).toInt = 20 := rfl
theorem L2_24 : (24 : Int32).toInt = 24 := rfl
theorem L2_38 : (38 : Int32).toInt = 38 := rfl
theorem L2_39 : (39 : Int32).toInt = 39 := rfl
theorem L2_48 : (48 : Int32).toInt = 48 := rfl
theorem L2_52 : (52 : Int32).toInt = 52 := rfl
theorem L2_59 : (59 : Int32).toInt = 59 := rfl
theorem L2_60 : (60 : Int32).toInt = 60 := rfl
theorem L2_99 : (99 : Int32).toInt = 99 := rfl
theorem L2_100 : (100 : Int32).toInt = 100 := rfl
theorem L2_157 : (157 : Int32).toInt = 157 := rfl
theorem L2_200 : (200 : Int32).toInt = 200 := rfl
theorem L2_400 : (400 : Int32).toInt = 400 := rfl
theorem L2_999 : (999 : Int32).toInt = 999 := rfl
theorem L2_3140 : (3140 : Int32).toInt = 3140 := rfl
theorem S_X12_fails_b19  {M : gM} (H : y_HT M) : Ok (F_X12_fails_b19 M) (y_PI 512 M (0) (1)) := by
  delta F_X12_fails_b19
  exact z_PI (by decide) H (y_rf0 _ _)
theorem S_X12_fails_b0 {l1 : Int32} {l2 : Int32} {M : gM} (H : y_HT M) : Ok (F_X12_fails_b0 (some 175) l1 l2 M) (y_PI 512 M (0) (1)) := by
  delta F_X12_fails_b0
  refine y_gI (lo := -2147483648) (hi := 2147483647) H rfl (fun v1 q_v1 e_v1 => ?_)
  refine Ok_i (fun c_1 => ?_) (fun c_1 => ?_)
  · skip
    replace c_1 := i_eq c_1
    rw [L2_0] at c_1
    refine y_pI (S := 512) (lo := -2147483648) (hi := 2147483647) H rfl (i_rng _) (by decide) (fun M2 HM2 fM2 q_M2 o_M2 l_M2 => ?_)
    exact v_PI (S1 := 512) fM2 (S_X12_fails_b19  HM2) (by decide) (by decide) (by decide)
  · skip
    replace c_1 := i_ne c_1
    rw [L2_0] at c_1
    exact v_PI (S1 := 512) (y_rf0 _ _) (S_X12_fails_b19  H) (by decide) (by decide) (by decide)
theorem S_X12_fails {l1 : Int32} {l2 : Int32} {M : gM} (H : y_HT M) : Ok (F_X12_fails (some 175) l1 l2 M) (y_PI 512 M (0) (1)) := by
  delta F_X12_fails
  exact v_PI (S1 := 512) (y_rf0 _ _) (S_X12_fails_b0  H) (by decide) (by decide) (by decide)
theorem S_X12_isOf_b0 {l0 : Int32} {l1 : Int32} {M : gM} (H : y_HT M) : Ok (F_X12_isOf_b0 M l0 l1) (q_pi (0) (1)) := by
  delta F_X12_isOf_b0
  have a_1 := i_andc (a := (l0 >>> (l1 &&& 31))) (m := (1 : Int32)) (n := 1) rfl (by decide)
  refine Ok_i (fun c_2 => ?_) (fun c_2 => ?_)
  · skip
    replace c_2 := i_eq c_2
    rw [L2_1] at c_2
    exact r_pi (by decide)
  · skip
    replace c_2 := i_ne c_2
    rw [L2_1] at c_2
    exact r_pi (by decide)
theorem S_X12_isOf {l0 : Int32} {l1 : Int32} {M : gM} (H : y_HT M) : Ok (F_X12_isOf l0 l1 M) (q_pi (0) (1)) := by
  delta F_X12_isOf
  exact w_pi (S_X12_isOf_b0  H) (by decide) (by decide)
set_option maxHeartbeats 1000000 in
theorem S_X12_makes_b0 {l1 : Int32} {M : gM} (H : y_HT M) : Ok (F_X12_makes_b0 (some 175) l1 M) (y_PI 4608 M (0) (1)) := by
  delta F_X12_makes_b0
  refine y_gI (lo := 0) (hi := 60) H rfl (fun v1 q_v1 e_v1 => ?_)
  refine Ok_i (fun c_1 => ?_) (fun c_1 => ?_)
  · skip
    replace c_1 := i_eq c_1
    rw [L2_60] at c_1
    refine y_gO H ?_
    refine Ok_b (S_X12_fails H) (fun yM6 zM6 => ?_)
    obtain ⟨v5, M6⟩ := yM6
    obtain ⟨e_v5, HM6, fM6⟩ := zM6
    try dsimp only at e_v5 HM6 fM6
    refine Ok_t (i_01 (by omega)) ?_
    exact z_PI (by omega) HM6 (y_fl (S2 := 4608) (by decide) fM6)
  · skip
    replace c_1 := i_ne c_1
    rw [L2_60] at c_1
    refine y_gI2 H q_v1 (fun v2 e_v2 => ?_)
    have t_v2 := congrArg Int32.toInt e_v2
    have q_v2 := q_v1.trans e_v2.symm
    have a_2 := i_addc (x := v2) (c := (1 : Int32)) L2_1 (by omega) (by omega)
    refine y_pI (S := 4608) (lo := 0) (hi := 60) H rfl (by omega) (by decide) (fun M3 HM3 fM3 q_M3 o_M3 l_M3 => ?_)
    exact z_PI (by decide) HM3 fM3
theorem S_X12_makes {l1 : Int32} {M : gM} (H : y_HT M) : Ok (F_X12_makes (some 175) l1 M) (y_PI 4608 M (0) (1)) := by
  delta F_X12_makes
  exact v_PI (S1 := 4608) (y_rf0 _ _) (S_X12_makes_b0  H) (by decide) (by decide) (by decide)
set_option maxHeartbeats 1000000 in
theorem S_X12_strength_b0 {l0 : Int32} {M : gM} (H : y_HT M) : Ok (F_X12_strength_b0 M l0) (q_pi (0) (3)) := by
  delta F_X12_strength_b0
  refine Ok_i (fun c_1 => ?_) (fun c_1 => ?_)
  · skip
    replace c_1 := i_eq c_1
    rw [L2_13] at c_1
    exact r_pi (by decide)
  · skip
    replace c_1 := i_ne c_1
    rw [L2_13] at c_1
    refine Ok_i (fun c_2 => ?_) (fun c_2 => ?_)
    · skip
      replace c_2 := i_eq c_2
      rw [L2_12] at c_2
      exact r_pi (by decide)
    · skip
      replace c_2 := i_ne c_2
      rw [L2_12] at c_2
      refine Ok_i (fun c_3 => ?_) (fun c_3 => ?_)
      · skip
        replace c_3 := i_eq c_3
        rw [L2_11] at c_3
        exact r_pi (by decide)
      · skip
        replace c_3 := i_ne c_3
        rw [L2_11] at c_3
        exact r_pi (by decide)
theorem S_X12_strength {l0 : Int32} {M : gM} (H : y_HT M) : Ok (F_X12_strength l0 M) (q_pi (0) (3)) := by
  delta F_X12_strength
  exact w_pi (S_X12_strength_b0  H) (by decide) (by decide)
