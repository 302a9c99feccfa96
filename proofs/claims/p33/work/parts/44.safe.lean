theorem S_X11_tell {b : Nat → Bool} {l0 : Nat} {l1 : Int32} {l2 : Int32} {l3 : Int32} {l4 : Int32} {M : gM} (H : q_HT 0 M) (K_l0 : q_Kd M l0 (11, 0)) : Ok (F_X11_tell (some l0) l1 l2 l3 l4 M) (q_PI b M (-2147483648) (2147483647)) := by
  delta F_X11_tell
  exact w_PI (q_rf _ _) (S_X11_tell_b0 (b := b)  H K_l0) (by decide) (by decide)
theorem S_X11_prompted_b0 {l0 : Int32} {M : gM} (H : q_HT 0 M) : Ok (F_X11_prompted_b0 M l0) (q_pi (-2147483648) (2147483647)) := by
  delta F_X11_prompted_b0
  have a_1 := i_min (x := (l0 + (10 : Int32))) (y := (99 : Int32))
  rw [L_99] at a_1
  exact r_pi (i_rng _)
theorem S_X11_prompted {l0 : Int32} {M : gM} (H : q_HT 0 M) : Ok (F_X11_prompted l0 M) (q_pi (-2147483648) (2147483647)) := by
  delta F_X11_prompted
  exact w_pi (S_X11_prompted_b0  H) (by decide) (by decide)
set_option maxHeartbeats 1000000 in
theorem S_X11_prompt_b0 {b : Nat → Bool} {l0 : Nat} {l1 : Int32} {l2 : Int32} {M : gM} (H : q_HT 0 M) (K_l0 : q_Kd M l0 (11, 0)) : Ok (F_X11_prompt_b0 (some l0) l1 l2 M) (q_PI b M (-2147483648) (2147483647)) := by
  delta F_X11_prompt_b0
  refine c_gO K_l0 ?_
  refine Ok_b (S_X11_isKnown H K_l0) (fun v2 e_v2 => ?_)
  obtain ⟨e_v2, w_v2⟩ := e_v2
  refine Ok_i (fun c_1 => ?_) (fun c_1 => ?_)
  · skip
    replace c_1 := i_eq c_1
    rw [L_0] at c_1
    exact r_PI (i_rng _) H (q_rf _ _)
  · skip
    replace c_1 := i_ne c_1
    rw [L_0] at c_1
    have x_v2 := w_v2 (by omega)
    refine d_gR (q := (4, 0)) H K_l0 (by decide) rfl (fun v3 r_v3 K_v3 => ?_)
    refine d_gR (q := (8, 0)) H K_l0 (by decide) rfl (fun v4 r_v4 K_v4 => ?_)
    refine c_gO K_v3 ?_
    refine Ok_b (S_X4_keep (b := b) H K_v3 K_v4) (fun M6 zM6 => ?_)
    obtain ⟨HM6, fM6⟩ := zM6
    have K_2 := (q_mo K_l0 (by decide) fM6)
    refine d_gR (q := (8, 0)) HM6 K_2 (by decide) rfl (fun v7 r_v7 K_v7 => ?_)
    refine d_gR (q := (20, 49)) HM6 K_v7 (by decide) rfl (fun v8 r_v8 K_v8 => ?_)
    refine c_gRs K_2 r_v7 ?_
    refine c_gRs K_v7 r_v8 ?_
    have a_3 := i_mulR (x := l1) (c := (7 : Int32)) L_7 (by omega) (by omega)
    have a_4 := i_add (x := (l1 * (7 : Int32))) (y := l2) (by omega) (by omega)
    refine c_aI K_v8 (by omega) (by omega) (fun v11 => ?_)
    refine Ok_b (S_X11_prompted HM6) (fun v12 e_v12 => ?_)
    clear e_v12
    refine c_sI (b := b) HM6 K_v8 (by omega) (by omega) (fun M13 HM13 fM13 o_M13 rr_M13 => ?_)
    have r_5 := (congrFun (congrFun rr_M13 _) 5).trans r_v7
    have r_6 := (congrFun (congrFun rr_M13 _) 1).trans r_v8
    have g_7 := q_tr fM6 fM13
    have K_8 := (q_mo K_2 (by decide) fM13)
    refine c_gRs K_8 r_5 ?_
    have K_9 := (q_mo K_v7 (by decide) fM13)
    refine c_gRs K_9 r_6 ?_
    have K_10 := (q_mo K_v8 (by decide) fM13)
    refine c_aI K_10 (by omega) (by omega) (fun v16 => ?_)
    exact r_PI (i_rng _) HM13 g_7
theorem S_X11_prompt {b : Nat → Bool} {l0 : Nat} {l1 : Int32} {l2 : Int32} {M : gM} (H : q_HT 0 M) (K_l0 : q_Kd M l0 (11, 0)) : Ok (F_X11_prompt (some l0) l1 l2 M) (q_PI b M (-2147483648) (2147483647)) := by
  delta F_X11_prompt
  exact w_PI (q_rf _ _) (S_X11_prompt_b0 (b := b)  H K_l0) (by decide) (by decide)
theorem S_X8_errs_b38  {M : gM} (H : q_HT 0 M) : Ok (F_X8_errs_b38 M) (q_pi (0) (1)) := by
  delta F_X8_errs_b38
  exact r_pi (by decide)
set_option maxHeartbeats 1000000 in
theorem S_X8_errs_b0 {l0 : Nat} {l1 : Nat} {l2 : Int32} {l3 : Int32} {M : gM} (H : q_HT 0 M) (K_l0 : q_Kd M l0 (8, 0)) (K_l1 : q_Kd M l1 (1, 0)) (h_l2 : 0 ≤ l2.toInt ∧ l2.toInt ≤ 6) (h_l3 : 0 ≤ l3.toInt ∧ l3.toInt ≤ 6) : Ok (F_X8_errs_b0 M (some l0) (some l1) l2 l3) (q_pi (0) (1)) := by
  delta F_X8_errs_b0
  refine d_gR (q := (20, 49)) H K_l0 (by decide) rfl (fun v1 r_v1 K_v1 => ?_)
  have a_1 := i_mulR (x := l2) (c := (7 : Int32)) L_7 (by omega) (by omega)
  have a_2 := i_add (x := (l2 * (7 : Int32))) (y := l3) (by omega) (by omega)
  refine c_aI K_v1 (by omega) (by omega) (fun v2 => ?_)
  refine Ok_i (fun c_3 => ?_) (fun c_3 => ?_)
  · skip
    replace c_3 := i_le c_3
    rw [L_0] at c_3
    exact w_pi (S_X8_errs_b38  H) (by decide) (by decide)
  · skip
    replace c_3 := i_nle c_3
    rw [L_0] at c_3
    refine d_gR (q := (20, 49)) H K_l0 (by decide) rfl (fun v3 r_v3 K_v3 => ?_)
    refine c_aI K_v3 (by omega) (by omega) (fun v4 => ?_)
    refine d_gR (q := (20, 7)) H K_l1 (by decide) rfl (fun v5 r_v5 K_v5 => ?_)
    refine c_aI K_v5 (by omega) (by omega) (fun v6 => ?_)
    refine Ok_i (fun c_4 => ?_) (fun c_4 => ?_)
    · skip
      replace c_4 := i_eq c_4
      exact w_pi (S_X8_errs_b38  H) (by decide) (by decide)
    · skip
      replace c_4 := i_ne c_4
      exact r_pi (by decide)
theorem S_X8_errs {l0 : Nat} {l1 : Nat} {l2 : Int32} {l3 : Int32} {M : gM} (H : q_HT 0 M) (K_l0 : q_Kd M l0 (8, 0)) (K_l1 : q_Kd M l1 (1, 0)) (h_l2 : 0 ≤ l2.toInt ∧ l2.toInt ≤ 6) (h_l3 : 0 ≤ l3.toInt ∧ l3.toInt ≤ 6) : Ok (F_X8_errs (some l0) (some l1) l2 l3 M) (q_pi (0) (1)) := by
  delta F_X8_errs
  exact w_pi (S_X8_errs_b0  H K_l0 K_l1 h_l2 h_l3) (by decide) (by decide)
theorem S_X8_isAsked_b0 {b : Nat → Bool} {l0 : Nat} {l1 : Nat} {l2 : Int32} {l3 : Int32} {M : gM} (H : q_HT 0 M) (K_l0 : q_Kd M l0 (8, 0)) (K_l1 : q_Kd M l1 (1, 0)) (h_l2 : 0 ≤ l2.toInt ∧ l2.toInt ≤ 6) (h_l3 : 0 ≤ l3.toInt ∧ l3.toInt ≤ 6) : Ok (F_X8_isAsked_b0 (some l0) (some l1) l2 l3 M) (q_PV b M) := by
  delta F_X8_isAsked_b0
  refine c_gO K_l0 ?_
  refine Ok_b (S_X8_errs H K_l0 K_l1 h_l2 h_l3) (fun v2 e_v2 => ?_)
  replace e_v2 := q_un e_v2
  refine Ok_i (fun c_1 => ?_) (fun c_1 => ?_)
  · skip
    replace c_1 := i_eq c_1
    rw [L_0] at c_1
    exact r_PV H (q_rf _ _)
  · skip
    replace c_1 := i_ne c_1
    rw [L_0] at c_1
    refine Ok_b (S_X8_forget (b := b) H K_l0 h_l2 h_l3) (fun M3 zM3 => ?_)
    obtain ⟨HM3, fM3⟩ := zM3
    exact r_PV HM3 fM3
theorem S_X8_isAsked {b : Nat → Bool} {l0 : Nat} {l1 : Nat} {l2 : Int32} {l3 : Int32} {M : gM} (H : q_HT 0 M) (K_l0 : q_Kd M l0 (8, 0)) (K_l1 : q_Kd M l1 (1, 0)) (h_l2 : 0 ≤ l2.toInt ∧ l2.toInt ≤ 6) (h_l3 : 0 ≤ l3.toInt ∧ l3.toInt ≤ 6) : Ok (F_X8_isAsked (some l0) (some l1) l2 l3 M) (q_PV b M) := by
  delta F_X8_isAsked
  exact w_PV (q_rf _ _) (S_X8_isAsked_b0 (b := b)  H K_l0 K_l1 h_l2 h_l3)
theorem S_X11_ask_b27 {b : Nat → Bool}  {M : gM} (H : q_HT 0 M) : Ok (F_X11_ask_b27 M) (q_PI b M (-2147483648) (2147483647)) := by
  delta F_X11_ask_b27
  exact r_PI (i_rng _) H (q_rf _ _)
theorem S_X11_ask_b68 {b : Nat → Bool} {l0 : Nat} {l1 : Int32} {l2 : Int32} {s0 : Int32} {M : gM} (H : q_HT 0 M) (K_l0 : q_Kd M l0 (11, 0)) (h_l1 : 0 ≤ l1.toInt ∧ l1.toInt ≤ 6) (h_l2 : 0 ≤ l2.toInt ∧ l2.toInt ≤ 6) : Ok (F_X11_ask_b68 (some l0) l1 l2 s0 M) (q_PI b M (-2147483648) (2147483647)) := by
  delta F_X11_ask_b68
  refine d_gR (q := (8, 0)) H K_l0 (by decide) rfl (fun v1 r_v1 K_v1 => ?_)
  refine c_gIt K_v1 (fun v2 q_v2 => ?_)
  refine c_pI (b := b) (lo := -2147483648) (hi := 2147483647) H K_v1 (by decide) rfl (i_rng _) rfl (fun M3 HM3 fM3 q_M3 o_M3 rr_M3 => ?_)
  have r_1 := (congrFun (congrFun rr_M3 _) 5).trans r_v1
  have K_2 := (q_mo K_l0 (by decide) fM3)
  refine c_gRs K_2 r_1 ?_
  refine d_gR (q := (1, 0)) HM3 K_2 (by decide) rfl (fun v5 r_v5 K_v5 => ?_)
  have K_3 := (q_mo K_v1 (by decide) fM3)
  refine c_gO K_3 ?_
  refine Ok_b (S_X8_isAsked (b := b) HM3 K_3 K_v5 h_l1 h_l2) (fun M7 zM7 => ?_)
  obtain ⟨HM7, fM7⟩ := zM7
  have g_4 := q_tr fM3 fM7
  exact r_PI (i_rng _) HM7 g_4
set_option maxHeartbeats 1000000 in
theorem S_X11_ask_b0 {b : Nat → Bool} {l0 : Nat} {l1 : Int32} {l2 : Int32} {M : gM} (H : q_HT 0 M) (K_l0 : q_Kd M l0 (11, 0)) : Ok (F_X11_ask_b0 (some l0) l1 l2 M) (q_PI b M (-2147483648) (2147483647)) := by
  delta F_X11_ask_b0
  refine c_gO K_l0 ?_
  refine Ok_b (S_X11_isHeir H K_l0) (fun v2 e_v2 => ?_)
  obtain ⟨e_v2, w_v2⟩ := e_v2
  refine Ok_i (fun c_1 => ?_) (fun c_1 => ?_)
  · skip
    replace c_1 := i_eq c_1
    rw [L_0] at c_1
    exact w_PI (q_rf _ _) (S_X11_ask_b27 (b := b)  H) (by decide) (by decide)
  · skip
    replace c_1 := i_ne c_1
    rw [L_0] at c_1
    have x_v2 := w_v2 (by omega)
    refine Ok_b (S_X11_isThing H K_l0) (fun v3 e_v3 => ?_)
    obtain ⟨e_v3, w_v3⟩ := e_v3
    refine Ok_i (fun c_2 => ?_) (fun c_2 => ?_)
    · skip
      replace c_2 := i_eq c_2
      rw [L_0] at c_2
      exact w_PI (q_rf _ _) (S_X11_ask_b27 (b := b)  H) (by decide) (by decide)
    · skip
      replace c_2 := i_ne c_2
      rw [L_0] at c_2
      have x_v3 := w_v3 (by omega)
      refine d_gR (q := (8, 0)) H K_l0 (by decide) rfl (fun v4 r_v4 K_v4 => ?_)
      refine c_gIt K_v4 (fun v5 q_v5 => ?_)
      refine Ok_i (fun c_3 => ?_) (fun c_3 => ?_)
      · skip
        replace c_3 := i_le c_3
        rw [L_1] at c_3
        refine d_gR (q := (4, 0)) H K_l0 (by decide) rfl (fun v6 r_v6 K_v6 => ?_)
        refine c_gRs K_l0 r_v4 ?_
        refine c_gO K_v6 ?_
        refine Ok_b (S_X4_keep (b := b) H K_v6 K_v4) (fun M9 zM9 => ?_)
        obtain ⟨HM9, fM9⟩ := zM9
        have K_4 := (q_mo K_l0 (by decide) fM9)
        refine c_gC K_4 ?_
        refine Ok_b (S_X11_isKnown HM9 K_4) (fun v11 e_v11 => ?_)
        obtain ⟨e_v11, w_v11⟩ := e_v11
        refine Ok_i (fun c_5 => ?_) (fun c_5 => ?_)
        · skip
          replace c_5 := i_eq c_5
          rw [L_0] at c_5
          exact w_PI fM9 (S_X11_ask_b68 (b := b)  HM9 K_4 (by omega) (by omega)) (by decide) (by decide)
        · skip
          replace c_5 := i_ne c_5
          rw [L_0] at c_5
          have x_v11 := w_v11 (by omega)
          refine d_gR (q := (8, 0)) HM9 K_4 (by decide) rfl (fun v12 r_v12 K_v12 => ?_)
          refine d_gR (q := (20, 49)) HM9 K_v12 (by decide) rfl (fun v13 r_v13 K_v13 => ?_)
          have a_6 := i_mulR (x := l1) (c := (7 : Int32)) L_7 (by omega) (by omega)
          have a_7 := i_add (x := (l1 * (7 : Int32))) (y := l2) (by omega) (by omega)
          refine c_aI K_v13 (by omega) (by omega) (fun v14 => ?_)
          exact w_PI fM9 (S_X11_ask_b68 (b := b)  HM9 K_4 (by omega) (by omega)) (by decide) (by decide)
      · skip
        replace c_3 := i_nle c_3
        rw [L_1] at c_3
        exact w_PI (q_rf _ _) (S_X11_ask_b27 (b := b)  H) (by decide) (by decide)
theorem S_X11_ask {b : Nat → Bool} {l0 : Nat} {l1 : Int32} {l2 : Int32} {M : gM} (H : q_HT 0 M) (K_l0 : q_Kd M l0 (11, 0)) : Ok (F_X11_ask (some l0) l1 l2 M) (q_PI b M (-2147483648) (2147483647)) := by
  delta F_X11_ask
  exact w_PI (q_rf _ _) (S_X11_ask_b0 (b := b)  H K_l0) (by decide) (by decide)
theorem S_X11_burn_b23 {b : Nat → Bool}  {M : gM} (H : q_HT 0 M) : Ok (F_X11_burn_b23 M) (q_PI b M (0) (1)) := by
  delta F_X11_burn_b23
  exact r_PI (by decide) H (q_rf _ _)
set_option maxHeartbeats 1000000 in
theorem S_X11_burn_b0 {b : Nat → Bool} {l0 : Nat} {l1 : Int32} {M : gM} (H : q_HT 0 M) (K_l0 : q_Kd M l0 (11, 0)) : Ok (F_X11_burn_b0 (some l0) l1 M) (q_PI b M (0) (1)) := by
  delta F_X11_burn_b0
  refine c_gO K_l0 ?_
  refine Ok_b (S_X11_isThing H K_l0) (fun v2 e_v2 => ?_)
  obtain ⟨e_v2, w_v2⟩ := e_v2
  refine Ok_i (fun c_1 => ?_) (fun c_1 => ?_)
  · skip
    replace c_1 := i_eq c_1
    rw [L_0] at c_1
    exact w_PI (q_rf _ _) (S_X11_burn_b23 (b := b)  H) (by decide) (by decide)
  · skip
    replace c_1 := i_ne c_1
    rw [L_0] at c_1
    have x_v2 := w_v2 (by omega)
    refine d_gR (q := (8, 0)) H K_l0 (by decide) rfl (fun v3 r_v3 K_v3 => ?_)
    refine c_gIt K_v3 (fun v4 q_v4 => ?_)
    refine Ok_b (S_X11_bit H) (fun v5 e_v5 => ?_)
    replace e_v5 := q_un e_v5
    refine Ok_i (fun c_2 => ?_) (fun c_2 => ?_)
    · skip
      replace c_2 := i_eq c_2
      rw [L_1] at c_2
      exact w_PI (q_rf _ _) (S_X11_burn_b23 (b := b)  H) (by decide) (by decide)
    · skip
      replace c_2 := i_ne c_2
      rw [L_1] at c_2
      refine d_gR (q := (4, 0)) H K_l0 (by decide) rfl (fun v6 r_v6 K_v6 => ?_)
      refine c_gRs K_l0 r_v3 ?_
      refine c_gO K_v6 ?_
      refine Ok_b (S_X4_keep (b := b) H K_v6 K_v3) (fun M9 zM9 => ?_)
      obtain ⟨HM9, fM9⟩ := zM9
      have K_3 := (q_mo K_l0 (by decide) fM9)
      refine d_gR (q := (8, 0)) HM9 K_3 (by decide) rfl (fun v10 r_v10 K_v10 => ?_)
      refine c_gIt K_v10 (fun v11 q_v11 => ?_)
      refine c_pI (b := b) (lo := -2147483648) (hi := 2147483647) HM9 K_v10 (by decide) rfl (i_rng _) rfl (fun M12 HM12 fM12 q_M12 o_M12 rr_M12 => ?_)
      have r_4 := (congrFun (congrFun rr_M12 _) 5).trans r_v10
      have g_5 := q_tr fM9 fM12
      exact r_PI (by decide) HM12 g_5
theorem S_X11_burn {b : Nat → Bool} {l0 : Nat} {l1 : Int32} {M : gM} (H : q_HT 0 M) (K_l0 : q_Kd M l0 (11, 0)) : Ok (F_X11_burn (some l0) l1 M) (q_PI b M (0) (1)) := by
  delta F_X11_burn
  exact w_PI (q_rf _ _) (S_X11_burn_b0 (b := b)  H K_l0) (by decide) (by decide)
set_option maxHeartbeats 1000000 in
theorem S_X4_giveBack_b0 {b : Nat → Bool} {l0 : Nat} {l1 : Nat} {M : gM} (H : q_HT 0 M) (K_l0 : q_Kd M l0 (4, 0)) (K_l1 : q_Kd M l1 (8, 0)) : Ok (F_X4_giveBack_b0 (some l0) (some l1) M) (q_PI b M (0) (1)) := by
  delta F_X4_giveBack_b0
  refine d_gI (lo := 0) (hi := 20) H K_l0 (by decide) rfl (fun v1 q_v1 e_v1 => ?_)
  refine Ok_i (fun c_1 => ?_) (fun c_1 => ?_)
  · skip
    replace c_1 := i_eq c_1
    rw [L_0] at c_1
    exact r_PI (by decide) H (q_rf _ _)
  · skip
    replace c_1 := i_ne c_1
    rw [L_0] at c_1
    refine c_gIs K_l0 q_v1 (fun v2 e_v2 => ?_)
    have t_v2 := congrArg Int32.toInt e_v2
    have q_v2 := q_v1.trans e_v2.symm
    have a_2 := i_subc (x := v2) (c := (1 : Int32)) L_1 (by omega) (by omega)
    refine c_pI (b := b) (lo := 0) (hi := 20) H K_l0 (by decide) rfl (by omega) rfl (fun M3 HM3 fM3 q_M3 o_M3 rr_M3 => ?_)
    have K_3 := (q_mo K_l0 (by decide) fM3)
    refine d_gI (lo := 0) (hi := 19) HM3 K_3 (by decide) rfl (fun v4 q_v4 e_v4 => ?_)
    have a_4 := i_addc (x := v4) (c := (20 : Int32)) L_20 (by omega) (by omega)
    have a_5 := i_subc (x := (v4 + (20 : Int32))) (c := (1 : Int32)) L_1 (by omega) (by omega)
    have a_6 := i_mod (x := ((v4 + (20 : Int32)) - (1 : Int32))) (c := (20 : Int32)) (n := 20) L_20 (by decide) (by omega)
    refine c_pI (b := b) (lo := 0) (hi := 19) HM3 K_3 (by decide) rfl (by omega) rfl (fun M5 HM5 fM5 q_M5 o_M5 rr_M5 => ?_)
    have q_7 := (o_M5 _ _ (Or.inr (by decide))).trans q_M3
    have g_8 := q_tr fM3 fM5
    have K_9 := (q_mo K_3 (by decide) fM5)
    refine d_gR (q := (24, 20)) HM5 K_9 (by decide) rfl (fun v6 r_v6 K_v6 => ?_)
    refine c_gIs K_9 q_M5 (fun v7 e_v7 => ?_)
    have t_v7 := congrArg Int32.toInt e_v7
    have q_v7 := q_M5.trans e_v7.symm
    refine d_aR24 HM5 K_v6 (by omega) (by omega) (fun v8 K_v8 => ?_)
    have K_10 := (q_mo (q_mo K_l1 (by decide) fM3) (by decide) fM5)
    refine c_gO K_10 ?_
    refine Ok_b (S_X8_copy (b := b) HM5 K_10 K_v8) (fun M10 zM10 => ?_)
    obtain ⟨HM10, fM10⟩ := zM10
    have g_11 := q_tr g_8 fM10
    exact r_PI (by decide) HM10 g_11
theorem S_X4_giveBack {b : Nat → Bool} {l0 : Nat} {l1 : Nat} {M : gM} (H : q_HT 0 M) (K_l0 : q_Kd M l0 (4, 0)) (K_l1 : q_Kd M l1 (8, 0)) : Ok (F_X4_giveBack (some l0) (some l1) M) (q_PI b M (0) (1)) := by
  delta F_X4_giveBack
  exact w_PI (q_rf _ _) (S_X4_giveBack_b0 (b := b)  H K_l0 K_l1) (by decide) (by decide)
theorem S_X11_undo_b0 {b : Nat → Bool} {l0 : Nat} {M : gM} (H : q_HT 0 M) (K_l0 : q_Kd M l0 (11, 0)) : Ok (F_X11_undo_b0 (some l0) M) (q_PI b M (-1) (20)) := by
  delta F_X11_undo_b0
  refine d_gR (q := (4, 0)) H K_l0 (by decide) rfl (fun v1 r_v1 K_v1 => ?_)
  refine d_gR (q := (8, 0)) H K_l0 (by decide) rfl (fun v2 r_v2 K_v2 => ?_)
  refine c_gO K_v1 ?_
  refine Ok_b (S_X4_giveBack (b := b) H K_v1 K_v2) (fun yM5 zM5 => ?_)
  obtain ⟨v4, M5⟩ := yM5
  obtain ⟨e_v4, HM5, fM5⟩ := zM5
  try dsimp only at e_v4 HM5 fM5
  refine Ok_i (fun c_1 => ?_) (fun c_1 => ?_)
  · skip
    replace c_1 := i_eq c_1
    rw [L_0] at c_1
    exact r_PI (by decide) HM5 fM5
  · skip
    replace c_1 := i_ne c_1
    rw [L_0] at c_1
    have K_2 := (q_mo K_l0 (by decide) fM5)
    refine d_gR (q := (4, 0)) HM5 K_2 (by decide) rfl (fun v6 r_v6 K_v6 => ?_)
    refine d_gI (lo := 0) (hi := 20) HM5 K_v6 (by decide) rfl (fun v7 q_v7 e_v7 => ?_)
    exact r_PI (by omega) HM5 fM5
theorem S_X11_undo {b : Nat → Bool} {l0 : Nat} {M : gM} (H : q_HT 0 M) (K_l0 : q_Kd M l0 (11, 0)) : Ok (F_X11_undo (some l0) M) (q_PI b M (-1) (20)) := by
  delta F_X11_undo
  exact w_PI (q_rf _ _) (S_X11_undo_b0 (b := b)  H K_l0) (by decide) (by decide)
theorem S_X8_standing_b28 {k4 : Option Nat → Option Nat → Int32 → Int32 → Option Int32} {m4 : Int} {l0 : Nat} {l1 : Nat} {l2 : Int32} {l3 : Int32} {M : gM} (hk4 : ∀ {l0 : Nat} {l1 : Nat} {l2 : Int32} {l3 : Int32}, q_HT 0 M → (q_Kd M l0 (8, 0)) → (q_Kd M l1 (1, 0)) → (0 ≤ l3.toInt ∧ l3.toInt ≤ 7) → 7 - l3.toInt < m4 → Ok (k4 (some l0) (some l1) l2 l3) (q_pi (-2147483648) (2147483647))) (H : q_HT 0 M) (K_l0 : q_Kd M l0 (8, 0)) (K_l1 : q_Kd M l1 (1, 0)) (h_l3 : 0 ≤ l3.toInt ∧ l3.toInt ≤ 6) (hm4 : 7 - l3.toInt ≤ m4) : Ok (F_X8_standing_b28 k4 M (some l0) (some l1) l2 l3) (q_pi (-2147483648) (2147483647)) := by
  delta F_X8_standing_b28
  have a_1 := i_addc (x := l3) (c := 1) L_1 (by omega) (by omega)
  exact w_pi (hk4 H K_l0 K_l1 (by omega) (by omega)) (by decide) (by decide)
theorem S_X8_standing_b4 {k4 : Option Nat → Option Nat → Int32 → Int32 → Option Int32} {m4 : Int} {l0 : Nat} {l1 : Nat} {l2 : Int32} {l3 : Int32} {M : gM} (hk4 : ∀ {l0 : Nat} {l1 : Nat} {l2 : Int32} {l3 : Int32}, q_HT 0 M → (q_Kd M l0 (8, 0)) → (q_Kd M l1 (1, 0)) → (0 ≤ l3.toInt ∧ l3.toInt ≤ 7) → 7 - l3.toInt < m4 → Ok (k4 (some l0) (some l1) l2 l3) (q_pi (-2147483648) (2147483647))) (H : q_HT 0 M) (K_l0 : q_Kd M l0 (8, 0)) (K_l1 : q_Kd M l1 (1, 0)) (h_l3 : 0 ≤ l3.toInt ∧ l3.toInt ≤ 7) (hm4 : 7 - l3.toInt ≤ m4) : Ok (F_X8_standing_b4 k4 M (some l0) (some l1) l2 l3) (q_pi (-2147483648) (2147483647)) := by
  delta F_X8_standing_b4
  refine d_gI (lo := 0) (hi := 7) H K_l1 (by decide) rfl (fun v1 q_v1 e_v1 => ?_)
  refine Ok_i (fun c_1 => ?_) (fun c_1 => ?_)
  · skip
    replace c_1 := i_le c_1
    exact r_pi (i_rng _)
  · skip
    replace c_1 := i_nle c_1
    refine d_gR (q := (20, 7)) H K_l0 (by decide) rfl (fun v2 r_v2 K_v2 => ?_)
    refine c_aI K_v2 (by omega) (by omega) (fun v3 => ?_)
    refine Ok_i (fun c_2 => ?_) (fun c_2 => ?_)
    · skip
      replace c_2 := i_eq c_2
      rw [L_m1] at c_2
      exact w_pi (S_X8_standing_b28 hk4 H K_l0 K_l1 (by omega) (by omega)) (by decide) (by decide)
    · skip
      replace c_2 := i_ne c_2
      rw [L_m1] at c_2
      exact w_pi (S_X8_standing_b28 hk4 H K_l0 K_l1 (by omega) (by omega)) (by decide) (by decide)
theorem S_X8_standing_L4 {M : gM} : ∀ (n : Nat) {l0 : Nat} {l1 : Nat} {l2 : Int32} {l3 : Int32}, q_HT 0 M → (q_Kd M l0 (8, 0)) → (q_Kd M l1 (1, 0)) → (0 ≤ l3.toInt ∧ l3.toInt ≤ 7) → 7 - l3.toInt < (n : Int) → Ok (F_X8_standing_L4 M n (some l0) (some l1) l2 l3) (q_pi (-2147483648) (2147483647)) := by
  intro n
  induction n with
  | zero =>
    intro l0 l1 l2 l3 H K_l0 K_l1 h_l3  hm
    exfalso
    omega
  | succ n ih =>
    intro l0 l1 l2 l3 H K_l0 K_l1 h_l3  hm
    exact S_X8_standing_b4 (m4 := 7 - l3.toInt) (fun H K_l0 K_l1 h_l3  hmz => ih H K_l0 K_l1 h_l3  (by omega)) H K_l0 K_l1 h_l3  (Int.le_refl _)
theorem S_X8_standing_b0 {l0 : Nat} {l1 : Nat} {M : gM} (H : q_HT 0 M) (K_l0 : q_Kd M l0 (8, 0)) (K_l1 : q_Kd M l1 (1, 0)) : Ok (F_X8_standing_b0 M (some l0) (some l1)) (q_pi (-2147483648) (2147483647)) := by
  delta F_X8_standing_b0
  exact w_pi (S_X8_standing_L4  g_fuel H K_l0 K_l1 (by decide) (q_fu (by rw [L_0]; omega))) (by decide) (by decide)
theorem S_X8_standing {l0 : Nat} {l1 : Nat} {M : gM} (H : q_HT 0 M) (K_l0 : q_Kd M l0 (8, 0)) (K_l1 : q_Kd M l1 (1, 0)) : Ok (F_X8_standing (some l0) (some l1) M) (q_pi (-2147483648) (2147483647)) := by
  delta F_X8_standing
  exact w_pi (S_X8_standing_b0  H K_l0 K_l1) (by decide) (by decide)
set_option maxHeartbeats 1000000 in
theorem S_X11_lookAhead_b13 {b : Nat → Bool} {k13 : Option Nat → Int32 → Int32 → gM → Option gM} {m13 : Int} {l0 : Nat} {l1 : Int32} {l2 : Int32} {M : gM} (hk13 : ∀ {l0 : Nat} {l1 : Int32} {l2 : Int32} {M : gM}, q_HT 0 M → (q_Kd M l0 (11, 0)) → (0 ≤ l1.toInt ∧ l1.toInt ≤ 200) → (0 ≤ l2.toInt ∧ l2.toInt ≤ 200) → 200 - l2.toInt < m13 → Ok (k13 (some l0) l1 l2 M) (q_PV b M)) (H : q_HT 0 M) (K_l0 : q_Kd M l0 (11, 0)) (h_l1 : 0 ≤ l1.toInt ∧ l1.toInt ≤ 200) (h_l2 : 0 ≤ l2.toInt ∧ l2.toInt ≤ 200) (hm13 : 200 - l2.toInt ≤ m13) : Ok (F_X11_lookAhead_b13 k13 (some l0) l1 l2 M) (q_PV b M) := by
  delta F_X11_lookAhead_b13
  refine Ok_i (fun c_1 => ?_) (fun c_1 => ?_)
  · skip
    replace c_1 := i_le c_1
    exact r_PV H (q_rf _ _)
  · skip
    replace c_1 := i_nle c_1
    refine d_gR (q := (8, 0)) H K_l0 (by decide) rfl (fun v1 r_v1 K_v1 => ?_)
    refine d_gR (q := (1, 0)) H K_l0 (by decide) rfl (fun v2 r_v2 K_v2 => ?_)
    refine c_gO K_v1 ?_
    refine Ok_b (S_X8_standing H K_v1 K_v2) (fun v4 e_v4 => ?_)
    clear e_v4
    refine Ok_i (fun c_2 => ?_) (fun c_2 => ?_)
    · skip
      replace c_2 := i_eq c_2
      rw [L_0] at c_2
      exact r_PV H (q_rf _ _)
    · skip
      replace c_2 := i_ne c_2
      rw [L_0] at c_2
      refine d_gR (q := (10, 0)) H K_l0 (by decide) rfl (fun v5 r_v5 K_v5 => ?_)
      refine c_gRs K_l0 r_v2 ?_
      refine c_gRs K_l0 r_v1 ?_
      refine c_gO K_l0 ?_
      refine Ok_b (S_X11_ruleInForce H K_l0) (fun v9 e_v9 => ?_)
      refine c_gO K_v5 ?_
      refine Ok_b (S_X10_pass (b := b) H K_v5 K_v2 K_v1 e_v9) (fun yM12 zM12 => ?_)
      obtain ⟨v11, M12⟩ := yM12
      obtain ⟨e_v11, HM12, fM12⟩ := zM12
      try dsimp only at e_v11 HM12 fM12
      have K_3 := (q_mo K_l0 (by decide) fM12)
      have a_4 := i_addc (x := l2) (c := 1) L_1 (by omega) (by omega)
      exact w_PV fM12 (hk13 HM12 K_3 h_l1 (by omega) (by omega))
theorem S_X11_lookAhead_L13 {b : Nat → Bool} : ∀ (n : Nat) {l0 : Nat} {l1 : Int32} {l2 : Int32} {M : gM}, q_HT 0 M → (q_Kd M l0 (11, 0)) → (0 ≤ l1.toInt ∧ l1.toInt ≤ 200) → (0 ≤ l2.toInt ∧ l2.toInt ≤ 200) → 200 - l2.toInt < (n : Int) → Ok (F_X11_lookAhead_L13 n (some l0) l1 l2 M) (q_PV b M) := by
  intro n
  induction n with
  | zero =>
    intro l0 l1 l2 M H K_l0 h_l1 h_l2  hm
    exfalso
    omega
  | succ n ih =>
    intro l0 l1 l2 M H K_l0 h_l1 h_l2  hm
    exact S_X11_lookAhead_b13 (b := b) (m13 := 200 - l2.toInt) (fun H K_l0 h_l1 h_l2  hmz => ih H K_l0 h_l1 h_l2  (by omega)) H K_l0 h_l1 h_l2  (Int.le_refl _)
theorem S_X11_lookAhead_b0 {b : Nat → Bool} {l0 : Nat} {l1 : Int32} {M : gM} (H : q_HT 0 M) (K_l0 : q_Kd M l0 (11, 0)) (h_l1 : 0 ≤ l1.toInt ∧ l1.toInt ≤ 200) : Ok (F_X11_lookAhead_b0 (some l0) l1 M) (q_PV b M) := by
  delta F_X11_lookAhead_b0
  refine d_gR (q := (8, 0)) H K_l0 (by decide) rfl (fun v1 r_v1 K_v1 => ?_)
  refine d_gR (q := (8, 0)) H K_l0 (by decide) rfl (fun v2 r_v2 K_v2 => ?_)
  refine c_gO K_v1 ?_
  refine Ok_b (S_X8_copy (b := b) H K_v1 K_v2) (fun M4 zM4 => ?_)
  obtain ⟨HM4, fM4⟩ := zM4
  have K_1 := (q_mo K_l0 (by decide) fM4)
  exact w_PV fM4 (S_X11_lookAhead_L13 (b := b)  g_fuel HM4 K_1 h_l1 (by decide) (q_fu (by rw [L_0]; omega)))
theorem S_X11_lookAhead {b : Nat → Bool} {l0 : Nat} {l1 : Int32} {M : gM} (H : q_HT 0 M) (K_l0 : q_Kd M l0 (11, 0)) (h_l1 : 0 ≤ l1.toInt ∧ l1.toInt ≤ 200) : Ok (F_X11_lookAhead (some l0) l1 M) (q_PV b M) := by
  delta F_X11_lookAhead
  exact w_PV (q_rf _ _) (S_X11_lookAhead_b0 (b := b)  H K_l0 h_l1)
theorem S_X11_ahead_b19 {b : Nat → Bool}  {M : gM} (H : q_HT 0 M) : Ok (F_X11_ahead_b19 M) (q_PI b M (-2147483648) (2147483647)) := by
  delta F_X11_ahead_b19
  exact r_PI (i_rng _) H (q_rf _ _)
set_option maxHeartbeats 1000000 in
theorem S_X11_ahead_b0 {b : Nat → Bool} {l0 : Nat} {l1 : Int32} {l2 : Int32} {M : gM} (H : q_HT 0 M) (K_l0 : q_Kd M l0 (11, 0)) : Ok (F_X11_ahead_b0 (some l0) l1 l2 M) (q_PI b M (-2147483648) (2147483647)) := by
  delta F_X11_ahead_b0
  refine c_gO K_l0 ?_
  refine Ok_b (S_X11_isHeir H K_l0) (fun v2 e_v2 => ?_)
  obtain ⟨e_v2, w_v2⟩ := e_v2
  refine Ok_i (fun c_1 => ?_) (fun c_1 => ?_)
  · skip
    replace c_1 := i_eq c_1
    rw [L_0] at c_1
    exact w_PI (q_rf _ _) (S_X11_ahead_b19 (b := b)  H) (by decide) (by decide)
  · skip
    replace c_1 := i_ne c_1
    rw [L_0] at c_1
    have x_v2 := w_v2 (by omega)
    refine Ok_i (fun c_2 => ?_) (fun c_2 => ?_)
    · skip
      replace c_2 := i_lt c_2
      rw [L_0] at c_2
      exact w_PI (q_rf _ _) (S_X11_ahead_b19 (b := b)  H) (by decide) (by decide)
    · skip
      replace c_2 := i_nlt c_2
      rw [L_0] at c_2
      refine Ok_i (fun c_3 => ?_) (fun c_3 => ?_)
      · skip
        replace c_3 := i_le c_3
        rw [L_200] at c_3
        refine Ok_b (S_X11_lookAhead (b := b) H K_l0 (by omega)) (fun M3 zM3 => ?_)
        obtain ⟨HM3, fM3⟩ := zM3
        have K_4 := (q_mo K_l0 (by decide) fM3)
        refine d_gR (q := (8, 0)) HM3 K_4 (by decide) rfl (fun v4 r_v4 K_v4 => ?_)
        refine d_gR (q := (1, 0)) HM3 K_4 (by decide) rfl (fun v5 r_v5 K_v5 => ?_)
        refine c_gO K_v4 ?_
        refine Ok_b (S_X8_heldBy HM3 K_v4 K_v5 (by omega)) (fun v7 e_v7 => ?_)
        clear e_v7
        exact r_PI (i_rng _) HM3 fM3
      · skip
        replace c_3 := i_nle c_3
        rw [L_200] at c_3
        exact w_PI (q_rf _ _) (S_X11_ahead_b19 (b := b)  H) (by decide) (by decide)
theorem S_X11_ahead {b : Nat → Bool} {l0 : Nat} {l1 : Int32} {l2 : Int32} {M : gM} (H : q_HT 0 M) (K_l0 : q_Kd M l0 (11, 0)) : Ok (F_X11_ahead (some l0) l1 l2 M) (q_PI b M (-2147483648) (2147483647)) := by
  delta F_X11_ahead
  exact w_PI (q_rf _ _) (S_X11_ahead_b0 (b := b)  H K_l0) (by decide) (by decide)
theorem S_X11_strikeLater_b48 {b : Nat → Bool} {l0 : Nat} {l1 : Int32} {M : gM} (H : q_HT 0 M) (K_l0 : q_Kd M l0 (11, 0)) (h_l1 : 0 ≤ l1.toInt ∧ l1.toInt ≤ 6) : Ok (F_X11_strikeLater_b48 (some l0) l1 M) (q_PI b M (-2147483648) (2147483647)) := by
  delta F_X11_strikeLater_b48
  refine d_gR (q := (8, 0)) H K_l0 (by decide) rfl (fun v1 r_v1 K_v1 => ?_)
  refine d_gR (q := (20, 7)) H K_v1 (by decide) rfl (fun v2 r_v2 K_v2 => ?_)
  refine c_aI K_v2 (by omega) (by omega) (fun v3 => ?_)
  exact r_PI (i_rng _) H (q_rf _ _)
set_option maxHeartbeats 1000000 in
theorem S_X11_strikeLater_b2 {b : Nat → Bool} {k2 : Option Nat → Int32 → Int32 → gM → Option (Int32 × gM)} {m2 : Int} {l0 : Nat} {l1 : Int32} {l2 : Int32} {M : gM} (hk2 : ∀ {l0 : Nat} {l1 : Int32} {l2 : Int32} {M : gM}, q_HT 0 M → (q_Kd M l0 (11, 0)) → (0 ≤ l1.toInt ∧ l1.toInt ≤ 6) → (0 ≤ l2.toInt ∧ l2.toInt ≤ 200) → 200 - l2.toInt < m2 → Ok (k2 (some l0) l1 l2 M) (q_PI b M (-2147483648) (2147483647))) (H : q_HT 0 M) (K_l0 : q_Kd M l0 (11, 0)) (h_l1 : 0 ≤ l1.toInt ∧ l1.toInt ≤ 6) (h_l2 : 0 ≤ l2.toInt ∧ l2.toInt ≤ 200) (hm2 : 200 - l2.toInt ≤ m2) : Ok (F_X11_strikeLater_b2 k2 (some l0) l1 l2 M) (q_PI b M (-2147483648) (2147483647)) := by
  delta F_X11_strikeLater_b2
  refine Ok_i (fun c_1 => ?_) (fun c_1 => ?_)
  · skip
    replace c_1 := i_le c_1
    rw [L_200] at c_1
    exact w_PI (q_rf _ _) (S_X11_strikeLater_b48 (b := b)  H K_l0 h_l1) (by decide) (by decide)
  · skip
    replace c_1 := i_nle c_1
    rw [L_200] at c_1
    refine d_gR (q := (8, 0)) H K_l0 (by decide) rfl (fun v1 r_v1 K_v1 => ?_)
    refine d_gR (q := (20, 7)) H K_v1 (by decide) rfl (fun v2 r_v2 K_v2 => ?_)
    refine c_aI K_v2 (by omega) (by omega) (fun v3 => ?_)
    refine Ok_i (fun c_2 => ?_) (fun c_2 => ?_)
    · skip
      replace c_2 := i_eq c_2
      rw [L_m1] at c_2
      refine d_gR (q := (10, 0)) H K_l0 (by decide) rfl (fun v4 r_v4 K_v4 => ?_)
      refine d_gR (q := (1, 0)) H K_l0 (by decide) rfl (fun v5 r_v5 K_v5 => ?_)
      refine c_gRs K_l0 r_v1 ?_
      refine c_gO K_l0 ?_
      refine Ok_b (S_X11_ruleInForce H K_l0) (fun v8 e_v8 => ?_)
      refine c_gO K_v4 ?_
      refine Ok_b (S_X10_pass (b := b) H K_v4 K_v5 K_v1 e_v8) (fun yM11 zM11 => ?_)
      obtain ⟨v10, M11⟩ := yM11
      obtain ⟨e_v10, HM11, fM11⟩ := zM11
      try dsimp only at e_v10 HM11 fM11
      have K_3 := (q_mo K_l0 (by decide) fM11)
      have a_4 := i_addc (x := l2) (c := 1) L_1 (by omega) (by omega)
      exact w_PI fM11 (hk2 HM11 K_3 h_l1 (by omega) (by omega)) (by decide) (by decide)
    · skip
      replace c_2 := i_ne c_2
      rw [L_m1] at c_2
      exact w_PI (q_rf _ _) (S_X11_strikeLater_b48 (b := b)  H K_l0 h_l1) (by decide) (by decide)
theorem S_X11_strikeLater_L2 {b : Nat → Bool} : ∀ (n : Nat) {l0 : Nat} {l1 : Int32} {l2 : Int32} {M : gM}, q_HT 0 M → (q_Kd M l0 (11, 0)) → (0 ≤ l1.toInt ∧ l1.toInt ≤ 6) → (0 ≤ l2.toInt ∧ l2.toInt ≤ 200) → 200 - l2.toInt < (n : Int) → Ok (F_X11_strikeLater_L2 n (some l0) l1 l2 M) (q_PI b M (-2147483648) (2147483647)) := by
  intro n
  induction n with
  | zero =>
    intro l0 l1 l2 M H K_l0 h_l1 h_l2  hm
    exfalso
    omega
  | succ n ih =>
    intro l0 l1 l2 M H K_l0 h_l1 h_l2  hm
    exact S_X11_strikeLater_b2 (b := b) (m2 := 200 - l2.toInt) (fun H K_l0 h_l1 h_l2  hmz => ih H K_l0 h_l1 h_l2  (by omega)) H K_l0 h_l1 h_l2  (Int.le_refl _)
theorem S_X11_strikeLater_b0 {b : Nat → Bool} {l0 : Nat} {l1 : Int32} {M : gM} (H : q_HT 0 M) (K_l0 : q_Kd M l0 (11, 0)) (h_l1 : 0 ≤ l1.toInt ∧ l1.toInt ≤ 6) : Ok (F_X11_strikeLater_b0 (some l0) l1 M) (q_PI b M (-2147483648) (2147483647)) := by
  delta F_X11_strikeLater_b0
  exact w_PI (q_rf _ _) (S_X11_strikeLater_L2 (b := b)  g_fuel H K_l0 h_l1 (by decide) (q_fu (by rw [L_0]; omega))) (by decide) (by decide)
theorem S_X11_strikeLater {b : Nat → Bool} {l0 : Nat} {l1 : Int32} {M : gM} (H : q_HT 0 M) (K_l0 : q_Kd M l0 (11, 0)) (h_l1 : 0 ≤ l1.toInt ∧ l1.toInt ≤ 6) : Ok (F_X11_strikeLater (some l0) l1 M) (q_PI b M (-2147483648) (2147483647)) := by
  delta F_X11_strikeLater
  exact w_PI (q_rf _ _) (S_X11_strikeLater_b0 (b := b)  H K_l0 h_l1) (by decide) (by decide)
set_option maxHeartbeats 1000000 in
theorem S_X11_strike_b0 {b : Nat → Bool} {l0 : Nat} {l1 : Int32} {M : gM} (H : q_HT 0 M) (K_l0 : q_Kd M l0 (11, 0)) : Ok (F_X11_strike_b0 (some l0) l1 M) (q_PI b M (-2147483648) (2147483647)) := by
  delta F_X11_strike_b0
  refine c_gO K_l0 ?_
  refine Ok_b (S_X11_isThing H K_l0) (fun v2 e_v2 => ?_)
  obtain ⟨e_v2, w_v2⟩ := e_v2
  refine Ok_i (fun c_1 => ?_) (fun c_1 => ?_)
  · skip
    replace c_1 := i_eq c_1
    rw [L_0] at c_1
    exact r_PI (i_rng _) H (q_rf _ _)
  · skip
    replace c_1 := i_ne c_1
    rw [L_0] at c_1
    have x_v2 := w_v2 (by omega)
    refine d_gR (q := (8, 0)) H K_l0 (by decide) rfl (fun v3 r_v3 K_v3 => ?_)
    refine d_gR (q := (8, 0)) H K_l0 (by decide) rfl (fun v4 r_v4 K_v4 => ?_)
    refine c_gO K_v3 ?_
    refine Ok_b (S_X8_copy (b := b) H K_v3 K_v4) (fun M6 zM6 => ?_)
    obtain ⟨HM6, fM6⟩ := zM6
    have K_2 := (q_mo K_l0 (by decide) fM6)
    refine c_gC K_2 ?_
    refine Ok_b (S_X11_strikeLater (b := b) HM6 K_2 (by omega)) (fun yM9 zM9 => ?_)
    obtain ⟨v8, M9⟩ := yM9
    obtain ⟨e_v8, HM9, fM9⟩ := zM9
    try dsimp only at e_v8 HM9 fM9
    have g_3 := q_tr fM6 fM9
    refine Ok_i (fun c_4 => ?_) (fun c_4 => ?_)
    · skip
      replace c_4 := i_eq c_4
      rw [L_m1] at c_4
      exact r_PI (i_rng _) HM9 g_3
    · skip
      replace c_4 := i_ne c_4
      rw [L_m1] at c_4
      exact r_PI (i_rng _) HM9 g_3
theorem S_X11_strike {b : Nat → Bool} {l0 : Nat} {l1 : Int32} {M : gM} (H : q_HT 0 M) (K_l0 : q_Kd M l0 (11, 0)) : Ok (F_X11_strike (some l0) l1 M) (q_PI b M (-2147483648) (2147483647)) := by
  delta F_X11_strike
  exact w_PI (q_rf _ _) (S_X11_strike_b0 (b := b)  H K_l0) (by decide) (by decide)
theorem S_X8_isAnyHeld_b2 {k2 : Option Nat → Option Nat → Int32 → Option Int32} {m2 : Int} {l0 : Nat} {l1 : Nat} {l2 : Int32} {M : gM} (hk2 : ∀ {l0 : Nat} {l1 : Nat} {l2 : Int32}, q_HT 0 M → (q_Kd M l0 (8, 0)) → (q_Kd M l1 (1, 0)) → (0 ≤ l2.toInt ∧ l2.toInt ≤ 7) → 7 - l2.toInt < m2 → Ok (k2 (some l0) (some l1) l2) (q_pi (0) (1))) (H : q_HT 0 M) (K_l0 : q_Kd M l0 (8, 0)) (K_l1 : q_Kd M l1 (1, 0)) (h_l2 : 0 ≤ l2.toInt ∧ l2.toInt ≤ 7) (hm2 : 7 - l2.toInt ≤ m2) : Ok (F_X8_isAnyHeld_b2 k2 M (some l0) (some l1) l2) (q_pi (0) (1)) := by
  delta F_X8_isAnyHeld_b2
  refine d_gI (lo := 0) (hi := 7) H K_l1 (by decide) rfl (fun v1 q_v1 e_v1 => ?_)
  refine Ok_i (fun c_1 => ?_) (fun c_1 => ?_)
  · skip
    replace c_1 := i_le c_1
    exact r_pi (by decide)
  · skip
    replace c_1 := i_nle c_1
    refine c_gO K_l0 ?_
    refine Ok_b (S_X8_holdersOf H K_l0 K_l1 (by omega)) (fun v3 e_v3 => ?_)
    clear e_v3
    refine Ok_i (fun c_2 => ?_) (fun c_2 => ?_)
    · skip
      replace c_2 := i_eq c_2
      rw [L_0] at c_2
      have a_3 := i_addc (x := l2) (c := 1) L_1 (by omega) (by omega)
      exact w_pi (hk2 H K_l0 K_l1 (by omega) (by omega)) (by decide) (by decide)
    · skip
      replace c_2 := i_ne c_2
      rw [L_0] at c_2
      exact r_pi (by decide)
theorem S_X8_isAnyHeld_L2 {M : gM} : ∀ (n : Nat) {l0 : Nat} {l1 : Nat} {l2 : Int32}, q_HT 0 M → (q_Kd M l0 (8, 0)) → (q_Kd M l1 (1, 0)) → (0 ≤ l2.toInt ∧ l2.toInt ≤ 7) → 7 - l2.toInt < (n : Int) → Ok (F_X8_isAnyHeld_L2 M n (some l0) (some l1) l2) (q_pi (0) (1)) := by
  intro n
  induction n with
  | zero =>
    intro l0 l1 l2 H K_l0 K_l1 h_l2  hm
    exfalso
    omega
  | succ n ih =>
    intro l0 l1 l2 H K_l0 K_l1 h_l2  hm
    exact S_X8_isAnyHeld_b2 (m2 := 7 - l2.toInt) (fun H K_l0 K_l1 h_l2  hmz => ih H K_l0 K_l1 h_l2  (by omega)) H K_l0 K_l1 h_l2  (Int.le_refl _)
theorem S_X8_isAnyHeld_b0 {l0 : Nat} {l1 : Nat} {M : gM} (H : q_HT 0 M) (K_l0 : q_Kd M l0 (8, 0)) (K_l1 : q_Kd M l1 (1, 0)) : Ok (F_X8_isAnyHeld_b0 M (some l0) (some l1)) (q_pi (0) (1)) := by
  delta F_X8_isAnyHeld_b0
  exact w_pi (S_X8_isAnyHeld_L2  g_fuel H K_l0 K_l1 (by decide) (q_fu (by rw [L_0]; omega))) (by decide) (by decide)
theorem S_X8_isAnyHeld {l0 : Nat} {l1 : Nat} {M : gM} (H : q_HT 0 M) (K_l0 : q_Kd M l0 (8, 0)) (K_l1 : q_Kd M l1 (1, 0)) : Ok (F_X8_isAnyHeld (some l0) (some l1) M) (q_pi (0) (1)) := by
  delta F_X8_isAnyHeld
  exact w_pi (S_X8_isAnyHeld_b0  H K_l0 K_l1) (by decide) (by decide)
theorem S_X8_holdsMost_b40 {k7 : Option Nat → Option Nat → Int32 → Int32 → Int32 → Option Int32} {m7 : Int} {l0 : Nat} {l1 : Nat} {l2 : Int32} {l3 : Int32} {l4 : Int32} {M : gM} (hk7 : ∀ {l0 : Nat} {l1 : Nat} {l2 : Int32} {l3 : Int32} {l4 : Int32}, q_HT 0 M → (q_Kd M l0 (8, 0)) → (q_Kd M l1 (1, 0)) → (-1 ≤ l2.toInt ∧ l2.toInt ≤ 6) → (0 ≤ l3.toInt ∧ l3.toInt ≤ 99) → (0 ≤ l4.toInt ∧ l4.toInt ≤ 7) → 7 - l4.toInt < m7 → Ok (k7 (some l0) (some l1) l2 l3 l4) (q_pi (-1) (6))) (H : q_HT 0 M) (K_l0 : q_Kd M l0 (8, 0)) (K_l1 : q_Kd M l1 (1, 0)) (h_l2 : -1 ≤ l2.toInt ∧ l2.toInt ≤ 6) (h_l3 : 0 ≤ l3.toInt ∧ l3.toInt ≤ 99) (h_l4 : 0 ≤ l4.toInt ∧ l4.toInt ≤ 6) (hm7 : 7 - l4.toInt ≤ m7) : Ok (F_X8_holdsMost_b40 k7 M (some l0) (some l1) l2 l3 l4) (q_pi (-1) (6)) := by
  delta F_X8_holdsMost_b40
  have a_1 := i_addc (x := l4) (c := 1) L_1 (by omega) (by omega)
  exact w_pi (hk7 H K_l0 K_l1 h_l2 h_l3 (by omega) (by omega)) (by decide) (by decide)
theorem S_X8_holdsMost_b7 {k7 : Option Nat → Option Nat → Int32 → Int32 → Int32 → Option Int32} {m7 : Int} {l0 : Nat} {l1 : Nat} {l2 : Int32} {l3 : Int32} {l4 : Int32} {M : gM} (hk7 : ∀ {l0 : Nat} {l1 : Nat} {l2 : Int32} {l3 : Int32} {l4 : Int32}, q_HT 0 M → (q_Kd M l0 (8, 0)) → (q_Kd M l1 (1, 0)) → (-1 ≤ l2.toInt ∧ l2.toInt ≤ 6) → (0 ≤ l3.toInt ∧ l3.toInt ≤ 99) → (0 ≤ l4.toInt ∧ l4.toInt ≤ 7) → 7 - l4.toInt < m7 → Ok (k7 (some l0) (some l1) l2 l3 l4) (q_pi (-1) (6))) (H : q_HT 0 M) (K_l0 : q_Kd M l0 (8, 0)) (K_l1 : q_Kd M l1 (1, 0)) (h_l2 : -1 ≤ l2.toInt ∧ l2.toInt ≤ 6) (h_l3 : 0 ≤ l3.toInt ∧ l3.toInt ≤ 99) (h_l4 : 0 ≤ l4.toInt ∧ l4.toInt ≤ 7) (hm7 : 7 - l4.toInt ≤ m7) : Ok (F_X8_holdsMost_b7 k7 M (some l0) (some l1) l2 l3 l4) (q_pi (-1) (6)) := by
  delta F_X8_holdsMost_b7
  refine d_gI (lo := 0) (hi := 7) H K_l1 (by decide) rfl (fun v1 q_v1 e_v1 => ?_)
  refine Ok_i (fun c_1 => ?_) (fun c_1 => ?_)
  · skip
    replace c_1 := i_le c_1
    exact r_pi (by omega)
  · skip
    replace c_1 := i_nle c_1
    refine c_gO K_l0 ?_
    refine Ok_b (S_X8_heldBy H K_l0 K_l1 (by omega)) (fun v3 e_v3 => ?_)
    clear e_v3
    refine Ok_b (S_J6_bitCount_0f7a4 H) (fun v4 e_v4 => ?_)
    replace e_v4 := q_un e_v4
    refine Ok_i (fun c_2 => ?_) (fun c_2 => ?_)
    · skip
      replace c_2 := i_le c_2
      exact w_pi (S_X8_holdsMost_b40 hk7 H K_l0 K_l1 h_l2 h_l3 (by omega) (by omega)) (by decide) (by decide)
    · skip
      replace c_2 := i_nle c_2
      exact w_pi (S_X8_holdsMost_b40 hk7 H K_l0 K_l1 (by omega) (by omega) (by omega) (by omega)) (by decide) (by decide)
theorem S_X8_holdsMost_L7 {M : gM} : ∀ (n : Nat) {l0 : Nat} {l1 : Nat} {l2 : Int32} {l3 : Int32} {l4 : Int32}, q_HT 0 M → (q_Kd M l0 (8, 0)) → (q_Kd M l1 (1, 0)) → (-1 ≤ l2.toInt ∧ l2.toInt ≤ 6) → (0 ≤ l3.toInt ∧ l3.toInt ≤ 99) → (0 ≤ l4.toInt ∧ l4.toInt ≤ 7) → 7 - l4.toInt < (n : Int) → Ok (F_X8_holdsMost_L7 M n (some l0) (some l1) l2 l3 l4) (q_pi (-1) (6)) := by
  intro n
  induction n with
  | zero =>
    intro l0 l1 l2 l3 l4 H K_l0 K_l1 h_l2 h_l3 h_l4  hm
    exfalso
    omega
  | succ n ih =>
    intro l0 l1 l2 l3 l4 H K_l0 K_l1 h_l2 h_l3 h_l4  hm
    exact S_X8_holdsMost_b7 (m7 := 7 - l4.toInt) (fun H K_l0 K_l1 h_l2 h_l3 h_l4  hmz => ih H K_l0 K_l1 h_l2 h_l3 h_l4  (by omega)) H K_l0 K_l1 h_l2 h_l3 h_l4  (Int.le_refl _)
theorem S_X8_holdsMost_b0 {l0 : Nat} {l1 : Nat} {M : gM} (H : q_HT 0 M) (K_l0 : q_Kd M l0 (8, 0)) (K_l1 : q_Kd M l1 (1, 0)) : Ok (F_X8_holdsMost_b0 M (some l0) (some l1)) (q_pi (-1) (6)) := by
  delta F_X8_holdsMost_b0
  exact w_pi (S_X8_holdsMost_L7  g_fuel H K_l0 K_l1 (by decide) (by decide) (by decide) (q_fu (by rw [L_0]; omega))) (by decide) (by decide)
theorem S_X8_holdsMost {l0 : Nat} {l1 : Nat} {M : gM} (H : q_HT 0 M) (K_l0 : q_Kd M l0 (8, 0)) (K_l1 : q_Kd M l1 (1, 0)) : Ok (F_X8_holdsMost (some l0) (some l1) M) (q_pi (-1) (6)) := by
  delta F_X8_holdsMost
  exact w_pi (S_X8_holdsMost_b0  H K_l0 K_l1) (by decide) (by decide)
theorem S_X11_inherits_b19 {b : Nat → Bool}  {M : gM} (H : q_HT 0 M) : Ok (F_X11_inherits_b19 M) (q_PI b M (-2147483648) (2147483647)) := by
  delta F_X11_inherits_b19
  exact r_PI (i_rng _) H (q_rf _ _)
set_option maxHeartbeats 1000000 in
theorem S_X11_inherits_b124 {b : Nat → Bool} {l0 : Nat} {l1 : Int32} {l2 : Int32} {l3 : Int32} {M : gM} (H : q_HT 0 M) (K_l0 : q_Kd M l0 (11, 0)) (h_l1 : 0 ≤ l1.toInt ∧ l1.toInt ≤ 1) (h_l2 : -1 ≤ l2.toInt ∧ l2.toInt ≤ 6) : Ok (F_X11_inherits_b124 (some l0) l1 l2 l3 M) (q_PI b M (-2147483648) (2147483647)) := by
  delta F_X11_inherits_b124
  refine d_gR (q := (8, 0)) H K_l0 (by decide) rfl (fun v1 r_v1 K_v1 => ?_)
  refine d_gR (q := (1, 0)) H K_l0 (by decide) rfl (fun v2 r_v2 K_v2 => ?_)
  refine c_gO K_v1 ?_
  refine Ok_b (S_X8_isAnyHeld H K_v1 K_v2) (fun v4 e_v4 => ?_)
  replace e_v4 := q_un e_v4
  refine Ok_i (fun c_1 => ?_) (fun c_1 => ?_)
  · skip
    replace c_1 := i_eq c_1
    rw [L_0] at c_1
    refine Ok_i (fun c_2 => ?_) (fun c_2 => ?_)
    · skip
      replace c_2 := i_eq c_2
      rw [L_0] at c_2
      exact r_PI (i_rng _) H (q_rf _ _)
    · skip
      replace c_2 := i_ne c_2
      rw [L_0] at c_2
      exact r_PI (i_rng _) H (q_rf _ _)
  · skip
    replace c_1 := i_ne c_1
    rw [L_0] at c_1
    exact r_PI (i_rng _) H (q_rf _ _)
set_option maxHeartbeats 1000000 in
theorem S_X11_inherits_b56 {b : Nat → Bool} {k56 : Option Nat → Int32 → Int32 → Int32 → Int32 → gM → Option (Int32 × gM)} {m56 : Int} {l0 : Nat} {l1 : Int32} {l2 : Int32} {l3 : Int32} {l4 : Int32} {M : gM} (hk56 : ∀ {l0 : Nat} {l1 : Int32} {l2 : Int32} {l3 : Int32} {l4 : Int32} {M : gM}, q_HT 0 M → (q_Kd M l0 (11, 0)) → (0 ≤ l1.toInt ∧ l1.toInt ≤ 1) → (-1 ≤ l2.toInt ∧ l2.toInt ≤ 6) → (0 ≤ l4.toInt ∧ l4.toInt ≤ 200) → 200 - l4.toInt < m56 → Ok (k56 (some l0) l1 l2 l3 l4 M) (q_PI b M (-2147483648) (2147483647))) (H : q_HT 0 M) (K_l0 : q_Kd M l0 (11, 0)) (h_l1 : 0 ≤ l1.toInt ∧ l1.toInt ≤ 1) (h_l2 : -1 ≤ l2.toInt ∧ l2.toInt ≤ 6) (h_l4 : 0 ≤ l4.toInt ∧ l4.toInt ≤ 200) (hm56 : 200 - l4.toInt ≤ m56) : Ok (F_X11_inherits_b56 k56 (some l0) l1 l2 l3 l4 M) (q_PI b M (-2147483648) (2147483647)) := by
  delta F_X11_inherits_b56
  refine Ok_i (fun c_1 => ?_) (fun c_1 => ?_)
  · skip
    replace c_1 := i_le c_1
    rw [L_200] at c_1
    exact w_PI (q_rf _ _) (S_X11_inherits_b124 (b := b)  H K_l0 h_l1 h_l2) (by decide) (by decide)
  · skip
    replace c_1 := i_nle c_1
    rw [L_200] at c_1
    refine d_gR (q := (8, 0)) H K_l0 (by decide) rfl (fun v1 r_v1 K_v1 => ?_)
    refine d_gR (q := (1, 0)) H K_l0 (by decide) rfl (fun v2 r_v2 K_v2 => ?_)
    refine c_gO K_v1 ?_
    refine Ok_b (S_X8_isAnyHeld H K_v1 K_v2) (fun v4 e_v4 => ?_)
    replace e_v4 := q_un e_v4
    refine Ok_i (fun c_2 => ?_) (fun c_2 => ?_)
    · skip
      replace c_2 := i_eq c_2
      rw [L_0] at c_2
      exact w_PI (q_rf _ _) (S_X11_inherits_b124 (b := b)  H K_l0 h_l1 h_l2) (by decide) (by decide)
    · skip
      replace c_2 := i_ne c_2
      rw [L_0] at c_2
      refine c_gRs K_l0 r_v1 ?_
      refine c_gRs K_l0 r_v2 ?_
      refine c_gO K_v1 ?_
      refine Ok_b (S_X8_holdsMost H K_v1 K_v2) (fun v8 e_v8 => ?_)
      replace e_v8 := q_un e_v8
      refine c_gRs K_l0 r_v1 ?_
      refine c_gIt K_v1 (fun v10 q_v10 => ?_)
      refine d_gR (q := (10, 0)) H K_l0 (by decide) rfl (fun v11 r_v11 K_v11 => ?_)
      refine c_gRs K_l0 r_v2 ?_
      refine c_gRs K_l0 r_v1 ?_
      refine c_gO K_l0 ?_
      refine Ok_b (S_X11_ruleInForce H K_l0) (fun v15 e_v15 => ?_)
      refine c_gO K_v11 ?_
      refine Ok_b (S_X10_pass (b := b) H K_v11 K_v2 K_v1 e_v15) (fun yM18 zM18 => ?_)
      obtain ⟨v17, M18⟩ := yM18
      obtain ⟨e_v17, HM18, fM18⟩ := zM18
      try dsimp only at e_v17 HM18 fM18
      have K_3 := (q_mo K_l0 (by decide) fM18)
      have a_4 := i_addc (x := l4) (c := 1) L_1 (by omega) (by omega)
      exact w_PI fM18 (hk56 HM18 K_3 h_l1 e_v8 (by omega) (by omega)) (by decide) (by decide)
theorem S_X11_inherits_L56 {b : Nat → Bool} : ∀ (n : Nat) {l0 : Nat} {l1 : Int32} {l2 : Int32} {l3 : Int32} {l4 : Int32} {M : gM}, q_HT 0 M → (q_Kd M l0 (11, 0)) → (0 ≤ l1.toInt ∧ l1.toInt ≤ 1) → (-1 ≤ l2.toInt ∧ l2.toInt ≤ 6) → (0 ≤ l4.toInt ∧ l4.toInt ≤ 200) → 200 - l4.toInt < (n : Int) → Ok (F_X11_inherits_L56 n (some l0) l1 l2 l3 l4 M) (q_PI b M (-2147483648) (2147483647)) := by
  intro n
  induction n with
  | zero =>
    intro l0 l1 l2 l3 l4 M H K_l0 h_l1 h_l2 h_l4  hm
    exfalso
    omega
  | succ n ih =>
    intro l0 l1 l2 l3 l4 M H K_l0 h_l1 h_l2 h_l4  hm
    exact S_X11_inherits_b56 (b := b) (m56 := 200 - l4.toInt) (fun H K_l0 h_l1 h_l2 h_l4  hmz => ih H K_l0 h_l1 h_l2 h_l4  (by omega)) H K_l0 h_l1 h_l2 h_l4  (Int.le_refl _)
set_option maxHeartbeats 1000000 in
theorem S_X11_inherits_b0 {b : Nat → Bool} {l0 : Nat} {l1 : Int32} {M : gM} (H : q_HT 0 M) (K_l0 : q_Kd M l0 (11, 0)) : Ok (F_X11_inherits_b0 (some l0) l1 M) (q_PI b M (-2147483648) (2147483647)) := by
  delta F_X11_inherits_b0
  refine Ok_i (fun c_1 => ?_) (fun c_1 => ?_)
  · skip
    replace c_1 := i_lt c_1
    rw [L_0] at c_1
    exact w_PI (q_rf _ _) (S_X11_inherits_b19 (b := b)  H) (by decide) (by decide)
  · skip
    replace c_1 := i_nlt c_1
    rw [L_0] at c_1
    refine Ok_i (fun c_2 => ?_) (fun c_2 => ?_)
    · skip
      replace c_2 := i_lt c_2
      rw [L_1] at c_2
      exact w_PI (q_rf _ _) (S_X11_inherits_b19 (b := b)  H) (by decide) (by decide)
    · skip
      replace c_2 := i_nlt c_2
      rw [L_1] at c_2
      refine d_gR (q := (1, 0)) H K_l0 (by decide) rfl (fun v1 r_v1 K_v1 => ?_)
      refine d_gI (lo := 0) (hi := 1) H K_v1 (by decide) rfl (fun v2 q_v2 e_v2 => ?_)
      refine Ok_i (fun c_3 => ?_) (fun c_3 => ?_)
      · skip
        replace c_3 := i_eq c_3
        rw [L_0] at c_3
        exact w_PI (q_rf _ _) (S_X11_inherits_b19 (b := b)  H) (by decide) (by decide)
      · skip
        replace c_3 := i_ne c_3
        rw [L_0] at c_3
        refine d_gR (q := (8, 0)) H K_l0 (by decide) rfl (fun v3 r_v3 K_v3 => ?_)
        refine c_gRs K_l0 r_v1 ?_
        refine c_gO K_v3 ?_
        refine Ok_b (S_X8_isAnyHeld H K_v3 K_v1) (fun v6 e_v6 => ?_)
        replace e_v6 := q_un e_v6
        refine Ok_i (fun c_4 => ?_) (fun c_4 => ?_)
        · skip
          replace c_4 := i_eq c_4
          rw [L_0] at c_4
          exact r_PI (i_rng _) H (q_rf _ _)
        · skip
          replace c_4 := i_ne c_4
          rw [L_0] at c_4
          refine d_gR (q := (8, 0)) H K_l0 (by decide) rfl (fun v7 r_v7 K_v7 => ?_)
          refine c_gRs K_l0 r_v3 ?_
          refine c_gO K_v7 ?_
          refine Ok_b (S_X8_copy (b := b) H K_v7 K_v3) (fun M10 zM10 => ?_)
          obtain ⟨HM10, fM10⟩ := zM10
          have K_5 := (q_mo K_l0 (by decide) fM10)
          exact w_PI fM10 (S_X11_inherits_L56 (b := b)  g_fuel HM10 K_5 (by omega) (by decide) (by decide) (q_fu (by rw [L_0]; omega))) (by decide) (by decide)
theorem S_X11_inherits {b : Nat → Bool} {l0 : Nat} {l1 : Int32} {M : gM} (H : q_HT 0 M) (K_l0 : q_Kd M l0 (11, 0)) : Ok (F_X11_inherits (some l0) l1 M) (q_PI b M (-2147483648) (2147483647)) := by
  delta F_X11_inherits
  exact w_PI (q_rf _ _) (S_X11_inherits_b0 (b := b)  H K_l0) (by decide) (by decide)
theorem S_X8_lasts_b0 {l0 : Nat} {l1 : Int32} {M : gM} (H : q_HT 0 M) (K_l0 : q_Kd M l0 (8, 0)) (h_l1 : 0 ≤ l1.toInt ∧ l1.toInt ≤ 6) : Ok (F_X8_lasts_b0 M (some l0) l1) (q_pi (-2147483648) (2147483647)) := by
  delta F_X8_lasts_b0
  refine d_gR (q := (20, 7)) H K_l0 (by decide) rfl (fun v1 r_v1 K_v1 => ?_)
  refine c_aI K_v1 (by omega) (by omega) (fun v2 => ?_)
  refine Ok_i (fun c_1 => ?_) (fun c_1 => ?_)
  · skip
    replace c_1 := i_eq c_1
    rw [L_m1] at c_1
    exact r_pi (i_rng _)
  · skip
    replace c_1 := i_ne c_1
    rw [L_m1] at c_1
    refine c_gRs K_l0 r_v1 ?_
    refine c_aI K_v1 (by omega) (by omega) (fun v4 => ?_)
    exact r_pi (i_rng _)
theorem S_X8_lasts {l0 : Nat} {l1 : Int32} {M : gM} (H : q_HT 0 M) (K_l0 : q_Kd M l0 (8, 0)) (h_l1 : 0 ≤ l1.toInt ∧ l1.toInt ≤ 6) : Ok (F_X8_lasts (some l0) l1 M) (q_pi (-2147483648) (2147483647)) := by
  delta F_X8_lasts
  exact w_pi (S_X8_lasts_b0  H K_l0 h_l1) (by decide) (by decide)
theorem S_X11_longest_b68 {b : Nat → Bool} {k36 : Option Nat → Int32 → Int32 → gM → Option (Int32 × gM)} {m36 : Int} {l0 : Nat} {l1 : Int32} {l2 : Int32} {M : gM} (hk36 : ∀ {l0 : Nat} {l1 : Int32} {l2 : Int32} {M : gM}, q_HT 0 M → (q_Kd M l0 (11, 0)) → (0 ≤ l1.toInt ∧ l1.toInt ≤ 6) → (1 ≤ l2.toInt ∧ l2.toInt ≤ 7) → 7 - l2.toInt < m36 → Ok (k36 (some l0) l1 l2 M) (q_PI b M (-2) (6))) (H : q_HT 0 M) (K_l0 : q_Kd M l0 (11, 0)) (h_l1 : 0 ≤ l1.toInt ∧ l1.toInt ≤ 6) (h_l2 : 1 ≤ l2.toInt ∧ l2.toInt ≤ 6) (hm36 : 7 - l2.toInt ≤ m36) : Ok (F_X11_longest_b68 k36 (some l0) l1 l2 M) (q_PI b M (-2) (6)) := by
  delta F_X11_longest_b68
  have a_1 := i_addc (x := l2) (c := 1) L_1 (by omega) (by omega)
  exact w_PI (q_rf _ _) (hk36 H K_l0 h_l1 (by omega) (by omega)) (by decide) (by decide)
set_option maxHeartbeats 1000000 in
theorem S_X11_longest_b36 {b : Nat → Bool} {k36 : Option Nat → Int32 → Int32 → gM → Option (Int32 × gM)} {m36 : Int} {l0 : Nat} {l1 : Int32} {l2 : Int32} {M : gM} (hk36 : ∀ {l0 : Nat} {l1 : Int32} {l2 : Int32} {M : gM}, q_HT 0 M → (q_Kd M l0 (11, 0)) → (0 ≤ l1.toInt ∧ l1.toInt ≤ 6) → (1 ≤ l2.toInt ∧ l2.toInt ≤ 7) → 7 - l2.toInt < m36 → Ok (k36 (some l0) l1 l2 M) (q_PI b M (-2) (6))) (H : q_HT 0 M) (K_l0 : q_Kd M l0 (11, 0)) (h_l1 : 0 ≤ l1.toInt ∧ l1.toInt ≤ 6) (h_l2 : 1 ≤ l2.toInt ∧ l2.toInt ≤ 7) (hm36 : 7 - l2.toInt ≤ m36) : Ok (F_X11_longest_b36 k36 (some l0) l1 l2 M) (q_PI b M (-2) (6)) := by
  delta F_X11_longest_b36
  refine d_gR (q := (1, 0)) H K_l0 (by decide) rfl (fun v1 r_v1 K_v1 => ?_)
  refine d_gI (lo := 0) (hi := 7) H K_v1 (by decide) rfl (fun v2 q_v2 e_v2 => ?_)
  refine Ok_i (fun c_1 => ?_) (fun c_1 => ?_)
  · skip
    replace c_1 := i_le c_1
    exact r_PI (by omega) H (q_rf _ _)
  · skip
    replace c_1 := i_nle c_1
    refine d_gR (q := (8, 0)) H K_l0 (by decide) rfl (fun v3 r_v3 K_v3 => ?_)
    refine c_gO K_v3 ?_
    refine Ok_b (S_X8_lasts H K_v3 (by omega)) (fun v5 e_v5 => ?_)
    clear e_v5
    refine c_gRs K_l0 r_v3 ?_
    refine c_gO K_v3 ?_
    refine Ok_b (S_X8_lasts H K_v3 h_l1) (fun v8 e_v8 => ?_)
    clear e_v8
    refine Ok_i (fun c_2 => ?_) (fun c_2 => ?_)
    · skip
      replace c_2 := i_le c_2
      exact w_PI (q_rf _ _) (S_X11_longest_b68 (b := b) hk36 H K_l0 h_l1 (by omega) (by omega)) (by decide) (by decide)
    · skip
      replace c_2 := i_nle c_2
      exact w_PI (q_rf _ _) (S_X11_longest_b68 (b := b) hk36 H K_l0 (by omega) (by omega) (by omega)) (by decide) (by decide)
theorem S_X11_longest_L36 {b : Nat → Bool} : ∀ (n : Nat) {l0 : Nat} {l1 : Int32} {l2 : Int32} {M : gM}, q_HT 0 M → (q_Kd M l0 (11, 0)) → (0 ≤ l1.toInt ∧ l1.toInt ≤ 6) → (1 ≤ l2.toInt ∧ l2.toInt ≤ 7) → 7 - l2.toInt < (n : Int) → Ok (F_X11_longest_L36 n (some l0) l1 l2 M) (q_PI b M (-2) (6)) := by
  intro n
  induction n with
  | zero =>
    intro l0 l1 l2 M H K_l0 h_l1 h_l2  hm
    exfalso
    omega
  | succ n ih =>
    intro l0 l1 l2 M H K_l0 h_l1 h_l2  hm
    exact S_X11_longest_b36 (b := b) (m36 := 7 - l2.toInt) (fun H K_l0 h_l1 h_l2  hmz => ih H K_l0 h_l1 h_l2  (by omega)) H K_l0 h_l1 h_l2  (Int.le_refl _)
set_option maxHeartbeats 1000000 in
theorem S_X11_longest_b0 {b : Nat → Bool} {l0 : Nat} {M : gM} (H : q_HT 0 M) (K_l0 : q_Kd M l0 (11, 0)) : Ok (F_X11_longest_b0 (some l0) M) (q_PI b M (-2) (6)) := by
  delta F_X11_longest_b0
  refine d_gR (q := (1, 0)) H K_l0 (by decide) rfl (fun v1 r_v1 K_v1 => ?_)
  refine d_gI (lo := 0) (hi := 1) H K_v1 (by decide) rfl (fun v2 q_v2 e_v2 => ?_)
  refine Ok_i (fun c_1 => ?_) (fun c_1 => ?_)
  · skip
    replace c_1 := i_eq c_1
    rw [L_0] at c_1
    exact r_PI (by decide) H (q_rf _ _)
  · skip
    replace c_1 := i_ne c_1
    rw [L_0] at c_1
    refine c_gRs K_l0 r_v1 ?_
    refine d_gI (lo := 0) (hi := 7) H K_v1 (by decide) rfl (fun v4 q_v4 e_v4 => ?_)
    refine Ok_i (fun c_2 => ?_) (fun c_2 => ?_)
    · skip
      replace c_2 := i_eq c_2
      rw [L_0] at c_2
      exact r_PI (by decide) H (q_rf _ _)
    · skip
      replace c_2 := i_ne c_2
      rw [L_0] at c_2
      refine c_gO K_l0 ?_
      refine Ok_b (S_X11_lookAhead (b := b) H K_l0 (by decide)) (fun M6 zM6 => ?_)
      obtain ⟨HM6, fM6⟩ := zM6
      have K_3 := (q_mo K_l0 (by decide) fM6)
      exact w_PI fM6 (S_X11_longest_L36 (b := b)  g_fuel HM6 K_3 (by decide) (by decide) (q_fu (by rw [L_1]; omega))) (by decide) (by decide)
theorem S_X11_longest {b : Nat → Bool} {l0 : Nat} {M : gM} (H : q_HT 0 M) (K_l0 : q_Kd M l0 (11, 0)) : Ok (F_X11_longest (some l0) M) (q_PI b M (-2) (6)) := by
  delta F_X11_longest
  exact w_PI (q_rf _ _) (S_X11_longest_b0 (b := b)  H K_l0) (by decide) (by decide)
theorem S_X11_fields_b21 {b : Nat → Bool}  {M : gM} (H : q_HT 0 M) : Ok (F_X11_fields_b21 M) (q_PI b M (-2147483648) (2147483647)) := by
  delta F_X11_fields_b21
  exact r_PI (i_rng _) H (q_rf _ _)
theorem S_X11_fields_b68 {b : Nat → Bool} {k32 : Option Nat → Int32 → Int32 → gM → Option (Int32 × gM)} {m32 : Int} {l0 : Nat} {l2 : Int32} {l3 : Int32} {M : gM} (hk32 : ∀ {l0 : Nat} {l2 : Int32} {l3 : Int32} {M : gM}, q_HT 0 M → (q_Kd M l0 (11, 0)) → (0 ≤ l3.toInt ∧ l3.toInt ≤ 7) → 7 - l3.toInt < m32 → Ok (k32 (some l0) l2 l3 M) (q_PI b M (-2147483648) (2147483647))) (H : q_HT 0 M) (K_l0 : q_Kd M l0 (11, 0)) (h_l3 : 0 ≤ l3.toInt ∧ l3.toInt ≤ 6) (hm32 : 7 - l3.toInt ≤ m32) : Ok (F_X11_fields_b68 k32 (some l0) l2 l3 M) (q_PI b M (-2147483648) (2147483647)) := by
  delta F_X11_fields_b68
  have a_1 := i_addc (x := l3) (c := 1) L_1 (by omega) (by omega)
  exact w_PI (q_rf _ _) (hk32 H K_l0 (by omega) (by omega)) (by decide) (by decide)
set_option maxHeartbeats 1000000 in
theorem S_X11_fields_b32 {b : Nat → Bool} {k32 : Option Nat → Int32 → Int32 → gM → Option (Int32 × gM)} {m32 : Int} {l0 : Nat} {l2 : Int32} {l3 : Int32} {M : gM} (hk32 : ∀ {l0 : Nat} {l2 : Int32} {l3 : Int32} {M : gM}, q_HT 0 M → (q_Kd M l0 (11, 0)) → (0 ≤ l3.toInt ∧ l3.toInt ≤ 7) → 7 - l3.toInt < m32 → Ok (k32 (some l0) l2 l3 M) (q_PI b M (-2147483648) (2147483647))) (H : q_HT 0 M) (K_l0 : q_Kd M l0 (11, 0)) (h_l3 : 0 ≤ l3.toInt ∧ l3.toInt ≤ 7) (hm32 : 7 - l3.toInt ≤ m32) : Ok (F_X11_fields_b32 k32 (some l0) l2 l3 M) (q_PI b M (-2147483648) (2147483647)) := by
  delta F_X11_fields_b32
  refine d_gR (q := (1, 0)) H K_l0 (by decide) rfl (fun v1 r_v1 K_v1 => ?_)
  refine d_gI (lo := 0) (hi := 7) H K_v1 (by decide) rfl (fun v2 q_v2 e_v2 => ?_)
  refine Ok_i (fun c_1 => ?_) (fun c_1 => ?_)
  · skip
    replace c_1 := i_le c_1
    exact r_PI (i_rng _) H (q_rf _ _)
  · skip
    replace c_1 := i_nle c_1
    refine d_gR (q := (8, 0)) H K_l0 (by decide) rfl (fun v3 r_v3 K_v3 => ?_)
    refine d_gR (q := (20, 7)) H K_v3 (by decide) rfl (fun v4 r_v4 K_v4 => ?_)
    refine c_aI K_v4 (by omega) (by omega) (fun v5 => ?_)
    refine Ok_i (fun c_2 => ?_) (fun c_2 => ?_)
    · skip
      replace c_2 := i_eq c_2
      rw [L_m1] at c_2
      refine c_gRs K_l0 r_v1 ?_
      refine d_gR (q := (20, 7)) H K_v1 (by decide) rfl (fun v7 r_v7 K_v7 => ?_)
      refine c_aI K_v7 (by omega) (by omega) (fun v8 => ?_)
      exact w_PI (q_rf _ _) (S_X11_fields_b68 (b := b) hk32 H K_l0 (by omega) (by omega)) (by decide) (by decide)
    · skip
      replace c_2 := i_ne c_2
      rw [L_m1] at c_2
      exact w_PI (q_rf _ _) (S_X11_fields_b68 (b := b) hk32 H K_l0 (by omega) (by omega)) (by decide) (by decide)
theorem S_X11_fields_L32 {b : Nat → Bool} : ∀ (n : Nat) {l0 : Nat} {l2 : Int32} {l3 : Int32} {M : gM}, q_HT 0 M → (q_Kd M l0 (11, 0)) → (0 ≤ l3.toInt ∧ l3.toInt ≤ 7) → 7 - l3.toInt < (n : Int) → Ok (F_X11_fields_L32 n (some l0) l2 l3 M) (q_PI b M (-2147483648) (2147483647)) := by
  intro n
  induction n with
  | zero =>
    intro l0 l2 l3 M H K_l0 h_l3  hm
    exfalso
    omega
  | succ n ih =>
    intro l0 l2 l3 M H K_l0 h_l3  hm
    exact S_X11_fields_b32 (b := b) (m32 := 7 - l3.toInt) (fun H K_l0 h_l3  hmz => ih H K_l0 h_l3  (by omega)) H K_l0 h_l3  (Int.le_refl _)
set_option maxHeartbeats 1000000 in
theorem S_X11_fields_b0 {b : Nat → Bool} {l0 : Nat} {l1 : Int32} {M : gM} (H : q_HT 0 M) (K_l0 : q_Kd M l0 (11, 0)) : Ok (F_X11_fields_b0 (some l0) l1 M) (q_PI b M (-2147483648) (2147483647)) := by
  delta F_X11_fields_b0
  refine Ok_i (fun c_1 => ?_) (fun c_1 => ?_)
  · skip
    replace c_1 := i_lt c_1
    rw [L_0] at c_1
    exact w_PI (q_rf _ _) (S_X11_fields_b21 (b := b)  H) (by decide) (by decide)
  · skip
    replace c_1 := i_nlt c_1
    rw [L_0] at c_1
    refine Ok_i (fun c_2 => ?_) (fun c_2 => ?_)
    · skip
      replace c_2 := i_lt c_2
      rw [L_200] at c_2
      exact w_PI (q_rf _ _) (S_X11_fields_b21 (b := b)  H) (by decide) (by decide)
    · skip
      replace c_2 := i_nlt c_2
      rw [L_200] at c_2
      refine d_gR (q := (1, 0)) H K_l0 (by decide) rfl (fun v1 r_v1 K_v1 => ?_)
      refine d_gI (lo := 0) (hi := 1) H K_v1 (by decide) rfl (fun v2 q_v2 e_v2 => ?_)
      refine Ok_i (fun c_3 => ?_) (fun c_3 => ?_)
      · skip
        replace c_3 := i_eq c_3
        rw [L_0] at c_3
        exact w_PI (q_rf _ _) (S_X11_fields_b21 (b := b)  H) (by decide) (by decide)
      · skip
        replace c_3 := i_ne c_3
        rw [L_0] at c_3
        refine c_gO K_l0 ?_
        refine Ok_b (S_X11_lookAhead (b := b) H K_l0 (by omega)) (fun M4 zM4 => ?_)
        obtain ⟨HM4, fM4⟩ := zM4
        have K_4 := (q_mo K_l0 (by decide) fM4)
        exact w_PI fM4 (S_X11_fields_L32 (b := b)  g_fuel HM4 K_4 (by decide) (q_fu (by rw [L_0]; omega))) (by decide) (by decide)
theorem S_X11_fields {b : Nat → Bool} {l0 : Nat} {l1 : Int32} {M : gM} (H : q_HT 0 M) (K_l0 : q_Kd M l0 (11, 0)) : Ok (F_X11_fields (some l0) l1 M) (q_PI b M (-2147483648) (2147483647)) := by
  delta F_X11_fields
  exact w_PI (q_rf _ _) (S_X11_fields_b0 (b := b)  H K_l0) (by decide) (by decide)
theorem S_X11_falls_b100 {b : Nat → Bool} {k53 : Option Nat → Int32 → Int32 → gM → Option (Int32 × gM)} {m53 : Int} {l0 : Nat} {l2 : Int32} {l3 : Int32} {M : gM} (hk53 : ∀ {l0 : Nat} {l2 : Int32} {l3 : Int32} {M : gM}, q_HT 0 M → (q_Kd M l0 (11, 0)) → (0 ≤ l3.toInt ∧ l3.toInt ≤ 7) → 7 - l3.toInt < m53 → Ok (k53 (some l0) l2 l3 M) (q_PI b M (-2147483648) (2147483647))) (H : q_HT 0 M) (K_l0 : q_Kd M l0 (11, 0)) (h_l3 : 0 ≤ l3.toInt ∧ l3.toInt ≤ 6) (hm53 : 7 - l3.toInt ≤ m53) : Ok (F_X11_falls_b100 k53 (some l0) l2 l3 M) (q_PI b M (-2147483648) (2147483647)) := by
  delta F_X11_falls_b100
  have a_1 := i_addc (x := l3) (c := 1) L_1 (by omega) (by omega)
  exact w_PI (q_rf _ _) (hk53 H K_l0 (by omega) (by omega)) (by decide) (by decide)
set_option maxHeartbeats 1000000 in
theorem S_X11_falls_b53 {b : Nat → Bool} {k53 : Option Nat → Int32 → Int32 → gM → Option (Int32 × gM)} {m53 : Int} {l0 : Nat} {l2 : Int32} {l3 : Int32} {M : gM} (hk53 : ∀ {l0 : Nat} {l2 : Int32} {l3 : Int32} {M : gM}, q_HT 0 M → (q_Kd M l0 (11, 0)) → (0 ≤ l3.toInt ∧ l3.toInt ≤ 7) → 7 - l3.toInt < m53 → Ok (k53 (some l0) l2 l3 M) (q_PI b M (-2147483648) (2147483647))) (H : q_HT 0 M) (K_l0 : q_Kd M l0 (11, 0)) (h_l3 : 0 ≤ l3.toInt ∧ l3.toInt ≤ 7) (hm53 : 7 - l3.toInt ≤ m53) : Ok (F_X11_falls_b53 k53 (some l0) l2 l3 M) (q_PI b M (-2147483648) (2147483647)) := by
  delta F_X11_falls_b53
  refine d_gR (q := (1, 0)) H K_l0 (by decide) rfl (fun v1 r_v1 K_v1 => ?_)
  refine d_gI (lo := 0) (hi := 7) H K_v1 (by decide) rfl (fun v2 q_v2 e_v2 => ?_)
  refine Ok_i (fun c_1 => ?_) (fun c_1 => ?_)
  · skip
    replace c_1 := i_le c_1
    exact r_PI (i_rng _) H (q_rf _ _)
  · skip
    replace c_1 := i_nle c_1
    refine d_gR (q := (8, 0)) H K_l0 (by decide) rfl (fun v3 r_v3 K_v3 => ?_)
    refine c_gRs K_l0 r_v1 ?_
    refine c_gO K_v3 ?_
    refine Ok_b (S_X8_holdersOf H K_v3 K_v1 (by omega)) (fun v6 e_v6 => ?_)
    clear e_v6
    refine Ok_i (fun c_2 => ?_) (fun c_2 => ?_)
    · skip
      replace c_2 := i_eq c_2
      rw [L_0] at c_2
      exact w_PI (q_rf _ _) (S_X11_falls_b100 (b := b) hk53 H K_l0 (by omega) (by omega)) (by decide) (by decide)
    · skip
      replace c_2 := i_ne c_2
      rw [L_0] at c_2
      refine d_gR (q := (8, 0)) H K_l0 (by decide) rfl (fun v7 r_v7 K_v7 => ?_)
      refine c_gRs K_l0 r_v1 ?_
      refine c_gO K_v7 ?_
      refine Ok_b (S_X8_holdersOf H K_v7 K_v1 (by omega)) (fun v10 e_v10 => ?_)
      clear e_v10
      refine Ok_i (fun c_3 => ?_) (fun c_3 => ?_)
      · skip
        replace c_3 := i_eq c_3
        rw [L_0] at c_3
        exact w_PI (q_rf _ _) (S_X11_falls_b100 (b := b) hk53 H K_l0 (by omega) (by omega)) (by decide) (by decide)
      · skip
        replace c_3 := i_ne c_3
        rw [L_0] at c_3
        exact w_PI (q_rf _ _) (S_X11_falls_b100 (b := b) hk53 H K_l0 (by omega) (by omega)) (by decide) (by decide)
theorem S_X11_falls_L53 {b : Nat → Bool} : ∀ (n : Nat) {l0 : Nat} {l2 : Int32} {l3 : Int32} {M : gM}, q_HT 0 M → (q_Kd M l0 (11, 0)) → (0 ≤ l3.toInt ∧ l3.toInt ≤ 7) → 7 - l3.toInt < (n : Int) → Ok (F_X11_falls_L53 n (some l0) l2 l3 M) (q_PI b M (-2147483648) (2147483647)) := by
  intro n
  induction n with
  | zero =>
    intro l0 l2 l3 M H K_l0 h_l3  hm
    exfalso
    omega
  | succ n ih =>
    intro l0 l2 l3 M H K_l0 h_l3  hm
    exact S_X11_falls_b53 (b := b) (m53 := 7 - l3.toInt) (fun H K_l0 h_l3  hmz => ih H K_l0 h_l3  (by omega)) H K_l0 h_l3  (Int.le_refl _)
theorem S_X11_falls_b23 {b : Nat → Bool} {k23 : Option Nat → Int32 → Int32 → gM → Option (Int32 × gM)} {m23 : Int} {l0 : Nat} {l1 : Int32} {l2 : Int32} {M : gM} (hk23 : ∀ {l0 : Nat} {l1 : Int32} {l2 : Int32} {M : gM}, q_HT 0 M → (q_Kd M l0 (11, 0)) → (0 ≤ l1.toInt ∧ l1.toInt ≤ 6) → (0 ≤ l2.toInt ∧ l2.toInt ≤ 7) → 7 - l2.toInt < m23 → Ok (k23 (some l0) l1 l2 M) (q_PI b M (-2147483648) (2147483647))) (H : q_HT 0 M) (K_l0 : q_Kd M l0 (11, 0)) (h_l1 : 0 ≤ l1.toInt ∧ l1.toInt ≤ 6) (h_l2 : 0 ≤ l2.toInt ∧ l2.toInt ≤ 7) (hm23 : 7 - l2.toInt ≤ m23) : Ok (F_X11_falls_b23 k23 (some l0) l1 l2 M) (q_PI b M (-2147483648) (2147483647)) := by
  delta F_X11_falls_b23
  refine d_gR (q := (1, 0)) H K_l0 (by decide) rfl (fun v1 r_v1 K_v1 => ?_)
  refine d_gI (lo := 0) (hi := 7) H K_v1 (by decide) rfl (fun v2 q_v2 e_v2 => ?_)
  refine Ok_i (fun c_1 => ?_) (fun c_1 => ?_)
  · skip
    replace c_1 := i_le c_1
    exact w_PI (q_rf _ _) (S_X11_falls_L53 (b := b)  g_fuel H K_l0 (by decide) (q_fu (by rw [L_0]; omega))) (by decide) (by decide)
  · skip
    replace c_1 := i_nle c_1
    refine d_gR (q := (8, 0)) H K_l0 (by decide) rfl (fun v3 r_v3 K_v3 => ?_)
    refine c_gO K_v3 ?_
    refine Ok_b (S_X8_forget (b := b) H K_v3 h_l1 (by omega)) (fun M5 zM5 => ?_)
    obtain ⟨HM5, fM5⟩ := zM5
    have K_2 := (q_mo K_l0 (by decide) fM5)
    have a_3 := i_addc (x := l2) (c := 1) L_1 (by omega) (by omega)
    exact w_PI fM5 (hk23 HM5 K_2 h_l1 (by omega) (by omega)) (by decide) (by decide)
theorem S_X11_falls_L23 {b : Nat → Bool} : ∀ (n : Nat) {l0 : Nat} {l1 : Int32} {l2 : Int32} {M : gM}, q_HT 0 M → (q_Kd M l0 (11, 0)) → (0 ≤ l1.toInt ∧ l1.toInt ≤ 6) → (0 ≤ l2.toInt ∧ l2.toInt ≤ 7) → 7 - l2.toInt < (n : Int) → Ok (F_X11_falls_L23 n (some l0) l1 l2 M) (q_PI b M (-2147483648) (2147483647)) := by
  intro n
  induction n with
  | zero =>
    intro l0 l1 l2 M H K_l0 h_l1 h_l2  hm
    exfalso
    omega
  | succ n ih =>
    intro l0 l1 l2 M H K_l0 h_l1 h_l2  hm
    exact S_X11_falls_b23 (b := b) (m23 := 7 - l2.toInt) (fun H K_l0 h_l1 h_l2  hmz => ih H K_l0 h_l1 h_l2  (by omega)) H K_l0 h_l1 h_l2  (Int.le_refl _)
theorem S_X11_falls_b0 {b : Nat → Bool} {l0 : Nat} {l1 : Int32} {M : gM} (H : q_HT 0 M) (K_l0 : q_Kd M l0 (11, 0)) : Ok (F_X11_falls_b0 (some l0) l1 M) (q_PI b M (-2147483648) (2147483647)) := by
  delta F_X11_falls_b0
  refine c_gO K_l0 ?_
  refine Ok_b (S_X11_isHeir H K_l0) (fun v2 e_v2 => ?_)
  obtain ⟨e_v2, w_v2⟩ := e_v2
  refine Ok_i (fun c_1 => ?_) (fun c_1 => ?_)
  · skip
    replace c_1 := i_eq c_1
    rw [L_0] at c_1
    exact r_PI (i_rng _) H (q_rf _ _)
  · skip
    replace c_1 := i_ne c_1
    rw [L_0] at c_1
    have x_v2 := w_v2 (by omega)
    refine d_gR (q := (8, 0)) H K_l0 (by decide) rfl (fun v3 r_v3 K_v3 => ?_)
    refine d_gR (q := (8, 0)) H K_l0 (by decide) rfl (fun v4 r_v4 K_v4 => ?_)
    refine c_gO K_v3 ?_
    refine Ok_b (S_X8_copy (b := b) H K_v3 K_v4) (fun M6 zM6 => ?_)
    obtain ⟨HM6, fM6⟩ := zM6
    have K_2 := (q_mo K_l0 (by decide) fM6)
    exact w_PI fM6 (S_X11_falls_L23 (b := b)  g_fuel HM6 K_2 (by omega) (by decide) (q_fu (by rw [L_0]; omega))) (by decide) (by decide)
theorem S_X11_falls {b : Nat → Bool} {l0 : Nat} {l1 : Int32} {M : gM} (H : q_HT 0 M) (K_l0 : q_Kd M l0 (11, 0)) : Ok (F_X11_falls (some l0) l1 M) (q_PI b M (-2147483648) (2147483647)) := by
  delta F_X11_falls
  exact w_PI (q_rf _ _) (S_X11_falls_b0 (b := b)  H K_l0) (by decide) (by decide)
theorem S_X8_heldTogether_b4 {k4 : Option Nat → Option Nat → Int32 → Int32 → Option Int32} {m4 : Int} {l0 : Nat} {l1 : Nat} {l2 : Int32} {l3 : Int32} {M : gM} (hk4 : ∀ {l0 : Nat} {l1 : Nat} {l2 : Int32} {l3 : Int32}, q_HT 0 M → (q_Kd M l0 (8, 0)) → (q_Kd M l1 (1, 0)) → (0 ≤ l3.toInt ∧ l3.toInt ≤ 7) → 7 - l3.toInt < m4 → Ok (k4 (some l0) (some l1) l2 l3) (q_pi (-2147483648) (2147483647))) (H : q_HT 0 M) (K_l0 : q_Kd M l0 (8, 0)) (K_l1 : q_Kd M l1 (1, 0)) (h_l3 : 0 ≤ l3.toInt ∧ l3.toInt ≤ 7) (hm4 : 7 - l3.toInt ≤ m4) : Ok (F_X8_heldTogether_b4 k4 M (some l0) (some l1) l2 l3) (q_pi (-2147483648) (2147483647)) := by
  delta F_X8_heldTogether_b4
  refine d_gI (lo := 0) (hi := 7) H K_l1 (by decide) rfl (fun v1 q_v1 e_v1 => ?_)
  refine Ok_i (fun c_1 => ?_) (fun c_1 => ?_)
  · skip
    replace c_1 := i_le c_1
    exact r_pi (i_rng _)
  · skip
    replace c_1 := i_nle c_1
    refine c_gO K_l0 ?_
    refine Ok_b (S_X8_holdersOf H K_l0 K_l1 (by omega)) (fun v3 e_v3 => ?_)
    clear e_v3
    refine Ok_b (S_J6_bitCount_0f7a4 H) (fun v4 e_v4 => ?_)
    replace e_v4 := q_un e_v4
    have a_2 := i_addc (x := l3) (c := 1) L_1 (by omega) (by omega)
    exact w_pi (hk4 H K_l0 K_l1 (by omega) (by omega)) (by decide) (by decide)
theorem S_X8_heldTogether_L4 {M : gM} : ∀ (n : Nat) {l0 : Nat} {l1 : Nat} {l2 : Int32} {l3 : Int32}, q_HT 0 M → (q_Kd M l0 (8, 0)) → (q_Kd M l1 (1, 0)) → (0 ≤ l3.toInt ∧ l3.toInt ≤ 7) → 7 - l3.toInt < (n : Int) → Ok (F_X8_heldTogether_L4 M n (some l0) (some l1) l2 l3) (q_pi (-2147483648) (2147483647)) := by
  intro n
  induction n with
  | zero =>
    intro l0 l1 l2 l3 H K_l0 K_l1 h_l3  hm
    exfalso
    omega
  | succ n ih =>
    intro l0 l1 l2 l3 H K_l0 K_l1 h_l3  hm
    exact S_X8_heldTogether_b4 (m4 := 7 - l3.toInt) (fun H K_l0 K_l1 h_l3  hmz => ih H K_l0 K_l1 h_l3  (by omega)) H K_l0 K_l1 h_l3  (Int.le_refl _)
theorem S_X8_heldTogether_b0 {l0 : Nat} {l1 : Nat} {M : gM} (H : q_HT 0 M) (K_l0 : q_Kd M l0 (8, 0)) (K_l1 : q_Kd M l1 (1, 0)) : Ok (F_X8_heldTogether_b0 M (some l0) (some l1)) (q_pi (-2147483648) (2147483647)) := by
  delta F_X8_heldTogether_b0
  exact w_pi (S_X8_heldTogether_L4  g_fuel H K_l0 K_l1 (by decide) (q_fu (by rw [L_0]; omega))) (by decide) (by decide)
theorem S_X8_heldTogether {l0 : Nat} {l1 : Nat} {M : gM} (H : q_HT 0 M) (K_l0 : q_Kd M l0 (8, 0)) (K_l1 : q_Kd M l1 (1, 0)) : Ok (F_X8_heldTogether (some l0) (some l1) M) (q_pi (-2147483648) (2147483647)) := by
  delta F_X8_heldTogether
  exact w_pi (S_X8_heldTogether_b0  H K_l0 K_l1) (by decide) (by decide)
set_option maxHeartbeats 1000000 in
theorem S_X11_heldBehindAsk_b0 {b : Nat → Bool} {l0 : Nat} {l1 : Int32} {M : gM} (H : q_HT 0 M) (K_l0 : q_Kd M l0 (11, 0)) (h_l1 : 0 ≤ l1.toInt ∧ l1.toInt ≤ 48) : Ok (F_X11_heldBehindAsk_b0 (some l0) l1 M) (q_PI b M (-2147483648) (2147483647)) := by
  delta F_X11_heldBehindAsk_b0
  refine d_gR (q := (8, 0)) H K_l0 (by decide) rfl (fun v1 r_v1 K_v1 => ?_)
  refine d_gR (q := (8, 0)) H K_l0 (by decide) rfl (fun v2 r_v2 K_v2 => ?_)
  refine c_gO K_v1 ?_
  refine Ok_b (S_X8_copy (b := b) H K_v1 K_v2) (fun M4 zM4 => ?_)
  obtain ⟨HM4, fM4⟩ := zM4
  have K_1 := (q_mo K_l0 (by decide) fM4)
  refine d_gR (q := (8, 0)) HM4 K_1 (by decide) rfl (fun v5 r_v5 K_v5 => ?_)
  refine d_gR (q := (1, 0)) HM4 K_1 (by decide) rfl (fun v6 r_v6 K_v6 => ?_)
  refine c_gO K_v5 ?_
  have a_2 := i_div (x := l1) (c := (7 : Int32)) (n := 7) L_7 (by decide) (by omega)
  have a_3 := i_mod (x := l1) (c := (7 : Int32)) (n := 7) L_7 (by decide) (by omega)
  refine Ok_b (S_X8_isAsked (b := b) HM4 K_v5 K_v6 (by omega) (by omega)) (fun M8 zM8 => ?_)
  obtain ⟨HM8, fM8⟩ := zM8
  have g_4 := q_tr fM4 fM8
  have K_5 := (q_mo K_1 (by decide) fM8)
  refine d_gR (q := (8, 0)) HM8 K_5 (by decide) rfl (fun v9 r_v9 K_v9 => ?_)
  refine d_gR (q := (1, 0)) HM8 K_5 (by decide) rfl (fun v10 r_v10 K_v10 => ?_)
  refine c_gO K_v9 ?_
  refine Ok_b (S_X8_heldTogether HM8 K_v9 K_v10) (fun v12 e_v12 => ?_)
  clear e_v12
  exact r_PI (i_rng _) HM8 g_4
theorem S_X11_heldBehindAsk {b : Nat → Bool} {l0 : Nat} {l1 : Int32} {M : gM} (H : q_HT 0 M) (K_l0 : q_Kd M l0 (11, 0)) (h_l1 : 0 ≤ l1.toInt ∧ l1.toInt ≤ 48) : Ok (F_X11_heldBehindAsk (some l0) l1 M) (q_PI b M (-2147483648) (2147483647)) := by
  delta F_X11_heldBehindAsk
  exact w_PI (q_rf _ _) (S_X11_heldBehindAsk_b0 (b := b)  H K_l0 h_l1) (by decide) (by decide)
theorem S_X11_examine_b19 {b : Nat → Bool}  {M : gM} (H : q_HT 0 M) : Ok (F_X11_examine_b19 M) (q_PI b M (-2147483648) (2147483647)) := by
  delta F_X11_examine_b19
  exact r_PI (i_rng _) H (q_rf _ _)
theorem S_X11_examine_b41 {b : Nat → Bool}  {M : gM} (H : q_HT 0 M) : Ok (F_X11_examine_b41 M) (q_PI b M (-2147483648) (2147483647)) := by
  delta F_X11_examine_b41
  exact r_PI (i_rng _) H (q_rf _ _)
theorem S_X11_examine_b105 {b : Nat → Bool} {k55 : Option Nat → Int32 → Int32 → Int32 → Int32 → gM → Option (Int32 × gM)} {m55 : Int} {l0 : Nat} {l1 : Int32} {l2 : Int32} {l3 : Int32} {l4 : Int32} {M : gM} (hk55 : ∀ {l0 : Nat} {l1 : Int32} {l2 : Int32} {l3 : Int32} {l4 : Int32} {M : gM}, q_HT 0 M → (q_Kd M l0 (11, 0)) → (0 ≤ l1.toInt ∧ l1.toInt ≤ 2) → (0 ≤ l2.toInt ∧ l2.toInt ≤ 48) → (1 ≤ l4.toInt ∧ l4.toInt ≤ 49) → 49 - l4.toInt < m55 → Ok (k55 (some l0) l1 l2 l3 l4 M) (q_PI b M (-2147483648) (2147483647))) (H : q_HT 0 M) (K_l0 : q_Kd M l0 (11, 0)) (h_l1 : 0 ≤ l1.toInt ∧ l1.toInt ≤ 2) (h_l2 : 0 ≤ l2.toInt ∧ l2.toInt ≤ 48) (h_l4 : 1 ≤ l4.toInt ∧ l4.toInt ≤ 48) (hm55 : 49 - l4.toInt ≤ m55) : Ok (F_X11_examine_b105 k55 (some l0) l1 l2 l3 l4 M) (q_PI b M (-2147483648) (2147483647)) := by
  delta F_X11_examine_b105
  have a_1 := i_addc (x := l4) (c := 1) L_1 (by omega) (by omega)
  exact w_PI (q_rf _ _) (hk55 H K_l0 h_l1 h_l2 (by omega) (by omega)) (by decide) (by decide)
set_option maxHeartbeats 1000000 in
theorem S_X11_examine_b55 {b : Nat → Bool} {k55 : Option Nat → Int32 → Int32 → Int32 → Int32 → gM → Option (Int32 × gM)} {m55 : Int} {l0 : Nat} {l1 : Int32} {l2 : Int32} {l3 : Int32} {l4 : Int32} {M : gM} (hk55 : ∀ {l0 : Nat} {l1 : Int32} {l2 : Int32} {l3 : Int32} {l4 : Int32} {M : gM}, q_HT 0 M → (q_Kd M l0 (11, 0)) → (0 ≤ l1.toInt ∧ l1.toInt ≤ 2) → (0 ≤ l2.toInt ∧ l2.toInt ≤ 48) → (1 ≤ l4.toInt ∧ l4.toInt ≤ 49) → 49 - l4.toInt < m55 → Ok (k55 (some l0) l1 l2 l3 l4 M) (q_PI b M (-2147483648) (2147483647))) (H : q_HT 0 M) (K_l0 : q_Kd M l0 (11, 0)) (h_l1 : 0 ≤ l1.toInt ∧ l1.toInt ≤ 2) (h_l2 : 0 ≤ l2.toInt ∧ l2.toInt ≤ 48) (h_l4 : 1 ≤ l4.toInt ∧ l4.toInt ≤ 49) (hm55 : 49 - l4.toInt ≤ m55) : Ok (F_X11_examine_b55 k55 (some l0) l1 l2 l3 l4 M) (q_PI b M (-2147483648) (2147483647)) := by
  delta F_X11_examine_b55
  refine d_gR (q := (1, 0)) H K_l0 (by decide) rfl (fun v1 r_v1 K_v1 => ?_)
  refine d_gI (lo := 0) (hi := 7) H K_v1 (by decide) rfl (fun v2 q_v2 e_v2 => ?_)
  have a_1 := i_mulR (x := v2) (c := (7 : Int32)) L_7 (by omega) (by omega)
  refine Ok_i (fun c_2 => ?_) (fun c_2 => ?_)
  · skip
    replace c_2 := i_le c_2
    refine Ok_i (fun c_3 => ?_) (fun c_3 => ?_)
    · skip
      replace c_3 := i_eq c_3
      rw [L_2] at c_3
      exact r_PI (i_rng _) H (q_rf _ _)
    · skip
      replace c_3 := i_ne c_3
      rw [L_2] at c_3
      refine Ok_i (fun c_4 => ?_) (fun c_4 => ?_)
      · skip
        replace c_4 := i_eq c_4
        rw [L_0] at c_4
        have a_5 := i_div (x := l2) (c := (7 : Int32)) (n := 7) L_7 (by decide) (by omega)
        exact r_PI (i_rng _) H (q_rf _ _)
      · skip
        replace c_4 := i_ne c_4
        rw [L_0] at c_4
        have a_6 := i_mod (x := l2) (c := (7 : Int32)) (n := 7) L_7 (by decide) (by omega)
        exact r_PI (i_rng _) H (q_rf _ _)
  · skip
    replace c_2 := i_nle c_2
    refine c_gRs K_l0 r_v1 ?_
    refine d_gI (lo := 0) (hi := 7) H K_v1 (by decide) rfl (fun v4 q_v4 e_v4 => ?_)
    have a_7 := i_mod (x := l4) (c := (7 : Int32)) (n := 7) L_7 (by decide) (by omega)
    refine Ok_i (fun c_8 => ?_) (fun c_8 => ?_)
    · skip
      replace c_8 := i_le c_8
      exact w_PI (q_rf _ _) (S_X11_examine_b105 (b := b) hk55 H K_l0 h_l1 h_l2 (by omega) (by omega)) (by decide) (by decide)
    · skip
      replace c_8 := i_nle c_8
      refine c_gO K_l0 ?_
      refine Ok_b (S_X11_heldBehindAsk (b := b) H K_l0 (by omega)) (fun yM7 zM7 => ?_)
      obtain ⟨v6, M7⟩ := yM7
      obtain ⟨e_v6, HM7, fM7⟩ := zM7
      try dsimp only at e_v6 HM7 fM7
      refine Ok_i (fun c_9 => ?_) (fun c_9 => ?_)
      · skip
        replace c_9 := i_le c_9
        have K_10 := (q_mo K_l0 (by decide) fM7)
        exact w_PI fM7 (S_X11_examine_b105 (b := b) hk55 HM7 K_10 h_l1 h_l2 (by omega) (by omega)) (by decide) (by decide)
      · skip
        replace c_9 := i_nle c_9
        have K_11 := (q_mo K_l0 (by decide) fM7)
        exact w_PI fM7 (S_X11_examine_b105 (b := b) hk55 HM7 K_11 h_l1 (by omega) (by omega) (by omega)) (by decide) (by decide)
theorem S_X11_examine_L55 {b : Nat → Bool} : ∀ (n : Nat) {l0 : Nat} {l1 : Int32} {l2 : Int32} {l3 : Int32} {l4 : Int32} {M : gM}, q_HT 0 M → (q_Kd M l0 (11, 0)) → (0 ≤ l1.toInt ∧ l1.toInt ≤ 2) → (0 ≤ l2.toInt ∧ l2.toInt ≤ 48) → (1 ≤ l4.toInt ∧ l4.toInt ≤ 49) → 49 - l4.toInt < (n : Int) → Ok (F_X11_examine_L55 n (some l0) l1 l2 l3 l4 M) (q_PI b M (-2147483648) (2147483647)) := by
  intro n
  induction n with
  | zero =>
    intro l0 l1 l2 l3 l4 M H K_l0 h_l1 h_l2 h_l4  hm
    exfalso
    omega
  | succ n ih =>
    intro l0 l1 l2 l3 l4 M H K_l0 h_l1 h_l2 h_l4  hm
    exact S_X11_examine_b55 (b := b) (m55 := 49 - l4.toInt) (fun H K_l0 h_l1 h_l2 h_l4  hmz => ih H K_l0 h_l1 h_l2 h_l4  (by omega)) H K_l0 h_l1 h_l2 h_l4  (Int.le_refl _)
set_option maxHeartbeats 1000000 in
theorem S_X11_examine_b0 {b : Nat → Bool} {l0 : Nat} {l1 : Int32} {M : gM} (H : q_HT 0 M) (K_l0 : q_Kd M l0 (11, 0)) : Ok (F_X11_examine_b0 (some l0) l1 M) (q_PI b M (-2147483648) (2147483647)) := by
  delta F_X11_examine_b0
  refine Ok_i (fun c_1 => ?_) (fun c_1 => ?_)
  · skip
    replace c_1 := i_lt c_1
    rw [L_0] at c_1
    exact w_PI (q_rf _ _) (S_X11_examine_b19 (b := b)  H) (by decide) (by decide)
  · skip
    replace c_1 := i_nlt c_1
    rw [L_0] at c_1
    refine Ok_i (fun c_2 => ?_) (fun c_2 => ?_)
    · skip
      replace c_2 := i_lt c_2
      rw [L_2] at c_2
      exact w_PI (q_rf _ _) (S_X11_examine_b19 (b := b)  H) (by decide) (by decide)
    · skip
      replace c_2 := i_nlt c_2
      rw [L_2] at c_2
      refine d_gR (q := (1, 0)) H K_l0 (by decide) rfl (fun v1 r_v1 K_v1 => ?_)
      refine d_gI (lo := 0) (hi := 1) H K_v1 (by decide) rfl (fun v2 q_v2 e_v2 => ?_)
      refine Ok_i (fun c_3 => ?_) (fun c_3 => ?_)
      · skip
        replace c_3 := i_eq c_3
        rw [L_0] at c_3
        exact w_PI (q_rf _ _) (S_X11_examine_b19 (b := b)  H) (by decide) (by decide)
      · skip
        replace c_3 := i_ne c_3
        rw [L_0] at c_3
        refine c_gRs K_l0 r_v1 ?_
        refine d_gI (lo := 0) (hi := 7) H K_v1 (by decide) rfl (fun v4 q_v4 e_v4 => ?_)
        refine Ok_i (fun c_4 => ?_) (fun c_4 => ?_)
        · skip
          replace c_4 := i_eq c_4
          rw [L_0] at c_4
          exact w_PI (q_rf _ _) (S_X11_examine_b41 (b := b)  H) (by decide) (by decide)
        · skip
          replace c_4 := i_ne c_4
          rw [L_0] at c_4
          refine c_gRs K_l0 r_v1 ?_
          refine d_gI (lo := 0) (hi := 7) H K_v1 (by decide) rfl (fun v6 q_v6 e_v6 => ?_)
          refine Ok_i (fun c_5 => ?_) (fun c_5 => ?_)
          · skip
            replace c_5 := i_eq c_5
            rw [L_0] at c_5
            exact w_PI (q_rf _ _) (S_X11_examine_b41 (b := b)  H) (by decide) (by decide)
          · skip
            replace c_5 := i_ne c_5
            rw [L_0] at c_5
            refine c_gO K_l0 ?_
            refine Ok_b (S_X11_heldBehindAsk (b := b) H K_l0 (by decide)) (fun yM9 zM9 => ?_)
            obtain ⟨v8, M9⟩ := yM9
            obtain ⟨e_v8, HM9, fM9⟩ := zM9
            try dsimp only at e_v8 HM9 fM9
            have K_6 := (q_mo K_l0 (by decide) fM9)
            exact w_PI fM9 (S_X11_examine_L55 (b := b)  g_fuel HM9 K_6 (by omega) (by decide) (by decide) (q_fu (by rw [L_1]; omega))) (by decide) (by decide)
theorem S_X11_examine {b : Nat → Bool} {l0 : Nat} {l1 : Int32} {M : gM} (H : q_HT 0 M) (K_l0 : q_Kd M l0 (11, 0)) : Ok (F_X11_examine (some l0) l1 M) (q_PI b M (-2147483648) (2147483647)) := by
  delta F_X11_examine
  exact w_PI (q_rf _ _) (S_X11_examine_b0 (b := b)  H K_l0) (by decide) (by decide)
theorem S_X8_strengthAs_b47 {k6 : Option Nat → Option Nat → Int32 → Int32 → Int32 → Int32 → Option Int32} {m6 : Int} {l0 : Nat} {l1 : Nat} {l2 : Int32} {l3 : Int32} {l4 : Int32} {l5 : Int32} {M : gM} (hk6 : ∀ {l0 : Nat} {l1 : Nat} {l2 : Int32} {l3 : Int32} {l4 : Int32} {l5 : Int32}, q_HT 0 M → (q_Kd M l0 (8, 0)) → (q_Kd M l1 (1, 0)) → (0 ≤ l2.toInt ∧ l2.toInt ≤ 6) → (0 ≤ l3.toInt ∧ l3.toInt ≤ 10) → (0 ≤ l5.toInt ∧ l5.toInt ≤ 7) → 7 - l5.toInt < m6 → Ok (k6 (some l0) (some l1) l2 l3 l4 l5) (q_pi (-2147483648) (2147483647))) (H : q_HT 0 M) (K_l0 : q_Kd M l0 (8, 0)) (K_l1 : q_Kd M l1 (1, 0)) (h_l2 : 0 ≤ l2.toInt ∧ l2.toInt ≤ 6) (h_l3 : 0 ≤ l3.toInt ∧ l3.toInt ≤ 10) (h_l5 : 0 ≤ l5.toInt ∧ l5.toInt ≤ 6) (hm6 : 7 - l5.toInt ≤ m6) : Ok (F_X8_strengthAs_b47 k6 M (some l0) (some l1) l2 l3 l4 l5) (q_pi (-2147483648) (2147483647)) := by
  delta F_X8_strengthAs_b47
  have a_1 := i_addc (x := l5) (c := 1) L_1 (by omega) (by omega)
  exact w_pi (hk6 H K_l0 K_l1 h_l2 h_l3 (by omega) (by omega)) (by decide) (by decide)
theorem S_X8_strengthAs_b6 {k6 : Option Nat → Option Nat → Int32 → Int32 → Int32 → Int32 → Option Int32} {m6 : Int} {l0 : Nat} {l1 : Nat} {l2 : Int32} {l3 : Int32} {l4 : Int32} {l5 : Int32} {M : gM} (hk6 : ∀ {l0 : Nat} {l1 : Nat} {l2 : Int32} {l3 : Int32} {l4 : Int32} {l5 : Int32}, q_HT 0 M → (q_Kd M l0 (8, 0)) → (q_Kd M l1 (1, 0)) → (0 ≤ l2.toInt ∧ l2.toInt ≤ 6) → (0 ≤ l3.toInt ∧ l3.toInt ≤ 10) → (0 ≤ l5.toInt ∧ l5.toInt ≤ 7) → 7 - l5.toInt < m6 → Ok (k6 (some l0) (some l1) l2 l3 l4 l5) (q_pi (-2147483648) (2147483647))) (H : q_HT 0 M) (K_l0 : q_Kd M l0 (8, 0)) (K_l1 : q_Kd M l1 (1, 0)) (h_l2 : 0 ≤ l2.toInt ∧ l2.toInt ≤ 6) (h_l3 : 0 ≤ l3.toInt ∧ l3.toInt ≤ 10) (h_l5 : 0 ≤ l5.toInt ∧ l5.toInt ≤ 7) (hm6 : 7 - l5.toInt ≤ m6) : Ok (F_X8_strengthAs_b6 k6 M (some l0) (some l1) l2 l3 l4 l5) (q_pi (-2147483648) (2147483647)) := by
  delta F_X8_strengthAs_b6
  refine d_gI (lo := 0) (hi := 7) H K_l1 (by decide) rfl (fun v1 q_v1 e_v1 => ?_)
  refine Ok_i (fun c_1 => ?_) (fun c_1 => ?_)
  · skip
    replace c_1 := i_le c_1
    exact r_pi (i_rng _)
  · skip
    replace c_1 := i_nle c_1
    refine d_gR (q := (20, 49)) H K_l0 (by decide) rfl (fun v2 r_v2 K_v2 => ?_)
    have a_2 := i_mulR (x := l5) (c := (7 : Int32)) L_7 (by omega) (by omega)
    have a_3 := i_add (x := (l5 * (7 : Int32))) (y := l2) (by omega) (by omega)
    refine c_aI K_v2 (by omega) (by omega) (fun v3 => ?_)
    refine Ok_i (fun c_4 => ?_) (fun c_4 => ?_)
    · skip
      replace c_4 := i_eq c_4
      refine d_gR (q := (20, 49)) H K_l0 (by decide) rfl (fun v4 r_v4 K_v4 => ?_)
      refine c_aI K_v4 (by omega) (by omega) (fun v5 => ?_)
      exact w_pi (S_X8_strengthAs_b47 hk6 H K_l0 K_l1 h_l2 h_l3 (by omega) (by omega)) (by decide) (by decide)
    · skip
      replace c_4 := i_ne c_4
      exact w_pi (S_X8_strengthAs_b47 hk6 H K_l0 K_l1 h_l2 h_l3 (by omega) (by omega)) (by decide) (by decide)
theorem S_X8_strengthAs_L6 {M : gM} : ∀ (n : Nat) {l0 : Nat} {l1 : Nat} {l2 : Int32} {l3 : Int32} {l4 : Int32} {l5 : Int32}, q_HT 0 M → (q_Kd M l0 (8, 0)) → (q_Kd M l1 (1, 0)) → (0 ≤ l2.toInt ∧ l2.toInt ≤ 6) → (0 ≤ l3.toInt ∧ l3.toInt ≤ 10) → (0 ≤ l5.toInt ∧ l5.toInt ≤ 7) → 7 - l5.toInt < (n : Int) → Ok (F_X8_strengthAs_L6 M n (some l0) (some l1) l2 l3 l4 l5) (q_pi (-2147483648) (2147483647)) := by
  intro n
  induction n with
  | zero =>
    intro l0 l1 l2 l3 l4 l5 H K_l0 K_l1 h_l2 h_l3 h_l5  hm
    exfalso
    omega
  | succ n ih =>
    intro l0 l1 l2 l3 l4 l5 H K_l0 K_l1 h_l2 h_l3 h_l5  hm
    exact S_X8_strengthAs_b6 (m6 := 7 - l5.toInt) (fun H K_l0 K_l1 h_l2 h_l3 h_l5  hmz => ih H K_l0 K_l1 h_l2 h_l3 h_l5  (by omega)) H K_l0 K_l1 h_l2 h_l3 h_l5  (Int.le_refl _)
theorem S_X8_strengthAs_b0 {l0 : Nat} {l1 : Nat} {l2 : Int32} {l3 : Int32} {M : gM} (H : q_HT 0 M) (K_l0 : q_Kd M l0 (8, 0)) (K_l1 : q_Kd M l1 (1, 0)) (h_l2 : 0 ≤ l2.toInt ∧ l2.toInt ≤ 6) (h_l3 : 0 ≤ l3.toInt ∧ l3.toInt ≤ 9) : Ok (F_X8_strengthAs_b0 M (some l0) (some l1) l2 l3) (q_pi (-2147483648) (2147483647)) := by
  delta F_X8_strengthAs_b0
  exact w_pi (S_X8_strengthAs_L6  g_fuel H K_l0 K_l1 h_l2 (by omega) (by decide) (q_fu (by rw [L_0]; omega))) (by decide) (by decide)
theorem S_X8_strengthAs {l0 : Nat} {l1 : Nat} {l2 : Int32} {l3 : Int32} {M : gM} (H : q_HT 0 M) (K_l0 : q_Kd M l0 (8, 0)) (K_l1 : q_Kd M l1 (1, 0)) (h_l2 : 0 ≤ l2.toInt ∧ l2.toInt ≤ 6) (h_l3 : 0 ≤ l3.toInt ∧ l3.toInt ≤ 9) : Ok (F_X8_strengthAs (some l0) (some l1) l2 l3 M) (q_pi (-2147483648) (2147483647)) := by
  delta F_X8_strengthAs
  exact w_pi (S_X8_strengthAs_b0  H K_l0 K_l1 h_l2 h_l3) (by decide) (by decide)
theorem S_X11_likeliest_b17  {M : gM} (H : q_HT 0 M) : Ok (F_X11_likeliest_b17 M) (q_pi (-2147483648) (2147483647)) := by
  delta F_X11_likeliest_b17
  exact r_pi (i_rng _)
theorem S_X11_likeliest_b64 {k27 : Option Nat → Int32 → Int32 → Int32 → Int32 → Int32 → Option Int32} {m27 : Int} {l0 : Nat} {l1 : Int32} {l2 : Int32} {l3 : Int32} {l4 : Int32} {l5 : Int32} {M : gM} (hk27 : ∀ {l0 : Nat} {l1 : Int32} {l2 : Int32} {l3 : Int32} {l4 : Int32} {l5 : Int32}, q_HT 0 M → (q_Kd M l0 (11, 0)) → (0 ≤ l1.toInt ∧ l1.toInt ≤ 6) → (0 ≤ l2.toInt ∧ l2.toInt ≤ 1) → (-1 ≤ l3.toInt ∧ l3.toInt ≤ 10) → (0 ≤ l4.toInt) → (0 ≤ l5.toInt ∧ l5.toInt ≤ 10) → 10 - l5.toInt < m27 → Ok (k27 (some l0) l1 l2 l3 l4 l5) (q_pi (-2147483648) (2147483647))) (H : q_HT 0 M) (K_l0 : q_Kd M l0 (11, 0)) (h_l1 : 0 ≤ l1.toInt ∧ l1.toInt ≤ 6) (h_l2 : 0 ≤ l2.toInt ∧ l2.toInt ≤ 1) (h_l3 : -1 ≤ l3.toInt ∧ l3.toInt ≤ 10) (h_l4 : 0 ≤ l4.toInt) (h_l5 : 0 ≤ l5.toInt ∧ l5.toInt ≤ 9) (hm27 : 10 - l5.toInt ≤ m27) : Ok (F_X11_likeliest_b64 k27 M (some l0) l1 l2 l3 l4 l5) (q_pi (-2147483648) (2147483647)) := by
  delta F_X11_likeliest_b64
  have a_1 := i_addc (x := l5) (c := 1) L_1 (by omega) (by omega)
  exact w_pi (hk27 H K_l0 h_l1 h_l2 h_l3 (by omega) (by omega) (by omega)) (by decide) (by decide)
set_option maxHeartbeats 1000000 in
theorem S_X11_likeliest_b27 {k27 : Option Nat → Int32 → Int32 → Int32 → Int32 → Int32 → Option Int32} {m27 : Int} {l0 : Nat} {l1 : Int32} {l2 : Int32} {l3 : Int32} {l4 : Int32} {l5 : Int32} {M : gM} (hk27 : ∀ {l0 : Nat} {l1 : Int32} {l2 : Int32} {l3 : Int32} {l4 : Int32} {l5 : Int32}, q_HT 0 M → (q_Kd M l0 (11, 0)) → (0 ≤ l1.toInt ∧ l1.toInt ≤ 6) → (0 ≤ l2.toInt ∧ l2.toInt ≤ 1) → (-1 ≤ l3.toInt ∧ l3.toInt ≤ 10) → (0 ≤ l4.toInt) → (0 ≤ l5.toInt ∧ l5.toInt ≤ 10) → 10 - l5.toInt < m27 → Ok (k27 (some l0) l1 l2 l3 l4 l5) (q_pi (-2147483648) (2147483647))) (H : q_HT 0 M) (K_l0 : q_Kd M l0 (11, 0)) (h_l1 : 0 ≤ l1.toInt ∧ l1.toInt ≤ 6) (h_l2 : 0 ≤ l2.toInt ∧ l2.toInt ≤ 1) (h_l3 : -1 ≤ l3.toInt ∧ l3.toInt ≤ 10) (h_l4 : 0 ≤ l4.toInt) (h_l5 : 0 ≤ l5.toInt ∧ l5.toInt ≤ 10) (hm27 : 10 - l5.toInt ≤ m27) : Ok (F_X11_likeliest_b27 k27 M (some l0) l1 l2 l3 l4 l5) (q_pi (-2147483648) (2147483647)) := by
  delta F_X11_likeliest_b27
  refine Ok_i (fun c_1 => ?_) (fun c_1 => ?_)
  · skip
    replace c_1 := i_lt c_1
    rw [L_9] at c_1
    refine Ok_i (fun c_2 => ?_) (fun c_2 => ?_)
    · skip
      replace c_2 := i_eq c_2
      rw [L_m1] at c_2
      exact r_pi (i_rng _)
    · skip
      replace c_2 := i_ne c_2
      rw [L_m1] at c_2
      refine Ok_i (fun c_3 => ?_) (fun c_3 => ?_)
      · skip
        replace c_3 := i_eq c_3
        rw [L_0] at c_3
        exact r_pi (i_rng _)
      · skip
        replace c_3 := i_ne c_3
        rw [L_0] at c_3
        exact r_pi (i_rng _)
  · skip
    replace c_1 := i_nlt c_1
    rw [L_9] at c_1
    refine d_gR (q := (8, 0)) H K_l0 (by decide) rfl (fun v1 r_v1 K_v1 => ?_)
    refine d_gR (q := (1, 0)) H K_l0 (by decide) rfl (fun v2 r_v2 K_v2 => ?_)
    refine c_gO K_v1 ?_
    refine Ok_b (S_X8_strengthAs H K_v1 K_v2 h_l1 (by omega)) (fun v4 e_v4 => ?_)
    clear e_v4
    refine Ok_i (fun c_4 => ?_) (fun c_4 => ?_)
    · skip
      replace c_4 := i_le c_4
      exact w_pi (S_X11_likeliest_b64 hk27 H K_l0 h_l1 h_l2 h_l3 (by omega) (by omega) (by omega)) (by decide) (by decide)
    · skip
      replace c_4 := i_nle c_4
      exact w_pi (S_X11_likeliest_b64 hk27 H K_l0 h_l1 h_l2 (by omega) (by omega) (by omega) (by omega)) (by decide) (by decide)
theorem S_X11_likeliest_L27 {M : gM} : ∀ (n : Nat) {l0 : Nat} {l1 : Int32} {l2 : Int32} {l3 : Int32} {l4 : Int32} {l5 : Int32}, q_HT 0 M → (q_Kd M l0 (11, 0)) → (0 ≤ l1.toInt ∧ l1.toInt ≤ 6) → (0 ≤ l2.toInt ∧ l2.toInt ≤ 1) → (-1 ≤ l3.toInt ∧ l3.toInt ≤ 10) → (0 ≤ l4.toInt) → (0 ≤ l5.toInt ∧ l5.toInt ≤ 10) → 10 - l5.toInt < (n : Int) → Ok (F_X11_likeliest_L27 M n (some l0) l1 l2 l3 l4 l5) (q_pi (-2147483648) (2147483647)) := by
  intro n
  induction n with
  | zero =>
    intro l0 l1 l2 l3 l4 l5 H K_l0 h_l1 h_l2 h_l3 h_l4 h_l5  hm
    exfalso
    omega
  | succ n ih =>
    intro l0 l1 l2 l3 l4 l5 H K_l0 h_l1 h_l2 h_l3 h_l4 h_l5  hm
    exact S_X11_likeliest_b27 (m27 := 10 - l5.toInt) (fun H K_l0 h_l1 h_l2 h_l3 h_l4 h_l5  hmz => ih H K_l0 h_l1 h_l2 h_l3 h_l4 h_l5  (by omega)) H K_l0 h_l1 h_l2 h_l3 h_l4 h_l5  (Int.le_refl _)
set_option maxHeartbeats 1000000 in
theorem S_X11_likeliest_b0 {l0 : Nat} {l1 : Int32} {l2 : Int32} {M : gM} (H : q_HT 0 M) (K_l0 : q_Kd M l0 (11, 0)) : Ok (F_X11_likeliest_b0 M (some l0) l1 l2) (q_pi (-2147483648) (2147483647)) := by
  delta F_X11_likeliest_b0
  refine c_gO K_l0 ?_
  refine Ok_b (S_X11_isThing H K_l0) (fun v2 e_v2 => ?_)
  obtain ⟨e_v2, w_v2⟩ := e_v2
  refine Ok_i (fun c_1 => ?_) (fun c_1 => ?_)
  · skip
    replace c_1 := i_eq c_1
    rw [L_0] at c_1
    exact w_pi (S_X11_likeliest_b17  H) (by decide) (by decide)
  · skip
    replace c_1 := i_ne c_1
    rw [L_0] at c_1
    have x_v2 := w_v2 (by omega)
    refine Ok_i (fun c_2 => ?_) (fun c_2 => ?_)
    · skip
      replace c_2 := i_lt c_2
      rw [L_0] at c_2
      exact w_pi (S_X11_likeliest_b17  H) (by decide) (by decide)
    · skip
      replace c_2 := i_nlt c_2
      rw [L_0] at c_2
      refine Ok_i (fun c_3 => ?_) (fun c_3 => ?_)
      · skip
        replace c_3 := i_le c_3
        rw [L_1] at c_3
        exact w_pi (S_X11_likeliest_L27  g_fuel H K_l0 (by omega) (by omega) (by decide) (by decide) (by decide) (q_fu (by rw [L_0]; omega))) (by decide) (by decide)
      · skip
        replace c_3 := i_nle c_3
        rw [L_1] at c_3
        exact w_pi (S_X11_likeliest_b17  H) (by decide) (by decide)
theorem S_X11_likeliest {l0 : Nat} {l1 : Int32} {l2 : Int32} {M : gM} (H : q_HT 0 M) (K_l0 : q_Kd M l0 (11, 0)) : Ok (F_X11_likeliest (some l0) l1 l2 M) (q_pi (-2147483648) (2147483647)) := by
  delta F_X11_likeliest
  exact w_pi (S_X11_likeliest_b0  H K_l0) (by decide) (by decide)
theorem S_X8_knownUnlike_b123 {k6 : Option Nat → Option Nat → Int32 → Int32 → Int32 → Int32 → Option Int32} {m6 : Int} {l0 : Nat} {l1 : Nat} {l2 : Int32} {l3 : Int32} {l4 : Int32} {l5 : Int32} {M : gM} (hk6 : ∀ {l0 : Nat} {l1 : Nat} {l2 : Int32} {l3 : Int32} {l4 : Int32} {l5 : Int32}, q_HT 0 M → (q_Kd M l0 (8, 0)) → (q_Kd M l1 (1, 0)) → (0 ≤ l2.toInt ∧ l2.toInt ≤ 6) → (1 ≤ l3.toInt ∧ l3.toInt ≤ 6) → (0 ≤ l5.toInt ∧ l5.toInt ≤ 7) → 7 - l5.toInt < m6 → Ok (k6 (some l0) (some l1) l2 l3 l4 l5) (q_pi (-2147483648) (2147483647))) (H : q_HT 0 M) (K_l0 : q_Kd M l0 (8, 0)) (K_l1 : q_Kd M l1 (1, 0)) (h_l2 : 0 ≤ l2.toInt ∧ l2.toInt ≤ 6) (h_l3 : 1 ≤ l3.toInt ∧ l3.toInt ≤ 6) (h_l5 : 0 ≤ l5.toInt ∧ l5.toInt ≤ 6) (hm6 : 7 - l5.toInt ≤ m6) : Ok (F_X8_knownUnlike_b123 k6 M (some l0) (some l1) l2 l3 l4 l5) (q_pi (-2147483648) (2147483647)) := by
  delta F_X8_knownUnlike_b123
  have a_1 := i_addc (x := l5) (c := 1) L_1 (by omega) (by omega)
  exact w_pi (hk6 H K_l0 K_l1 h_l2 h_l3 (by omega) (by omega)) (by decide) (by decide)
theorem S_X8_knownUnlike_b114 {k6 : Option Nat → Option Nat → Int32 → Int32 → Int32 → Int32 → Option Int32} {m6 : Int} {l0 : Nat} {l1 : Nat} {l2 : Int32} {l3 : Int32} {l4 : Int32} {l5 : Int32} {M : gM} (hk6 : ∀ {l0 : Nat} {l1 : Nat} {l2 : Int32} {l3 : Int32} {l4 : Int32} {l5 : Int32}, q_HT 0 M → (q_Kd M l0 (8, 0)) → (q_Kd M l1 (1, 0)) → (0 ≤ l2.toInt ∧ l2.toInt ≤ 6) → (1 ≤ l3.toInt ∧ l3.toInt ≤ 6) → (0 ≤ l5.toInt ∧ l5.toInt ≤ 7) → 7 - l5.toInt < m6 → Ok (k6 (some l0) (some l1) l2 l3 l4 l5) (q_pi (-2147483648) (2147483647))) (H : q_HT 0 M) (K_l0 : q_Kd M l0 (8, 0)) (K_l1 : q_Kd M l1 (1, 0)) (h_l2 : 0 ≤ l2.toInt ∧ l2.toInt ≤ 6) (h_l3 : 1 ≤ l3.toInt ∧ l3.toInt ≤ 6) (h_l5 : 0 ≤ l5.toInt ∧ l5.toInt ≤ 6) (hm6 : 7 - l5.toInt ≤ m6) : Ok (F_X8_knownUnlike_b114 k6 M (some l0) (some l1) l2 l3 l4 l5) (q_pi (-2147483648) (2147483647)) := by
  delta F_X8_knownUnlike_b114
  exact w_pi (S_X8_knownUnlike_b123 hk6 H K_l0 K_l1 h_l2 h_l3 h_l5 (by omega)) (by decide) (by decide)
set_option maxHeartbeats 1000000 in
theorem S_X8_knownUnlike_b85 {k6 : Option Nat → Option Nat → Int32 → Int32 → Int32 → Int32 → Option Int32} {m6 : Int} {l0 : Nat} {l1 : Nat} {l2 : Int32} {l3 : Int32} {l4 : Int32} {l5 : Int32} {l6 : Int32} {l7 : Int32} {l8 : Int32} {s0 : Int32} {M : gM} (hk6 : ∀ {l0 : Nat} {l1 : Nat} {l2 : Int32} {l3 : Int32} {l4 : Int32} {l5 : Int32}, q_HT 0 M → (q_Kd M l0 (8, 0)) → (q_Kd M l1 (1, 0)) → (0 ≤ l2.toInt ∧ l2.toInt ≤ 6) → (1 ≤ l3.toInt ∧ l3.toInt ≤ 6) → (0 ≤ l5.toInt ∧ l5.toInt ≤ 7) → 7 - l5.toInt < m6 → Ok (k6 (some l0) (some l1) l2 l3 l4 l5) (q_pi (-2147483648) (2147483647))) (H : q_HT 0 M) (K_l0 : q_Kd M l0 (8, 0)) (K_l1 : q_Kd M l1 (1, 0)) (h_l2 : 0 ≤ l2.toInt ∧ l2.toInt ≤ 6) (h_l3 : 1 ≤ l3.toInt ∧ l3.toInt ≤ 6) (h_l5 : 0 ≤ l5.toInt ∧ l5.toInt ≤ 6) (h_l6 : 0 ≤ l6.toInt ∧ l6.toInt ≤ 48) (h_l7 : 7 ≤ l7.toInt ∧ l7.toInt ≤ 48) (h_l8 : 0 ≤ l8.toInt ∧ l8.toInt ≤ 1) (h_s0 : 0 ≤ s0.toInt ∧ s0.toInt ≤ 1) (hm6 : 7 - l5.toInt ≤ m6) : Ok (F_X8_knownUnlike_b85 k6 M (some l0) (some l1) l2 l3 l4 l5 l6 l7 l8 s0) (q_pi (-2147483648) (2147483647)) := by
  delta F_X8_knownUnlike_b85
  refine Ok_i (fun c_1 => ?_) (fun c_1 => ?_)
  · skip
    replace c_1 := i_eq c_1
    rw [L_0] at c_1
    refine Ok_i (fun c_2 => ?_) (fun c_2 => ?_)
    · skip
      replace c_2 := i_eq c_2
      rw [L_0] at c_2
      exact w_pi (S_X8_knownUnlike_b114 hk6 H K_l0 K_l1 h_l2 h_l3 h_l5 (by omega)) (by decide) (by decide)
    · skip
      replace c_2 := i_ne c_2
      rw [L_0] at c_2
      refine d_gR (q := (20, 49)) H K_l0 (by decide) rfl (fun v1 r_v1 K_v1 => ?_)
      refine c_aI K_v1 (by omega) (by omega) (fun v2 => ?_)
      refine c_gRs K_l0 r_v1 ?_
      refine c_aI K_v1 (by omega) (by omega) (fun v4 => ?_)
      refine Ok_i (fun c_3 => ?_) (fun c_3 => ?_)
      · skip
        replace c_3 := i_eq c_3
        exact w_pi (S_X8_knownUnlike_b123 hk6 H K_l0 K_l1 h_l2 h_l3 h_l5 (by omega)) (by decide) (by decide)
      · skip
        replace c_3 := i_ne c_3
        exact w_pi (S_X8_knownUnlike_b114 hk6 H K_l0 K_l1 h_l2 h_l3 h_l5 (by omega)) (by decide) (by decide)
  · skip
    replace c_1 := i_ne c_1
    rw [L_0] at c_1
    exact w_pi (S_X8_knownUnlike_b123 hk6 H K_l0 K_l1 h_l2 h_l3 h_l5 (by omega)) (by decide) (by decide)
theorem S_X8_knownUnlike_b84 {k6 : Option Nat → Option Nat → Int32 → Int32 → Int32 → Int32 → Option Int32} {m6 : Int} {l0 : Nat} {l1 : Nat} {l2 : Int32} {l3 : Int32} {l4 : Int32} {l5 : Int32} {l6 : Int32} {l7 : Int32} {l8 : Int32} {M : gM} (hk6 : ∀ {l0 : Nat} {l1 : Nat} {l2 : Int32} {l3 : Int32} {l4 : Int32} {l5 : Int32}, q_HT 0 M → (q_Kd M l0 (8, 0)) → (q_Kd M l1 (1, 0)) → (0 ≤ l2.toInt ∧ l2.toInt ≤ 6) → (1 ≤ l3.toInt ∧ l3.toInt ≤ 6) → (0 ≤ l5.toInt ∧ l5.toInt ≤ 7) → 7 - l5.toInt < m6 → Ok (k6 (some l0) (some l1) l2 l3 l4 l5) (q_pi (-2147483648) (2147483647))) (H : q_HT 0 M) (K_l0 : q_Kd M l0 (8, 0)) (K_l1 : q_Kd M l1 (1, 0)) (h_l2 : 0 ≤ l2.toInt ∧ l2.toInt ≤ 6) (h_l3 : 1 ≤ l3.toInt ∧ l3.toInt ≤ 6) (h_l5 : 0 ≤ l5.toInt ∧ l5.toInt ≤ 6) (h_l6 : 0 ≤ l6.toInt ∧ l6.toInt ≤ 48) (h_l7 : 7 ≤ l7.toInt ∧ l7.toInt ≤ 48) (h_l8 : 0 ≤ l8.toInt ∧ l8.toInt ≤ 1) (hm6 : 7 - l5.toInt ≤ m6) : Ok (F_X8_knownUnlike_b84 k6 M (some l0) (some l1) l2 l3 l4 l5 l6 l7 l8) (q_pi (-2147483648) (2147483647)) := by
  delta F_X8_knownUnlike_b84
  exact w_pi (S_X8_knownUnlike_b85 hk6 H K_l0 K_l1 h_l2 h_l3 h_l5 h_l6 h_l7 h_l8 (by decide) (by omega)) (by decide) (by decide)
set_option maxHeartbeats 1000000 in
theorem S_X8_knownUnlike_b58 {k6 : Option Nat → Option Nat → Int32 → Int32 → Int32 → Int32 → Option Int32} {m6 : Int} {l0 : Nat} {l1 : Nat} {l2 : Int32} {l3 : Int32} {l4 : Int32} {l5 : Int32} {l6 : Int32} {l7 : Int32} {s0 : Int32} {M : gM} (hk6 : ∀ {l0 : Nat} {l1 : Nat} {l2 : Int32} {l3 : Int32} {l4 : Int32} {l5 : Int32}, q_HT 0 M → (q_Kd M l0 (8, 0)) → (q_Kd M l1 (1, 0)) → (0 ≤ l2.toInt ∧ l2.toInt ≤ 6) → (1 ≤ l3.toInt ∧ l3.toInt ≤ 6) → (0 ≤ l5.toInt ∧ l5.toInt ≤ 7) → 7 - l5.toInt < m6 → Ok (k6 (some l0) (some l1) l2 l3 l4 l5) (q_pi (-2147483648) (2147483647))) (H : q_HT 0 M) (K_l0 : q_Kd M l0 (8, 0)) (K_l1 : q_Kd M l1 (1, 0)) (h_l2 : 0 ≤ l2.toInt ∧ l2.toInt ≤ 6) (h_l3 : 1 ≤ l3.toInt ∧ l3.toInt ≤ 6) (h_l5 : 0 ≤ l5.toInt ∧ l5.toInt ≤ 6) (h_l6 : 0 ≤ l6.toInt ∧ l6.toInt ≤ 48) (h_l7 : 7 ≤ l7.toInt ∧ l7.toInt ≤ 48) (h_s0 : 0 ≤ s0.toInt ∧ s0.toInt ≤ 1) (hm6 : 7 - l5.toInt ≤ m6) : Ok (F_X8_knownUnlike_b58 k6 M (some l0) (some l1) l2 l3 l4 l5 l6 l7 s0) (q_pi (-2147483648) (2147483647)) := by
  delta F_X8_knownUnlike_b58
  refine d_gR (q := (20, 49)) H K_l0 (by decide) rfl (fun v1 r_v1 K_v1 => ?_)
  refine c_aI K_v1 (by omega) (by omega) (fun v2 => ?_)
  refine Ok_i (fun c_1 => ?_) (fun c_1 => ?_)
  · skip
    replace c_1 := i_eq c_1
    rw [L_0] at c_1
    refine c_gRs K_l0 r_v1 ?_
    refine c_aI K_v1 (by omega) (by omega) (fun v4 => ?_)
    refine Ok_i (fun c_2 => ?_) (fun c_2 => ?_)
    · skip
      replace c_2 := i_eq c_2
      rw [L_0] at c_2
      exact w_pi (S_X8_knownUnlike_b85 hk6 H K_l0 K_l1 h_l2 h_l3 h_l5 h_l6 h_l7 h_s0 (by decide) (by omega)) (by decide) (by decide)
    · skip
      replace c_2 := i_ne c_2
      rw [L_0] at c_2
      exact w_pi (S_X8_knownUnlike_b84 hk6 H K_l0 K_l1 h_l2 h_l3 h_l5 h_l6 h_l7 h_s0 (by omega)) (by decide) (by decide)
  · skip
    replace c_1 := i_ne c_1
    rw [L_0] at c_1
    exact w_pi (S_X8_knownUnlike_b84 hk6 H K_l0 K_l1 h_l2 h_l3 h_l5 h_l6 h_l7 h_s0 (by omega)) (by decide) (by decide)
theorem S_X8_knownUnlike_b57 {k6 : Option Nat → Option Nat → Int32 → Int32 → Int32 → Int32 → Option Int32} {m6 : Int} {l0 : Nat} {l1 : Nat} {l2 : Int32} {l3 : Int32} {l4 : Int32} {l5 : Int32} {l6 : Int32} {l7 : Int32} {M : gM} (hk6 : ∀ {l0 : Nat} {l1 : Nat} {l2 : Int32} {l3 : Int32} {l4 : Int32} {l5 : Int32}, q_HT 0 M → (q_Kd M l0 (8, 0)) → (q_Kd M l1 (1, 0)) → (0 ≤ l2.toInt ∧ l2.toInt ≤ 6) → (1 ≤ l3.toInt ∧ l3.toInt ≤ 6) → (0 ≤ l5.toInt ∧ l5.toInt ≤ 7) → 7 - l5.toInt < m6 → Ok (k6 (some l0) (some l1) l2 l3 l4 l5) (q_pi (-2147483648) (2147483647))) (H : q_HT 0 M) (K_l0 : q_Kd M l0 (8, 0)) (K_l1 : q_Kd M l1 (1, 0)) (h_l2 : 0 ≤ l2.toInt ∧ l2.toInt ≤ 6) (h_l3 : 1 ≤ l3.toInt ∧ l3.toInt ≤ 6) (h_l5 : 0 ≤ l5.toInt ∧ l5.toInt ≤ 6) (h_l6 : 0 ≤ l6.toInt ∧ l6.toInt ≤ 48) (h_l7 : 7 ≤ l7.toInt ∧ l7.toInt ≤ 48) (hm6 : 7 - l5.toInt ≤ m6) : Ok (F_X8_knownUnlike_b57 k6 M (some l0) (some l1) l2 l3 l4 l5 l6 l7) (q_pi (-2147483648) (2147483647)) := by
  delta F_X8_knownUnlike_b57
  exact w_pi (S_X8_knownUnlike_b58 hk6 H K_l0 K_l1 h_l2 h_l3 h_l5 h_l6 h_l7 (by decide) (by omega)) (by decide) (by decide)
set_option maxHeartbeats 1000000 in
theorem S_X8_knownUnlike_b6 {k6 : Option Nat → Option Nat → Int32 → Int32 → Int32 → Int32 → Option Int32} {m6 : Int} {l0 : Nat} {l1 : Nat} {l2 : Int32} {l3 : Int32} {l4 : Int32} {l5 : Int32} {M : gM} (hk6 : ∀ {l0 : Nat} {l1 : Nat} {l2 : Int32} {l3 : Int32} {l4 : Int32} {l5 : Int32}, q_HT 0 M → (q_Kd M l0 (8, 0)) → (q_Kd M l1 (1, 0)) → (0 ≤ l2.toInt ∧ l2.toInt ≤ 6) → (1 ≤ l3.toInt ∧ l3.toInt ≤ 6) → (0 ≤ l5.toInt ∧ l5.toInt ≤ 7) → 7 - l5.toInt < m6 → Ok (k6 (some l0) (some l1) l2 l3 l4 l5) (q_pi (-2147483648) (2147483647))) (H : q_HT 0 M) (K_l0 : q_Kd M l0 (8, 0)) (K_l1 : q_Kd M l1 (1, 0)) (h_l2 : 0 ≤ l2.toInt ∧ l2.toInt ≤ 6) (h_l3 : 1 ≤ l3.toInt ∧ l3.toInt ≤ 6) (h_l5 : 0 ≤ l5.toInt ∧ l5.toInt ≤ 7) (hm6 : 7 - l5.toInt ≤ m6) : Ok (F_X8_knownUnlike_b6 k6 M (some l0) (some l1) l2 l3 l4 l5) (q_pi (-2147483648) (2147483647)) := by
  delta F_X8_knownUnlike_b6
  refine d_gI (lo := 0) (hi := 7) H K_l1 (by decide) rfl (fun v1 q_v1 e_v1 => ?_)
  refine Ok_i (fun c_1 => ?_) (fun c_1 => ?_)
  · skip
    replace c_1 := i_le c_1
    exact r_pi (i_rng _)
  · skip
    replace c_1 := i_nle c_1
    refine d_gR (q := (20, 49)) H K_l0 (by decide) rfl (fun v2 r_v2 K_v2 => ?_)
    have a_2 := i_mulR (x := l2) (c := (7 : Int32)) L_7 (by omega) (by omega)
    have a_3 := i_add (x := (l2 * (7 : Int32))) (y := l5) (by omega) (by omega)
    refine c_aI K_v2 (by omega) (by omega) (fun v3 => ?_)
    refine Ok_i (fun c_4 => ?_) (fun c_4 => ?_)
    · skip
      replace c_4 := i_le c_4
      rw [L_0] at c_4
      have a_5 := i_mulR (x := l3) (c := (7 : Int32)) L_7 (by omega) (by omega)
      have a_6 := i_add (x := (l3 * (7 : Int32))) (y := l5) (by omega) (by omega)
      exact w_pi (S_X8_knownUnlike_b57 hk6 H K_l0 K_l1 h_l2 h_l3 (by omega) (by omega) (by omega) (by omega)) (by decide) (by decide)
    · skip
      replace c_4 := i_nle c_4
      rw [L_0] at c_4
      refine c_gRs K_l0 r_v2 ?_
      have a_7 := i_mulR (x := l3) (c := (7 : Int32)) L_7 (by omega) (by omega)
      have a_8 := i_add (x := (l3 * (7 : Int32))) (y := l5) (by omega) (by omega)
      refine c_aI K_v2 (by omega) (by omega) (fun v5 => ?_)
      refine Ok_i (fun c_9 => ?_) (fun c_9 => ?_)
      · skip
        replace c_9 := i_le c_9
        rw [L_0] at c_9
        exact w_pi (S_X8_knownUnlike_b57 hk6 H K_l0 K_l1 h_l2 h_l3 (by omega) (by omega) (by omega) (by omega)) (by decide) (by decide)
      · skip
        replace c_9 := i_nle c_9
        rw [L_0] at c_9
        exact w_pi (S_X8_knownUnlike_b58 hk6 H K_l0 K_l1 h_l2 h_l3 (by omega) (by omega) (by omega) (by decide) (by omega)) (by decide) (by decide)
theorem S_X8_knownUnlike_L6 {M : gM} : ∀ (n : Nat) {l0 : Nat} {l1 : Nat} {l2 : Int32} {l3 : Int32} {l4 : Int32} {l5 : Int32}, q_HT 0 M → (q_Kd M l0 (8, 0)) → (q_Kd M l1 (1, 0)) → (0 ≤ l2.toInt ∧ l2.toInt ≤ 6) → (1 ≤ l3.toInt ∧ l3.toInt ≤ 6) → (0 ≤ l5.toInt ∧ l5.toInt ≤ 7) → 7 - l5.toInt < (n : Int) → Ok (F_X8_knownUnlike_L6 M n (some l0) (some l1) l2 l3 l4 l5) (q_pi (-2147483648) (2147483647)) := by
  intro n
  induction n with
  | zero =>
    intro l0 l1 l2 l3 l4 l5 H K_l0 K_l1 h_l2 h_l3 h_l5  hm
    exfalso
    omega
  | succ n ih =>
    intro l0 l1 l2 l3 l4 l5 H K_l0 K_l1 h_l2 h_l3 h_l5  hm
    exact S_X8_knownUnlike_b6 (m6 := 7 - l5.toInt) (fun H K_l0 K_l1 h_l2 h_l3 h_l5  hmz => ih H K_l0 K_l1 h_l2 h_l3 h_l5  (by omega)) H K_l0 K_l1 h_l2 h_l3 h_l5  (Int.le_refl _)
theorem S_X8_knownUnlike_b0 {l0 : Nat} {l1 : Nat} {l2 : Int32} {l3 : Int32} {M : gM} (H : q_HT 0 M) (K_l0 : q_Kd M l0 (8, 0)) (K_l1 : q_Kd M l1 (1, 0)) (h_l2 : 0 ≤ l2.toInt ∧ l2.toInt ≤ 6) (h_l3 : 1 ≤ l3.toInt ∧ l3.toInt ≤ 6) : Ok (F_X8_knownUnlike_b0 M (some l0) (some l1) l2 l3) (q_pi (-2147483648) (2147483647)) := by
  delta F_X8_knownUnlike_b0
  exact w_pi (S_X8_knownUnlike_L6  g_fuel H K_l0 K_l1 h_l2 h_l3 (by decide) (q_fu (by rw [L_0]; omega))) (by decide) (by decide)
theorem S_X8_knownUnlike {l0 : Nat} {l1 : Nat} {l2 : Int32} {l3 : Int32} {M : gM} (H : q_HT 0 M) (K_l0 : q_Kd M l0 (8, 0)) (K_l1 : q_Kd M l1 (1, 0)) (h_l2 : 0 ≤ l2.toInt ∧ l2.toInt ≤ 6) (h_l3 : 1 ≤ l3.toInt ∧ l3.toInt ≤ 6) : Ok (F_X8_knownUnlike (some l0) (some l1) l2 l3 M) (q_pi (-2147483648) (2147483647)) := by
  delta F_X8_knownUnlike
  exact w_pi (S_X8_knownUnlike_b0  H K_l0 K_l1 h_l2 h_l3) (by decide) (by decide)
theorem S_X11_fillUnlike_b83 {b : Nat → Bool} {k4 : Option Nat → Int32 → Int32 → Int32 → gM → Option (Int32 × gM)} {m4 : Int} {k20 : Option Nat → Int32 → Int32 → Int32 → Int32 → gM → Option (Int32 × gM)} {m20 : Int} {l0 : Nat} {l1 : Int32} {l2 : Int32} {l3 : Int32} {l4 : Int32} {M : gM} (hk4 : ∀ {l0 : Nat} {l1 : Int32} {l2 : Int32} {l3 : Int32} {M : gM}, q_HT 0 M → (q_Kd M l0 (11, 0)) → (0 ≤ l1.toInt ∧ l1.toInt ≤ 127) → (0 ≤ l2.toInt ∧ l2.toInt ≤ 21) → (0 ≤ l3.toInt ∧ l3.toInt ≤ 7) → 7 - l3.toInt < m4 → Ok (k4 (some l0) l1 l2 l3 M) (q_PI b M (0) (21))) (hk20 : ∀ {l0 : Nat} {l1 : Int32} {l2 : Int32} {l3 : Int32} {l4 : Int32} {M : gM}, q_HT 0 M → (q_Kd M l0 (11, 0)) → (0 ≤ l1.toInt ∧ l1.toInt ≤ 127) → (0 ≤ l2.toInt ∧ l2.toInt ≤ 21) → (0 ≤ l3.toInt ∧ l3.toInt ≤ 6) → (1 ≤ l4.toInt ∧ l4.toInt ≤ 7) → 7 - l3.toInt ≤ m4 → 7 - l4.toInt < m20 → Ok (k20 (some l0) l1 l2 l3 l4 M) (q_PI b M (0) (21))) (H : q_HT 0 M) (K_l0 : q_Kd M l0 (11, 0)) (h_l1 : 0 ≤ l1.toInt ∧ l1.toInt ≤ 127) (h_l2 : 0 ≤ l2.toInt ∧ l2.toInt ≤ 21) (h_l3 : 0 ≤ l3.toInt ∧ l3.toInt ≤ 6) (h_l4 : 1 ≤ l4.toInt ∧ l4.toInt ≤ 6) (hm4 : 7 - l3.toInt ≤ m4) (hm20 : 7 - l4.toInt ≤ m20) : Ok (F_X11_fillUnlike_b83 k4 k20 (some l0) l1 l2 l3 l4 M) (q_PI b M (0) (21)) := by
  delta F_X11_fillUnlike_b83
  have a_1 := i_addc (x := l4) (c := 1) L_1 (by omega) (by omega)
  exact w_PI (q_rf _ _) (hk20 H K_l0 h_l1 h_l2 h_l3 (by omega) (by omega) (by omega)) (by decide) (by decide)
set_option maxHeartbeats 1000000 in
theorem S_X11_fillUnlike_b20 {b : Nat → Bool} {k4 : Option Nat → Int32 → Int32 → Int32 → gM → Option (Int32 × gM)} {m4 : Int} {k20 : Option Nat → Int32 → Int32 → Int32 → Int32 → gM → Option (Int32 × gM)} {m20 : Int} {l0 : Nat} {l1 : Int32} {l2 : Int32} {l3 : Int32} {l4 : Int32} {M : gM} (hk4 : ∀ {l0 : Nat} {l1 : Int32} {l2 : Int32} {l3 : Int32} {M : gM}, q_HT 0 M → (q_Kd M l0 (11, 0)) → (0 ≤ l1.toInt ∧ l1.toInt ≤ 127) → (0 ≤ l2.toInt ∧ l2.toInt ≤ 21) → (0 ≤ l3.toInt ∧ l3.toInt ≤ 7) → 7 - l3.toInt < m4 → Ok (k4 (some l0) l1 l2 l3 M) (q_PI b M (0) (21))) (hk20 : ∀ {l0 : Nat} {l1 : Int32} {l2 : Int32} {l3 : Int32} {l4 : Int32} {M : gM}, q_HT 0 M → (q_Kd M l0 (11, 0)) → (0 ≤ l1.toInt ∧ l1.toInt ≤ 127) → (0 ≤ l2.toInt ∧ l2.toInt ≤ 21) → (0 ≤ l3.toInt ∧ l3.toInt ≤ 6) → (1 ≤ l4.toInt ∧ l4.toInt ≤ 7) → 7 - l3.toInt ≤ m4 → 7 - l4.toInt < m20 → Ok (k20 (some l0) l1 l2 l3 l4 M) (q_PI b M (0) (21))) (H : q_HT 0 M) (K_l0 : q_Kd M l0 (11, 0)) (h_l1 : 0 ≤ l1.toInt ∧ l1.toInt ≤ 127) (h_l2 : 0 ≤ l2.toInt ∧ l2.toInt ≤ 21) (h_l3 : 0 ≤ l3.toInt ∧ l3.toInt ≤ 6) (h_l4 : 1 ≤ l4.toInt ∧ l4.toInt ≤ 7) (hm4 : 7 - l3.toInt ≤ m4) (hm20 : 7 - l4.toInt ≤ m20) : Ok (F_X11_fillUnlike_b20 k4 k20 (some l0) l1 l2 l3 l4 M) (q_PI b M (0) (21)) := by
  delta F_X11_fillUnlike_b20
  refine d_gR (q := (1, 0)) H K_l0 (by decide) rfl (fun v1 r_v1 K_v1 => ?_)
  refine d_gI (lo := 0) (hi := 7) H K_v1 (by decide) rfl (fun v2 q_v2 e_v2 => ?_)
  refine Ok_i (fun c_1 => ?_) (fun c_1 => ?_)
  · skip
    replace c_1 := i_le c_1
    have a_2 := i_addc (x := l3) (c := 1) L_1 (by omega) (by omega)
    exact w_PI (q_rf _ _) (hk4 H K_l0 h_l1 h_l2 (by omega) (by omega)) (by decide) (by decide)
  · skip
    replace c_1 := i_nle c_1
    refine Ok_b (S_X11_bit H) (fun v3 e_v3 => ?_)
    replace e_v3 := q_un e_v3
    refine Ok_i (fun c_3 => ?_) (fun c_3 => ?_)
    · skip
      replace c_3 := i_eq c_3
      rw [L_1] at c_3
      refine Ok_b (S_X11_bit H) (fun v4 e_v4 => ?_)
      replace e_v4 := q_un e_v4
      refine Ok_i (fun c_4 => ?_) (fun c_4 => ?_)
      · skip
        replace c_4 := i_eq c_4
        rw [L_1] at c_4
        refine d_gR (q := (20, 21)) H K_l0 (by decide) rfl (fun v5 r_v5 K_v5 => ?_)
        refine c_aN K_v5 (by decide) (by decide) (fun v6 e_v6 => ?_)
        refine Ok_i (fun c_5 => ?_) (fun c_5 => ?_)
        · skip
          replace c_5 := i_le c_5
          exact w_PI (q_rf _ _) (S_X11_fillUnlike_b83 (b := b) hk4 hk20 H K_l0 h_l1 h_l2 h_l3 (by omega) (by omega) (by omega)) (by decide) (by decide)
        · skip
          replace c_5 := i_nle c_5
          refine c_gRs K_l0 r_v5 ?_
          refine d_gR (q := (8, 0)) H K_l0 (by decide) rfl (fun v8 r_v8 K_v8 => ?_)
          refine c_gRs K_l0 r_v1 ?_
          refine c_gO K_v8 ?_
          refine Ok_b (S_X8_knownUnlike H K_v8 K_v1 h_l3 (by omega)) (fun v11 e_v11 => ?_)
          clear e_v11
          refine c_sI (b := b) H K_v5 (by omega) (by omega) (fun M12 HM12 fM12 o_M12 rr_M12 => ?_)
          have q_6 := (congrFun (o_M12 _ (q_dn K_v1 K_v5 (Or.inl (Nat.le_of_ble_eq_true rfl)))) 7).trans q_v2
          have r_7 := (congrFun (congrFun rr_M12 _) 11).trans r_v1
          have r_8 := (congrFun (congrFun rr_M12 _) 9).trans r_v5
          have r_9 := (congrFun (congrFun rr_M12 _) 5).trans r_v8
          have K_10 := (q_mo K_l0 (by decide) fM12)
          have a_11 := i_addc (x := l2) (c := 1) L_1 (by omega) (by omega)
          exact w_PI fM12 (S_X11_fillUnlike_b83 (b := b) hk4 hk20 HM12 K_10 h_l1 (by omega) h_l3 (by omega) (by omega) (by omega)) (by decide) (by decide)
      · skip
        replace c_4 := i_ne c_4
        rw [L_1] at c_4
        exact w_PI (q_rf _ _) (S_X11_fillUnlike_b83 (b := b) hk4 hk20 H K_l0 h_l1 h_l2 h_l3 (by omega) (by omega) (by omega)) (by decide) (by decide)
    · skip
      replace c_3 := i_ne c_3
      rw [L_1] at c_3
      exact w_PI (q_rf _ _) (S_X11_fillUnlike_b83 (b := b) hk4 hk20 H K_l0 h_l1 h_l2 h_l3 (by omega) (by omega) (by omega)) (by decide) (by decide)
