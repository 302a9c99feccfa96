theorem S_X11_drawn {l0 : Nat} {l1 : Int32} {l2 : Int32} {l3 : Int32} {M : gM} (H : q_HT 0 M) (K_l0 : q_Kd M l0 (11, 0)) : Ok (F_X11_drawn (some l0) l1 l2 l3 M) (q_PI q_bn M (-2147483648) (2147483647)) := by
  delta F_X11_drawn
  exact w_PI (q_rf _ _) (S_X11_drawn_b0  H K_l0) (by decide) (by decide)
set_option maxHeartbeats 1000000 in
theorem S_X11_count_b0 {l0 : Nat} {l1 : Int32} {M : gM} (H : q_HT 0 M) (K_l0 : q_Kd M l0 (11, 0)) : Ok (F_X11_count_b0 M (some l0) l1) (q_pi (-2147483648) (2147483647)) := by
  delta F_X11_count_b0
  have z_m1 := L_m1
  have z_0 := L_0
  have z_1 := L_1
  have z_2 := L_2
  have z_3 := L_3
  have z_4 := L_4
  have z_5 := L_5
  have z_6 := L_6
  have z_7 := L_7
  have z_8 := L_8
  have z_9 := L_9
  have z_10 := L_10
  have z_11 := L_11
  refine Ok_i (fun c_1 => ?_) (fun c_1 => ?_)
  · skip
    replace c_1 := i_eq c_1
    refine d_gR (q := (1, 0)) H K_l0 (by decide) rfl (fun v1 r_v1 K_v1 => ?_)
    refine d_gI (lo := 0) (hi := 7) H K_v1 (by decide) rfl (fun v2 q_v2 e_v2 => ?_)
    exact r_pi (i_rng _)
  · skip
    replace c_1 := i_ne c_1
    refine Ok_i (fun c_2 => ?_) (fun c_2 => ?_)
    · skip
      replace c_2 := i_eq c_2
      refine d_gR (q := (1, 0)) H K_l0 (by decide) rfl (fun v3 r_v3 K_v3 => ?_)
      refine d_gI (lo := 0) (hi := 7) H K_v3 (by decide) rfl (fun v4 q_v4 e_v4 => ?_)
      exact r_pi (i_rng _)
    · skip
      replace c_2 := i_ne c_2
      refine Ok_i (fun c_3 => ?_) (fun c_3 => ?_)
      · skip
        replace c_3 := i_eq c_3
        refine d_gR (q := (1, 0)) H K_l0 (by decide) rfl (fun v5 r_v5 K_v5 => ?_)
        refine c_gIt K_v5 (fun v6 q_v6 => ?_)
        exact r_pi (i_rng _)
      · skip
        replace c_3 := i_ne c_3
        refine Ok_i (fun c_4 => ?_) (fun c_4 => ?_)
        · skip
          replace c_4 := i_eq c_4
          refine d_gI (lo := 0) (hi := 6) H K_l0 (by decide) rfl (fun v7 q_v7 e_v7 => ?_)
          exact r_pi (i_rng _)
        · skip
          replace c_4 := i_ne c_4
          refine Ok_i (fun c_5 => ?_) (fun c_5 => ?_)
          · skip
            replace c_5 := i_eq c_5
            refine c_gIt K_l0 (fun v8 q_v8 => ?_)
            exact r_pi (i_rng _)
          · skip
            replace c_5 := i_ne c_5
            refine Ok_i (fun c_6 => ?_) (fun c_6 => ?_)
            · skip
              replace c_6 := i_eq c_6
              refine d_gR (q := (8, 0)) H K_l0 (by decide) rfl (fun v9 r_v9 K_v9 => ?_)
              refine c_gIt K_v9 (fun v10 q_v10 => ?_)
              exact r_pi (i_rng _)
            · skip
              replace c_6 := i_ne c_6
              refine Ok_i (fun c_7 => ?_) (fun c_7 => ?_)
              · skip
                replace c_7 := i_eq c_7
                refine d_gR (q := (8, 0)) H K_l0 (by decide) rfl (fun v11 r_v11 K_v11 => ?_)
                refine c_gIt K_v11 (fun v12 q_v12 => ?_)
                exact r_pi (i_rng _)
              · skip
                replace c_7 := i_ne c_7
                refine Ok_i (fun c_8 => ?_) (fun c_8 => ?_)
                · skip
                  replace c_8 := i_eq c_8
                  refine d_gR (q := (8, 0)) H K_l0 (by decide) rfl (fun v13 r_v13 K_v13 => ?_)
                  refine d_gR (q := (1, 0)) H K_l0 (by decide) rfl (fun v14 r_v14 K_v14 => ?_)
                  refine c_gO K_v13 ?_
                  refine Ok_b (S_X8_standing H K_v13 K_v14) (fun v16 e_v16 => ?_)
                  exact r_pi (i_rng _)
                · skip
                  replace c_8 := i_ne c_8
                  refine Ok_i (fun c_9 => ?_) (fun c_9 => ?_)
                  · skip
                    replace c_9 := i_eq c_9
                    refine d_gR (q := (8, 0)) H K_l0 (by decide) rfl (fun v17 r_v17 K_v17 => ?_)
                    refine d_gR (q := (1, 0)) H K_l0 (by decide) rfl (fun v18 r_v18 K_v18 => ?_)
                    refine c_gO K_v17 ?_
                    refine Ok_b (S_X8_heldTogether H K_v17 K_v18) (fun v20 e_v20 => ?_)
                    exact r_pi (i_rng _)
                  · skip
                    replace c_9 := i_ne c_9
                    refine Ok_i (fun c_10 => ?_) (fun c_10 => ?_)
                    · skip
                      replace c_10 := i_eq c_10
                      refine d_gR (q := (4, 0)) H K_l0 (by decide) rfl (fun v21 r_v21 K_v21 => ?_)
                      refine d_gI (lo := 0) (hi := 20) H K_v21 (by decide) rfl (fun v22 q_v22 e_v22 => ?_)
                      exact r_pi (i_rng _)
                    · skip
                      replace c_10 := i_ne c_10
                      refine Ok_i (fun c_11 => ?_) (fun c_11 => ?_)
                      · skip
                        replace c_11 := i_eq c_11
                        refine d_gI (lo := 0) (hi := 2147483647) H K_l0 (by decide) rfl (fun v23 q_v23 e_v23 => ?_)
                        exact r_pi (i_rng _)
                      · skip
                        replace c_11 := i_ne c_11
                        refine Ok_i (fun c_12 => ?_) (fun c_12 => ?_)
                        · skip
                          replace c_12 := i_eq c_12
                          refine d_gR (q := (9, 0)) H K_l0 (by decide) rfl (fun v24 r_v24 K_v24 => ?_)
                          refine d_gI (lo := 0) (hi := 400) H K_v24 (by decide) rfl (fun v25 q_v25 e_v25 => ?_)
                          exact r_pi (i_rng _)
                        · skip
                          replace c_12 := i_ne c_12
                          exact r_pi (i_rng _)
theorem S_X11_count {l0 : Nat} {l1 : Int32} {M : gM} (H : q_HT 0 M) (K_l0 : q_Kd M l0 (11, 0)) : Ok (F_X11_count (some l0) l1 M) (q_pi (-2147483648) (2147483647)) := by
  delta F_X11_count
  exact w_pi (S_X11_count_b0  H K_l0) (by decide) (by decide)
