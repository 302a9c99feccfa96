theorem S_X11_heir {l0 : Nat} {l1 : Int32} {l2 : Int32} {M : gM} (H : q_HT 0 M) (K_l0 : q_Kd M l0 (11, 0)) : Ok (F_X11_heir (some l0) l1 l2 M) (q_pi (-2147483648) (2147483647)) := by
  delta F_X11_heir
  exact w_pi (S_X11_heir_b0  H K_l0) (by decide) (by decide)
set_option maxHeartbeats 1000000 in
theorem S_X11_thing_b0 {l0 : Nat} {l1 : Int32} {l2 : Int32} {M : gM} (H : q_HT 0 M) (K_l0 : q_Kd M l0 (11, 0)) : Ok (F_X11_thing_b0 M (some l0) l1 l2) (q_pi (-2147483648) (2147483647)) := by
  delta F_X11_thing_b0
  refine c_gO K_l0 ?_
  refine Ok_b (S_X11_isThing H K_l0) (fun v2 e_v2 => ?_)
  obtain ⟨e_v2, w_v2⟩ := e_v2
  refine Ok_i (fun c_1 => ?_) (fun c_1 => ?_)
  · skip
    replace c_1 := i_eq c_1
    rw [L_0] at c_1
    exact r_pi (i_rng _)
  · skip
    replace c_1 := i_ne c_1
    rw [L_0] at c_1
    have x_v2 := w_v2 (by omega)
    refine Ok_i (fun c_2 => ?_) (fun c_2 => ?_)
    · skip
      replace c_2 := i_eq c_2
      rw [L_0] at c_2
      refine d_gR (q := (1, 0)) H K_l0 (by decide) rfl (fun v3 r_v3 K_v3 => ?_)
      refine d_gR (q := (20, 7)) H K_v3 (by decide) rfl (fun v4 r_v4 K_v4 => ?_)
      refine c_aI K_v4 (by omega) (by omega) (fun v5 => ?_)
      exact r_pi (i_rng _)
    · skip
      replace c_2 := i_ne c_2
      rw [L_0] at c_2
      refine Ok_i (fun c_3 => ?_) (fun c_3 => ?_)
      · skip
        replace c_3 := i_eq c_3
        rw [L_1] at c_3
        refine d_gR (q := (1, 0)) H K_l0 (by decide) rfl (fun v6 r_v6 K_v6 => ?_)
        refine d_gR (q := (20, 7)) H K_v6 (by decide) rfl (fun v7 r_v7 K_v7 => ?_)
        refine c_aI K_v7 (by omega) (by omega) (fun v8 => ?_)
        exact r_pi (i_rng _)
      · skip
        replace c_3 := i_ne c_3
        rw [L_1] at c_3
        refine Ok_i (fun c_4 => ?_) (fun c_4 => ?_)
        · skip
          replace c_4 := i_eq c_4
          rw [L_2] at c_4
          refine d_gR (q := (1, 0)) H K_l0 (by decide) rfl (fun v9 r_v9 K_v9 => ?_)
          refine d_gR (q := (20, 7)) H K_v9 (by decide) rfl (fun v10 r_v10 K_v10 => ?_)
          refine c_aI K_v10 (by omega) (by omega) (fun v11 => ?_)
          exact r_pi (i_rng _)
        · skip
          replace c_4 := i_ne c_4
          rw [L_2] at c_4
          refine Ok_i (fun c_5 => ?_) (fun c_5 => ?_)
          · skip
            replace c_5 := i_eq c_5
            rw [L_3] at c_5
            refine d_gR (q := (1, 0)) H K_l0 (by decide) rfl (fun v12 r_v12 K_v12 => ?_)
            refine c_gIt K_v12 (fun v13 q_v13 => ?_)
            refine Ok_b (S_X11_bit H) (fun v14 e_v14 => ?_)
            replace e_v14 := q_un e_v14
            exact r_pi (i_rng _)
          · skip
            replace c_5 := i_ne c_5
            rw [L_3] at c_5
            refine Ok_i (fun c_6 => ?_) (fun c_6 => ?_)
            · skip
              replace c_6 := i_eq c_6
              rw [L_4] at c_6
              refine d_gR (q := (8, 0)) H K_l0 (by decide) rfl (fun v15 r_v15 K_v15 => ?_)
              refine c_gIt K_v15 (fun v16 q_v16 => ?_)
              refine Ok_b (S_X11_bit H) (fun v17 e_v17 => ?_)
              replace e_v17 := q_un e_v17
              exact r_pi (i_rng _)
            · skip
              replace c_6 := i_ne c_6
              rw [L_4] at c_6
              refine Ok_i (fun c_7 => ?_) (fun c_7 => ?_)
              · skip
                replace c_7 := i_eq c_7
                rw [L_5] at c_7
                refine d_gR (q := (8, 0)) H K_l0 (by decide) rfl (fun v18 r_v18 K_v18 => ?_)
                refine d_gR (q := (20, 7)) H K_v18 (by decide) rfl (fun v19 r_v19 K_v19 => ?_)
                refine c_aI K_v19 (by omega) (by omega) (fun v20 => ?_)
                exact r_pi (i_rng _)
              · skip
                replace c_7 := i_ne c_7
                rw [L_5] at c_7
                refine Ok_i (fun c_8 => ?_) (fun c_8 => ?_)
                · skip
                  replace c_8 := i_eq c_8
                  rw [L_6] at c_8
                  refine d_gR (q := (8, 0)) H K_l0 (by decide) rfl (fun v21 r_v21 K_v21 => ?_)
                  refine d_gR (q := (1, 0)) H K_l0 (by decide) rfl (fun v22 r_v22 K_v22 => ?_)
                  refine c_gO K_v21 ?_
                  refine Ok_b (S_X8_holdersOf H K_v21 K_v22 (by omega)) (fun v24 e_v24 => ?_)
                  clear e_v24
                  exact r_pi (i_rng _)
                · skip
                  replace c_8 := i_ne c_8
                  rw [L_6] at c_8
                  exact r_pi (i_rng _)
theorem S_X11_thing {l0 : Nat} {l1 : Int32} {l2 : Int32} {M : gM} (H : q_HT 0 M) (K_l0 : q_Kd M l0 (11, 0)) : Ok (F_X11_thing (some l0) l1 l2 M) (q_pi (-2147483648) (2147483647)) := by
  delta F_X11_thing
  exact w_pi (S_X11_thing_b0  H K_l0) (by decide) (by decide)
theorem S_X11_knows_b25  {M : gM} (H : q_HT 0 M) : Ok (F_X11_knows_b25 M) (q_pi (-2147483648) (2147483647)) := by
  delta F_X11_knows_b25
  exact r_pi (i_rng _)
set_option maxHeartbeats 1000000 in
theorem S_X11_knows_b0 {l0 : Nat} {l1 : Int32} {l2 : Int32} {l3 : Int32} {M : gM} (H : q_HT 0 M) (K_l0 : q_Kd M l0 (11, 0)) : Ok (F_X11_knows_b0 M (some l0) l1 l2 l3) (q_pi (-2147483648) (2147483647)) := by
  delta F_X11_knows_b0
  refine c_gO K_l0 ?_
  refine Ok_b (S_X11_isHeir H K_l0) (fun v2 e_v2 => ?_)
  obtain ⟨e_v2, w_v2⟩ := e_v2
  refine Ok_i (fun c_1 => ?_) (fun c_1 => ?_)
  · skip
    replace c_1 := i_eq c_1
    rw [L_0] at c_1
    exact w_pi (S_X11_knows_b25  H) (by decide) (by decide)
  · skip
    replace c_1 := i_ne c_1
    rw [L_0] at c_1
    have x_v2 := w_v2 (by omega)
    refine Ok_b (S_X11_isThing H K_l0) (fun v3 e_v3 => ?_)
    obtain ⟨e_v3, w_v3⟩ := e_v3
    refine Ok_i (fun c_2 => ?_) (fun c_2 => ?_)
    · skip
      replace c_2 := i_eq c_2
      rw [L_0] at c_2
      exact w_pi (S_X11_knows_b25  H) (by decide) (by decide)
    · skip
      replace c_2 := i_ne c_2
      rw [L_0] at c_2
      have x_v3 := w_v3 (by omega)
      refine Ok_i (fun c_3 => ?_) (fun c_3 => ?_)
      · skip
        replace c_3 := i_lt c_3
        rw [L_0] at c_3
        exact w_pi (S_X11_knows_b25  H) (by decide) (by decide)
      · skip
        replace c_3 := i_nlt c_3
        rw [L_0] at c_3
        refine Ok_i (fun c_4 => ?_) (fun c_4 => ?_)
        · skip
          replace c_4 := i_le c_4
          rw [L_1] at c_4
          refine d_gR (q := (8, 0)) H K_l0 (by decide) rfl (fun v4 r_v4 K_v4 => ?_)
          refine d_gR (q := (20, 49)) H K_v4 (by decide) rfl (fun v5 r_v5 K_v5 => ?_)
          have a_5 := i_mulR (x := l1) (c := (7 : Int32)) L_7 (by omega) (by omega)
          have a_6 := i_add (x := (l1 * (7 : Int32))) (y := l2) (by omega) (by omega)
          refine c_aI K_v5 (by omega) (by omega) (fun v6 => ?_)
          refine Ok_i (fun c_7 => ?_) (fun c_7 => ?_)
          · skip
            replace c_7 := i_eq c_7
            rw [L_0] at c_7
            refine Ok_i (fun c_8 => ?_) (fun c_8 => ?_)
            · skip
              replace c_8 := i_eq c_8
              rw [L_0] at c_8
              exact r_pi (i_rng _)
            · skip
              replace c_8 := i_ne c_8
              rw [L_0] at c_8
              exact r_pi (i_rng _)
          · skip
            replace c_7 := i_ne c_7
            rw [L_0] at c_7
            refine Ok_i (fun c_9 => ?_) (fun c_9 => ?_)
            · skip
              replace c_9 := i_eq c_9
              rw [L_0] at c_9
              refine c_gRs K_l0 r_v4 ?_
              refine d_gR (q := (20, 49)) H K_v4 (by decide) rfl (fun v11 r_v11 K_v11 => ?_)
              refine c_aI K_v11 (by omega) (by omega) (fun v12 => ?_)
              exact r_pi (i_rng _)
            · skip
              replace c_9 := i_ne c_9
              rw [L_0] at c_9
              refine c_gRs K_l0 r_v4 ?_
              refine c_gRs K_v4 r_v5 ?_
              refine c_aI K_v5 (by omega) (by omega) (fun v9 => ?_)
              exact r_pi (i_rng _)
        · skip
          replace c_4 := i_nle c_4
          rw [L_1] at c_4
          exact w_pi (S_X11_knows_b25  H) (by decide) (by decide)
theorem S_X11_knows {l0 : Nat} {l1 : Int32} {l2 : Int32} {l3 : Int32} {M : gM} (H : q_HT 0 M) (K_l0 : q_Kd M l0 (11, 0)) : Ok (F_X11_knows (some l0) l1 l2 l3 M) (q_pi (-2147483648) (2147483647)) := by
  delta F_X11_knows
  exact w_pi (S_X11_knows_b0  H K_l0) (by decide) (by decide)
set_option maxHeartbeats 1000000 in
theorem S_X4_keep_b0 {b : Nat → Bool} {l0 : Nat} {l1 : Nat} {M : gM} (H : q_HT 0 M) (K_l0 : q_Kd M l0 (4, 0)) (K_l1 : q_Kd M l1 (8, 0)) : Ok (F_X4_keep_b0 (some l0) (some l1) M) (q_PV b M) := by
  delta F_X4_keep_b0
  refine d_gR (q := (24, 20)) H K_l0 (by decide) rfl (fun v1 r_v1 K_v1 => ?_)
  refine d_gI (lo := 0) (hi := 19) H K_l0 (by decide) rfl (fun v2 q_v2 e_v2 => ?_)
  refine d_aR24 H K_v1 (by omega) (by omega) (fun v3 K_v3 => ?_)
  refine c_gO K_v3 ?_
  refine Ok_b (S_X8_copy (b := b) H K_v3 K_l1) (fun M5 zM5 => ?_)
  obtain ⟨HM5, fM5⟩ := zM5
  have K_1 := (q_mo K_l0 (by decide) fM5)
  refine d_gI (lo := 0) (hi := 19) HM5 K_1 (by decide) rfl (fun v6 q_v6 e_v6 => ?_)
  have a_2 := i_addc (x := v6) (c := (1 : Int32)) L_1 (by omega) (by omega)
  have a_3 := i_mod (x := (v6 + (1 : Int32))) (c := (20 : Int32)) (n := 20) L_20 (by decide) (by omega)
  refine c_pI (b := b) (lo := 0) (hi := 19) HM5 K_1 (by decide) rfl (by omega) rfl (fun M7 HM7 fM7 q_M7 o_M7 rr_M7 => ?_)
  have g_4 := q_tr fM5 fM7
  have K_5 := (q_mo K_1 (by decide) fM7)
  refine d_gI (lo := 0) (hi := 20) HM7 K_5 (by decide) rfl (fun v8 q_v8 e_v8 => ?_)
  have a_6 := i_addc (x := v8) (c := (1 : Int32)) L_1 (by omega) (by omega)
  have a_7 := i_min (x := (v8 + (1 : Int32))) (y := (20 : Int32))
  rw [L_20] at a_7
  refine c_pI (b := b) (lo := 0) (hi := 20) HM7 K_5 (by decide) rfl (by omega) rfl (fun M9 HM9 fM9 q_M9 o_M9 rr_M9 => ?_)
  have q_8 := (o_M9 _ _ (Or.inr (by decide))).trans q_M7
  have g_9 := q_tr g_4 fM9
  exact r_PV HM9 g_9
theorem S_X4_keep {b : Nat → Bool} {l0 : Nat} {l1 : Nat} {M : gM} (H : q_HT 0 M) (K_l0 : q_Kd M l0 (4, 0)) (K_l1 : q_Kd M l1 (8, 0)) : Ok (F_X4_keep (some l0) (some l1) M) (q_PV b M) := by
  delta F_X4_keep
  exact w_PV (q_rf _ _) (S_X4_keep_b0 (b := b)  H K_l0 K_l1)
theorem S_X11_ruleInForce_b30  {M : gM} (H : q_HT 0 M) : Ok (F_X11_ruleInForce_b30 M) (q_pn M (6, 0)) := by
  delta F_X11_ruleInForce_b30
  exact r_pn (Or.inl rfl)
set_option maxHeartbeats 1000000 in
theorem S_X11_ruleInForce_b0 {l0 : Nat} {M : gM} (H : q_HT 0 M) (K_l0 : q_Kd M l0 (11, 0)) : Ok (F_X11_ruleInForce_b0 M (some l0)) (q_pn M (6, 0)) := by
  delta F_X11_ruleInForce_b0
  refine c_gIt K_l0 (fun v1 q_v1 => ?_)
  refine Ok_i (fun c_1 => ?_) (fun c_1 => ?_)
  · skip
    replace c_1 := i_lt c_1
    rw [L_0] at c_1
    exact S_X11_ruleInForce_b30  H
  · skip
    replace c_1 := i_nlt c_1
    rw [L_0] at c_1
    refine c_gIs K_l0 q_v1 (fun v2 e_v2 => ?_)
    have t_v2 := congrArg Int32.toInt e_v2
    have q_v2 := q_v1.trans e_v2.symm
    refine d_gI (lo := 0) (hi := 6) H K_l0 (by decide) rfl (fun v3 q_v3 e_v3 => ?_)
    refine Ok_i (fun c_2 => ?_) (fun c_2 => ?_)
    · skip
      replace c_2 := i_le c_2
      exact S_X11_ruleInForce_b30  H
    · skip
      replace c_2 := i_nle c_2
      refine d_gR (q := (25, 6)) H K_l0 (by decide) rfl (fun v4 r_v4 K_v4 => ?_)
      refine c_gIs K_l0 q_v2 (fun v5 e_v5 => ?_)
      have t_v5 := congrArg Int32.toInt e_v5
      have q_v5 := q_v2.trans e_v5.symm
      refine d_aR25 H K_v4 (by omega) (by omega) (fun v6 K_v6 => ?_)
      exact r_pn K_v6
theorem S_X11_ruleInForce {l0 : Nat} {M : gM} (H : q_HT 0 M) (K_l0 : q_Kd M l0 (11, 0)) : Ok (F_X11_ruleInForce (some l0) M) (q_pn M (6, 0)) := by
  delta F_X11_ruleInForce
  exact S_X11_ruleInForce_b0  H K_l0
theorem S_X1_plainLoss_b47 {l0 : Nat} {l1 : Int32} {l3 : Int32} {l5 : Int32} {M : gM} (H : q_HT 0 M) (K_l0 : q_Kd M l0 (1, 0)) (h_l1 : 0 ≤ l1.toInt ∧ l1.toInt ≤ 6) : Ok (F_X1_plainLoss_b47 M (some l0) l1 l3 l5) (q_pi (-2147483648) (2147483647)) := by
  delta F_X1_plainLoss_b47
  refine c_gIt K_l0 (fun v1 q_v1 => ?_)
  refine Ok_b (S_X11_bit H) (fun v2 e_v2 => ?_)
  replace e_v2 := q_un e_v2
  refine Ok_i (fun c_1 => ?_) (fun c_1 => ?_)
  · skip
    replace c_1 := i_eq c_1
    rw [L_1] at c_1
    exact r_pi (i_rng _)
  · skip
    replace c_1 := i_ne c_1
    rw [L_1] at c_1
    exact r_pi (i_rng _)
theorem S_X1_plainLoss_b27 {l0 : Nat} {l1 : Int32} {l2 : Int32} {l3 : Int32} {s0 : Int32} {M : gM} (H : q_HT 0 M) (K_l0 : q_Kd M l0 (1, 0)) (h_l1 : 0 ≤ l1.toInt ∧ l1.toInt ≤ 6) (h_l2 : 0 ≤ l2.toInt ∧ l2.toInt ≤ 6) : Ok (F_X1_plainLoss_b27 M (some l0) l1 l2 l3 s0) (q_pi (-2147483648) (2147483647)) := by
  delta F_X1_plainLoss_b27
  refine c_gIt K_l0 (fun v1 q_v1 => ?_)
  refine Ok_b (S_X11_bit H) (fun v2 e_v2 => ?_)
  replace e_v2 := q_un e_v2
  refine Ok_i (fun c_1 => ?_) (fun c_1 => ?_)
  · skip
    replace c_1 := i_eq c_1
    rw [L_1] at c_1
    exact w_pi (S_X1_plainLoss_b47  H K_l0 h_l1) (by decide) (by decide)
  · skip
    replace c_1 := i_ne c_1
    rw [L_1] at c_1
    exact w_pi (S_X1_plainLoss_b47  H K_l0 h_l1) (by decide) (by decide)
theorem S_X1_plainLoss_b0 {l0 : Nat} {l1 : Int32} {l2 : Int32} {l3 : Int32} {l4 : Int32} {M : gM} (H : q_HT 0 M) (K_l0 : q_Kd M l0 (1, 0)) (h_l1 : 0 ≤ l1.toInt ∧ l1.toInt ≤ 6) (h_l2 : 0 ≤ l2.toInt ∧ l2.toInt ≤ 6) : Ok (F_X1_plainLoss_b0 M (some l0) l1 l2 l3 l4) (q_pi (-2147483648) (2147483647)) := by
  delta F_X1_plainLoss_b0
  refine Ok_b (S_X11_bit H) (fun v1 e_v1 => ?_)
  replace e_v1 := q_un e_v1
  refine Ok_i (fun c_1 => ?_) (fun c_1 => ?_)
  · skip
    replace c_1 := i_eq c_1
    rw [L_1] at c_1
    refine d_gR (q := (20, 7)) H K_l0 (by decide) rfl (fun v4 r_v4 K_v4 => ?_)
    refine c_aI K_v4 (by omega) (by omega) (fun v5 => ?_)
    exact w_pi (S_X1_plainLoss_b27  H K_l0 h_l1 h_l2) (by decide) (by decide)
  · skip
    replace c_1 := i_ne c_1
    rw [L_1] at c_1
    refine d_gR (q := (20, 7)) H K_l0 (by decide) rfl (fun v2 r_v2 K_v2 => ?_)
    refine c_aI K_v2 (by omega) (by omega) (fun v3 => ?_)
    exact w_pi (S_X1_plainLoss_b27  H K_l0 h_l1 h_l2) (by decide) (by decide)
theorem S_X1_plainLoss {l0 : Nat} {l1 : Int32} {l2 : Int32} {l3 : Int32} {l4 : Int32} {M : gM} (H : q_HT 0 M) (K_l0 : q_Kd M l0 (1, 0)) (h_l1 : 0 ≤ l1.toInt ∧ l1.toInt ≤ 6) (h_l2 : 0 ≤ l2.toInt ∧ l2.toInt ≤ 6) : Ok (F_X1_plainLoss (some l0) l1 l2 l3 l4 M) (q_pi (-2147483648) (2147483647)) := by
  delta F_X1_plainLoss
  exact w_pi (S_X1_plainLoss_b0  H K_l0 h_l1 h_l2) (by decide) (by decide)
theorem S_X8_knowersAs_b54 {k6 : Option Nat → Option Nat → Int32 → Int32 → Int32 → Int32 → Option Int32} {m6 : Int} {l0 : Nat} {l1 : Nat} {l2 : Int32} {l3 : Int32} {l4 : Int32} {l5 : Int32} {M : gM} (hk6 : ∀ {l0 : Nat} {l1 : Nat} {l2 : Int32} {l3 : Int32} {l4 : Int32} {l5 : Int32}, q_HT 0 M → (q_Kd M l0 (8, 0)) → (q_Kd M l1 (1, 0)) → (0 ≤ l2.toInt ∧ l2.toInt ≤ 6) → (0 ≤ l5.toInt ∧ l5.toInt ≤ 7) → 7 - l5.toInt < m6 → Ok (k6 (some l0) (some l1) l2 l3 l4 l5) (q_pi (-2147483648) (2147483647))) (H : q_HT 0 M) (K_l0 : q_Kd M l0 (8, 0)) (K_l1 : q_Kd M l1 (1, 0)) (h_l2 : 0 ≤ l2.toInt ∧ l2.toInt ≤ 6) (h_l5 : 0 ≤ l5.toInt ∧ l5.toInt ≤ 6) (hm6 : 7 - l5.toInt ≤ m6) : Ok (F_X8_knowersAs_b54 k6 M (some l0) (some l1) l2 l3 l4 l5) (q_pi (-2147483648) (2147483647)) := by
  delta F_X8_knowersAs_b54
  have a_1 := i_addc (x := l5) (c := 1) L_1 (by omega) (by omega)
  exact w_pi (hk6 H K_l0 K_l1 h_l2 (by omega) (by omega)) (by decide) (by decide)
set_option maxHeartbeats 1000000 in
theorem S_X8_knowersAs_b6 {k6 : Option Nat → Option Nat → Int32 → Int32 → Int32 → Int32 → Option Int32} {m6 : Int} {l0 : Nat} {l1 : Nat} {l2 : Int32} {l3 : Int32} {l4 : Int32} {l5 : Int32} {M : gM} (hk6 : ∀ {l0 : Nat} {l1 : Nat} {l2 : Int32} {l3 : Int32} {l4 : Int32} {l5 : Int32}, q_HT 0 M → (q_Kd M l0 (8, 0)) → (q_Kd M l1 (1, 0)) → (0 ≤ l2.toInt ∧ l2.toInt ≤ 6) → (0 ≤ l5.toInt ∧ l5.toInt ≤ 7) → 7 - l5.toInt < m6 → Ok (k6 (some l0) (some l1) l2 l3 l4 l5) (q_pi (-2147483648) (2147483647))) (H : q_HT 0 M) (K_l0 : q_Kd M l0 (8, 0)) (K_l1 : q_Kd M l1 (1, 0)) (h_l2 : 0 ≤ l2.toInt ∧ l2.toInt ≤ 6) (h_l5 : 0 ≤ l5.toInt ∧ l5.toInt ≤ 7) (hm6 : 7 - l5.toInt ≤ m6) : Ok (F_X8_knowersAs_b6 k6 M (some l0) (some l1) l2 l3 l4 l5) (q_pi (-2147483648) (2147483647)) := by
  delta F_X8_knowersAs_b6
  refine d_gI (lo := 0) (hi := 7) H K_l1 (by decide) rfl (fun v1 q_v1 e_v1 => ?_)
  refine Ok_i (fun c_1 => ?_) (fun c_1 => ?_)
  · skip
    replace c_1 := i_le c_1
    exact r_pi (i_rng _)
  · skip
    replace c_1 := i_nle c_1
    refine d_gR (q := (20, 49)) H K_l0 (by decide) rfl (fun v2 r_v2 K_v2 => ?_)
    have a_2 := i_mulR (x := l5) (c := (7 : Int32)) L_7 (by omega) (by omega)
    have a_3 := i_add (x := (l5 * (7 : Int32))) (y := l2) (by omega) (by omega)
    refine c_aI K_v2 (by omega) (by omega) (fun v3 => ?_)
    refine Ok_i (fun c_4 => ?_) (fun c_4 => ?_)
    · skip
      replace c_4 := i_le c_4
      rw [L_0] at c_4
      exact w_pi (S_X8_knowersAs_b54 hk6 H K_l0 K_l1 h_l2 (by omega) (by omega)) (by decide) (by decide)
    · skip
      replace c_4 := i_nle c_4
      rw [L_0] at c_4
      refine d_gR (q := (20, 49)) H K_l0 (by decide) rfl (fun v4 r_v4 K_v4 => ?_)
      refine c_aI K_v4 (by omega) (by omega) (fun v5 => ?_)
      refine Ok_i (fun c_5 => ?_) (fun c_5 => ?_)
      · skip
        replace c_5 := i_eq c_5
        exact w_pi (S_X8_knowersAs_b54 hk6 H K_l0 K_l1 h_l2 (by omega) (by omega)) (by decide) (by decide)
      · skip
        replace c_5 := i_ne c_5
        exact w_pi (S_X8_knowersAs_b54 hk6 H K_l0 K_l1 h_l2 (by omega) (by omega)) (by decide) (by decide)
theorem S_X8_knowersAs_L6 {M : gM} : ∀ (n : Nat) {l0 : Nat} {l1 : Nat} {l2 : Int32} {l3 : Int32} {l4 : Int32} {l5 : Int32}, q_HT 0 M → (q_Kd M l0 (8, 0)) → (q_Kd M l1 (1, 0)) → (0 ≤ l2.toInt ∧ l2.toInt ≤ 6) → (0 ≤ l5.toInt ∧ l5.toInt ≤ 7) → 7 - l5.toInt < (n : Int) → Ok (F_X8_knowersAs_L6 M n (some l0) (some l1) l2 l3 l4 l5) (q_pi (-2147483648) (2147483647)) := by
  intro n
  induction n with
  | zero =>
    intro l0 l1 l2 l3 l4 l5 H K_l0 K_l1 h_l2 h_l5  hm
    exfalso
    omega
  | succ n ih =>
    intro l0 l1 l2 l3 l4 l5 H K_l0 K_l1 h_l2 h_l5  hm
    exact S_X8_knowersAs_b6 (m6 := 7 - l5.toInt) (fun H K_l0 K_l1 h_l2 h_l5  hmz => ih H K_l0 K_l1 h_l2 h_l5  (by omega)) H K_l0 K_l1 h_l2 h_l5  (Int.le_refl _)
theorem S_X8_knowersAs_b0 {l0 : Nat} {l1 : Nat} {l2 : Int32} {l3 : Int32} {M : gM} (H : q_HT 0 M) (K_l0 : q_Kd M l0 (8, 0)) (K_l1 : q_Kd M l1 (1, 0)) (h_l2 : 0 ≤ l2.toInt ∧ l2.toInt ≤ 6) : Ok (F_X8_knowersAs_b0 M (some l0) (some l1) l2 l3) (q_pi (-2147483648) (2147483647)) := by
  delta F_X8_knowersAs_b0
  exact w_pi (S_X8_knowersAs_L6  g_fuel H K_l0 K_l1 h_l2 (by decide) (q_fu (by rw [L_0]; omega))) (by decide) (by decide)
theorem S_X8_knowersAs {l0 : Nat} {l1 : Nat} {l2 : Int32} {l3 : Int32} {M : gM} (H : q_HT 0 M) (K_l0 : q_Kd M l0 (8, 0)) (K_l1 : q_Kd M l1 (1, 0)) (h_l2 : 0 ≤ l2.toInt ∧ l2.toInt ≤ 6) : Ok (F_X8_knowersAs (some l0) (some l1) l2 l3 M) (q_pi (-2147483648) (2147483647)) := by
  delta F_X8_knowersAs
  exact w_pi (S_X8_knowersAs_b0  H K_l0 K_l1 h_l2) (by decide) (by decide)
theorem S_J6_bitCount_0f7a4_b0 {l0 : Int32} {M : gM} (H : q_HT 0 M) : Ok (F_J6_bitCount_0f7a4_b0 M l0) (q_pi (0) (63)) := by
  delta F_J6_bitCount_0f7a4_b0
  have a_1 := i_andc (a := (((((((l0 - (((l0).toUInt32 >>> (((1 : Int32)).toUInt32 &&& Int32.toUInt32 31)).toInt32 &&& (1431655765 : Int32))) &&& (858993459 : Int32)) + ((((l0 - (((l0).toUInt32 >>> (((1 : Int32)).toUInt32 &&& Int32.toUInt32 31)).toInt32 &&& (1431655765 : Int32)))).toUInt32 >>> (((2 : Int32)).toUInt32 &&& Int32.toUInt32 31)).toInt32 &&& (858993459 : Int32))) + (((((l0 - (((l0).toUInt32 >>> (((1 : Int32)).toUInt32 &&& Int32.toUInt32 31)).toInt32 &&& (1431655765 : Int32))) &&& (858993459 : Int32)) + ((((l0 - (((l0).toUInt32 >>> (((1 : Int32)).toUInt32 &&& Int32.toUInt32 31)).toInt32 &&& (1431655765 : Int32)))).toUInt32 >>> (((2 : Int32)).toUInt32 &&& Int32.toUInt32 31)).toInt32 &&& (858993459 : Int32)))).toUInt32 >>> (((4 : Int32)).toUInt32 &&& Int32.toUInt32 31)).toInt32) &&& (252645135 : Int32)) + (((((((l0 - (((l0).toUInt32 >>> (((1 : Int32)).toUInt32 &&& Int32.toUInt32 31)).toInt32 &&& (1431655765 : Int32))) &&& (858993459 : Int32)) + ((((l0 - (((l0).toUInt32 >>> (((1 : Int32)).toUInt32 &&& Int32.toUInt32 31)).toInt32 &&& (1431655765 : Int32)))).toUInt32 >>> (((2 : Int32)).toUInt32 &&& Int32.toUInt32 31)).toInt32 &&& (858993459 : Int32))) + (((((l0 - (((l0).toUInt32 >>> (((1 : Int32)).toUInt32 &&& Int32.toUInt32 31)).toInt32 &&& (1431655765 : Int32))) &&& (858993459 : Int32)) + ((((l0 - (((l0).toUInt32 >>> (((1 : Int32)).toUInt32 &&& Int32.toUInt32 31)).toInt32 &&& (1431655765 : Int32)))).toUInt32 >>> (((2 : Int32)).toUInt32 &&& Int32.toUInt32 31)).toInt32 &&& (858993459 : Int32)))).toUInt32 >>> (((4 : Int32)).toUInt32 &&& Int32.toUInt32 31)).toInt32) &&& (252645135 : Int32))).toUInt32 >>> (((8 : Int32)).toUInt32 &&& Int32.toUInt32 31)).toInt32) + ((((((((l0 - (((l0).toUInt32 >>> (((1 : Int32)).toUInt32 &&& Int32.toUInt32 31)).toInt32 &&& (1431655765 : Int32))) &&& (858993459 : Int32)) + ((((l0 - (((l0).toUInt32 >>> (((1 : Int32)).toUInt32 &&& Int32.toUInt32 31)).toInt32 &&& (1431655765 : Int32)))).toUInt32 >>> (((2 : Int32)).toUInt32 &&& Int32.toUInt32 31)).toInt32 &&& (858993459 : Int32))) + (((((l0 - (((l0).toUInt32 >>> (((1 : Int32)).toUInt32 &&& Int32.toUInt32 31)).toInt32 &&& (1431655765 : Int32))) &&& (858993459 : Int32)) + ((((l0 - (((l0).toUInt32 >>> (((1 : Int32)).toUInt32 &&& Int32.toUInt32 31)).toInt32 &&& (1431655765 : Int32)))).toUInt32 >>> (((2 : Int32)).toUInt32 &&& Int32.toUInt32 31)).toInt32 &&& (858993459 : Int32)))).toUInt32 >>> (((4 : Int32)).toUInt32 &&& Int32.toUInt32 31)).toInt32) &&& (252645135 : Int32)) + (((((((l0 - (((l0).toUInt32 >>> (((1 : Int32)).toUInt32 &&& Int32.toUInt32 31)).toInt32 &&& (1431655765 : Int32))) &&& (858993459 : Int32)) + ((((l0 - (((l0).toUInt32 >>> (((1 : Int32)).toUInt32 &&& Int32.toUInt32 31)).toInt32 &&& (1431655765 : Int32)))).toUInt32 >>> (((2 : Int32)).toUInt32 &&& Int32.toUInt32 31)).toInt32 &&& (858993459 : Int32))) + (((((l0 - (((l0).toUInt32 >>> (((1 : Int32)).toUInt32 &&& Int32.toUInt32 31)).toInt32 &&& (1431655765 : Int32))) &&& (858993459 : Int32)) + ((((l0 - (((l0).toUInt32 >>> (((1 : Int32)).toUInt32 &&& Int32.toUInt32 31)).toInt32 &&& (1431655765 : Int32)))).toUInt32 >>> (((2 : Int32)).toUInt32 &&& Int32.toUInt32 31)).toInt32 &&& (858993459 : Int32)))).toUInt32 >>> (((4 : Int32)).toUInt32 &&& Int32.toUInt32 31)).toInt32) &&& (252645135 : Int32))).toUInt32 >>> (((8 : Int32)).toUInt32 &&& Int32.toUInt32 31)).toInt32)).toUInt32 >>> (((16 : Int32)).toUInt32 &&& Int32.toUInt32 31)).toInt32)) (m := (63 : Int32)) (n := 63) rfl (by decide)
  exact r_pi (by omega)
theorem S_J6_bitCount_0f7a4 {l0 : Int32} {M : gM} (H : q_HT 0 M) : Ok (F_J6_bitCount_0f7a4 l0 M) (q_pi (0) (63)) := by
  delta F_J6_bitCount_0f7a4
  exact w_pi (S_J6_bitCount_0f7a4_b0  H) (by decide) (by decide)
set_option maxHeartbeats 1000000 in
theorem S_X5_look_b67 {b : Nat → Bool} {l0 : Nat} {l1 : Nat} {l2 : Nat} {l3 : Int32} {l4 : Int32} {l5 : Int32} {s0 : Nat} {s1 : Int32} {s2 : Int64} {M : gM} (H : q_HT 0 M) (K_l0 : q_Kd M l0 (5, 0)) (K_l1 : q_Kd M l1 (1, 0)) (K_l2 : q_Kd M l2 (8, 0)) (h_l3 : 0 ≤ l3.toInt ∧ l3.toInt ≤ 6) (h_l4 : 0 ≤ l4.toInt ∧ l4.toInt ≤ 6) (h_l5 : 0 ≤ l5.toInt ∧ l5.toInt ≤ 48) (K_s0 : q_Kd M s0 (21, 14)) (h_s1 : 3 ≤ s1.toInt ∧ s1.toInt ≤ 3) : Ok (F_X5_look_b67 (some l0) (some l1) (some l2) l3 l4 l5 (some s0) s1 s2 M) (q_PV b M) := by
  delta F_X5_look_b67
  refine c_sL (b := b) H K_s0 (by omega) (by omega) (fun M1 HM1 fM1 o_M1 rr_M1 => ?_)
  have K_1 := (q_mo K_l0 (by decide) fM1)
  refine d_gR (q := (21, 14)) HM1 K_1 (by decide) rfl (fun v2 r_v2 K_v2 => ?_)
  have K_2 := (q_mo K_l2 (by decide) fM1)
  refine d_gR (q := (20, 49)) HM1 K_2 (by decide) rfl (fun v3 r_v3 K_v3 => ?_)
  refine c_aI K_v3 (by omega) (by omega) (fun v4 => ?_)
  refine c_sL (b := b) HM1 K_v2 (by decide) (by decide) (fun M5 HM5 fM5 o_M5 rr_M5 => ?_)
  have r_3 := (congrFun (congrFun rr_M5 _) 1).trans r_v2
  have r_4 := (congrFun (congrFun rr_M5 _) 1).trans r_v3
  have g_5 := q_tr fM1 fM5
  have K_6 := (q_mo K_1 (by decide) fM5)
  refine c_gRs K_6 r_3 ?_
  have K_7 := (q_mo K_2 (by decide) fM5)
  refine d_gR (q := (20, 7)) HM5 K_7 (by decide) rfl (fun v7 r_v7 K_v7 => ?_)
  refine c_aI K_v7 (by omega) (by omega) (fun v8 => ?_)
  have K_8 := (q_mo K_v2 (by decide) fM5)
  refine c_sL (b := b) HM5 K_8 (by decide) (by decide) (fun M9 HM9 fM9 o_M9 rr_M9 => ?_)
  have r_9 := (congrFun (congrFun rr_M9 _) 1).trans r_3
  have r_10 := (congrFun (congrFun rr_M9 _) 1).trans r_4
  have r_11 := (congrFun (congrFun rr_M9 _) 2).trans r_v7
  have g_12 := q_tr g_5 fM9
  have K_13 := (q_mo K_6 (by decide) fM9)
  refine c_gRs K_13 r_9 ?_
  have K_14 := (q_mo (q_mo (q_mo K_l1 (by decide) fM1) (by decide) fM5) (by decide) fM9)
  refine c_gIt K_14 (fun v11 q_v11 => ?_)
  refine Ok_b (S_X11_bit HM9) (fun v12 e_v12 => ?_)
  replace e_v12 := q_un e_v12
  have K_15 := (q_mo (q_mo K_v2 (by decide) fM5) (by decide) fM9)
  refine c_sL (b := b) HM9 K_15 (by decide) (by decide) (fun M13 HM13 fM13 o_M13 rr_M13 => ?_)
  have q_16 := (congrFun (o_M13 _ (q_dn K_14 K_15 (Or.inl (Nat.le_of_ble_eq_true rfl)))) 10).trans q_v11
  have r_17 := (congrFun (congrFun rr_M13 _) 1).trans r_9
  have r_18 := (congrFun (congrFun rr_M13 _) 1).trans r_10
  have r_19 := (congrFun (congrFun rr_M13 _) 2).trans r_11
  have g_20 := q_tr g_12 fM13
  have K_21 := (q_mo K_13 (by decide) fM13)
  refine c_gRs K_21 r_17 ?_
  have K_22 := (q_mo K_14 (by decide) fM13)
  refine c_gIt K_22 (fun v15 q_v15 => ?_)
  refine Ok_b (S_X11_bit HM13) (fun v16 e_v16 => ?_)
  replace e_v16 := q_un e_v16
  have K_23 := (q_mo (q_mo (q_mo K_v2 (by decide) fM5) (by decide) fM9) (by decide) fM13)
  refine c_sL (b := b) HM13 K_23 (by decide) (by decide) (fun M17 HM17 fM17 o_M17 rr_M17 => ?_)
  have q_24 := (congrFun (o_M17 _ (q_dn K_22 K_23 (Or.inl (Nat.le_of_ble_eq_true rfl)))) 10).trans q_16
  have q_25 := (congrFun (o_M17 _ (q_dn K_22 K_23 (Or.inl (Nat.le_of_ble_eq_true rfl)))) 9).trans q_v15
  have r_26 := (congrFun (congrFun rr_M17 _) 1).trans r_17
  have r_27 := (congrFun (congrFun rr_M17 _) 1).trans r_18
  have r_28 := (congrFun (congrFun rr_M17 _) 2).trans r_19
  have g_29 := q_tr g_20 fM17
  have K_30 := (q_mo K_21 (by decide) fM17)
  refine c_gRs K_30 r_26 ?_
  have K_31 := (q_mo (q_mo (q_mo K_7 (by decide) fM9) (by decide) fM13) (by decide) fM17)
  refine c_gIt K_31 (fun v19 q_v19 => ?_)
  refine Ok_b (S_X11_bit HM17) (fun v20 e_v20 => ?_)
  replace e_v20 := q_un e_v20
  have K_32 := (q_mo (q_mo (q_mo (q_mo K_v2 (by decide) fM5) (by decide) fM9) (by decide) fM13) (by decide) fM17)
  refine c_sL (b := b) HM17 K_32 (by decide) (by decide) (fun M21 HM21 fM21 o_M21 rr_M21 => ?_)
  have K_34 := (q_mo K_22 (by decide) fM17)
  have q_33 := (congrFun (o_M21 _ (q_dn K_34 K_32 (Or.inl (Nat.le_of_ble_eq_true rfl)))) 10).trans q_24
  have q_35 := (congrFun (o_M21 _ (q_dn K_34 K_32 (Or.inl (Nat.le_of_ble_eq_true rfl)))) 9).trans q_25
  have q_36 := (congrFun (o_M21 _ (q_dn K_31 K_32 (Or.inl (Nat.le_of_ble_eq_true rfl)))) 4).trans q_v19
  have r_37 := (congrFun (congrFun rr_M21 _) 1).trans r_26
  have r_38 := (congrFun (congrFun rr_M21 _) 1).trans r_27
  have r_39 := (congrFun (congrFun rr_M21 _) 2).trans r_28
  have g_40 := q_tr g_29 fM21
  have K_41 := (q_mo K_30 (by decide) fM21)
  refine c_gRs K_41 r_37 ?_
  have K_42 := (q_mo K_34 (by decide) fM21)
  refine d_gR (q := (20, 7)) HM21 K_42 (by decide) rfl (fun v23 r_v23 K_v23 => ?_)
  refine c_aI K_v23 (by omega) (by omega) (fun v24 => ?_)
  have K_43 := (q_mo (q_mo (q_mo (q_mo (q_mo K_v2 (by decide) fM5) (by decide) fM9) (by decide) fM13) (by decide) fM17) (by decide) fM21)
  refine c_sL (b := b) HM21 K_43 (by decide) (by decide) (fun M25 HM25 fM25 o_M25 rr_M25 => ?_)
  have q_44 := (congrFun (o_M25 _ (q_dn K_42 K_43 (Or.inl (Nat.le_of_ble_eq_true rfl)))) 10).trans q_33
  have q_45 := (congrFun (o_M25 _ (q_dn K_42 K_43 (Or.inl (Nat.le_of_ble_eq_true rfl)))) 9).trans q_35
  have K_47 := (q_mo K_31 (by decide) fM21)
  have q_46 := (congrFun (o_M25 _ (q_dn K_47 K_43 (Or.inl (Nat.le_of_ble_eq_true rfl)))) 4).trans q_36
  have r_48 := (congrFun (congrFun rr_M25 _) 1).trans r_37
  have r_49 := (congrFun (congrFun rr_M25 _) 1).trans r_38
  have r_50 := (congrFun (congrFun rr_M25 _) 2).trans r_39
  have r_51 := (congrFun (congrFun rr_M25 _) 1).trans r_v23
  have g_52 := q_tr g_40 fM25
  have K_53 := (q_mo K_41 (by decide) fM25)
  refine c_gRs K_53 r_48 ?_
  have K_54 := (q_mo K_42 (by decide) fM25)
  refine d_gR (q := (20, 7)) HM25 K_54 (by decide) rfl (fun v27 r_v27 K_v27 => ?_)
  refine c_aI K_v27 (by omega) (by omega) (fun v28 => ?_)
  have K_55 := (q_mo (q_mo (q_mo (q_mo (q_mo (q_mo K_v2 (by decide) fM5) (by decide) fM9) (by decide) fM13) (by decide) fM17) (by decide) fM21) (by decide) fM25)
  refine c_sL (b := b) HM25 K_55 (by decide) (by decide) (fun M29 HM29 fM29 o_M29 rr_M29 => ?_)
  have q_56 := (congrFun (o_M29 _ (q_dn K_54 K_55 (Or.inl (Nat.le_of_ble_eq_true rfl)))) 10).trans q_44
  have q_57 := (congrFun (o_M29 _ (q_dn K_54 K_55 (Or.inl (Nat.le_of_ble_eq_true rfl)))) 9).trans q_45
  have K_59 := (q_mo K_47 (by decide) fM25)
  have q_58 := (congrFun (o_M29 _ (q_dn K_59 K_55 (Or.inl (Nat.le_of_ble_eq_true rfl)))) 4).trans q_46
  have r_60 := (congrFun (congrFun rr_M29 _) 1).trans r_48
  have r_61 := (congrFun (congrFun rr_M29 _) 1).trans r_49
  have r_62 := (congrFun (congrFun rr_M29 _) 2).trans r_50
  have r_63 := (congrFun (congrFun rr_M29 _) 1).trans r_51
  have r_64 := (congrFun (congrFun rr_M29 _) 2).trans r_v27
  have g_65 := q_tr g_52 fM29
  have K_66 := (q_mo K_53 (by decide) fM29)
  refine c_gRs K_66 r_60 ?_
  have K_67 := (q_mo K_59 (by decide) fM29)
  refine c_gIt K_67 (fun v31 q_v31 => ?_)
  have K_68 := (q_mo (q_mo (q_mo (q_mo (q_mo (q_mo (q_mo K_v2 (by decide) fM5) (by decide) fM9) (by decide) fM13) (by decide) fM17) (by decide) fM21) (by decide) fM25) (by decide) fM29)
  refine c_sL (b := b) HM29 K_68 (by decide) (by decide) (fun M32 HM32 fM32 o_M32 rr_M32 => ?_)
  have K_70 := (q_mo K_54 (by decide) fM29)
  have q_69 := (congrFun (o_M32 _ (q_dn K_70 K_68 (Or.inl (Nat.le_of_ble_eq_true rfl)))) 10).trans q_56
  have q_71 := (congrFun (o_M32 _ (q_dn K_70 K_68 (Or.inl (Nat.le_of_ble_eq_true rfl)))) 9).trans q_57
  have q_72 := (congrFun (o_M32 _ (q_dn K_67 K_68 (Or.inl (Nat.le_of_ble_eq_true rfl)))) 4).trans q_58
  have q_73 := (congrFun (o_M32 _ (q_dn K_67 K_68 (Or.inl (Nat.le_of_ble_eq_true rfl)))) 5).trans q_v31
  have r_74 := (congrFun (congrFun rr_M32 _) 1).trans r_60
  have r_75 := (congrFun (congrFun rr_M32 _) 1).trans r_61
  have r_76 := (congrFun (congrFun rr_M32 _) 2).trans r_62
  have r_77 := (congrFun (congrFun rr_M32 _) 1).trans r_63
  have r_78 := (congrFun (congrFun rr_M32 _) 2).trans r_64
  have g_79 := q_tr g_65 fM32
  have K_80 := (q_mo K_66 (by decide) fM32)
  refine c_gRs K_80 r_74 ?_
  have K_81 := (q_mo K_67 (by decide) fM32)
  refine d_gR (q := (20, 49)) HM32 K_81 (by decide) rfl (fun v34 r_v34 K_v34 => ?_)
  refine c_aI K_v34 (by omega) (by omega) (fun v35 => ?_)
  refine c_gO K_81 ?_
  have K_82 := (q_mo K_70 (by decide) fM32)
  refine Ok_b (S_X8_knowersAs HM32 K_81 K_82 h_l4) (fun v37 e_v37 => ?_)
  clear e_v37
  refine Ok_b (S_J6_bitCount_0f7a4 HM32) (fun v38 e_v38 => ?_)
  replace e_v38 := q_un e_v38
  have K_83 := (q_mo (q_mo (q_mo (q_mo (q_mo (q_mo (q_mo (q_mo K_v2 (by decide) fM5) (by decide) fM9) (by decide) fM13) (by decide) fM17) (by decide) fM21) (by decide) fM25) (by decide) fM29) (by decide) fM32)
  refine c_sL (b := b) HM32 K_83 (by decide) (by decide) (fun M39 HM39 fM39 o_M39 rr_M39 => ?_)
  have q_84 := (congrFun (o_M39 _ (q_dn K_82 K_83 (Or.inl (Nat.le_of_ble_eq_true rfl)))) 10).trans q_69
  have q_85 := (congrFun (o_M39 _ (q_dn K_82 K_83 (Or.inl (Nat.le_of_ble_eq_true rfl)))) 9).trans q_71
  have q_86 := (congrFun (o_M39 _ (q_dn K_81 K_83 (Or.inl (Nat.le_of_ble_eq_true rfl)))) 4).trans q_72
  have q_87 := (congrFun (o_M39 _ (q_dn K_81 K_83 (Or.inl (Nat.le_of_ble_eq_true rfl)))) 5).trans q_73
  have r_88 := (congrFun (congrFun rr_M39 _) 1).trans r_74
  have r_89 := (congrFun (congrFun rr_M39 _) 1).trans r_75
  have r_90 := (congrFun (congrFun rr_M39 _) 2).trans r_76
  have r_91 := (congrFun (congrFun rr_M39 _) 1).trans r_77
  have r_92 := (congrFun (congrFun rr_M39 _) 2).trans r_78
  have r_93 := (congrFun (congrFun rr_M39 _) 0).trans r_v34
  have g_94 := q_tr g_79 fM39
  have K_95 := (q_mo K_80 (by decide) fM39)
  refine c_gRs K_95 r_88 ?_
  have K_96 := (q_mo K_81 (by decide) fM39)
  refine c_gC K_96 ?_
  have K_97 := (q_mo K_82 (by decide) fM39)
  refine Ok_b (S_X8_knownBy HM39 K_96 K_97 h_l3) (fun v42 e_v42 => ?_)
  clear e_v42
  refine Ok_b (S_J6_bitCount_0f7a4 HM39) (fun v43 e_v43 => ?_)
  replace e_v43 := q_un e_v43
  have K_98 := (q_mo (q_mo (q_mo (q_mo (q_mo (q_mo (q_mo (q_mo (q_mo K_v2 (by decide) fM5) (by decide) fM9) (by decide) fM13) (by decide) fM17) (by decide) fM21) (by decide) fM25) (by decide) fM29) (by decide) fM32) (by decide) fM39)
  refine c_sL (b := b) HM39 K_98 (by decide) (by decide) (fun M44 HM44 fM44 o_M44 rr_M44 => ?_)
  have q_99 := (congrFun (o_M44 _ (q_dn K_97 K_98 (Or.inl (Nat.le_of_ble_eq_true rfl)))) 10).trans q_84
  have q_100 := (congrFun (o_M44 _ (q_dn K_97 K_98 (Or.inl (Nat.le_of_ble_eq_true rfl)))) 9).trans q_85
  have K_102 := (q_mo K_81 (by decide) fM39)
  have q_101 := (congrFun (o_M44 _ (q_dn K_102 K_98 (Or.inl (Nat.le_of_ble_eq_true rfl)))) 4).trans q_86
  have q_103 := (congrFun (o_M44 _ (q_dn K_102 K_98 (Or.inl (Nat.le_of_ble_eq_true rfl)))) 5).trans q_87
  have r_104 := (congrFun (congrFun rr_M44 _) 1).trans r_88
  have r_105 := (congrFun (congrFun rr_M44 _) 1).trans r_89
  have r_106 := (congrFun (congrFun rr_M44 _) 2).trans r_90
  have r_107 := (congrFun (congrFun rr_M44 _) 1).trans r_91
  have r_108 := (congrFun (congrFun rr_M44 _) 2).trans r_92
  have r_109 := (congrFun (congrFun rr_M44 _) 0).trans r_93
  have g_110 := q_tr g_94 fM44
  exact r_PV HM44 g_110
set_option maxHeartbeats 1000000 in
theorem S_X5_look_b0 {b : Nat → Bool} {l0 : Nat} {l1 : Nat} {l2 : Nat} {l3 : Int32} {l4 : Int32} {M : gM} (H : q_HT 0 M) (K_l0 : q_Kd M l0 (5, 0)) (K_l1 : q_Kd M l1 (1, 0)) (K_l2 : q_Kd M l2 (8, 0)) (h_l3 : 0 ≤ l3.toInt ∧ l3.toInt ≤ 6) (h_l4 : 0 ≤ l4.toInt ∧ l4.toInt ≤ 6) : Ok (F_X5_look_b0 (some l0) (some l1) (some l2) l3 l4 M) (q_PV b M) := by
  delta F_X5_look_b0
  refine d_gR (q := (21, 14)) H K_l0 (by decide) rfl (fun v1 r_v1 K_v1 => ?_)
  refine c_sL (b := b) H K_v1 (by decide) (by decide) (fun M2 HM2 fM2 o_M2 rr_M2 => ?_)
  have r_1 := (congrFun (congrFun rr_M2 _) 1).trans r_v1
  have K_2 := (q_mo K_l0 (by decide) fM2)
  refine c_gRs K_2 r_1 ?_
  have K_3 := (q_mo K_v1 (by decide) fM2)
  refine c_sL (b := b) HM2 K_3 (by decide) (by decide) (fun M4 HM4 fM4 o_M4 rr_M4 => ?_)
  have r_4 := (congrFun (congrFun rr_M4 _) 1).trans r_1
  have g_5 := q_tr fM2 fM4
  have K_6 := (q_mo K_2 (by decide) fM4)
  refine c_gRs K_6 r_4 ?_
  have K_7 := (q_mo (q_mo K_l2 (by decide) fM2) (by decide) fM4)
  refine d_gR (q := (20, 49)) HM4 K_7 (by decide) rfl (fun v6 r_v6 K_v6 => ?_)
  have a_8 := i_mulR (x := l3) (c := (7 : Int32)) L_7 (by omega) (by omega)
  have a_9 := i_add (x := (l3 * (7 : Int32))) (y := l4) (by omega) (by omega)
  refine c_aI K_v6 (by omega) (by omega) (fun v7 => ?_)
  have K_10 := (q_mo (q_mo K_v1 (by decide) fM2) (by decide) fM4)
  refine c_sL (b := b) HM4 K_10 (by decide) (by decide) (fun M8 HM8 fM8 o_M8 rr_M8 => ?_)
  have r_11 := (congrFun (congrFun rr_M8 _) 1).trans r_4
  have r_12 := (congrFun (congrFun rr_M8 _) 0).trans r_v6
  have g_13 := q_tr g_5 fM8
  have K_14 := (q_mo K_6 (by decide) fM8)
  refine c_gRs K_14 r_11 ?_
  have K_15 := (q_mo K_7 (by decide) fM8)
  refine c_gRs K_15 r_12 ?_
  have K_16 := (q_mo K_v6 (by decide) fM8)
  refine c_aI K_16 (by omega) (by omega) (fun v11 => ?_)
  have K_17 := (q_mo (q_mo (q_mo K_l1 (by decide) fM2) (by decide) fM4) (by decide) fM8)
  refine d_gR (q := (20, 7)) HM8 K_17 (by decide) rfl (fun v12 r_v12 K_v12 => ?_)
  refine c_aI K_v12 (by omega) (by omega) (fun v13 => ?_)
  refine Ok_i (fun c_18 => ?_) (fun c_18 => ?_)
  · skip
    replace c_18 := i_eq c_18
    have K_19 := (q_mo (q_mo (q_mo K_v1 (by decide) fM2) (by decide) fM4) (by decide) fM8)
    exact w_PV g_13 (S_X5_look_b67 (b := b)  HM8 K_14 K_17 K_15 h_l3 h_l4 (by omega) K_19 (by decide))
  · skip
    replace c_18 := i_ne c_18
    have K_20 := (q_mo (q_mo (q_mo K_v1 (by decide) fM2) (by decide) fM4) (by decide) fM8)
    exact w_PV g_13 (S_X5_look_b67 (b := b)  HM8 K_14 K_17 K_15 h_l3 h_l4 (by omega) K_20 (by decide))
theorem S_X5_look {b : Nat → Bool} {l0 : Nat} {l1 : Nat} {l2 : Nat} {l3 : Int32} {l4 : Int32} {M : gM} (H : q_HT 0 M) (K_l0 : q_Kd M l0 (5, 0)) (K_l1 : q_Kd M l1 (1, 0)) (K_l2 : q_Kd M l2 (8, 0)) (h_l3 : 0 ≤ l3.toInt ∧ l3.toInt ≤ 6) (h_l4 : 0 ≤ l4.toInt ∧ l4.toInt ≤ 6) : Ok (F_X5_look (some l0) (some l1) (some l2) l3 l4 M) (q_PV b M) := by
  delta F_X5_look
  exact w_PV (q_rf _ _) (S_X5_look_b0 (b := b)  H K_l0 K_l1 K_l2 h_l3 h_l4)
set_option maxHeartbeats 1000000 in
theorem S_X5_push_b0 {b : Nat → Bool} {l0 : Nat} {l1 : Int64} {M : gM} (H : q_HT 0 M) (K_l0 : q_Kd M l0 (5, 0)) : Ok (F_X5_push_b0 (some l0) l1 M) (q_PV b M) := by
  delta F_X5_push_b0
  refine d_gI (lo := 0) (hi := 32) H K_l0 (by decide) rfl (fun v1 q_v1 e_v1 => ?_)
  refine Ok_i (fun c_1 => ?_) (fun c_1 => ?_)
  · skip
    replace c_1 := i_le c_1
    rw [L_32] at c_1
    exact r_PV H (q_rf _ _)
  · skip
    replace c_1 := i_nle c_1
    rw [L_32] at c_1
    refine d_gR (q := (21, 32)) H K_l0 (by decide) rfl (fun v2 r_v2 K_v2 => ?_)
    refine c_gIs K_l0 q_v1 (fun v3 e_v3 => ?_)
    have t_v3 := congrArg Int32.toInt e_v3
    have q_v3 := q_v1.trans e_v3.symm
    refine c_sL (b := b) H K_v2 (by omega) (by omega) (fun M4 HM4 fM4 o_M4 rr_M4 => ?_)
    have q_2 := (congrFun (o_M4 _ (q_dn K_l0 K_v2 (Or.inl (Nat.le_of_ble_eq_true rfl)))) 2).trans q_v3
    have r_3 := (congrFun (congrFun rr_M4 _) 0).trans r_v2
    have K_4 := (q_mo K_l0 (by decide) fM4)
    refine c_gIs K_4 q_2 (fun v5 e_v5 => ?_)
    have t_v5 := congrArg Int32.toInt e_v5
    have q_v5 := q_2.trans e_v5.symm
    have a_5 := i_addc (x := v5) (c := (1 : Int32)) L_1 (by omega) (by omega)
    refine c_pI (b := b) (lo := 0) (hi := 32) HM4 K_4 (by decide) rfl (by omega) rfl (fun M6 HM6 fM6 q_M6 o_M6 rr_M6 => ?_)
    have r_6 := (congrFun (congrFun rr_M6 _) 0).trans r_3
    have g_7 := q_tr fM4 fM6
    exact r_PV HM6 g_7
theorem S_X5_push {b : Nat → Bool} {l0 : Nat} {l1 : Int64} {M : gM} (H : q_HT 0 M) (K_l0 : q_Kd M l0 (5, 0)) : Ok (F_X5_push (some l0) l1 M) (q_PV b M) := by
  delta F_X5_push
  exact w_PV (q_rf _ _) (S_X5_push_b0 (b := b)  H K_l0)
set_option maxHeartbeats 1000000 in
theorem S_X5_pop_b0 {b : Nat → Bool} {l0 : Nat} {M : gM} (H : q_HT 0 M) (K_l0 : q_Kd M l0 (5, 0)) : Ok (F_X5_pop_b0 (some l0) M) (q_PJ b M) := by
  delta F_X5_pop_b0
  refine d_gI (lo := 0) (hi := 32) H K_l0 (by decide) rfl (fun v1 q_v1 e_v1 => ?_)
  refine Ok_i (fun c_1 => ?_) (fun c_1 => ?_)
  · skip
    replace c_1 := i_le c_1
    rw [L_1] at c_1
    refine c_gIs K_l0 q_v1 (fun v2 e_v2 => ?_)
    have t_v2 := congrArg Int32.toInt e_v2
    have q_v2 := q_v1.trans e_v2.symm
    have a_2 := i_subc (x := v2) (c := (1 : Int32)) L_1 (by omega) (by omega)
    refine c_pI (b := b) (lo := 0) (hi := 32) H K_l0 (by decide) rfl (by omega) rfl (fun M3 HM3 fM3 q_M3 o_M3 rr_M3 => ?_)
    have K_3 := (q_mo K_l0 (by decide) fM3)
    refine d_gR (q := (21, 32)) HM3 K_3 (by decide) rfl (fun v4 r_v4 K_v4 => ?_)
    refine c_gIs K_3 q_M3 (fun v5 e_v5 => ?_)
    have t_v5 := congrArg Int32.toInt e_v5
    have q_v5 := q_M3.trans e_v5.symm
    refine c_aL K_v4 (by omega) (by omega) (fun v6 => ?_)
    exact r_PJ HM3 fM3
  · skip
    replace c_1 := i_nle c_1
    rw [L_1] at c_1
    exact r_PJ H (q_rf _ _)
theorem S_X5_pop {b : Nat → Bool} {l0 : Nat} {M : gM} (H : q_HT 0 M) (K_l0 : q_Kd M l0 (5, 0)) : Ok (F_X5_pop (some l0) M) (q_PJ b M) := by
  delta F_X5_pop
  exact w_PJ (q_rf _ _) (S_X5_pop_b0 (b := b)  H K_l0)
set_option maxHeartbeats 1000000 in
theorem S_X5_joined_b0 {l0 : Int32} {l1 : Int64} {l3 : Int64} {M : gM} (H : q_HT 0 M) (h_l0 : 2 ≤ l0.toInt ∧ l0.toInt ≤ 15) : Ok (F_X5_joined_b0 M l0 l1 l3) q_pj := by
  delta F_X5_joined_b0
  refine Ok_i (fun c_1 => ?_) (fun c_1 => ?_)
  · skip
    replace c_1 := i_eq c_1
    rw [L_2] at c_1
    exact r_pj
  · skip
    replace c_1 := i_ne c_1
    rw [L_2] at c_1
    refine Ok_i (fun c_2 => ?_) (fun c_2 => ?_)
    · skip
      replace c_2 := i_eq c_2
      rw [L_3] at c_2
      exact r_pj
    · skip
      replace c_2 := i_ne c_2
      rw [L_3] at c_2
      refine Ok_i (fun c_3 => ?_) (fun c_3 => ?_)
      · skip
        replace c_3 := i_eq c_3
        rw [L_4] at c_3
        exact r_pj
      · skip
        replace c_3 := i_ne c_3
        rw [L_4] at c_3
        refine Ok_i (fun c_4 => ?_) (fun c_4 => ?_)
        · skip
          replace c_4 := i_eq c_4
          rw [L_5] at c_4
          refine Ok_i (fun c_5 => ?_) (fun c_5 => ?_)
          · skip
            exact r_pj
          · skip
            have hn_6 := i_nzJ c_5
            refine Ok_e hn_6 ?_
            exact r_pj
        · skip
          replace c_4 := i_ne c_4
          rw [L_5] at c_4
          refine Ok_i (fun c_7 => ?_) (fun c_7 => ?_)
          · skip
            replace c_7 := i_eq c_7
            rw [L_6] at c_7
            refine Ok_i (fun c_8 => ?_) (fun c_8 => ?_)
            · skip
              exact r_pj
            · skip
              have hn_9 := i_nzJ c_8
              refine Ok_e hn_9 ?_
              exact r_pj
          · skip
            replace c_7 := i_ne c_7
            rw [L_6] at c_7
            refine Ok_i (fun c_10 => ?_) (fun c_10 => ?_)
            · skip
              replace c_10 := i_eq c_10
              rw [L_7] at c_10
              refine Ok_i (fun c_11 => ?_) (fun c_11 => ?_)
              · skip
                exact r_pj
              · skip
                exact r_pj
            · skip
              replace c_10 := i_ne c_10
              rw [L_7] at c_10
              refine Ok_i (fun c_12 => ?_) (fun c_12 => ?_)
              · skip
                replace c_12 := i_eq c_12
                rw [L_8] at c_12
                refine Ok_i (fun c_13 => ?_) (fun c_13 => ?_)
                · skip
                  exact r_pj
                · skip
                  exact r_pj
              · skip
                replace c_12 := i_ne c_12
                rw [L_8] at c_12
                refine Ok_i (fun c_14 => ?_) (fun c_14 => ?_)
                · skip
                  replace c_14 := i_eq c_14
                  rw [L_9] at c_14
                  refine Ok_i (fun c_15 => ?_) (fun c_15 => ?_)
                  · skip
                    exact r_pj
                  · skip
                    exact r_pj
                · skip
                  replace c_14 := i_ne c_14
                  rw [L_9] at c_14
                  refine Ok_i (fun c_16 => ?_) (fun c_16 => ?_)
                  · skip
                    replace c_16 := i_eq c_16
                    rw [L_10] at c_16
                    refine Ok_i (fun c_17 => ?_) (fun c_17 => ?_)
                    · skip
                      exact r_pj
                    · skip
                      exact r_pj
                  · skip
                    replace c_16 := i_ne c_16
                    rw [L_10] at c_16
                    refine Ok_i (fun c_18 => ?_) (fun c_18 => ?_)
                    · skip
                      replace c_18 := i_eq c_18
                      rw [L_11] at c_18
                      refine Ok_i (fun c_19 => ?_) (fun c_19 => ?_)
                      · skip
                        exact r_pj
                      · skip
                        exact r_pj
                    · skip
                      replace c_18 := i_ne c_18
                      rw [L_11] at c_18
                      refine Ok_i (fun c_20 => ?_) (fun c_20 => ?_)
                      · skip
                        replace c_20 := i_eq c_20
                        rw [L_12] at c_20
                        exact r_pj
                      · skip
                        replace c_20 := i_ne c_20
                        rw [L_12] at c_20
                        exact r_pj
theorem S_X5_joined {l0 : Int32} {l1 : Int64} {l3 : Int64} {M : gM} (H : q_HT 0 M) (h_l0 : 2 ≤ l0.toInt ∧ l0.toInt ≤ 15) : Ok (F_X5_joined l0 l1 l3 M) q_pj := by
  delta F_X5_joined
  exact S_X5_joined_b0  H h_l0
theorem S_X5_run_b144 {b : Nat → Bool} {l0 : Nat} {M : gM} (H : q_HT 0 M) (K_l0 : q_Kd M l0 (5, 0)) : Ok (F_X5_run_b144 (some l0) M) (q_PJ b M) := by
  delta F_X5_run_b144
  refine c_gO K_l0 ?_
  refine Ok_b (S_X5_pop (b := b) H K_l0) (fun yM3 zM3 => ?_)
  obtain ⟨v2, M3⟩ := yM3
  obtain ⟨HM3, fM3⟩ := zM3
  try dsimp only at HM3 fM3
  exact r_PJ HM3 fM3
theorem S_X5_run_b138 {b : Nat → Bool} {k8 : Option Nat → Option Nat → Int32 → Int32 → gM → Option (Int64 × gM)} {m8 : Int} {l0 : Nat} {l1 n_l1 : Nat} {l3 : Int32} {l4 : Int32} {M : gM} (hk8 : ∀ {l0 : Nat} {l1 n_l1 : Nat} {l3 : Int32} {l4 : Int32} {M : gM}, q_HT 0 M → (q_Kd M l0 (5, 0)) → (q_Kd M l1 (20, n_l1)) → (n_l1 ≤ 400) → max 0 (401 - max 0 l4.toInt) < m8 → Ok (k8 (some l0) (some l1) l3 l4 M) (q_PJ b M)) (H : q_HT 0 M) (K_l0 : q_Kd M l0 (5, 0)) (K_l1 : q_Kd M l1 (20, n_l1)) (hn_l1 : n_l1 ≤ 400) (h_l3 : 1 ≤ l3.toInt) (h_l4 : 0 ≤ l4.toInt ∧ l4.toInt ≤ 399) (hm8 : max 0 (401 - max 0 l4.toInt) ≤ m8) : Ok (F_X5_run_b138 k8 (some l0) (some l1) l3 l4 M) (q_PJ b M) := by
  delta F_X5_run_b138
  have a_1 := i_addc (x := l4) (c := 1) L_1 (by omega) (by omega)
  exact w_PJ (q_rf _ _) (hk8 H K_l0 K_l1 hn_l1 (by omega))
theorem S_X5_run_b91 {b : Nat → Bool} {k8 : Option Nat → Option Nat → Int32 → Int32 → gM → Option (Int64 × gM)} {m8 : Int} {l0 : Nat} {l1 n_l1 : Nat} {l3 : Int32} {l4 : Int32} {s0 : Nat} {s1 : Int64} {M : gM} (hk8 : ∀ {l0 : Nat} {l1 n_l1 : Nat} {l3 : Int32} {l4 : Int32} {M : gM}, q_HT 0 M → (q_Kd M l0 (5, 0)) → (q_Kd M l1 (20, n_l1)) → (n_l1 ≤ 400) → max 0 (401 - max 0 l4.toInt) < m8 → Ok (k8 (some l0) (some l1) l3 l4 M) (q_PJ b M)) (H : q_HT 0 M) (K_l0 : q_Kd M l0 (5, 0)) (K_l1 : q_Kd M l1 (20, n_l1)) (hn_l1 : n_l1 ≤ 400) (h_l3 : 1 ≤ l3.toInt) (h_l4 : 0 ≤ l4.toInt ∧ l4.toInt ≤ 399) (K_s0 : q_Kd M s0 (5, 0)) (hm8 : max 0 (401 - max 0 l4.toInt) ≤ m8) : Ok (F_X5_run_b91 k8 (some l0) (some l1) l3 l4 (some s0) s1 M) (q_PJ b M) := by
  delta F_X5_run_b91
  refine c_gO K_s0 ?_
  refine Ok_b (S_X5_push (b := b) H K_s0) (fun M2 zM2 => ?_)
  obtain ⟨HM2, fM2⟩ := zM2
  have K_1 := (q_mo K_l0 (by decide) fM2)
  have K_2 := (q_mo K_l1 (Nat.le_of_ble_eq_true rfl) fM2)
  exact w_PJ fM2 (S_X5_run_b138 (b := b) hk8 HM2 K_1 K_2 hn_l1 (by omega) h_l4 (by omega))
theorem S_X5_run_b90 {b : Nat → Bool} {k8 : Option Nat → Option Nat → Int32 → Int32 → gM → Option (Int64 × gM)} {m8 : Int} {l0 : Nat} {l1 n_l1 : Nat} {l3 : Int32} {l4 : Int32} {s0 : Nat} {M : gM} (hk8 : ∀ {l0 : Nat} {l1 n_l1 : Nat} {l3 : Int32} {l4 : Int32} {M : gM}, q_HT 0 M → (q_Kd M l0 (5, 0)) → (q_Kd M l1 (20, n_l1)) → (n_l1 ≤ 400) → max 0 (401 - max 0 l4.toInt) < m8 → Ok (k8 (some l0) (some l1) l3 l4 M) (q_PJ b M)) (H : q_HT 0 M) (K_l0 : q_Kd M l0 (5, 0)) (K_l1 : q_Kd M l1 (20, n_l1)) (hn_l1 : n_l1 ≤ 400) (h_l3 : 1 ≤ l3.toInt) (h_l4 : 0 ≤ l4.toInt ∧ l4.toInt ≤ 399) (K_s0 : q_Kd M s0 (5, 0)) (hm8 : max 0 (401 - max 0 l4.toInt) ≤ m8) : Ok (F_X5_run_b90 k8 (some l0) (some l1) l3 l4 (some s0) M) (q_PJ b M) := by
  delta F_X5_run_b90
  exact w_PJ (q_rf _ _) (S_X5_run_b91 (b := b) hk8 H K_l0 K_l1 hn_l1 (by omega) h_l4 K_s0 (by omega))
set_option maxHeartbeats 1000000 in
theorem S_X5_run_b8 {b : Nat → Bool} {k8 : Option Nat → Option Nat → Int32 → Int32 → gM → Option (Int64 × gM)} {m8 : Int} {l0 : Nat} {l1 n_l1 : Nat} {l3 : Int32} {l4 : Int32} {M : gM} (hk8 : ∀ {l0 : Nat} {l1 n_l1 : Nat} {l3 : Int32} {l4 : Int32} {M : gM}, q_HT 0 M → (q_Kd M l0 (5, 0)) → (q_Kd M l1 (20, n_l1)) → (n_l1 ≤ 400) → max 0 (401 - max 0 l4.toInt) < m8 → Ok (k8 (some l0) (some l1) l3 l4 M) (q_PJ b M)) (H : q_HT 0 M) (K_l0 : q_Kd M l0 (5, 0)) (K_l1 : q_Kd M l1 (20, n_l1)) (hn_l1 : n_l1 ≤ 400) (hm8 : max 0 (401 - max 0 l4.toInt) ≤ m8) : Ok (F_X5_run_b8 k8 (some l0) (some l1) l3 l4 M) (q_PJ b M) := by
  delta F_X5_run_b8
  refine Ok_i (fun c_1 => ?_) (fun c_1 => ?_)
  · skip
    replace c_1 := i_lt c_1
    rw [L_0] at c_1
    exact w_PJ (q_rf _ _) (S_X5_run_b144 (b := b)  H K_l0)
  · skip
    replace c_1 := i_nlt c_1
    rw [L_0] at c_1
    refine Ok_i (fun c_2 => ?_) (fun c_2 => ?_)
    · skip
      replace c_2 := i_le c_2
      exact w_PJ (q_rf _ _) (S_X5_run_b144 (b := b)  H K_l0)
    · skip
      replace c_2 := i_nle c_2
      refine c_aN K_l1 (by decide) (by omega) (fun v1 e_v1 => ?_)
      refine Ok_i (fun c_3 => ?_) (fun c_3 => ?_)
      · skip
        replace c_3 := i_le c_3
        exact w_PJ (q_rf _ _) (S_X5_run_b144 (b := b)  H K_l0)
      · skip
        replace c_3 := i_nle c_3
        refine c_aI K_l1 (by omega) (by omega) (fun v2 => ?_)
        refine c_aI K_l1 (by omega) (by omega) (fun v3 => ?_)
        have a_4 := i_andc (a := v2) (m := (15 : Int32)) (n := 15) rfl (by decide)
        refine Ok_i (fun c_5 => ?_) (fun c_5 => ?_)
        · skip
          replace c_5 := i_eq c_5
          rw [L_0] at c_5
          refine c_gO K_l0 ?_
          refine Ok_b (S_X5_push (b := b) H K_l0) (fun M23 zM23 => ?_)
          obtain ⟨HM23, fM23⟩ := zM23
          have K_6 := (q_mo K_l0 (by decide) fM23)
          have K_7 := (q_mo K_l1 (Nat.le_of_ble_eq_true rfl) fM23)
          exact w_PJ fM23 (S_X5_run_b138 (b := b) hk8 HM23 K_6 K_7 hn_l1 (by omega) (by omega) (by omega))
        · skip
          replace c_5 := i_ne c_5
          rw [L_0] at c_5
          refine Ok_i (fun c_8 => ?_) (fun c_8 => ?_)
          · skip
            replace c_8 := i_eq c_8
            rw [L_1] at c_8
            refine Ok_i (fun c_9 => ?_) (fun c_9 => ?_)
            · skip
              replace c_9 := i_lt c_9
              rw [L_0] at c_9
              exact w_PJ (q_rf _ _) (S_X5_run_b90 (b := b) hk8 H K_l0 K_l1 hn_l1 (by omega) (by omega) K_l0 (by omega))
            · skip
              replace c_9 := i_nlt c_9
              rw [L_0] at c_9
              refine d_gR (q := (21, 14)) H K_l0 (by decide) rfl (fun v18 r_v18 K_v18 => ?_)
              refine c_aN K_v18 (by decide) (by decide) (fun v19 e_v19 => ?_)
              refine Ok_i (fun c_10 => ?_) (fun c_10 => ?_)
              · skip
                replace c_10 := i_le c_10
                exact w_PJ (q_rf _ _) (S_X5_run_b90 (b := b) hk8 H K_l0 K_l1 hn_l1 (by omega) (by omega) K_l0 (by omega))
              · skip
                replace c_10 := i_nle c_10
                refine c_gRs K_l0 r_v18 ?_
                refine c_aL K_v18 (by omega) (by omega) (fun v21 => ?_)
                exact w_PJ (q_rf _ _) (S_X5_run_b91 (b := b) hk8 H K_l0 K_l1 hn_l1 (by omega) (by omega) K_l0 (by omega))
          · skip
            replace c_8 := i_ne c_8
            rw [L_1] at c_8
            refine Ok_i (fun c_11 => ?_) (fun c_11 => ?_)
            · skip
              replace c_11 := i_eq c_11
              rw [L_14] at c_11
              refine c_gO K_l0 ?_
              refine Ok_b (S_X5_pop (b := b) H K_l0) (fun yM15 zM15 => ?_)
              obtain ⟨v14, M15⟩ := yM15
              obtain ⟨HM15, fM15⟩ := zM15
              try dsimp only at HM15 fM15
              have K_12 := (q_mo K_l0 (by decide) fM15)
              refine c_gC K_12 ?_
              refine Ok_b (S_X5_push (b := b) HM15 K_12) (fun M17 zM17 => ?_)
              obtain ⟨HM17, fM17⟩ := zM17
              have g_13 := q_tr fM15 fM17
              have K_14 := (q_mo K_12 (by decide) fM17)
              have K_15 := (q_mo (q_mo K_l1 (Nat.le_of_ble_eq_true rfl) fM15) (Nat.le_of_ble_eq_true rfl) fM17)
              exact w_PJ g_13 (S_X5_run_b138 (b := b) hk8 HM17 K_14 K_15 hn_l1 (by omega) (by omega) (by omega))
            · skip
              replace c_11 := i_ne c_11
              rw [L_14] at c_11
              refine c_gO K_l0 ?_
              refine Ok_b (S_X5_pop (b := b) H K_l0) (fun yM6 zM6 => ?_)
              obtain ⟨v5, M6⟩ := yM6
              obtain ⟨HM6, fM6⟩ := zM6
              try dsimp only at HM6 fM6
              have K_16 := (q_mo K_l0 (by decide) fM6)
              refine c_gC K_16 ?_
              refine Ok_b (S_X5_pop (b := b) HM6 K_16) (fun yM9 zM9 => ?_)
              obtain ⟨v8, M9⟩ := yM9
              obtain ⟨HM9, fM9⟩ := zM9
              try dsimp only at HM9 fM9
              have g_17 := q_tr fM6 fM9
              refine Ok_b (S_X5_joined HM9 (by omega)) (fun v10 e_v10 => ?_)
              have K_18 := (q_mo K_16 (by decide) fM9)
              refine c_gC K_18 ?_
              refine Ok_b (S_X5_push (b := b) HM9 K_18) (fun M12 zM12 => ?_)
              obtain ⟨HM12, fM12⟩ := zM12
              have g_19 := q_tr g_17 fM12
              have K_20 := (q_mo K_18 (by decide) fM12)
              have K_21 := (q_mo (q_mo (q_mo K_l1 (Nat.le_of_ble_eq_true rfl) fM6) (Nat.le_of_ble_eq_true rfl) fM9) (Nat.le_of_ble_eq_true rfl) fM12)
              exact w_PJ g_19 (S_X5_run_b138 (b := b) hk8 HM12 K_20 K_21 hn_l1 (by omega) (by omega) (by omega))
theorem S_X5_run_L8 {b : Nat → Bool} : ∀ (n : Nat) {l0 : Nat} {l1 n_l1 : Nat} {l3 : Int32} {l4 : Int32} {M : gM}, q_HT 0 M → (q_Kd M l0 (5, 0)) → (q_Kd M l1 (20, n_l1)) → (n_l1 ≤ 400) → max 0 (401 - max 0 l4.toInt) < (n : Int) → Ok (F_X5_run_L8 n (some l0) (some l1) l3 l4 M) (q_PJ b M) := by
  intro n
  induction n with
  | zero =>
    intro l0 l1 n_l1 l3 l4 M H K_l0 K_l1 hn_l1  hm
    exfalso
    omega
  | succ n ih =>
    intro l0 l1 n_l1 l3 l4 M H K_l0 K_l1 hn_l1  hm
    exact S_X5_run_b8 (b := b) (m8 := max 0 (401 - max 0 l4.toInt)) (fun H K_l0 K_l1 hn_l1  hmz => ih H K_l0 K_l1 hn_l1  (by omega)) H K_l0 K_l1 hn_l1  (Int.le_refl _)
theorem S_X5_run_b0 {b : Nat → Bool} {l0 : Nat} {l1 n_l1 : Nat} {l2 : Int32} {l3 : Int32} {M : gM} (H : q_HT 0 M) (K_l0 : q_Kd M l0 (5, 0)) (K_l1 : q_Kd M l1 (20, n_l1)) (hn_l1 : n_l1 ≤ 400) : Ok (F_X5_run_b0 (some l0) (some l1) l2 l3 M) (q_PJ b M) := by
  delta F_X5_run_b0
  refine c_pI (b := b) (lo := 0) (hi := 32) H K_l0 (by decide) rfl (by decide) rfl (fun M1 HM1 fM1 q_M1 o_M1 rr_M1 => ?_)
  have K_1 := (q_mo K_l0 (by decide) fM1)
  have K_2 := (q_mo K_l1 (Nat.le_of_ble_eq_true rfl) fM1)
  exact w_PJ fM1 (S_X5_run_L8 (b := b)  g_fuel HM1 K_1 K_2 hn_l1 (q_fu (by omega)))
theorem S_X5_run {b : Nat → Bool} {l0 : Nat} {l1 n_l1 : Nat} {l2 : Int32} {l3 : Int32} {M : gM} (H : q_HT 0 M) (K_l0 : q_Kd M l0 (5, 0)) (K_l1 : q_Kd M l1 (20, n_l1)) (hn_l1 : n_l1 ≤ 400) : Ok (F_X5_run (some l0) (some l1) l2 l3 M) (q_PJ b M) := by
  delta F_X5_run
  exact w_PJ (q_rf _ _) (S_X5_run_b0 (b := b)  H K_l0 K_l1 hn_l1)
theorem S_X5_loss_b63 {b : Nat → Bool} {l0 : Nat} {l1 : Nat} {l2 n_l2 : Nat} {l3 : Int32} {M : gM} (H : q_HT 0 M) (K_l0 : q_Kd M l0 (5, 0)) (K_l1 : q_Kd M l1 (6, 0)) (K_l2 : q_Kd M l2 (20, n_l2)) (hn_l2 : n_l2 ≤ 400) (h_l3 : 0 ≤ l3.toInt ∧ l3.toInt ≤ 397) (hx : l3.toInt + 2 < (n_l2 : Int)) : Ok (F_X5_loss_b63 (some l0) (some l1) (some l2) l3 M) (q_PJ b M) := by
  delta F_X5_loss_b63
  refine d_gR3 H K_l1 (by decide) rfl (fun v1 n_v1 K_v1 hn_v1 => ?_)
  refine c_aI K_l2 (by omega) (by omega) (fun v2 => ?_)
  have a_1 := i_addc (x := l3) (c := (1 : Int32)) L_1 (by omega) (by omega)
  refine c_aI K_l2 (by omega) (by omega) (fun v3 => ?_)
  refine c_gO K_l0 ?_
  refine Ok_b (S_X5_run (b := b) H K_l0 K_v1 hn_v1) (fun yM6 zM6 => ?_)
  obtain ⟨v5, M6⟩ := yM6
  obtain ⟨HM6, fM6⟩ := zM6
  try dsimp only at HM6 fM6
  exact r_PJ HM6 fM6
set_option maxHeartbeats 1000000 in
theorem S_X5_loss_b33 {b : Nat → Bool} {k7 : Option Nat → Option Nat → Option Nat → Int32 → gM → Option (Int64 × gM)} {m7 : Int} {l0 : Nat} {l1 : Nat} {l2 n_l2 : Nat} {l3 : Int32} {s0 : Int32} {M : gM} (hk7 : ∀ {l0 : Nat} {l1 : Nat} {l2 n_l2 : Nat} {l3 : Int32} {M : gM}, q_HT 0 M → (q_Kd M l0 (5, 0)) → (q_Kd M l1 (6, 0)) → (q_Kd M l2 (20, n_l2)) → (n_l2 ≤ 400) → (0 ≤ l3.toInt ∧ l3.toInt ≤ 400) → 400 - l3.toInt < m7 → Ok (k7 (some l0) (some l1) (some l2) l3 M) (q_PJ b M)) (H : q_HT 0 M) (K_l0 : q_Kd M l0 (5, 0)) (K_l1 : q_Kd M l1 (6, 0)) (K_l2 : q_Kd M l2 (20, n_l2)) (hn_l2 : n_l2 ≤ 400) (h_l3 : 0 ≤ l3.toInt ∧ l3.toInt ≤ 397) (h_s0 : 0 ≤ s0.toInt ∧ s0.toInt ≤ 1) (hx : l3.toInt + 2 < (n_l2 : Int)) (hm7 : 400 - l3.toInt ≤ m7) : Ok (F_X5_loss_b33 k7 (some l0) (some l1) (some l2) l3 s0 M) (q_PJ b M) := by
  delta F_X5_loss_b33
  refine Ok_i (fun c_1 => ?_) (fun c_1 => ?_)
  · skip
    replace c_1 := i_eq c_1
    rw [L_0] at c_1
    refine d_gR3 H K_l1 (by decide) rfl (fun v1 n_v1 K_v1 hn_v1 => ?_)
    have a_2 := i_addc (x := l3) (c := (1 : Int32)) L_1 (by omega) (by omega)
    refine c_aI K_l2 (by omega) (by omega) (fun v2 => ?_)
    have a_3 := i_addc (x := l3) (c := (2 : Int32)) L_2 (by omega) (by omega)
    refine c_aI K_l2 (by omega) (by omega) (fun v3 => ?_)
    refine c_gO K_l0 ?_
    refine Ok_b (S_X5_run (b := b) H K_l0 K_v1 hn_v1) (fun yM6 zM6 => ?_)
    obtain ⟨v5, M6⟩ := yM6
    obtain ⟨HM6, fM6⟩ := zM6
    try dsimp only at HM6 fM6
    refine Ok_i (fun c_4 => ?_) (fun c_4 => ?_)
    · skip
      have K_5 := (q_mo K_l0 (by decide) fM6)
      have K_6 := (q_mo K_l1 (by decide) fM6)
      have K_7 := (q_mo K_l2 (Nat.le_of_ble_eq_true rfl) fM6)
      have a_8 := i_addc (x := l3) (c := 3) L_3 (by omega) (by omega)
      exact w_PJ fM6 (hk7 HM6 K_5 K_6 K_7 hn_l2 (by omega) (by omega))
    · skip
      have hn_9 := i_nzJ c_4
      have K_10 := (q_mo K_l0 (by decide) fM6)
      have K_11 := (q_mo K_l1 (by decide) fM6)
      have K_12 := (q_mo K_l2 (Nat.le_of_ble_eq_true rfl) fM6)
      exact w_PJ fM6 (S_X5_loss_b63 (b := b)  HM6 K_10 K_11 K_12 hn_l2 h_l3 (by omega))
  · skip
    replace c_1 := i_ne c_1
    rw [L_0] at c_1
    exact w_PJ (q_rf _ _) (S_X5_loss_b63 (b := b)  H K_l0 K_l1 K_l2 hn_l2 h_l3 (by omega))
theorem S_X5_loss_b7 {b : Nat → Bool} {k7 : Option Nat → Option Nat → Option Nat → Int32 → gM → Option (Int64 × gM)} {m7 : Int} {l0 : Nat} {l1 : Nat} {l2 n_l2 : Nat} {l3 : Int32} {M : gM} (hk7 : ∀ {l0 : Nat} {l1 : Nat} {l2 n_l2 : Nat} {l3 : Int32} {M : gM}, q_HT 0 M → (q_Kd M l0 (5, 0)) → (q_Kd M l1 (6, 0)) → (q_Kd M l2 (20, n_l2)) → (n_l2 ≤ 400) → (0 ≤ l3.toInt ∧ l3.toInt ≤ 400) → 400 - l3.toInt < m7 → Ok (k7 (some l0) (some l1) (some l2) l3 M) (q_PJ b M)) (H : q_HT 0 M) (K_l0 : q_Kd M l0 (5, 0)) (K_l1 : q_Kd M l1 (6, 0)) (K_l2 : q_Kd M l2 (20, n_l2)) (hn_l2 : n_l2 ≤ 400) (h_l3 : 0 ≤ l3.toInt ∧ l3.toInt ≤ 400) (hm7 : 400 - l3.toInt ≤ m7) : Ok (F_X5_loss_b7 k7 (some l0) (some l1) (some l2) l3 M) (q_PJ b M) := by
  delta F_X5_loss_b7
  refine c_aN K_l2 (by decide) (by omega) (fun v1 e_v1 => ?_)
  have a_1 := i_addc (x := l3) (c := (2 : Int32)) L_2 (by omega) (by omega)
  refine Ok_i (fun c_2 => ?_) (fun c_2 => ?_)
  · skip
    replace c_2 := i_le c_2
    exact r_PJ H (q_rf _ _)
  · skip
    replace c_2 := i_nle c_2
    have a_3 := i_addc (x := l3) (c := (1 : Int32)) L_1 (by omega) (by omega)
    refine c_aI K_l2 (by omega) (by omega) (fun v2 => ?_)
    refine c_aI K_l2 (by omega) (by omega) (fun v3 => ?_)
    refine Ok_i (fun c_4 => ?_) (fun c_4 => ?_)
    · skip
      replace c_4 := i_eq c_4
      exact w_PJ (q_rf _ _) (S_X5_loss_b33 (b := b) hk7 H K_l0 K_l1 K_l2 hn_l2 (by omega) (by decide) (by omega) (by omega))
    · skip
      replace c_4 := i_ne c_4
      exact w_PJ (q_rf _ _) (S_X5_loss_b33 (b := b) hk7 H K_l0 K_l1 K_l2 hn_l2 (by omega) (by decide) (by omega) (by omega))
theorem S_X5_loss_L7 {b : Nat → Bool} : ∀ (n : Nat) {l0 : Nat} {l1 : Nat} {l2 n_l2 : Nat} {l3 : Int32} {M : gM}, q_HT 0 M → (q_Kd M l0 (5, 0)) → (q_Kd M l1 (6, 0)) → (q_Kd M l2 (20, n_l2)) → (n_l2 ≤ 400) → (0 ≤ l3.toInt ∧ l3.toInt ≤ 400) → 400 - l3.toInt < (n : Int) → Ok (F_X5_loss_L7 n (some l0) (some l1) (some l2) l3 M) (q_PJ b M) := by
  intro n
  induction n with
  | zero =>
    intro l0 l1 l2 n_l2 l3 M H K_l0 K_l1 K_l2 hn_l2 h_l3  hm
    exfalso
    omega
  | succ n ih =>
    intro l0 l1 l2 n_l2 l3 M H K_l0 K_l1 K_l2 hn_l2 h_l3  hm
    exact S_X5_loss_b7 (b := b) (m7 := 400 - l3.toInt) (fun H K_l0 K_l1 K_l2 hn_l2 h_l3  hmz => ih H K_l0 K_l1 K_l2 hn_l2 h_l3  (by omega)) H K_l0 K_l1 K_l2 hn_l2 h_l3  (Int.le_refl _)
theorem S_X5_loss_b0 {b : Nat → Bool} {l0 : Nat} {l1 : Nat} {M : gM} (H : q_HT 0 M) (K_l0 : q_Kd M l0 (5, 0)) (K_l1 : q_Kd M l1 (6, 0)) : Ok (F_X5_loss_b0 (some l0) (some l1) M) (q_PJ b M) := by
  delta F_X5_loss_b0
  refine d_gR3 H K_l1 (by decide) rfl (fun v1 n_v1 K_v1 hn_v1 => ?_)
  exact w_PJ (q_rf _ _) (S_X5_loss_L7 (b := b)  g_fuel H K_l0 K_l1 K_v1 hn_v1 (by decide) (q_fu (by rw [L_0]; omega)))
theorem S_X5_loss {b : Nat → Bool} {l0 : Nat} {l1 : Nat} {M : gM} (H : q_HT 0 M) (K_l0 : q_Kd M l0 (5, 0)) (K_l1 : q_Kd M l1 (6, 0)) : Ok (F_X5_loss (some l0) (some l1) M) (q_PJ b M) := by
  delta F_X5_loss
  exact w_PJ (q_rf _ _) (S_X5_loss_b0 (b := b)  H K_l0 K_l1)
theorem S_X10_weigh_b127 {b : Nat → Bool} {k3 : Option Nat → Option Nat → Option Nat → Option Nat → Int32 → gM → Option gM} {m3 : Int} {k15 : Option Nat → Option Nat → Option Nat → Option Nat → Int32 → Int32 → gM → Option gM} {m15 : Int} {l0 : Nat} {l1 : Nat} {l2 : Nat} {l3 : Option Nat} {l4 : Int32} {l5 : Int32} {M : gM} (hk3 : ∀ {l0 : Nat} {l1 : Nat} {l2 : Nat} {l3 : Option Nat} {l4 : Int32} {M : gM}, q_HT 0 M → (q_Kd M l0 (10, 0)) → (q_Kd M l1 (1, 0)) → (q_Kd M l2 (8, 0)) → (l3 = none ∨ ∃ i, l3 = some i ∧ q_Kd M i (6, 0)) → (0 ≤ l4.toInt ∧ l4.toInt ≤ 7) → 7 - l4.toInt < m3 → Ok (k3 (some l0) (some l1) (some l2) l3 l4 M) (q_PV b M)) (hk15 : ∀ {l0 : Nat} {l1 : Nat} {l2 : Nat} {l3 : Option Nat} {l4 : Int32} {l5 : Int32} {M : gM}, q_HT 0 M → (q_Kd M l0 (10, 0)) → (q_Kd M l1 (1, 0)) → (q_Kd M l2 (8, 0)) → (l3 = none ∨ ∃ i, l3 = some i ∧ q_Kd M i (6, 0)) → (0 ≤ l4.toInt ∧ l4.toInt ≤ 6) → (0 ≤ l5.toInt ∧ l5.toInt ≤ 7) → 7 - l4.toInt ≤ m3 → 7 - l5.toInt < m15 → Ok (k15 (some l0) (some l1) (some l2) l3 l4 l5 M) (q_PV b M)) (H : q_HT 0 M) (K_l0 : q_Kd M l0 (10, 0)) (K_l1 : q_Kd M l1 (1, 0)) (K_l2 : q_Kd M l2 (8, 0)) (K_l3 : l3 = none ∨ ∃ i, l3 = some i ∧ q_Kd M i (6, 0)) (h_l4 : 0 ≤ l4.toInt ∧ l4.toInt ≤ 6) (h_l5 : 0 ≤ l5.toInt ∧ l5.toInt ≤ 6) (hm3 : 7 - l4.toInt ≤ m3) (hm15 : 7 - l5.toInt ≤ m15) : Ok (F_X10_weigh_b127 k3 k15 (some l0) (some l1) (some l2) l3 l4 l5 M) (q_PV b M) := by
  delta F_X10_weigh_b127
  have a_1 := i_addc (x := l5) (c := 1) L_1 (by omega) (by omega)
  exact w_PV (q_rf _ _) (hk15 H K_l0 K_l1 K_l2 K_l3 h_l4 (by omega) (by omega) (by omega))
set_option maxHeartbeats 1000000 in
theorem S_X10_weigh_b15 {b : Nat → Bool} {k3 : Option Nat → Option Nat → Option Nat → Option Nat → Int32 → gM → Option gM} {m3 : Int} {k15 : Option Nat → Option Nat → Option Nat → Option Nat → Int32 → Int32 → gM → Option gM} {m15 : Int} {l0 : Nat} {l1 : Nat} {l2 : Nat} {l3 : Option Nat} {l4 : Int32} {l5 : Int32} {M : gM} (hk3 : ∀ {l0 : Nat} {l1 : Nat} {l2 : Nat} {l3 : Option Nat} {l4 : Int32} {M : gM}, q_HT 0 M → (q_Kd M l0 (10, 0)) → (q_Kd M l1 (1, 0)) → (q_Kd M l2 (8, 0)) → (l3 = none ∨ ∃ i, l3 = some i ∧ q_Kd M i (6, 0)) → (0 ≤ l4.toInt ∧ l4.toInt ≤ 7) → 7 - l4.toInt < m3 → Ok (k3 (some l0) (some l1) (some l2) l3 l4 M) (q_PV b M)) (hk15 : ∀ {l0 : Nat} {l1 : Nat} {l2 : Nat} {l3 : Option Nat} {l4 : Int32} {l5 : Int32} {M : gM}, q_HT 0 M → (q_Kd M l0 (10, 0)) → (q_Kd M l1 (1, 0)) → (q_Kd M l2 (8, 0)) → (l3 = none ∨ ∃ i, l3 = some i ∧ q_Kd M i (6, 0)) → (0 ≤ l4.toInt ∧ l4.toInt ≤ 6) → (0 ≤ l5.toInt ∧ l5.toInt ≤ 7) → 7 - l4.toInt ≤ m3 → 7 - l5.toInt < m15 → Ok (k15 (some l0) (some l1) (some l2) l3 l4 l5 M) (q_PV b M)) (H : q_HT 0 M) (K_l0 : q_Kd M l0 (10, 0)) (K_l1 : q_Kd M l1 (1, 0)) (K_l2 : q_Kd M l2 (8, 0)) (K_l3 : l3 = none ∨ ∃ i, l3 = some i ∧ q_Kd M i (6, 0)) (h_l4 : 0 ≤ l4.toInt ∧ l4.toInt ≤ 6) (h_l5 : 0 ≤ l5.toInt ∧ l5.toInt ≤ 7) (hm3 : 7 - l4.toInt ≤ m3) (hm15 : 7 - l5.toInt ≤ m15) : Ok (F_X10_weigh_b15 k3 k15 (some l0) (some l1) (some l2) l3 l4 l5 M) (q_PV b M) := by
  delta F_X10_weigh_b15
  refine d_gI (lo := 0) (hi := 7) H K_l1 (by decide) rfl (fun v1 q_v1 e_v1 => ?_)
  refine Ok_i (fun c_1 => ?_) (fun c_1 => ?_)
  · skip
    replace c_1 := i_le c_1
    have a_2 := i_addc (x := l4) (c := 1) L_1 (by omega) (by omega)
    exact w_PV (q_rf _ _) (hk3 H K_l0 K_l1 K_l2 K_l3 (by omega) (by omega))
  · skip
    replace c_1 := i_nle c_1
    refine d_gR (q := (20, 49)) H K_l2 (by decide) rfl (fun v2 r_v2 K_v2 => ?_)
    have a_3 := i_mulR (x := l4) (c := (7 : Int32)) L_7 (by omega) (by omega)
    have a_4 := i_add (x := (l4 * (7 : Int32))) (y := l5) (by omega) (by omega)
    refine c_aI K_v2 (by omega) (by omega) (fun v3 => ?_)
    refine Ok_i (fun c_5 => ?_) (fun c_5 => ?_)
    · skip
      replace c_5 := i_eq c_5
      rw [L_0] at c_5
      refine d_gR (q := (20, 49)) H K_l0 (by decide) rfl (fun v20 r_v20 K_v20 => ?_)
      refine c_sI (b := b) H K_v20 (by omega) (by omega) (fun M21 HM21 fM21 o_M21 rr_M21 => ?_)
      have q_6 := (congrFun (o_M21 _ (q_dn K_l1 K_v20 (Or.inl (Nat.le_of_ble_eq_true rfl)))) 6).trans q_v1
      have r_7 := (congrFun (congrFun rr_M21 _) 1).trans r_v2
      have r_8 := (congrFun (congrFun rr_M21 _) 0).trans r_v20
      have K_9 := (q_mo K_l0 (by decide) fM21)
      have K_10 := (q_mo K_l1 (by decide) fM21)
      have K_11 := (q_mo K_l2 (by decide) fM21)
      exact w_PV fM21 (S_X10_weigh_b127 (b := b) hk3 hk15 HM21 K_9 K_10 K_11 (q_mN K_l3 (by decide) fM21) h_l4 (by omega) (by omega) (by omega))
    · skip
      replace c_5 := i_ne c_5
      rw [L_0] at c_5
      rcases K_l3 with w_12 | ⟨l3_p, w_12, KN_l3⟩
      · subst w_12
        refine Ok_t rfl ?_
        refine d_gR (q := (20, 49)) H K_l0 (by decide) rfl (fun v13 r_v13 K_v13 => ?_)
        refine d_gR (q := (20, 7)) H K_l2 (by decide) rfl (fun v14 r_v14 K_v14 => ?_)
        refine c_aI K_v14 (by omega) (by omega) (fun v15 => ?_)
        refine c_gIt K_l2 (fun v16 q_v16 => ?_)
        refine c_gO K_l1 ?_
        refine Ok_b (S_X1_plainLoss H K_l1 h_l4 (by omega)) (fun v18 e_v18 => ?_)
        clear e_v18
        refine c_sI (b := b) H K_v13 (by omega) (by omega) (fun M19 HM19 fM19 o_M19 rr_M19 => ?_)
        have q_13 := (congrFun (o_M19 _ (q_dn K_l1 K_v13 (Or.inl (Nat.le_of_ble_eq_true rfl)))) 6).trans q_v1
        have q_14 := (congrFun (o_M19 _ (q_dn K_l2 K_v13 (Or.inl (Nat.le_of_ble_eq_true rfl)))) 4).trans q_v16
        have r_15 := (congrFun (congrFun rr_M19 _) 1).trans r_v2
        have r_16 := (congrFun (congrFun rr_M19 _) 0).trans r_v13
        have r_17 := (congrFun (congrFun rr_M19 _) 2).trans r_v14
        have K_18 := (q_mo K_l0 (by decide) fM19)
        have K_19 := (q_mo K_l1 (by decide) fM19)
        have K_20 := (q_mo K_l2 (by decide) fM19)
        exact w_PV fM19 (S_X10_weigh_b127 (b := b) hk3 hk15 HM19 K_18 K_19 K_20 (Or.inl rfl) h_l4 (by omega) (by omega) (by omega))
      · subst w_12
        refine Ok_e (by simp) ?_
        refine d_gR (q := (5, 0)) H K_l0 (by decide) rfl (fun v4 r_v4 K_v4 => ?_)
        refine c_gO K_v4 ?_
        refine Ok_b (S_X5_look (b := b) H K_v4 K_l1 K_l2 h_l4 (by omega)) (fun M6 zM6 => ?_)
        obtain ⟨HM6, fM6⟩ := zM6
        have K_21 := (q_mo K_l0 (by decide) fM6)
        refine d_gR (q := (20, 49)) HM6 K_21 (by decide) rfl (fun v7 r_v7 K_v7 => ?_)
        refine d_gR (q := (5, 0)) HM6 K_21 (by decide) rfl (fun v8 r_v8 K_v8 => ?_)
        refine c_gO K_v8 ?_
        have K_22 := (q_mo KN_l3 (by decide) fM6)
        refine Ok_b (S_X5_loss (b := b) HM6 K_v8 K_22) (fun yM11 zM11 => ?_)
        obtain ⟨v10, M11⟩ := yM11
        obtain ⟨HM11, fM11⟩ := zM11
        try dsimp only at HM11 fM11
        have g_23 := q_tr fM6 fM11
        have K_24 := (q_mo K_v7 (by decide) fM11)
        refine c_sI (b := b) HM11 K_24 (by omega) (by omega) (fun M12 HM12 fM12 o_M12 rr_M12 => ?_)
        have g_25 := q_tr g_23 fM12
        have K_26 := (q_mo (q_mo K_21 (by decide) fM11) (by decide) fM12)
        have K_27 := (q_mo (q_mo (q_mo K_l1 (by decide) fM6) (by decide) fM11) (by decide) fM12)
        have K_28 := (q_mo (q_mo (q_mo K_l2 (by decide) fM6) (by decide) fM11) (by decide) fM12)
        have K_29 := (q_mo (q_mo K_22 (by decide) fM11) (by decide) fM12)
        exact w_PV g_25 (S_X10_weigh_b127 (b := b) hk3 hk15 HM12 K_26 K_27 K_28 (Or.inr ⟨_, rfl, K_29⟩) h_l4 (by omega) (by omega) (by omega))
theorem S_X10_weigh_L15 {b : Nat → Bool} {k3 : Option Nat → Option Nat → Option Nat → Option Nat → Int32 → gM → Option gM} {m3 : Int} (hk3 : ∀ {l0 : Nat} {l1 : Nat} {l2 : Nat} {l3 : Option Nat} {l4 : Int32} {M : gM}, q_HT 0 M → (q_Kd M l0 (10, 0)) → (q_Kd M l1 (1, 0)) → (q_Kd M l2 (8, 0)) → (l3 = none ∨ ∃ i, l3 = some i ∧ q_Kd M i (6, 0)) → (0 ≤ l4.toInt ∧ l4.toInt ≤ 7) → 7 - l4.toInt < m3 → Ok (k3 (some l0) (some l1) (some l2) l3 l4 M) (q_PV b M)) : ∀ (n : Nat) {l0 : Nat} {l1 : Nat} {l2 : Nat} {l3 : Option Nat} {l4 : Int32} {l5 : Int32} {M : gM}, q_HT 0 M → (q_Kd M l0 (10, 0)) → (q_Kd M l1 (1, 0)) → (q_Kd M l2 (8, 0)) → (l3 = none ∨ ∃ i, l3 = some i ∧ q_Kd M i (6, 0)) → (0 ≤ l4.toInt ∧ l4.toInt ≤ 6) → (0 ≤ l5.toInt ∧ l5.toInt ≤ 7) → 7 - l4.toInt ≤ m3 → 7 - l5.toInt < (n : Int) → Ok (F_X10_weigh_L15 k3 n (some l0) (some l1) (some l2) l3 l4 l5 M) (q_PV b M) := by
  intro n
  induction n with
  | zero =>
    intro l0 l1 l2 l3 l4 l5 M H K_l0 K_l1 K_l2 K_l3 h_l4 h_l5 hm3 hm
    exfalso
    omega
  | succ n ih =>
    intro l0 l1 l2 l3 l4 l5 M H K_l0 K_l1 K_l2 K_l3 h_l4 h_l5 hm3 hm
    exact S_X10_weigh_b15 (b := b) (m15 := 7 - l5.toInt) hk3 (fun H K_l0 K_l1 K_l2 K_l3 h_l4 h_l5 hm3 hmz => ih H K_l0 K_l1 K_l2 K_l3 h_l4 h_l5 hm3 (by omega)) H K_l0 K_l1 K_l2 K_l3 h_l4 h_l5 hm3 (Int.le_refl _)
theorem S_X10_weigh_b3 {b : Nat → Bool} {k3 : Option Nat → Option Nat → Option Nat → Option Nat → Int32 → gM → Option gM} {m3 : Int} {l0 : Nat} {l1 : Nat} {l2 : Nat} {l3 : Option Nat} {l4 : Int32} {M : gM} (hk3 : ∀ {l0 : Nat} {l1 : Nat} {l2 : Nat} {l3 : Option Nat} {l4 : Int32} {M : gM}, q_HT 0 M → (q_Kd M l0 (10, 0)) → (q_Kd M l1 (1, 0)) → (q_Kd M l2 (8, 0)) → (l3 = none ∨ ∃ i, l3 = some i ∧ q_Kd M i (6, 0)) → (0 ≤ l4.toInt ∧ l4.toInt ≤ 7) → 7 - l4.toInt < m3 → Ok (k3 (some l0) (some l1) (some l2) l3 l4 M) (q_PV b M)) (H : q_HT 0 M) (K_l0 : q_Kd M l0 (10, 0)) (K_l1 : q_Kd M l1 (1, 0)) (K_l2 : q_Kd M l2 (8, 0)) (K_l3 : l3 = none ∨ ∃ i, l3 = some i ∧ q_Kd M i (6, 0)) (h_l4 : 0 ≤ l4.toInt ∧ l4.toInt ≤ 7) (hm3 : 7 - l4.toInt ≤ m3) : Ok (F_X10_weigh_b3 k3 (some l0) (some l1) (some l2) l3 l4 M) (q_PV b M) := by
  delta F_X10_weigh_b3
  refine d_gI (lo := 0) (hi := 7) H K_l1 (by decide) rfl (fun v1 q_v1 e_v1 => ?_)
  refine Ok_i (fun c_1 => ?_) (fun c_1 => ?_)
  · skip
    replace c_1 := i_le c_1
    exact r_PV H (q_rf _ _)
  · skip
    replace c_1 := i_nle c_1
    exact w_PV (q_rf _ _) (S_X10_weigh_L15 (b := b) hk3 g_fuel H K_l0 K_l1 K_l2 K_l3 (by omega) (by decide) (by omega) (q_fu (by rw [L_0]; omega)))
theorem S_X10_weigh_L3 {b : Nat → Bool} : ∀ (n : Nat) {l0 : Nat} {l1 : Nat} {l2 : Nat} {l3 : Option Nat} {l4 : Int32} {M : gM}, q_HT 0 M → (q_Kd M l0 (10, 0)) → (q_Kd M l1 (1, 0)) → (q_Kd M l2 (8, 0)) → (l3 = none ∨ ∃ i, l3 = some i ∧ q_Kd M i (6, 0)) → (0 ≤ l4.toInt ∧ l4.toInt ≤ 7) → 7 - l4.toInt < (n : Int) → Ok (F_X10_weigh_L3 n (some l0) (some l1) (some l2) l3 l4 M) (q_PV b M) := by
  intro n
  induction n with
  | zero =>
    intro l0 l1 l2 l3 l4 M H K_l0 K_l1 K_l2 K_l3 h_l4  hm
    exfalso
    omega
  | succ n ih =>
    intro l0 l1 l2 l3 l4 M H K_l0 K_l1 K_l2 K_l3 h_l4  hm
    exact S_X10_weigh_b3 (b := b) (m3 := 7 - l4.toInt) (fun H K_l0 K_l1 K_l2 K_l3 h_l4  hmz => ih H K_l0 K_l1 K_l2 K_l3 h_l4  (by omega)) H K_l0 K_l1 K_l2 K_l3 h_l4  (Int.le_refl _)
theorem S_X10_weigh_b0 {b : Nat → Bool} {l0 : Nat} {l1 : Nat} {l2 : Nat} {l3 : Option Nat} {M : gM} (H : q_HT 0 M) (K_l0 : q_Kd M l0 (10, 0)) (K_l1 : q_Kd M l1 (1, 0)) (K_l2 : q_Kd M l2 (8, 0)) (K_l3 : l3 = none ∨ ∃ i, l3 = some i ∧ q_Kd M i (6, 0)) : Ok (F_X10_weigh_b0 (some l0) (some l1) (some l2) l3 M) (q_PV b M) := by
  delta F_X10_weigh_b0
  exact w_PV (q_rf _ _) (S_X10_weigh_L3 (b := b)  g_fuel H K_l0 K_l1 K_l2 K_l3 (by decide) (q_fu (by rw [L_0]; omega)))
theorem S_X10_weigh {b : Nat → Bool} {l0 : Nat} {l1 : Nat} {l2 : Nat} {l3 : Option Nat} {M : gM} (H : q_HT 0 M) (K_l0 : q_Kd M l0 (10, 0)) (K_l1 : q_Kd M l1 (1, 0)) (K_l2 : q_Kd M l2 (8, 0)) (K_l3 : l3 = none ∨ ∃ i, l3 = some i ∧ q_Kd M i (6, 0)) : Ok (F_X10_weigh (some l0) (some l1) (some l2) l3 M) (q_PV b M) := by
  delta F_X10_weigh
  exact w_PV (q_rf _ _) (S_X10_weigh_b0 (b := b)  H K_l0 K_l1 K_l2 K_l3)
theorem S_X8_forget_b0 {b : Nat → Bool} {l0 : Nat} {l1 : Int32} {l2 : Int32} {M : gM} (H : q_HT 0 M) (K_l0 : q_Kd M l0 (8, 0)) (h_l1 : 0 ≤ l1.toInt ∧ l1.toInt ≤ 6) (h_l2 : 0 ≤ l2.toInt ∧ l2.toInt ≤ 6) : Ok (F_X8_forget_b0 (some l0) l1 l2 M) (q_PV b M) := by
  delta F_X8_forget_b0
  refine c_gO K_l0 ?_
  refine Ok_b (S_X8_learn (b := b) H K_l0 h_l1 h_l2) (fun M2 zM2 => ?_)
  obtain ⟨HM2, fM2⟩ := zM2
  exact r_PV HM2 fM2
theorem S_X8_forget {b : Nat → Bool} {l0 : Nat} {l1 : Int32} {l2 : Int32} {M : gM} (H : q_HT 0 M) (K_l0 : q_Kd M l0 (8, 0)) (h_l1 : 0 ≤ l1.toInt ∧ l1.toInt ≤ 6) (h_l2 : 0 ≤ l2.toInt ∧ l2.toInt ≤ 6) : Ok (F_X8_forget (some l0) l1 l2 M) (q_PV b M) := by
  delta F_X8_forget
  exact w_PV (q_rf _ _) (S_X8_forget_b0 (b := b)  H K_l0 h_l1 h_l2)
theorem S_X10_fadeAll_b75 {b : Nat → Bool} {k2 : Option Nat → Option Nat → Option Nat → Int32 → gM → Option gM} {m2 : Int} {k13 : Option Nat → Option Nat → Option Nat → Int32 → Int32 → gM → Option gM} {m13 : Int} {l0 : Nat} {l1 : Nat} {l2 : Nat} {l3 : Int32} {l4 : Int32} {M : gM} (hk2 : ∀ {l0 : Nat} {l1 : Nat} {l2 : Nat} {l3 : Int32} {M : gM}, q_HT 0 M → (q_Kd M l0 (10, 0)) → (q_Kd M l1 (1, 0)) → (q_Kd M l2 (8, 0)) → (0 ≤ l3.toInt ∧ l3.toInt ≤ 7) → 7 - l3.toInt < m2 → Ok (k2 (some l0) (some l1) (some l2) l3 M) (q_PV b M)) (hk13 : ∀ {l0 : Nat} {l1 : Nat} {l2 : Nat} {l3 : Int32} {l4 : Int32} {M : gM}, q_HT 0 M → (q_Kd M l0 (10, 0)) → (q_Kd M l1 (1, 0)) → (q_Kd M l2 (8, 0)) → (0 ≤ l3.toInt ∧ l3.toInt ≤ 6) → (0 ≤ l4.toInt ∧ l4.toInt ≤ 7) → 7 - l3.toInt ≤ m2 → 7 - l4.toInt < m13 → Ok (k13 (some l0) (some l1) (some l2) l3 l4 M) (q_PV b M)) (H : q_HT 0 M) (K_l0 : q_Kd M l0 (10, 0)) (K_l1 : q_Kd M l1 (1, 0)) (K_l2 : q_Kd M l2 (8, 0)) (h_l3 : 0 ≤ l3.toInt ∧ l3.toInt ≤ 6) (h_l4 : 0 ≤ l4.toInt ∧ l4.toInt ≤ 6) (hm2 : 7 - l3.toInt ≤ m2) (hm13 : 7 - l4.toInt ≤ m13) : Ok (F_X10_fadeAll_b75 k2 k13 (some l0) (some l1) (some l2) l3 l4 M) (q_PV b M) := by
  delta F_X10_fadeAll_b75
  have a_1 := i_addc (x := l4) (c := 1) L_1 (by omega) (by omega)
  exact w_PV (q_rf _ _) (hk13 H K_l0 K_l1 K_l2 h_l3 (by omega) (by omega) (by omega))
set_option maxHeartbeats 1000000 in
theorem S_X10_fadeAll_b13 {b : Nat → Bool} {k2 : Option Nat → Option Nat → Option Nat → Int32 → gM → Option gM} {m2 : Int} {k13 : Option Nat → Option Nat → Option Nat → Int32 → Int32 → gM → Option gM} {m13 : Int} {l0 : Nat} {l1 : Nat} {l2 : Nat} {l3 : Int32} {l4 : Int32} {M : gM} (hk2 : ∀ {l0 : Nat} {l1 : Nat} {l2 : Nat} {l3 : Int32} {M : gM}, q_HT 0 M → (q_Kd M l0 (10, 0)) → (q_Kd M l1 (1, 0)) → (q_Kd M l2 (8, 0)) → (0 ≤ l3.toInt ∧ l3.toInt ≤ 7) → 7 - l3.toInt < m2 → Ok (k2 (some l0) (some l1) (some l2) l3 M) (q_PV b M)) (hk13 : ∀ {l0 : Nat} {l1 : Nat} {l2 : Nat} {l3 : Int32} {l4 : Int32} {M : gM}, q_HT 0 M → (q_Kd M l0 (10, 0)) → (q_Kd M l1 (1, 0)) → (q_Kd M l2 (8, 0)) → (0 ≤ l3.toInt ∧ l3.toInt ≤ 6) → (0 ≤ l4.toInt ∧ l4.toInt ≤ 7) → 7 - l3.toInt ≤ m2 → 7 - l4.toInt < m13 → Ok (k13 (some l0) (some l1) (some l2) l3 l4 M) (q_PV b M)) (H : q_HT 0 M) (K_l0 : q_Kd M l0 (10, 0)) (K_l1 : q_Kd M l1 (1, 0)) (K_l2 : q_Kd M l2 (8, 0)) (h_l3 : 0 ≤ l3.toInt ∧ l3.toInt ≤ 6) (h_l4 : 0 ≤ l4.toInt ∧ l4.toInt ≤ 7) (hm2 : 7 - l3.toInt ≤ m2) (hm13 : 7 - l4.toInt ≤ m13) : Ok (F_X10_fadeAll_b13 k2 k13 (some l0) (some l1) (some l2) l3 l4 M) (q_PV b M) := by
  delta F_X10_fadeAll_b13
  refine d_gI (lo := 0) (hi := 7) H K_l1 (by decide) rfl (fun v1 q_v1 e_v1 => ?_)
  refine Ok_i (fun c_1 => ?_) (fun c_1 => ?_)
  · skip
    replace c_1 := i_le c_1
    have a_2 := i_addc (x := l3) (c := 1) L_1 (by omega) (by omega)
    exact w_PV (q_rf _ _) (hk2 H K_l0 K_l1 K_l2 (by omega) (by omega))
  · skip
    replace c_1 := i_nle c_1
    refine d_gR (q := (20, 49)) H K_l0 (by decide) rfl (fun v2 r_v2 K_v2 => ?_)
    have a_3 := i_mulR (x := l3) (c := (7 : Int32)) L_7 (by omega) (by omega)
    have a_4 := i_add (x := (l3 * (7 : Int32))) (y := l4) (by omega) (by omega)
    refine c_aI K_v2 (by omega) (by omega) (fun v3 => ?_)
    refine d_gR (q := (20, 49)) H K_l2 (by decide) rfl (fun v4 r_v4 K_v4 => ?_)
    refine c_aI K_v4 (by omega) (by omega) (fun v5 => ?_)
    refine Ok_i (fun c_5 => ?_) (fun c_5 => ?_)
    · skip
      replace c_5 := i_le c_5
      refine c_gO K_l2 ?_
      refine Ok_b (S_X8_forget (b := b) H K_l2 h_l3 (by omega)) (fun M7 zM7 => ?_)
      obtain ⟨HM7, fM7⟩ := zM7
      have K_6 := (q_mo K_l0 (by decide) fM7)
      have K_7 := (q_mo K_l1 (by decide) fM7)
      have K_8 := (q_mo K_l2 (by decide) fM7)
      exact w_PV fM7 (S_X10_fadeAll_b75 (b := b) hk2 hk13 HM7 K_6 K_7 K_8 h_l3 (by omega) (by omega) (by omega))
    · skip
      replace c_5 := i_nle c_5
      refine c_gRs K_l2 r_v4 ?_
      refine c_aI K_v4 (by omega) (by omega) (fun v9 => ?_)
      refine c_gRs K_l0 r_v2 ?_
      refine c_aI K_v2 (by omega) (by omega) (fun v11 => ?_)
      refine c_sI (b := b) H K_v4 (by omega) (by omega) (fun M12 HM12 fM12 o_M12 rr_M12 => ?_)
      have q_9 := (congrFun (o_M12 _ (q_dn K_l1 K_v4 (Or.inl (Nat.le_of_ble_eq_true rfl)))) 6).trans q_v1
      have r_10 := (congrFun (congrFun rr_M12 _) 0).trans r_v2
      have r_11 := (congrFun (congrFun rr_M12 _) 1).trans r_v4
      have K_12 := (q_mo K_l0 (by decide) fM12)
      have K_13 := (q_mo K_l1 (by decide) fM12)
      have K_14 := (q_mo K_l2 (by decide) fM12)
      exact w_PV fM12 (S_X10_fadeAll_b75 (b := b) hk2 hk13 HM12 K_12 K_13 K_14 h_l3 (by omega) (by omega) (by omega))
theorem S_X10_fadeAll_L13 {b : Nat → Bool} {k2 : Option Nat → Option Nat → Option Nat → Int32 → gM → Option gM} {m2 : Int} (hk2 : ∀ {l0 : Nat} {l1 : Nat} {l2 : Nat} {l3 : Int32} {M : gM}, q_HT 0 M → (q_Kd M l0 (10, 0)) → (q_Kd M l1 (1, 0)) → (q_Kd M l2 (8, 0)) → (0 ≤ l3.toInt ∧ l3.toInt ≤ 7) → 7 - l3.toInt < m2 → Ok (k2 (some l0) (some l1) (some l2) l3 M) (q_PV b M)) : ∀ (n : Nat) {l0 : Nat} {l1 : Nat} {l2 : Nat} {l3 : Int32} {l4 : Int32} {M : gM}, q_HT 0 M → (q_Kd M l0 (10, 0)) → (q_Kd M l1 (1, 0)) → (q_Kd M l2 (8, 0)) → (0 ≤ l3.toInt ∧ l3.toInt ≤ 6) → (0 ≤ l4.toInt ∧ l4.toInt ≤ 7) → 7 - l3.toInt ≤ m2 → 7 - l4.toInt < (n : Int) → Ok (F_X10_fadeAll_L13 k2 n (some l0) (some l1) (some l2) l3 l4 M) (q_PV b M) := by
  intro n
  induction n with
  | zero =>
    intro l0 l1 l2 l3 l4 M H K_l0 K_l1 K_l2 h_l3 h_l4 hm2 hm
    exfalso
    omega
  | succ n ih =>
    intro l0 l1 l2 l3 l4 M H K_l0 K_l1 K_l2 h_l3 h_l4 hm2 hm
    exact S_X10_fadeAll_b13 (b := b) (m13 := 7 - l4.toInt) hk2 (fun H K_l0 K_l1 K_l2 h_l3 h_l4 hm2 hmz => ih H K_l0 K_l1 K_l2 h_l3 h_l4 hm2 (by omega)) H K_l0 K_l1 K_l2 h_l3 h_l4 hm2 (Int.le_refl _)
theorem S_X10_fadeAll_b2 {b : Nat → Bool} {k2 : Option Nat → Option Nat → Option Nat → Int32 → gM → Option gM} {m2 : Int} {l0 : Nat} {l1 : Nat} {l2 : Nat} {l3 : Int32} {M : gM} (hk2 : ∀ {l0 : Nat} {l1 : Nat} {l2 : Nat} {l3 : Int32} {M : gM}, q_HT 0 M → (q_Kd M l0 (10, 0)) → (q_Kd M l1 (1, 0)) → (q_Kd M l2 (8, 0)) → (0 ≤ l3.toInt ∧ l3.toInt ≤ 7) → 7 - l3.toInt < m2 → Ok (k2 (some l0) (some l1) (some l2) l3 M) (q_PV b M)) (H : q_HT 0 M) (K_l0 : q_Kd M l0 (10, 0)) (K_l1 : q_Kd M l1 (1, 0)) (K_l2 : q_Kd M l2 (8, 0)) (h_l3 : 0 ≤ l3.toInt ∧ l3.toInt ≤ 7) (hm2 : 7 - l3.toInt ≤ m2) : Ok (F_X10_fadeAll_b2 k2 (some l0) (some l1) (some l2) l3 M) (q_PV b M) := by
  delta F_X10_fadeAll_b2
  refine d_gI (lo := 0) (hi := 7) H K_l1 (by decide) rfl (fun v1 q_v1 e_v1 => ?_)
  refine Ok_i (fun c_1 => ?_) (fun c_1 => ?_)
  · skip
    replace c_1 := i_le c_1
    exact r_PV H (q_rf _ _)
  · skip
    replace c_1 := i_nle c_1
    exact w_PV (q_rf _ _) (S_X10_fadeAll_L13 (b := b) hk2 g_fuel H K_l0 K_l1 K_l2 (by omega) (by decide) (by omega) (q_fu (by rw [L_0]; omega)))
theorem S_X10_fadeAll_L2 {b : Nat → Bool} : ∀ (n : Nat) {l0 : Nat} {l1 : Nat} {l2 : Nat} {l3 : Int32} {M : gM}, q_HT 0 M → (q_Kd M l0 (10, 0)) → (q_Kd M l1 (1, 0)) → (q_Kd M l2 (8, 0)) → (0 ≤ l3.toInt ∧ l3.toInt ≤ 7) → 7 - l3.toInt < (n : Int) → Ok (F_X10_fadeAll_L2 n (some l0) (some l1) (some l2) l3 M) (q_PV b M) := by
  intro n
  induction n with
  | zero =>
    intro l0 l1 l2 l3 M H K_l0 K_l1 K_l2 h_l3  hm
    exfalso
    omega
  | succ n ih =>
    intro l0 l1 l2 l3 M H K_l0 K_l1 K_l2 h_l3  hm
    exact S_X10_fadeAll_b2 (b := b) (m2 := 7 - l3.toInt) (fun H K_l0 K_l1 K_l2 h_l3  hmz => ih H K_l0 K_l1 K_l2 h_l3  (by omega)) H K_l0 K_l1 K_l2 h_l3  (Int.le_refl _)
theorem S_X10_fadeAll_b0 {b : Nat → Bool} {l0 : Nat} {l1 : Nat} {l2 : Nat} {M : gM} (H : q_HT 0 M) (K_l0 : q_Kd M l0 (10, 0)) (K_l1 : q_Kd M l1 (1, 0)) (K_l2 : q_Kd M l2 (8, 0)) : Ok (F_X10_fadeAll_b0 (some l0) (some l1) (some l2) M) (q_PV b M) := by
  delta F_X10_fadeAll_b0
  exact w_PV (q_rf _ _) (S_X10_fadeAll_L2 (b := b)  g_fuel H K_l0 K_l1 K_l2 (by decide) (q_fu (by rw [L_0]; omega)))
theorem S_X10_fadeAll {b : Nat → Bool} {l0 : Nat} {l1 : Nat} {l2 : Nat} {M : gM} (H : q_HT 0 M) (K_l0 : q_Kd M l0 (10, 0)) (K_l1 : q_Kd M l1 (1, 0)) (K_l2 : q_Kd M l2 (8, 0)) : Ok (F_X10_fadeAll (some l0) (some l1) (some l2) M) (q_PV b M) := by
  delta F_X10_fadeAll
  exact w_PV (q_rf _ _) (S_X10_fadeAll_b0 (b := b)  H K_l0 K_l1 K_l2)
theorem S_X10_strikeForgotten_b49 {b : Nat → Bool} {k5 : Option Nat → Option Nat → Int32 → Int32 → gM → Option (Int32 × gM)} {m5 : Int} {l1 : Nat} {l2 : Nat} {l3 : Int32} {l4 : Int32} {M : gM} (hk5 : ∀ {l1 : Nat} {l2 : Nat} {l3 : Int32} {l4 : Int32} {M : gM}, q_HT 0 M → (q_Kd M l1 (1, 0)) → (q_Kd M l2 (8, 0)) → (0 ≤ l4.toInt ∧ l4.toInt ≤ 7) → 7 - l4.toInt < m5 → Ok (k5 (some l1) (some l2) l3 l4 M) (q_PI b M (-2147483648) (2147483647))) (H : q_HT 0 M) (K_l1 : q_Kd M l1 (1, 0)) (K_l2 : q_Kd M l2 (8, 0)) (h_l4 : 0 ≤ l4.toInt ∧ l4.toInt ≤ 6) (hm5 : 7 - l4.toInt ≤ m5) : Ok (F_X10_strikeForgotten_b49 k5 (some l1) (some l2) l3 l4 M) (q_PI b M (-2147483648) (2147483647)) := by
  delta F_X10_strikeForgotten_b49
  have a_1 := i_addc (x := l4) (c := 1) L_1 (by omega) (by omega)
  exact w_PI (q_rf _ _) (hk5 H K_l1 K_l2 (by omega) (by omega)) (by decide) (by decide)
set_option maxHeartbeats 1000000 in
theorem S_X10_strikeForgotten_b5 {b : Nat → Bool} {k5 : Option Nat → Option Nat → Int32 → Int32 → gM → Option (Int32 × gM)} {m5 : Int} {l1 : Nat} {l2 : Nat} {l3 : Int32} {l4 : Int32} {M : gM} (hk5 : ∀ {l1 : Nat} {l2 : Nat} {l3 : Int32} {l4 : Int32} {M : gM}, q_HT 0 M → (q_Kd M l1 (1, 0)) → (q_Kd M l2 (8, 0)) → (0 ≤ l4.toInt ∧ l4.toInt ≤ 7) → 7 - l4.toInt < m5 → Ok (k5 (some l1) (some l2) l3 l4 M) (q_PI b M (-2147483648) (2147483647))) (H : q_HT 0 M) (K_l1 : q_Kd M l1 (1, 0)) (K_l2 : q_Kd M l2 (8, 0)) (h_l4 : 0 ≤ l4.toInt ∧ l4.toInt ≤ 7) (hm5 : 7 - l4.toInt ≤ m5) : Ok (F_X10_strikeForgotten_b5 k5 (some l1) (some l2) l3 l4 M) (q_PI b M (-2147483648) (2147483647)) := by
  delta F_X10_strikeForgotten_b5
  refine d_gI (lo := 0) (hi := 7) H K_l1 (by decide) rfl (fun v1 q_v1 e_v1 => ?_)
  refine Ok_i (fun c_1 => ?_) (fun c_1 => ?_)
  · skip
    replace c_1 := i_le c_1
    exact r_PI (i_rng _) H (q_rf _ _)
  · skip
    replace c_1 := i_nle c_1
    refine d_gR (q := (20, 7)) H K_l2 (by decide) rfl (fun v2 r_v2 K_v2 => ?_)
    refine c_aI K_v2 (by omega) (by omega) (fun v3 => ?_)
    refine Ok_i (fun c_2 => ?_) (fun c_2 => ?_)
    · skip
      replace c_2 := i_eq c_2
      rw [L_m1] at c_2
      refine c_gO K_l2 ?_
      refine Ok_b (S_X8_holdersOf H K_l2 K_l1 (by omega)) (fun v5 e_v5 => ?_)
      clear e_v5
      refine Ok_i (fun c_3 => ?_) (fun c_3 => ?_)
      · skip
        replace c_3 := i_eq c_3
        rw [L_0] at c_3
        refine c_gRs K_l2 r_v2 ?_
        refine c_gIt K_l2 (fun v7 q_v7 => ?_)
        refine c_sI (b := b) H K_v2 (by omega) (by omega) (fun M8 HM8 fM8 o_M8 rr_M8 => ?_)
        have q_4 := (congrFun (o_M8 _ (q_dn K_l1 K_v2 (Or.inl (Nat.le_of_ble_eq_true rfl)))) 6).trans q_v1
        have q_5 := (congrFun (o_M8 _ (q_dn K_l2 K_v2 (Or.inl (Nat.le_of_ble_eq_true rfl)))) 5).trans q_v7
        have r_6 := (congrFun (congrFun rr_M8 _) 3).trans r_v2
        have K_7 := (q_mo K_l1 (by decide) fM8)
        have K_8 := (q_mo K_l2 (by decide) fM8)
        exact w_PI fM8 (S_X10_strikeForgotten_b49 (b := b) hk5 HM8 K_7 K_8 (by omega) (by omega)) (by decide) (by decide)
      · skip
        replace c_3 := i_ne c_3
        rw [L_0] at c_3
        exact w_PI (q_rf _ _) (S_X10_strikeForgotten_b49 (b := b) hk5 H K_l1 K_l2 (by omega) (by omega)) (by decide) (by decide)
    · skip
      replace c_2 := i_ne c_2
      rw [L_m1] at c_2
      exact w_PI (q_rf _ _) (S_X10_strikeForgotten_b49 (b := b) hk5 H K_l1 K_l2 (by omega) (by omega)) (by decide) (by decide)
theorem S_X10_strikeForgotten_L5 {b : Nat → Bool} : ∀ (n : Nat) {l1 : Nat} {l2 : Nat} {l3 : Int32} {l4 : Int32} {M : gM}, q_HT 0 M → (q_Kd M l1 (1, 0)) → (q_Kd M l2 (8, 0)) → (0 ≤ l4.toInt ∧ l4.toInt ≤ 7) → 7 - l4.toInt < (n : Int) → Ok (F_X10_strikeForgotten_L5 n (some l1) (some l2) l3 l4 M) (q_PI b M (-2147483648) (2147483647)) := by
  intro n
  induction n with
  | zero =>
    intro l1 l2 l3 l4 M H K_l1 K_l2 h_l4  hm
    exfalso
    omega
  | succ n ih =>
    intro l1 l2 l3 l4 M H K_l1 K_l2 h_l4  hm
    exact S_X10_strikeForgotten_b5 (b := b) (m5 := 7 - l4.toInt) (fun H K_l1 K_l2 h_l4  hmz => ih H K_l1 K_l2 h_l4  (by omega)) H K_l1 K_l2 h_l4  (Int.le_refl _)
theorem S_X10_strikeForgotten_b0 {b : Nat → Bool} {l1 : Nat} {l2 : Nat} {M : gM} (H : q_HT 0 M) (K_l1 : q_Kd M l1 (1, 0)) (K_l2 : q_Kd M l2 (8, 0)) : Ok (F_X10_strikeForgotten_b0 (some l1) (some l2) M) (q_PI b M (-2147483648) (2147483647)) := by
  delta F_X10_strikeForgotten_b0
  exact w_PI (q_rf _ _) (S_X10_strikeForgotten_L5 (b := b)  g_fuel H K_l1 K_l2 (by decide) (q_fu (by rw [L_0]; omega))) (by decide) (by decide)
theorem S_X10_strikeForgotten {b : Nat → Bool} {l0 : Nat} {l1 : Nat} {l2 : Nat} {M : gM} (H : q_HT 0 M) (K_l0 : q_Kd M l0 (10, 0)) (K_l1 : q_Kd M l1 (1, 0)) (K_l2 : q_Kd M l2 (8, 0)) : Ok (F_X10_strikeForgotten (some l0) (some l1) (some l2) M) (q_PI b M (-2147483648) (2147483647)) := by
  delta F_X10_strikeForgotten
  exact w_PI (q_rf _ _) (S_X10_strikeForgotten_b0 (b := b)  H K_l1 K_l2) (by decide) (by decide)
set_option maxHeartbeats 1000000 in
theorem S_X10_pass_b16 {b : Nat → Bool} {k16 : Option Nat → Option Nat → Option Nat → Int32 → gM → Option (Int32 × gM)} {m16 : Int} {l0 : Nat} {l1 : Nat} {l2 : Nat} {l4 : Int32} {M : gM} (hk16 : ∀ {l0 : Nat} {l1 : Nat} {l2 : Nat} {l4 : Int32} {M : gM}, q_HT 0 M → (q_Kd M l0 (10, 0)) → (q_Kd M l1 (1, 0)) → (q_Kd M l2 (8, 0)) → (0 ≤ l4.toInt ∧ l4.toInt ≤ 7) → 7 - l4.toInt < m16 → Ok (k16 (some l0) (some l1) (some l2) l4 M) (q_PI b M (-2147483648) (2147483647))) (H : q_HT 0 M) (K_l0 : q_Kd M l0 (10, 0)) (K_l1 : q_Kd M l1 (1, 0)) (K_l2 : q_Kd M l2 (8, 0)) (h_l4 : 0 ≤ l4.toInt ∧ l4.toInt ≤ 7) (hm16 : 7 - l4.toInt ≤ m16) : Ok (F_X10_pass_b16 k16 (some l0) (some l1) (some l2) l4 M) (q_PI b M (-2147483648) (2147483647)) := by
  delta F_X10_pass_b16
  refine d_gI (lo := 0) (hi := 7) H K_l1 (by decide) rfl (fun v1 q_v1 e_v1 => ?_)
  refine Ok_i (fun c_1 => ?_) (fun c_1 => ?_)
  · skip
    replace c_1 := i_le c_1
    refine c_gO K_l0 ?_
    refine Ok_b (S_X10_strikeForgotten (b := b) H K_l0 K_l1 K_l2) (fun yM4 zM4 => ?_)
    obtain ⟨v3, M4⟩ := yM4
    obtain ⟨e_v3, HM4, fM4⟩ := zM4
    try dsimp only at e_v3 HM4 fM4
    have K_2 := (q_mo K_l2 (by decide) fM4)
    refine c_gIt K_2 (fun v5 q_v5 => ?_)
    refine c_pI (b := b) (lo := -2147483648) (hi := 2147483647) HM4 K_2 (by decide) rfl (i_rng _) rfl (fun M6 HM6 fM6 q_M6 o_M6 rr_M6 => ?_)
    have g_3 := q_tr fM4 fM6
    exact r_PI (i_rng _) HM6 g_3
  · skip
    replace c_1 := i_nle c_1
    refine d_gR (q := (20, 7)) H K_l2 (by decide) rfl (fun v7 r_v7 K_v7 => ?_)
    refine c_gRs K_l2 r_v7 ?_
    refine c_aI K_v7 (by omega) (by omega) (fun v9 => ?_)
    refine c_sI (b := b) H K_v7 (by omega) (by omega) (fun M10 HM10 fM10 o_M10 rr_M10 => ?_)
    have q_4 := (congrFun (o_M10 _ (q_dn K_l1 K_v7 (Or.inl (Nat.le_of_ble_eq_true rfl)))) 7).trans q_v1
    have r_5 := (congrFun (congrFun rr_M10 _) 2).trans r_v7
    have K_6 := (q_mo K_l0 (by decide) fM10)
    have K_7 := (q_mo K_l1 (by decide) fM10)
    have K_8 := (q_mo K_l2 (by decide) fM10)
    have a_9 := i_addc (x := l4) (c := 1) L_1 (by omega) (by omega)
    exact w_PI fM10 (hk16 HM10 K_6 K_7 K_8 (by omega) (by omega)) (by decide) (by decide)
theorem S_X10_pass_L16 {b : Nat → Bool} : ∀ (n : Nat) {l0 : Nat} {l1 : Nat} {l2 : Nat} {l4 : Int32} {M : gM}, q_HT 0 M → (q_Kd M l0 (10, 0)) → (q_Kd M l1 (1, 0)) → (q_Kd M l2 (8, 0)) → (0 ≤ l4.toInt ∧ l4.toInt ≤ 7) → 7 - l4.toInt < (n : Int) → Ok (F_X10_pass_L16 n (some l0) (some l1) (some l2) l4 M) (q_PI b M (-2147483648) (2147483647)) := by
  intro n
  induction n with
  | zero =>
    intro l0 l1 l2 l4 M H K_l0 K_l1 K_l2 h_l4  hm
    exfalso
    omega
  | succ n ih =>
    intro l0 l1 l2 l4 M H K_l0 K_l1 K_l2 h_l4  hm
    exact S_X10_pass_b16 (b := b) (m16 := 7 - l4.toInt) (fun H K_l0 K_l1 K_l2 h_l4  hmz => ih H K_l0 K_l1 K_l2 h_l4  (by omega)) H K_l0 K_l1 K_l2 h_l4  (Int.le_refl _)
theorem S_X10_pass_b0 {b : Nat → Bool} {l0 : Nat} {l1 : Nat} {l2 : Nat} {l3 : Option Nat} {M : gM} (H : q_HT 0 M) (K_l0 : q_Kd M l0 (10, 0)) (K_l1 : q_Kd M l1 (1, 0)) (K_l2 : q_Kd M l2 (8, 0)) (K_l3 : l3 = none ∨ ∃ i, l3 = some i ∧ q_Kd M i (6, 0)) : Ok (F_X10_pass_b0 (some l0) (some l1) (some l2) l3 M) (q_PI b M (-2147483648) (2147483647)) := by
  delta F_X10_pass_b0
  refine c_gO K_l0 ?_
  refine Ok_b (S_X10_weigh (b := b) H K_l0 K_l1 K_l2 K_l3) (fun M2 zM2 => ?_)
  obtain ⟨HM2, fM2⟩ := zM2
  have K_1 := (q_mo K_l0 (by decide) fM2)
  refine c_gC K_1 ?_
  have K_2 := (q_mo K_l1 (by decide) fM2)
  have K_3 := (q_mo K_l2 (by decide) fM2)
  refine Ok_b (S_X10_fadeAll (b := b) HM2 K_1 K_2 K_3) (fun M4 zM4 => ?_)
  obtain ⟨HM4, fM4⟩ := zM4
  have g_4 := q_tr fM2 fM4
  have K_5 := (q_mo K_1 (by decide) fM4)
  have K_6 := (q_mo K_2 (by decide) fM4)
  have K_7 := (q_mo K_3 (by decide) fM4)
  exact w_PI g_4 (S_X10_pass_L16 (b := b)  g_fuel HM4 K_5 K_6 K_7 (by decide) (q_fu (by rw [L_0]; omega))) (by decide) (by decide)
theorem S_X10_pass {b : Nat → Bool} {l0 : Nat} {l1 : Nat} {l2 : Nat} {l3 : Option Nat} {M : gM} (H : q_HT 0 M) (K_l0 : q_Kd M l0 (10, 0)) (K_l1 : q_Kd M l1 (1, 0)) (K_l2 : q_Kd M l2 (8, 0)) (K_l3 : l3 = none ∨ ∃ i, l3 = some i ∧ q_Kd M i (6, 0)) : Ok (F_X10_pass (some l0) (some l1) (some l2) l3 M) (q_PI b M (-2147483648) (2147483647)) := by
  delta F_X10_pass
  exact w_PI (q_rf _ _) (S_X10_pass_b0 (b := b)  H K_l0 K_l1 K_l2 K_l3) (by decide) (by decide)
theorem S_X11_year_b23 {b : Nat → Bool}  {M : gM} (H : q_HT 0 M) : Ok (F_X11_year_b23 M) (q_PI b M (-2147483648) (2147483647)) := by
  delta F_X11_year_b23
  exact r_PI (i_rng _) H (q_rf _ _)
set_option maxHeartbeats 1000000 in
theorem S_X11_year_b0 {b : Nat → Bool} {l0 : Nat} {M : gM} (H : q_HT 0 M) (K_l0 : q_Kd M l0 (11, 0)) : Ok (F_X11_year_b0 (some l0) M) (q_PI b M (-2147483648) (2147483647)) := by
  delta F_X11_year_b0
  refine d_gR (q := (1, 0)) H K_l0 (by decide) rfl (fun v1 r_v1 K_v1 => ?_)
  refine d_gI (lo := 0) (hi := 1) H K_v1 (by decide) rfl (fun v2 q_v2 e_v2 => ?_)
  refine Ok_i (fun c_1 => ?_) (fun c_1 => ?_)
  · skip
    replace c_1 := i_eq c_1
    rw [L_0] at c_1
    exact w_PI (q_rf _ _) (S_X11_year_b23 (b := b)  H) (by decide) (by decide)
  · skip
    replace c_1 := i_ne c_1
    rw [L_0] at c_1
    refine d_gR (q := (8, 0)) H K_l0 (by decide) rfl (fun v3 r_v3 K_v3 => ?_)
    refine c_gIt K_v3 (fun v4 q_v4 => ?_)
    refine Ok_i (fun c_2 => ?_) (fun c_2 => ?_)
    · skip
      replace c_2 := i_lt c_2
      rw [L_999] at c_2
      refine d_gR (q := (4, 0)) H K_l0 (by decide) rfl (fun v5 r_v5 K_v5 => ?_)
      refine c_gRs K_l0 r_v3 ?_
      refine c_gO K_v5 ?_
      refine Ok_b (S_X4_keep (b := b) H K_v5 K_v3) (fun M8 zM8 => ?_)
      obtain ⟨HM8, fM8⟩ := zM8
      have K_3 := (q_mo K_l0 (by decide) fM8)
      refine d_gR (q := (10, 0)) HM8 K_3 (by decide) rfl (fun v9 r_v9 K_v9 => ?_)
      refine d_gR (q := (1, 0)) HM8 K_3 (by decide) rfl (fun v10 r_v10 K_v10 => ?_)
      refine d_gR (q := (8, 0)) HM8 K_3 (by decide) rfl (fun v11 r_v11 K_v11 => ?_)
      refine c_gO K_3 ?_
      refine Ok_b (S_X11_ruleInForce HM8 K_3) (fun v13 e_v13 => ?_)
      refine c_gO K_v9 ?_
      refine Ok_b (S_X10_pass (b := b) HM8 K_v9 K_v10 K_v11 e_v13) (fun yM16 zM16 => ?_)
      obtain ⟨v15, M16⟩ := yM16
      obtain ⟨e_v15, HM16, fM16⟩ := zM16
      try dsimp only at e_v15 HM16 fM16
      have g_4 := q_tr fM8 fM16
      exact r_PI (i_rng _) HM16 g_4
    · skip
      replace c_2 := i_nlt c_2
      rw [L_999] at c_2
      exact w_PI (q_rf _ _) (S_X11_year_b23 (b := b)  H) (by decide) (by decide)
theorem S_X11_year {b : Nat → Bool} {l0 : Nat} {M : gM} (H : q_HT 0 M) (K_l0 : q_Kd M l0 (11, 0)) : Ok (F_X11_year (some l0) M) (q_PI b M (-2147483648) (2147483647)) := by
  delta F_X11_year
  exact w_PI (q_rf _ _) (S_X11_year_b0 (b := b)  H K_l0) (by decide) (by decide)
theorem S_X8_takes_b63 {b : Nat → Bool} {s0 : Nat} {s1 : Int32} {s2 : Int32} {s3 : Int32} {s4 : Int32} {M : gM} (H : q_HT 0 M) (K_s0 : q_Kd M s0 (8, 0)) (h_s1 : 0 ≤ s1.toInt ∧ s1.toInt ≤ 6) (h_s2 : 0 ≤ s2.toInt ∧ s2.toInt ≤ 6) : Ok (F_X8_takes_b63 (some s0) s1 s2 s3 s4 M) (q_PI b M (0) (1)) := by
  delta F_X8_takes_b63
  refine c_gO K_s0 ?_
  refine Ok_b (S_X8_learn (b := b) H K_s0 h_s1 h_s2) (fun M2 zM2 => ?_)
  obtain ⟨HM2, fM2⟩ := zM2
  exact r_PI (by decide) HM2 fM2
set_option maxHeartbeats 1000000 in
theorem S_X8_takes_b0 {b : Nat → Bool} {l0 : Nat} {l1 : Int32} {l2 : Int32} {l3 : Int32} {l4 : Int32} {M : gM} (H : q_HT 0 M) (K_l0 : q_Kd M l0 (8, 0)) (h_l1 : 0 ≤ l1.toInt ∧ l1.toInt ≤ 6) (h_l2 : 0 ≤ l2.toInt ∧ l2.toInt ≤ 6) (h_l3 : 0 ≤ l3.toInt ∧ l3.toInt ≤ 6) : Ok (F_X8_takes_b0 (some l0) l1 l2 l3 l4 M) (q_PI b M (0) (1)) := by
  delta F_X8_takes_b0
  refine d_gR (q := (20, 49)) H K_l0 (by decide) rfl (fun v1 r_v1 K_v1 => ?_)
  have a_1 := i_mulR (x := l2) (c := (7 : Int32)) L_7 (by omega) (by omega)
  have a_2 := i_add (x := (l2 * (7 : Int32))) (y := l3) (by omega) (by omega)
  refine c_aI K_v1 (by omega) (by omega) (fun v2 => ?_)
  refine c_gRs K_l0 r_v1 ?_
  have a_3 := i_mulR (x := l1) (c := (7 : Int32)) L_7 (by omega) (by omega)
  have a_4 := i_add (x := (l1 * (7 : Int32))) (y := l3) (by omega) (by omega)
  refine c_aI K_v1 (by omega) (by omega) (fun v4 => ?_)
  refine Ok_i (fun c_5 => ?_) (fun c_5 => ?_)
  · skip
    replace c_5 := i_lt c_5
    refine d_gR (q := (20, 49)) H K_l0 (by decide) rfl (fun v5 r_v5 K_v5 => ?_)
    refine c_aI K_v5 (by omega) (by omega) (fun v6 => ?_)
    refine Ok_i (fun c_6 => ?_) (fun c_6 => ?_)
    · skip
      replace c_6 := i_eq c_6
      rw [L_0] at c_6
      exact w_PI (q_rf _ _) (S_X8_takes_b63 (b := b)  H K_l0 h_l1 h_l3) (by decide) (by decide)
    · skip
      replace c_6 := i_ne c_6
      rw [L_0] at c_6
      exact w_PI (q_rf _ _) (S_X8_takes_b63 (b := b)  H K_l0 h_l1 h_l3) (by decide) (by decide)
  · skip
    replace c_5 := i_nlt c_5
    exact r_PI (by decide) H (q_rf _ _)
theorem S_X8_takes {b : Nat → Bool} {l0 : Nat} {l1 : Int32} {l2 : Int32} {l3 : Int32} {l4 : Int32} {M : gM} (H : q_HT 0 M) (K_l0 : q_Kd M l0 (8, 0)) (h_l1 : 0 ≤ l1.toInt ∧ l1.toInt ≤ 6) (h_l2 : 0 ≤ l2.toInt ∧ l2.toInt ≤ 6) (h_l3 : 0 ≤ l3.toInt ∧ l3.toInt ≤ 6) : Ok (F_X8_takes (some l0) l1 l2 l3 l4 M) (q_PI b M (0) (1)) := by
  delta F_X8_takes
  exact w_PI (q_rf _ _) (S_X8_takes_b0 (b := b)  H K_l0 h_l1 h_l2 h_l3) (by decide) (by decide)
theorem S_X11_spread_b78 {b : Nat → Bool} {l4 : Int32} {M : gM} (H : q_HT 0 M) : Ok (F_X11_spread_b78 l4 M) (q_PI b M (-2147483648) (2147483647)) := by
  delta F_X11_spread_b78
  exact r_PI (i_rng _) H (q_rf _ _)
theorem S_X11_spread_b72 {b : Nat → Bool} {k9 : Option Nat → Int32 → Int32 → Int32 → Int32 → Int32 → Int32 → gM → Option (Int32 × gM)} {m9 : Int} {l0 : Nat} {l1 : Int32} {l2 : Int32} {l3 : Int32} {l4 : Int32} {l5 : Int32} {l6 : Int32} {M : gM} (hk9 : ∀ {l0 : Nat} {l1 : Int32} {l2 : Int32} {l3 : Int32} {l4 : Int32} {l5 : Int32} {l6 : Int32} {M : gM}, q_HT 0 M → (q_Kd M l0 (11, 0)) → (0 ≤ l1.toInt ∧ l1.toInt ≤ 6) → (0 ≤ l2.toInt ∧ l2.toInt ≤ 6) → (0 ≤ l3.toInt ∧ l3.toInt ≤ 6) → (0 ≤ l5.toInt ∧ l5.toInt ≤ 3) → (0 ≤ l6.toInt ∧ l6.toInt ≤ 7) → 7 - l6.toInt < m9 → Ok (k9 (some l0) l1 l2 l3 l4 l5 l6 M) (q_PI b M (-2147483648) (2147483647))) (H : q_HT 0 M) (K_l0 : q_Kd M l0 (11, 0)) (h_l1 : 0 ≤ l1.toInt ∧ l1.toInt ≤ 6) (h_l2 : 0 ≤ l2.toInt ∧ l2.toInt ≤ 6) (h_l3 : 0 ≤ l3.toInt ∧ l3.toInt ≤ 6) (h_l5 : 0 ≤ l5.toInt ∧ l5.toInt ≤ 3) (h_l6 : 0 ≤ l6.toInt ∧ l6.toInt ≤ 6) (hm9 : 7 - l6.toInt ≤ m9) : Ok (F_X11_spread_b72 k9 (some l0) l1 l2 l3 l4 l5 l6 M) (q_PI b M (-2147483648) (2147483647)) := by
  delta F_X11_spread_b72
  have a_1 := i_addc (x := l6) (c := 1) L_1 (by omega) (by omega)
  exact w_PI (q_rf _ _) (hk9 H K_l0 h_l1 h_l2 h_l3 h_l5 (by omega) (by omega)) (by decide) (by decide)
set_option maxHeartbeats 1000000 in
theorem S_X11_spread_b9 {b : Nat → Bool} {k9 : Option Nat → Int32 → Int32 → Int32 → Int32 → Int32 → Int32 → gM → Option (Int32 × gM)} {m9 : Int} {l0 : Nat} {l1 : Int32} {l2 : Int32} {l3 : Int32} {l4 : Int32} {l5 : Int32} {l6 : Int32} {M : gM} (hk9 : ∀ {l0 : Nat} {l1 : Int32} {l2 : Int32} {l3 : Int32} {l4 : Int32} {l5 : Int32} {l6 : Int32} {M : gM}, q_HT 0 M → (q_Kd M l0 (11, 0)) → (0 ≤ l1.toInt ∧ l1.toInt ≤ 6) → (0 ≤ l2.toInt ∧ l2.toInt ≤ 6) → (0 ≤ l3.toInt ∧ l3.toInt ≤ 6) → (0 ≤ l5.toInt ∧ l5.toInt ≤ 3) → (0 ≤ l6.toInt ∧ l6.toInt ≤ 7) → 7 - l6.toInt < m9 → Ok (k9 (some l0) l1 l2 l3 l4 l5 l6 M) (q_PI b M (-2147483648) (2147483647))) (H : q_HT 0 M) (K_l0 : q_Kd M l0 (11, 0)) (h_l1 : 0 ≤ l1.toInt ∧ l1.toInt ≤ 6) (h_l2 : 0 ≤ l2.toInt ∧ l2.toInt ≤ 6) (h_l3 : 0 ≤ l3.toInt ∧ l3.toInt ≤ 6) (h_l5 : 0 ≤ l5.toInt ∧ l5.toInt ≤ 3) (h_l6 : 0 ≤ l6.toInt ∧ l6.toInt ≤ 7) (hm9 : 7 - l6.toInt ≤ m9) : Ok (F_X11_spread_b9 k9 (some l0) l1 l2 l3 l4 l5 l6 M) (q_PI b M (-2147483648) (2147483647)) := by
  delta F_X11_spread_b9
  refine d_gR (q := (1, 0)) H K_l0 (by decide) rfl (fun v1 r_v1 K_v1 => ?_)
  refine d_gI (lo := 0) (hi := 7) H K_v1 (by decide) rfl (fun v2 q_v2 e_v2 => ?_)
  refine Ok_i (fun c_1 => ?_) (fun c_1 => ?_)
  · skip
    replace c_1 := i_le c_1
    exact w_PI (q_rf _ _) (S_X11_spread_b78 (b := b)  H) (by decide) (by decide)
  · skip
    replace c_1 := i_nle c_1
    refine Ok_i (fun c_2 => ?_) (fun c_2 => ?_)
    · skip
      replace c_2 := i_le c_2
      rw [L_3] at c_2
      exact w_PI (q_rf _ _) (S_X11_spread_b78 (b := b)  H) (by decide) (by decide)
    · skip
      replace c_2 := i_nle c_2
      rw [L_3] at c_2
      refine Ok_i (fun c_3 => ?_) (fun c_3 => ?_)
      · skip
        replace c_3 := i_eq c_3
        exact w_PI (q_rf _ _) (S_X11_spread_b72 (b := b) hk9 H K_l0 h_l1 h_l2 h_l3 h_l5 (by omega) (by omega)) (by decide) (by decide)
      · skip
        replace c_3 := i_ne c_3
        refine c_gRs K_l0 r_v1 ?_
        refine d_gR (q := (20, 7)) H K_v1 (by decide) rfl (fun v4 r_v4 K_v4 => ?_)
        refine c_aI K_v4 (by omega) (by omega) (fun v5 => ?_)
        refine Ok_b (S_X11_bit H) (fun v6 e_v6 => ?_)
        replace e_v6 := q_un e_v6
        refine Ok_i (fun c_4 => ?_) (fun c_4 => ?_)
        · skip
          replace c_4 := i_eq c_4
          rw [L_1] at c_4
          refine d_gR (q := (8, 0)) H K_l0 (by decide) rfl (fun v7 r_v7 K_v7 => ?_)
          refine c_gO K_v7 ?_
          refine Ok_b (S_X8_takes (b := b) H K_v7 (by omega) h_l1 h_l3) (fun yM10 zM10 => ?_)
          obtain ⟨v9, M10⟩ := yM10
          obtain ⟨e_v9, HM10, fM10⟩ := zM10
          try dsimp only at e_v9 HM10 fM10
          refine Ok_i (fun c_5 => ?_) (fun c_5 => ?_)
          · skip
            replace c_5 := i_eq c_5
            rw [L_0] at c_5
            have K_6 := (q_mo K_l0 (by decide) fM10)
            have a_7 := i_addc (x := l5) (c := 1) L_1 (by omega) (by omega)
            exact w_PI fM10 (S_X11_spread_b72 (b := b) hk9 HM10 K_6 h_l1 h_l2 h_l3 (by omega) (by omega) (by omega)) (by decide) (by decide)
          · skip
            replace c_5 := i_ne c_5
            rw [L_0] at c_5
            have K_8 := (q_mo K_l0 (by decide) fM10)
            have a_9 := i_addc (x := l5) (c := 1) L_1 (by omega) (by omega)
            exact w_PI fM10 (S_X11_spread_b72 (b := b) hk9 HM10 K_8 h_l1 h_l2 h_l3 (by omega) (by omega) (by omega)) (by decide) (by decide)
        · skip
          replace c_4 := i_ne c_4
          rw [L_1] at c_4
          exact w_PI (q_rf _ _) (S_X11_spread_b72 (b := b) hk9 H K_l0 h_l1 h_l2 h_l3 h_l5 (by omega) (by omega)) (by decide) (by decide)
theorem S_X11_spread_L9 {b : Nat → Bool} : ∀ (n : Nat) {l0 : Nat} {l1 : Int32} {l2 : Int32} {l3 : Int32} {l4 : Int32} {l5 : Int32} {l6 : Int32} {M : gM}, q_HT 0 M → (q_Kd M l0 (11, 0)) → (0 ≤ l1.toInt ∧ l1.toInt ≤ 6) → (0 ≤ l2.toInt ∧ l2.toInt ≤ 6) → (0 ≤ l3.toInt ∧ l3.toInt ≤ 6) → (0 ≤ l5.toInt ∧ l5.toInt ≤ 3) → (0 ≤ l6.toInt ∧ l6.toInt ≤ 7) → 7 - l6.toInt < (n : Int) → Ok (F_X11_spread_L9 n (some l0) l1 l2 l3 l4 l5 l6 M) (q_PI b M (-2147483648) (2147483647)) := by
  intro n
  induction n with
  | zero =>
    intro l0 l1 l2 l3 l4 l5 l6 M H K_l0 h_l1 h_l2 h_l3 h_l5 h_l6  hm
    exfalso
    omega
  | succ n ih =>
    intro l0 l1 l2 l3 l4 l5 l6 M H K_l0 h_l1 h_l2 h_l3 h_l5 h_l6  hm
    exact S_X11_spread_b9 (b := b) (m9 := 7 - l6.toInt) (fun H K_l0 h_l1 h_l2 h_l3 h_l5 h_l6  hmz => ih H K_l0 h_l1 h_l2 h_l3 h_l5 h_l6  (by omega)) H K_l0 h_l1 h_l2 h_l3 h_l5 h_l6  (Int.le_refl _)
theorem S_X11_spread_b0 {b : Nat → Bool} {l0 : Nat} {l1 : Int32} {l2 : Int32} {l3 : Int32} {M : gM} (H : q_HT 0 M) (K_l0 : q_Kd M l0 (11, 0)) (h_l1 : 0 ≤ l1.toInt ∧ l1.toInt ≤ 6) (h_l2 : 0 ≤ l2.toInt ∧ l2.toInt ≤ 6) (h_l3 : 0 ≤ l3.toInt ∧ l3.toInt ≤ 6) : Ok (F_X11_spread_b0 (some l0) l1 l2 l3 M) (q_PI b M (-2147483648) (2147483647)) := by
  delta F_X11_spread_b0
  exact w_PI (q_rf _ _) (S_X11_spread_L9 (b := b)  g_fuel H K_l0 h_l1 h_l2 h_l3 (by decide) (by decide) (q_fu (by rw [L_0]; omega))) (by decide) (by decide)
theorem S_X11_spread {b : Nat → Bool} {l0 : Nat} {l1 : Int32} {l2 : Int32} {l3 : Int32} {M : gM} (H : q_HT 0 M) (K_l0 : q_Kd M l0 (11, 0)) (h_l1 : 0 ≤ l1.toInt ∧ l1.toInt ≤ 6) (h_l2 : 0 ≤ l2.toInt ∧ l2.toInt ≤ 6) (h_l3 : 0 ≤ l3.toInt ∧ l3.toInt ≤ 6) : Ok (F_X11_spread (some l0) l1 l2 l3 M) (q_PI b M (-2147483648) (2147483647)) := by
  delta F_X11_spread
  exact w_PI (q_rf _ _) (S_X11_spread_b0 (b := b)  H K_l0 h_l1 h_l2 h_l3) (by decide) (by decide)
theorem S_X11_tell_b33 {b : Nat → Bool}  {M : gM} (H : q_HT 0 M) : Ok (F_X11_tell_b33 M) (q_PI b M (-2147483648) (2147483647)) := by
  delta F_X11_tell_b33
  exact r_PI (i_rng _) H (q_rf _ _)
theorem S_X11_tell_b94 {b : Nat → Bool}  {M : gM} (H : q_HT 0 M) : Ok (F_X11_tell_b94 M) (q_PI b M (-2147483648) (2147483647)) := by
  delta F_X11_tell_b94
  exact r_PI (i_rng _) H (q_rf _ _)
set_option maxHeartbeats 1000000 in
theorem S_X11_tell_b0 {b : Nat → Bool} {l0 : Nat} {l1 : Int32} {l2 : Int32} {l3 : Int32} {l4 : Int32} {M : gM} (H : q_HT 0 M) (K_l0 : q_Kd M l0 (11, 0)) : Ok (F_X11_tell_b0 (some l0) l1 l2 l3 l4 M) (q_PI b M (-2147483648) (2147483647)) := by
  delta F_X11_tell_b0
  refine c_gO K_l0 ?_
  refine Ok_b (S_X11_isHeir H K_l0) (fun v2 e_v2 => ?_)
  obtain ⟨e_v2, w_v2⟩ := e_v2
  refine Ok_i (fun c_1 => ?_) (fun c_1 => ?_)
  · skip
    replace c_1 := i_eq c_1
    rw [L_0] at c_1
    exact w_PI (q_rf _ _) (S_X11_tell_b33 (b := b)  H) (by decide) (by decide)
  · skip
    replace c_1 := i_ne c_1
    rw [L_0] at c_1
    have x_v2 := w_v2 (by omega)
    refine Ok_b (S_X11_isKnown H K_l0) (fun v3 e_v3 => ?_)
    obtain ⟨e_v3, w_v3⟩ := e_v3
    refine Ok_i (fun c_2 => ?_) (fun c_2 => ?_)
    · skip
      replace c_2 := i_eq c_2
      rw [L_0] at c_2
      exact w_PI (q_rf _ _) (S_X11_tell_b33 (b := b)  H) (by decide) (by decide)
    · skip
      replace c_2 := i_ne c_2
      rw [L_0] at c_2
      have x_v3 := w_v3 (by omega)
      refine d_gR (q := (1, 0)) H K_l0 (by decide) rfl (fun v4 r_v4 K_v4 => ?_)
      refine d_gR (q := (20, 7)) H K_v4 (by decide) rfl (fun v5 r_v5 K_v5 => ?_)
      refine c_aI K_v5 (by omega) (by omega) (fun v6 => ?_)
      refine Ok_b (S_X11_bit H) (fun v7 e_v7 => ?_)
      replace e_v7 := q_un e_v7
      refine Ok_i (fun c_3 => ?_) (fun c_3 => ?_)
      · skip
        replace c_3 := i_eq c_3
        rw [L_0] at c_3
        exact w_PI (q_rf _ _) (S_X11_tell_b33 (b := b)  H) (by decide) (by decide)
      · skip
        replace c_3 := i_ne c_3
        rw [L_0] at c_3
        refine d_gR (q := (4, 0)) H K_l0 (by decide) rfl (fun v8 r_v8 K_v8 => ?_)
        refine d_gR (q := (8, 0)) H K_l0 (by decide) rfl (fun v9 r_v9 K_v9 => ?_)
        refine c_gO K_v8 ?_
        refine Ok_b (S_X4_keep (b := b) H K_v8 K_v9) (fun M11 zM11 => ?_)
        obtain ⟨HM11, fM11⟩ := zM11
        have K_4 := (q_mo K_l0 (by decide) fM11)
        refine d_gR (q := (8, 0)) HM11 K_4 (by decide) rfl (fun v12 r_v12 K_v12 => ?_)
        refine c_gO K_v12 ?_
        refine Ok_b (S_X8_takes (b := b) HM11 K_v12 (by omega) (by omega) (by omega)) (fun yM15 zM15 => ?_)
        obtain ⟨v14, M15⟩ := yM15
        obtain ⟨e_v14, HM15, fM15⟩ := zM15
        try dsimp only at e_v14 HM15 fM15
        have g_5 := q_tr fM11 fM15
        refine Ok_i (fun c_6 => ?_) (fun c_6 => ?_)
        · skip
          replace c_6 := i_eq c_6
          rw [L_0] at c_6
          exact r_PI (i_rng _) HM15 g_5
        · skip
          replace c_6 := i_ne c_6
          rw [L_0] at c_6
          refine Ok_i (fun c_7 => ?_) (fun c_7 => ?_)
          · skip
            replace c_7 := i_eq c_7
            rw [L_0] at c_7
            exact w_PI g_5 (S_X11_tell_b94 (b := b)  HM15) (by decide) (by decide)
          · skip
            replace c_7 := i_ne c_7
            rw [L_0] at c_7
            have K_8 := (q_mo K_4 (by decide) fM15)
            refine d_gR (q := (8, 0)) HM15 K_8 (by decide) rfl (fun v16 r_v16 K_v16 => ?_)
            refine d_gR (q := (20, 49)) HM15 K_v16 (by decide) rfl (fun v17 r_v17 K_v17 => ?_)
            have a_9 := i_mulR (x := l1) (c := (7 : Int32)) L_7 (by omega) (by omega)
            have a_10 := i_add (x := (l1 * (7 : Int32))) (y := l3) (by omega) (by omega)
            refine c_aI K_v17 (by omega) (by omega) (fun v18 => ?_)
            refine d_gR (q := (1, 0)) HM15 K_8 (by decide) rfl (fun v19 r_v19 K_v19 => ?_)
            refine d_gR (q := (20, 7)) HM15 K_v19 (by decide) rfl (fun v20 r_v20 K_v20 => ?_)
            refine c_aI K_v20 (by omega) (by omega) (fun v21 => ?_)
            refine Ok_i (fun c_11 => ?_) (fun c_11 => ?_)
            · skip
              replace c_11 := i_eq c_11
              exact w_PI g_5 (S_X11_tell_b94 (b := b)  HM15) (by decide) (by decide)
            · skip
              replace c_11 := i_ne c_11
              refine c_gC K_8 ?_
              refine Ok_b (S_X11_spread (b := b) HM15 K_8 (by omega) (by omega) (by omega)) (fun yM24 zM24 => ?_)
              obtain ⟨v23, M24⟩ := yM24
              obtain ⟨e_v23, HM24, fM24⟩ := zM24
              try dsimp only at e_v23 HM24 fM24
              have g_12 := q_tr g_5 fM24
              exact r_PI (i_rng _) HM24 g_12
