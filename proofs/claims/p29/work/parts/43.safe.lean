theorem S_X5_loss_b0 {b : Nat → Bool} {l0 : Nat} {l1 : Nat} {M : gM} (H : q_HT 0 M) (K_l0 : q_Kd M l0 (5, 0)) (K_l1 : q_Kd M l1 (6, 0)) : Ok (F_X5_loss_b0 (some l0) (some l1) M) (q_PJ b M) := by
  delta F_X5_loss_b0
  have z_0 := L_0
  refine d_gR3 H K_l1 (by decide) rfl (fun v1 n_v1 K_v1 hn_v1 => ?_)
  exact w_PJ (q_rf _ _) (S_X5_loss_L7 (b := b)  g_fuel H K_l0 K_l1 K_v1 hn_v1 (by decide) (q_fu (by omega)))
theorem S_X5_loss {b : Nat → Bool} {l0 : Nat} {l1 : Nat} {M : gM} (H : q_HT 0 M) (K_l0 : q_Kd M l0 (5, 0)) (K_l1 : q_Kd M l1 (6, 0)) : Ok (F_X5_loss (some l0) (some l1) M) (q_PJ b M) := by
  delta F_X5_loss
  exact w_PJ (q_rf _ _) (S_X5_loss_b0 (b := b)  H K_l0 K_l1)
theorem S_X10_weigh_b127 {b : Nat → Bool} {k3 : Option Nat → Option Nat → Option Nat → Option Nat → Int32 → gM → Option gM} {m3 : Int} {k15 : Option Nat → Option Nat → Option Nat → Option Nat → Int32 → Int32 → gM → Option gM} {m15 : Int} {l0 : Nat} {l1 : Nat} {l2 : Nat} {l3 : Option Nat} {l4 : Int32} {l5 : Int32} {M : gM} (hk3 : ∀ {l0 : Nat} {l1 : Nat} {l2 : Nat} {l3 : Option Nat} {l4 : Int32} {M : gM}, q_HT 0 M → (q_Kd M l0 (10, 0)) → (q_Kd M l1 (1, 0)) → (q_Kd M l2 (8, 0)) → (l3 = none ∨ ∃ i, l3 = some i ∧ q_Kd M i (6, 0)) → (0 ≤ l4.toInt ∧ l4.toInt ≤ 7) → 7 - l4.toInt < m3 → Ok (k3 (some l0) (some l1) (some l2) l3 l4 M) (q_PV b M)) (hk15 : ∀ {l0 : Nat} {l1 : Nat} {l2 : Nat} {l3 : Option Nat} {l4 : Int32} {l5 : Int32} {M : gM}, q_HT 0 M → (q_Kd M l0 (10, 0)) → (q_Kd M l1 (1, 0)) → (q_Kd M l2 (8, 0)) → (l3 = none ∨ ∃ i, l3 = some i ∧ q_Kd M i (6, 0)) → (0 ≤ l4.toInt ∧ l4.toInt ≤ 6) → (0 ≤ l5.toInt ∧ l5.toInt ≤ 7) → 7 - l4.toInt ≤ m3 → 7 - l5.toInt < m15 → Ok (k15 (some l0) (some l1) (some l2) l3 l4 l5 M) (q_PV b M)) (H : q_HT 0 M) (K_l0 : q_Kd M l0 (10, 0)) (K_l1 : q_Kd M l1 (1, 0)) (K_l2 : q_Kd M l2 (8, 0)) (K_l3 : l3 = none ∨ ∃ i, l3 = some i ∧ q_Kd M i (6, 0)) (h_l4 : 0 ≤ l4.toInt ∧ l4.toInt ≤ 6) (h_l5 : 0 ≤ l5.toInt ∧ l5.toInt ≤ 6) (hm3 : 7 - l4.toInt ≤ m3) (hm15 : 7 - l5.toInt ≤ m15) : Ok (F_X10_weigh_b127 k3 k15 (some l0) (some l1) (some l2) l3 l4 l5 M) (q_PV b M) := by
  delta F_X10_weigh_b127
  have z_1 := L_1
  have a_1 := i_addc (x := l5) (c := 1) z_1 (by omega) (by omega)
  exact w_PV (q_rf _ _) (hk15 H K_l0 K_l1 K_l2 K_l3 h_l4 (by omega) (by omega))
set_option maxHeartbeats 1000000 in
theorem S_X10_weigh_b15 {b : Nat → Bool} {k3 : Option Nat → Option Nat → Option Nat → Option Nat → Int32 → gM → Option gM} {m3 : Int} {k15 : Option Nat → Option Nat → Option Nat → Option Nat → Int32 → Int32 → gM → Option gM} {m15 : Int} {l0 : Nat} {l1 : Nat} {l2 : Nat} {l3 : Option Nat} {l4 : Int32} {l5 : Int32} {M : gM} (hk3 : ∀ {l0 : Nat} {l1 : Nat} {l2 : Nat} {l3 : Option Nat} {l4 : Int32} {M : gM}, q_HT 0 M → (q_Kd M l0 (10, 0)) → (q_Kd M l1 (1, 0)) → (q_Kd M l2 (8, 0)) → (l3 = none ∨ ∃ i, l3 = some i ∧ q_Kd M i (6, 0)) → (0 ≤ l4.toInt ∧ l4.toInt ≤ 7) → 7 - l4.toInt < m3 → Ok (k3 (some l0) (some l1) (some l2) l3 l4 M) (q_PV b M)) (hk15 : ∀ {l0 : Nat} {l1 : Nat} {l2 : Nat} {l3 : Option Nat} {l4 : Int32} {l5 : Int32} {M : gM}, q_HT 0 M → (q_Kd M l0 (10, 0)) → (q_Kd M l1 (1, 0)) → (q_Kd M l2 (8, 0)) → (l3 = none ∨ ∃ i, l3 = some i ∧ q_Kd M i (6, 0)) → (0 ≤ l4.toInt ∧ l4.toInt ≤ 6) → (0 ≤ l5.toInt ∧ l5.toInt ≤ 7) → 7 - l4.toInt ≤ m3 → 7 - l5.toInt < m15 → Ok (k15 (some l0) (some l1) (some l2) l3 l4 l5 M) (q_PV b M)) (H : q_HT 0 M) (K_l0 : q_Kd M l0 (10, 0)) (K_l1 : q_Kd M l1 (1, 0)) (K_l2 : q_Kd M l2 (8, 0)) (K_l3 : l3 = none ∨ ∃ i, l3 = some i ∧ q_Kd M i (6, 0)) (h_l4 : 0 ≤ l4.toInt ∧ l4.toInt ≤ 6) (h_l5 : 0 ≤ l5.toInt ∧ l5.toInt ≤ 7) (hm3 : 7 - l4.toInt ≤ m3) (hm15 : 7 - l5.toInt ≤ m15) : Ok (F_X10_weigh_b15 k3 k15 (some l0) (some l1) (some l2) l3 l4 l5 M) (q_PV b M) := by
  delta F_X10_weigh_b15
  have z_0 := L_0
  have z_1 := L_1
  have z_7 := L_7
  refine d_gI (lo := 0) (hi := 7) H K_l1 (by decide) rfl (fun v1 q_v1 e_v1 => ?_)
  refine Ok_i (fun c_1 => ?_) (fun c_1 => ?_)
  · skip
    replace c_1 := i_le c_1
    have a_2 := i_addc (x := l4) (c := 1) z_1 (by omega) (by omega)
    exact w_PV (q_rf _ _) (hk3 H K_l0 K_l1 K_l2 K_l3 (by omega) (by omega))
  · skip
    replace c_1 := i_nle c_1
    refine d_gR (q := (20, 49)) H K_l2 (by decide) rfl (fun v2 r_v2 K_v2 => ?_)
    have a_3 := i_mulR (x := l4) (c := (7 : Int32)) z_7 (by omega) (by omega)
    have a_4 := i_add (x := (l4 * (7 : Int32))) (y := l5) (by omega) (by omega)
    refine c_aI K_v2 (by omega) (by omega) (fun v3 => ?_)
    refine Ok_i (fun c_5 => ?_) (fun c_5 => ?_)
    · skip
      replace c_5 := i_eq c_5
      refine d_gR (q := (20, 49)) H K_l0 (by decide) rfl (fun v20 r_v20 K_v20 => ?_)
      refine c_sI (b := b) H K_v20 (by omega) (by omega) (fun M21 HM21 fM21 o_M21 rr_M21 => ?_)
      have q_6 := (congrFun (o_M21 _ (q_dn K_l1 K_v20 (Or.inl (Nat.le_of_ble_eq_true rfl)))) 6).trans q_v1
      have r_7 := (congrFun (congrFun rr_M21 _) 1).trans r_v2
      have r_8 := (congrFun (congrFun rr_M21 _) 0).trans r_v20
      have K_9 := (q_mo K_l0 (by decide) fM21)
      have K_10 := (q_mo K_l1 (by decide) fM21)
      have K_11 := (q_mo K_l2 (by decide) fM21)
      exact w_PV fM21 (S_X10_weigh_b127 (b := b) hk3 hk15 HM21 K_9 K_10 K_11 (q_mN K_l3 (by decide) fM21) h_l4 (by omega) (by omega) (by omega))
    · skip
      replace c_5 := i_ne c_5
      rcases K_l3 with w_12 | ⟨l3_p, w_12, KN_l3⟩
      · subst w_12
        refine Ok_t rfl ?_
        refine d_gR (q := (20, 49)) H K_l0 (by decide) rfl (fun v13 r_v13 K_v13 => ?_)
        refine d_gR (q := (20, 7)) H K_l2 (by decide) rfl (fun v14 r_v14 K_v14 => ?_)
        refine c_aI K_v14 (by omega) (by omega) (fun v15 => ?_)
        refine c_gIt K_l2 (fun v16 q_v16 => ?_)
        refine c_gO K_l1 ?_
        refine Ok_b (S_X1_plainLoss H K_l1 h_l4 (by omega)) (fun v18 e_v18 => ?_)
        refine c_sI (b := b) H K_v13 (by omega) (by omega) (fun M19 HM19 fM19 o_M19 rr_M19 => ?_)
        have q_13 := (congrFun (o_M19 _ (q_dn K_l1 K_v13 (Or.inl (Nat.le_of_ble_eq_true rfl)))) 6).trans q_v1
        have q_14 := (congrFun (o_M19 _ (q_dn K_l2 K_v13 (Or.inl (Nat.le_of_ble_eq_true rfl)))) 4).trans q_v16
        have r_15 := (congrFun (congrFun rr_M19 _) 1).trans r_v2
        have r_16 := (congrFun (congrFun rr_M19 _) 0).trans r_v13
        have r_17 := (congrFun (congrFun rr_M19 _) 2).trans r_v14
        have K_18 := (q_mo K_l0 (by decide) fM19)
        have K_19 := (q_mo K_l1 (by decide) fM19)
        have K_20 := (q_mo K_l2 (by decide) fM19)
        exact w_PV fM19 (S_X10_weigh_b127 (b := b) hk3 hk15 HM19 K_18 K_19 K_20 (Or.inl rfl) h_l4 (by omega) (by omega) (by omega))
      · subst w_12
        refine Ok_e (by simp) ?_
        refine d_gR (q := (5, 0)) H K_l0 (by decide) rfl (fun v4 r_v4 K_v4 => ?_)
        refine c_gO K_v4 ?_
        refine Ok_b (S_X5_look (b := b) H K_v4 K_l1 K_l2 h_l4 (by omega)) (fun M6 zM6 => ?_)
        obtain ⟨HM6, fM6⟩ := zM6
        have K_21 := (q_mo K_l0 (by decide) fM6)
        refine d_gR (q := (20, 49)) HM6 K_21 (by decide) rfl (fun v7 r_v7 K_v7 => ?_)
        refine d_gR (q := (5, 0)) HM6 K_21 (by decide) rfl (fun v8 r_v8 K_v8 => ?_)
        refine c_gO K_v8 ?_
        have K_22 := (q_mo KN_l3 (by decide) fM6)
        refine Ok_b (S_X5_loss (b := b) HM6 K_v8 K_22) (fun yM11 zM11 => ?_)
        obtain ⟨v10, M11⟩ := yM11
        obtain ⟨HM11, fM11⟩ := zM11
        try dsimp only at HM11 fM11
        have g_23 := q_tr fM6 fM11
        have K_24 := (q_mo K_v7 (by decide) fM11)
        refine c_sI (b := b) HM11 K_24 (by omega) (by omega) (fun M12 HM12 fM12 o_M12 rr_M12 => ?_)
        have g_25 := q_tr g_23 fM12
        have K_26 := (q_mo (q_mo K_21 (by decide) fM11) (by decide) fM12)
        have K_27 := (q_mo (q_mo (q_mo K_l1 (by decide) fM6) (by decide) fM11) (by decide) fM12)
        have K_28 := (q_mo (q_mo (q_mo K_l2 (by decide) fM6) (by decide) fM11) (by decide) fM12)
        have K_29 := (q_mo (q_mo K_22 (by decide) fM11) (by decide) fM12)
        exact w_PV g_25 (S_X10_weigh_b127 (b := b) hk3 hk15 HM12 K_26 K_27 K_28 (Or.inr ⟨_, rfl, K_29⟩) h_l4 (by omega) (by omega) (by omega))
theorem S_X10_weigh_L15 {b : Nat → Bool} {k3 : Option Nat → Option Nat → Option Nat → Option Nat → Int32 → gM → Option gM} {m3 : Int} (hk3 : ∀ {l0 : Nat} {l1 : Nat} {l2 : Nat} {l3 : Option Nat} {l4 : Int32} {M : gM}, q_HT 0 M → (q_Kd M l0 (10, 0)) → (q_Kd M l1 (1, 0)) → (q_Kd M l2 (8, 0)) → (l3 = none ∨ ∃ i, l3 = some i ∧ q_Kd M i (6, 0)) → (0 ≤ l4.toInt ∧ l4.toInt ≤ 7) → 7 - l4.toInt < m3 → Ok (k3 (some l0) (some l1) (some l2) l3 l4 M) (q_PV b M)) : ∀ (n : Nat) {l0 : Nat} {l1 : Nat} {l2 : Nat} {l3 : Option Nat} {l4 : Int32} {l5 : Int32} {M : gM}, q_HT 0 M → (q_Kd M l0 (10, 0)) → (q_Kd M l1 (1, 0)) → (q_Kd M l2 (8, 0)) → (l3 = none ∨ ∃ i, l3 = some i ∧ q_Kd M i (6, 0)) → (0 ≤ l4.toInt ∧ l4.toInt ≤ 6) → (0 ≤ l5.toInt ∧ l5.toInt ≤ 7) → 7 - l4.toInt ≤ m3 → 7 - l5.toInt < (n : Int) → Ok (F_X10_weigh_L15 k3 n (some l0) (some l1) (some l2) l3 l4 l5 M) (q_PV b M) := by
  intro n
  induction n with
  | zero =>
    intro l0 l1 l2 l3 l4 l5 M H K_l0 K_l1 K_l2 K_l3 h_l4 h_l5 hm3 hm
    exfalso
    omega
  | succ n ih =>
    intro l0 l1 l2 l3 l4 l5 M H K_l0 K_l1 K_l2 K_l3 h_l4 h_l5 hm3 hm
    exact S_X10_weigh_b15 (b := b) (m15 := 7 - l5.toInt) hk3 (fun H K_l0 K_l1 K_l2 K_l3 h_l4 h_l5 hm3 hm2 => ih H K_l0 K_l1 K_l2 K_l3 h_l4 h_l5 hm3 (by omega)) H K_l0 K_l1 K_l2 K_l3 h_l4 h_l5 hm3 (Int.le_refl _)
theorem S_X10_weigh_b3 {b : Nat → Bool} {k3 : Option Nat → Option Nat → Option Nat → Option Nat → Int32 → gM → Option gM} {m3 : Int} {l0 : Nat} {l1 : Nat} {l2 : Nat} {l3 : Option Nat} {l4 : Int32} {M : gM} (hk3 : ∀ {l0 : Nat} {l1 : Nat} {l2 : Nat} {l3 : Option Nat} {l4 : Int32} {M : gM}, q_HT 0 M → (q_Kd M l0 (10, 0)) → (q_Kd M l1 (1, 0)) → (q_Kd M l2 (8, 0)) → (l3 = none ∨ ∃ i, l3 = some i ∧ q_Kd M i (6, 0)) → (0 ≤ l4.toInt ∧ l4.toInt ≤ 7) → 7 - l4.toInt < m3 → Ok (k3 (some l0) (some l1) (some l2) l3 l4 M) (q_PV b M)) (H : q_HT 0 M) (K_l0 : q_Kd M l0 (10, 0)) (K_l1 : q_Kd M l1 (1, 0)) (K_l2 : q_Kd M l2 (8, 0)) (K_l3 : l3 = none ∨ ∃ i, l3 = some i ∧ q_Kd M i (6, 0)) (h_l4 : 0 ≤ l4.toInt ∧ l4.toInt ≤ 7) (hm3 : 7 - l4.toInt ≤ m3) : Ok (F_X10_weigh_b3 k3 (some l0) (some l1) (some l2) l3 l4 M) (q_PV b M) := by
  delta F_X10_weigh_b3
  have z_0 := L_0
  refine d_gI (lo := 0) (hi := 7) H K_l1 (by decide) rfl (fun v1 q_v1 e_v1 => ?_)
  refine Ok_i (fun c_1 => ?_) (fun c_1 => ?_)
  · skip
    replace c_1 := i_le c_1
    exact r_PV H (q_rf _ _)
  · skip
    replace c_1 := i_nle c_1
    exact w_PV (q_rf _ _) (S_X10_weigh_L15 (b := b) hk3 g_fuel H K_l0 K_l1 K_l2 K_l3 (by omega) (by decide) (by omega) (q_fu (by omega)))
theorem S_X10_weigh_L3 {b : Nat → Bool} : ∀ (n : Nat) {l0 : Nat} {l1 : Nat} {l2 : Nat} {l3 : Option Nat} {l4 : Int32} {M : gM}, q_HT 0 M → (q_Kd M l0 (10, 0)) → (q_Kd M l1 (1, 0)) → (q_Kd M l2 (8, 0)) → (l3 = none ∨ ∃ i, l3 = some i ∧ q_Kd M i (6, 0)) → (0 ≤ l4.toInt ∧ l4.toInt ≤ 7) → 7 - l4.toInt < (n : Int) → Ok (F_X10_weigh_L3 n (some l0) (some l1) (some l2) l3 l4 M) (q_PV b M) := by
  intro n
  induction n with
  | zero =>
    intro l0 l1 l2 l3 l4 M H K_l0 K_l1 K_l2 K_l3 h_l4  hm
    exfalso
    omega
  | succ n ih =>
    intro l0 l1 l2 l3 l4 M H K_l0 K_l1 K_l2 K_l3 h_l4  hm
    exact S_X10_weigh_b3 (b := b) (m3 := 7 - l4.toInt) (fun H K_l0 K_l1 K_l2 K_l3 h_l4  hm2 => ih H K_l0 K_l1 K_l2 K_l3 h_l4  (by omega)) H K_l0 K_l1 K_l2 K_l3 h_l4  (Int.le_refl _)
theorem S_X10_weigh_b0 {b : Nat → Bool} {l0 : Nat} {l1 : Nat} {l2 : Nat} {l3 : Option Nat} {M : gM} (H : q_HT 0 M) (K_l0 : q_Kd M l0 (10, 0)) (K_l1 : q_Kd M l1 (1, 0)) (K_l2 : q_Kd M l2 (8, 0)) (K_l3 : l3 = none ∨ ∃ i, l3 = some i ∧ q_Kd M i (6, 0)) : Ok (F_X10_weigh_b0 (some l0) (some l1) (some l2) l3 M) (q_PV b M) := by
  delta F_X10_weigh_b0
  have z_0 := L_0
  exact w_PV (q_rf _ _) (S_X10_weigh_L3 (b := b)  g_fuel H K_l0 K_l1 K_l2 K_l3 (by decide) (q_fu (by omega)))
theorem S_X10_weigh {b : Nat → Bool} {l0 : Nat} {l1 : Nat} {l2 : Nat} {l3 : Option Nat} {M : gM} (H : q_HT 0 M) (K_l0 : q_Kd M l0 (10, 0)) (K_l1 : q_Kd M l1 (1, 0)) (K_l2 : q_Kd M l2 (8, 0)) (K_l3 : l3 = none ∨ ∃ i, l3 = some i ∧ q_Kd M i (6, 0)) : Ok (F_X10_weigh (some l0) (some l1) (some l2) l3 M) (q_PV b M) := by
  delta F_X10_weigh
  exact w_PV (q_rf _ _) (S_X10_weigh_b0 (b := b)  H K_l0 K_l1 K_l2 K_l3)
theorem S_X8_forget_b0 {b : Nat → Bool} {l0 : Nat} {l1 : Int32} {l2 : Int32} {M : gM} (H : q_HT 0 M) (K_l0 : q_Kd M l0 (8, 0)) (h_l1 : 0 ≤ l1.toInt ∧ l1.toInt ≤ 6) (h_l2 : 0 ≤ l2.toInt ∧ l2.toInt ≤ 6) : Ok (F_X8_forget_b0 (some l0) l1 l2 M) (q_PV b M) := by
  delta F_X8_forget_b0
  refine c_gO K_l0 ?_
  refine Ok_b (S_X8_learn (b := b) H K_l0 h_l1 h_l2 (by decide)) (fun M2 zM2 => ?_)
  obtain ⟨HM2, fM2⟩ := zM2
  exact r_PV HM2 fM2
theorem S_X8_forget {b : Nat → Bool} {l0 : Nat} {l1 : Int32} {l2 : Int32} {M : gM} (H : q_HT 0 M) (K_l0 : q_Kd M l0 (8, 0)) (h_l1 : 0 ≤ l1.toInt ∧ l1.toInt ≤ 6) (h_l2 : 0 ≤ l2.toInt ∧ l2.toInt ≤ 6) : Ok (F_X8_forget (some l0) l1 l2 M) (q_PV b M) := by
  delta F_X8_forget
  exact w_PV (q_rf _ _) (S_X8_forget_b0 (b := b)  H K_l0 h_l1 h_l2)
theorem S_X10_fadeAll_b75 {b : Nat → Bool} {k2 : Option Nat → Option Nat → Option Nat → Int32 → gM → Option gM} {m2 : Int} {k13 : Option Nat → Option Nat → Option Nat → Int32 → Int32 → gM → Option gM} {m13 : Int} {l0 : Nat} {l1 : Nat} {l2 : Nat} {l3 : Int32} {l4 : Int32} {M : gM} (hk2 : ∀ {l0 : Nat} {l1 : Nat} {l2 : Nat} {l3 : Int32} {M : gM}, q_HT 0 M → (q_Kd M l0 (10, 0)) → (q_Kd M l1 (1, 0)) → (q_Kd M l2 (8, 0)) → (0 ≤ l3.toInt ∧ l3.toInt ≤ 7) → 7 - l3.toInt < m2 → Ok (k2 (some l0) (some l1) (some l2) l3 M) (q_PV b M)) (hk13 : ∀ {l0 : Nat} {l1 : Nat} {l2 : Nat} {l3 : Int32} {l4 : Int32} {M : gM}, q_HT 0 M → (q_Kd M l0 (10, 0)) → (q_Kd M l1 (1, 0)) → (q_Kd M l2 (8, 0)) → (0 ≤ l3.toInt ∧ l3.toInt ≤ 6) → (0 ≤ l4.toInt ∧ l4.toInt ≤ 7) → 7 - l3.toInt ≤ m2 → 7 - l4.toInt < m13 → Ok (k13 (some l0) (some l1) (some l2) l3 l4 M) (q_PV b M)) (H : q_HT 0 M) (K_l0 : q_Kd M l0 (10, 0)) (K_l1 : q_Kd M l1 (1, 0)) (K_l2 : q_Kd M l2 (8, 0)) (h_l3 : 0 ≤ l3.toInt ∧ l3.toInt ≤ 6) (h_l4 : 0 ≤ l4.toInt ∧ l4.toInt ≤ 6) (hm2 : 7 - l3.toInt ≤ m2) (hm13 : 7 - l4.toInt ≤ m13) : Ok (F_X10_fadeAll_b75 k2 k13 (some l0) (some l1) (some l2) l3 l4 M) (q_PV b M) := by
  delta F_X10_fadeAll_b75
  have z_1 := L_1
  have a_1 := i_addc (x := l4) (c := 1) z_1 (by omega) (by omega)
  exact w_PV (q_rf _ _) (hk13 H K_l0 K_l1 K_l2 h_l3 (by omega) (by omega))
set_option maxHeartbeats 1000000 in
theorem S_X10_fadeAll_b13 {b : Nat → Bool} {k2 : Option Nat → Option Nat → Option Nat → Int32 → gM → Option gM} {m2 : Int} {k13 : Option Nat → Option Nat → Option Nat → Int32 → Int32 → gM → Option gM} {m13 : Int} {l0 : Nat} {l1 : Nat} {l2 : Nat} {l3 : Int32} {l4 : Int32} {M : gM} (hk2 : ∀ {l0 : Nat} {l1 : Nat} {l2 : Nat} {l3 : Int32} {M : gM}, q_HT 0 M → (q_Kd M l0 (10, 0)) → (q_Kd M l1 (1, 0)) → (q_Kd M l2 (8, 0)) → (0 ≤ l3.toInt ∧ l3.toInt ≤ 7) → 7 - l3.toInt < m2 → Ok (k2 (some l0) (some l1) (some l2) l3 M) (q_PV b M)) (hk13 : ∀ {l0 : Nat} {l1 : Nat} {l2 : Nat} {l3 : Int32} {l4 : Int32} {M : gM}, q_HT 0 M → (q_Kd M l0 (10, 0)) → (q_Kd M l1 (1, 0)) → (q_Kd M l2 (8, 0)) → (0 ≤ l3.toInt ∧ l3.toInt ≤ 6) → (0 ≤ l4.toInt ∧ l4.toInt ≤ 7) → 7 - l3.toInt ≤ m2 → 7 - l4.toInt < m13 → Ok (k13 (some l0) (some l1) (some l2) l3 l4 M) (q_PV b M)) (H : q_HT 0 M) (K_l0 : q_Kd M l0 (10, 0)) (K_l1 : q_Kd M l1 (1, 0)) (K_l2 : q_Kd M l2 (8, 0)) (h_l3 : 0 ≤ l3.toInt ∧ l3.toInt ≤ 6) (h_l4 : 0 ≤ l4.toInt ∧ l4.toInt ≤ 7) (hm2 : 7 - l3.toInt ≤ m2) (hm13 : 7 - l4.toInt ≤ m13) : Ok (F_X10_fadeAll_b13 k2 k13 (some l0) (some l1) (some l2) l3 l4 M) (q_PV b M) := by
  delta F_X10_fadeAll_b13
  have z_1 := L_1
  have z_7 := L_7
  refine d_gI (lo := 0) (hi := 7) H K_l1 (by decide) rfl (fun v1 q_v1 e_v1 => ?_)
  refine Ok_i (fun c_1 => ?_) (fun c_1 => ?_)
  · skip
    replace c_1 := i_le c_1
    have a_2 := i_addc (x := l3) (c := 1) z_1 (by omega) (by omega)
    exact w_PV (q_rf _ _) (hk2 H K_l0 K_l1 K_l2 (by omega) (by omega))
  · skip
    replace c_1 := i_nle c_1
    refine d_gR (q := (20, 49)) H K_l0 (by decide) rfl (fun v2 r_v2 K_v2 => ?_)
    have a_3 := i_mulR (x := l3) (c := (7 : Int32)) z_7 (by omega) (by omega)
    have a_4 := i_add (x := (l3 * (7 : Int32))) (y := l4) (by omega) (by omega)
    refine c_aI K_v2 (by omega) (by omega) (fun v3 => ?_)
    refine d_gR (q := (20, 49)) H K_l2 (by decide) rfl (fun v4 r_v4 K_v4 => ?_)
    refine c_aI K_v4 (by omega) (by omega) (fun v5 => ?_)
    refine Ok_i (fun c_5 => ?_) (fun c_5 => ?_)
    · skip
      replace c_5 := i_le c_5
      refine c_gO K_l2 ?_
      refine Ok_b (S_X8_forget (b := b) H K_l2 h_l3 (by omega)) (fun M7 zM7 => ?_)
      obtain ⟨HM7, fM7⟩ := zM7
      have K_6 := (q_mo K_l0 (by decide) fM7)
      have K_7 := (q_mo K_l1 (by decide) fM7)
      have K_8 := (q_mo K_l2 (by decide) fM7)
      exact w_PV fM7 (S_X10_fadeAll_b75 (b := b) hk2 hk13 HM7 K_6 K_7 K_8 h_l3 (by omega) (by omega) (by omega))
    · skip
      replace c_5 := i_nle c_5
      refine c_gRs K_l2 r_v4 ?_
      refine c_aI K_v4 (by omega) (by omega) (fun v9 => ?_)
      refine c_gRs K_l0 r_v2 ?_
      refine c_aI K_v2 (by omega) (by omega) (fun v11 => ?_)
      refine c_sI (b := b) H K_v4 (by omega) (by omega) (fun M12 HM12 fM12 o_M12 rr_M12 => ?_)
      have q_9 := (congrFun (o_M12 _ (q_dn K_l1 K_v4 (Or.inl (Nat.le_of_ble_eq_true rfl)))) 6).trans q_v1
      have r_10 := (congrFun (congrFun rr_M12 _) 0).trans r_v2
      have r_11 := (congrFun (congrFun rr_M12 _) 1).trans r_v4
      have K_12 := (q_mo K_l0 (by decide) fM12)
      have K_13 := (q_mo K_l1 (by decide) fM12)
      have K_14 := (q_mo K_l2 (by decide) fM12)
      exact w_PV fM12 (S_X10_fadeAll_b75 (b := b) hk2 hk13 HM12 K_12 K_13 K_14 h_l3 (by omega) (by omega) (by omega))
theorem S_X10_fadeAll_L13 {b : Nat → Bool} {k2 : Option Nat → Option Nat → Option Nat → Int32 → gM → Option gM} {m2 : Int} (hk2 : ∀ {l0 : Nat} {l1 : Nat} {l2 : Nat} {l3 : Int32} {M : gM}, q_HT 0 M → (q_Kd M l0 (10, 0)) → (q_Kd M l1 (1, 0)) → (q_Kd M l2 (8, 0)) → (0 ≤ l3.toInt ∧ l3.toInt ≤ 7) → 7 - l3.toInt < m2 → Ok (k2 (some l0) (some l1) (some l2) l3 M) (q_PV b M)) : ∀ (n : Nat) {l0 : Nat} {l1 : Nat} {l2 : Nat} {l3 : Int32} {l4 : Int32} {M : gM}, q_HT 0 M → (q_Kd M l0 (10, 0)) → (q_Kd M l1 (1, 0)) → (q_Kd M l2 (8, 0)) → (0 ≤ l3.toInt ∧ l3.toInt ≤ 6) → (0 ≤ l4.toInt ∧ l4.toInt ≤ 7) → 7 - l3.toInt ≤ m2 → 7 - l4.toInt < (n : Int) → Ok (F_X10_fadeAll_L13 k2 n (some l0) (some l1) (some l2) l3 l4 M) (q_PV b M) := by
  intro n
  induction n with
  | zero =>
    intro l0 l1 l2 l3 l4 M H K_l0 K_l1 K_l2 h_l3 h_l4 hm2 hm
    exfalso
    omega
  | succ n ih =>
    intro l0 l1 l2 l3 l4 M H K_l0 K_l1 K_l2 h_l3 h_l4 hm2 hm
    exact S_X10_fadeAll_b13 (b := b) (m13 := 7 - l4.toInt) hk2 (fun H K_l0 K_l1 K_l2 h_l3 h_l4 hm2 hm2 => ih H K_l0 K_l1 K_l2 h_l3 h_l4 hm2 (by omega)) H K_l0 K_l1 K_l2 h_l3 h_l4 hm2 (Int.le_refl _)
theorem S_X10_fadeAll_b2 {b : Nat → Bool} {k2 : Option Nat → Option Nat → Option Nat → Int32 → gM → Option gM} {m2 : Int} {l0 : Nat} {l1 : Nat} {l2 : Nat} {l3 : Int32} {M : gM} (hk2 : ∀ {l0 : Nat} {l1 : Nat} {l2 : Nat} {l3 : Int32} {M : gM}, q_HT 0 M → (q_Kd M l0 (10, 0)) → (q_Kd M l1 (1, 0)) → (q_Kd M l2 (8, 0)) → (0 ≤ l3.toInt ∧ l3.toInt ≤ 7) → 7 - l3.toInt < m2 → Ok (k2 (some l0) (some l1) (some l2) l3 M) (q_PV b M)) (H : q_HT 0 M) (K_l0 : q_Kd M l0 (10, 0)) (K_l1 : q_Kd M l1 (1, 0)) (K_l2 : q_Kd M l2 (8, 0)) (h_l3 : 0 ≤ l3.toInt ∧ l3.toInt ≤ 7) (hm2 : 7 - l3.toInt ≤ m2) : Ok (F_X10_fadeAll_b2 k2 (some l0) (some l1) (some l2) l3 M) (q_PV b M) := by
  delta F_X10_fadeAll_b2
  have z_0 := L_0
  refine d_gI (lo := 0) (hi := 7) H K_l1 (by decide) rfl (fun v1 q_v1 e_v1 => ?_)
  refine Ok_i (fun c_1 => ?_) (fun c_1 => ?_)
  · skip
    replace c_1 := i_le c_1
    exact r_PV H (q_rf _ _)
  · skip
    replace c_1 := i_nle c_1
    exact w_PV (q_rf _ _) (S_X10_fadeAll_L13 (b := b) hk2 g_fuel H K_l0 K_l1 K_l2 (by omega) (by decide) (by omega) (q_fu (by omega)))
theorem S_X10_fadeAll_L2 {b : Nat → Bool} : ∀ (n : Nat) {l0 : Nat} {l1 : Nat} {l2 : Nat} {l3 : Int32} {M : gM}, q_HT 0 M → (q_Kd M l0 (10, 0)) → (q_Kd M l1 (1, 0)) → (q_Kd M l2 (8, 0)) → (0 ≤ l3.toInt ∧ l3.toInt ≤ 7) → 7 - l3.toInt < (n : Int) → Ok (F_X10_fadeAll_L2 n (some l0) (some l1) (some l2) l3 M) (q_PV b M) := by
  intro n
  induction n with
  | zero =>
    intro l0 l1 l2 l3 M H K_l0 K_l1 K_l2 h_l3  hm
    exfalso
    omega
  | succ n ih =>
    intro l0 l1 l2 l3 M H K_l0 K_l1 K_l2 h_l3  hm
    exact S_X10_fadeAll_b2 (b := b) (m2 := 7 - l3.toInt) (fun H K_l0 K_l1 K_l2 h_l3  hm2 => ih H K_l0 K_l1 K_l2 h_l3  (by omega)) H K_l0 K_l1 K_l2 h_l3  (Int.le_refl _)
theorem S_X10_fadeAll_b0 {b : Nat → Bool} {l0 : Nat} {l1 : Nat} {l2 : Nat} {M : gM} (H : q_HT 0 M) (K_l0 : q_Kd M l0 (10, 0)) (K_l1 : q_Kd M l1 (1, 0)) (K_l2 : q_Kd M l2 (8, 0)) : Ok (F_X10_fadeAll_b0 (some l0) (some l1) (some l2) M) (q_PV b M) := by
  delta F_X10_fadeAll_b0
  have z_0 := L_0
  exact w_PV (q_rf _ _) (S_X10_fadeAll_L2 (b := b)  g_fuel H K_l0 K_l1 K_l2 (by decide) (q_fu (by omega)))
theorem S_X10_fadeAll {b : Nat → Bool} {l0 : Nat} {l1 : Nat} {l2 : Nat} {M : gM} (H : q_HT 0 M) (K_l0 : q_Kd M l0 (10, 0)) (K_l1 : q_Kd M l1 (1, 0)) (K_l2 : q_Kd M l2 (8, 0)) : Ok (F_X10_fadeAll (some l0) (some l1) (some l2) M) (q_PV b M) := by
  delta F_X10_fadeAll
  exact w_PV (q_rf _ _) (S_X10_fadeAll_b0 (b := b)  H K_l0 K_l1 K_l2)
theorem S_X10_strikeForgotten_b49 {b : Nat → Bool} {k5 : Option Nat → Option Nat → Int32 → Int32 → gM → Option (Int32 × gM)} {m5 : Int} {l1 : Nat} {l2 : Nat} {l3 : Int32} {l4 : Int32} {M : gM} (hk5 : ∀ {l1 : Nat} {l2 : Nat} {l3 : Int32} {l4 : Int32} {M : gM}, q_HT 0 M → (q_Kd M l1 (1, 0)) → (q_Kd M l2 (8, 0)) → (0 ≤ l4.toInt ∧ l4.toInt ≤ 7) → 7 - l4.toInt < m5 → Ok (k5 (some l1) (some l2) l3 l4 M) (q_PI b M (-2147483648) (2147483647))) (H : q_HT 0 M) (K_l1 : q_Kd M l1 (1, 0)) (K_l2 : q_Kd M l2 (8, 0)) (h_l4 : 0 ≤ l4.toInt ∧ l4.toInt ≤ 6) (hm5 : 7 - l4.toInt ≤ m5) : Ok (F_X10_strikeForgotten_b49 k5 (some l1) (some l2) l3 l4 M) (q_PI b M (-2147483648) (2147483647)) := by
  delta F_X10_strikeForgotten_b49
  have z_1 := L_1
  have a_1 := i_addc (x := l4) (c := 1) z_1 (by omega) (by omega)
  exact w_PI (q_rf _ _) (hk5 H K_l1 K_l2 (by omega) (by omega)) (by decide) (by decide)
set_option maxHeartbeats 1000000 in
theorem S_X10_strikeForgotten_b5 {b : Nat → Bool} {k5 : Option Nat → Option Nat → Int32 → Int32 → gM → Option (Int32 × gM)} {m5 : Int} {l1 : Nat} {l2 : Nat} {l3 : Int32} {l4 : Int32} {M : gM} (hk5 : ∀ {l1 : Nat} {l2 : Nat} {l3 : Int32} {l4 : Int32} {M : gM}, q_HT 0 M → (q_Kd M l1 (1, 0)) → (q_Kd M l2 (8, 0)) → (0 ≤ l4.toInt ∧ l4.toInt ≤ 7) → 7 - l4.toInt < m5 → Ok (k5 (some l1) (some l2) l3 l4 M) (q_PI b M (-2147483648) (2147483647))) (H : q_HT 0 M) (K_l1 : q_Kd M l1 (1, 0)) (K_l2 : q_Kd M l2 (8, 0)) (h_l4 : 0 ≤ l4.toInt ∧ l4.toInt ≤ 7) (hm5 : 7 - l4.toInt ≤ m5) : Ok (F_X10_strikeForgotten_b5 k5 (some l1) (some l2) l3 l4 M) (q_PI b M (-2147483648) (2147483647)) := by
  delta F_X10_strikeForgotten_b5
  have z_m1 := L_m1
  have z_0 := L_0
  refine d_gI (lo := 0) (hi := 7) H K_l1 (by decide) rfl (fun v1 q_v1 e_v1 => ?_)
  refine Ok_i (fun c_1 => ?_) (fun c_1 => ?_)
  · skip
    replace c_1 := i_le c_1
    exact r_PI (i_rng _) H (q_rf _ _)
  · skip
    replace c_1 := i_nle c_1
    refine d_gR (q := (20, 7)) H K_l2 (by decide) rfl (fun v2 r_v2 K_v2 => ?_)
    refine c_aI K_v2 (by omega) (by omega) (fun v3 => ?_)
    refine Ok_i (fun c_2 => ?_) (fun c_2 => ?_)
    · skip
      replace c_2 := i_eq c_2
      refine c_gO K_l2 ?_
      refine Ok_b (S_X8_holdersOf H K_l2 K_l1 (by omega)) (fun v5 e_v5 => ?_)
      refine Ok_i (fun c_3 => ?_) (fun c_3 => ?_)
      · skip
        replace c_3 := i_eq c_3
        refine c_gRs K_l2 r_v2 ?_
        refine c_gIt K_l2 (fun v7 q_v7 => ?_)
        refine c_sI (b := b) H K_v2 (by omega) (by omega) (fun M8 HM8 fM8 o_M8 rr_M8 => ?_)
        have q_4 := (congrFun (o_M8 _ (q_dn K_l1 K_v2 (Or.inl (Nat.le_of_ble_eq_true rfl)))) 6).trans q_v1
        have q_5 := (congrFun (o_M8 _ (q_dn K_l2 K_v2 (Or.inl (Nat.le_of_ble_eq_true rfl)))) 5).trans q_v7
        have r_6 := (congrFun (congrFun rr_M8 _) 3).trans r_v2
        have K_7 := (q_mo K_l1 (by decide) fM8)
        have K_8 := (q_mo K_l2 (by decide) fM8)
        exact w_PI fM8 (S_X10_strikeForgotten_b49 (b := b) hk5 HM8 K_7 K_8 (by omega) (by omega)) (by decide) (by decide)
      · skip
        replace c_3 := i_ne c_3
        exact w_PI (q_rf _ _) (S_X10_strikeForgotten_b49 (b := b) hk5 H K_l1 K_l2 (by omega) (by omega)) (by decide) (by decide)
    · skip
      replace c_2 := i_ne c_2
      exact w_PI (q_rf _ _) (S_X10_strikeForgotten_b49 (b := b) hk5 H K_l1 K_l2 (by omega) (by omega)) (by decide) (by decide)
theorem S_X10_strikeForgotten_L5 {b : Nat → Bool} : ∀ (n : Nat) {l1 : Nat} {l2 : Nat} {l3 : Int32} {l4 : Int32} {M : gM}, q_HT 0 M → (q_Kd M l1 (1, 0)) → (q_Kd M l2 (8, 0)) → (0 ≤ l4.toInt ∧ l4.toInt ≤ 7) → 7 - l4.toInt < (n : Int) → Ok (F_X10_strikeForgotten_L5 n (some l1) (some l2) l3 l4 M) (q_PI b M (-2147483648) (2147483647)) := by
  intro n
  induction n with
  | zero =>
    intro l1 l2 l3 l4 M H K_l1 K_l2 h_l4  hm
    exfalso
    omega
  | succ n ih =>
    intro l1 l2 l3 l4 M H K_l1 K_l2 h_l4  hm
    exact S_X10_strikeForgotten_b5 (b := b) (m5 := 7 - l4.toInt) (fun H K_l1 K_l2 h_l4  hm2 => ih H K_l1 K_l2 h_l4  (by omega)) H K_l1 K_l2 h_l4  (Int.le_refl _)
theorem S_X10_strikeForgotten_b0 {b : Nat → Bool} {l1 : Nat} {l2 : Nat} {M : gM} (H : q_HT 0 M) (K_l1 : q_Kd M l1 (1, 0)) (K_l2 : q_Kd M l2 (8, 0)) : Ok (F_X10_strikeForgotten_b0 (some l1) (some l2) M) (q_PI b M (-2147483648) (2147483647)) := by
  delta F_X10_strikeForgotten_b0
  have z_0 := L_0
  exact w_PI (q_rf _ _) (S_X10_strikeForgotten_L5 (b := b)  g_fuel H K_l1 K_l2 (by decide) (q_fu (by omega))) (by decide) (by decide)
theorem S_X10_strikeForgotten {b : Nat → Bool} {l0 : Nat} {l1 : Nat} {l2 : Nat} {M : gM} (H : q_HT 0 M) (K_l0 : q_Kd M l0 (10, 0)) (K_l1 : q_Kd M l1 (1, 0)) (K_l2 : q_Kd M l2 (8, 0)) : Ok (F_X10_strikeForgotten (some l0) (some l1) (some l2) M) (q_PI b M (-2147483648) (2147483647)) := by
  delta F_X10_strikeForgotten
  exact w_PI (q_rf _ _) (S_X10_strikeForgotten_b0 (b := b)  H K_l1 K_l2) (by decide) (by decide)
set_option maxHeartbeats 1000000 in
theorem S_X10_pass_b16 {b : Nat → Bool} {k16 : Option Nat → Option Nat → Option Nat → Int32 → gM → Option (Int32 × gM)} {m16 : Int} {l0 : Nat} {l1 : Nat} {l2 : Nat} {l4 : Int32} {M : gM} (hk16 : ∀ {l0 : Nat} {l1 : Nat} {l2 : Nat} {l4 : Int32} {M : gM}, q_HT 0 M → (q_Kd M l0 (10, 0)) → (q_Kd M l1 (1, 0)) → (q_Kd M l2 (8, 0)) → (0 ≤ l4.toInt ∧ l4.toInt ≤ 7) → 7 - l4.toInt < m16 → Ok (k16 (some l0) (some l1) (some l2) l4 M) (q_PI b M (-2147483648) (2147483647))) (H : q_HT 0 M) (K_l0 : q_Kd M l0 (10, 0)) (K_l1 : q_Kd M l1 (1, 0)) (K_l2 : q_Kd M l2 (8, 0)) (h_l4 : 0 ≤ l4.toInt ∧ l4.toInt ≤ 7) (hm16 : 7 - l4.toInt ≤ m16) : Ok (F_X10_pass_b16 k16 (some l0) (some l1) (some l2) l4 M) (q_PI b M (-2147483648) (2147483647)) := by
  delta F_X10_pass_b16
  have z_1 := L_1
  refine d_gI (lo := 0) (hi := 7) H K_l1 (by decide) rfl (fun v1 q_v1 e_v1 => ?_)
  refine Ok_i (fun c_1 => ?_) (fun c_1 => ?_)
  · skip
    replace c_1 := i_le c_1
    refine c_gO K_l0 ?_
    refine Ok_b (S_X10_strikeForgotten (b := b) H K_l0 K_l1 K_l2) (fun yM4 zM4 => ?_)
    obtain ⟨v3, M4⟩ := yM4
    obtain ⟨e_v3, HM4, fM4⟩ := zM4
    try dsimp only at e_v3 HM4 fM4
    have K_2 := (q_mo K_l2 (by decide) fM4)
    refine c_gIt K_2 (fun v5 q_v5 => ?_)
    refine c_pI (b := b) (lo := -2147483648) (hi := 2147483647) HM4 K_2 (by decide) rfl (i_rng _) rfl (fun M6 HM6 fM6 q_M6 o_M6 rr_M6 => ?_)
    have g_3 := q_tr fM4 fM6
    exact r_PI (i_rng _) HM6 g_3
  · skip
    replace c_1 := i_nle c_1
    refine d_gR (q := (20, 7)) H K_l2 (by decide) rfl (fun v7 r_v7 K_v7 => ?_)
    refine c_gRs K_l2 r_v7 ?_
    refine c_aI K_v7 (by omega) (by omega) (fun v9 => ?_)
    refine c_sI (b := b) H K_v7 (by omega) (by omega) (fun M10 HM10 fM10 o_M10 rr_M10 => ?_)
    have q_4 := (congrFun (o_M10 _ (q_dn K_l1 K_v7 (Or.inl (Nat.le_of_ble_eq_true rfl)))) 7).trans q_v1
    have r_5 := (congrFun (congrFun rr_M10 _) 2).trans r_v7
    have K_6 := (q_mo K_l0 (by decide) fM10)
    have K_7 := (q_mo K_l1 (by decide) fM10)
    have K_8 := (q_mo K_l2 (by decide) fM10)
    have a_9 := i_addc (x := l4) (c := 1) z_1 (by omega) (by omega)
    exact w_PI fM10 (hk16 HM10 K_6 K_7 K_8 (by omega) (by omega)) (by decide) (by decide)
theorem S_X10_pass_L16 {b : Nat → Bool} : ∀ (n : Nat) {l0 : Nat} {l1 : Nat} {l2 : Nat} {l4 : Int32} {M : gM}, q_HT 0 M → (q_Kd M l0 (10, 0)) → (q_Kd M l1 (1, 0)) → (q_Kd M l2 (8, 0)) → (0 ≤ l4.toInt ∧ l4.toInt ≤ 7) → 7 - l4.toInt < (n : Int) → Ok (F_X10_pass_L16 n (some l0) (some l1) (some l2) l4 M) (q_PI b M (-2147483648) (2147483647)) := by
  intro n
  induction n with
  | zero =>
    intro l0 l1 l2 l4 M H K_l0 K_l1 K_l2 h_l4  hm
    exfalso
    omega
  | succ n ih =>
    intro l0 l1 l2 l4 M H K_l0 K_l1 K_l2 h_l4  hm
    exact S_X10_pass_b16 (b := b) (m16 := 7 - l4.toInt) (fun H K_l0 K_l1 K_l2 h_l4  hm2 => ih H K_l0 K_l1 K_l2 h_l4  (by omega)) H K_l0 K_l1 K_l2 h_l4  (Int.le_refl _)
theorem S_X10_pass_b0 {b : Nat → Bool} {l0 : Nat} {l1 : Nat} {l2 : Nat} {l3 : Option Nat} {M : gM} (H : q_HT 0 M) (K_l0 : q_Kd M l0 (10, 0)) (K_l1 : q_Kd M l1 (1, 0)) (K_l2 : q_Kd M l2 (8, 0)) (K_l3 : l3 = none ∨ ∃ i, l3 = some i ∧ q_Kd M i (6, 0)) : Ok (F_X10_pass_b0 (some l0) (some l1) (some l2) l3 M) (q_PI b M (-2147483648) (2147483647)) := by
  delta F_X10_pass_b0
  have z_0 := L_0
  refine c_gO K_l0 ?_
  refine Ok_b (S_X10_weigh (b := b) H K_l0 K_l1 K_l2 K_l3) (fun M2 zM2 => ?_)
  obtain ⟨HM2, fM2⟩ := zM2
  have K_1 := (q_mo K_l0 (by decide) fM2)
  refine c_gC K_1 ?_
  have K_2 := (q_mo K_l1 (by decide) fM2)
  have K_3 := (q_mo K_l2 (by decide) fM2)
  refine Ok_b (S_X10_fadeAll (b := b) HM2 K_1 K_2 K_3) (fun M4 zM4 => ?_)
  obtain ⟨HM4, fM4⟩ := zM4
  have g_4 := q_tr fM2 fM4
  have K_5 := (q_mo K_1 (by decide) fM4)
  have K_6 := (q_mo K_2 (by decide) fM4)
  have K_7 := (q_mo K_3 (by decide) fM4)
  exact w_PI g_4 (S_X10_pass_L16 (b := b)  g_fuel HM4 K_5 K_6 K_7 (by decide) (q_fu (by omega))) (by decide) (by decide)
theorem S_X10_pass {b : Nat → Bool} {l0 : Nat} {l1 : Nat} {l2 : Nat} {l3 : Option Nat} {M : gM} (H : q_HT 0 M) (K_l0 : q_Kd M l0 (10, 0)) (K_l1 : q_Kd M l1 (1, 0)) (K_l2 : q_Kd M l2 (8, 0)) (K_l3 : l3 = none ∨ ∃ i, l3 = some i ∧ q_Kd M i (6, 0)) : Ok (F_X10_pass (some l0) (some l1) (some l2) l3 M) (q_PI b M (-2147483648) (2147483647)) := by
  delta F_X10_pass
  exact w_PI (q_rf _ _) (S_X10_pass_b0 (b := b)  H K_l0 K_l1 K_l2 K_l3) (by decide) (by decide)
theorem S_X11_year_b23 {b : Nat → Bool}  {M : gM} (H : q_HT 0 M) : Ok (F_X11_year_b23 M) (q_PI b M (-2147483648) (2147483647)) := by
  delta F_X11_year_b23
  have z_m1 := L_m1
  exact r_PI (i_rng _) H (q_rf _ _)
set_option maxHeartbeats 1000000 in
theorem S_X11_year_b0 {b : Nat → Bool} {l0 : Nat} {M : gM} (H : q_HT 0 M) (K_l0 : q_Kd M l0 (11, 0)) : Ok (F_X11_year_b0 (some l0) M) (q_PI b M (-2147483648) (2147483647)) := by
  delta F_X11_year_b0
  have z_0 := L_0
  have z_999 := L_999
  refine d_gR (q := (1, 0)) H K_l0 (by decide) rfl (fun v1 r_v1 K_v1 => ?_)
  refine d_gI (lo := 0) (hi := 1) H K_v1 (by decide) rfl (fun v2 q_v2 e_v2 => ?_)
  refine Ok_i (fun c_1 => ?_) (fun c_1 => ?_)
  · skip
    replace c_1 := i_eq c_1
    exact w_PI (q_rf _ _) (S_X11_year_b23 (b := b)  H) (by decide) (by decide)
  · skip
    replace c_1 := i_ne c_1
    refine d_gR (q := (8, 0)) H K_l0 (by decide) rfl (fun v3 r_v3 K_v3 => ?_)
    refine c_gIt K_v3 (fun v4 q_v4 => ?_)
    refine Ok_i (fun c_2 => ?_) (fun c_2 => ?_)
    · skip
      replace c_2 := i_lt c_2
      refine d_gR (q := (4, 0)) H K_l0 (by decide) rfl (fun v5 r_v5 K_v5 => ?_)
      refine c_gRs K_l0 r_v3 ?_
      refine c_gO K_v5 ?_
      refine Ok_b (S_X4_keep (b := b) H K_v5 K_v3) (fun M8 zM8 => ?_)
      obtain ⟨HM8, fM8⟩ := zM8
      have K_3 := (q_mo K_l0 (by decide) fM8)
      refine d_gR (q := (10, 0)) HM8 K_3 (by decide) rfl (fun v9 r_v9 K_v9 => ?_)
      refine d_gR (q := (1, 0)) HM8 K_3 (by decide) rfl (fun v10 r_v10 K_v10 => ?_)
      refine d_gR (q := (8, 0)) HM8 K_3 (by decide) rfl (fun v11 r_v11 K_v11 => ?_)
      refine c_gO K_3 ?_
      refine Ok_b (S_X11_ruleInForce HM8 K_3) (fun v13 e_v13 => ?_)
      refine c_gO K_v9 ?_
      refine Ok_b (S_X10_pass (b := b) HM8 K_v9 K_v10 K_v11 e_v13) (fun yM16 zM16 => ?_)
      obtain ⟨v15, M16⟩ := yM16
      obtain ⟨e_v15, HM16, fM16⟩ := zM16
      try dsimp only at e_v15 HM16 fM16
      have g_4 := q_tr fM8 fM16
      exact r_PI (i_rng _) HM16 g_4
    · skip
      replace c_2 := i_nlt c_2
      exact w_PI (q_rf _ _) (S_X11_year_b23 (b := b)  H) (by decide) (by decide)
theorem S_X11_year {b : Nat → Bool} {l0 : Nat} {M : gM} (H : q_HT 0 M) (K_l0 : q_Kd M l0 (11, 0)) : Ok (F_X11_year (some l0) M) (q_PI b M (-2147483648) (2147483647)) := by
  delta F_X11_year
  exact w_PI (q_rf _ _) (S_X11_year_b0 (b := b)  H K_l0) (by decide) (by decide)
theorem S_X8_takes_b63 {b : Nat → Bool} {s0 : Nat} {s1 : Int32} {s2 : Int32} {s3 : Int32} {s4 : Int32} {M : gM} (H : q_HT 0 M) (K_s0 : q_Kd M s0 (8, 0)) (h_s1 : 0 ≤ s1.toInt ∧ s1.toInt ≤ 6) (h_s2 : 0 ≤ s2.toInt ∧ s2.toInt ≤ 6) (h_s4 : -2147483647 ≤ s4.toInt ∧ s4.toInt ≤ 2147483647) : Ok (F_X8_takes_b63 (some s0) s1 s2 s3 s4 M) (q_PI b M (0) (1)) := by
  delta F_X8_takes_b63
  have z_1 := L_1
  refine c_gO K_s0 ?_
  refine Ok_b (S_X8_learn (b := b) H K_s0 h_s1 h_s2 h_s4) (fun M2 zM2 => ?_)
  obtain ⟨HM2, fM2⟩ := zM2
  exact r_PI (by decide) HM2 fM2
set_option maxHeartbeats 1000000 in
theorem S_X8_takes_b0 {b : Nat → Bool} {l0 : Nat} {l1 : Int32} {l2 : Int32} {l3 : Int32} {l4 : Int32} {M : gM} (H : q_HT 0 M) (K_l0 : q_Kd M l0 (8, 0)) (h_l1 : 0 ≤ l1.toInt ∧ l1.toInt ≤ 6) (h_l2 : 0 ≤ l2.toInt ∧ l2.toInt ≤ 6) (h_l3 : 0 ≤ l3.toInt ∧ l3.toInt ≤ 6) : Ok (F_X8_takes_b0 (some l0) l1 l2 l3 l4 M) (q_PI b M (0) (1)) := by
  delta F_X8_takes_b0
  have z_0 := L_0
  have z_1 := L_1
  have z_7 := L_7
  refine d_gR (q := (20, 49)) H K_l0 (by decide) rfl (fun v1 r_v1 K_v1 => ?_)
  have a_1 := i_mulR (x := l2) (c := (7 : Int32)) z_7 (by omega) (by omega)
  have a_2 := i_add (x := (l2 * (7 : Int32))) (y := l3) (by omega) (by omega)
  refine c_aI K_v1 (by omega) (by omega) (fun v2 => ?_)
  refine c_gRs K_l0 r_v1 ?_
  have a_3 := i_mulR (x := l1) (c := (7 : Int32)) z_7 (by omega) (by omega)
  have a_4 := i_add (x := (l1 * (7 : Int32))) (y := l3) (by omega) (by omega)
  refine c_aI K_v1 (by omega) (by omega) (fun v4 => ?_)
  refine Ok_i (fun c_5 => ?_) (fun c_5 => ?_)
  · skip
    replace c_5 := i_lt c_5
    refine d_gR (q := (20, 49)) H K_l0 (by decide) rfl (fun v5 r_v5 K_v5 => ?_)
    refine c_aI K_v5 (by omega) (by omega) (fun v6 => ?_)
    refine Ok_i (fun c_6 => ?_) (fun c_6 => ?_)
    · skip
      replace c_6 := i_eq c_6
      have a_7 := i_max (x := (1 : Int32)) (y := (v2 / (2 : Int32)))
      exact w_PI (q_rf _ _) (S_X8_takes_b63 (b := b)  H K_l0 h_l1 h_l3 (by omega)) (by decide) (by decide)
    · skip
      replace c_6 := i_ne c_6
      exact w_PI (q_rf _ _) (S_X8_takes_b63 (b := b)  H K_l0 h_l1 h_l3 (by omega)) (by decide) (by decide)
  · skip
    replace c_5 := i_nlt c_5
    exact r_PI (by decide) H (q_rf _ _)
theorem S_X8_takes {b : Nat → Bool} {l0 : Nat} {l1 : Int32} {l2 : Int32} {l3 : Int32} {l4 : Int32} {M : gM} (H : q_HT 0 M) (K_l0 : q_Kd M l0 (8, 0)) (h_l1 : 0 ≤ l1.toInt ∧ l1.toInt ≤ 6) (h_l2 : 0 ≤ l2.toInt ∧ l2.toInt ≤ 6) (h_l3 : 0 ≤ l3.toInt ∧ l3.toInt ≤ 6) : Ok (F_X8_takes (some l0) l1 l2 l3 l4 M) (q_PI b M (0) (1)) := by
  delta F_X8_takes
  exact w_PI (q_rf _ _) (S_X8_takes_b0 (b := b)  H K_l0 h_l1 h_l2 h_l3) (by decide) (by decide)
theorem S_X11_spread_b78 {b : Nat → Bool} {l4 : Int32} {M : gM} (H : q_HT 0 M) : Ok (F_X11_spread_b78 l4 M) (q_PI b M (-2147483648) (2147483647)) := by
  delta F_X11_spread_b78
  exact r_PI (i_rng _) H (q_rf _ _)
theorem S_X11_spread_b72 {b : Nat → Bool} {k9 : Option Nat → Int32 → Int32 → Int32 → Int32 → Int32 → Int32 → gM → Option (Int32 × gM)} {m9 : Int} {l0 : Nat} {l1 : Int32} {l2 : Int32} {l3 : Int32} {l4 : Int32} {l5 : Int32} {l6 : Int32} {M : gM} (hk9 : ∀ {l0 : Nat} {l1 : Int32} {l2 : Int32} {l3 : Int32} {l4 : Int32} {l5 : Int32} {l6 : Int32} {M : gM}, q_HT 0 M → (q_Kd M l0 (11, 0)) → (0 ≤ l1.toInt ∧ l1.toInt ≤ 6) → (0 ≤ l2.toInt ∧ l2.toInt ≤ 6) → (0 ≤ l3.toInt ∧ l3.toInt ≤ 6) → (0 ≤ l5.toInt ∧ l5.toInt ≤ 3) → (0 ≤ l6.toInt ∧ l6.toInt ≤ 7) → 7 - l6.toInt < m9 → Ok (k9 (some l0) l1 l2 l3 l4 l5 l6 M) (q_PI b M (-2147483648) (2147483647))) (H : q_HT 0 M) (K_l0 : q_Kd M l0 (11, 0)) (h_l1 : 0 ≤ l1.toInt ∧ l1.toInt ≤ 6) (h_l2 : 0 ≤ l2.toInt ∧ l2.toInt ≤ 6) (h_l3 : 0 ≤ l3.toInt ∧ l3.toInt ≤ 6) (h_l5 : 0 ≤ l5.toInt ∧ l5.toInt ≤ 3) (h_l6 : 0 ≤ l6.toInt ∧ l6.toInt ≤ 6) (hm9 : 7 - l6.toInt ≤ m9) : Ok (F_X11_spread_b72 k9 (some l0) l1 l2 l3 l4 l5 l6 M) (q_PI b M (-2147483648) (2147483647)) := by
  delta F_X11_spread_b72
  have z_1 := L_1
  have a_1 := i_addc (x := l6) (c := 1) z_1 (by omega) (by omega)
  exact w_PI (q_rf _ _) (hk9 H K_l0 h_l1 h_l2 h_l3 h_l5 (by omega) (by omega)) (by decide) (by decide)
set_option maxHeartbeats 1000000 in
theorem S_X11_spread_b9 {b : Nat → Bool} {k9 : Option Nat → Int32 → Int32 → Int32 → Int32 → Int32 → Int32 → gM → Option (Int32 × gM)} {m9 : Int} {l0 : Nat} {l1 : Int32} {l2 : Int32} {l3 : Int32} {l4 : Int32} {l5 : Int32} {l6 : Int32} {M : gM} (hk9 : ∀ {l0 : Nat} {l1 : Int32} {l2 : Int32} {l3 : Int32} {l4 : Int32} {l5 : Int32} {l6 : Int32} {M : gM}, q_HT 0 M → (q_Kd M l0 (11, 0)) → (0 ≤ l1.toInt ∧ l1.toInt ≤ 6) → (0 ≤ l2.toInt ∧ l2.toInt ≤ 6) → (0 ≤ l3.toInt ∧ l3.toInt ≤ 6) → (0 ≤ l5.toInt ∧ l5.toInt ≤ 3) → (0 ≤ l6.toInt ∧ l6.toInt ≤ 7) → 7 - l6.toInt < m9 → Ok (k9 (some l0) l1 l2 l3 l4 l5 l6 M) (q_PI b M (-2147483648) (2147483647))) (H : q_HT 0 M) (K_l0 : q_Kd M l0 (11, 0)) (h_l1 : 0 ≤ l1.toInt ∧ l1.toInt ≤ 6) (h_l2 : 0 ≤ l2.toInt ∧ l2.toInt ≤ 6) (h_l3 : 0 ≤ l3.toInt ∧ l3.toInt ≤ 6) (h_l5 : 0 ≤ l5.toInt ∧ l5.toInt ≤ 3) (h_l6 : 0 ≤ l6.toInt ∧ l6.toInt ≤ 7) (hm9 : 7 - l6.toInt ≤ m9) : Ok (F_X11_spread_b9 k9 (some l0) l1 l2 l3 l4 l5 l6 M) (q_PI b M (-2147483648) (2147483647)) := by
  delta F_X11_spread_b9
  have z_0 := L_0
  have z_1 := L_1
  have z_3 := L_3
  refine d_gR (q := (1, 0)) H K_l0 (by decide) rfl (fun v1 r_v1 K_v1 => ?_)
  refine d_gI (lo := 0) (hi := 7) H K_v1 (by decide) rfl (fun v2 q_v2 e_v2 => ?_)
  refine Ok_i (fun c_1 => ?_) (fun c_1 => ?_)
  · skip
    replace c_1 := i_le c_1
    exact w_PI (q_rf _ _) (S_X11_spread_b78 (b := b)  H) (by decide) (by decide)
  · skip
    replace c_1 := i_nle c_1
    refine Ok_i (fun c_2 => ?_) (fun c_2 => ?_)
    · skip
      replace c_2 := i_le c_2
      exact w_PI (q_rf _ _) (S_X11_spread_b78 (b := b)  H) (by decide) (by decide)
    · skip
      replace c_2 := i_nle c_2
      refine Ok_i (fun c_3 => ?_) (fun c_3 => ?_)
      · skip
        replace c_3 := i_eq c_3
        exact w_PI (q_rf _ _) (S_X11_spread_b72 (b := b) hk9 H K_l0 h_l1 h_l2 h_l3 h_l5 (by omega) (by omega)) (by decide) (by decide)
      · skip
        replace c_3 := i_ne c_3
        refine c_gRs K_l0 r_v1 ?_
        refine d_gR (q := (20, 7)) H K_v1 (by decide) rfl (fun v4 r_v4 K_v4 => ?_)
        refine c_aI K_v4 (by omega) (by omega) (fun v5 => ?_)
        refine Ok_b (S_X11_bit H) (fun v6 e_v6 => ?_)
        refine Ok_i (fun c_4 => ?_) (fun c_4 => ?_)
        · skip
          replace c_4 := i_eq c_4
          refine d_gR (q := (8, 0)) H K_l0 (by decide) rfl (fun v7 r_v7 K_v7 => ?_)
          refine c_gO K_v7 ?_
          refine Ok_b (S_X8_takes (b := b) H K_v7 (by omega) h_l1 h_l3) (fun yM10 zM10 => ?_)
          obtain ⟨v9, M10⟩ := yM10
          obtain ⟨e_v9, HM10, fM10⟩ := zM10
          try dsimp only at e_v9 HM10 fM10
          refine Ok_i (fun c_5 => ?_) (fun c_5 => ?_)
          · skip
            replace c_5 := i_eq c_5
            have K_6 := (q_mo K_l0 (by decide) fM10)
            have a_7 := i_addc (x := l5) (c := 1) z_1 (by omega) (by omega)
            exact w_PI fM10 (S_X11_spread_b72 (b := b) hk9 HM10 K_6 h_l1 h_l2 h_l3 (by omega) (by omega) (by omega)) (by decide) (by decide)
          · skip
            replace c_5 := i_ne c_5
            have K_8 := (q_mo K_l0 (by decide) fM10)
            have a_9 := i_addc (x := l5) (c := 1) z_1 (by omega) (by omega)
            exact w_PI fM10 (S_X11_spread_b72 (b := b) hk9 HM10 K_8 h_l1 h_l2 h_l3 (by omega) (by omega) (by omega)) (by decide) (by decide)
        · skip
          replace c_4 := i_ne c_4
          exact w_PI (q_rf _ _) (S_X11_spread_b72 (b := b) hk9 H K_l0 h_l1 h_l2 h_l3 h_l5 (by omega) (by omega)) (by decide) (by decide)
theorem S_X11_spread_L9 {b : Nat → Bool} : ∀ (n : Nat) {l0 : Nat} {l1 : Int32} {l2 : Int32} {l3 : Int32} {l4 : Int32} {l5 : Int32} {l6 : Int32} {M : gM}, q_HT 0 M → (q_Kd M l0 (11, 0)) → (0 ≤ l1.toInt ∧ l1.toInt ≤ 6) → (0 ≤ l2.toInt ∧ l2.toInt ≤ 6) → (0 ≤ l3.toInt ∧ l3.toInt ≤ 6) → (0 ≤ l5.toInt ∧ l5.toInt ≤ 3) → (0 ≤ l6.toInt ∧ l6.toInt ≤ 7) → 7 - l6.toInt < (n : Int) → Ok (F_X11_spread_L9 n (some l0) l1 l2 l3 l4 l5 l6 M) (q_PI b M (-2147483648) (2147483647)) := by
  intro n
  induction n with
  | zero =>
    intro l0 l1 l2 l3 l4 l5 l6 M H K_l0 h_l1 h_l2 h_l3 h_l5 h_l6  hm
    exfalso
    omega
  | succ n ih =>
    intro l0 l1 l2 l3 l4 l5 l6 M H K_l0 h_l1 h_l2 h_l3 h_l5 h_l6  hm
    exact S_X11_spread_b9 (b := b) (m9 := 7 - l6.toInt) (fun H K_l0 h_l1 h_l2 h_l3 h_l5 h_l6  hm2 => ih H K_l0 h_l1 h_l2 h_l3 h_l5 h_l6  (by omega)) H K_l0 h_l1 h_l2 h_l3 h_l5 h_l6  (Int.le_refl _)
theorem S_X11_spread_b0 {b : Nat → Bool} {l0 : Nat} {l1 : Int32} {l2 : Int32} {l3 : Int32} {M : gM} (H : q_HT 0 M) (K_l0 : q_Kd M l0 (11, 0)) (h_l1 : 0 ≤ l1.toInt ∧ l1.toInt ≤ 6) (h_l2 : 0 ≤ l2.toInt ∧ l2.toInt ≤ 6) (h_l3 : 0 ≤ l3.toInt ∧ l3.toInt ≤ 6) : Ok (F_X11_spread_b0 (some l0) l1 l2 l3 M) (q_PI b M (-2147483648) (2147483647)) := by
  delta F_X11_spread_b0
  have z_0 := L_0
  exact w_PI (q_rf _ _) (S_X11_spread_L9 (b := b)  g_fuel H K_l0 h_l1 h_l2 h_l3 (by decide) (by decide) (q_fu (by omega))) (by decide) (by decide)
theorem S_X11_spread {b : Nat → Bool} {l0 : Nat} {l1 : Int32} {l2 : Int32} {l3 : Int32} {M : gM} (H : q_HT 0 M) (K_l0 : q_Kd M l0 (11, 0)) (h_l1 : 0 ≤ l1.toInt ∧ l1.toInt ≤ 6) (h_l2 : 0 ≤ l2.toInt ∧ l2.toInt ≤ 6) (h_l3 : 0 ≤ l3.toInt ∧ l3.toInt ≤ 6) : Ok (F_X11_spread (some l0) l1 l2 l3 M) (q_PI b M (-2147483648) (2147483647)) := by
  delta F_X11_spread
  exact w_PI (q_rf _ _) (S_X11_spread_b0 (b := b)  H K_l0 h_l1 h_l2 h_l3) (by decide) (by decide)
theorem S_X11_tell_b33 {b : Nat → Bool}  {M : gM} (H : q_HT 0 M) : Ok (F_X11_tell_b33 M) (q_PI b M (-2147483648) (2147483647)) := by
  delta F_X11_tell_b33
  have z_m1 := L_m1
  exact r_PI (i_rng _) H (q_rf _ _)
theorem S_X11_tell_b94 {b : Nat → Bool}  {M : gM} (H : q_HT 0 M) : Ok (F_X11_tell_b94 M) (q_PI b M (-2147483648) (2147483647)) := by
  delta F_X11_tell_b94
  have z_1 := L_1
  exact r_PI (i_rng _) H (q_rf _ _)
set_option maxHeartbeats 1000000 in
theorem S_X11_tell_b0 {b : Nat → Bool} {l0 : Nat} {l1 : Int32} {l2 : Int32} {l3 : Int32} {l4 : Int32} {M : gM} (H : q_HT 0 M) (K_l0 : q_Kd M l0 (11, 0)) : Ok (F_X11_tell_b0 (some l0) l1 l2 l3 l4 M) (q_PI b M (-2147483648) (2147483647)) := by
  delta F_X11_tell_b0
  have z_0 := L_0
  have z_7 := L_7
  refine c_gO K_l0 ?_
  refine Ok_b (S_X11_isHeir H K_l0) (fun v2 e_v2 => ?_)
  obtain ⟨e_v2, w_v2⟩ := e_v2
  refine Ok_i (fun c_1 => ?_) (fun c_1 => ?_)
  · skip
    replace c_1 := i_eq c_1
    exact w_PI (q_rf _ _) (S_X11_tell_b33 (b := b)  H) (by decide) (by decide)
  · skip
    replace c_1 := i_ne c_1
    have x_v2 := w_v2 (by omega)
    refine Ok_b (S_X11_isKnown H K_l0) (fun v3 e_v3 => ?_)
    obtain ⟨e_v3, w_v3⟩ := e_v3
    refine Ok_i (fun c_2 => ?_) (fun c_2 => ?_)
    · skip
      replace c_2 := i_eq c_2
      exact w_PI (q_rf _ _) (S_X11_tell_b33 (b := b)  H) (by decide) (by decide)
    · skip
      replace c_2 := i_ne c_2
      have x_v3 := w_v3 (by omega)
      refine d_gR (q := (1, 0)) H K_l0 (by decide) rfl (fun v4 r_v4 K_v4 => ?_)
      refine d_gR (q := (20, 7)) H K_v4 (by decide) rfl (fun v5 r_v5 K_v5 => ?_)
      refine c_aI K_v5 (by omega) (by omega) (fun v6 => ?_)
      refine Ok_b (S_X11_bit H) (fun v7 e_v7 => ?_)
      refine Ok_i (fun c_3 => ?_) (fun c_3 => ?_)
      · skip
        replace c_3 := i_eq c_3
        exact w_PI (q_rf _ _) (S_X11_tell_b33 (b := b)  H) (by decide) (by decide)
      · skip
        replace c_3 := i_ne c_3
        refine d_gR (q := (4, 0)) H K_l0 (by decide) rfl (fun v8 r_v8 K_v8 => ?_)
        refine d_gR (q := (8, 0)) H K_l0 (by decide) rfl (fun v9 r_v9 K_v9 => ?_)
        refine c_gO K_v8 ?_
        refine Ok_b (S_X4_keep (b := b) H K_v8 K_v9) (fun M11 zM11 => ?_)
        obtain ⟨HM11, fM11⟩ := zM11
        have K_4 := (q_mo K_l0 (by decide) fM11)
        refine d_gR (q := (8, 0)) HM11 K_4 (by decide) rfl (fun v12 r_v12 K_v12 => ?_)
        refine c_gO K_v12 ?_
        refine Ok_b (S_X8_takes (b := b) HM11 K_v12 (by omega) (by omega) (by omega)) (fun yM15 zM15 => ?_)
        obtain ⟨v14, M15⟩ := yM15
        obtain ⟨e_v14, HM15, fM15⟩ := zM15
        try dsimp only at e_v14 HM15 fM15
        have g_5 := q_tr fM11 fM15
        refine Ok_i (fun c_6 => ?_) (fun c_6 => ?_)
        · skip
          replace c_6 := i_eq c_6
          exact r_PI (i_rng _) HM15 g_5
        · skip
          replace c_6 := i_ne c_6
          refine Ok_i (fun c_7 => ?_) (fun c_7 => ?_)
          · skip
            replace c_7 := i_eq c_7
            exact w_PI g_5 (S_X11_tell_b94 (b := b)  HM15) (by decide) (by decide)
          · skip
            replace c_7 := i_ne c_7
            have K_8 := (q_mo K_4 (by decide) fM15)
            refine d_gR (q := (8, 0)) HM15 K_8 (by decide) rfl (fun v16 r_v16 K_v16 => ?_)
            refine d_gR (q := (20, 49)) HM15 K_v16 (by decide) rfl (fun v17 r_v17 K_v17 => ?_)
            have a_9 := i_mulR (x := l1) (c := (7 : Int32)) z_7 (by omega) (by omega)
            have a_10 := i_add (x := (l1 * (7 : Int32))) (y := l3) (by omega) (by omega)
            refine c_aI K_v17 (by omega) (by omega) (fun v18 => ?_)
            refine d_gR (q := (1, 0)) HM15 K_8 (by decide) rfl (fun v19 r_v19 K_v19 => ?_)
            refine d_gR (q := (20, 7)) HM15 K_v19 (by decide) rfl (fun v20 r_v20 K_v20 => ?_)
            refine c_aI K_v20 (by omega) (by omega) (fun v21 => ?_)
            refine Ok_i (fun c_11 => ?_) (fun c_11 => ?_)
            · skip
              replace c_11 := i_eq c_11
              exact w_PI g_5 (S_X11_tell_b94 (b := b)  HM15) (by decide) (by decide)
            · skip
              replace c_11 := i_ne c_11
              refine c_gC K_8 ?_
              refine Ok_b (S_X11_spread (b := b) HM15 K_8 (by omega) (by omega) (by omega)) (fun yM24 zM24 => ?_)
              obtain ⟨v23, M24⟩ := yM24
              obtain ⟨e_v23, HM24, fM24⟩ := zM24
              try dsimp only at e_v23 HM24 fM24
              have g_12 := q_tr g_5 fM24
              exact r_PI (i_rng _) HM24 g_12
theorem S_X11_tell {b : Nat → Bool} {l0 : Nat} {l1 : Int32} {l2 : Int32} {l3 : Int32} {l4 : Int32} {M : gM} (H : q_HT 0 M) (K_l0 : q_Kd M l0 (11, 0)) : Ok (F_X11_tell (some l0) l1 l2 l3 l4 M) (q_PI b M (-2147483648) (2147483647)) := by
  delta F_X11_tell
  exact w_PI (q_rf _ _) (S_X11_tell_b0 (b := b)  H K_l0) (by decide) (by decide)
theorem S_X11_prompted_b0 {l0 : Int32} {M : gM} (H : q_HT 0 M) : Ok (F_X11_prompted_b0 M l0) (q_pi (-2147483648) (99)) := by
  delta F_X11_prompted_b0
  have z_99 := L_99
  have a_1 := i_min (x := (l0 + (10 : Int32))) (y := (99 : Int32))
  exact r_pi (by omega)
theorem S_X11_prompted {l0 : Int32} {M : gM} (H : q_HT 0 M) : Ok (F_X11_prompted l0 M) (q_pi (-2147483648) (99)) := by
  delta F_X11_prompted
  exact w_pi (S_X11_prompted_b0  H) (by decide) (by decide)
set_option maxHeartbeats 1000000 in
theorem S_X11_prompt_b0 {b : Nat → Bool} {l0 : Nat} {l1 : Int32} {l2 : Int32} {M : gM} (H : q_HT 0 M) (K_l0 : q_Kd M l0 (11, 0)) : Ok (F_X11_prompt_b0 (some l0) l1 l2 M) (q_PI b M (-2147483648) (2147483647)) := by
  delta F_X11_prompt_b0
  have z_m1 := L_m1
  have z_0 := L_0
  have z_7 := L_7
  refine c_gO K_l0 ?_
  refine Ok_b (S_X11_isKnown H K_l0) (fun v2 e_v2 => ?_)
  obtain ⟨e_v2, w_v2⟩ := e_v2
  refine Ok_i (fun c_1 => ?_) (fun c_1 => ?_)
  · skip
    replace c_1 := i_eq c_1
    exact r_PI (i_rng _) H (q_rf _ _)
  · skip
    replace c_1 := i_ne c_1
    have x_v2 := w_v2 (by omega)
    refine d_gR (q := (4, 0)) H K_l0 (by decide) rfl (fun v3 r_v3 K_v3 => ?_)
    refine d_gR (q := (8, 0)) H K_l0 (by decide) rfl (fun v4 r_v4 K_v4 => ?_)
    refine c_gO K_v3 ?_
    refine Ok_b (S_X4_keep (b := b) H K_v3 K_v4) (fun M6 zM6 => ?_)
    obtain ⟨HM6, fM6⟩ := zM6
    have K_2 := (q_mo K_l0 (by decide) fM6)
    refine d_gR (q := (8, 0)) HM6 K_2 (by decide) rfl (fun v7 r_v7 K_v7 => ?_)
    refine d_gR (q := (20, 49)) HM6 K_v7 (by decide) rfl (fun v8 r_v8 K_v8 => ?_)
    refine c_gRs K_2 r_v7 ?_
    refine c_gRs K_v7 r_v8 ?_
    have a_3 := i_mulR (x := l1) (c := (7 : Int32)) z_7 (by omega) (by omega)
    have a_4 := i_add (x := (l1 * (7 : Int32))) (y := l2) (by omega) (by omega)
    refine c_aI K_v8 (by omega) (by omega) (fun v11 => ?_)
    refine Ok_b (S_X11_prompted HM6) (fun v12 e_v12 => ?_)
    refine c_sI (b := b) HM6 K_v8 (by omega) (by omega) (fun M13 HM13 fM13 o_M13 rr_M13 => ?_)
    have r_5 := (congrFun (congrFun rr_M13 _) 5).trans r_v7
    have r_6 := (congrFun (congrFun rr_M13 _) 1).trans r_v8
    have g_7 := q_tr fM6 fM13
    have K_8 := (q_mo K_2 (by decide) fM13)
    refine c_gRs K_8 r_5 ?_
    have K_9 := (q_mo K_v7 (by decide) fM13)
    refine c_gRs K_9 r_6 ?_
    have K_10 := (q_mo K_v8 (by decide) fM13)
    refine c_aI K_10 (by omega) (by omega) (fun v16 => ?_)
    exact r_PI (i_rng _) HM13 g_7
theorem S_X11_prompt {b : Nat → Bool} {l0 : Nat} {l1 : Int32} {l2 : Int32} {M : gM} (H : q_HT 0 M) (K_l0 : q_Kd M l0 (11, 0)) : Ok (F_X11_prompt (some l0) l1 l2 M) (q_PI b M (-2147483648) (2147483647)) := by
  delta F_X11_prompt
  exact w_PI (q_rf _ _) (S_X11_prompt_b0 (b := b)  H K_l0) (by decide) (by decide)
theorem S_X8_errs_b38  {M : gM} (H : q_HT 0 M) : Ok (F_X8_errs_b38 M) (q_pi (0) (1)) := by
  delta F_X8_errs_b38
  have z_0 := L_0
  exact r_pi (by decide)
set_option maxHeartbeats 1000000 in
theorem S_X8_errs_b0 {l0 : Nat} {l1 : Nat} {l2 : Int32} {l3 : Int32} {M : gM} (H : q_HT 0 M) (K_l0 : q_Kd M l0 (8, 0)) (K_l1 : q_Kd M l1 (1, 0)) (h_l2 : 0 ≤ l2.toInt ∧ l2.toInt ≤ 6) (h_l3 : 0 ≤ l3.toInt ∧ l3.toInt ≤ 6) : Ok (F_X8_errs_b0 M (some l0) (some l1) l2 l3) (q_pi (0) (1)) := by
  delta F_X8_errs_b0
  have z_0 := L_0
  have z_1 := L_1
  have z_7 := L_7
  refine d_gR (q := (20, 49)) H K_l0 (by decide) rfl (fun v1 r_v1 K_v1 => ?_)
  have a_1 := i_mulR (x := l2) (c := (7 : Int32)) z_7 (by omega) (by omega)
  have a_2 := i_add (x := (l2 * (7 : Int32))) (y := l3) (by omega) (by omega)
  refine c_aI K_v1 (by omega) (by omega) (fun v2 => ?_)
  refine Ok_i (fun c_3 => ?_) (fun c_3 => ?_)
  · skip
    replace c_3 := i_le c_3
    exact w_pi (S_X8_errs_b38  H) (by decide) (by decide)
  · skip
    replace c_3 := i_nle c_3
    refine d_gR (q := (20, 49)) H K_l0 (by decide) rfl (fun v3 r_v3 K_v3 => ?_)
    refine c_aI K_v3 (by omega) (by omega) (fun v4 => ?_)
    refine d_gR (q := (20, 7)) H K_l1 (by decide) rfl (fun v5 r_v5 K_v5 => ?_)
    refine c_aI K_v5 (by omega) (by omega) (fun v6 => ?_)
    refine Ok_i (fun c_4 => ?_) (fun c_4 => ?_)
    · skip
      replace c_4 := i_eq c_4
      exact w_pi (S_X8_errs_b38  H) (by decide) (by decide)
    · skip
      replace c_4 := i_ne c_4
      exact r_pi (by decide)
theorem S_X8_errs {l0 : Nat} {l1 : Nat} {l2 : Int32} {l3 : Int32} {M : gM} (H : q_HT 0 M) (K_l0 : q_Kd M l0 (8, 0)) (K_l1 : q_Kd M l1 (1, 0)) (h_l2 : 0 ≤ l2.toInt ∧ l2.toInt ≤ 6) (h_l3 : 0 ≤ l3.toInt ∧ l3.toInt ≤ 6) : Ok (F_X8_errs (some l0) (some l1) l2 l3 M) (q_pi (0) (1)) := by
  delta F_X8_errs
  exact w_pi (S_X8_errs_b0  H K_l0 K_l1 h_l2 h_l3) (by decide) (by decide)
theorem S_X8_isAsked_b0 {b : Nat → Bool} {l0 : Nat} {l1 : Nat} {l2 : Int32} {l3 : Int32} {M : gM} (H : q_HT 0 M) (K_l0 : q_Kd M l0 (8, 0)) (K_l1 : q_Kd M l1 (1, 0)) (h_l2 : 0 ≤ l2.toInt ∧ l2.toInt ≤ 6) (h_l3 : 0 ≤ l3.toInt ∧ l3.toInt ≤ 6) : Ok (F_X8_isAsked_b0 (some l0) (some l1) l2 l3 M) (q_PV b M) := by
  delta F_X8_isAsked_b0
  have z_0 := L_0
  refine c_gO K_l0 ?_
  refine Ok_b (S_X8_errs H K_l0 K_l1 h_l2 h_l3) (fun v2 e_v2 => ?_)
  refine Ok_i (fun c_1 => ?_) (fun c_1 => ?_)
  · skip
    replace c_1 := i_eq c_1
    exact r_PV H (q_rf _ _)
  · skip
    replace c_1 := i_ne c_1
    refine Ok_b (S_X8_forget (b := b) H K_l0 h_l2 h_l3) (fun M3 zM3 => ?_)
    obtain ⟨HM3, fM3⟩ := zM3
    exact r_PV HM3 fM3
theorem S_X8_isAsked {b : Nat → Bool} {l0 : Nat} {l1 : Nat} {l2 : Int32} {l3 : Int32} {M : gM} (H : q_HT 0 M) (K_l0 : q_Kd M l0 (8, 0)) (K_l1 : q_Kd M l1 (1, 0)) (h_l2 : 0 ≤ l2.toInt ∧ l2.toInt ≤ 6) (h_l3 : 0 ≤ l3.toInt ∧ l3.toInt ≤ 6) : Ok (F_X8_isAsked (some l0) (some l1) l2 l3 M) (q_PV b M) := by
  delta F_X8_isAsked
  exact w_PV (q_rf _ _) (S_X8_isAsked_b0 (b := b)  H K_l0 K_l1 h_l2 h_l3)
theorem S_X11_ask_b27 {b : Nat → Bool}  {M : gM} (H : q_HT 0 M) : Ok (F_X11_ask_b27 M) (q_PI b M (-2147483648) (2147483647)) := by
  delta F_X11_ask_b27
  have z_m1 := L_m1
  exact r_PI (i_rng _) H (q_rf _ _)
theorem S_X11_ask_b68 {b : Nat → Bool} {l0 : Nat} {l1 : Int32} {l2 : Int32} {s0 : Int32} {M : gM} (H : q_HT 0 M) (K_l0 : q_Kd M l0 (11, 0)) (h_l1 : 0 ≤ l1.toInt ∧ l1.toInt ≤ 6) (h_l2 : 0 ≤ l2.toInt ∧ l2.toInt ≤ 6) : Ok (F_X11_ask_b68 (some l0) l1 l2 s0 M) (q_PI b M (-2147483648) (2147483647)) := by
  delta F_X11_ask_b68
  refine d_gR (q := (8, 0)) H K_l0 (by decide) rfl (fun v1 r_v1 K_v1 => ?_)
  refine c_gIt K_v1 (fun v2 q_v2 => ?_)
  refine c_pI (b := b) (lo := -2147483648) (hi := 2147483647) H K_v1 (by decide) rfl (i_rng _) rfl (fun M3 HM3 fM3 q_M3 o_M3 rr_M3 => ?_)
  have r_1 := (congrFun (congrFun rr_M3 _) 5).trans r_v1
  have K_2 := (q_mo K_l0 (by decide) fM3)
  refine c_gRs K_2 r_1 ?_
  refine d_gR (q := (1, 0)) HM3 K_2 (by decide) rfl (fun v5 r_v5 K_v5 => ?_)
  have K_3 := (q_mo K_v1 (by decide) fM3)
  refine c_gO K_3 ?_
  refine Ok_b (S_X8_isAsked (b := b) HM3 K_3 K_v5 h_l1 h_l2) (fun M7 zM7 => ?_)
  obtain ⟨HM7, fM7⟩ := zM7
  have g_4 := q_tr fM3 fM7
  exact r_PI (i_rng _) HM7 g_4
set_option maxHeartbeats 1000000 in
theorem S_X11_ask_b0 {b : Nat → Bool} {l0 : Nat} {l1 : Int32} {l2 : Int32} {M : gM} (H : q_HT 0 M) (K_l0 : q_Kd M l0 (11, 0)) : Ok (F_X11_ask_b0 (some l0) l1 l2 M) (q_PI b M (-2147483648) (2147483647)) := by
  delta F_X11_ask_b0
  have z_0 := L_0
  have z_1 := L_1
  have z_7 := L_7
  refine c_gO K_l0 ?_
  refine Ok_b (S_X11_isHeir H K_l0) (fun v2 e_v2 => ?_)
  obtain ⟨e_v2, w_v2⟩ := e_v2
  refine Ok_i (fun c_1 => ?_) (fun c_1 => ?_)
  · skip
    replace c_1 := i_eq c_1
    exact w_PI (q_rf _ _) (S_X11_ask_b27 (b := b)  H) (by decide) (by decide)
  · skip
    replace c_1 := i_ne c_1
    have x_v2 := w_v2 (by omega)
    refine Ok_b (S_X11_isThing H K_l0) (fun v3 e_v3 => ?_)
    obtain ⟨e_v3, w_v3⟩ := e_v3
    refine Ok_i (fun c_2 => ?_) (fun c_2 => ?_)
    · skip
      replace c_2 := i_eq c_2
      exact w_PI (q_rf _ _) (S_X11_ask_b27 (b := b)  H) (by decide) (by decide)
    · skip
      replace c_2 := i_ne c_2
      have x_v3 := w_v3 (by omega)
      refine d_gR (q := (8, 0)) H K_l0 (by decide) rfl (fun v4 r_v4 K_v4 => ?_)
      refine c_gIt K_v4 (fun v5 q_v5 => ?_)
      refine Ok_i (fun c_3 => ?_) (fun c_3 => ?_)
      · skip
        replace c_3 := i_le c_3
        refine d_gR (q := (4, 0)) H K_l0 (by decide) rfl (fun v6 r_v6 K_v6 => ?_)
        refine c_gRs K_l0 r_v4 ?_
        refine c_gO K_v6 ?_
        refine Ok_b (S_X4_keep (b := b) H K_v6 K_v4) (fun M9 zM9 => ?_)
        obtain ⟨HM9, fM9⟩ := zM9
        have K_4 := (q_mo K_l0 (by decide) fM9)
        refine c_gC K_4 ?_
        refine Ok_b (S_X11_isKnown HM9 K_4) (fun v11 e_v11 => ?_)
        obtain ⟨e_v11, w_v11⟩ := e_v11
        refine Ok_i (fun c_5 => ?_) (fun c_5 => ?_)
        · skip
          replace c_5 := i_eq c_5
          exact w_PI fM9 (S_X11_ask_b68 (b := b)  HM9 K_4 (by omega) (by omega)) (by decide) (by decide)
        · skip
          replace c_5 := i_ne c_5
          have x_v11 := w_v11 (by omega)
          refine d_gR (q := (8, 0)) HM9 K_4 (by decide) rfl (fun v12 r_v12 K_v12 => ?_)
          refine d_gR (q := (20, 49)) HM9 K_v12 (by decide) rfl (fun v13 r_v13 K_v13 => ?_)
          have a_6 := i_mulR (x := l1) (c := (7 : Int32)) z_7 (by omega) (by omega)
          have a_7 := i_add (x := (l1 * (7 : Int32))) (y := l2) (by omega) (by omega)
          refine c_aI K_v13 (by omega) (by omega) (fun v14 => ?_)
          exact w_PI fM9 (S_X11_ask_b68 (b := b)  HM9 K_4 (by omega) (by omega)) (by decide) (by decide)
      · skip
        replace c_3 := i_nle c_3
        exact w_PI (q_rf _ _) (S_X11_ask_b27 (b := b)  H) (by decide) (by decide)
theorem S_X11_ask {b : Nat → Bool} {l0 : Nat} {l1 : Int32} {l2 : Int32} {M : gM} (H : q_HT 0 M) (K_l0 : q_Kd M l0 (11, 0)) : Ok (F_X11_ask (some l0) l1 l2 M) (q_PI b M (-2147483648) (2147483647)) := by
  delta F_X11_ask
  exact w_PI (q_rf _ _) (S_X11_ask_b0 (b := b)  H K_l0) (by decide) (by decide)
theorem S_X11_burn_b23 {b : Nat → Bool}  {M : gM} (H : q_HT 0 M) : Ok (F_X11_burn_b23 M) (q_PI b M (0) (1)) := by
  delta F_X11_burn_b23
  have z_0 := L_0
  exact r_PI (by decide) H (q_rf _ _)
set_option maxHeartbeats 1000000 in
theorem S_X11_burn_b0 {b : Nat → Bool} {l0 : Nat} {l1 : Int32} {M : gM} (H : q_HT 0 M) (K_l0 : q_Kd M l0 (11, 0)) : Ok (F_X11_burn_b0 (some l0) l1 M) (q_PI b M (0) (1)) := by
  delta F_X11_burn_b0
  have z_0 := L_0
  have z_1 := L_1
  refine c_gO K_l0 ?_
  refine Ok_b (S_X11_isThing H K_l0) (fun v2 e_v2 => ?_)
  obtain ⟨e_v2, w_v2⟩ := e_v2
  refine Ok_i (fun c_1 => ?_) (fun c_1 => ?_)
  · skip
    replace c_1 := i_eq c_1
    exact w_PI (q_rf _ _) (S_X11_burn_b23 (b := b)  H) (by decide) (by decide)
  · skip
    replace c_1 := i_ne c_1
    have x_v2 := w_v2 (by omega)
    refine d_gR (q := (8, 0)) H K_l0 (by decide) rfl (fun v3 r_v3 K_v3 => ?_)
    refine c_gIt K_v3 (fun v4 q_v4 => ?_)
    refine Ok_b (S_X11_bit H) (fun v5 e_v5 => ?_)
    refine Ok_i (fun c_2 => ?_) (fun c_2 => ?_)
    · skip
      replace c_2 := i_eq c_2
      exact w_PI (q_rf _ _) (S_X11_burn_b23 (b := b)  H) (by decide) (by decide)
    · skip
      replace c_2 := i_ne c_2
      refine d_gR (q := (4, 0)) H K_l0 (by decide) rfl (fun v6 r_v6 K_v6 => ?_)
      refine c_gRs K_l0 r_v3 ?_
      refine c_gO K_v6 ?_
      refine Ok_b (S_X4_keep (b := b) H K_v6 K_v3) (fun M9 zM9 => ?_)
      obtain ⟨HM9, fM9⟩ := zM9
      have K_3 := (q_mo K_l0 (by decide) fM9)
      refine d_gR (q := (8, 0)) HM9 K_3 (by decide) rfl (fun v10 r_v10 K_v10 => ?_)
      refine c_gIt K_v10 (fun v11 q_v11 => ?_)
      refine c_pI (b := b) (lo := -2147483648) (hi := 2147483647) HM9 K_v10 (by decide) rfl (i_rng _) rfl (fun M12 HM12 fM12 q_M12 o_M12 rr_M12 => ?_)
      have r_4 := (congrFun (congrFun rr_M12 _) 5).trans r_v10
      have g_5 := q_tr fM9 fM12
      exact r_PI (by decide) HM12 g_5
theorem S_X11_burn {b : Nat → Bool} {l0 : Nat} {l1 : Int32} {M : gM} (H : q_HT 0 M) (K_l0 : q_Kd M l0 (11, 0)) : Ok (F_X11_burn (some l0) l1 M) (q_PI b M (0) (1)) := by
  delta F_X11_burn
  exact w_PI (q_rf _ _) (S_X11_burn_b0 (b := b)  H K_l0) (by decide) (by decide)
set_option maxHeartbeats 1000000 in
theorem S_X4_giveBack_b0 {b : Nat → Bool} {l0 : Nat} {l1 : Nat} {M : gM} (H : q_HT 0 M) (K_l0 : q_Kd M l0 (4, 0)) (K_l1 : q_Kd M l1 (8, 0)) : Ok (F_X4_giveBack_b0 (some l0) (some l1) M) (q_PI b M (0) (1)) := by
  delta F_X4_giveBack_b0
  have z_0 := L_0
  have z_1 := L_1
  have z_20 := L_20
  refine d_gI (lo := 0) (hi := 20) H K_l0 (by decide) rfl (fun v1 q_v1 e_v1 => ?_)
  refine Ok_i (fun c_1 => ?_) (fun c_1 => ?_)
  · skip
    replace c_1 := i_eq c_1
    exact r_PI (by decide) H (q_rf _ _)
  · skip
    replace c_1 := i_ne c_1
    refine c_gIs K_l0 q_v1 (fun v2 e_v2 => ?_)
    have t_v2 := congrArg Int32.toInt e_v2
    have q_v2 := q_v1.trans e_v2.symm
    have a_2 := i_subc (x := v2) (c := (1 : Int32)) z_1 (by omega) (by omega)
    refine c_pI (b := b) (lo := 0) (hi := 20) H K_l0 (by decide) rfl (by omega) rfl (fun M3 HM3 fM3 q_M3 o_M3 rr_M3 => ?_)
    have K_3 := (q_mo K_l0 (by decide) fM3)
    refine d_gI (lo := 0) (hi := 19) HM3 K_3 (by decide) rfl (fun v4 q_v4 e_v4 => ?_)
    have a_4 := i_addc (x := v4) (c := (20 : Int32)) z_20 (by omega) (by omega)
    have a_5 := i_subc (x := (v4 + (20 : Int32))) (c := (1 : Int32)) z_1 (by omega) (by omega)
    have a_6 := i_mod (x := ((v4 + (20 : Int32)) - (1 : Int32))) (c := (20 : Int32)) (n := 20) z_20 (by decide) (by omega)
    refine c_pI (b := b) (lo := 0) (hi := 19) HM3 K_3 (by decide) rfl (by omega) rfl (fun M5 HM5 fM5 q_M5 o_M5 rr_M5 => ?_)
    have q_7 := (o_M5 _ _ (Or.inr (by decide))).trans q_M3
    have g_8 := q_tr fM3 fM5
    have K_9 := (q_mo K_3 (by decide) fM5)
    refine d_gR (q := (24, 20)) HM5 K_9 (by decide) rfl (fun v6 r_v6 K_v6 => ?_)
    refine c_gIs K_9 q_M5 (fun v7 e_v7 => ?_)
    have t_v7 := congrArg Int32.toInt e_v7
    have q_v7 := q_M5.trans e_v7.symm
    refine d_aR24 HM5 K_v6 (by omega) (by omega) (fun v8 K_v8 => ?_)
    have K_10 := (q_mo (q_mo K_l1 (by decide) fM3) (by decide) fM5)
    refine c_gO K_10 ?_
    refine Ok_b (S_X8_copy (b := b) HM5 K_10 K_v8) (fun M10 zM10 => ?_)
    obtain ⟨HM10, fM10⟩ := zM10
    have g_11 := q_tr g_8 fM10
    exact r_PI (by decide) HM10 g_11
theorem S_X4_giveBack {b : Nat → Bool} {l0 : Nat} {l1 : Nat} {M : gM} (H : q_HT 0 M) (K_l0 : q_Kd M l0 (4, 0)) (K_l1 : q_Kd M l1 (8, 0)) : Ok (F_X4_giveBack (some l0) (some l1) M) (q_PI b M (0) (1)) := by
  delta F_X4_giveBack
  exact w_PI (q_rf _ _) (S_X4_giveBack_b0 (b := b)  H K_l0 K_l1) (by decide) (by decide)
theorem S_X11_undo_b0 {b : Nat → Bool} {l0 : Nat} {M : gM} (H : q_HT 0 M) (K_l0 : q_Kd M l0 (11, 0)) : Ok (F_X11_undo_b0 (some l0) M) (q_PI b M (-1) (20)) := by
  delta F_X11_undo_b0
  have z_m1 := L_m1
  have z_0 := L_0
  refine d_gR (q := (4, 0)) H K_l0 (by decide) rfl (fun v1 r_v1 K_v1 => ?_)
  refine d_gR (q := (8, 0)) H K_l0 (by decide) rfl (fun v2 r_v2 K_v2 => ?_)
  refine c_gO K_v1 ?_
  refine Ok_b (S_X4_giveBack (b := b) H K_v1 K_v2) (fun yM5 zM5 => ?_)
  obtain ⟨v4, M5⟩ := yM5
  obtain ⟨e_v4, HM5, fM5⟩ := zM5
  try dsimp only at e_v4 HM5 fM5
  refine Ok_i (fun c_1 => ?_) (fun c_1 => ?_)
  · skip
    replace c_1 := i_eq c_1
    exact r_PI (by decide) HM5 fM5
  · skip
    replace c_1 := i_ne c_1
    have K_2 := (q_mo K_l0 (by decide) fM5)
    refine d_gR (q := (4, 0)) HM5 K_2 (by decide) rfl (fun v6 r_v6 K_v6 => ?_)
    refine d_gI (lo := 0) (hi := 20) HM5 K_v6 (by decide) rfl (fun v7 q_v7 e_v7 => ?_)
    exact r_PI (by omega) HM5 fM5
theorem S_X11_undo {b : Nat → Bool} {l0 : Nat} {M : gM} (H : q_HT 0 M) (K_l0 : q_Kd M l0 (11, 0)) : Ok (F_X11_undo (some l0) M) (q_PI b M (-1) (20)) := by
  delta F_X11_undo
  exact w_PI (q_rf _ _) (S_X11_undo_b0 (b := b)  H K_l0) (by decide) (by decide)
theorem S_X8_standing_b28 {k4 : Option Nat → Option Nat → Int32 → Int32 → Option Int32} {m4 : Int} {l0 : Nat} {l1 : Nat} {l2 : Int32} {l3 : Int32} {M : gM} (hk4 : ∀ {l0 : Nat} {l1 : Nat} {l2 : Int32} {l3 : Int32}, q_HT 0 M → (q_Kd M l0 (8, 0)) → (q_Kd M l1 (1, 0)) → (0 ≤ l3.toInt ∧ l3.toInt ≤ 7) → 7 - l3.toInt < m4 → Ok (k4 (some l0) (some l1) l2 l3) (q_pi (-2147483648) (2147483647))) (H : q_HT 0 M) (K_l0 : q_Kd M l0 (8, 0)) (K_l1 : q_Kd M l1 (1, 0)) (h_l3 : 0 ≤ l3.toInt ∧ l3.toInt ≤ 6) (hm4 : 7 - l3.toInt ≤ m4) : Ok (F_X8_standing_b28 k4 M (some l0) (some l1) l2 l3) (q_pi (-2147483648) (2147483647)) := by
  delta F_X8_standing_b28
  have z_1 := L_1
  have a_1 := i_addc (x := l3) (c := 1) z_1 (by omega) (by omega)
  exact w_pi (hk4 H K_l0 K_l1 (by omega) (by omega)) (by decide) (by decide)
theorem S_X8_standing_b4 {k4 : Option Nat → Option Nat → Int32 → Int32 → Option Int32} {m4 : Int} {l0 : Nat} {l1 : Nat} {l2 : Int32} {l3 : Int32} {M : gM} (hk4 : ∀ {l0 : Nat} {l1 : Nat} {l2 : Int32} {l3 : Int32}, q_HT 0 M → (q_Kd M l0 (8, 0)) → (q_Kd M l1 (1, 0)) → (0 ≤ l3.toInt ∧ l3.toInt ≤ 7) → 7 - l3.toInt < m4 → Ok (k4 (some l0) (some l1) l2 l3) (q_pi (-2147483648) (2147483647))) (H : q_HT 0 M) (K_l0 : q_Kd M l0 (8, 0)) (K_l1 : q_Kd M l1 (1, 0)) (h_l3 : 0 ≤ l3.toInt ∧ l3.toInt ≤ 7) (hm4 : 7 - l3.toInt ≤ m4) : Ok (F_X8_standing_b4 k4 M (some l0) (some l1) l2 l3) (q_pi (-2147483648) (2147483647)) := by
  delta F_X8_standing_b4
  have z_m1 := L_m1
  refine d_gI (lo := 0) (hi := 7) H K_l1 (by decide) rfl (fun v1 q_v1 e_v1 => ?_)
  refine Ok_i (fun c_1 => ?_) (fun c_1 => ?_)
  · skip
    replace c_1 := i_le c_1
    exact r_pi (i_rng _)
  · skip
    replace c_1 := i_nle c_1
    refine d_gR (q := (20, 7)) H K_l0 (by decide) rfl (fun v2 r_v2 K_v2 => ?_)
    refine c_aI K_v2 (by omega) (by omega) (fun v3 => ?_)
    refine Ok_i (fun c_2 => ?_) (fun c_2 => ?_)
    · skip
      replace c_2 := i_eq c_2
      exact w_pi (S_X8_standing_b28 hk4 H K_l0 K_l1 (by omega) (by omega)) (by decide) (by decide)
    · skip
      replace c_2 := i_ne c_2
      exact w_pi (S_X8_standing_b28 hk4 H K_l0 K_l1 (by omega) (by omega)) (by decide) (by decide)
theorem S_X8_standing_L4 {M : gM} : ∀ (n : Nat) {l0 : Nat} {l1 : Nat} {l2 : Int32} {l3 : Int32}, q_HT 0 M → (q_Kd M l0 (8, 0)) → (q_Kd M l1 (1, 0)) → (0 ≤ l3.toInt ∧ l3.toInt ≤ 7) → 7 - l3.toInt < (n : Int) → Ok (F_X8_standing_L4 M n (some l0) (some l1) l2 l3) (q_pi (-2147483648) (2147483647)) := by
  intro n
  induction n with
  | zero =>
    intro l0 l1 l2 l3 H K_l0 K_l1 h_l3  hm
    exfalso
    omega
  | succ n ih =>
    intro l0 l1 l2 l3 H K_l0 K_l1 h_l3  hm
    exact S_X8_standing_b4 (m4 := 7 - l3.toInt) (fun H K_l0 K_l1 h_l3  hm2 => ih H K_l0 K_l1 h_l3  (by omega)) H K_l0 K_l1 h_l3  (Int.le_refl _)
theorem S_X8_standing_b0 {l0 : Nat} {l1 : Nat} {M : gM} (H : q_HT 0 M) (K_l0 : q_Kd M l0 (8, 0)) (K_l1 : q_Kd M l1 (1, 0)) : Ok (F_X8_standing_b0 M (some l0) (some l1)) (q_pi (-2147483648) (2147483647)) := by
  delta F_X8_standing_b0
  have z_0 := L_0
  exact w_pi (S_X8_standing_L4  g_fuel H K_l0 K_l1 (by decide) (q_fu (by omega))) (by decide) (by decide)
theorem S_X8_standing {l0 : Nat} {l1 : Nat} {M : gM} (H : q_HT 0 M) (K_l0 : q_Kd M l0 (8, 0)) (K_l1 : q_Kd M l1 (1, 0)) : Ok (F_X8_standing (some l0) (some l1) M) (q_pi (-2147483648) (2147483647)) := by
  delta F_X8_standing
  exact w_pi (S_X8_standing_b0  H K_l0 K_l1) (by decide) (by decide)
set_option maxHeartbeats 1000000 in
theorem S_X11_lookAhead_b13 {b : Nat → Bool} {k13 : Option Nat → Int32 → Int32 → gM → Option gM} {m13 : Int} {l0 : Nat} {l1 : Int32} {l2 : Int32} {M : gM} (hk13 : ∀ {l0 : Nat} {l1 : Int32} {l2 : Int32} {M : gM}, q_HT 0 M → (q_Kd M l0 (11, 0)) → (0 ≤ l1.toInt ∧ l1.toInt ≤ 200) → (0 ≤ l2.toInt ∧ l2.toInt ≤ 200) → 200 - l2.toInt < m13 → Ok (k13 (some l0) l1 l2 M) (q_PV b M)) (H : q_HT 0 M) (K_l0 : q_Kd M l0 (11, 0)) (h_l1 : 0 ≤ l1.toInt ∧ l1.toInt ≤ 200) (h_l2 : 0 ≤ l2.toInt ∧ l2.toInt ≤ 200) (hm13 : 200 - l2.toInt ≤ m13) : Ok (F_X11_lookAhead_b13 k13 (some l0) l1 l2 M) (q_PV b M) := by
  delta F_X11_lookAhead_b13
  have z_0 := L_0
  have z_1 := L_1
  refine Ok_i (fun c_1 => ?_) (fun c_1 => ?_)
  · skip
    replace c_1 := i_le c_1
    exact r_PV H (q_rf _ _)
  · skip
    replace c_1 := i_nle c_1
    refine d_gR (q := (8, 0)) H K_l0 (by decide) rfl (fun v1 r_v1 K_v1 => ?_)
    refine d_gR (q := (1, 0)) H K_l0 (by decide) rfl (fun v2 r_v2 K_v2 => ?_)
    refine c_gO K_v1 ?_
    refine Ok_b (S_X8_standing H K_v1 K_v2) (fun v4 e_v4 => ?_)
    refine Ok_i (fun c_2 => ?_) (fun c_2 => ?_)
    · skip
      replace c_2 := i_eq c_2
      exact r_PV H (q_rf _ _)
    · skip
      replace c_2 := i_ne c_2
      refine d_gR (q := (10, 0)) H K_l0 (by decide) rfl (fun v5 r_v5 K_v5 => ?_)
      refine c_gRs K_l0 r_v2 ?_
      refine c_gRs K_l0 r_v1 ?_
      refine c_gO K_l0 ?_
      refine Ok_b (S_X11_ruleInForce H K_l0) (fun v9 e_v9 => ?_)
      refine c_gO K_v5 ?_
      refine Ok_b (S_X10_pass (b := b) H K_v5 K_v2 K_v1 e_v9) (fun yM12 zM12 => ?_)
      obtain ⟨v11, M12⟩ := yM12
      obtain ⟨e_v11, HM12, fM12⟩ := zM12
      try dsimp only at e_v11 HM12 fM12
      have K_3 := (q_mo K_l0 (by decide) fM12)
      have a_4 := i_addc (x := l2) (c := 1) z_1 (by omega) (by omega)
      exact w_PV fM12 (hk13 HM12 K_3 h_l1 (by omega) (by omega))
theorem S_X11_lookAhead_L13 {b : Nat → Bool} : ∀ (n : Nat) {l0 : Nat} {l1 : Int32} {l2 : Int32} {M : gM}, q_HT 0 M → (q_Kd M l0 (11, 0)) → (0 ≤ l1.toInt ∧ l1.toInt ≤ 200) → (0 ≤ l2.toInt ∧ l2.toInt ≤ 200) → 200 - l2.toInt < (n : Int) → Ok (F_X11_lookAhead_L13 n (some l0) l1 l2 M) (q_PV b M) := by
  intro n
  induction n with
  | zero =>
    intro l0 l1 l2 M H K_l0 h_l1 h_l2  hm
    exfalso
    omega
  | succ n ih =>
    intro l0 l1 l2 M H K_l0 h_l1 h_l2  hm
    exact S_X11_lookAhead_b13 (b := b) (m13 := 200 - l2.toInt) (fun H K_l0 h_l1 h_l2  hm2 => ih H K_l0 h_l1 h_l2  (by omega)) H K_l0 h_l1 h_l2  (Int.le_refl _)
theorem S_X11_lookAhead_b0 {b : Nat → Bool} {l0 : Nat} {l1 : Int32} {M : gM} (H : q_HT 0 M) (K_l0 : q_Kd M l0 (11, 0)) (h_l1 : 0 ≤ l1.toInt ∧ l1.toInt ≤ 200) : Ok (F_X11_lookAhead_b0 (some l0) l1 M) (q_PV b M) := by
  delta F_X11_lookAhead_b0
  have z_0 := L_0
  refine d_gR (q := (8, 0)) H K_l0 (by decide) rfl (fun v1 r_v1 K_v1 => ?_)
  refine d_gR (q := (8, 0)) H K_l0 (by decide) rfl (fun v2 r_v2 K_v2 => ?_)
  refine c_gO K_v1 ?_
  refine Ok_b (S_X8_copy (b := b) H K_v1 K_v2) (fun M4 zM4 => ?_)
  obtain ⟨HM4, fM4⟩ := zM4
  have K_1 := (q_mo K_l0 (by decide) fM4)
  exact w_PV fM4 (S_X11_lookAhead_L13 (b := b)  g_fuel HM4 K_1 h_l1 (by decide) (q_fu (by omega)))
theorem S_X11_lookAhead {b : Nat → Bool} {l0 : Nat} {l1 : Int32} {M : gM} (H : q_HT 0 M) (K_l0 : q_Kd M l0 (11, 0)) (h_l1 : 0 ≤ l1.toInt ∧ l1.toInt ≤ 200) : Ok (F_X11_lookAhead (some l0) l1 M) (q_PV b M) := by
  delta F_X11_lookAhead
  exact w_PV (q_rf _ _) (S_X11_lookAhead_b0 (b := b)  H K_l0 h_l1)
theorem S_X11_ahead_b19 {b : Nat → Bool}  {M : gM} (H : q_HT 0 M) : Ok (F_X11_ahead_b19 M) (q_PI b M (-2147483648) (2147483647)) := by
  delta F_X11_ahead_b19
  have z_m1 := L_m1
  exact r_PI (i_rng _) H (q_rf _ _)
set_option maxHeartbeats 1000000 in
theorem S_X11_ahead_b0 {b : Nat → Bool} {l0 : Nat} {l1 : Int32} {l2 : Int32} {M : gM} (H : q_HT 0 M) (K_l0 : q_Kd M l0 (11, 0)) : Ok (F_X11_ahead_b0 (some l0) l1 l2 M) (q_PI b M (-2147483648) (2147483647)) := by
  delta F_X11_ahead_b0
  have z_0 := L_0
  have z_200 := L_200
  refine c_gO K_l0 ?_
  refine Ok_b (S_X11_isHeir H K_l0) (fun v2 e_v2 => ?_)
  obtain ⟨e_v2, w_v2⟩ := e_v2
  refine Ok_i (fun c_1 => ?_) (fun c_1 => ?_)
  · skip
    replace c_1 := i_eq c_1
    exact w_PI (q_rf _ _) (S_X11_ahead_b19 (b := b)  H) (by decide) (by decide)
  · skip
    replace c_1 := i_ne c_1
    have x_v2 := w_v2 (by omega)
    refine Ok_i (fun c_2 => ?_) (fun c_2 => ?_)
    · skip
      replace c_2 := i_lt c_2
      exact w_PI (q_rf _ _) (S_X11_ahead_b19 (b := b)  H) (by decide) (by decide)
    · skip
      replace c_2 := i_nlt c_2
      refine Ok_i (fun c_3 => ?_) (fun c_3 => ?_)
      · skip
        replace c_3 := i_le c_3
        refine Ok_b (S_X11_lookAhead (b := b) H K_l0 (by omega)) (fun M3 zM3 => ?_)
        obtain ⟨HM3, fM3⟩ := zM3
        have K_4 := (q_mo K_l0 (by decide) fM3)
        refine d_gR (q := (8, 0)) HM3 K_4 (by decide) rfl (fun v4 r_v4 K_v4 => ?_)
        refine d_gR (q := (1, 0)) HM3 K_4 (by decide) rfl (fun v5 r_v5 K_v5 => ?_)
        refine c_gO K_v4 ?_
        refine Ok_b (S_X8_heldBy HM3 K_v4 K_v5 (by omega)) (fun v7 e_v7 => ?_)
        exact r_PI (i_rng _) HM3 fM3
      · skip
        replace c_3 := i_nle c_3
        exact w_PI (q_rf _ _) (S_X11_ahead_b19 (b := b)  H) (by decide) (by decide)
theorem S_X11_ahead {b : Nat → Bool} {l0 : Nat} {l1 : Int32} {l2 : Int32} {M : gM} (H : q_HT 0 M) (K_l0 : q_Kd M l0 (11, 0)) : Ok (F_X11_ahead (some l0) l1 l2 M) (q_PI b M (-2147483648) (2147483647)) := by
  delta F_X11_ahead
  exact w_PI (q_rf _ _) (S_X11_ahead_b0 (b := b)  H K_l0) (by decide) (by decide)
theorem S_X11_strikeLater_b48 {b : Nat → Bool} {l0 : Nat} {l1 : Int32} {M : gM} (H : q_HT 0 M) (K_l0 : q_Kd M l0 (11, 0)) (h_l1 : 0 ≤ l1.toInt ∧ l1.toInt ≤ 6) : Ok (F_X11_strikeLater_b48 (some l0) l1 M) (q_PI b M (-2147483648) (2147483647)) := by
  delta F_X11_strikeLater_b48
  refine d_gR (q := (8, 0)) H K_l0 (by decide) rfl (fun v1 r_v1 K_v1 => ?_)
  refine d_gR (q := (20, 7)) H K_v1 (by decide) rfl (fun v2 r_v2 K_v2 => ?_)
  refine c_aI K_v2 (by omega) (by omega) (fun v3 => ?_)
  exact r_PI (i_rng _) H (q_rf _ _)
set_option maxHeartbeats 1000000 in
theorem S_X11_strikeLater_b2 {b : Nat → Bool} {k2 : Option Nat → Int32 → Int32 → gM → Option (Int32 × gM)} {m2 : Int} {l0 : Nat} {l1 : Int32} {l2 : Int32} {M : gM} (hk2 : ∀ {l0 : Nat} {l1 : Int32} {l2 : Int32} {M : gM}, q_HT 0 M → (q_Kd M l0 (11, 0)) → (0 ≤ l1.toInt ∧ l1.toInt ≤ 6) → (0 ≤ l2.toInt ∧ l2.toInt ≤ 200) → 200 - l2.toInt < m2 → Ok (k2 (some l0) l1 l2 M) (q_PI b M (-2147483648) (2147483647))) (H : q_HT 0 M) (K_l0 : q_Kd M l0 (11, 0)) (h_l1 : 0 ≤ l1.toInt ∧ l1.toInt ≤ 6) (h_l2 : 0 ≤ l2.toInt ∧ l2.toInt ≤ 200) (hm2 : 200 - l2.toInt ≤ m2) : Ok (F_X11_strikeLater_b2 k2 (some l0) l1 l2 M) (q_PI b M (-2147483648) (2147483647)) := by
  delta F_X11_strikeLater_b2
  have z_m1 := L_m1
  have z_1 := L_1
  have z_200 := L_200
  refine Ok_i (fun c_1 => ?_) (fun c_1 => ?_)
  · skip
    replace c_1 := i_le c_1
    exact w_PI (q_rf _ _) (S_X11_strikeLater_b48 (b := b)  H K_l0 h_l1) (by decide) (by decide)
  · skip
    replace c_1 := i_nle c_1
    refine d_gR (q := (8, 0)) H K_l0 (by decide) rfl (fun v1 r_v1 K_v1 => ?_)
    refine d_gR (q := (20, 7)) H K_v1 (by decide) rfl (fun v2 r_v2 K_v2 => ?_)
    refine c_aI K_v2 (by omega) (by omega) (fun v3 => ?_)
    refine Ok_i (fun c_2 => ?_) (fun c_2 => ?_)
    · skip
      replace c_2 := i_eq c_2
      refine d_gR (q := (10, 0)) H K_l0 (by decide) rfl (fun v4 r_v4 K_v4 => ?_)
      refine d_gR (q := (1, 0)) H K_l0 (by decide) rfl (fun v5 r_v5 K_v5 => ?_)
      refine c_gRs K_l0 r_v1 ?_
      refine c_gO K_l0 ?_
      refine Ok_b (S_X11_ruleInForce H K_l0) (fun v8 e_v8 => ?_)
      refine c_gO K_v4 ?_
      refine Ok_b (S_X10_pass (b := b) H K_v4 K_v5 K_v1 e_v8) (fun yM11 zM11 => ?_)
      obtain ⟨v10, M11⟩ := yM11
      obtain ⟨e_v10, HM11, fM11⟩ := zM11
      try dsimp only at e_v10 HM11 fM11
      have K_3 := (q_mo K_l0 (by decide) fM11)
      have a_4 := i_addc (x := l2) (c := 1) z_1 (by omega) (by omega)
      exact w_PI fM11 (hk2 HM11 K_3 h_l1 (by omega) (by omega)) (by decide) (by decide)
    · skip
      replace c_2 := i_ne c_2
      exact w_PI (q_rf _ _) (S_X11_strikeLater_b48 (b := b)  H K_l0 h_l1) (by decide) (by decide)
theorem S_X11_strikeLater_L2 {b : Nat → Bool} : ∀ (n : Nat) {l0 : Nat} {l1 : Int32} {l2 : Int32} {M : gM}, q_HT 0 M → (q_Kd M l0 (11, 0)) → (0 ≤ l1.toInt ∧ l1.toInt ≤ 6) → (0 ≤ l2.toInt ∧ l2.toInt ≤ 200) → 200 - l2.toInt < (n : Int) → Ok (F_X11_strikeLater_L2 n (some l0) l1 l2 M) (q_PI b M (-2147483648) (2147483647)) := by
  intro n
  induction n with
  | zero =>
    intro l0 l1 l2 M H K_l0 h_l1 h_l2  hm
    exfalso
    omega
  | succ n ih =>
    intro l0 l1 l2 M H K_l0 h_l1 h_l2  hm
    exact S_X11_strikeLater_b2 (b := b) (m2 := 200 - l2.toInt) (fun H K_l0 h_l1 h_l2  hm2 => ih H K_l0 h_l1 h_l2  (by omega)) H K_l0 h_l1 h_l2  (Int.le_refl _)
theorem S_X11_strikeLater_b0 {b : Nat → Bool} {l0 : Nat} {l1 : Int32} {M : gM} (H : q_HT 0 M) (K_l0 : q_Kd M l0 (11, 0)) (h_l1 : 0 ≤ l1.toInt ∧ l1.toInt ≤ 6) : Ok (F_X11_strikeLater_b0 (some l0) l1 M) (q_PI b M (-2147483648) (2147483647)) := by
  delta F_X11_strikeLater_b0
  have z_0 := L_0
  exact w_PI (q_rf _ _) (S_X11_strikeLater_L2 (b := b)  g_fuel H K_l0 h_l1 (by decide) (q_fu (by omega))) (by decide) (by decide)
theorem S_X11_strikeLater {b : Nat → Bool} {l0 : Nat} {l1 : Int32} {M : gM} (H : q_HT 0 M) (K_l0 : q_Kd M l0 (11, 0)) (h_l1 : 0 ≤ l1.toInt ∧ l1.toInt ≤ 6) : Ok (F_X11_strikeLater (some l0) l1 M) (q_PI b M (-2147483648) (2147483647)) := by
  delta F_X11_strikeLater
  exact w_PI (q_rf _ _) (S_X11_strikeLater_b0 (b := b)  H K_l0 h_l1) (by decide) (by decide)
set_option maxHeartbeats 1000000 in
theorem S_X11_strike_b0 {b : Nat → Bool} {l0 : Nat} {l1 : Int32} {M : gM} (H : q_HT 0 M) (K_l0 : q_Kd M l0 (11, 0)) : Ok (F_X11_strike_b0 (some l0) l1 M) (q_PI b M (-2147483648) (2147483647)) := by
  delta F_X11_strike_b0
  have z_m2 := L_m2
  have z_m1 := L_m1
  have z_0 := L_0
  refine c_gO K_l0 ?_
  refine Ok_b (S_X11_isThing H K_l0) (fun v2 e_v2 => ?_)
  obtain ⟨e_v2, w_v2⟩ := e_v2
  refine Ok_i (fun c_1 => ?_) (fun c_1 => ?_)
  · skip
    replace c_1 := i_eq c_1
    exact r_PI (i_rng _) H (q_rf _ _)
  · skip
    replace c_1 := i_ne c_1
    have x_v2 := w_v2 (by omega)
    refine d_gR (q := (8, 0)) H K_l0 (by decide) rfl (fun v3 r_v3 K_v3 => ?_)
    refine d_gR (q := (8, 0)) H K_l0 (by decide) rfl (fun v4 r_v4 K_v4 => ?_)
    refine c_gO K_v3 ?_
    refine Ok_b (S_X8_copy (b := b) H K_v3 K_v4) (fun M6 zM6 => ?_)
    obtain ⟨HM6, fM6⟩ := zM6
    have K_2 := (q_mo K_l0 (by decide) fM6)
    refine c_gC K_2 ?_
    refine Ok_b (S_X11_strikeLater (b := b) HM6 K_2 (by omega)) (fun yM9 zM9 => ?_)
    obtain ⟨v8, M9⟩ := yM9
    obtain ⟨e_v8, HM9, fM9⟩ := zM9
    try dsimp only at e_v8 HM9 fM9
    have g_3 := q_tr fM6 fM9
    refine Ok_i (fun c_4 => ?_) (fun c_4 => ?_)
    · skip
      replace c_4 := i_eq c_4
      exact r_PI (i_rng _) HM9 g_3
    · skip
      replace c_4 := i_ne c_4
      exact r_PI (i_rng _) HM9 g_3
theorem S_X11_strike {b : Nat → Bool} {l0 : Nat} {l1 : Int32} {M : gM} (H : q_HT 0 M) (K_l0 : q_Kd M l0 (11, 0)) : Ok (F_X11_strike (some l0) l1 M) (q_PI b M (-2147483648) (2147483647)) := by
  delta F_X11_strike
  exact w_PI (q_rf _ _) (S_X11_strike_b0 (b := b)  H K_l0) (by decide) (by decide)
theorem S_X8_isAnyHeld_b2 {k2 : Option Nat → Option Nat → Int32 → Option Int32} {m2 : Int} {l0 : Nat} {l1 : Nat} {l2 : Int32} {M : gM} (hk2 : ∀ {l0 : Nat} {l1 : Nat} {l2 : Int32}, q_HT 0 M → (q_Kd M l0 (8, 0)) → (q_Kd M l1 (1, 0)) → (0 ≤ l2.toInt ∧ l2.toInt ≤ 7) → 7 - l2.toInt < m2 → Ok (k2 (some l0) (some l1) l2) (q_pi (0) (1))) (H : q_HT 0 M) (K_l0 : q_Kd M l0 (8, 0)) (K_l1 : q_Kd M l1 (1, 0)) (h_l2 : 0 ≤ l2.toInt ∧ l2.toInt ≤ 7) (hm2 : 7 - l2.toInt ≤ m2) : Ok (F_X8_isAnyHeld_b2 k2 M (some l0) (some l1) l2) (q_pi (0) (1)) := by
  delta F_X8_isAnyHeld_b2
  have z_0 := L_0
  have z_1 := L_1
  refine d_gI (lo := 0) (hi := 7) H K_l1 (by decide) rfl (fun v1 q_v1 e_v1 => ?_)
  refine Ok_i (fun c_1 => ?_) (fun c_1 => ?_)
  · skip
    replace c_1 := i_le c_1
    exact r_pi (by decide)
  · skip
    replace c_1 := i_nle c_1
    refine c_gO K_l0 ?_
    refine Ok_b (S_X8_holdersOf H K_l0 K_l1 (by omega)) (fun v3 e_v3 => ?_)
    refine Ok_i (fun c_2 => ?_) (fun c_2 => ?_)
    · skip
      replace c_2 := i_eq c_2
      have a_3 := i_addc (x := l2) (c := 1) z_1 (by omega) (by omega)
      exact w_pi (hk2 H K_l0 K_l1 (by omega) (by omega)) (by decide) (by decide)
    · skip
      replace c_2 := i_ne c_2
      exact r_pi (by decide)
theorem S_X8_isAnyHeld_L2 {M : gM} : ∀ (n : Nat) {l0 : Nat} {l1 : Nat} {l2 : Int32}, q_HT 0 M → (q_Kd M l0 (8, 0)) → (q_Kd M l1 (1, 0)) → (0 ≤ l2.toInt ∧ l2.toInt ≤ 7) → 7 - l2.toInt < (n : Int) → Ok (F_X8_isAnyHeld_L2 M n (some l0) (some l1) l2) (q_pi (0) (1)) := by
  intro n
  induction n with
  | zero =>
    intro l0 l1 l2 H K_l0 K_l1 h_l2  hm
    exfalso
    omega
  | succ n ih =>
    intro l0 l1 l2 H K_l0 K_l1 h_l2  hm
    exact S_X8_isAnyHeld_b2 (m2 := 7 - l2.toInt) (fun H K_l0 K_l1 h_l2  hm2 => ih H K_l0 K_l1 h_l2  (by omega)) H K_l0 K_l1 h_l2  (Int.le_refl _)
theorem S_X8_isAnyHeld_b0 {l0 : Nat} {l1 : Nat} {M : gM} (H : q_HT 0 M) (K_l0 : q_Kd M l0 (8, 0)) (K_l1 : q_Kd M l1 (1, 0)) : Ok (F_X8_isAnyHeld_b0 M (some l0) (some l1)) (q_pi (0) (1)) := by
  delta F_X8_isAnyHeld_b0
  have z_0 := L_0
  exact w_pi (S_X8_isAnyHeld_L2  g_fuel H K_l0 K_l1 (by decide) (q_fu (by omega))) (by decide) (by decide)
theorem S_X8_isAnyHeld {l0 : Nat} {l1 : Nat} {M : gM} (H : q_HT 0 M) (K_l0 : q_Kd M l0 (8, 0)) (K_l1 : q_Kd M l1 (1, 0)) : Ok (F_X8_isAnyHeld (some l0) (some l1) M) (q_pi (0) (1)) := by
  delta F_X8_isAnyHeld
  exact w_pi (S_X8_isAnyHeld_b0  H K_l0 K_l1) (by decide) (by decide)
theorem S_X8_holdsMost_b40 {k7 : Option Nat → Option Nat → Int32 → Int32 → Int32 → Option Int32} {m7 : Int} {l0 : Nat} {l1 : Nat} {l2 : Int32} {l3 : Int32} {l4 : Int32} {M : gM} (hk7 : ∀ {l0 : Nat} {l1 : Nat} {l2 : Int32} {l3 : Int32} {l4 : Int32}, q_HT 0 M → (q_Kd M l0 (8, 0)) → (q_Kd M l1 (1, 0)) → (-1 ≤ l2.toInt ∧ l2.toInt ≤ 6) → (0 ≤ l3.toInt ∧ l3.toInt ≤ 99) → (0 ≤ l4.toInt ∧ l4.toInt ≤ 7) → 7 - l4.toInt < m7 → Ok (k7 (some l0) (some l1) l2 l3 l4) (q_pi (-1) (6))) (H : q_HT 0 M) (K_l0 : q_Kd M l0 (8, 0)) (K_l1 : q_Kd M l1 (1, 0)) (h_l2 : -1 ≤ l2.toInt ∧ l2.toInt ≤ 6) (h_l3 : 0 ≤ l3.toInt ∧ l3.toInt ≤ 99) (h_l4 : 0 ≤ l4.toInt ∧ l4.toInt ≤ 6) (hm7 : 7 - l4.toInt ≤ m7) : Ok (F_X8_holdsMost_b40 k7 M (some l0) (some l1) l2 l3 l4) (q_pi (-1) (6)) := by
  delta F_X8_holdsMost_b40
  have z_1 := L_1
  have a_1 := i_addc (x := l4) (c := 1) z_1 (by omega) (by omega)
  exact w_pi (hk7 H K_l0 K_l1 h_l2 h_l3 (by omega) (by omega)) (by decide) (by decide)
theorem S_X8_holdsMost_b7 {k7 : Option Nat → Option Nat → Int32 → Int32 → Int32 → Option Int32} {m7 : Int} {l0 : Nat} {l1 : Nat} {l2 : Int32} {l3 : Int32} {l4 : Int32} {M : gM} (hk7 : ∀ {l0 : Nat} {l1 : Nat} {l2 : Int32} {l3 : Int32} {l4 : Int32}, q_HT 0 M → (q_Kd M l0 (8, 0)) → (q_Kd M l1 (1, 0)) → (-1 ≤ l2.toInt ∧ l2.toInt ≤ 6) → (0 ≤ l3.toInt ∧ l3.toInt ≤ 99) → (0 ≤ l4.toInt ∧ l4.toInt ≤ 7) → 7 - l4.toInt < m7 → Ok (k7 (some l0) (some l1) l2 l3 l4) (q_pi (-1) (6))) (H : q_HT 0 M) (K_l0 : q_Kd M l0 (8, 0)) (K_l1 : q_Kd M l1 (1, 0)) (h_l2 : -1 ≤ l2.toInt ∧ l2.toInt ≤ 6) (h_l3 : 0 ≤ l3.toInt ∧ l3.toInt ≤ 99) (h_l4 : 0 ≤ l4.toInt ∧ l4.toInt ≤ 7) (hm7 : 7 - l4.toInt ≤ m7) : Ok (F_X8_holdsMost_b7 k7 M (some l0) (some l1) l2 l3 l4) (q_pi (-1) (6)) := by
  delta F_X8_holdsMost_b7
  refine d_gI (lo := 0) (hi := 7) H K_l1 (by decide) rfl (fun v1 q_v1 e_v1 => ?_)
  refine Ok_i (fun c_1 => ?_) (fun c_1 => ?_)
  · skip
    replace c_1 := i_le c_1
    exact r_pi (by omega)
  · skip
    replace c_1 := i_nle c_1
    refine c_gO K_l0 ?_
    refine Ok_b (S_X8_heldBy H K_l0 K_l1 (by omega)) (fun v3 e_v3 => ?_)
    refine Ok_b (S_J6_bitCount_0f7a4 H) (fun v4 e_v4 => ?_)
    refine Ok_i (fun c_2 => ?_) (fun c_2 => ?_)
    · skip
      replace c_2 := i_le c_2
      exact w_pi (S_X8_holdsMost_b40 hk7 H K_l0 K_l1 h_l2 h_l3 (by omega) (by omega)) (by decide) (by decide)
    · skip
      replace c_2 := i_nle c_2
      exact w_pi (S_X8_holdsMost_b40 hk7 H K_l0 K_l1 (by omega) (by omega) (by omega) (by omega)) (by decide) (by decide)
theorem S_X8_holdsMost_L7 {M : gM} : ∀ (n : Nat) {l0 : Nat} {l1 : Nat} {l2 : Int32} {l3 : Int32} {l4 : Int32}, q_HT 0 M → (q_Kd M l0 (8, 0)) → (q_Kd M l1 (1, 0)) → (-1 ≤ l2.toInt ∧ l2.toInt ≤ 6) → (0 ≤ l3.toInt ∧ l3.toInt ≤ 99) → (0 ≤ l4.toInt ∧ l4.toInt ≤ 7) → 7 - l4.toInt < (n : Int) → Ok (F_X8_holdsMost_L7 M n (some l0) (some l1) l2 l3 l4) (q_pi (-1) (6)) := by
  intro n
  induction n with
  | zero =>
    intro l0 l1 l2 l3 l4 H K_l0 K_l1 h_l2 h_l3 h_l4  hm
    exfalso
    omega
  | succ n ih =>
    intro l0 l1 l2 l3 l4 H K_l0 K_l1 h_l2 h_l3 h_l4  hm
    exact S_X8_holdsMost_b7 (m7 := 7 - l4.toInt) (fun H K_l0 K_l1 h_l2 h_l3 h_l4  hm2 => ih H K_l0 K_l1 h_l2 h_l3 h_l4  (by omega)) H K_l0 K_l1 h_l2 h_l3 h_l4  (Int.le_refl _)
theorem S_X8_holdsMost_b0 {l0 : Nat} {l1 : Nat} {M : gM} (H : q_HT 0 M) (K_l0 : q_Kd M l0 (8, 0)) (K_l1 : q_Kd M l1 (1, 0)) : Ok (F_X8_holdsMost_b0 M (some l0) (some l1)) (q_pi (-1) (6)) := by
  delta F_X8_holdsMost_b0
  have z_0 := L_0
  exact w_pi (S_X8_holdsMost_L7  g_fuel H K_l0 K_l1 (by decide) (by decide) (by decide) (q_fu (by omega))) (by decide) (by decide)
theorem S_X8_holdsMost {l0 : Nat} {l1 : Nat} {M : gM} (H : q_HT 0 M) (K_l0 : q_Kd M l0 (8, 0)) (K_l1 : q_Kd M l1 (1, 0)) : Ok (F_X8_holdsMost (some l0) (some l1) M) (q_pi (-1) (6)) := by
  delta F_X8_holdsMost
  exact w_pi (S_X8_holdsMost_b0  H K_l0 K_l1) (by decide) (by decide)
theorem S_X11_inherits_b19 {b : Nat → Bool}  {M : gM} (H : q_HT 0 M) : Ok (F_X11_inherits_b19 M) (q_PI b M (-2147483648) (2147483647)) := by
  delta F_X11_inherits_b19
  have z_m1 := L_m1
  exact r_PI (i_rng _) H (q_rf _ _)
theorem S_X11_inherits_b124 {b : Nat → Bool} {l0 : Nat} {l1 : Int32} {l2 : Int32} {l3 : Int32} {M : gM} (H : q_HT 0 M) (K_l0 : q_Kd M l0 (11, 0)) (h_l1 : 0 ≤ l1.toInt ∧ l1.toInt ≤ 1) (h_l2 : -1 ≤ l2.toInt ∧ l2.toInt ≤ 6) : Ok (F_X11_inherits_b124 (some l0) l1 l2 l3 M) (q_PI b M (-2147483648) (2147483647)) := by
  delta F_X11_inherits_b124
  have z_m3 := L_m3
  have z_0 := L_0
  refine d_gR (q := (8, 0)) H K_l0 (by decide) rfl (fun v1 r_v1 K_v1 => ?_)
  refine d_gR (q := (1, 0)) H K_l0 (by decide) rfl (fun v2 r_v2 K_v2 => ?_)
  refine c_gO K_v1 ?_
  refine Ok_b (S_X8_isAnyHeld H K_v1 K_v2) (fun v4 e_v4 => ?_)
  refine Ok_i (fun c_1 => ?_) (fun c_1 => ?_)
  · skip
    replace c_1 := i_eq c_1
    refine Ok_i (fun c_2 => ?_) (fun c_2 => ?_)
    · skip
      replace c_2 := i_eq c_2
      exact r_PI (i_rng _) H (q_rf _ _)
    · skip
      replace c_2 := i_ne c_2
      exact r_PI (i_rng _) H (q_rf _ _)
  · skip
    replace c_1 := i_ne c_1
    exact r_PI (i_rng _) H (q_rf _ _)
set_option maxHeartbeats 1000000 in
theorem S_X11_inherits_b56 {b : Nat → Bool} {k56 : Option Nat → Int32 → Int32 → Int32 → Int32 → gM → Option (Int32 × gM)} {m56 : Int} {l0 : Nat} {l1 : Int32} {l2 : Int32} {l3 : Int32} {l4 : Int32} {M : gM} (hk56 : ∀ {l0 : Nat} {l1 : Int32} {l2 : Int32} {l3 : Int32} {l4 : Int32} {M : gM}, q_HT 0 M → (q_Kd M l0 (11, 0)) → (0 ≤ l1.toInt ∧ l1.toInt ≤ 1) → (-1 ≤ l2.toInt ∧ l2.toInt ≤ 6) → (0 ≤ l4.toInt ∧ l4.toInt ≤ 200) → 200 - l4.toInt < m56 → Ok (k56 (some l0) l1 l2 l3 l4 M) (q_PI b M (-2147483648) (2147483647))) (H : q_HT 0 M) (K_l0 : q_Kd M l0 (11, 0)) (h_l1 : 0 ≤ l1.toInt ∧ l1.toInt ≤ 1) (h_l2 : -1 ≤ l2.toInt ∧ l2.toInt ≤ 6) (h_l4 : 0 ≤ l4.toInt ∧ l4.toInt ≤ 200) (hm56 : 200 - l4.toInt ≤ m56) : Ok (F_X11_inherits_b56 k56 (some l0) l1 l2 l3 l4 M) (q_PI b M (-2147483648) (2147483647)) := by
  delta F_X11_inherits_b56
  have z_0 := L_0
  have z_1 := L_1
  have z_200 := L_200
  refine Ok_i (fun c_1 => ?_) (fun c_1 => ?_)
  · skip
    replace c_1 := i_le c_1
    exact w_PI (q_rf _ _) (S_X11_inherits_b124 (b := b)  H K_l0 h_l1 h_l2) (by decide) (by decide)
  · skip
    replace c_1 := i_nle c_1
    refine d_gR (q := (8, 0)) H K_l0 (by decide) rfl (fun v1 r_v1 K_v1 => ?_)
    refine d_gR (q := (1, 0)) H K_l0 (by decide) rfl (fun v2 r_v2 K_v2 => ?_)
    refine c_gO K_v1 ?_
    refine Ok_b (S_X8_isAnyHeld H K_v1 K_v2) (fun v4 e_v4 => ?_)
    refine Ok_i (fun c_2 => ?_) (fun c_2 => ?_)
    · skip
      replace c_2 := i_eq c_2
      exact w_PI (q_rf _ _) (S_X11_inherits_b124 (b := b)  H K_l0 h_l1 h_l2) (by decide) (by decide)
    · skip
      replace c_2 := i_ne c_2
      refine c_gRs K_l0 r_v1 ?_
      refine c_gRs K_l0 r_v2 ?_
      refine c_gO K_v1 ?_
      refine Ok_b (S_X8_holdsMost H K_v1 K_v2) (fun v8 e_v8 => ?_)
      refine c_gRs K_l0 r_v1 ?_
      refine c_gIt K_v1 (fun v10 q_v10 => ?_)
      refine d_gR (q := (10, 0)) H K_l0 (by decide) rfl (fun v11 r_v11 K_v11 => ?_)
      refine c_gRs K_l0 r_v2 ?_
      refine c_gRs K_l0 r_v1 ?_
      refine c_gO K_l0 ?_
      refine Ok_b (S_X11_ruleInForce H K_l0) (fun v15 e_v15 => ?_)
      refine c_gO K_v11 ?_
      refine Ok_b (S_X10_pass (b := b) H K_v11 K_v2 K_v1 e_v15) (fun yM18 zM18 => ?_)
      obtain ⟨v17, M18⟩ := yM18
      obtain ⟨e_v17, HM18, fM18⟩ := zM18
      try dsimp only at e_v17 HM18 fM18
      have K_3 := (q_mo K_l0 (by decide) fM18)
      have a_4 := i_addc (x := l4) (c := 1) z_1 (by omega) (by omega)
      exact w_PI fM18 (hk56 HM18 K_3 h_l1 e_v8 (by omega) (by omega)) (by decide) (by decide)
theorem S_X11_inherits_L56 {b : Nat → Bool} : ∀ (n : Nat) {l0 : Nat} {l1 : Int32} {l2 : Int32} {l3 : Int32} {l4 : Int32} {M : gM}, q_HT 0 M → (q_Kd M l0 (11, 0)) → (0 ≤ l1.toInt ∧ l1.toInt ≤ 1) → (-1 ≤ l2.toInt ∧ l2.toInt ≤ 6) → (0 ≤ l4.toInt ∧ l4.toInt ≤ 200) → 200 - l4.toInt < (n : Int) → Ok (F_X11_inherits_L56 n (some l0) l1 l2 l3 l4 M) (q_PI b M (-2147483648) (2147483647)) := by
  intro n
  induction n with
  | zero =>
    intro l0 l1 l2 l3 l4 M H K_l0 h_l1 h_l2 h_l4  hm
    exfalso
    omega
  | succ n ih =>
    intro l0 l1 l2 l3 l4 M H K_l0 h_l1 h_l2 h_l4  hm
    exact S_X11_inherits_b56 (b := b) (m56 := 200 - l4.toInt) (fun H K_l0 h_l1 h_l2 h_l4  hm2 => ih H K_l0 h_l1 h_l2 h_l4  (by omega)) H K_l0 h_l1 h_l2 h_l4  (Int.le_refl _)
set_option maxHeartbeats 1000000 in
theorem S_X11_inherits_b0 {b : Nat → Bool} {l0 : Nat} {l1 : Int32} {M : gM} (H : q_HT 0 M) (K_l0 : q_Kd M l0 (11, 0)) : Ok (F_X11_inherits_b0 (some l0) l1 M) (q_PI b M (-2147483648) (2147483647)) := by
  delta F_X11_inherits_b0
  have z_m2 := L_m2
  have z_0 := L_0
  have z_1 := L_1
  refine Ok_i (fun c_1 => ?_) (fun c_1 => ?_)
  · skip
    replace c_1 := i_lt c_1
    exact w_PI (q_rf _ _) (S_X11_inherits_b19 (b := b)  H) (by decide) (by decide)
  · skip
    replace c_1 := i_nlt c_1
    refine Ok_i (fun c_2 => ?_) (fun c_2 => ?_)
    · skip
      replace c_2 := i_lt c_2
      exact w_PI (q_rf _ _) (S_X11_inherits_b19 (b := b)  H) (by decide) (by decide)
    · skip
      replace c_2 := i_nlt c_2
      refine d_gR (q := (1, 0)) H K_l0 (by decide) rfl (fun v1 r_v1 K_v1 => ?_)
      refine d_gI (lo := 0) (hi := 1) H K_v1 (by decide) rfl (fun v2 q_v2 e_v2 => ?_)
      refine Ok_i (fun c_3 => ?_) (fun c_3 => ?_)
      · skip
        replace c_3 := i_eq c_3
        exact w_PI (q_rf _ _) (S_X11_inherits_b19 (b := b)  H) (by decide) (by decide)
      · skip
        replace c_3 := i_ne c_3
        refine d_gR (q := (8, 0)) H K_l0 (by decide) rfl (fun v3 r_v3 K_v3 => ?_)
        refine c_gRs K_l0 r_v1 ?_
        refine c_gO K_v3 ?_
        refine Ok_b (S_X8_isAnyHeld H K_v3 K_v1) (fun v6 e_v6 => ?_)
        refine Ok_i (fun c_4 => ?_) (fun c_4 => ?_)
        · skip
          replace c_4 := i_eq c_4
          exact r_PI (i_rng _) H (q_rf _ _)
        · skip
          replace c_4 := i_ne c_4
          refine d_gR (q := (8, 0)) H K_l0 (by decide) rfl (fun v7 r_v7 K_v7 => ?_)
          refine c_gRs K_l0 r_v3 ?_
          refine c_gO K_v7 ?_
          refine Ok_b (S_X8_copy (b := b) H K_v7 K_v3) (fun M10 zM10 => ?_)
          obtain ⟨HM10, fM10⟩ := zM10
          have K_5 := (q_mo K_l0 (by decide) fM10)
          exact w_PI fM10 (S_X11_inherits_L56 (b := b)  g_fuel HM10 K_5 (by omega) (by decide) (by decide) (q_fu (by omega))) (by decide) (by decide)
theorem S_X11_inherits {b : Nat → Bool} {l0 : Nat} {l1 : Int32} {M : gM} (H : q_HT 0 M) (K_l0 : q_Kd M l0 (11, 0)) : Ok (F_X11_inherits (some l0) l1 M) (q_PI b M (-2147483648) (2147483647)) := by
  delta F_X11_inherits
  exact w_PI (q_rf _ _) (S_X11_inherits_b0 (b := b)  H K_l0) (by decide) (by decide)
theorem S_X8_lasts_b0 {l0 : Nat} {l1 : Int32} {M : gM} (H : q_HT 0 M) (K_l0 : q_Kd M l0 (8, 0)) (h_l1 : 0 ≤ l1.toInt ∧ l1.toInt ≤ 6) : Ok (F_X8_lasts_b0 M (some l0) l1) (q_pi (-2147483648) (2147483647)) := by
  delta F_X8_lasts_b0
  have z_m1 := L_m1
  have z_1000000 := L_1000000
  refine d_gR (q := (20, 7)) H K_l0 (by decide) rfl (fun v1 r_v1 K_v1 => ?_)
  refine c_aI K_v1 (by omega) (by omega) (fun v2 => ?_)
  refine Ok_i (fun c_1 => ?_) (fun c_1 => ?_)
  · skip
    replace c_1 := i_eq c_1
    exact r_pi (i_rng _)
  · skip
    replace c_1 := i_ne c_1
    refine c_gRs K_l0 r_v1 ?_
    refine c_aI K_v1 (by omega) (by omega) (fun v4 => ?_)
    exact r_pi (i_rng _)
theorem S_X8_lasts {l0 : Nat} {l1 : Int32} {M : gM} (H : q_HT 0 M) (K_l0 : q_Kd M l0 (8, 0)) (h_l1 : 0 ≤ l1.toInt ∧ l1.toInt ≤ 6) : Ok (F_X8_lasts (some l0) l1 M) (q_pi (-2147483648) (2147483647)) := by
  delta F_X8_lasts
  exact w_pi (S_X8_lasts_b0  H K_l0 h_l1) (by decide) (by decide)
theorem S_X11_longest_b68 {b : Nat → Bool} {k36 : Option Nat → Int32 → Int32 → gM → Option (Int32 × gM)} {m36 : Int} {l0 : Nat} {l1 : Int32} {l2 : Int32} {M : gM} (hk36 : ∀ {l0 : Nat} {l1 : Int32} {l2 : Int32} {M : gM}, q_HT 0 M → (q_Kd M l0 (11, 0)) → (0 ≤ l1.toInt ∧ l1.toInt ≤ 6) → (1 ≤ l2.toInt ∧ l2.toInt ≤ 7) → 7 - l2.toInt < m36 → Ok (k36 (some l0) l1 l2 M) (q_PI b M (-2) (6))) (H : q_HT 0 M) (K_l0 : q_Kd M l0 (11, 0)) (h_l1 : 0 ≤ l1.toInt ∧ l1.toInt ≤ 6) (h_l2 : 1 ≤ l2.toInt ∧ l2.toInt ≤ 6) (hm36 : 7 - l2.toInt ≤ m36) : Ok (F_X11_longest_b68 k36 (some l0) l1 l2 M) (q_PI b M (-2) (6)) := by
  delta F_X11_longest_b68
  have z_1 := L_1
  have a_1 := i_addc (x := l2) (c := 1) z_1 (by omega) (by omega)
  exact w_PI (q_rf _ _) (hk36 H K_l0 h_l1 (by omega) (by omega)) (by decide) (by decide)
set_option maxHeartbeats 1000000 in
theorem S_X11_longest_b36 {b : Nat → Bool} {k36 : Option Nat → Int32 → Int32 → gM → Option (Int32 × gM)} {m36 : Int} {l0 : Nat} {l1 : Int32} {l2 : Int32} {M : gM} (hk36 : ∀ {l0 : Nat} {l1 : Int32} {l2 : Int32} {M : gM}, q_HT 0 M → (q_Kd M l0 (11, 0)) → (0 ≤ l1.toInt ∧ l1.toInt ≤ 6) → (1 ≤ l2.toInt ∧ l2.toInt ≤ 7) → 7 - l2.toInt < m36 → Ok (k36 (some l0) l1 l2 M) (q_PI b M (-2) (6))) (H : q_HT 0 M) (K_l0 : q_Kd M l0 (11, 0)) (h_l1 : 0 ≤ l1.toInt ∧ l1.toInt ≤ 6) (h_l2 : 1 ≤ l2.toInt ∧ l2.toInt ≤ 7) (hm36 : 7 - l2.toInt ≤ m36) : Ok (F_X11_longest_b36 k36 (some l0) l1 l2 M) (q_PI b M (-2) (6)) := by
  delta F_X11_longest_b36
  refine d_gR (q := (1, 0)) H K_l0 (by decide) rfl (fun v1 r_v1 K_v1 => ?_)
  refine d_gI (lo := 0) (hi := 7) H K_v1 (by decide) rfl (fun v2 q_v2 e_v2 => ?_)
  refine Ok_i (fun c_1 => ?_) (fun c_1 => ?_)
  · skip
    replace c_1 := i_le c_1
    exact r_PI (by omega) H (q_rf _ _)
  · skip
    replace c_1 := i_nle c_1
    refine d_gR (q := (8, 0)) H K_l0 (by decide) rfl (fun v3 r_v3 K_v3 => ?_)
    refine c_gO K_v3 ?_
    refine Ok_b (S_X8_lasts H K_v3 (by omega)) (fun v5 e_v5 => ?_)
    refine c_gRs K_l0 r_v3 ?_
    refine c_gO K_v3 ?_
    refine Ok_b (S_X8_lasts H K_v3 h_l1) (fun v8 e_v8 => ?_)
    refine Ok_i (fun c_2 => ?_) (fun c_2 => ?_)
    · skip
      replace c_2 := i_le c_2
      exact w_PI (q_rf _ _) (S_X11_longest_b68 (b := b) hk36 H K_l0 h_l1 (by omega) (by omega)) (by decide) (by decide)
    · skip
      replace c_2 := i_nle c_2
      exact w_PI (q_rf _ _) (S_X11_longest_b68 (b := b) hk36 H K_l0 (by omega) (by omega) (by omega)) (by decide) (by decide)
theorem S_X11_longest_L36 {b : Nat → Bool} : ∀ (n : Nat) {l0 : Nat} {l1 : Int32} {l2 : Int32} {M : gM}, q_HT 0 M → (q_Kd M l0 (11, 0)) → (0 ≤ l1.toInt ∧ l1.toInt ≤ 6) → (1 ≤ l2.toInt ∧ l2.toInt ≤ 7) → 7 - l2.toInt < (n : Int) → Ok (F_X11_longest_L36 n (some l0) l1 l2 M) (q_PI b M (-2) (6)) := by
  intro n
  induction n with
  | zero =>
    intro l0 l1 l2 M H K_l0 h_l1 h_l2  hm
    exfalso
    omega
  | succ n ih =>
    intro l0 l1 l2 M H K_l0 h_l1 h_l2  hm
    exact S_X11_longest_b36 (b := b) (m36 := 7 - l2.toInt) (fun H K_l0 h_l1 h_l2  hm2 => ih H K_l0 h_l1 h_l2  (by omega)) H K_l0 h_l1 h_l2  (Int.le_refl _)
set_option maxHeartbeats 1000000 in
theorem S_X11_longest_b0 {b : Nat → Bool} {l0 : Nat} {M : gM} (H : q_HT 0 M) (K_l0 : q_Kd M l0 (11, 0)) : Ok (F_X11_longest_b0 (some l0) M) (q_PI b M (-2) (6)) := by
  delta F_X11_longest_b0
  have z_m2 := L_m2
  have z_m1 := L_m1
  have z_0 := L_0
  have z_1 := L_1
  refine d_gR (q := (1, 0)) H K_l0 (by decide) rfl (fun v1 r_v1 K_v1 => ?_)
  refine d_gI (lo := 0) (hi := 1) H K_v1 (by decide) rfl (fun v2 q_v2 e_v2 => ?_)
  refine Ok_i (fun c_1 => ?_) (fun c_1 => ?_)
  · skip
    replace c_1 := i_eq c_1
    exact r_PI (by decide) H (q_rf _ _)
  · skip
    replace c_1 := i_ne c_1
    refine c_gRs K_l0 r_v1 ?_
    refine d_gI (lo := 0) (hi := 7) H K_v1 (by decide) rfl (fun v4 q_v4 e_v4 => ?_)
    refine Ok_i (fun c_2 => ?_) (fun c_2 => ?_)
    · skip
      replace c_2 := i_eq c_2
      exact r_PI (by decide) H (q_rf _ _)
    · skip
      replace c_2 := i_ne c_2
      refine c_gO K_l0 ?_
      refine Ok_b (S_X11_lookAhead (b := b) H K_l0 (by decide)) (fun M6 zM6 => ?_)
      obtain ⟨HM6, fM6⟩ := zM6
      have K_3 := (q_mo K_l0 (by decide) fM6)
      exact w_PI fM6 (S_X11_longest_L36 (b := b)  g_fuel HM6 K_3 (by decide) (by decide) (q_fu (by omega))) (by decide) (by decide)
theorem S_X11_longest {b : Nat → Bool} {l0 : Nat} {M : gM} (H : q_HT 0 M) (K_l0 : q_Kd M l0 (11, 0)) : Ok (F_X11_longest (some l0) M) (q_PI b M (-2) (6)) := by
  delta F_X11_longest
  exact w_PI (q_rf _ _) (S_X11_longest_b0 (b := b)  H K_l0) (by decide) (by decide)
theorem S_X11_fields_b21 {b : Nat → Bool}  {M : gM} (H : q_HT 0 M) : Ok (F_X11_fields_b21 M) (q_PI b M (-2147483648) (2147483647)) := by
  delta F_X11_fields_b21
  have z_m1 := L_m1
  exact r_PI (i_rng _) H (q_rf _ _)
theorem S_X11_fields_b68 {b : Nat → Bool} {k32 : Option Nat → Int32 → Int32 → gM → Option (Int32 × gM)} {m32 : Int} {l0 : Nat} {l2 : Int32} {l3 : Int32} {M : gM} (hk32 : ∀ {l0 : Nat} {l2 : Int32} {l3 : Int32} {M : gM}, q_HT 0 M → (q_Kd M l0 (11, 0)) → (0 ≤ l3.toInt ∧ l3.toInt ≤ 7) → 7 - l3.toInt < m32 → Ok (k32 (some l0) l2 l3 M) (q_PI b M (-2147483648) (2147483647))) (H : q_HT 0 M) (K_l0 : q_Kd M l0 (11, 0)) (h_l3 : 0 ≤ l3.toInt ∧ l3.toInt ≤ 6) (hm32 : 7 - l3.toInt ≤ m32) : Ok (F_X11_fields_b68 k32 (some l0) l2 l3 M) (q_PI b M (-2147483648) (2147483647)) := by
  delta F_X11_fields_b68
  have z_1 := L_1
  have a_1 := i_addc (x := l3) (c := 1) z_1 (by omega) (by omega)
  exact w_PI (q_rf _ _) (hk32 H K_l0 (by omega) (by omega)) (by decide) (by decide)
set_option maxHeartbeats 1000000 in
theorem S_X11_fields_b32 {b : Nat → Bool} {k32 : Option Nat → Int32 → Int32 → gM → Option (Int32 × gM)} {m32 : Int} {l0 : Nat} {l2 : Int32} {l3 : Int32} {M : gM} (hk32 : ∀ {l0 : Nat} {l2 : Int32} {l3 : Int32} {M : gM}, q_HT 0 M → (q_Kd M l0 (11, 0)) → (0 ≤ l3.toInt ∧ l3.toInt ≤ 7) → 7 - l3.toInt < m32 → Ok (k32 (some l0) l2 l3 M) (q_PI b M (-2147483648) (2147483647))) (H : q_HT 0 M) (K_l0 : q_Kd M l0 (11, 0)) (h_l3 : 0 ≤ l3.toInt ∧ l3.toInt ≤ 7) (hm32 : 7 - l3.toInt ≤ m32) : Ok (F_X11_fields_b32 k32 (some l0) l2 l3 M) (q_PI b M (-2147483648) (2147483647)) := by
  delta F_X11_fields_b32
  have z_m1 := L_m1
  refine d_gR (q := (1, 0)) H K_l0 (by decide) rfl (fun v1 r_v1 K_v1 => ?_)
  refine d_gI (lo := 0) (hi := 7) H K_v1 (by decide) rfl (fun v2 q_v2 e_v2 => ?_)
  refine Ok_i (fun c_1 => ?_) (fun c_1 => ?_)
  · skip
    replace c_1 := i_le c_1
    exact r_PI (i_rng _) H (q_rf _ _)
  · skip
    replace c_1 := i_nle c_1
    refine d_gR (q := (8, 0)) H K_l0 (by decide) rfl (fun v3 r_v3 K_v3 => ?_)
    refine d_gR (q := (20, 7)) H K_v3 (by decide) rfl (fun v4 r_v4 K_v4 => ?_)
    refine c_aI K_v4 (by omega) (by omega) (fun v5 => ?_)
    refine Ok_i (fun c_2 => ?_) (fun c_2 => ?_)
    · skip
      replace c_2 := i_eq c_2
      refine c_gRs K_l0 r_v1 ?_
      refine d_gR (q := (20, 7)) H K_v1 (by decide) rfl (fun v7 r_v7 K_v7 => ?_)
      refine c_aI K_v7 (by omega) (by omega) (fun v8 => ?_)
      exact w_PI (q_rf _ _) (S_X11_fields_b68 (b := b) hk32 H K_l0 (by omega) (by omega)) (by decide) (by decide)
    · skip
      replace c_2 := i_ne c_2
      exact w_PI (q_rf _ _) (S_X11_fields_b68 (b := b) hk32 H K_l0 (by omega) (by omega)) (by decide) (by decide)
theorem S_X11_fields_L32 {b : Nat → Bool} : ∀ (n : Nat) {l0 : Nat} {l2 : Int32} {l3 : Int32} {M : gM}, q_HT 0 M → (q_Kd M l0 (11, 0)) → (0 ≤ l3.toInt ∧ l3.toInt ≤ 7) → 7 - l3.toInt < (n : Int) → Ok (F_X11_fields_L32 n (some l0) l2 l3 M) (q_PI b M (-2147483648) (2147483647)) := by
  intro n
  induction n with
  | zero =>
    intro l0 l2 l3 M H K_l0 h_l3  hm
    exfalso
    omega
  | succ n ih =>
    intro l0 l2 l3 M H K_l0 h_l3  hm
    exact S_X11_fields_b32 (b := b) (m32 := 7 - l3.toInt) (fun H K_l0 h_l3  hm2 => ih H K_l0 h_l3  (by omega)) H K_l0 h_l3  (Int.le_refl _)
set_option maxHeartbeats 1000000 in
theorem S_X11_fields_b0 {b : Nat → Bool} {l0 : Nat} {l1 : Int32} {M : gM} (H : q_HT 0 M) (K_l0 : q_Kd M l0 (11, 0)) : Ok (F_X11_fields_b0 (some l0) l1 M) (q_PI b M (-2147483648) (2147483647)) := by
  delta F_X11_fields_b0
  have z_0 := L_0
  have z_200 := L_200
  refine Ok_i (fun c_1 => ?_) (fun c_1 => ?_)
  · skip
    replace c_1 := i_lt c_1
    exact w_PI (q_rf _ _) (S_X11_fields_b21 (b := b)  H) (by decide) (by decide)
  · skip
    replace c_1 := i_nlt c_1
    refine Ok_i (fun c_2 => ?_) (fun c_2 => ?_)
    · skip
      replace c_2 := i_lt c_2
      exact w_PI (q_rf _ _) (S_X11_fields_b21 (b := b)  H) (by decide) (by decide)
    · skip
      replace c_2 := i_nlt c_2
      refine d_gR (q := (1, 0)) H K_l0 (by decide) rfl (fun v1 r_v1 K_v1 => ?_)
      refine d_gI (lo := 0) (hi := 1) H K_v1 (by decide) rfl (fun v2 q_v2 e_v2 => ?_)
      refine Ok_i (fun c_3 => ?_) (fun c_3 => ?_)
      · skip
        replace c_3 := i_eq c_3
        exact w_PI (q_rf _ _) (S_X11_fields_b21 (b := b)  H) (by decide) (by decide)
      · skip
        replace c_3 := i_ne c_3
        refine c_gO K_l0 ?_
        refine Ok_b (S_X11_lookAhead (b := b) H K_l0 (by omega)) (fun M4 zM4 => ?_)
        obtain ⟨HM4, fM4⟩ := zM4
        have K_4 := (q_mo K_l0 (by decide) fM4)
        exact w_PI fM4 (S_X11_fields_L32 (b := b)  g_fuel HM4 K_4 (by decide) (q_fu (by omega))) (by decide) (by decide)
theorem S_X11_fields {b : Nat → Bool} {l0 : Nat} {l1 : Int32} {M : gM} (H : q_HT 0 M) (K_l0 : q_Kd M l0 (11, 0)) : Ok (F_X11_fields (some l0) l1 M) (q_PI b M (-2147483648) (2147483647)) := by
  delta F_X11_fields
  exact w_PI (q_rf _ _) (S_X11_fields_b0 (b := b)  H K_l0) (by decide) (by decide)
theorem S_X11_falls_b100 {b : Nat → Bool} {k53 : Option Nat → Int32 → Int32 → gM → Option (Int32 × gM)} {m53 : Int} {l0 : Nat} {l2 : Int32} {l3 : Int32} {M : gM} (hk53 : ∀ {l0 : Nat} {l2 : Int32} {l3 : Int32} {M : gM}, q_HT 0 M → (q_Kd M l0 (11, 0)) → (0 ≤ l3.toInt ∧ l3.toInt ≤ 7) → 7 - l3.toInt < m53 → Ok (k53 (some l0) l2 l3 M) (q_PI b M (-2147483648) (2147483647))) (H : q_HT 0 M) (K_l0 : q_Kd M l0 (11, 0)) (h_l3 : 0 ≤ l3.toInt ∧ l3.toInt ≤ 6) (hm53 : 7 - l3.toInt ≤ m53) : Ok (F_X11_falls_b100 k53 (some l0) l2 l3 M) (q_PI b M (-2147483648) (2147483647)) := by
  delta F_X11_falls_b100
  have z_1 := L_1
  have a_1 := i_addc (x := l3) (c := 1) z_1 (by omega) (by omega)
  exact w_PI (q_rf _ _) (hk53 H K_l0 (by omega) (by omega)) (by decide) (by decide)
set_option maxHeartbeats 1000000 in
theorem S_X11_falls_b53 {b : Nat → Bool} {k53 : Option Nat → Int32 → Int32 → gM → Option (Int32 × gM)} {m53 : Int} {l0 : Nat} {l2 : Int32} {l3 : Int32} {M : gM} (hk53 : ∀ {l0 : Nat} {l2 : Int32} {l3 : Int32} {M : gM}, q_HT 0 M → (q_Kd M l0 (11, 0)) → (0 ≤ l3.toInt ∧ l3.toInt ≤ 7) → 7 - l3.toInt < m53 → Ok (k53 (some l0) l2 l3 M) (q_PI b M (-2147483648) (2147483647))) (H : q_HT 0 M) (K_l0 : q_Kd M l0 (11, 0)) (h_l3 : 0 ≤ l3.toInt ∧ l3.toInt ≤ 7) (hm53 : 7 - l3.toInt ≤ m53) : Ok (F_X11_falls_b53 k53 (some l0) l2 l3 M) (q_PI b M (-2147483648) (2147483647)) := by
  delta F_X11_falls_b53
  have z_0 := L_0
  refine d_gR (q := (1, 0)) H K_l0 (by decide) rfl (fun v1 r_v1 K_v1 => ?_)
  refine d_gI (lo := 0) (hi := 7) H K_v1 (by decide) rfl (fun v2 q_v2 e_v2 => ?_)
  refine Ok_i (fun c_1 => ?_) (fun c_1 => ?_)
  · skip
    replace c_1 := i_le c_1
    exact r_PI (i_rng _) H (q_rf _ _)
  · skip
    replace c_1 := i_nle c_1
    refine d_gR (q := (8, 0)) H K_l0 (by decide) rfl (fun v3 r_v3 K_v3 => ?_)
    refine c_gRs K_l0 r_v1 ?_
    refine c_gO K_v3 ?_
    refine Ok_b (S_X8_holdersOf H K_v3 K_v1 (by omega)) (fun v6 e_v6 => ?_)
    refine Ok_i (fun c_2 => ?_) (fun c_2 => ?_)
    · skip
      replace c_2 := i_eq c_2
      exact w_PI (q_rf _ _) (S_X11_falls_b100 (b := b) hk53 H K_l0 (by omega) (by omega)) (by decide) (by decide)
    · skip
      replace c_2 := i_ne c_2
      refine d_gR (q := (8, 0)) H K_l0 (by decide) rfl (fun v7 r_v7 K_v7 => ?_)
      refine c_gRs K_l0 r_v1 ?_
      refine c_gO K_v7 ?_
      refine Ok_b (S_X8_holdersOf H K_v7 K_v1 (by omega)) (fun v10 e_v10 => ?_)
      refine Ok_i (fun c_3 => ?_) (fun c_3 => ?_)
      · skip
        replace c_3 := i_eq c_3
        exact w_PI (q_rf _ _) (S_X11_falls_b100 (b := b) hk53 H K_l0 (by omega) (by omega)) (by decide) (by decide)
      · skip
        replace c_3 := i_ne c_3
        exact w_PI (q_rf _ _) (S_X11_falls_b100 (b := b) hk53 H K_l0 (by omega) (by omega)) (by decide) (by decide)
