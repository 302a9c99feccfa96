theorem S_X2_readNumbers {b : Nat → Bool} {l0 : Nat} {l1 : Int32} {M : gM} (H : q_HT 0 M) (K_l0 : q_Kd M l0 (2, 0)) : Ok (F_X2_readNumbers (some l0) l1 M) (q_PV b M) := by
  delta F_X2_readNumbers
  exact w_PV (q_rf _ _) (S_X2_readNumbers_b0 (b := b)  H K_l0)
theorem S_X2_readClause_b72 {b : Nat → Bool} {l0 : Nat} {M : gM} (H : q_HT 0 M) (K_l0 : q_Kd M l0 (2, 0)) : Ok (F_X2_readClause_b72 (some l0) M) (q_PV b M) := by
  delta F_X2_readClause_b72
  refine d_gR (q := (9, 0)) H K_l0 (by decide) rfl (fun v1 r_v1 K_v1 => ?_)
  refine c_gRs K_l0 r_v1 ?_
  refine c_gO K_v1 ?_
  refine Ok_b (S_X9_place H K_v1) (fun v4 e_v4 => ?_)
  clear e_v4
  refine c_gO K_v1 ?_
  refine Ok_b (S_X9_blame (b := b) H K_v1 (by decide)) (fun M6 zM6 => ?_)
  obtain ⟨HM6, fM6⟩ := zM6
  exact r_PV HM6 fM6
set_option maxHeartbeats 1000000 in
theorem S_X2_readClause_b61 {b : Nat → Bool} {l0 : Nat} {l2 : Int32} {s0 : Int32} {s1 : Int32} {M : gM} (H : q_HT 0 M) (K_l0 : q_Kd M l0 (2, 0)) (h_s0 : 0 ≤ s0.toInt ∧ s0.toInt ≤ 1) (h_s1 : 0 ≤ s1.toInt ∧ s1.toInt ≤ 1) : Ok (F_X2_readClause_b61 (some l0) l2 s0 s1 M) (q_PV b M) := by
  delta F_X2_readClause_b61
  refine Ok_i (fun c_1 => ?_) (fun c_1 => ?_)
  · skip
    replace c_1 := i_eq c_1
    refine c_gO K_l0 ?_
    refine Ok_b (S_X2_isFull H K_l0) (fun v2 e_v2 => ?_)
    replace e_v2 := q_un e_v2
    refine Ok_i (fun c_2 => ?_) (fun c_2 => ?_)
    · skip
      replace c_2 := i_eq c_2
      rw [L_0] at c_2
      refine d_gR (q := (9, 0)) H K_l0 (by decide) rfl (fun v3 r_v3 K_v3 => ?_)
      refine c_gO K_v3 ?_
      refine Ok_b (S_X9_next (b := b) H K_v3) (fun M5 zM5 => ?_)
      obtain ⟨HM5, fM5⟩ := zM5
      have K_3 := (q_mo K_l0 (by decide) fM5)
      refine c_gC K_3 ?_
      refine Ok_b (S_X2_readNumbers (b := b) HM5 K_3) (fun M7 zM7 => ?_)
      obtain ⟨HM7, fM7⟩ := zM7
      have g_4 := q_tr fM5 fM7
      exact r_PV HM7 g_4
    · skip
      replace c_2 := i_ne c_2
      rw [L_0] at c_2
      exact w_PV (q_rf _ _) (S_X2_readClause_b72 (b := b)  H K_l0)
  · skip
    replace c_1 := i_ne c_1
    exact w_PV (q_rf _ _) (S_X2_readClause_b72 (b := b)  H K_l0)
theorem S_X2_readClause_b51 {b : Nat → Bool} {l0 : Nat} {l1 : Int32} {l2 : Int32} {s0 : Int32} {M : gM} (H : q_HT 0 M) (K_l0 : q_Kd M l0 (2, 0)) (h_l1 : 1 ≤ l1.toInt ∧ l1.toInt ≤ 40) (h_s0 : 0 ≤ s0.toInt ∧ s0.toInt ≤ 1) : Ok (F_X2_readClause_b51 (some l0) l1 l2 s0 M) (q_PV b M) := by
  delta F_X2_readClause_b51
  refine Ok_i (fun c_1 => ?_) (fun c_1 => ?_)
  · skip
    replace c_1 := i_eq c_1
    rw [L_1] at c_1
    exact w_PV (q_rf _ _) (S_X2_readClause_b61 (b := b)  H K_l0 h_s0 (by decide))
  · skip
    replace c_1 := i_ne c_1
    rw [L_1] at c_1
    exact w_PV (q_rf _ _) (S_X2_readClause_b61 (b := b)  H K_l0 h_s0 (by decide))
set_option maxHeartbeats 1000000 in
theorem S_X2_readClause_b0 {b : Nat → Bool} {l0 : Nat} {l1 : Int32} {M : gM} (H : q_HT 0 M) (K_l0 : q_Kd M l0 (2, 0)) (h_l1 : 1 ≤ l1.toInt ∧ l1.toInt ≤ 41) : Ok (F_X2_readClause_b0 (some l0) l1 M) (q_PV b M) := by
  delta F_X2_readClause_b0
  refine d_gR (q := (9, 0)) H K_l0 (by decide) rfl (fun v1 r_v1 K_v1 => ?_)
  refine c_gO K_v1 ?_
  refine Ok_b (S_X9_kind H K_v1) (fun v3 e_v3 => ?_)
  clear e_v3
  refine Ok_b (S_X2_isClause H) (fun v4 e_v4 => ?_)
  replace e_v4 := q_un e_v4
  refine Ok_i (fun c_1 => ?_) (fun c_1 => ?_)
  · skip
    replace c_1 := i_eq c_1
    rw [L_0] at c_1
    refine c_gRs K_l0 r_v1 ?_
    refine c_gRs K_l0 r_v1 ?_
    refine c_gO K_v1 ?_
    refine Ok_b (S_X9_place H K_v1) (fun v8 e_v8 => ?_)
    clear e_v8
    refine c_gO K_v1 ?_
    refine Ok_b (S_X9_blame (b := b) H K_v1 (by decide)) (fun M10 zM10 => ?_)
    obtain ⟨HM10, fM10⟩ := zM10
    exact r_PV HM10 fM10
  · skip
    replace c_1 := i_ne c_1
    rw [L_0] at c_1
    refine Ok_i (fun c_2 => ?_) (fun c_2 => ?_)
    · skip
      replace c_2 := i_lt c_2
      rw [L_40] at c_2
      exact w_PV (q_rf _ _) (S_X2_readClause_b72 (b := b)  H K_l0)
    · skip
      replace c_2 := i_nlt c_2
      rw [L_40] at c_2
      refine Ok_i (fun c_3 => ?_) (fun c_3 => ?_)
      · skip
        replace c_3 := i_eq c_3
        rw [L_275] at c_3
        exact w_PV (q_rf _ _) (S_X2_readClause_b51 (b := b)  H K_l0 (by omega) (by decide))
      · skip
        replace c_3 := i_ne c_3
        rw [L_275] at c_3
        exact w_PV (q_rf _ _) (S_X2_readClause_b51 (b := b)  H K_l0 (by omega) (by decide))
theorem S_X2_readClause {b : Nat → Bool} {l0 : Nat} {l1 : Int32} {M : gM} (H : q_HT 0 M) (K_l0 : q_Kd M l0 (2, 0)) (h_l1 : 1 ≤ l1.toInt ∧ l1.toInt ≤ 41) : Ok (F_X2_readClause (some l0) l1 M) (q_PV b M) := by
  delta F_X2_readClause
  exact w_PV (q_rf _ _) (S_X2_readClause_b0 (b := b)  H K_l0 h_l1)
theorem S_X9_expect_b17 {b : Nat → Bool} {l0 : Nat} {M : gM} (H : q_HT 0 M) (K_l0 : q_Kd M l0 (9, 0)) : Ok (F_X9_expect_b17 (some l0) M) (q_PV b M) := by
  delta F_X9_expect_b17
  refine c_gO K_l0 ?_
  refine Ok_b (S_X9_next (b := b) H K_l0) (fun M2 zM2 => ?_)
  obtain ⟨HM2, fM2⟩ := zM2
  exact r_PV HM2 fM2
theorem S_X9_expect_b0 {b : Nat → Bool} {l0 : Nat} {l1 : Int32} {M : gM} (H : q_HT 0 M) (K_l0 : q_Kd M l0 (9, 0)) (h_l1 : 59 ≤ l1.toInt ∧ l1.toInt ≤ 93) : Ok (F_X9_expect_b0 (some l0) l1 M) (q_PV b M) := by
  delta F_X9_expect_b0
  refine c_gO K_l0 ?_
  refine Ok_b (S_X9_kind H K_l0) (fun v2 e_v2 => ?_)
  clear e_v2
  refine Ok_i (fun c_1 => ?_) (fun c_1 => ?_)
  · skip
    replace c_1 := i_eq c_1
    exact w_PV (q_rf _ _) (S_X9_expect_b17 (b := b)  H K_l0)
  · skip
    replace c_1 := i_ne c_1
    refine Ok_b (S_X9_place H K_l0) (fun v3 e_v3 => ?_)
    clear e_v3
    refine Ok_b (S_X9_blame (b := b) H K_l0 (by decide)) (fun M4 zM4 => ?_)
    obtain ⟨HM4, fM4⟩ := zM4
    have K_2 := (q_mo K_l0 (by decide) fM4)
    exact w_PV fM4 (S_X9_expect_b17 (b := b)  HM4 K_2)
theorem S_X9_expect {b : Nat → Bool} {l0 : Nat} {l1 : Int32} {M : gM} (H : q_HT 0 M) (K_l0 : q_Kd M l0 (9, 0)) (h_l1 : 59 ≤ l1.toInt ∧ l1.toInt ≤ 93) : Ok (F_X9_expect (some l0) l1 M) (q_PV b M) := by
  delta F_X9_expect
  exact w_PV (q_rf _ _) (S_X9_expect_b0 (b := b)  H K_l0 h_l1)
theorem S_X9_goesOn_b19 {b : Nat → Bool} {l0 : Nat} {M : gM} (H : q_HT 0 M) (K_l0 : q_Kd M l0 (9, 0)) : Ok (F_X9_goesOn_b19 (some l0) M) (q_PI b M (0) (1)) := by
  delta F_X9_goesOn_b19
  refine c_gO K_l0 ?_
  refine Ok_b (S_X9_expect (b := b) H K_l0 (by decide)) (fun M2 zM2 => ?_)
  obtain ⟨HM2, fM2⟩ := zM2
  have K_1 := (q_mo K_l0 (by decide) fM2)
  refine c_gC K_1 ?_
  refine Ok_b (S_X9_isFaulty HM2 K_1) (fun v4 e_v4 => ?_)
  replace e_v4 := q_un e_v4
  refine Ok_i (fun c_2 => ?_) (fun c_2 => ?_)
  · skip
    replace c_2 := i_eq c_2
    rw [L_0] at c_2
    exact r_PI (by decide) HM2 fM2
  · skip
    replace c_2 := i_ne c_2
    rw [L_0] at c_2
    exact r_PI (by decide) HM2 fM2
set_option maxHeartbeats 1000000 in
theorem S_X9_goesOn_b0 {b : Nat → Bool} {l0 : Nat} {M : gM} (H : q_HT 0 M) (K_l0 : q_Kd M l0 (9, 0)) : Ok (F_X9_goesOn_b0 (some l0) M) (q_PI b M (0) (1)) := by
  delta F_X9_goesOn_b0
  refine c_gO K_l0 ?_
  refine Ok_b (S_X9_isFaulty H K_l0) (fun v2 e_v2 => ?_)
  replace e_v2 := q_un e_v2
  refine Ok_i (fun c_1 => ?_) (fun c_1 => ?_)
  · skip
    replace c_1 := i_eq c_1
    rw [L_0] at c_1
    refine Ok_b (S_X9_kind H K_l0) (fun v3 e_v3 => ?_)
    clear e_v3
    refine Ok_i (fun c_2 => ?_) (fun c_2 => ?_)
    · skip
      replace c_2 := i_eq c_2
      rw [L_256] at c_2
      exact r_PI (by decide) H (q_rf _ _)
    · skip
      replace c_2 := i_ne c_2
      rw [L_256] at c_2
      exact w_PI (q_rf _ _) (S_X9_goesOn_b19 (b := b)  H K_l0) (by decide) (by decide)
  · skip
    replace c_1 := i_ne c_1
    rw [L_0] at c_1
    exact w_PI (q_rf _ _) (S_X9_goesOn_b19 (b := b)  H K_l0) (by decide) (by decide)
theorem S_X9_goesOn {b : Nat → Bool} {l0 : Nat} {M : gM} (H : q_HT 0 M) (K_l0 : q_Kd M l0 (9, 0)) : Ok (F_X9_goesOn (some l0) M) (q_PI b M (0) (1)) := by
  delta F_X9_goesOn
  exact w_PI (q_rf _ _) (S_X9_goesOn_b0 (b := b)  H K_l0) (by decide) (by decide)
theorem S_X2_read_b58 {b : Nat → Bool} {l0 : Nat} {M : gM} (H : q_HT 0 M) (K_l0 : q_Kd M l0 (2, 0)) : Ok (F_X2_read_b58 (some l0) M) (q_PN b M (1, 0)) := by
  delta F_X2_read_b58
  refine d_gR (q := (9, 0)) H K_l0 (by decide) rfl (fun v1 r_v1 K_v1 => ?_)
  refine c_gO K_v1 ?_
  refine Ok_b (S_X9_isFaulty H K_v1) (fun v3 e_v3 => ?_)
  replace e_v3 := q_un e_v3
  refine Ok_i (fun c_1 => ?_) (fun c_1 => ?_)
  · skip
    replace c_1 := i_eq c_1
    rw [L_0] at c_1
    refine d_gR (q := (1, 0)) H K_l0 (by decide) rfl (fun v4 r_v4 K_v4 => ?_)
    refine c_pI (b := b) (lo := 0) (hi := 1) H K_v4 (by decide) rfl (by decide) rfl (fun M5 HM5 fM5 q_M5 o_M5 rr_M5 => ?_)
    have r_2 := (congrFun (congrFun rr_M5 _) 0).trans r_v1
    have r_3 := (congrFun (congrFun rr_M5 _) 1).trans r_v4
    have K_4 := (q_mo K_l0 (by decide) fM5)
    refine c_gRs K_4 r_3 ?_
    have K_5 := (q_mo K_v4 (by decide) fM5)
    exact r_PN1 K_5 HM5 fM5
  · skip
    replace c_1 := i_ne c_1
    rw [L_0] at c_1
    exact r_PN0 H (q_rf _ _)
set_option maxHeartbeats 1000000 in
theorem S_X2_read_b29 {b : Nat → Bool} {k29 : Option Nat → Int32 → Int32 → gM → Option ((Option Nat) × gM)} {m29 : Int} {l0 : Nat} {l1 : Int32} {l2 : Int32} {M : gM} (hk29 : ∀ {l0 : Nat} {l1 : Int32} {l2 : Int32} {M : gM}, q_HT 0 M → (q_Kd M l0 (2, 0)) → (0 ≤ l1.toInt ∧ l1.toInt ≤ 1) → (1 ≤ l2.toInt ∧ l2.toInt ≤ 42) → 42 - l2.toInt < m29 → Ok (k29 (some l0) l1 l2 M) (q_PN b M (1, 0))) (H : q_HT 0 M) (K_l0 : q_Kd M l0 (2, 0)) (h_l1 : 0 ≤ l1.toInt ∧ l1.toInt ≤ 1) (h_l2 : 1 ≤ l2.toInt ∧ l2.toInt ≤ 42) (hm29 : 42 - l2.toInt ≤ m29) : Ok (F_X2_read_b29 k29 (some l0) l1 l2 M) (q_PN b M (1, 0)) := by
  delta F_X2_read_b29
  refine Ok_i (fun c_1 => ?_) (fun c_1 => ?_)
  · skip
    replace c_1 := i_lt c_1
    rw [L_41] at c_1
    exact w_PN (q_rf _ _) (S_X2_read_b58 (b := b)  H K_l0)
  · skip
    replace c_1 := i_nlt c_1
    rw [L_41] at c_1
    refine Ok_i (fun c_2 => ?_) (fun c_2 => ?_)
    · skip
      replace c_2 := i_eq c_2
      rw [L_0] at c_2
      exact w_PN (q_rf _ _) (S_X2_read_b58 (b := b)  H K_l0)
    · skip
      replace c_2 := i_ne c_2
      rw [L_0] at c_2
      refine c_gO K_l0 ?_
      refine Ok_b (S_X2_readClause (b := b) H K_l0 (by omega)) (fun M2 zM2 => ?_)
      obtain ⟨HM2, fM2⟩ := zM2
      have K_3 := (q_mo K_l0 (by decide) fM2)
      refine d_gR (q := (9, 0)) HM2 K_3 (by decide) rfl (fun v3 r_v3 K_v3 => ?_)
      refine c_gO K_v3 ?_
      refine Ok_b (S_X9_goesOn (b := b) HM2 K_v3) (fun yM6 zM6 => ?_)
      obtain ⟨v5, M6⟩ := yM6
      obtain ⟨e_v5, HM6, fM6⟩ := zM6
      try dsimp only at e_v5 HM6 fM6
      have g_4 := q_tr fM2 fM6
      have K_5 := (q_mo K_3 (by decide) fM6)
      have a_6 := i_addc (x := l2) (c := 1) L_1 (by omega) (by omega)
      exact w_PN g_4 (hk29 HM6 K_5 e_v5 (by omega) (by omega))
theorem S_X2_read_L29 {b : Nat → Bool} : ∀ (n : Nat) {l0 : Nat} {l1 : Int32} {l2 : Int32} {M : gM}, q_HT 0 M → (q_Kd M l0 (2, 0)) → (0 ≤ l1.toInt ∧ l1.toInt ≤ 1) → (1 ≤ l2.toInt ∧ l2.toInt ≤ 42) → 42 - l2.toInt < (n : Int) → Ok (F_X2_read_L29 n (some l0) l1 l2 M) (q_PN b M (1, 0)) := by
  intro n
  induction n with
  | zero =>
    intro l0 l1 l2 M H K_l0 h_l1 h_l2  hm
    exfalso
    omega
  | succ n ih =>
    intro l0 l1 l2 M H K_l0 h_l1 h_l2  hm
    exact S_X2_read_b29 (b := b) (m29 := 42 - l2.toInt) (fun H K_l0 h_l1 h_l2  hmz => ih H K_l0 h_l1 h_l2  (by omega)) H K_l0 h_l1 h_l2  (Int.le_refl _)
theorem S_X2_read_b0 {b : Nat → Bool} {l0 : Nat} {M : gM} (H : q_HT 0 M) (K_l0 : q_Kd M l0 (2, 0)) : Ok (F_X2_read_b0 (some l0) M) (q_PN b M (1, 0)) := by
  delta F_X2_read_b0
  refine d_gR (q := (9, 0)) H K_l0 (by decide) rfl (fun v1 r_v1 K_v1 => ?_)
  refine c_gO K_v1 ?_
  refine Ok_b (S_X9_split (b := b) H K_v1) (fun M3 zM3 => ?_)
  obtain ⟨HM3, fM3⟩ := zM3
  refine Ok_b (S_newHouse (b := b) HM3) (fun M4 zM4 => ?_)
  obtain ⟨⟨HM4, fM4⟩, KM4⟩ := zM4
  have g_1 := q_tr fM3 fM4
  have K_2 := (q_mo (q_mo K_l0 (by decide) fM3) (by decide) fM4)
  refine c_pR (b := b) HM4 K_2 (by decide) rfl KM4 rfl (fun M5 HM5 fM5 => ?_)
  have g_3 := q_tr g_1 fM5
  have K_4 := (q_mo K_2 (by decide) fM5)
  refine d_gR (q := (8, 0)) HM5 K_4 (by decide) rfl (fun v6 r_v6 K_v6 => ?_)
  refine c_gO K_v6 ?_
  refine Ok_b (S_X8_clear (b := b) HM5 K_v6) (fun M8 zM8 => ?_)
  obtain ⟨HM8, fM8⟩ := zM8
  have g_5 := q_tr g_3 fM8
  have K_6 := (q_mo K_4 (by decide) fM8)
  exact w_PN g_5 (S_X2_read_L29 (b := b)  g_fuel HM8 K_6 (by decide) (by decide) (q_fu (by rw [L_1]; omega)))
theorem S_X2_read {b : Nat → Bool} {l0 : Nat} {M : gM} (H : q_HT 0 M) (K_l0 : q_Kd M l0 (2, 0)) : Ok (F_X2_read (some l0) M) (q_PN b M (1, 0)) := by
  delta F_X2_read
  exact w_PN (q_rf _ _) (S_X2_read_b0 (b := b)  H K_l0)
set_option maxHeartbeats 1000000 in
theorem S_X8_copy_b0 {b : Nat → Bool} {l0 : Nat} {l1 : Nat} {M : gM} (H : q_HT 0 M) (K_l0 : q_Kd M l0 (8, 0)) (K_l1 : q_Kd M l1 (8, 0)) : Ok (F_X8_copy_b0 (some l0) (some l1) M) (q_PV b M) := by
  delta F_X8_copy_b0
  refine d_gR (q := (20, 49)) H K_l1 (by decide) rfl (fun v1 r_v1 K_v1 => ?_)
  refine d_gR (q := (20, 49)) H K_l0 (by decide) rfl (fun v2 r_v2 K_v2 => ?_)
  refine c_cpI (b := b) H K_v1 K_v2 (by decide) (by decide) (by decide) (by decide) (by decide) (fun M3 HM3 fM3 => ?_)
  have K_1 := (q_mo K_l1 (by decide) fM3)
  refine d_gR (q := (20, 49)) HM3 K_1 (by decide) rfl (fun v4 r_v4 K_v4 => ?_)
  have K_2 := (q_mo K_l0 (by decide) fM3)
  refine d_gR (q := (20, 49)) HM3 K_2 (by decide) rfl (fun v5 r_v5 K_v5 => ?_)
  refine c_cpI (b := b) HM3 K_v4 K_v5 (by decide) (by decide) (by decide) (by decide) (by decide) (fun M6 HM6 fM6 => ?_)
  have g_3 := q_tr fM3 fM6
  have K_4 := (q_mo K_1 (by decide) fM6)
  refine d_gR (q := (20, 7)) HM6 K_4 (by decide) rfl (fun v7 r_v7 K_v7 => ?_)
  have K_5 := (q_mo K_2 (by decide) fM6)
  refine d_gR (q := (20, 7)) HM6 K_5 (by decide) rfl (fun v8 r_v8 K_v8 => ?_)
  refine c_cpI (b := b) HM6 K_v7 K_v8 (by decide) (by decide) (by decide) (by decide) (by decide) (fun M9 HM9 fM9 => ?_)
  have g_6 := q_tr g_3 fM9
  have K_7 := (q_mo K_4 (by decide) fM9)
  refine d_gR (q := (20, 7)) HM9 K_7 (by decide) rfl (fun v10 r_v10 K_v10 => ?_)
  have K_8 := (q_mo K_5 (by decide) fM9)
  refine d_gR (q := (20, 7)) HM9 K_8 (by decide) rfl (fun v11 r_v11 K_v11 => ?_)
  refine c_cpI (b := b) HM9 K_v10 K_v11 (by decide) (by decide) (by decide) (by decide) (by decide) (fun M12 HM12 fM12 => ?_)
  have g_9 := q_tr g_6 fM12
  have K_10 := (q_mo K_7 (by decide) fM12)
  refine c_gIt K_10 (fun v13 q_v13 => ?_)
  have K_11 := (q_mo K_8 (by decide) fM12)
  refine c_pI (b := b) (lo := -2147483648) (hi := 2147483647) HM12 K_11 (by decide) rfl (i_rng _) rfl (fun M14 HM14 fM14 q_M14 o_M14 rr_M14 => ?_)
  have g_12 := q_tr g_9 fM14
  have K_13 := (q_mo K_10 (by decide) fM14)
  refine c_gIt K_13 (fun v15 q_v15 => ?_)
  have K_14 := (q_mo K_11 (by decide) fM14)
  refine c_pI (b := b) (lo := -2147483648) (hi := 2147483647) HM14 K_14 (by decide) rfl (i_rng _) rfl (fun M16 HM16 fM16 q_M16 o_M16 rr_M16 => ?_)
  have q_15 := (o_M16 _ _ (Or.inr (by decide))).trans q_M14
  have g_16 := q_tr g_12 fM16
  have K_17 := (q_mo K_13 (by decide) fM16)
  refine c_gIt K_17 (fun v17 q_v17 => ?_)
  have K_18 := (q_mo K_14 (by decide) fM16)
  refine c_pI (b := b) (lo := -2147483648) (hi := 2147483647) HM16 K_18 (by decide) rfl (i_rng _) rfl (fun M18 HM18 fM18 q_M18 o_M18 rr_M18 => ?_)
  have q_19 := (o_M18 _ _ (Or.inr (by decide))).trans q_15
  have q_20 := (o_M18 _ _ (Or.inr (by decide))).trans q_M16
  have g_21 := q_tr g_16 fM18
  exact r_PV HM18 g_21
theorem S_X8_copy {b : Nat → Bool} {l0 : Nat} {l1 : Nat} {M : gM} (H : q_HT 0 M) (K_l0 : q_Kd M l0 (8, 0)) (K_l1 : q_Kd M l1 (8, 0)) : Ok (F_X8_copy (some l0) (some l1) M) (q_PV b M) := by
  delta F_X8_copy
  exact w_PV (q_rf _ _) (S_X8_copy_b0 (b := b)  H K_l0 K_l1)
theorem S_X4_clear_b0 {b : Nat → Bool} {l0 : Nat} {M : gM} (H : q_HT 0 M) (K_l0 : q_Kd M l0 (4, 0)) : Ok (F_X4_clear_b0 (some l0) M) (q_PV b M) := by
  delta F_X4_clear_b0
  refine c_pI (b := b) (lo := 0) (hi := 20) H K_l0 (by decide) rfl (by decide) rfl (fun M1 HM1 fM1 q_M1 o_M1 rr_M1 => ?_)
  exact r_PV HM1 fM1
theorem S_X4_clear {b : Nat → Bool} {l0 : Nat} {M : gM} (H : q_HT 0 M) (K_l0 : q_Kd M l0 (4, 0)) : Ok (F_X4_clear (some l0) M) (q_PV b M) := by
  delta F_X4_clear
  exact w_PV (q_rf _ _) (S_X4_clear_b0 (b := b)  H K_l0)
set_option maxHeartbeats 1000000 in
theorem S_X11_house_b0 {l0 : Nat} {M : gM} (H : q_HT 0 M) (K_l0 : q_Kd M l0 (11, 0)) : Ok (F_X11_house_b0 (some l0) M) (q_PI q_bs M (-2147483648) (2147483647)) := by
  delta F_X11_house_b0
  refine d_gR (q := (2, 0)) H K_l0 (by decide) rfl (fun v1 r_v1 K_v1 => ?_)
  refine c_gO K_v1 ?_
  refine Ok_b (S_X2_read (b := q_bs) H K_v1) (fun yM4 zM4 => ?_)
  obtain ⟨v3, M4⟩ := yM4
  obtain ⟨e_v3, HM4, fM4⟩ := zM4
  try dsimp only at e_v3 HM4 fM4
  have K_1 := (q_mo K_l0 (by decide) fM4)
  refine d_gR (q := (9, 0)) HM4 K_1 (by decide) rfl (fun v5 r_v5 K_v5 => ?_)
  refine c_pI (b := q_bs) (lo := 0) (hi := 400) HM4 K_v5 (by decide) rfl (by decide) rfl (fun M6 HM6 fM6 q_M6 o_M6 rr_M6 => ?_)
  have r_2 := (congrFun (congrFun rr_M6 _) 0).trans r_v5
  have g_3 := q_tr fM4 fM6
  rcases (q_mN e_v3 (by decide) fM6) with w_4 | ⟨v3_p, w_4, KN_v3⟩
  · subst w_4
    refine Ok_t rfl ?_
    have K_5 := (q_mo K_1 (by decide) fM6)
    refine c_gRs K_5 r_2 ?_
    have K_6 := (q_mo K_v5 (by decide) fM6)
    refine c_gIt K_6 (fun v19 q_v19 => ?_)
    exact r_PI (i_rng _) HM6 g_3
  · subst w_4
    refine Ok_e (by simp) ?_
    have K_7 := (q_mo K_1 (by decide) fM6)
    refine c_pR (b := q_bs) HM6 K_7 (by decide) rfl KN_v3 rfl (fun M7 HM7 fM7 => ?_)
    have g_8 := q_tr g_3 fM7
    have K_9 := (q_mo K_7 (by decide) fM7)
    refine d_gR (q := (8, 0)) HM7 K_9 (by decide) rfl (fun v8 r_v8 K_v8 => ?_)
    refine d_gR (q := (2, 0)) HM7 K_9 (by decide) rfl (fun v9 r_v9 K_v9 => ?_)
    refine d_gR (q := (8, 0)) HM7 K_v9 (by decide) rfl (fun v10 r_v10 K_v10 => ?_)
    refine c_gO K_v8 ?_
    refine Ok_b (S_X8_copy (b := q_bs) HM7 K_v8 K_v10) (fun M12 zM12 => ?_)
    obtain ⟨HM12, fM12⟩ := zM12
    have g_10 := q_tr g_8 fM12
    have K_11 := (q_mo K_9 (by decide) fM12)
    refine d_gR (q := (4, 0)) HM12 K_11 (by decide) rfl (fun v13 r_v13 K_v13 => ?_)
    refine c_gO K_v13 ?_
    refine Ok_b (S_X4_clear (b := q_bs) HM12 K_v13) (fun M15 zM15 => ?_)
    obtain ⟨HM15, fM15⟩ := zM15
    have g_12 := q_tr g_10 fM15
    have K_13 := (q_mo K_11 (by decide) fM15)
    refine d_gR (q := (1, 0)) HM15 K_13 (by decide) rfl (fun v16 r_v16 K_v16 => ?_)
    refine d_gI (lo := 0) (hi := 7) HM15 K_v16 (by decide) rfl (fun v17 q_v17 e_v17 => ?_)
    exact r_PI (i_rng _) HM15 g_12
theorem S_X11_house {l0 : Nat} {M : gM} (H : q_HT 0 M) (K_l0 : q_Kd M l0 (11, 0)) : Ok (F_X11_house (some l0) M) (q_PI q_bs M (-2147483648) (2147483647)) := by
  delta F_X11_house
  exact w_PI (q_rf _ _) (S_X11_house_b0  H K_l0) (by decide) (by decide)
set_option maxHeartbeats 1000000 in
theorem S_X7_mark_b0 {b : Nat → Bool} {l0 : Nat} {M : gM} (H : q_HT 0 M) (K_l0 : q_Kd M l0 (7, 0)) : Ok (F_X7_mark_b0 (some l0) M) (q_PV b M) := by
  delta F_X7_mark_b0
  refine d_gI (lo := 0) (hi := 36) H K_l0 (by decide) rfl (fun v1 q_v1 e_v1 => ?_)
  refine d_gR (q := (20, 36)) H K_l0 (by decide) rfl (fun v2 r_v2 K_v2 => ?_)
  refine c_aN K_v2 (by decide) (by decide) (fun v3 e_v3 => ?_)
  refine Ok_i (fun c_1 => ?_) (fun c_1 => ?_)
  · skip
    replace c_1 := i_le c_1
    exact r_PV H (q_rf _ _)
  · skip
    replace c_1 := i_nle c_1
    refine c_gRs K_l0 r_v2 ?_
    refine c_gIs K_l0 q_v1 (fun v5 e_v5 => ?_)
    have t_v5 := congrArg Int32.toInt e_v5
    have q_v5 := q_v1.trans e_v5.symm
    refine d_gI (lo := 0) (hi := 400) H K_l0 (by decide) rfl (fun v6 q_v6 e_v6 => ?_)
    refine c_sI (b := b) H K_v2 (by omega) (by omega) (fun M7 HM7 fM7 o_M7 rr_M7 => ?_)
    have q_2 := (congrFun (o_M7 _ (q_dn K_l0 K_v2 (Or.inl (Nat.le_of_ble_eq_true rfl)))) 4).trans q_v5
    have q_3 := (congrFun (o_M7 _ (q_dn K_l0 K_v2 (Or.inl (Nat.le_of_ble_eq_true rfl)))) 3).trans q_v6
    have r_4 := (congrFun (congrFun rr_M7 _) 2).trans r_v2
    have K_5 := (q_mo K_l0 (by decide) fM7)
    refine c_gIs K_5 q_2 (fun v8 e_v8 => ?_)
    have t_v8 := congrArg Int32.toInt e_v8
    have q_v8 := q_2.trans e_v8.symm
    have a_6 := i_addc (x := v8) (c := (1 : Int32)) L_1 (by omega) (by omega)
    refine c_pI (b := b) (lo := 0) (hi := 36) HM7 K_5 (by decide) rfl (by omega) rfl (fun M9 HM9 fM9 q_M9 o_M9 rr_M9 => ?_)
    have q_7 := (o_M9 _ _ (Or.inr (by decide))).trans q_3
    have r_8 := (congrFun (congrFun rr_M9 _) 2).trans r_4
    have g_9 := q_tr fM7 fM9
    exact r_PV HM9 g_9
theorem S_X7_mark {b : Nat → Bool} {l0 : Nat} {M : gM} (H : q_HT 0 M) (K_l0 : q_Kd M l0 (7, 0)) : Ok (F_X7_mark (some l0) M) (q_PV b M) := by
  delta F_X7_mark
  exact w_PV (q_rf _ _) (S_X7_mark_b0 (b := b)  H K_l0)
set_option maxHeartbeats 1000000 in
theorem S_X7_put_b0 {b : Nat → Bool} {l0 : Nat} {l1 : Int32} {M : gM} (H : q_HT 0 M) (K_l0 : q_Kd M l0 (7, 0)) : Ok (F_X7_put_b0 (some l0) l1 M) (q_PV b M) := by
  delta F_X7_put_b0
  refine d_gI (lo := 0) (hi := 400) H K_l0 (by decide) rfl (fun v1 q_v1 e_v1 => ?_)
  refine d_gR (q := (20, 400)) H K_l0 (by decide) rfl (fun v2 r_v2 K_v2 => ?_)
  refine c_aN K_v2 (by decide) (by decide) (fun v3 e_v3 => ?_)
  refine Ok_i (fun c_1 => ?_) (fun c_1 => ?_)
  · skip
    replace c_1 := i_le c_1
    exact r_PV H (q_rf _ _)
  · skip
    replace c_1 := i_nle c_1
    refine c_gRs K_l0 r_v2 ?_
    refine c_gIs K_l0 q_v1 (fun v5 e_v5 => ?_)
    have t_v5 := congrArg Int32.toInt e_v5
    have q_v5 := q_v1.trans e_v5.symm
    refine c_sI (b := b) H K_v2 (by omega) (by omega) (fun M6 HM6 fM6 o_M6 rr_M6 => ?_)
    have q_2 := (congrFun (o_M6 _ (q_dn K_l0 K_v2 (Or.inl (Nat.le_of_ble_eq_true rfl)))) 3).trans q_v5
    have r_3 := (congrFun (congrFun rr_M6 _) 1).trans r_v2
    have K_4 := (q_mo K_l0 (by decide) fM6)
    refine c_gIs K_4 q_2 (fun v7 e_v7 => ?_)
    have t_v7 := congrArg Int32.toInt e_v7
    have q_v7 := q_2.trans e_v7.symm
    have a_5 := i_addc (x := v7) (c := (1 : Int32)) L_1 (by omega) (by omega)
    refine c_pI (b := b) (lo := 0) (hi := 400) HM6 K_4 (by decide) rfl (by omega) rfl (fun M8 HM8 fM8 q_M8 o_M8 rr_M8 => ?_)
    have r_6 := (congrFun (congrFun rr_M8 _) 1).trans r_3
    have g_7 := q_tr fM6 fM8
    exact r_PV HM8 g_7
theorem S_X7_put {b : Nat → Bool} {l0 : Nat} {l1 : Int32} {M : gM} (H : q_HT 0 M) (K_l0 : q_Kd M l0 (7, 0)) : Ok (F_X7_put (some l0) l1 M) (q_PV b M) := by
  delta F_X7_put
  exact w_PV (q_rf _ _) (S_X7_put_b0 (b := b)  H K_l0)
theorem S_X7_countValue_b0 {b : Nat → Bool} {l0 : Nat} {l1 : Int32} {M : gM} (H : q_HT 0 M) (K_l0 : q_Kd M l0 (7, 0)) : Ok (F_X7_countValue_b0 (some l0) l1 M) (q_PV b M) := by
  delta F_X7_countValue_b0
  refine c_gIt K_l0 (fun v1 q_v1 => ?_)
  refine c_pI (b := b) (lo := -2147483648) (hi := 2147483647) H K_l0 (by decide) rfl (i_rng _) rfl (fun M2 HM2 fM2 q_M2 o_M2 rr_M2 => ?_)
  have K_1 := (q_mo K_l0 (by decide) fM2)
  refine c_gIs K_1 q_M2 (fun v3 e_v3 => ?_)
  have t_v3 := congrArg Int32.toInt e_v3
  have q_v3 := q_M2.trans e_v3.symm
  refine Ok_i (fun c_2 => ?_) (fun c_2 => ?_)
  · skip
    replace c_2 := i_le c_2
    rw [L_60] at c_2
    exact r_PV HM2 fM2
  · skip
    replace c_2 := i_nle c_2
    rw [L_60] at c_2
    refine d_gR (q := (9, 0)) HM2 K_1 (by decide) rfl (fun v4 r_v4 K_v4 => ?_)
    refine c_gO K_v4 ?_
    refine Ok_b (S_X9_blame (b := b) HM2 K_v4 (by decide)) (fun M6 zM6 => ?_)
    obtain ⟨HM6, fM6⟩ := zM6
    have g_3 := q_tr fM2 fM6
    exact r_PV HM6 g_3
theorem S_X7_countValue {b : Nat → Bool} {l0 : Nat} {l1 : Int32} {M : gM} (H : q_HT 0 M) (K_l0 : q_Kd M l0 (7, 0)) : Ok (F_X7_countValue (some l0) l1 M) (q_PV b M) := by
  delta F_X7_countValue
  exact w_PV (q_rf _ _) (S_X7_countValue_b0 (b := b)  H K_l0)
theorem S_X7_readValue_b67 {b : Nat → Bool} {l0 : Nat} {l1 : Int32} {M : gM} (H : q_HT 0 M) (K_l0 : q_Kd M l0 (7, 0)) : Ok (F_X7_readValue_b67 (some l0) l1 M) (q_PV b M) := by
  delta F_X7_readValue_b67
  refine c_gO K_l0 ?_
  refine Ok_b (S_X7_countValue (b := b) H K_l0) (fun M2 zM2 => ?_)
  obtain ⟨HM2, fM2⟩ := zM2
  exact r_PV HM2 fM2
theorem S_X7_readValue_b49 {b : Nat → Bool} {l0 : Nat} {l1 : Int32} {M : gM} (H : q_HT 0 M) (K_l0 : q_Kd M l0 (7, 0)) : Ok (F_X7_readValue_b49 (some l0) l1 M) (q_PV b M) := by
  delta F_X7_readValue_b49
  refine d_gR (q := (9, 0)) H K_l0 (by decide) rfl (fun v1 r_v1 K_v1 => ?_)
  refine c_gO K_v1 ?_
  refine Ok_b (S_X9_number (b := b) H K_v1) (fun yM4 zM4 => ?_)
  obtain ⟨v3, M4⟩ := yM4
  obtain ⟨e_v3, HM4, fM4⟩ := zM4
  try dsimp only at e_v3 HM4 fM4
  rw [L_0] at e_v3
  rw [L_99999] at e_v3
  have K_1 := (q_mo K_l0 (by decide) fM4)
  refine c_gO K_1 ?_
  refine Ok_b (S_X7_put (b := b) HM4 K_1) (fun M6 zM6 => ?_)
  obtain ⟨HM6, fM6⟩ := zM6
  have g_2 := q_tr fM4 fM6
  have K_3 := (q_mo K_1 (by decide) fM6)
  exact w_PV g_2 (S_X7_readValue_b67 (b := b)  HM6 K_3)
set_option maxHeartbeats 1000000 in
theorem S_X7_readValue_b0 {b : Nat → Bool} {l0 : Nat} {M : gM} (H : q_HT 0 M) (K_l0 : q_Kd M l0 (7, 0)) : Ok (F_X7_readValue_b0 (some l0) M) (q_PV b M) := by
  delta F_X7_readValue_b0
  refine d_gR (q := (9, 0)) H K_l0 (by decide) rfl (fun v1 r_v1 K_v1 => ?_)
  refine c_gO K_v1 ?_
  refine Ok_b (S_X9_place H K_v1) (fun v3 e_v3 => ?_)
  clear e_v3
  refine c_gRs K_l0 r_v1 ?_
  refine c_gO K_v1 ?_
  refine Ok_b (S_X9_kind H K_v1) (fun v6 e_v6 => ?_)
  clear e_v6
  refine Ok_i (fun c_1 => ?_) (fun c_1 => ?_)
  · skip
    replace c_1 := i_lt c_1
    rw [L_0] at c_1
    exact w_PV (q_rf _ _) (S_X7_readValue_b49 (b := b)  H K_l0)
  · skip
    replace c_1 := i_nlt c_1
    rw [L_0] at c_1
    refine Ok_i (fun c_2 => ?_) (fun c_2 => ?_)
    · skip
      replace c_2 := i_le c_2
      rw [L_14] at c_2
      exact w_PV (q_rf _ _) (S_X7_readValue_b49 (b := b)  H K_l0)
    · skip
      replace c_2 := i_nle c_2
      rw [L_14] at c_2
      refine c_gRs K_l0 r_v1 ?_
      refine c_gO K_v1 ?_
      refine Ok_b (S_X9_next (b := b) H K_v1) (fun M9 zM9 => ?_)
      obtain ⟨HM9, fM9⟩ := zM9
      have K_3 := (q_mo K_l0 (by decide) fM9)
      refine c_gO K_3 ?_
      refine Ok_b (S_X7_put (b := b) HM9 K_3) (fun M11 zM11 => ?_)
      obtain ⟨HM11, fM11⟩ := zM11
      have g_4 := q_tr fM9 fM11
      have K_5 := (q_mo K_3 (by decide) fM11)
      exact w_PV g_4 (S_X7_readValue_b67 (b := b)  HM11 K_5)
theorem S_X7_readValue {b : Nat → Bool} {l0 : Nat} {M : gM} (H : q_HT 0 M) (K_l0 : q_Kd M l0 (7, 0)) : Ok (F_X7_readValue (some l0) M) (q_PV b M) := by
  delta F_X7_readValue
  exact w_PV (q_rf _ _) (S_X7_readValue_b0 (b := b)  H K_l0)
set_option maxHeartbeats 1000000 in
theorem S_X7_comparingOf_b0 {l0 : Int32} {M : gM} (H : q_HT 0 M) : Ok (F_X7_comparingOf_b0 M l0) (q_pi (-1) (11)) := by
  delta F_X7_comparingOf_b0
  refine Ok_i (fun c_1 => ?_) (fun c_1 => ?_)
  · skip
    replace c_1 := i_eq c_1
    rw [L_60] at c_1
    exact r_pi (by decide)
  · skip
    replace c_1 := i_ne c_1
    rw [L_60] at c_1
    refine Ok_i (fun c_2 => ?_) (fun c_2 => ?_)
    · skip
      replace c_2 := i_eq c_2
      rw [L_61] at c_2
      exact r_pi (by decide)
    · skip
      replace c_2 := i_ne c_2
      rw [L_61] at c_2
      refine Ok_i (fun c_3 => ?_) (fun c_3 => ?_)
      · skip
        replace c_3 := i_eq c_3
        rw [L_62] at c_3
        exact r_pi (by decide)
      · skip
        replace c_3 := i_ne c_3
        rw [L_62] at c_3
        refine Ok_i (fun c_4 => ?_) (fun c_4 => ?_)
        · skip
          replace c_4 := i_eq c_4
          rw [L_258] at c_4
          exact r_pi (by decide)
        · skip
          replace c_4 := i_ne c_4
          rw [L_258] at c_4
          refine Ok_i (fun c_5 => ?_) (fun c_5 => ?_)
          · skip
            replace c_5 := i_eq c_5
            rw [L_259] at c_5
            exact r_pi (by decide)
          · skip
            replace c_5 := i_ne c_5
            rw [L_259] at c_5
            exact r_pi (by decide)
theorem S_X7_comparingOf {l0 : Int32} {M : gM} (H : q_HT 0 M) : Ok (F_X7_comparingOf l0 M) (q_pi (-1) (11)) := by
  delta F_X7_comparingOf
  exact w_pi (S_X7_comparingOf_b0  H) (by decide) (by decide)
theorem S_X7_readComparing_b31 {b : Nat → Bool} {l0 : Nat} {l1 : Int32} {M : gM} (H : q_HT 0 M) (K_l0 : q_Kd M l0 (7, 0)) (h_l1 : -1 ≤ l1.toInt ∧ l1.toInt ≤ 11) : Ok (F_X7_readComparing_b31 (some l0) l1 M) (q_PI b M (-1) (11)) := by
  delta F_X7_readComparing_b31
  refine d_gR (q := (9, 0)) H K_l0 (by decide) rfl (fun v1 r_v1 K_v1 => ?_)
  refine c_gO K_v1 ?_
  refine Ok_b (S_X9_place H K_v1) (fun v3 e_v3 => ?_)
  clear e_v3
  refine c_gO K_l0 ?_
  refine Ok_b (S_X7_countValue (b := b) H K_l0) (fun M5 zM5 => ?_)
  obtain ⟨HM5, fM5⟩ := zM5
  have K_1 := (q_mo K_l0 (by decide) fM5)
  refine d_gR (q := (9, 0)) HM5 K_1 (by decide) rfl (fun v6 r_v6 K_v6 => ?_)
  refine c_gO K_v6 ?_
  refine Ok_b (S_X9_next (b := b) HM5 K_v6) (fun M8 zM8 => ?_)
  obtain ⟨HM8, fM8⟩ := zM8
  have g_2 := q_tr fM5 fM8
  exact r_PI (by omega) HM8 g_2
set_option maxHeartbeats 1000000 in
theorem S_X7_readComparing_b0 {b : Nat → Bool} {l0 : Nat} {M : gM} (H : q_HT 0 M) (K_l0 : q_Kd M l0 (7, 0)) : Ok (F_X7_readComparing_b0 (some l0) M) (q_PI b M (-1) (11)) := by
  delta F_X7_readComparing_b0
  refine d_gR (q := (9, 0)) H K_l0 (by decide) rfl (fun v1 r_v1 K_v1 => ?_)
  refine c_gO K_v1 ?_
  refine Ok_b (S_X9_kind H K_v1) (fun v3 e_v3 => ?_)
  clear e_v3
  refine Ok_b (S_X7_comparingOf H) (fun v4 e_v4 => ?_)
  replace e_v4 := q_un e_v4
  refine Ok_i (fun c_1 => ?_) (fun c_1 => ?_)
  · skip
    replace c_1 := i_eq c_1
    rw [L_m1] at c_1
    refine c_gRs K_l0 r_v1 ?_
    refine c_gRs K_l0 r_v1 ?_
    refine c_gO K_v1 ?_
    refine Ok_b (S_X9_place H K_v1) (fun v8 e_v8 => ?_)
    clear e_v8
    refine c_gO K_v1 ?_
    refine Ok_b (S_X9_blame (b := b) H K_v1 (by decide)) (fun M10 zM10 => ?_)
    obtain ⟨HM10, fM10⟩ := zM10
    have K_2 := (q_mo K_l0 (by decide) fM10)
    exact w_PI fM10 (S_X7_readComparing_b31 (b := b)  HM10 K_2 e_v4) (by decide) (by decide)
  · skip
    replace c_1 := i_ne c_1
    rw [L_m1] at c_1
    exact w_PI (q_rf _ _) (S_X7_readComparing_b31 (b := b)  H K_l0 e_v4) (by decide) (by decide)
theorem S_X7_readComparing {b : Nat → Bool} {l0 : Nat} {M : gM} (H : q_HT 0 M) (K_l0 : q_Kd M l0 (7, 0)) : Ok (F_X7_readComparing (some l0) M) (q_PI b M (-1) (11)) := by
  delta F_X7_readComparing
  exact w_PI (q_rf _ _) (S_X7_readComparing_b0 (b := b)  H K_l0) (by decide) (by decide)
set_option maxHeartbeats 1000000 in
theorem S_X7_joinerOf_b0 {l0 : Int32} {l1 : Int32} {M : gM} (H : q_HT 0 M) (h_l0 : 0 ≤ l0.toInt ∧ l0.toInt ≤ 3) : Ok (F_X7_joinerOf_b0 M l0 l1) (q_pi (-1) (13)) := by
  delta F_X7_joinerOf_b0
  refine Ok_i (fun c_1 => ?_) (fun c_1 => ?_)
  · skip
    replace c_1 := i_eq c_1
    rw [L_37] at c_1
    refine Ok_i (fun c_2 => ?_) (fun c_2 => ?_)
    · skip
      replace c_2 := i_eq c_2
      rw [L_3] at c_2
      exact r_pi (by decide)
    · skip
      replace c_2 := i_ne c_2
      rw [L_3] at c_2
      exact r_pi (by decide)
  · skip
    replace c_1 := i_ne c_1
    rw [L_37] at c_1
    refine Ok_i (fun c_3 => ?_) (fun c_3 => ?_)
    · skip
      replace c_3 := i_eq c_3
      rw [L_42] at c_3
      refine Ok_i (fun c_4 => ?_) (fun c_4 => ?_)
      · skip
        replace c_4 := i_eq c_4
        rw [L_3] at c_4
        exact r_pi (by decide)
      · skip
        replace c_4 := i_ne c_4
        rw [L_3] at c_4
        exact r_pi (by decide)
    · skip
      replace c_3 := i_ne c_3
      rw [L_42] at c_3
      refine Ok_i (fun c_5 => ?_) (fun c_5 => ?_)
      · skip
        replace c_5 := i_eq c_5
        rw [L_43] at c_5
        refine Ok_i (fun c_6 => ?_) (fun c_6 => ?_)
        · skip
          replace c_6 := i_eq c_6
          rw [L_2] at c_6
          exact r_pi (by decide)
        · skip
          replace c_6 := i_ne c_6
          rw [L_2] at c_6
          exact r_pi (by decide)
      · skip
        replace c_5 := i_ne c_5
        rw [L_43] at c_5
        refine Ok_i (fun c_7 => ?_) (fun c_7 => ?_)
        · skip
          replace c_7 := i_eq c_7
          rw [L_45] at c_7
          refine Ok_i (fun c_8 => ?_) (fun c_8 => ?_)
          · skip
            replace c_8 := i_eq c_8
            rw [L_2] at c_8
            exact r_pi (by decide)
          · skip
            replace c_8 := i_ne c_8
            rw [L_2] at c_8
            exact r_pi (by decide)
        · skip
          replace c_7 := i_ne c_7
          rw [L_45] at c_7
          refine Ok_i (fun c_9 => ?_) (fun c_9 => ?_)
          · skip
            replace c_9 := i_eq c_9
            rw [L_47] at c_9
            refine Ok_i (fun c_10 => ?_) (fun c_10 => ?_)
            · skip
              replace c_10 := i_eq c_10
              rw [L_3] at c_10
              exact r_pi (by decide)
            · skip
              replace c_10 := i_ne c_10
              rw [L_3] at c_10
              exact r_pi (by decide)
          · skip
            replace c_9 := i_ne c_9
            rw [L_47] at c_9
            refine Ok_i (fun c_11 => ?_) (fun c_11 => ?_)
            · skip
              replace c_11 := i_eq c_11
              rw [L_281] at c_11
              refine Ok_i (fun c_12 => ?_) (fun c_12 => ?_)
              · skip
                replace c_12 := i_eq c_12
                rw [L_1] at c_12
                exact r_pi (by decide)
              · skip
                replace c_12 := i_ne c_12
                rw [L_1] at c_12
                exact r_pi (by decide)
            · skip
              replace c_11 := i_ne c_11
              rw [L_281] at c_11
              refine Ok_i (fun c_13 => ?_) (fun c_13 => ?_)
              · skip
                replace c_13 := i_eq c_13
                rw [L_282] at c_13
                refine Ok_i (fun c_14 => ?_) (fun c_14 => ?_)
                · skip
                  replace c_14 := i_eq c_14
                  rw [L_0] at c_14
                  exact r_pi (by decide)
                · skip
                  replace c_14 := i_ne c_14
                  rw [L_0] at c_14
                  exact r_pi (by decide)
              · skip
                replace c_13 := i_ne c_13
                rw [L_282] at c_13
                exact r_pi (by decide)
theorem S_X7_joinerOf {l0 : Int32} {l1 : Int32} {M : gM} (H : q_HT 0 M) (h_l0 : 0 ≤ l0.toInt ∧ l0.toInt ≤ 3) : Ok (F_X7_joinerOf l0 l1 M) (q_pi (-1) (13)) := by
  delta F_X7_joinerOf
  exact w_pi (S_X7_joinerOf_b0  H h_l0) (by decide) (by decide)
set_option maxHeartbeats 1000000 in
theorem S_X7_readFact_b45 {b : Nat → Bool} {cJ : Option Nat → Int32 → Int32 → gM → Option gM} {cF : Option Nat → Int32 → gM → Option gM} {mr : Int} {l0 : Nat} {l1 : Int32} {l2 : Int32} {M : gM} (hcJ : ∀ {l0 : Nat} {l1 : Int32} {l2 : Int32} {M : gM}, q_HT 0 M → (q_Kd M l0 (7, 0)) → (0 ≤ l1.toInt ∧ l1.toInt ≤ 3) → (0 ≤ l2.toInt ∧ l2.toInt ≤ 10) → 5 * (10 - l2.toInt) + 6 - 2 * l1.toInt < mr → Ok (cJ (some l0) l1 l2 M) (q_PV b M)) (hcF : ∀ {l0 : Nat} {l1 : Int32} {M : gM}, q_HT 0 M → (q_Kd M l0 (7, 0)) → (0 ≤ l1.toInt ∧ l1.toInt ≤ 10) → 5 * (10 - l1.toInt) + 3 < mr → Ok (cF (some l0) l1 M) (q_PV b M)) (H : q_HT 0 M) (K_l0 : q_Kd M l0 (7, 0)) (h_l1 : 0 ≤ l1.toInt ∧ l1.toInt ≤ 10) (hx : (l2.toInt ≠ 91 ∧ l2.toInt ≠ 280) ∨ l1.toInt ≤ 9) (hr : 5 * (10 - l1.toInt) + 3 ≤ mr) : Ok (F_X7_readFact_b45 cJ cF (some l0) l1 l2 M) (q_PV b M) := by
  delta F_X7_readFact_b45
  refine Ok_i (fun c_1 => ?_) (fun c_1 => ?_)
  · skip
    replace c_1 := i_eq c_1
    rw [L_91] at c_1
    refine d_gR (q := (9, 0)) H K_l0 (by decide) rfl (fun v17 r_v17 K_v17 => ?_)
    refine c_gO K_v17 ?_
    refine Ok_b (S_X9_next (b := b) H K_v17) (fun M19 zM19 => ?_)
    obtain ⟨HM19, fM19⟩ := zM19
    have K_2 := (q_mo K_l0 (by decide) fM19)
    refine c_gO K_2 ?_
    have a_3 := i_addc (x := l1) (c := (1 : Int32)) L_1 (by omega) (by omega)
    refine Ok_b (hcJ HM19 K_2 (by decide) (by omega) (by rw [L_0]; omega)) (fun M21 zM21 => ?_)
    obtain ⟨HM21, fM21⟩ := zM21
    have g_4 := q_tr fM19 fM21
    have K_5 := (q_mo K_2 (by decide) fM21)
    refine d_gR (q := (9, 0)) HM21 K_5 (by decide) rfl (fun v22 r_v22 K_v22 => ?_)
    refine c_gO K_v22 ?_
    refine Ok_b (S_X9_expect (b := b) HM21 K_v22 (by decide)) (fun M24 zM24 => ?_)
    obtain ⟨HM24, fM24⟩ := zM24
    have g_6 := q_tr g_4 fM24
    exact r_PV HM24 g_6
  · skip
    replace c_1 := i_ne c_1
    rw [L_91] at c_1
    refine Ok_i (fun c_7 => ?_) (fun c_7 => ?_)
    · skip
      replace c_7 := i_eq c_7
      rw [L_280] at c_7
      refine d_gR (q := (9, 0)) H K_l0 (by decide) rfl (fun v10 r_v10 K_v10 => ?_)
      refine c_gO K_v10 ?_
      refine Ok_b (S_X9_next (b := b) H K_v10) (fun M12 zM12 => ?_)
      obtain ⟨HM12, fM12⟩ := zM12
      have K_8 := (q_mo K_l0 (by decide) fM12)
      refine c_gO K_8 ?_
      have a_9 := i_addc (x := l1) (c := (1 : Int32)) L_1 (by omega) (by omega)
      refine Ok_b (hcF HM12 K_8 (by omega) (by omega)) (fun M14 zM14 => ?_)
      obtain ⟨HM14, fM14⟩ := zM14
      have g_10 := q_tr fM12 fM14
      have K_11 := (q_mo K_8 (by decide) fM14)
      refine c_gC K_11 ?_
      refine Ok_b (S_X7_put (b := b) HM14 K_11) (fun M16 zM16 => ?_)
      obtain ⟨HM16, fM16⟩ := zM16
      have g_12 := q_tr g_10 fM16
      exact r_PV HM16 g_12
    · skip
      replace c_7 := i_ne c_7
      rw [L_280] at c_7
      refine c_gO K_l0 ?_
      refine Ok_b (hcJ H K_l0 (by decide) h_l1 (by rw [L_2]; omega)) (fun M2 zM2 => ?_)
      obtain ⟨HM2, fM2⟩ := zM2
      have K_13 := (q_mo K_l0 (by decide) fM2)
      refine c_gC K_13 ?_
      refine Ok_b (S_X7_readComparing (b := b) HM2 K_13) (fun yM5 zM5 => ?_)
      obtain ⟨v4, M5⟩ := yM5
      obtain ⟨e_v4, HM5, fM5⟩ := zM5
      try dsimp only at e_v4 HM5 fM5
      have g_14 := q_tr fM2 fM5
      have K_15 := (q_mo K_13 (by decide) fM5)
      refine c_gC K_15 ?_
      refine Ok_b (hcJ HM5 K_15 (by decide) h_l1 (by rw [L_2]; omega)) (fun M7 zM7 => ?_)
      obtain ⟨HM7, fM7⟩ := zM7
      have g_16 := q_tr g_14 fM7
      have K_17 := (q_mo K_15 (by decide) fM7)
      refine c_gC K_17 ?_
      refine Ok_b (S_X7_put (b := b) HM7 K_17) (fun M9 zM9 => ?_)
      obtain ⟨HM9, fM9⟩ := zM9
      have g_18 := q_tr g_16 fM9
      exact r_PV HM9 g_18
theorem S_X7_readFact_b21 {b : Nat → Bool} {cJ : Option Nat → Int32 → Int32 → gM → Option gM} {cF : Option Nat → Int32 → gM → Option gM} {mr : Int} {l0 : Nat} {l1 : Int32} {l2 : Int32} {M : gM} (hcJ : ∀ {l0 : Nat} {l1 : Int32} {l2 : Int32} {M : gM}, q_HT 0 M → (q_Kd M l0 (7, 0)) → (0 ≤ l1.toInt ∧ l1.toInt ≤ 3) → (0 ≤ l2.toInt ∧ l2.toInt ≤ 10) → 5 * (10 - l2.toInt) + 6 - 2 * l1.toInt < mr → Ok (cJ (some l0) l1 l2 M) (q_PV b M)) (hcF : ∀ {l0 : Nat} {l1 : Int32} {M : gM}, q_HT 0 M → (q_Kd M l0 (7, 0)) → (0 ≤ l1.toInt ∧ l1.toInt ≤ 10) → 5 * (10 - l1.toInt) + 3 < mr → Ok (cF (some l0) l1 M) (q_PV b M)) (H : q_HT 0 M) (K_l0 : q_Kd M l0 (7, 0)) (h_l1 : 0 ≤ l1.toInt ∧ l1.toInt ≤ 10) (h_l2 : 91 ≤ l2.toInt ∧ l2.toInt ≤ 280) (hr : 5 * (10 - l1.toInt) + 3 ≤ mr) : Ok (F_X7_readFact_b21 cJ cF (some l0) l1 l2 M) (q_PV b M) := by
  delta F_X7_readFact_b21
  refine Ok_i (fun c_1 => ?_) (fun c_1 => ?_)
  · skip
    replace c_1 := i_lt c_1
    rw [L_10] at c_1
    exact w_PV (q_rf _ _) (S_X7_readFact_b45 (b := b) hcJ hcF H K_l0 h_l1 (by omega) (by omega))
  · skip
    replace c_1 := i_nlt c_1
    rw [L_10] at c_1
    refine d_gR (q := (9, 0)) H K_l0 (by decide) rfl (fun v1 r_v1 K_v1 => ?_)
    refine c_gRs K_l0 r_v1 ?_
    refine c_gO K_v1 ?_
    refine Ok_b (S_X9_place H K_v1) (fun v4 e_v4 => ?_)
    clear e_v4
    refine c_gO K_v1 ?_
    refine Ok_b (S_X9_blame (b := b) H K_v1 (by decide)) (fun M6 zM6 => ?_)
    obtain ⟨HM6, fM6⟩ := zM6
    exact r_PV HM6 fM6
set_option maxHeartbeats 1000000 in
theorem S_X7_readFact_b0 {b : Nat → Bool} {cJ : Option Nat → Int32 → Int32 → gM → Option gM} {cF : Option Nat → Int32 → gM → Option gM} {mr : Int} {l0 : Nat} {l1 : Int32} {M : gM} (hcJ : ∀ {l0 : Nat} {l1 : Int32} {l2 : Int32} {M : gM}, q_HT 0 M → (q_Kd M l0 (7, 0)) → (0 ≤ l1.toInt ∧ l1.toInt ≤ 3) → (0 ≤ l2.toInt ∧ l2.toInt ≤ 10) → 5 * (10 - l2.toInt) + 6 - 2 * l1.toInt < mr → Ok (cJ (some l0) l1 l2 M) (q_PV b M)) (hcF : ∀ {l0 : Nat} {l1 : Int32} {M : gM}, q_HT 0 M → (q_Kd M l0 (7, 0)) → (0 ≤ l1.toInt ∧ l1.toInt ≤ 10) → 5 * (10 - l1.toInt) + 3 < mr → Ok (cF (some l0) l1 M) (q_PV b M)) (H : q_HT 0 M) (K_l0 : q_Kd M l0 (7, 0)) (h_l1 : 0 ≤ l1.toInt ∧ l1.toInt ≤ 10) (hr : 5 * (10 - l1.toInt) + 3 ≤ mr) : Ok (F_X7_readFact_b0 cJ cF (some l0) l1 M) (q_PV b M) := by
  delta F_X7_readFact_b0
  refine d_gR (q := (9, 0)) H K_l0 (by decide) rfl (fun v1 r_v1 K_v1 => ?_)
  refine c_gO K_v1 ?_
  refine Ok_b (S_X9_kind H K_v1) (fun v3 e_v3 => ?_)
  clear e_v3
  refine Ok_i (fun c_1 => ?_) (fun c_1 => ?_)
  · skip
    replace c_1 := i_eq c_1
    rw [L_91] at c_1
    exact w_PV (q_rf _ _) (S_X7_readFact_b21 (b := b) hcJ hcF H K_l0 h_l1 (by omega) (by omega))
  · skip
    replace c_1 := i_ne c_1
    rw [L_91] at c_1
    refine Ok_i (fun c_2 => ?_) (fun c_2 => ?_)
    · skip
      replace c_2 := i_eq c_2
      rw [L_280] at c_2
      exact w_PV (q_rf _ _) (S_X7_readFact_b21 (b := b) hcJ hcF H K_l0 h_l1 (by omega) (by omega))
    · skip
      replace c_2 := i_ne c_2
      rw [L_280] at c_2
      exact w_PV (q_rf _ _) (S_X7_readFact_b45 (b := b) hcJ hcF H K_l0 h_l1 (by omega) (by omega))
set_option maxHeartbeats 1000000 in
theorem S_X7_readJoined_b66 {b : Nat → Bool} {cJ : Option Nat → Int32 → Int32 → gM → Option gM} {cF : Option Nat → Int32 → gM → Option gM} {mr : Int} {k5 : Option Nat → Int32 → Int32 → Int32 → Int32 → gM → Option gM} {m5 : Int} {l0 : Nat} {l1 : Int32} {l2 : Int32} {l4 : Int32} {M : gM} (hcJ : ∀ {l0 : Nat} {l1 : Int32} {l2 : Int32} {M : gM}, q_HT 0 M → (q_Kd M l0 (7, 0)) → (0 ≤ l1.toInt ∧ l1.toInt ≤ 3) → (0 ≤ l2.toInt ∧ l2.toInt ≤ 10) → 5 * (10 - l2.toInt) + 6 - 2 * l1.toInt < mr → Ok (cJ (some l0) l1 l2 M) (q_PV b M)) (hcF : ∀ {l0 : Nat} {l1 : Int32} {M : gM}, q_HT 0 M → (q_Kd M l0 (7, 0)) → (0 ≤ l1.toInt ∧ l1.toInt ≤ 10) → 5 * (10 - l1.toInt) + 3 < mr → Ok (cF (some l0) l1 M) (q_PV b M)) (hk5 : ∀ {l0 : Nat} {l1 : Int32} {l2 : Int32} {l3 : Int32} {l4 : Int32} {M : gM}, q_HT 0 M → (q_Kd M l0 (7, 0)) → (0 ≤ l1.toInt ∧ l1.toInt ≤ 3) → (0 ≤ l2.toInt ∧ l2.toInt ≤ 10) → (-1 ≤ l3.toInt ∧ l3.toInt ≤ 13) → (0 ≤ l4.toInt ∧ l4.toInt ≤ 401) → 5 * (10 - l2.toInt) + 6 - 2 * l1.toInt ≤ mr → 401 - l4.toInt < m5 → Ok (k5 (some l0) l1 l2 l3 l4 M) (q_PV b M)) (H : q_HT 0 M) (K_l0 : q_Kd M l0 (7, 0)) (h_l1 : 0 ≤ l1.toInt ∧ l1.toInt ≤ 3) (h_l2 : 0 ≤ l2.toInt ∧ l2.toInt ≤ 10) (h_l4 : 0 ≤ l4.toInt ∧ l4.toInt ≤ 400) (hr : 5 * (10 - l2.toInt) + 6 - 2 * l1.toInt ≤ mr) (hm5 : 401 - l4.toInt ≤ m5) : Ok (F_X7_readJoined_b66 cJ cF k5 (some l0) l1 l2 l4 M) (q_PV b M) := by
  delta F_X7_readJoined_b66
  refine d_gR (q := (9, 0)) H K_l0 (by decide) rfl (fun v1 r_v1 K_v1 => ?_)
  refine c_gO K_v1 ?_
  refine Ok_b (S_X9_kind H K_v1) (fun v3 e_v3 => ?_)
  clear e_v3
  refine Ok_b (S_X7_joinerOf H h_l1) (fun v4 e_v4 => ?_)
  replace e_v4 := q_un e_v4
  refine Ok_i (fun c_1 => ?_) (fun c_1 => ?_)
  · skip
    replace c_1 := i_eq c_1
    rw [L_m1] at c_1
    exact r_PV H (q_rf _ _)
  · skip
    replace c_1 := i_ne c_1
    rw [L_m1] at c_1
    refine c_gRs K_l0 r_v1 ?_
    refine c_gO K_v1 ?_
    refine Ok_b (S_X9_next (b := b) H K_v1) (fun M7 zM7 => ?_)
    obtain ⟨HM7, fM7⟩ := zM7
    have K_2 := (q_mo K_l0 (by decide) fM7)
    have a_3 := i_addc (x := l4) (c := 1) L_1 (by omega) (by omega)
    exact w_PV fM7 (hk5 HM7 K_2 h_l1 h_l2 e_v4 (by omega) (by omega) (by omega))
theorem S_X7_readJoined_b56 {b : Nat → Bool} {cJ : Option Nat → Int32 → Int32 → gM → Option gM} {cF : Option Nat → Int32 → gM → Option gM} {mr : Int} {k5 : Option Nat → Int32 → Int32 → Int32 → Int32 → gM → Option gM} {m5 : Int} {l0 : Nat} {l1 : Int32} {l2 : Int32} {l3 : Int32} {l4 : Int32} {M : gM} (hcJ : ∀ {l0 : Nat} {l1 : Int32} {l2 : Int32} {M : gM}, q_HT 0 M → (q_Kd M l0 (7, 0)) → (0 ≤ l1.toInt ∧ l1.toInt ≤ 3) → (0 ≤ l2.toInt ∧ l2.toInt ≤ 10) → 5 * (10 - l2.toInt) + 6 - 2 * l1.toInt < mr → Ok (cJ (some l0) l1 l2 M) (q_PV b M)) (hcF : ∀ {l0 : Nat} {l1 : Int32} {M : gM}, q_HT 0 M → (q_Kd M l0 (7, 0)) → (0 ≤ l1.toInt ∧ l1.toInt ≤ 10) → 5 * (10 - l1.toInt) + 3 < mr → Ok (cF (some l0) l1 M) (q_PV b M)) (hk5 : ∀ {l0 : Nat} {l1 : Int32} {l2 : Int32} {l3 : Int32} {l4 : Int32} {M : gM}, q_HT 0 M → (q_Kd M l0 (7, 0)) → (0 ≤ l1.toInt ∧ l1.toInt ≤ 3) → (0 ≤ l2.toInt ∧ l2.toInt ≤ 10) → (-1 ≤ l3.toInt ∧ l3.toInt ≤ 13) → (0 ≤ l4.toInt ∧ l4.toInt ≤ 401) → 5 * (10 - l2.toInt) + 6 - 2 * l1.toInt ≤ mr → 401 - l4.toInt < m5 → Ok (k5 (some l0) l1 l2 l3 l4 M) (q_PV b M)) (H : q_HT 0 M) (K_l0 : q_Kd M l0 (7, 0)) (h_l1 : 0 ≤ l1.toInt ∧ l1.toInt ≤ 3) (h_l2 : 0 ≤ l2.toInt ∧ l2.toInt ≤ 10) (h_l3 : -1 ≤ l3.toInt ∧ l3.toInt ≤ 13) (h_l4 : 0 ≤ l4.toInt ∧ l4.toInt ≤ 400) (hr : 5 * (10 - l2.toInt) + 6 - 2 * l1.toInt ≤ mr) (hm5 : 401 - l4.toInt ≤ m5) : Ok (F_X7_readJoined_b56 cJ cF k5 (some l0) l1 l2 l3 l4 M) (q_PV b M) := by
  delta F_X7_readJoined_b56
  refine Ok_i (fun c_1 => ?_) (fun c_1 => ?_)
  · skip
    replace c_1 := i_eq c_1
    rw [L_m1] at c_1
    exact w_PV (q_rf _ _) (S_X7_readJoined_b66 (b := b) hcJ hcF hk5 H K_l0 h_l1 h_l2 h_l4 (by omega) (by omega))
  · skip
    replace c_1 := i_ne c_1
    rw [L_m1] at c_1
    refine c_gO K_l0 ?_
    refine Ok_b (S_X7_put (b := b) H K_l0) (fun M2 zM2 => ?_)
    obtain ⟨HM2, fM2⟩ := zM2
    have K_2 := (q_mo K_l0 (by decide) fM2)
    exact w_PV fM2 (S_X7_readJoined_b66 (b := b) hcJ hcF hk5 HM2 K_2 h_l1 h_l2 h_l4 (by omega) (by omega))
set_option maxHeartbeats 1000000 in
theorem S_X7_readJoined_b5 {b : Nat → Bool} {cJ : Option Nat → Int32 → Int32 → gM → Option gM} {cF : Option Nat → Int32 → gM → Option gM} {mr : Int} {k5 : Option Nat → Int32 → Int32 → Int32 → Int32 → gM → Option gM} {m5 : Int} {l0 : Nat} {l1 : Int32} {l2 : Int32} {l3 : Int32} {l4 : Int32} {M : gM} (hcJ : ∀ {l0 : Nat} {l1 : Int32} {l2 : Int32} {M : gM}, q_HT 0 M → (q_Kd M l0 (7, 0)) → (0 ≤ l1.toInt ∧ l1.toInt ≤ 3) → (0 ≤ l2.toInt ∧ l2.toInt ≤ 10) → 5 * (10 - l2.toInt) + 6 - 2 * l1.toInt < mr → Ok (cJ (some l0) l1 l2 M) (q_PV b M)) (hcF : ∀ {l0 : Nat} {l1 : Int32} {M : gM}, q_HT 0 M → (q_Kd M l0 (7, 0)) → (0 ≤ l1.toInt ∧ l1.toInt ≤ 10) → 5 * (10 - l1.toInt) + 3 < mr → Ok (cF (some l0) l1 M) (q_PV b M)) (hk5 : ∀ {l0 : Nat} {l1 : Int32} {l2 : Int32} {l3 : Int32} {l4 : Int32} {M : gM}, q_HT 0 M → (q_Kd M l0 (7, 0)) → (0 ≤ l1.toInt ∧ l1.toInt ≤ 3) → (0 ≤ l2.toInt ∧ l2.toInt ≤ 10) → (-1 ≤ l3.toInt ∧ l3.toInt ≤ 13) → (0 ≤ l4.toInt ∧ l4.toInt ≤ 401) → 5 * (10 - l2.toInt) + 6 - 2 * l1.toInt ≤ mr → 401 - l4.toInt < m5 → Ok (k5 (some l0) l1 l2 l3 l4 M) (q_PV b M)) (H : q_HT 0 M) (K_l0 : q_Kd M l0 (7, 0)) (h_l1 : 0 ≤ l1.toInt ∧ l1.toInt ≤ 3) (h_l2 : 0 ≤ l2.toInt ∧ l2.toInt ≤ 10) (h_l3 : -1 ≤ l3.toInt ∧ l3.toInt ≤ 13) (h_l4 : 0 ≤ l4.toInt ∧ l4.toInt ≤ 401) (hr : 5 * (10 - l2.toInt) + 6 - 2 * l1.toInt ≤ mr) (hm5 : 401 - l4.toInt ≤ m5) : Ok (F_X7_readJoined_b5 cJ cF k5 (some l0) l1 l2 l3 l4 M) (q_PV b M) := by
  delta F_X7_readJoined_b5
  refine Ok_i (fun c_1 => ?_) (fun c_1 => ?_)
  · skip
    replace c_1 := i_lt c_1
    rw [L_400] at c_1
    exact r_PV H (q_rf _ _)
  · skip
    replace c_1 := i_nlt c_1
    rw [L_400] at c_1
    refine d_gR (q := (9, 0)) H K_l0 (by decide) rfl (fun v1 r_v1 K_v1 => ?_)
    refine c_gO K_v1 ?_
    refine Ok_b (S_X9_isFaulty H K_v1) (fun v3 e_v3 => ?_)
    replace e_v3 := q_un e_v3
    refine Ok_i (fun c_2 => ?_) (fun c_2 => ?_)
    · skip
      replace c_2 := i_eq c_2
      rw [L_0] at c_2
      refine Ok_i (fun c_3 => ?_) (fun c_3 => ?_)
      · skip
        replace c_3 := i_eq c_3
        rw [L_3] at c_3
        refine c_gO K_l0 ?_
        refine Ok_b (S_X7_readValue (b := b) H K_l0) (fun M9 zM9 => ?_)
        obtain ⟨HM9, fM9⟩ := zM9
        have K_4 := (q_mo K_l0 (by decide) fM9)
        exact w_PV fM9 (S_X7_readJoined_b56 (b := b) hcJ hcF hk5 HM9 K_4 h_l1 h_l2 h_l3 (by omega) (by omega) (by omega))
      · skip
        replace c_3 := i_ne c_3
        rw [L_3] at c_3
        refine Ok_i (fun c_5 => ?_) (fun c_5 => ?_)
        · skip
          replace c_5 := i_eq c_5
          rw [L_1] at c_5
          refine c_gO K_l0 ?_
          refine Ok_b (hcF H K_l0 h_l2 (by omega)) (fun M7 zM7 => ?_)
          obtain ⟨HM7, fM7⟩ := zM7
          have K_6 := (q_mo K_l0 (by decide) fM7)
          exact w_PV fM7 (S_X7_readJoined_b56 (b := b) hcJ hcF hk5 HM7 K_6 h_l1 h_l2 h_l3 (by omega) (by omega) (by omega))
        · skip
          replace c_5 := i_ne c_5
          rw [L_1] at c_5
          refine c_gO K_l0 ?_
          have a_7 := i_addc (x := l1) (c := (1 : Int32)) L_1 (by omega) (by omega)
          refine Ok_b (hcJ H K_l0 (by omega) h_l2 (by omega)) (fun M5 zM5 => ?_)
          obtain ⟨HM5, fM5⟩ := zM5
          have K_8 := (q_mo K_l0 (by decide) fM5)
          exact w_PV fM5 (S_X7_readJoined_b56 (b := b) hcJ hcF hk5 HM5 K_8 h_l1 h_l2 h_l3 (by omega) (by omega) (by omega))
    · skip
      replace c_2 := i_ne c_2
      rw [L_0] at c_2
      exact r_PV H (q_rf _ _)
theorem S_X7_readJoined_L5 {b : Nat → Bool} {cJ : Option Nat → Int32 → Int32 → gM → Option gM} {cF : Option Nat → Int32 → gM → Option gM} {mr : Int} (hcJ : ∀ {l0 : Nat} {l1 : Int32} {l2 : Int32} {M : gM}, q_HT 0 M → (q_Kd M l0 (7, 0)) → (0 ≤ l1.toInt ∧ l1.toInt ≤ 3) → (0 ≤ l2.toInt ∧ l2.toInt ≤ 10) → 5 * (10 - l2.toInt) + 6 - 2 * l1.toInt < mr → Ok (cJ (some l0) l1 l2 M) (q_PV b M)) (hcF : ∀ {l0 : Nat} {l1 : Int32} {M : gM}, q_HT 0 M → (q_Kd M l0 (7, 0)) → (0 ≤ l1.toInt ∧ l1.toInt ≤ 10) → 5 * (10 - l1.toInt) + 3 < mr → Ok (cF (some l0) l1 M) (q_PV b M)) : ∀ (n : Nat) {l0 : Nat} {l1 : Int32} {l2 : Int32} {l3 : Int32} {l4 : Int32} {M : gM}, q_HT 0 M → (q_Kd M l0 (7, 0)) → (0 ≤ l1.toInt ∧ l1.toInt ≤ 3) → (0 ≤ l2.toInt ∧ l2.toInt ≤ 10) → (-1 ≤ l3.toInt ∧ l3.toInt ≤ 13) → (0 ≤ l4.toInt ∧ l4.toInt ≤ 401) → 5 * (10 - l2.toInt) + 6 - 2 * l1.toInt ≤ mr → 401 - l4.toInt < (n : Int) → Ok (F_X7_readJoined_L5 cJ cF n (some l0) l1 l2 l3 l4 M) (q_PV b M) := by
  intro n
  induction n with
  | zero =>
    intro l0 l1 l2 l3 l4 M H K_l0 h_l1 h_l2 h_l3 h_l4 hr hm
    exfalso
    omega
  | succ n ih =>
    intro l0 l1 l2 l3 l4 M H K_l0 h_l1 h_l2 h_l3 h_l4 hr hm
    exact S_X7_readJoined_b5 (b := b) (m5 := 401 - l4.toInt) hcJ hcF (fun H K_l0 h_l1 h_l2 h_l3 h_l4 hr hmz => ih H K_l0 h_l1 h_l2 h_l3 h_l4 hr (by omega)) H K_l0 h_l1 h_l2 h_l3 h_l4 hr (Int.le_refl _)
theorem S_X7_readJoined_b0 {b : Nat → Bool} {cJ : Option Nat → Int32 → Int32 → gM → Option gM} {cF : Option Nat → Int32 → gM → Option gM} {mr : Int} {l0 : Nat} {l1 : Int32} {l2 : Int32} {M : gM} (hcJ : ∀ {l0 : Nat} {l1 : Int32} {l2 : Int32} {M : gM}, q_HT 0 M → (q_Kd M l0 (7, 0)) → (0 ≤ l1.toInt ∧ l1.toInt ≤ 3) → (0 ≤ l2.toInt ∧ l2.toInt ≤ 10) → 5 * (10 - l2.toInt) + 6 - 2 * l1.toInt < mr → Ok (cJ (some l0) l1 l2 M) (q_PV b M)) (hcF : ∀ {l0 : Nat} {l1 : Int32} {M : gM}, q_HT 0 M → (q_Kd M l0 (7, 0)) → (0 ≤ l1.toInt ∧ l1.toInt ≤ 10) → 5 * (10 - l1.toInt) + 3 < mr → Ok (cF (some l0) l1 M) (q_PV b M)) (H : q_HT 0 M) (K_l0 : q_Kd M l0 (7, 0)) (h_l1 : 0 ≤ l1.toInt ∧ l1.toInt ≤ 3) (h_l2 : 0 ≤ l2.toInt ∧ l2.toInt ≤ 10) (hr : 5 * (10 - l2.toInt) + 6 - 2 * l1.toInt ≤ mr) : Ok (F_X7_readJoined_b0 cJ cF (some l0) l1 l2 M) (q_PV b M) := by
  delta F_X7_readJoined_b0
  exact w_PV (q_rf _ _) (S_X7_readJoined_L5 (b := b) hcJ hcF g_fuel H K_l0 h_l1 h_l2 (by decide) (by decide) (by omega) (q_fu (by rw [L_0]; omega)))
theorem S_rec {b : Nat → Bool} : ∀ (n : Nat), (∀ {l0 : Nat} {l1 : Int32} {l2 : Int32} {M : gM}, q_HT 0 M → (q_Kd M l0 (7, 0)) → (0 ≤ l1.toInt ∧ l1.toInt ≤ 3) → (0 ≤ l2.toInt ∧ l2.toInt ≤ 10) → 5 * (10 - l2.toInt) + 6 - 2 * l1.toInt < (n : Int) → Ok ((F_rec n).1 (some l0) l1 l2 M) (q_PV b M)) ∧ (∀ {l0 : Nat} {l1 : Int32} {M : gM}, q_HT 0 M → (q_Kd M l0 (7, 0)) → (0 ≤ l1.toInt ∧ l1.toInt ≤ 10) → 5 * (10 - l1.toInt) + 3 < (n : Int) → Ok ((F_rec n).2 (some l0) l1 M) (q_PV b M)) := by
  intro n
  induction n with
  | zero =>
    refine ⟨fun H K h1 h2 hr => ?_, fun H K h hr => ?_⟩
    · exfalso; omega
    · exfalso; omega
  | succ n ih =>
    refine ⟨fun H K h1 h2 hr => ?_, fun H K h hr => ?_⟩
    · exact S_X7_readJoined_b0 (mr := (n : Int)) ih.1 ih.2 H K h1 h2 (by omega)
    · exact S_X7_readFact_b0 (mr := (n : Int)) ih.1 ih.2 H K h (by omega)
theorem S_X7_readJoined {b : Nat → Bool} {l0 : Nat} {l1 l2 : Int32} {M : gM} (H : q_HT 0 M) (K_l0 : q_Kd M l0 (7, 0)) (h1 : 0 ≤ l1.toInt ∧ l1.toInt ≤ 3) (h2 : 0 ≤ l2.toInt ∧ l2.toInt ≤ 10) : Ok (F_X7_readJoined (some l0) l1 l2 M) (q_PV b M) := (S_rec 60).1 H K_l0 h1 h2 (by omega)
theorem S_X7_readClause_b108 {b : Nat → Bool} {l0 : Nat} {M : gM} (H : q_HT 0 M) (K_l0 : q_Kd M l0 (7, 0)) : Ok (F_X7_readClause_b108 (some l0) M) (q_PV b M) := by
  delta F_X7_readClause_b108
  refine c_gO K_l0 ?_
  refine Ok_b (S_X7_mark (b := b) H K_l0) (fun M2 zM2 => ?_)
  obtain ⟨HM2, fM2⟩ := zM2
  exact r_PV HM2 fM2
set_option maxHeartbeats 1000000 in
theorem S_X7_readClause_b0 {b : Nat → Bool} {l0 : Nat} {l1 : Int32} {M : gM} (H : q_HT 0 M) (K_l0 : q_Kd M l0 (7, 0)) (h_l1 : 1 ≤ l1.toInt ∧ l1.toInt ≤ 13) : Ok (F_X7_readClause_b0 (some l0) l1 M) (q_PV b M) := by
  delta F_X7_readClause_b0
  refine d_gR (q := (9, 0)) H K_l0 (by decide) rfl (fun v1 r_v1 K_v1 => ?_)
  refine c_gO K_v1 ?_
  refine Ok_b (S_X9_kind H K_v1) (fun v3 e_v3 => ?_)
  clear e_v3
  refine Ok_i (fun c_1 => ?_) (fun c_1 => ?_)
  · skip
    replace c_1 := i_eq c_1
    rw [L_278] at c_1
    refine Ok_i (fun c_2 => ?_) (fun c_2 => ?_)
    · skip
      replace c_2 := i_le c_2
      rw [L_12] at c_2
      refine c_gRs K_l0 r_v1 ?_
      refine c_gO K_v1 ?_
      refine Ok_b (S_X9_next (b := b) H K_v1) (fun M6 zM6 => ?_)
      obtain ⟨HM6, fM6⟩ := zM6
      have K_3 := (q_mo K_l0 (by decide) fM6)
      refine c_gO K_3 ?_
      refine Ok_b (S_X7_mark (b := b) HM6 K_3) (fun M8 zM8 => ?_)
      obtain ⟨HM8, fM8⟩ := zM8
      have g_4 := q_tr fM6 fM8
      have K_5 := (q_mo K_3 (by decide) fM8)
      refine c_gC K_5 ?_
      refine Ok_b (S_X7_readJoined (b := b) HM8 K_5 (by decide) (by decide)) (fun M10 zM10 => ?_)
      obtain ⟨HM10, fM10⟩ := zM10
      have g_6 := q_tr g_4 fM10
      have K_7 := (q_mo K_5 (by decide) fM10)
      refine c_gC K_7 ?_
      refine Ok_b (S_X7_mark (b := b) HM10 K_7) (fun M12 zM12 => ?_)
      obtain ⟨HM12, fM12⟩ := zM12
      have g_8 := q_tr g_6 fM12
      have K_9 := (q_mo K_7 (by decide) fM12)
      refine d_gR (q := (9, 0)) HM12 K_9 (by decide) rfl (fun v13 r_v13 K_v13 => ?_)
      refine c_gO K_v13 ?_
      refine Ok_b (S_X9_isFaulty HM12 K_v13) (fun v15 e_v15 => ?_)
      replace e_v15 := q_un e_v15
      refine Ok_i (fun c_10 => ?_) (fun c_10 => ?_)
      · skip
        replace c_10 := i_eq c_10
        rw [L_0] at c_10
        refine c_gRs K_9 r_v13 ?_
        refine c_gO K_v13 ?_
        refine Ok_b (S_X9_kind HM12 K_v13) (fun v18 e_v18 => ?_)
        clear e_v18
        refine Ok_i (fun c_11 => ?_) (fun c_11 => ?_)
        · skip
          replace c_11 := i_eq c_11
          rw [L_279] at c_11
          refine c_gRs K_9 r_v13 ?_
          refine c_gO K_v13 ?_
          refine Ok_b (S_X9_next (b := b) HM12 K_v13) (fun M21 zM21 => ?_)
          obtain ⟨HM21, fM21⟩ := zM21
          have g_12 := q_tr g_8 fM21
          have K_13 := (q_mo K_9 (by decide) fM21)
          refine c_gC K_13 ?_
          refine Ok_b (S_X7_readJoined (b := b) HM21 K_13 (by decide) (by decide)) (fun M23 zM23 => ?_)
          obtain ⟨HM23, fM23⟩ := zM23
          have g_14 := q_tr g_12 fM23
          have K_15 := (q_mo K_13 (by decide) fM23)
          exact w_PV g_14 (S_X7_readClause_b108 (b := b)  HM23 K_15)
        · skip
          replace c_11 := i_ne c_11
          rw [L_279] at c_11
          exact w_PV g_8 (S_X7_readClause_b108 (b := b)  HM12 K_9)
      · skip
        replace c_10 := i_ne c_10
        rw [L_0] at c_10
        exact w_PV g_8 (S_X7_readClause_b108 (b := b)  HM12 K_9)
    · skip
      replace c_2 := i_nle c_2
      rw [L_12] at c_2
      refine c_gRs K_l0 r_v1 ?_
      refine c_gRs K_l0 r_v1 ?_
      refine c_gO K_v1 ?_
      refine Ok_b (S_X9_place H K_v1) (fun v27 e_v27 => ?_)
      clear e_v27
      refine c_gO K_v1 ?_
      refine Ok_b (S_X9_blame (b := b) H K_v1 (by decide)) (fun M29 zM29 => ?_)
      obtain ⟨HM29, fM29⟩ := zM29
      exact r_PV HM29 fM29
  · skip
    replace c_1 := i_ne c_1
    rw [L_278] at c_1
    refine c_gRs K_l0 r_v1 ?_
    refine c_gRs K_l0 r_v1 ?_
    refine c_gO K_v1 ?_
    refine Ok_b (S_X9_place H K_v1) (fun v33 e_v33 => ?_)
    clear e_v33
    refine c_gO K_v1 ?_
    refine Ok_b (S_X9_blame (b := b) H K_v1 (by decide)) (fun M35 zM35 => ?_)
    obtain ⟨HM35, fM35⟩ := zM35
    exact r_PV HM35 fM35
theorem S_X7_readClause {b : Nat → Bool} {l0 : Nat} {l1 : Int32} {M : gM} (H : q_HT 0 M) (K_l0 : q_Kd M l0 (7, 0)) (h_l1 : 1 ≤ l1.toInt ∧ l1.toInt ≤ 13) : Ok (F_X7_readClause (some l0) l1 M) (q_PV b M) := by
  delta F_X7_readClause
  exact w_PV (q_rf _ _) (S_X7_readClause_b0 (b := b)  H K_l0 h_l1)
theorem S_copyOf {b : Nat → Bool} {x i n : Nat} {w : Int32} {M : gM} (H : q_HT x M) (K : q_Kd M i (20, n)) (hn : n ≤ 400) (hw : 0 ≤ w.toInt ∧ w.toInt ≤ (n : Int)) : Ok (F_J7_copyOf_59c91 (some i) w M) (fun r => ∃ j m, r.1 = some j ∧ q_Kd r.2 j (20, m) ∧ m ≤ 400 ∧ q_HT x r.2 ∧ q_Fr b M r.2) := by
  delta F_J7_copyOf_59c91 F_J7_copyOf_59c91_b0
  have z0 : (0 : Int32).toInt = 0 := rfl
  refine c_aN K (by decide) (by omega) (fun v1 e1 => ?_)
  refine Ok_i (fun c => ?_) (fun c => ?_)
  · unfold clI
    rw [Option.bind_some, if_pos ⟨by rw [K.2], by rw [K.2]; exact hn⟩, Option.bind_some]
    obtain ⟨a, f, k⟩ := u_app (b := b) (M' := (M.1 ++ [(20, (g_k M i).2)], g_row M.2.1 M.1.length (M.2.1 i), g_row M.2.2.1 M.1.length (fun _ => 0), g_row M.2.2.2 M.1.length (fun _ => none))) H rfl (fun j hj => g_row_ne _ _ hj) (fun j hj => g_row_ne _ _ hj) (fun j hj => g_row_ne _ _ hj) (fun _ k => by
      rw [q_tR_none (by show 12 ≤ 20; decide) (by show 20 < 24 ∨ 27 ≤ 20; decide), q_tI_full (by show 12 ≤ 20; decide)]
      exact ⟨Or.inl (Or.inl rfl), i_rng _⟩)
    exact Ok_s ⟨_, _, rfl, k, by rw [K.2]; exact hn, a, f⟩
  · have hc := i_clamp hw.1
    unfold nwD
    rw [if_pos ⟨fun h => by have := i_lt h; omega, by omega⟩, Option.bind_some]
    obtain ⟨a, f, k⟩ := u_nwA (b := b) (t := 20) (n := w.toNatClampNeg) H (by decide)
    refine c_aN (q_mo K (Nat.le_of_ble_eq_true rfl) f) (by decide) (by omega) (fun v3 e3 => ?_)
    have m := i_min (x := w) (y := v3)
    refine c_cpI (b := b) a (q_mo K (Nat.le_of_ble_eq_true rfl) f) k (by decide) (by decide) (by omega) (by omega) (by omega) (fun M4 H4 f4 => ?_)
    exact Ok_s ⟨_, _, rfl, q_mo k (Nat.le_of_ble_eq_true rfl) f4, by omega, H4, q_tr f f4⟩
theorem S_X7_read_b55 {b : Nat → Bool} {l0 : Nat} {M : gM} (H : q_HT 0 M) (K_l0 : q_Kd M l0 (7, 0)) : Ok (F_X7_read_b55 (some l0) M) (q_PN b M (6, 0)) := by
  delta F_X7_read_b55
  refine d_gR (q := (9, 0)) H K_l0 (by decide) rfl (fun v1 r1 K1 => ?_)
  refine c_gO K1 ?_
  refine Ok_b (S_X9_isFaulty H K1) (fun v3 e3 => ?_)
  refine Ok_i (fun c => ?_) (fun c => ?_)
  · obtain ⟨H0, f0, K0⟩ := u_hole (b := b) (t := 6) (n := 0) H
    have hne : l0 ≠ M.1.length := Nat.ne_of_lt (q_kl (by rw [K_l0.2]; decide))
    have Ka := q_mo K_l0 (by decide) f0
    refine c_gR (q := (20, 400)) H0 Ka hne rfl (fun v4 r4 K4 => ?_)
    refine c_gI (lo := 0) (hi := 400) H0 Ka hne rfl (fun v5 q5 e5 => ?_)
    refine Ok_b (S_copyOf (b := b) H0 K4 (by decide) e5) (fun y z => ?_)
    obtain ⟨v6, M7⟩ := y
    obtain ⟨j6, m6, e6, K6, hm6, H7, f7⟩ := z
    dsimp only at e6 K6 H7 f7
    subst e6
    have Kb := q_mo Ka (by decide) f7
    refine c_gR (q := (20, 36)) H7 Kb hne rfl (fun v8 r8 K8 => ?_)
    refine c_gI (lo := 0) (hi := 36) H7 Kb hne rfl (fun v9 q9 e9 => ?_)
    refine Ok_b (S_copyOf (b := b) H7 K8 (by decide) e9) (fun y z => ?_)
    obtain ⟨v10, M11⟩ := y
    obtain ⟨j10, m10, e10, K10, hm10, H11, f11⟩ := z
    dsimp only at e10 K10 H11 f11
    subst e10
    have Kx := q_mo (q_mo K0 (by decide) f7) (by decide) f11
    have K6b := q_mo K6 (Nat.le_of_ble_eq_true rfl) f11
    have F0 := q_tr f0 (q_tr f7 f11)
    delta F_X6_init F_X6_init_b0
    generalize M.1.length = x at *
    have go : ∀ {k j : Nat} {M1 : gM} {β : Type} {f : gM → Option β} {Q : β → Prop}, q_HT x M1 → q_Kd M1 x (6, 0) → (∀ M', q_HT x M' → q_Fr b M1 M' → M'.2.2.2 x k = some j → (∀ a, a ≠ k → M'.2.2.2 x a = M1.2.2.2 x a) → q_Kd M' x (6, 0) → Ok (f M') Q) → Ok ((pR 6 M1 (some x) k (some j)).bind f) Q := by
      intro k j M1 β f Q H1 K1 h
      unfold pR
      rw [Option.bind_some, if_pos K1.2]
      refine h _ ?_ ?_ (by show g_up _ _ _ _ _ _ = _; simp [g_up]) (fun a ha => by show g_up _ _ _ _ _ _ = _; simp [g_up, ha]) ⟨K1.1, K1.2⟩
      · exact q_upd H1 K1 rfl (fun _ _ => rfl) (fun j hj => g_up_ne _ _ _ hj) (fun hx => absurd rfl hx)
      · exact q_updF H1 K1 (by decide) rfl (fun _ _ => rfl) (fun _ _ => rfl) (fun j hj => g_up_ne _ _ _ hj) (fun _ _ => rfl) (fun k2 hk2 => by unfold q_pR at hk2; cases hk2)
    refine Ok_b (P := fun M' => q_PV b M M' ∧ q_Kd M' x (6, 0)) ?_ (fun M12 z => Ok_s ⟨Or.inr ⟨x, rfl, z.2⟩, z.1⟩)
    refine go H11 Kx (fun M1 H1 f1 e1 o1 K1x => ?_)
    refine go H1 K1x (fun M2 H2 f2 e2 o2 K2x => ?_)
    have kk6 := q_mo (q_mo K6b (Nat.le_of_ble_eq_true rfl) f1) (Nat.le_of_ble_eq_true rfl) f2
    have kk10 := q_mo (q_mo K10 (Nat.le_of_ble_eq_true rfl) f1) (Nat.le_of_ble_eq_true rfl) f2
    refine Ok_s ⟨⟨q_fill H2 (fun k => ?_), q_tr F0 (q_tr f1 f2)⟩, K2x⟩
    rw [K2x.2]
    refine ⟨?_, ?_⟩
    · match k with
      | 0 =>
        rw [o2 0 (by decide), e1]
        exact Or.inr (Or.inr ⟨rfl, _, _, rfl, kk6, hm6⟩)
      | 1 =>
        rw [e2]
        exact Or.inr (Or.inr ⟨rfl, _, _, rfl, kk10, hm10⟩)
      | k + 2 => exact Or.inl (Or.inl rfl)
    · have ef : q_tI (6, 0) k = (-2147483648, 2147483647) := by
        unfold q_tI
        dsimp only
        split <;> first | rfl | (simp at *; done) | (exfalso; simp_all; done)
      rw [ef]
      exact i_rng _
  · exact r_PN0 H (q_rf _ _)
set_option maxHeartbeats 1000000 in
theorem S_X7_read_b26 {b : Nat → Bool} {k26 : Option Nat → Int32 → Int32 → gM → Option ((Option Nat) × gM)} {m26 : Int} {l0 : Nat} {l1 : Int32} {l2 : Int32} {M : gM} (hk26 : ∀ {l0 : Nat} {l1 : Int32} {l2 : Int32} {M : gM}, q_HT 0 M → (q_Kd M l0 (7, 0)) → (0 ≤ l1.toInt ∧ l1.toInt ≤ 1) → (1 ≤ l2.toInt ∧ l2.toInt ≤ 14) → 14 - l2.toInt < m26 → Ok (k26 (some l0) l1 l2 M) (q_PN b M (6, 0))) (H : q_HT 0 M) (K_l0 : q_Kd M l0 (7, 0)) (h_l1 : 0 ≤ l1.toInt ∧ l1.toInt ≤ 1) (h_l2 : 1 ≤ l2.toInt ∧ l2.toInt ≤ 14) (hm26 : 14 - l2.toInt ≤ m26) : Ok (F_X7_read_b26 k26 (some l0) l1 l2 M) (q_PN b M (6, 0)) := by
  delta F_X7_read_b26
  refine Ok_i (fun c_1 => ?_) (fun c_1 => ?_)
  · skip
    replace c_1 := i_lt c_1
    rw [L_13] at c_1
    exact w_PN (q_rf _ _) (S_X7_read_b55 (b := b)  H K_l0)
  · skip
    replace c_1 := i_nlt c_1
    rw [L_13] at c_1
    refine Ok_i (fun c_2 => ?_) (fun c_2 => ?_)
    · skip
      replace c_2 := i_eq c_2
      rw [L_0] at c_2
      exact w_PN (q_rf _ _) (S_X7_read_b55 (b := b)  H K_l0)
    · skip
      replace c_2 := i_ne c_2
      rw [L_0] at c_2
      refine c_gO K_l0 ?_
      refine Ok_b (S_X7_readClause (b := b) H K_l0 (by omega)) (fun M2 zM2 => ?_)
      obtain ⟨HM2, fM2⟩ := zM2
      have K_3 := (q_mo K_l0 (by decide) fM2)
      refine d_gR (q := (9, 0)) HM2 K_3 (by decide) rfl (fun v3 r_v3 K_v3 => ?_)
      refine c_gO K_v3 ?_
      refine Ok_b (S_X9_goesOn (b := b) HM2 K_v3) (fun yM6 zM6 => ?_)
      obtain ⟨v5, M6⟩ := yM6
      obtain ⟨e_v5, HM6, fM6⟩ := zM6
      try dsimp only at e_v5 HM6 fM6
      have g_4 := q_tr fM2 fM6
      have K_5 := (q_mo K_3 (by decide) fM6)
      have a_6 := i_addc (x := l2) (c := 1) L_1 (by omega) (by omega)
      exact w_PN g_4 (hk26 HM6 K_5 e_v5 (by omega) (by omega))
theorem S_X7_read_L26 {b : Nat → Bool} : ∀ (n : Nat) {l0 : Nat} {l1 : Int32} {l2 : Int32} {M : gM}, q_HT 0 M → (q_Kd M l0 (7, 0)) → (0 ≤ l1.toInt ∧ l1.toInt ≤ 1) → (1 ≤ l2.toInt ∧ l2.toInt ≤ 14) → 14 - l2.toInt < (n : Int) → Ok (F_X7_read_L26 n (some l0) l1 l2 M) (q_PN b M (6, 0)) := by
  intro n
  induction n with
  | zero =>
    intro l0 l1 l2 M H K_l0 h_l1 h_l2  hm
    exfalso
    omega
  | succ n ih =>
    intro l0 l1 l2 M H K_l0 h_l1 h_l2  hm
    exact S_X7_read_b26 (b := b) (m26 := 14 - l2.toInt) (fun H K_l0 h_l1 h_l2  hmz => ih H K_l0 h_l1 h_l2  (by omega)) H K_l0 h_l1 h_l2  (Int.le_refl _)
theorem S_X7_read_b0 {b : Nat → Bool} {l0 : Nat} {M : gM} (H : q_HT 0 M) (K_l0 : q_Kd M l0 (7, 0)) : Ok (F_X7_read_b0 (some l0) M) (q_PN b M (6, 0)) := by
  delta F_X7_read_b0
  refine d_gR (q := (9, 0)) H K_l0 (by decide) rfl (fun v1 r_v1 K_v1 => ?_)
  refine c_gO K_v1 ?_
  refine Ok_b (S_X9_split (b := b) H K_v1) (fun M3 zM3 => ?_)
  obtain ⟨HM3, fM3⟩ := zM3
  have K_1 := (q_mo K_l0 (by decide) fM3)
  refine c_pI (b := b) (lo := 0) (hi := 400) HM3 K_1 (by decide) rfl (by decide) rfl (fun M4 HM4 fM4 q_M4 o_M4 rr_M4 => ?_)
  have g_2 := q_tr fM3 fM4
  have K_3 := (q_mo K_1 (by decide) fM4)
  refine c_pI (b := b) (lo := 0) (hi := 36) HM4 K_3 (by decide) rfl (by decide) rfl (fun M5 HM5 fM5 q_M5 o_M5 rr_M5 => ?_)
  have q_4 := (o_M5 _ _ (Or.inr (by decide))).trans q_M4
  have g_5 := q_tr g_2 fM5
  have K_6 := (q_mo K_3 (by decide) fM5)
  refine c_pI (b := b) (lo := -2147483648) (hi := 2147483647) HM5 K_6 (by decide) rfl (i_rng _) rfl (fun M6 HM6 fM6 q_M6 o_M6 rr_M6 => ?_)
  have q_7 := (o_M6 _ _ (Or.inr (by decide))).trans q_4
  have q_8 := (o_M6 _ _ (Or.inr (by decide))).trans q_M5
  have g_9 := q_tr g_5 fM6
  have K_10 := (q_mo K_6 (by decide) fM6)
  exact w_PN g_9 (S_X7_read_L26 (b := b)  g_fuel HM6 K_10 (by decide) (by decide) (q_fu (by rw [L_1]; omega)))
theorem S_X7_read {b : Nat → Bool} {l0 : Nat} {M : gM} (H : q_HT 0 M) (K_l0 : q_Kd M l0 (7, 0)) : Ok (F_X7_read (some l0) M) (q_PN b M (6, 0)) := by
  delta F_X7_read
  exact w_PN (q_rf _ _) (S_X7_read_b0 (b := b)  H K_l0)
theorem S_X11_rule {l0 : Nat} {M : gM} (H : q_HT 0 M) (K_l0 : q_Kd M l0 (11, 0)) : Ok (F_X11_rule (some l0) M) (q_PI q_br M (-2147483648) 2147483647) := by
  delta F_X11_rule F_X11_rule_b0
  have fl : ∀ {M M' : gM}, q_Fr q_bs M M' → q_Fr q_br M M' := fun f => q_fl (fun k h => by unfold q_br at h; unfold q_bs; simp at h ⊢; exact h.2) f
  refine d_gI (lo := 0) (hi := 6) H K_l0 (by decide) rfl (fun v1 q1 e1 => ?_)
  refine d_gR (q := (25, 6)) H K_l0 (by decide) rfl (fun v2 r2 K2 => ?_)
  refine c_aN K2 (by decide) (by decide) (fun v3 e3 => ?_)
  refine Ok_i (fun c => ?_) (fun c => ?_)
  · have d := i_lt c
    refine d_gR (q := (7, 0)) H K_l0 (by decide) rfl (fun v4 r4 K4 => ?_)
    refine c_gO K4 ?_
    refine Ok_b (S_X7_read (b := q_bs) H K4) (fun y z => ?_)
    obtain ⟨v6, M7⟩ := y
    obtain ⟨e6, H7, f7⟩ := z
    dsimp only at e6 H7 f7
    have Ka := q_mo K_l0 (by decide) f7
    refine d_gR (q := (9, 0)) H7 Ka (by decide) rfl (fun v8 r8 K8 => ?_)
    refine c_pI (b := q_bs) (lo := 0) (hi := 400) H7 K8 (by decide) rfl (by decide) rfl (fun M9 H9 f9 q9 o9 rr9 => ?_)
    have f79 := q_tr f7 f9
    have Kb := q_mo Ka (by decide) f9
    have e69 := q_mN e6 (by decide) f9
    have hc : M9.2.1 l0 12 = v1 := (f79.2.2.1 l0 (q_kl (by rw [K_l0.2]; decide)) 12 (by rw [K_l0.2]; rfl)).trans q1
    rcases e69 with e | ⟨j, e, Kj⟩
    · subst e
      refine Ok_t rfl ?_
      refine d_gR (q := (9, 0)) H9 Kb (by decide) rfl (fun v16 r16 K16 => ?_)
      refine c_gIt K16 (fun v17 q17 => ?_)
      exact r_PI (i_rng _) H9 (fl f79)
    · subst e
      refine Ok_e (by simp) ?_
      refine d_gR (q := (25, 6)) H9 Kb (by decide) rfl (fun v10 r10 K10 => ?_)
      refine c_gIs Kb hc (fun v11 e11 => ?_)
      have t11 := congrArg Int32.toInt e11
      refine c_sR25 (b := q_br) H9 K10 Kj (by omega) (by omega) (fun M12 H12 f12 o12 => ?_)
      have Kc := q_mo Kb (by decide) f12
      refine c_gIs Kc ((congrFun (congrFun o12 _) 12).trans hc) (fun v13 e13 => ?_)
      have t13 := congrArg Int32.toInt e13
      have z1 : (1 : Int32).toInt = 1 := rfl
      have a1 := i_addc (x := v13) (c := (1 : Int32)) z1 (by omega) (by omega)
      refine c_pI (b := q_br) (lo := 0) (hi := 6) H12 Kc (by decide) rfl (by omega) rfl (fun M14 H14 f14 q14 o14 rr14 => ?_)
      refine c_gIt (q_mo Kc (by decide) f14) (fun v15 q15 => ?_)
      exact r_PI (i_rng _) H14 (q_tr (fl f79) (q_tr f12 f14))
  · exact r_PI (i_rng _) H (q_rf _ _)
theorem S_X11_force_b13  {M : gM} (H : q_HT 0 M) : Ok (F_X11_force_b13 M) (q_PI q_bf M (-2147483648) (2147483647)) := by
  delta F_X11_force_b13
  exact r_PI (i_rng _) H (q_rf _ _)
theorem S_X11_force_b0 {l0 : Nat} {l1 : Int32} {M : gM} (H : q_HT 0 M) (K_l0 : q_Kd M l0 (11, 0)) : Ok (F_X11_force_b0 (some l0) l1 M) (q_PI q_bf M (-2147483648) (2147483647)) := by
  delta F_X11_force_b0
  refine Ok_i (fun c_1 => ?_) (fun c_1 => ?_)
  · skip
    replace c_1 := i_lt c_1
    rw [L_m1] at c_1
    exact w_PI (q_rf _ _) (S_X11_force_b13  H) (by decide) (by decide)
  · skip
    replace c_1 := i_nlt c_1
    rw [L_m1] at c_1
    refine d_gI (lo := 0) (hi := 6) H K_l0 (by decide) rfl (fun v1 q_v1 e_v1 => ?_)
    refine Ok_i (fun c_2 => ?_) (fun c_2 => ?_)
    · skip
      replace c_2 := i_lt c_2
      refine c_gIt K_l0 (fun v2 q_v2 => ?_)
      refine c_pI (b := q_bf) (lo := -2147483648) (hi := 2147483647) H K_l0 (by decide) rfl (i_rng _) rfl (fun M3 HM3 fM3 q_M3 o_M3 rr_M3 => ?_)
      have q_3 := (o_M3 _ _ (Or.inr (by decide))).trans q_v1
      exact r_PI (i_rng _) HM3 fM3
    · skip
      replace c_2 := i_nlt c_2
      exact w_PI (q_rf _ _) (S_X11_force_b13  H) (by decide) (by decide)
theorem S_X11_force {l0 : Nat} {l1 : Int32} {M : gM} (H : q_HT 0 M) (K_l0 : q_Kd M l0 (11, 0)) : Ok (F_X11_force (some l0) l1 M) (q_PI q_bf M (-2147483648) (2147483647)) := by
  delta F_X11_force
  exact w_PI (q_rf _ _) (S_X11_force_b0  H K_l0) (by decide) (by decide)
theorem S_X8_knownBy_b36 {k5 : Option Nat → Option Nat → Int32 → Int32 → Int32 → Option Int32} {m5 : Int} {l0 : Nat} {l1 : Nat} {l2 : Int32} {l3 : Int32} {l4 : Int32} {M : gM} (hk5 : ∀ {l0 : Nat} {l1 : Nat} {l2 : Int32} {l3 : Int32} {l4 : Int32}, q_HT 0 M → (q_Kd M l0 (8, 0)) → (q_Kd M l1 (1, 0)) → (0 ≤ l2.toInt ∧ l2.toInt ≤ 6) → (0 ≤ l4.toInt ∧ l4.toInt ≤ 7) → 7 - l4.toInt < m5 → Ok (k5 (some l0) (some l1) l2 l3 l4) (q_pi (-2147483648) (2147483647))) (H : q_HT 0 M) (K_l0 : q_Kd M l0 (8, 0)) (K_l1 : q_Kd M l1 (1, 0)) (h_l2 : 0 ≤ l2.toInt ∧ l2.toInt ≤ 6) (h_l4 : 0 ≤ l4.toInt ∧ l4.toInt ≤ 6) (hm5 : 7 - l4.toInt ≤ m5) : Ok (F_X8_knownBy_b36 k5 M (some l0) (some l1) l2 l3 l4) (q_pi (-2147483648) (2147483647)) := by
  delta F_X8_knownBy_b36
  have a_1 := i_addc (x := l4) (c := 1) L_1 (by omega) (by omega)
  exact w_pi (hk5 H K_l0 K_l1 h_l2 (by omega) (by omega)) (by decide) (by decide)
theorem S_X8_knownBy_b5 {k5 : Option Nat → Option Nat → Int32 → Int32 → Int32 → Option Int32} {m5 : Int} {l0 : Nat} {l1 : Nat} {l2 : Int32} {l3 : Int32} {l4 : Int32} {M : gM} (hk5 : ∀ {l0 : Nat} {l1 : Nat} {l2 : Int32} {l3 : Int32} {l4 : Int32}, q_HT 0 M → (q_Kd M l0 (8, 0)) → (q_Kd M l1 (1, 0)) → (0 ≤ l2.toInt ∧ l2.toInt ≤ 6) → (0 ≤ l4.toInt ∧ l4.toInt ≤ 7) → 7 - l4.toInt < m5 → Ok (k5 (some l0) (some l1) l2 l3 l4) (q_pi (-2147483648) (2147483647))) (H : q_HT 0 M) (K_l0 : q_Kd M l0 (8, 0)) (K_l1 : q_Kd M l1 (1, 0)) (h_l2 : 0 ≤ l2.toInt ∧ l2.toInt ≤ 6) (h_l4 : 0 ≤ l4.toInt ∧ l4.toInt ≤ 7) (hm5 : 7 - l4.toInt ≤ m5) : Ok (F_X8_knownBy_b5 k5 M (some l0) (some l1) l2 l3 l4) (q_pi (-2147483648) (2147483647)) := by
  delta F_X8_knownBy_b5
  refine d_gI (lo := 0) (hi := 7) H K_l1 (by decide) rfl (fun v1 q_v1 e_v1 => ?_)
  refine Ok_i (fun c_1 => ?_) (fun c_1 => ?_)
  · skip
    replace c_1 := i_le c_1
    exact r_pi (i_rng _)
  · skip
    replace c_1 := i_nle c_1
    refine d_gR (q := (20, 49)) H K_l0 (by decide) rfl (fun v2 r_v2 K_v2 => ?_)
    have a_2 := i_mulR (x := l2) (c := (7 : Int32)) L_7 (by omega) (by omega)
    have a_3 := i_add (x := (l2 * (7 : Int32))) (y := l4) (by omega) (by omega)
    refine c_aI K_v2 (by omega) (by omega) (fun v3 => ?_)
    refine Ok_i (fun c_4 => ?_) (fun c_4 => ?_)
    · skip
      replace c_4 := i_le c_4
      rw [L_0] at c_4
      exact w_pi (S_X8_knownBy_b36 hk5 H K_l0 K_l1 h_l2 (by omega) (by omega)) (by decide) (by decide)
    · skip
      replace c_4 := i_nle c_4
      rw [L_0] at c_4
      exact w_pi (S_X8_knownBy_b36 hk5 H K_l0 K_l1 h_l2 (by omega) (by omega)) (by decide) (by decide)
theorem S_X8_knownBy_L5 {M : gM} : ∀ (n : Nat) {l0 : Nat} {l1 : Nat} {l2 : Int32} {l3 : Int32} {l4 : Int32}, q_HT 0 M → (q_Kd M l0 (8, 0)) → (q_Kd M l1 (1, 0)) → (0 ≤ l2.toInt ∧ l2.toInt ≤ 6) → (0 ≤ l4.toInt ∧ l4.toInt ≤ 7) → 7 - l4.toInt < (n : Int) → Ok (F_X8_knownBy_L5 M n (some l0) (some l1) l2 l3 l4) (q_pi (-2147483648) (2147483647)) := by
  intro n
  induction n with
  | zero =>
    intro l0 l1 l2 l3 l4 H K_l0 K_l1 h_l2 h_l4  hm
    exfalso
    omega
  | succ n ih =>
    intro l0 l1 l2 l3 l4 H K_l0 K_l1 h_l2 h_l4  hm
    exact S_X8_knownBy_b5 (m5 := 7 - l4.toInt) (fun H K_l0 K_l1 h_l2 h_l4  hmz => ih H K_l0 K_l1 h_l2 h_l4  (by omega)) H K_l0 K_l1 h_l2 h_l4  (Int.le_refl _)
theorem S_X8_knownBy_b0 {l0 : Nat} {l1 : Nat} {l2 : Int32} {M : gM} (H : q_HT 0 M) (K_l0 : q_Kd M l0 (8, 0)) (K_l1 : q_Kd M l1 (1, 0)) (h_l2 : 0 ≤ l2.toInt ∧ l2.toInt ≤ 6) : Ok (F_X8_knownBy_b0 M (some l0) (some l1) l2) (q_pi (-2147483648) (2147483647)) := by
  delta F_X8_knownBy_b0
  exact w_pi (S_X8_knownBy_L5  g_fuel H K_l0 K_l1 h_l2 (by decide) (q_fu (by rw [L_0]; omega))) (by decide) (by decide)
theorem S_X8_knownBy {l0 : Nat} {l1 : Nat} {l2 : Int32} {M : gM} (H : q_HT 0 M) (K_l0 : q_Kd M l0 (8, 0)) (K_l1 : q_Kd M l1 (1, 0)) (h_l2 : 0 ≤ l2.toInt ∧ l2.toInt ≤ 6) : Ok (F_X8_knownBy (some l0) (some l1) l2 M) (q_pi (-2147483648) (2147483647)) := by
  delta F_X8_knownBy
  exact w_pi (S_X8_knownBy_b0  H K_l0 K_l1 h_l2) (by decide) (by decide)
theorem S_X8_heldAs_b64 {k8 : Option Nat → Option Nat → Int32 → Int32 → Int32 → Int32 → Option Int32} {m8 : Int} {l0 : Nat} {l1 : Nat} {l2 : Int32} {l3 : Int32} {l4 : Int32} {l5 : Int32} {M : gM} (hk8 : ∀ {l0 : Nat} {l1 : Nat} {l2 : Int32} {l3 : Int32} {l4 : Int32} {l5 : Int32}, q_HT 0 M → (q_Kd M l0 (8, 0)) → (q_Kd M l1 (1, 0)) → (0 ≤ l2.toInt ∧ l2.toInt ≤ 6) → (0 ≤ l5.toInt ∧ l5.toInt ≤ 7) → 7 - l5.toInt < m8 → Ok (k8 (some l0) (some l1) l2 l3 l4 l5) (q_pi (-2147483648) (2147483647))) (H : q_HT 0 M) (K_l0 : q_Kd M l0 (8, 0)) (K_l1 : q_Kd M l1 (1, 0)) (h_l2 : 0 ≤ l2.toInt ∧ l2.toInt ≤ 6) (h_l5 : 0 ≤ l5.toInt ∧ l5.toInt ≤ 6) (hm8 : 7 - l5.toInt ≤ m8) : Ok (F_X8_heldAs_b64 k8 M (some l0) (some l1) l2 l3 l4 l5) (q_pi (-2147483648) (2147483647)) := by
  delta F_X8_heldAs_b64
  have a_1 := i_addc (x := l5) (c := 1) L_1 (by omega) (by omega)
  exact w_pi (hk8 H K_l0 K_l1 h_l2 (by omega) (by omega)) (by decide) (by decide)
set_option maxHeartbeats 1000000 in
theorem S_X8_heldAs_b8 {k8 : Option Nat → Option Nat → Int32 → Int32 → Int32 → Int32 → Option Int32} {m8 : Int} {l0 : Nat} {l1 : Nat} {l2 : Int32} {l3 : Int32} {l4 : Int32} {l5 : Int32} {M : gM} (hk8 : ∀ {l0 : Nat} {l1 : Nat} {l2 : Int32} {l3 : Int32} {l4 : Int32} {l5 : Int32}, q_HT 0 M → (q_Kd M l0 (8, 0)) → (q_Kd M l1 (1, 0)) → (0 ≤ l2.toInt ∧ l2.toInt ≤ 6) → (0 ≤ l5.toInt ∧ l5.toInt ≤ 7) → 7 - l5.toInt < m8 → Ok (k8 (some l0) (some l1) l2 l3 l4 l5) (q_pi (-2147483648) (2147483647))) (H : q_HT 0 M) (K_l0 : q_Kd M l0 (8, 0)) (K_l1 : q_Kd M l1 (1, 0)) (h_l2 : 0 ≤ l2.toInt ∧ l2.toInt ≤ 6) (h_l5 : 0 ≤ l5.toInt ∧ l5.toInt ≤ 7) (hm8 : 7 - l5.toInt ≤ m8) : Ok (F_X8_heldAs_b8 k8 M (some l0) (some l1) l2 l3 l4 l5) (q_pi (-2147483648) (2147483647)) := by
  delta F_X8_heldAs_b8
  refine d_gI (lo := 0) (hi := 7) H K_l1 (by decide) rfl (fun v1 q_v1 e_v1 => ?_)
  refine Ok_i (fun c_1 => ?_) (fun c_1 => ?_)
  · skip
    replace c_1 := i_le c_1
    refine d_gR (q := (20, 7)) H K_l1 (by decide) rfl (fun v2 r_v2 K_v2 => ?_)
    refine c_aI K_v2 (by omega) (by omega) (fun v3 => ?_)
    exact r_pi (i_rng _)
  · skip
    replace c_1 := i_nle c_1
    refine d_gR (q := (20, 49)) H K_l0 (by decide) rfl (fun v4 r_v4 K_v4 => ?_)
    have a_2 := i_mulR (x := l5) (c := (7 : Int32)) L_7 (by omega) (by omega)
    have a_3 := i_add (x := (l5 * (7 : Int32))) (y := l2) (by omega) (by omega)
    refine c_aI K_v4 (by omega) (by omega) (fun v5 => ?_)
    refine Ok_i (fun c_4 => ?_) (fun c_4 => ?_)
    · skip
      replace c_4 := i_le c_4
      rw [L_0] at c_4
      exact w_pi (S_X8_heldAs_b64 hk8 H K_l0 K_l1 h_l2 (by omega) (by omega)) (by decide) (by decide)
    · skip
      replace c_4 := i_nle c_4
      rw [L_0] at c_4
      refine d_gR (q := (20, 49)) H K_l0 (by decide) rfl (fun v6 r_v6 K_v6 => ?_)
      refine c_aI K_v6 (by omega) (by omega) (fun v7 => ?_)
      refine c_gRs K_l0 r_v6 ?_
      refine c_aI K_v6 (by omega) (by omega) (fun v9 => ?_)
      exact w_pi (S_X8_heldAs_b64 hk8 H K_l0 K_l1 h_l2 (by omega) (by omega)) (by decide) (by decide)
theorem S_X8_heldAs_L8 {M : gM} : ∀ (n : Nat) {l0 : Nat} {l1 : Nat} {l2 : Int32} {l3 : Int32} {l4 : Int32} {l5 : Int32}, q_HT 0 M → (q_Kd M l0 (8, 0)) → (q_Kd M l1 (1, 0)) → (0 ≤ l2.toInt ∧ l2.toInt ≤ 6) → (0 ≤ l5.toInt ∧ l5.toInt ≤ 7) → 7 - l5.toInt < (n : Int) → Ok (F_X8_heldAs_L8 M n (some l0) (some l1) l2 l3 l4 l5) (q_pi (-2147483648) (2147483647)) := by
  intro n
  induction n with
  | zero =>
    intro l0 l1 l2 l3 l4 l5 H K_l0 K_l1 h_l2 h_l5  hm
    exfalso
    omega
  | succ n ih =>
    intro l0 l1 l2 l3 l4 l5 H K_l0 K_l1 h_l2 h_l5  hm
    exact S_X8_heldAs_b8 (m8 := 7 - l5.toInt) (fun H K_l0 K_l1 h_l2 h_l5  hmz => ih H K_l0 K_l1 h_l2 h_l5  (by omega)) H K_l0 K_l1 h_l2 h_l5  (Int.le_refl _)
theorem S_X8_heldAs_b0 {l0 : Nat} {l1 : Nat} {l2 : Int32} {M : gM} (H : q_HT 0 M) (K_l0 : q_Kd M l0 (8, 0)) (K_l1 : q_Kd M l1 (1, 0)) (h_l2 : 0 ≤ l2.toInt ∧ l2.toInt ≤ 6) : Ok (F_X8_heldAs_b0 M (some l0) (some l1) l2) (q_pi (-2147483648) (2147483647)) := by
  delta F_X8_heldAs_b0
  exact w_pi (S_X8_heldAs_L8  g_fuel H K_l0 K_l1 h_l2 (by decide) (q_fu (by rw [L_0]; omega))) (by decide) (by decide)
theorem S_X8_heldAs {l0 : Nat} {l1 : Nat} {l2 : Int32} {M : gM} (H : q_HT 0 M) (K_l0 : q_Kd M l0 (8, 0)) (K_l1 : q_Kd M l1 (1, 0)) (h_l2 : 0 ≤ l2.toInt ∧ l2.toInt ≤ 6) : Ok (F_X8_heldAs (some l0) (some l1) l2 M) (q_pi (-2147483648) (2147483647)) := by
  delta F_X8_heldAs
  exact w_pi (S_X8_heldAs_b0  H K_l0 K_l1 h_l2) (by decide) (by decide)
theorem S_X8_holdersOf_b77 {k25 : Option Nat → Option Nat → Int32 → Int32 → Int32 → Int32 → Option Int32} {m25 : Int} {l0 : Nat} {l1 : Nat} {l2 : Int32} {l3 : Int32} {l4 : Int32} {l5 : Int32} {M : gM} (hk25 : ∀ {l0 : Nat} {l1 : Nat} {l2 : Int32} {l3 : Int32} {l4 : Int32} {l5 : Int32}, q_HT 0 M → (q_Kd M l0 (8, 0)) → (q_Kd M l1 (1, 0)) → (0 ≤ l2.toInt ∧ l2.toInt ≤ 6) → (0 ≤ l5.toInt ∧ l5.toInt ≤ 7) → 7 - l5.toInt < m25 → Ok (k25 (some l0) (some l1) l2 l3 l4 l5) (q_pi (-2147483648) (2147483647))) (H : q_HT 0 M) (K_l0 : q_Kd M l0 (8, 0)) (K_l1 : q_Kd M l1 (1, 0)) (h_l2 : 0 ≤ l2.toInt ∧ l2.toInt ≤ 6) (h_l5 : 0 ≤ l5.toInt ∧ l5.toInt ≤ 6) (hm25 : 7 - l5.toInt ≤ m25) : Ok (F_X8_holdersOf_b77 k25 M (some l0) (some l1) l2 l3 l4 l5) (q_pi (-2147483648) (2147483647)) := by
  delta F_X8_holdersOf_b77
  have a_1 := i_addc (x := l5) (c := 1) L_1 (by omega) (by omega)
  exact w_pi (hk25 H K_l0 K_l1 h_l2 (by omega) (by omega)) (by decide) (by decide)
set_option maxHeartbeats 1000000 in
theorem S_X8_holdersOf_b25 {k25 : Option Nat → Option Nat → Int32 → Int32 → Int32 → Int32 → Option Int32} {m25 : Int} {l0 : Nat} {l1 : Nat} {l2 : Int32} {l3 : Int32} {l4 : Int32} {l5 : Int32} {M : gM} (hk25 : ∀ {l0 : Nat} {l1 : Nat} {l2 : Int32} {l3 : Int32} {l4 : Int32} {l5 : Int32}, q_HT 0 M → (q_Kd M l0 (8, 0)) → (q_Kd M l1 (1, 0)) → (0 ≤ l2.toInt ∧ l2.toInt ≤ 6) → (0 ≤ l5.toInt ∧ l5.toInt ≤ 7) → 7 - l5.toInt < m25 → Ok (k25 (some l0) (some l1) l2 l3 l4 l5) (q_pi (-2147483648) (2147483647))) (H : q_HT 0 M) (K_l0 : q_Kd M l0 (8, 0)) (K_l1 : q_Kd M l1 (1, 0)) (h_l2 : 0 ≤ l2.toInt ∧ l2.toInt ≤ 6) (h_l5 : 0 ≤ l5.toInt ∧ l5.toInt ≤ 7) (hm25 : 7 - l5.toInt ≤ m25) : Ok (F_X8_holdersOf_b25 k25 M (some l0) (some l1) l2 l3 l4 l5) (q_pi (-2147483648) (2147483647)) := by
  delta F_X8_holdersOf_b25
  refine d_gI (lo := 0) (hi := 7) H K_l1 (by decide) rfl (fun v1 q_v1 e_v1 => ?_)
  refine Ok_i (fun c_1 => ?_) (fun c_1 => ?_)
  · skip
    replace c_1 := i_le c_1
    exact r_pi (i_rng _)
  · skip
    replace c_1 := i_nle c_1
    refine d_gR (q := (20, 49)) H K_l0 (by decide) rfl (fun v2 r_v2 K_v2 => ?_)
    have a_2 := i_mulR (x := l5) (c := (7 : Int32)) L_7 (by omega) (by omega)
    have a_3 := i_add (x := (l5 * (7 : Int32))) (y := l2) (by omega) (by omega)
    refine c_aI K_v2 (by omega) (by omega) (fun v3 => ?_)
    refine Ok_i (fun c_4 => ?_) (fun c_4 => ?_)
    · skip
      replace c_4 := i_le c_4
      rw [L_0] at c_4
      exact w_pi (S_X8_holdersOf_b77 hk25 H K_l0 K_l1 h_l2 (by omega) (by omega)) (by decide) (by decide)
    · skip
      replace c_4 := i_nle c_4
      rw [L_0] at c_4
      refine d_gR (q := (20, 49)) H K_l0 (by decide) rfl (fun v4 r_v4 K_v4 => ?_)
      refine c_aI K_v4 (by omega) (by omega) (fun v5 => ?_)
      refine Ok_b (S_X11_bit H) (fun v6 e_v6 => ?_)
      replace e_v6 := q_un e_v6
      refine Ok_i (fun c_5 => ?_) (fun c_5 => ?_)
      · skip
        replace c_5 := i_eq c_5
        rw [L_1] at c_5
        exact w_pi (S_X8_holdersOf_b77 hk25 H K_l0 K_l1 h_l2 (by omega) (by omega)) (by decide) (by decide)
      · skip
        replace c_5 := i_ne c_5
        rw [L_1] at c_5
        exact w_pi (S_X8_holdersOf_b77 hk25 H K_l0 K_l1 h_l2 (by omega) (by omega)) (by decide) (by decide)
theorem S_X8_holdersOf_L25 {M : gM} : ∀ (n : Nat) {l0 : Nat} {l1 : Nat} {l2 : Int32} {l3 : Int32} {l4 : Int32} {l5 : Int32}, q_HT 0 M → (q_Kd M l0 (8, 0)) → (q_Kd M l1 (1, 0)) → (0 ≤ l2.toInt ∧ l2.toInt ≤ 6) → (0 ≤ l5.toInt ∧ l5.toInt ≤ 7) → 7 - l5.toInt < (n : Int) → Ok (F_X8_holdersOf_L25 M n (some l0) (some l1) l2 l3 l4 l5) (q_pi (-2147483648) (2147483647)) := by
  intro n
  induction n with
  | zero =>
    intro l0 l1 l2 l3 l4 l5 H K_l0 K_l1 h_l2 h_l5  hm
    exfalso
    omega
  | succ n ih =>
    intro l0 l1 l2 l3 l4 l5 H K_l0 K_l1 h_l2 h_l5  hm
    exact S_X8_holdersOf_b25 (m25 := 7 - l5.toInt) (fun H K_l0 K_l1 h_l2 h_l5  hmz => ih H K_l0 K_l1 h_l2 h_l5  (by omega)) H K_l0 K_l1 h_l2 h_l5  (Int.le_refl _)
theorem S_X8_holdersOf_b0 {l0 : Nat} {l1 : Nat} {l2 : Int32} {M : gM} (H : q_HT 0 M) (K_l0 : q_Kd M l0 (8, 0)) (K_l1 : q_Kd M l1 (1, 0)) (h_l2 : 0 ≤ l2.toInt ∧ l2.toInt ≤ 6) : Ok (F_X8_holdersOf_b0 M (some l0) (some l1) l2) (q_pi (-2147483648) (2147483647)) := by
  delta F_X8_holdersOf_b0
  refine d_gR (q := (20, 7)) H K_l0 (by decide) rfl (fun v1 r_v1 K_v1 => ?_)
  refine c_aI K_v1 (by omega) (by omega) (fun v2 => ?_)
  refine Ok_i (fun c_1 => ?_) (fun c_1 => ?_)
  · skip
    replace c_1 := i_eq c_1
    rw [L_m1] at c_1
    refine c_gO K_l0 ?_
    refine Ok_b (S_X8_heldAs H K_l0 K_l1 h_l2) (fun v4 e_v4 => ?_)
    clear e_v4
    exact w_pi (S_X8_holdersOf_L25  g_fuel H K_l0 K_l1 h_l2 (by decide) (q_fu (by rw [L_0]; omega))) (by decide) (by decide)
  · skip
    replace c_1 := i_ne c_1
    rw [L_m1] at c_1
    exact r_pi (i_rng _)
theorem S_X8_holdersOf {l0 : Nat} {l1 : Nat} {l2 : Int32} {M : gM} (H : q_HT 0 M) (K_l0 : q_Kd M l0 (8, 0)) (K_l1 : q_Kd M l1 (1, 0)) (h_l2 : 0 ≤ l2.toInt ∧ l2.toInt ≤ 6) : Ok (F_X8_holdersOf (some l0) (some l1) l2 M) (q_pi (-2147483648) (2147483647)) := by
  delta F_X8_holdersOf
  exact w_pi (S_X8_holdersOf_b0  H K_l0 K_l1 h_l2) (by decide) (by decide)
theorem S_X8_heldBy_b36 {k5 : Option Nat → Option Nat → Int32 → Int32 → Int32 → Option Int32} {m5 : Int} {l0 : Nat} {l1 : Nat} {l2 : Int32} {l3 : Int32} {l4 : Int32} {M : gM} (hk5 : ∀ {l0 : Nat} {l1 : Nat} {l2 : Int32} {l3 : Int32} {l4 : Int32}, q_HT 0 M → (q_Kd M l0 (8, 0)) → (q_Kd M l1 (1, 0)) → (0 ≤ l2.toInt ∧ l2.toInt ≤ 6) → (0 ≤ l4.toInt ∧ l4.toInt ≤ 7) → 7 - l4.toInt < m5 → Ok (k5 (some l0) (some l1) l2 l3 l4) (q_pi (-2147483648) (2147483647))) (H : q_HT 0 M) (K_l0 : q_Kd M l0 (8, 0)) (K_l1 : q_Kd M l1 (1, 0)) (h_l2 : 0 ≤ l2.toInt ∧ l2.toInt ≤ 6) (h_l4 : 0 ≤ l4.toInt ∧ l4.toInt ≤ 6) (hm5 : 7 - l4.toInt ≤ m5) : Ok (F_X8_heldBy_b36 k5 M (some l0) (some l1) l2 l3 l4) (q_pi (-2147483648) (2147483647)) := by
  delta F_X8_heldBy_b36
  have a_1 := i_addc (x := l4) (c := 1) L_1 (by omega) (by omega)
  exact w_pi (hk5 H K_l0 K_l1 h_l2 (by omega) (by omega)) (by decide) (by decide)
set_option maxHeartbeats 1000000 in
theorem S_X8_heldBy_b5 {k5 : Option Nat → Option Nat → Int32 → Int32 → Int32 → Option Int32} {m5 : Int} {l0 : Nat} {l1 : Nat} {l2 : Int32} {l3 : Int32} {l4 : Int32} {M : gM} (hk5 : ∀ {l0 : Nat} {l1 : Nat} {l2 : Int32} {l3 : Int32} {l4 : Int32}, q_HT 0 M → (q_Kd M l0 (8, 0)) → (q_Kd M l1 (1, 0)) → (0 ≤ l2.toInt ∧ l2.toInt ≤ 6) → (0 ≤ l4.toInt ∧ l4.toInt ≤ 7) → 7 - l4.toInt < m5 → Ok (k5 (some l0) (some l1) l2 l3 l4) (q_pi (-2147483648) (2147483647))) (H : q_HT 0 M) (K_l0 : q_Kd M l0 (8, 0)) (K_l1 : q_Kd M l1 (1, 0)) (h_l2 : 0 ≤ l2.toInt ∧ l2.toInt ≤ 6) (h_l4 : 0 ≤ l4.toInt ∧ l4.toInt ≤ 7) (hm5 : 7 - l4.toInt ≤ m5) : Ok (F_X8_heldBy_b5 k5 M (some l0) (some l1) l2 l3 l4) (q_pi (-2147483648) (2147483647)) := by
  delta F_X8_heldBy_b5
  refine d_gI (lo := 0) (hi := 7) H K_l1 (by decide) rfl (fun v1 q_v1 e_v1 => ?_)
  refine Ok_i (fun c_1 => ?_) (fun c_1 => ?_)
  · skip
    replace c_1 := i_le c_1
    exact r_pi (i_rng _)
  · skip
    replace c_1 := i_nle c_1
    refine c_gO K_l0 ?_
    refine Ok_b (S_X8_holdersOf H K_l0 K_l1 (by omega)) (fun v3 e_v3 => ?_)
    clear e_v3
    refine Ok_b (S_X11_bit H) (fun v4 e_v4 => ?_)
    replace e_v4 := q_un e_v4
    refine Ok_i (fun c_2 => ?_) (fun c_2 => ?_)
    · skip
      replace c_2 := i_eq c_2
      rw [L_1] at c_2
      exact w_pi (S_X8_heldBy_b36 hk5 H K_l0 K_l1 h_l2 (by omega) (by omega)) (by decide) (by decide)
    · skip
      replace c_2 := i_ne c_2
      rw [L_1] at c_2
      exact w_pi (S_X8_heldBy_b36 hk5 H K_l0 K_l1 h_l2 (by omega) (by omega)) (by decide) (by decide)
theorem S_X8_heldBy_L5 {M : gM} : ∀ (n : Nat) {l0 : Nat} {l1 : Nat} {l2 : Int32} {l3 : Int32} {l4 : Int32}, q_HT 0 M → (q_Kd M l0 (8, 0)) → (q_Kd M l1 (1, 0)) → (0 ≤ l2.toInt ∧ l2.toInt ≤ 6) → (0 ≤ l4.toInt ∧ l4.toInt ≤ 7) → 7 - l4.toInt < (n : Int) → Ok (F_X8_heldBy_L5 M n (some l0) (some l1) l2 l3 l4) (q_pi (-2147483648) (2147483647)) := by
  intro n
  induction n with
  | zero =>
    intro l0 l1 l2 l3 l4 H K_l0 K_l1 h_l2 h_l4  hm
    exfalso
    omega
  | succ n ih =>
    intro l0 l1 l2 l3 l4 H K_l0 K_l1 h_l2 h_l4  hm
    exact S_X8_heldBy_b5 (m5 := 7 - l4.toInt) (fun H K_l0 K_l1 h_l2 h_l4  hmz => ih H K_l0 K_l1 h_l2 h_l4  (by omega)) H K_l0 K_l1 h_l2 h_l4  (Int.le_refl _)
theorem S_X8_heldBy_b0 {l0 : Nat} {l1 : Nat} {l2 : Int32} {M : gM} (H : q_HT 0 M) (K_l0 : q_Kd M l0 (8, 0)) (K_l1 : q_Kd M l1 (1, 0)) (h_l2 : 0 ≤ l2.toInt ∧ l2.toInt ≤ 6) : Ok (F_X8_heldBy_b0 M (some l0) (some l1) l2) (q_pi (-2147483648) (2147483647)) := by
  delta F_X8_heldBy_b0
  exact w_pi (S_X8_heldBy_L5  g_fuel H K_l0 K_l1 h_l2 (by decide) (q_fu (by rw [L_0]; omega))) (by decide) (by decide)
theorem S_X8_heldBy {l0 : Nat} {l1 : Nat} {l2 : Int32} {M : gM} (H : q_HT 0 M) (K_l0 : q_Kd M l0 (8, 0)) (K_l1 : q_Kd M l1 (1, 0)) (h_l2 : 0 ≤ l2.toInt ∧ l2.toInt ≤ 6) : Ok (F_X8_heldBy (some l0) (some l1) l2 M) (q_pi (-2147483648) (2147483647)) := by
  delta F_X8_heldBy
  exact w_pi (S_X8_heldBy_b0  H K_l0 K_l1 h_l2) (by decide) (by decide)
set_option maxHeartbeats 1000000 in
theorem S_X11_heir_b0 {l0 : Nat} {l1 : Int32} {l2 : Int32} {M : gM} (H : q_HT 0 M) (K_l0 : q_Kd M l0 (11, 0)) : Ok (F_X11_heir_b0 M (some l0) l1 l2) (q_pi (-2147483648) (2147483647)) := by
  delta F_X11_heir_b0
  refine c_gO K_l0 ?_
  refine Ok_b (S_X11_isHeir H K_l0) (fun v2 e_v2 => ?_)
  obtain ⟨e_v2, w_v2⟩ := e_v2
  refine Ok_i (fun c_1 => ?_) (fun c_1 => ?_)
  · skip
    replace c_1 := i_eq c_1
    rw [L_0] at c_1
    exact r_pi (i_rng _)
  · skip
    replace c_1 := i_ne c_1
    rw [L_0] at c_1
    have x_v2 := w_v2 (by omega)
    refine Ok_i (fun c_2 => ?_) (fun c_2 => ?_)
    · skip
      replace c_2 := i_eq c_2
      rw [L_0] at c_2
      refine d_gR (q := (8, 0)) H K_l0 (by decide) rfl (fun v3 r_v3 K_v3 => ?_)
      refine d_gR (q := (20, 7)) H K_v3 (by decide) rfl (fun v4 r_v4 K_v4 => ?_)
      refine c_aI K_v4 (by omega) (by omega) (fun v5 => ?_)
      exact r_pi (i_rng _)
    · skip
      replace c_2 := i_ne c_2
      rw [L_0] at c_2
      refine Ok_i (fun c_3 => ?_) (fun c_3 => ?_)
      · skip
        replace c_3 := i_eq c_3
        rw [L_1] at c_3
        refine d_gR (q := (1, 0)) H K_l0 (by decide) rfl (fun v6 r_v6 K_v6 => ?_)
        refine d_gR (q := (20, 7)) H K_v6 (by decide) rfl (fun v7 r_v7 K_v7 => ?_)
        refine c_aI K_v7 (by omega) (by omega) (fun v8 => ?_)
        exact r_pi (i_rng _)
      · skip
        replace c_3 := i_ne c_3
        rw [L_1] at c_3
        refine Ok_i (fun c_4 => ?_) (fun c_4 => ?_)
        · skip
          replace c_4 := i_eq c_4
          rw [L_2] at c_4
          refine d_gR (q := (1, 0)) H K_l0 (by decide) rfl (fun v9 r_v9 K_v9 => ?_)
          refine c_gIt K_v9 (fun v10 q_v10 => ?_)
          refine Ok_b (S_X11_bit H) (fun v11 e_v11 => ?_)
          replace e_v11 := q_un e_v11
          exact r_pi (i_rng _)
        · skip
          replace c_4 := i_ne c_4
          rw [L_2] at c_4
          refine Ok_i (fun c_5 => ?_) (fun c_5 => ?_)
          · skip
            replace c_5 := i_eq c_5
            rw [L_3] at c_5
            refine d_gR (q := (1, 0)) H K_l0 (by decide) rfl (fun v12 r_v12 K_v12 => ?_)
            refine d_gR (q := (20, 7)) H K_v12 (by decide) rfl (fun v13 r_v13 K_v13 => ?_)
            refine c_aI K_v13 (by omega) (by omega) (fun v14 => ?_)
            exact r_pi (i_rng _)
          · skip
            replace c_5 := i_ne c_5
            rw [L_3] at c_5
            refine Ok_i (fun c_6 => ?_) (fun c_6 => ?_)
            · skip
              replace c_6 := i_eq c_6
              rw [L_4] at c_6
              refine d_gR (q := (8, 0)) H K_l0 (by decide) rfl (fun v15 r_v15 K_v15 => ?_)
              refine d_gR (q := (1, 0)) H K_l0 (by decide) rfl (fun v16 r_v16 K_v16 => ?_)
              refine c_gO K_v15 ?_
              refine Ok_b (S_X8_knownBy H K_v15 K_v16 (by omega)) (fun v18 e_v18 => ?_)
              clear e_v18
              exact r_pi (i_rng _)
            · skip
              replace c_6 := i_ne c_6
              rw [L_4] at c_6
              refine Ok_i (fun c_7 => ?_) (fun c_7 => ?_)
              · skip
                replace c_7 := i_eq c_7
                rw [L_5] at c_7
                refine d_gR (q := (8, 0)) H K_l0 (by decide) rfl (fun v19 r_v19 K_v19 => ?_)
                refine d_gR (q := (1, 0)) H K_l0 (by decide) rfl (fun v20 r_v20 K_v20 => ?_)
                refine c_gO K_v19 ?_
                refine Ok_b (S_X8_heldBy H K_v19 K_v20 (by omega)) (fun v22 e_v22 => ?_)
                clear e_v22
                exact r_pi (i_rng _)
              · skip
                replace c_7 := i_ne c_7
                rw [L_5] at c_7
                exact r_pi (i_rng _)
