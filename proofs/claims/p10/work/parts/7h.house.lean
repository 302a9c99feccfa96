/-! house, of both: the tape is empty behind it -/
theorem C_house {M : gM} (H : q_HT 0 M) (K : q_Kd M 2 (11, 0)) (r2 : M.2.2.2 2 0 = some 131) : Ok (F_X11_house (some 2) M) (fun r => r.2.2.1 131 6 = 0) := by
  delta F_X11_house F_X11_house_b0
  refine d_gR (q := (2, 0)) H K (by decide) rfl (fun v1 r_v1 K_v1 => ?_)
  refine c_gO K_v1 ?_
  refine Ok_b (S_X2_read (b := q_bs) H K_v1) (fun yM4 zM4 => ?_)
  obtain ⟨v3, M4⟩ := yM4
  obtain ⟨e_v3, HM4, fM4⟩ := zM4
  try dsimp only at e_v3 HM4 fM4
  have K_1 := (q_mo K (by decide) fM4)
  refine d_gR (q := (9, 0)) HM4 K_1 (by decide) rfl (fun v5 r_v5 K_v5 => ?_)
  have e5 : v5 = 131 := by
    have h := fM4.2.2.2 2 (q_kl (by rw [K.2]; decide)) 0 (by rw [K.2]; rfl)
    rw [r_v5, r2] at h
    exact Option.some.inj h
  subst e5
  refine c_pI (b := q_bs) (lo := 0) (hi := 400) HM4 K_v5 (by decide) rfl (by decide) rfl (fun M6 HM6 fM6 q_M6 o_M6 rr_M6 => ?_)
  have r_2 := (congrFun (congrFun rr_M6 _) 0).trans r_v5
  have K_6 := (q_mo K_v5 (by decide) fM6)
  have fin : ∀ {M' : gM}, q_Fr q_ba M6 M' → M'.2.1 131 6 = 0 := fun f => (f.2.2.1 131 (q_kl (by rw [K_6.2]; decide)) 6 (by rw [K_6.2]; rfl)).trans q_M6
  rcases (q_mN e_v3 (by decide) fM6) with w_4 | ⟨v3_p, w_4, KN_v3⟩
  · subst w_4
    refine Ok_t rfl ?_
    have K_5 := (q_mo K_1 (by decide) fM6)
    refine c_gRs K_5 r_2 ?_
    refine c_gIt K_6 (fun v19 q_v19 => ?_)
    exact Ok_s q_M6
  · subst w_4
    refine Ok_e (by simp) ?_
    have K_7 := (q_mo K_1 (by decide) fM6)
    refine c_pR (b := q_ba) HM6 K_7 (by decide) rfl KN_v3 rfl (fun M7 HM7 fM7 => ?_)
    have K_9 := (q_mo K_7 (by decide) fM7)
    refine d_gR (q := (8, 0)) HM7 K_9 (by decide) rfl (fun v8 r_v8 K_v8 => ?_)
    refine d_gR (q := (2, 0)) HM7 K_9 (by decide) rfl (fun v9 r_v9 K_v9 => ?_)
    refine d_gR (q := (8, 0)) HM7 K_v9 (by decide) rfl (fun v10 r_v10 K_v10 => ?_)
    refine c_gO K_v8 ?_
    refine Ok_b (S_X8_copy (b := q_ba) HM7 K_v8 K_v10) (fun M12 zM12 => ?_)
    obtain ⟨HM12, fM12⟩ := zM12
    have g_10 := q_tr fM7 fM12
    have K_11 := (q_mo K_9 (by decide) fM12)
    refine d_gR (q := (4, 0)) HM12 K_11 (by decide) rfl (fun v13 r_v13 K_v13 => ?_)
    refine c_gO K_v13 ?_
    refine Ok_b (S_X4_clear (b := q_ba) HM12 K_v13) (fun M15 zM15 => ?_)
    obtain ⟨HM15, fM15⟩ := zM15
    have g_12 := q_tr g_10 fM15
    have K_13 := (q_mo K_11 (by decide) fM15)
    refine d_gR (q := (1, 0)) HM15 K_13 (by decide) rfl (fun v16 r_v16 K_v16 => ?_)
    refine d_gI (lo := 0) (hi := 7) HM15 K_v16 (by decide) rfl (fun v17 q_v17 e_v17 => ?_)
    exact Ok_s (fin g_12)
theorem E_house_L44 : ∀ (n k : Nat) {l1 : Int32} {M : gM}, y_HT M → M.2.1 175 1 = 0 → l1.toInt = (k : Int) → k ≤ 157 → 157 - k < n → Ok (F_X12_house_L44 n (some 175) l1 M) (fun r => r.2.2.1 175 1 = 0) := by
  intro n
  induction n with
  | zero => intro k l1 M H G h h1 h2; omega
  | succ n ih =>
    intro k l1 M H G h h1 h2
    show Ok (F_X12_house_b44 (F_X12_house_L44 n) (some 175) l1 M) _
    have z : (157 : Int32).toInt = 157 := rfl
    delta F_X12_house_b44
    refine Ok_i (fun c => ?_) (fun c => ?_)
    · rw [e_pI H, Option.bind_some]
      obtain ⟨H1, f1⟩ := y_set (M' := mI M 175 25 (0 : Int32)) (S := h_C) H (i := 175) (k := 25) (by decide) rfl rfl y_mI1 (fun j a hj => y_mI2 hj) rfl (y_in (lo := 0) (hi := 20) rfl (by decide)) (by decide)
      rw [e_gR H1 (w := 185) rfl (by decide), Option.bind_some, e_aI H1 (t := 20) (i := 185) (n := 157) rfl (by decide) (by decide) (by decide), Option.bind_some]
      exact Ok_s ((mI_ne (Or.inr (by decide))).trans G)
    · have c' := i_nle c
      have cl : l1.toNatClampNeg = k := i_cl h
      rw [e_gR H (w := 185) rfl (by decide), Option.bind_some, e_gR H (w := 181) rfl (by decide), Option.bind_some, e_aI H (t := 20) (i := 181) (n := 157) rfl (by decide) (by omega) (by omega), Option.bind_some, e_sI H (i := 185) (n := 157) rfl (by omega) (by omega), Option.bind_some, cl]
      obtain ⟨H1, f1⟩ := y_set (M' := mI M 185 k (M.2.1 181 k)) (S := h_C) H (i := 185) (k := k) (by decide) rfl rfl y_mI1 (fun j a hj => y_mI2 hj) rfl (H.2.1 181 (by decide) k) (show Nat.testBit h_C 50 = true by decide)
      refine ih (k + 1) H1 ((mI_ne (Or.inl (by decide))).trans G) ?_ (by omega) (by omega)
      rw [n_inc h (by omega), i_ofNat (by omega)]
theorem Ok_r {α : Type} {o : Option α} {P : α → Prop} (h : Ok o P) : Ok o (fun a => P a ∧ o = some a) := by
  obtain ⟨a, e, p⟩ := h
  exact ⟨a, e, p, e⟩
theorem E_house_L8 : ∀ (n k : Nat) {l1 : Int32} {M : gM}, y_HT M → M.2.1 175 11 = 6 → l1.toInt = (k : Int) → k ≤ 10 → 10 - k < n → Ok (F_X12_house_L8 n (some 175) l1 M) (fun r => r.2.2.1 175 1 = 0) := by
  intro n
  induction n with
  | zero => intro k l1 M H t h h1 h2; omega
  | succ n ih =>
    intro k l1 M H t h h1 h2
    show Ok (F_X12_house_b8 (F_X12_house_L8 n) (some 175) l1 M) _
    have z : (10 : Int32).toInt = 10 := rfl
    delta F_X12_house_b8
    refine Ok_i (fun c => ?_) (fun c => ?_)
    · rw [e_gO H, Option.bind_some]
      refine Ok_b (Ok_r (P_readsAllH H t)) (fun y q => ?_)
      obtain ⟨v2, M3⟩ := y
      obtain ⟨⟨H3, F3⟩, er⟩ := q
      have e1 : M3.2.1 175 1 = 0 := E_rd_e er
      dsimp only at H3 ⊢
      refine Ok_i (fun _ => ?_) (fun _ => ?_)
      · rw [e_gI H3, Option.bind_some]
        exact Ok_s e1
      · exact E_house_L44 _ 0 H3 e1 rfl (by omega) (n_fu (by omega))
    · have c' := i_nle c
      have cl : l1.toNatClampNeg = k := i_cl h
      rw [e_gR H (w := 181) rfl (by decide), Option.bind_some, e_sI H (i := 181) (n := 157) rfl (by omega) (by omega), Option.bind_some, cl]
      obtain ⟨H1, f1⟩ := y_set (M' := mI M 181 k (0 : Int32)) (S := h_C) H (i := 181) (k := k) (v := 0) (by decide) rfl rfl y_mI1 (fun j a hj => y_mI2 hj) rfl (by
        show y_rg (y_tS k) 0
        unfold y_tS
        split
        · exact ⟨by decide, by decide⟩
        · split
          · exact ⟨by decide, by decide⟩
          · split <;> exact ⟨by decide, by decide⟩) (show Nat.testBit h_C 46 = true by decide)
      refine ih (k + 1) H1 ((mI_ne (Or.inl (by decide))).trans t) ?_ (by omega) (by omega)
      rw [n_inc h (by omega), i_ofNat (by omega)]
theorem E_house {M : gM} (H : y_HT M) : Ok (F_X12_house (some 175) M) (fun r => r.2.2.1 175 1 = 0) := by
  delta F_X12_house F_X12_house_b0
  rw [e_pI H, Option.bind_some]
  obtain ⟨H1, f1⟩ := y_set (M' := mI M 175 11 (6 : Int32)) (S := h_C) H (i := 175) (k := 11) (by decide) rfl rfl y_mI1 (fun j a hj => y_mI2 hj) rfl (y_in (lo := 0) (hi := 6) rfl (by decide)) (by decide)
  exact E_house_L8 _ 0 H1 y_mI1 rfl (by omega) (n_fu (by omega))
