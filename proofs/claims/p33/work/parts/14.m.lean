/-! ForgetHeirs$Reckoner.<init>()V -/
theorem d_X5_init_0 : decode cX5_init 0 = .ok (.aload_n 0, 1) := by decide +kernel
theorem d_X5_init_1 : decode cX5_init 1 = .ok (.invokespecial 3, 3) := by decide +kernel
theorem d_X5_init_4 : decode cX5_init 4 = .ok (.aload_n 0, 1) := by decide +kernel
theorem d_X5_init_5 : decode cX5_init 5 = .ok (.bipush 32, 2) := by decide +kernel
theorem d_X5_init_7 : decode cX5_init 7 = .ok (.newarray .long, 2) := by decide +kernel
theorem d_X5_init_9 : decode cX5_init 9 = .ok (.putfield 11, 3) := by decide +kernel
theorem d_X5_init_12 : decode cX5_init 12 = .ok (.aload_n 0, 1) := by decide +kernel
theorem d_X5_init_13 : decode cX5_init 13 = .ok (.bipush 14, 2) := by decide +kernel
theorem d_X5_init_15 : decode cX5_init 15 = .ok (.newarray .long, 2) := by decide +kernel
theorem d_X5_init_17 : decode cX5_init 17 = .ok (.putfield 17, 3) := by decide +kernel
theorem d_X5_init_20 : decode cX5_init 20 = .ok (.aload_n 0, 1) := by decide +kernel
theorem d_X5_init_21 : decode cX5_init 21 = .ok (.iconst 0, 1) := by decide +kernel
theorem d_X5_init_22 : decode cX5_init 22 = .ok (.putfield 20, 3) := by decide +kernel
theorem d_X5_init_25 : decode cX5_init 25 = .ok (.return_, 1) := by decide +kernel
abbrev X_X5_init : gX := (RX5, cX5_init, 1, none, true)
def F_X5_init_b0 (l0 : Nat) (M : gM) : Option gM :=
  (pR 5 (nw (21, 32) M) (some l0) 0 (some M.1.length)).bind fun M1 => (pR 5 (nw (21, 14) M1) (some l0) 1 (some M1.1.length)).bind fun M2 => (pI 5 M2 (some l0) 2 (0 : Int32)).bind fun M3 => some M3
theorem T_X5_init_b0 (r : gM) (l0 : Nat) (M : gM) (h : F_X5_init_b0 l0 M = some r) : GW 1 2 46 X_X5_init 0 [(0, vr (some l0))] [] M (none, r) := by
  delta F_X5_init_b0 at h
  refine GW_aload_n (X := X_X5_init) (pc := 0) d_X5_init_0 rfl 0 rfl ?_
  refine GW_objInit (X := X_X5_init) (pc := 1) ⟨m_158, g_w_objI.1, g_w_objI.2⟩ d_X5_init_1 (Nat.le_of_ble_eq_true rfl) (Nat.le_of_ble_eq_true rfl) ?_
  refine GW_aload_n (X := X_X5_init) (pc := 4) d_X5_init_4 rfl 0 rfl ?_
  refine GW_bipush (X := X_X5_init) (pc := 5) (v := 32) d_X5_init_5 (by decide) ?_
  refine GW_newa_long (X := X_X5_init) (pc := 7) (N := 32) g_w_arrc.1.2 d_X5_init_7 (by decide) (by decide) (by decide) 1 14 rfl (Nat.le_of_ble_eq_true rfl) ?_
  replace h := g_bd h
  obtain ⟨M1, hM1, h⟩ := h
  refine GW_putR (X := X_X5_init) (pc := 9) f_X5_11 d_X5_init_9 hM1 (Or.inr ⟨rfl, fi_5_0⟩) (Or.inr ⟨_, ty_5_0⟩) ?_
  refine GW_aload_n (X := X_X5_init) (pc := 12) d_X5_init_12 rfl 0 rfl ?_
  refine GW_bipush (X := X_X5_init) (pc := 13) (v := 14) d_X5_init_13 (by decide) ?_
  refine GW_newa_long (X := X_X5_init) (pc := 15) (N := 14) g_w_arrc.1.2 d_X5_init_15 (by decide) (by decide) (by decide) 0 0 rfl (Nat.le_of_ble_eq_true rfl) ?_
  replace h := g_bd h
  obtain ⟨M2, hM2, h⟩ := h
  refine GW_putR (X := X_X5_init) (pc := 17) f_X5_17 d_X5_init_17 hM2 (Or.inr ⟨rfl, fi_5_1⟩) (Or.inr ⟨_, ty_5_1⟩) ?_
  refine GW_aload_n (X := X_X5_init) (pc := 20) d_X5_init_20 rfl 0 rfl ?_
  refine GW_iconst (X := X_X5_init) (pc := 21) (v := 0) d_X5_init_21 (by decide) ?_
  replace h := g_bd h
  obtain ⟨M3, hM3, h⟩ := h
  refine GW_putI (X := X_X5_init) (pc := 22) f_X5_20 d_X5_init_22 hM3 (Or.inl fi_5_2) (Or.inl ty_5_2) ?_
  replace h := Option.some.inj h
  subst h
  exact GW_ret (X := X_X5_init) (pc := 25) d_X5_init_25 rfl trivial
def F_X5_init (l0 : Nat) (M : gM) : Option gM := F_X5_init_b0 l0 M
theorem T_X5_init (l0 : Nat) (M : gM) (r : gM) (h : F_X5_init l0 M = some r) : g_Met 1 2 46 yX5_init X_X5_init [vr (some l0)] M (none, r) :=
  g_Met_of pn_RX5 rfl (Nat.le_of_ble_eq_true rfl) (fun _ => rfl) (GW_sub [0] rfl (T_X5_init_b0 r l0 M h))
/-! ForgetHeirs$Years.<init>()V -/
theorem d_X10_init_0 : decode cX10_init 0 = .ok (.aload_n 0, 1) := by decide +kernel
theorem d_X10_init_1 : decode cX10_init 1 = .ok (.invokespecial 3, 3) := by decide +kernel
theorem d_X10_init_4 : decode cX10_init 4 = .ok (.aload_n 0, 1) := by decide +kernel
theorem d_X10_init_5 : decode cX10_init 5 = .ok (.bipush 49, 2) := by decide +kernel
theorem d_X10_init_7 : decode cX10_init 7 = .ok (.newarray .int, 2) := by decide +kernel
theorem d_X10_init_9 : decode cX10_init 9 = .ok (.putfield 9, 3) := by decide +kernel
theorem d_X10_init_12 : decode cX10_init 12 = .ok (.aload_n 0, 1) := by decide +kernel
theorem d_X10_init_13 : decode cX10_init 13 = .ok (.new 15, 3) := by decide +kernel
theorem d_X10_init_16 : decode cX10_init 16 = .ok (.dup, 1) := by decide +kernel
theorem d_X10_init_17 : decode cX10_init 17 = .ok (.invokespecial 17, 3) := by decide +kernel
theorem d_X10_init_20 : decode cX10_init 20 = .ok (.putfield 18, 3) := by decide +kernel
theorem d_X10_init_23 : decode cX10_init 23 = .ok (.return_, 1) := by decide +kernel
abbrev X_X10_init : gX := (RX10, cX10_init, 1, none, true)
def F_X10_init_b0 (l0 : Nat) (M : gM) : Option gM :=
  (pR 10 (nw (20, 49) M) (some l0) 0 (some M.1.length)).bind fun M1 => (F_X5_init M1.1.length (nw (5, 0) M1)).bind fun M2 => (pR 10 M2 (some l0) 1 (some M1.1.length)).bind fun M3 => some M3
theorem T_X10_init_b0 (r : gM) (l0 : Nat) (M : gM) (h : F_X10_init_b0 l0 M = some r) : GW 2 4 98 X_X10_init 0 [(0, vr (some l0))] [] M (none, r) := by
  delta F_X10_init_b0 at h
  refine GW_aload_n (X := X_X10_init) (pc := 0) d_X10_init_0 rfl 0 rfl ?_
  refine GW_objInit (X := X_X10_init) (pc := 1) ⟨m_152, g_w_objI.1, g_w_objI.2⟩ d_X10_init_1 (Nat.le_of_ble_eq_true rfl) (Nat.le_of_ble_eq_true rfl) ?_
  refine GW_aload_n (X := X_X10_init) (pc := 4) d_X10_init_4 rfl 0 rfl ?_
  refine GW_bipush (X := X_X10_init) (pc := 5) (v := 49) d_X10_init_5 (by decide) ?_
  refine GW_newa_int (X := X_X10_init) (pc := 7) (N := 49) g_w_arrc.1.1 d_X10_init_7 (by decide) (by decide) (by decide) 3 49 rfl (Nat.le_of_ble_eq_true rfl) ?_
  replace h := g_bd h
  obtain ⟨M1, hM1, h⟩ := h
  refine GW_putR (X := X_X10_init) (pc := 9) f_X10_9 d_X10_init_9 hM1 (Or.inr ⟨rfl, fi_10_0⟩) (Or.inr ⟨_, ty_10_0⟩) ?_
  refine GW_aload_n (X := X_X10_init) (pc := 12) d_X10_init_12 rfl 0 rfl ?_
  refine GW_new (X := X_X10_init) (pc := 13) (c := 5) g_cok5 nf_5 ⟨m_153, m_154, m_118⟩ d_X10_init_13 2 46 rfl rfl ?_
  refine GW_dup (X := X_X10_init) (pc := 16) d_X10_init_16 rfl ?_
  replace h := g_bd h
  obtain ⟨M2, hM2, h⟩ := h
  refine GW_callIN (X := X_X10_init) (pc := 17) (bc0 := 0) (bs0 := 0) (M2 := M2) (host := RX11) (T_X5_init M1.1.length (nw (5, 0) M1) M2 hM2) (Nat.le_of_ble_eq_true rfl) (Nat.le_of_ble_eq_true rfl) rfl rfl yc_X5_init (List.mem_of_getElem? (i := 1) rfl) ⟨m_156, m_118, m_157⟩ d_X10_init_17 rfl (st := [vr (some M1.1.length), vr (some l0)]) rfl (Nat.le_of_ble_eq_true rfl) (Nat.le_of_ble_eq_true rfl) (Nat.le_of_ble_eq_true rfl) ?_
  replace h := g_bd h
  obtain ⟨M3, hM3, h⟩ := h
  refine GW_putR (X := X_X10_init) (pc := 20) f_X10_18 d_X10_init_20 hM3 (Or.inr ⟨rfl, fi_10_1⟩) (Or.inl ⟨_, ty_10_1⟩) ?_
  replace h := Option.some.inj h
  subst h
  exact GW_ret (X := X_X10_init) (pc := 23) d_X10_init_23 rfl trivial
def F_X10_init (l0 : Nat) (M : gM) : Option gM := F_X10_init_b0 l0 M
theorem T_X10_init (l0 : Nat) (M : gM) (r : gM) (h : F_X10_init l0 M = some r) : g_Met 2 4 98 yX10_init X_X10_init [vr (some l0)] M (none, r) :=
  g_Met_of pn_RX10 rfl (Nat.le_of_ble_eq_true rfl) (fun _ => rfl) (GW_sub [0] rfl (T_X10_init_b0 r l0 M h))
/-! ForgetHeirs$State.<init>()V -/
theorem d_X8_init_0 : decode cX8_init 0 = .ok (.aload_n 0, 1) := by decide +kernel
theorem d_X8_init_1 : decode cX8_init 1 = .ok (.invokespecial 3, 3) := by decide +kernel
theorem d_X8_init_4 : decode cX8_init 4 = .ok (.aload_n 0, 1) := by decide +kernel
theorem d_X8_init_5 : decode cX8_init 5 = .ok (.bipush 49, 2) := by decide +kernel
theorem d_X8_init_7 : decode cX8_init 7 = .ok (.newarray .int, 2) := by decide +kernel
theorem d_X8_init_9 : decode cX8_init 9 = .ok (.putfield 9, 3) := by decide +kernel
theorem d_X8_init_12 : decode cX8_init 12 = .ok (.aload_n 0, 1) := by decide +kernel
theorem d_X8_init_13 : decode cX8_init 13 = .ok (.bipush 49, 2) := by decide +kernel
theorem d_X8_init_15 : decode cX8_init 15 = .ok (.newarray .int, 2) := by decide +kernel
theorem d_X8_init_17 : decode cX8_init 17 = .ok (.putfield 15, 3) := by decide +kernel
theorem d_X8_init_20 : decode cX8_init 20 = .ok (.aload_n 0, 1) := by decide +kernel
theorem d_X8_init_21 : decode cX8_init 21 = .ok (.bipush 7, 2) := by decide +kernel
theorem d_X8_init_23 : decode cX8_init 23 = .ok (.newarray .int, 2) := by decide +kernel
theorem d_X8_init_25 : decode cX8_init 25 = .ok (.putfield 18, 3) := by decide +kernel
theorem d_X8_init_28 : decode cX8_init 28 = .ok (.aload_n 0, 1) := by decide +kernel
theorem d_X8_init_29 : decode cX8_init 29 = .ok (.bipush 7, 2) := by decide +kernel
theorem d_X8_init_31 : decode cX8_init 31 = .ok (.newarray .int, 2) := by decide +kernel
theorem d_X8_init_33 : decode cX8_init 33 = .ok (.putfield 21, 3) := by decide +kernel
theorem d_X8_init_36 : decode cX8_init 36 = .ok (.aload_n 0, 1) := by decide +kernel
theorem d_X8_init_37 : decode cX8_init 37 = .ok (.iconst 0, 1) := by decide +kernel
theorem d_X8_init_38 : decode cX8_init 38 = .ok (.putfield 24, 3) := by decide +kernel
theorem d_X8_init_41 : decode cX8_init 41 = .ok (.aload_n 0, 1) := by decide +kernel
theorem d_X8_init_42 : decode cX8_init 42 = .ok (.iconst 0, 1) := by decide +kernel
theorem d_X8_init_43 : decode cX8_init 43 = .ok (.putfield 28, 3) := by decide +kernel
theorem d_X8_init_46 : decode cX8_init 46 = .ok (.aload_n 0, 1) := by decide +kernel
theorem d_X8_init_47 : decode cX8_init 47 = .ok (.iconst 0, 1) := by decide +kernel
theorem d_X8_init_48 : decode cX8_init 48 = .ok (.putfield 31, 3) := by decide +kernel
theorem d_X8_init_51 : decode cX8_init 51 = .ok (.return_, 1) := by decide +kernel
abbrev X_X8_init : gX := (RX8, cX8_init, 1, none, true)
def F_X8_init_b0 (l0 : Nat) (M : gM) : Option gM :=
  (pR 8 (nw (20, 49) M) (some l0) 0 (some M.1.length)).bind fun M1 => (pR 8 (nw (20, 49) M1) (some l0) 1 (some M1.1.length)).bind fun M2 => (pR 8 (nw (20, 7) M2) (some l0) 2 (some M2.1.length)).bind fun M3 => (pR 8 (nw (20, 7) M3) (some l0) 3 (some M3.1.length)).bind fun M4 => (pI 8 M4 (some l0) 4 (0 : Int32)).bind fun M5 => (pI 8 M5 (some l0) 5 (0 : Int32)).bind fun M6 => (pI 8 M6 (some l0) 6 (0 : Int32)).bind fun M7 => some M7
set_option maxHeartbeats 1000000 in
theorem T_X8_init_b0 (r : gM) (l0 : Nat) (M : gM) (h : F_X8_init_b0 l0 M = some r) : GW 1 4 112 X_X8_init 0 [(0, vr (some l0))] [] M (none, r) := by
  delta F_X8_init_b0 at h
  refine GW_aload_n (X := X_X8_init) (pc := 0) d_X8_init_0 rfl 0 rfl ?_
  refine GW_objInit (X := X_X8_init) (pc := 1) ⟨m_183, g_w_objI.1, g_w_objI.2⟩ d_X8_init_1 (Nat.le_of_ble_eq_true rfl) (Nat.le_of_ble_eq_true rfl) ?_
  refine GW_aload_n (X := X_X8_init) (pc := 4) d_X8_init_4 rfl 0 rfl ?_
  refine GW_bipush (X := X_X8_init) (pc := 5) (v := 49) d_X8_init_5 (by decide) ?_
  refine GW_newa_int (X := X_X8_init) (pc := 7) (N := 49) g_w_arrc.1.1 d_X8_init_7 (by decide) (by decide) (by decide) 3 63 rfl (Nat.le_of_ble_eq_true rfl) ?_
  replace h := g_bd h
  obtain ⟨M1, hM1, h⟩ := h
  refine GW_putR (X := X_X8_init) (pc := 9) f_X8_9 d_X8_init_9 hM1 (Or.inr ⟨rfl, fi_8_0⟩) (Or.inr ⟨_, ty_8_0⟩) ?_
  refine GW_aload_n (X := X_X8_init) (pc := 12) d_X8_init_12 rfl 0 rfl ?_
  refine GW_bipush (X := X_X8_init) (pc := 13) (v := 49) d_X8_init_13 (by decide) ?_
  refine GW_newa_int (X := X_X8_init) (pc := 15) (N := 49) g_w_arrc.1.1 d_X8_init_15 (by decide) (by decide) (by decide) 2 14 rfl (Nat.le_of_ble_eq_true rfl) ?_
  replace h := g_bd h
  obtain ⟨M2, hM2, h⟩ := h
  refine GW_putR (X := X_X8_init) (pc := 17) f_X8_15 d_X8_init_17 hM2 (Or.inr ⟨rfl, fi_8_1⟩) (Or.inr ⟨_, ty_8_1⟩) ?_
  refine GW_aload_n (X := X_X8_init) (pc := 20) d_X8_init_20 rfl 0 rfl ?_
  refine GW_bipush (X := X_X8_init) (pc := 21) (v := 7) d_X8_init_21 (by decide) ?_
  refine GW_newa_int (X := X_X8_init) (pc := 23) (N := 7) g_w_arrc.1.1 d_X8_init_23 (by decide) (by decide) (by decide) 1 7 rfl (Nat.le_of_ble_eq_true rfl) ?_
  replace h := g_bd h
  obtain ⟨M3, hM3, h⟩ := h
  refine GW_putR (X := X_X8_init) (pc := 25) f_X8_18 d_X8_init_25 hM3 (Or.inr ⟨rfl, fi_8_2⟩) (Or.inr ⟨_, ty_8_2⟩) ?_
  refine GW_aload_n (X := X_X8_init) (pc := 28) d_X8_init_28 rfl 0 rfl ?_
  refine GW_bipush (X := X_X8_init) (pc := 29) (v := 7) d_X8_init_29 (by decide) ?_
  refine GW_newa_int (X := X_X8_init) (pc := 31) (N := 7) g_w_arrc.1.1 d_X8_init_31 (by decide) (by decide) (by decide) 0 0 rfl (Nat.le_of_ble_eq_true rfl) ?_
  replace h := g_bd h
  obtain ⟨M4, hM4, h⟩ := h
  refine GW_putR (X := X_X8_init) (pc := 33) f_X8_21 d_X8_init_33 hM4 (Or.inr ⟨rfl, fi_8_3⟩) (Or.inr ⟨_, ty_8_3⟩) ?_
  refine GW_aload_n (X := X_X8_init) (pc := 36) d_X8_init_36 rfl 0 rfl ?_
  refine GW_iconst (X := X_X8_init) (pc := 37) (v := 0) d_X8_init_37 (by decide) ?_
  replace h := g_bd h
  obtain ⟨M5, hM5, h⟩ := h
  refine GW_putI (X := X_X8_init) (pc := 38) f_X8_24 d_X8_init_38 hM5 (Or.inl fi_8_4) (Or.inl ty_8_4) ?_
  refine GW_aload_n (X := X_X8_init) (pc := 41) d_X8_init_41 rfl 0 rfl ?_
  refine GW_iconst (X := X_X8_init) (pc := 42) (v := 0) d_X8_init_42 (by decide) ?_
  replace h := g_bd h
  obtain ⟨M6, hM6, h⟩ := h
  refine GW_putI (X := X_X8_init) (pc := 43) f_X8_28 d_X8_init_43 hM6 (Or.inl fi_8_5) (Or.inl ty_8_5) ?_
  refine GW_aload_n (X := X_X8_init) (pc := 46) d_X8_init_46 rfl 0 rfl ?_
  refine GW_iconst (X := X_X8_init) (pc := 47) (v := 0) d_X8_init_47 (by decide) ?_
  replace h := g_bd h
  obtain ⟨M7, hM7, h⟩ := h
  refine GW_putI (X := X_X8_init) (pc := 48) f_X8_31 d_X8_init_48 hM7 (Or.inl fi_8_6) (Or.inl ty_8_6) ?_
  replace h := Option.some.inj h
  subst h
  exact GW_ret (X := X_X8_init) (pc := 51) d_X8_init_51 rfl trivial
def F_X8_init (l0 : Nat) (M : gM) : Option gM := F_X8_init_b0 l0 M
theorem T_X8_init (l0 : Nat) (M : gM) (r : gM) (h : F_X8_init l0 M = some r) : g_Met 1 4 112 yX8_init X_X8_init [vr (some l0)] M (none, r) :=
  g_Met_of pn_RX8 rfl (Nat.le_of_ble_eq_true rfl) (fun _ => rfl) (GW_sub [0] rfl (T_X8_init_b0 r l0 M h))
/-! ForgetHeirs$Past.<init>()V -/
theorem d_X4_init_0 : decode cX4_init 0 = .ok (.aload_n 0, 1) := by decide +kernel
theorem d_X4_init_1 : decode cX4_init 1 = .ok (.invokespecial 1, 3) := by decide +kernel
theorem d_X4_init_4 : decode cX4_init 4 = .ok (.aload_n 0, 1) := by decide +kernel
theorem d_X4_init_5 : decode cX4_init 5 = .ok (.bipush 20, 2) := by decide +kernel
theorem d_X4_init_7 : decode cX4_init 7 = .ok (.anewarray 9, 3) := by decide +kernel
theorem d_X4_init_10 : decode cX4_init 10 = .ok (.putfield 11, 3) := by decide +kernel
theorem d_X4_init_13 : decode cX4_init 13 = .ok (.aload_n 0, 1) := by decide +kernel
theorem d_X4_init_14 : decode cX4_init 14 = .ok (.iconst 0, 1) := by decide +kernel
theorem d_X4_init_15 : decode cX4_init 15 = .ok (.putfield 15, 3) := by decide +kernel
theorem d_X4_init_18 : decode cX4_init 18 = .ok (.aload_n 0, 1) := by decide +kernel
theorem d_X4_init_19 : decode cX4_init 19 = .ok (.iconst 0, 1) := by decide +kernel
theorem d_X4_init_20 : decode cX4_init 20 = .ok (.putfield 19, 3) := by decide +kernel
theorem d_X4_init_23 : decode cX4_init 23 = .ok (.iconst 0, 1) := by decide +kernel
theorem d_X4_init_24 : decode cX4_init 24 = .ok (.istore_n 1, 1) := by decide +kernel
theorem d_X4_init_25 : decode cX4_init 25 = .ok (.iload_n 1, 1) := by decide +kernel
theorem d_X4_init_26 : decode cX4_init 26 = .ok (.bipush 20, 2) := by decide +kernel
theorem d_X4_init_28 : decode cX4_init 28 = .ok (.if_icmp .ge 22, 3) := by decide +kernel
theorem d_X4_init_31 : decode cX4_init 31 = .ok (.aload_n 0, 1) := by decide +kernel
theorem d_X4_init_32 : decode cX4_init 32 = .ok (.getfield 11, 3) := by decide +kernel
theorem d_X4_init_35 : decode cX4_init 35 = .ok (.iload_n 1, 1) := by decide +kernel
theorem d_X4_init_36 : decode cX4_init 36 = .ok (.new 9, 3) := by decide +kernel
theorem d_X4_init_39 : decode cX4_init 39 = .ok (.dup, 1) := by decide +kernel
theorem d_X4_init_40 : decode cX4_init 40 = .ok (.invokespecial 22, 3) := by decide +kernel
theorem d_X4_init_43 : decode cX4_init 43 = .ok (.aastore, 1) := by decide +kernel
theorem d_X4_init_44 : decode cX4_init 44 = .ok (.iinc 1 1, 3) := by decide +kernel
theorem d_X4_init_47 : decode cX4_init 47 = .ok (.goto (-22), 3) := by decide +kernel
theorem d_X4_init_50 : decode cX4_init 50 = .ok (.return_, 1) := by decide +kernel
abbrev X_X4_init : gX := (RX4, cX4_init, 2, none, true)
def F_X4_init (l0 : Nat) (M : gM) : Option gM :=
  (pR 4 (nw (24, 20) M) (some l0) 0 (some M.1.length)).bind fun M1 => (pI 4 M1 (some l0) 1 (0 : Int32)).bind fun M2 => (pI 4 M2 (some l0) 2 (0 : Int32)).bind fun M3 => (gR 4 M3 (some l0) 0).bind fun v4 => (F_X8_init M3.1.length (nw (8, 0) M3)).bind fun M5 => (sR 24 M5 v4 (0 : Int32) (some M3.1.length)).bind fun M6 => (gR 4 M6 (some l0) 0).bind fun v7 => (F_X8_init M6.1.length (nw (8, 0) M6)).bind fun M8 => (sR 24 M8 v7 (1 : Int32) (some M6.1.length)).bind fun M9 => (gR 4 M9 (some l0) 0).bind fun v10 => (F_X8_init M9.1.length (nw (8, 0) M9)).bind fun M11 => (sR 24 M11 v10 (2 : Int32) (some M9.1.length)).bind fun M12 => (gR 4 M12 (some l0) 0).bind fun v13 => (F_X8_init M12.1.length (nw (8, 0) M12)).bind fun M14 => (sR 24 M14 v13 (3 : Int32) (some M12.1.length)).bind fun M15 => (gR 4 M15 (some l0) 0).bind fun v16 => (F_X8_init M15.1.length (nw (8, 0) M15)).bind fun M17 => (sR 24 M17 v16 (4 : Int32) (some M15.1.length)).bind fun M18 => (gR 4 M18 (some l0) 0).bind fun v19 => (F_X8_init M18.1.length (nw (8, 0) M18)).bind fun M20 => (sR 24 M20 v19 (5 : Int32) (some M18.1.length)).bind fun M21 => (gR 4 M21 (some l0) 0).bind fun v22 => (F_X8_init M21.1.length (nw (8, 0) M21)).bind fun M23 => (sR 24 M23 v22 (6 : Int32) (some M21.1.length)).bind fun M24 => (gR 4 M24 (some l0) 0).bind fun v25 => (F_X8_init M24.1.length (nw (8, 0) M24)).bind fun M26 => (sR 24 M26 v25 (7 : Int32) (some M24.1.length)).bind fun M27 => (gR 4 M27 (some l0) 0).bind fun v28 => (F_X8_init M27.1.length (nw (8, 0) M27)).bind fun M29 => (sR 24 M29 v28 (8 : Int32) (some M27.1.length)).bind fun M30 => (gR 4 M30 (some l0) 0).bind fun v31 => (F_X8_init M30.1.length (nw (8, 0) M30)).bind fun M32 => (sR 24 M32 v31 (9 : Int32) (some M30.1.length)).bind fun M33 => (gR 4 M33 (some l0) 0).bind fun v34 => (F_X8_init M33.1.length (nw (8, 0) M33)).bind fun M35 => (sR 24 M35 v34 (10 : Int32) (some M33.1.length)).bind fun M36 => (gR 4 M36 (some l0) 0).bind fun v37 => (F_X8_init M36.1.length (nw (8, 0) M36)).bind fun M38 => (sR 24 M38 v37 (11 : Int32) (some M36.1.length)).bind fun M39 => (gR 4 M39 (some l0) 0).bind fun v40 => (F_X8_init M39.1.length (nw (8, 0) M39)).bind fun M41 => (sR 24 M41 v40 (12 : Int32) (some M39.1.length)).bind fun M42 => (gR 4 M42 (some l0) 0).bind fun v43 => (F_X8_init M42.1.length (nw (8, 0) M42)).bind fun M44 => (sR 24 M44 v43 (13 : Int32) (some M42.1.length)).bind fun M45 => (gR 4 M45 (some l0) 0).bind fun v46 => (F_X8_init M45.1.length (nw (8, 0) M45)).bind fun M47 => (sR 24 M47 v46 (14 : Int32) (some M45.1.length)).bind fun M48 => (gR 4 M48 (some l0) 0).bind fun v49 => (F_X8_init M48.1.length (nw (8, 0) M48)).bind fun M50 => (sR 24 M50 v49 (15 : Int32) (some M48.1.length)).bind fun M51 => (gR 4 M51 (some l0) 0).bind fun v52 => (F_X8_init M51.1.length (nw (8, 0) M51)).bind fun M53 => (sR 24 M53 v52 (16 : Int32) (some M51.1.length)).bind fun M54 => (gR 4 M54 (some l0) 0).bind fun v55 => (F_X8_init M54.1.length (nw (8, 0) M54)).bind fun M56 => (sR 24 M56 v55 (17 : Int32) (some M54.1.length)).bind fun M57 => (gR 4 M57 (some l0) 0).bind fun v58 => (F_X8_init M57.1.length (nw (8, 0) M57)).bind fun M59 => (sR 24 M59 v58 (18 : Int32) (some M57.1.length)).bind fun M60 => (gR 4 M60 (some l0) 0).bind fun v61 => (F_X8_init M60.1.length (nw (8, 0) M60)).bind fun M62 => (sR 24 M62 v61 (19 : Int32) (some M60.1.length)).bind fun M63 => some M63
set_option maxHeartbeats 40000000 in
set_option maxRecDepth 100000 in
theorem T_X4_init_b0 (r : gM) (l0 : Nat) (M : gM) (h : F_X4_init l0 M = some r) : GW 2 101 2400 X_X4_init 0 [(0, vr (some l0))] [] M (none, r) := by
  delta F_X4_init at h
  refine GW_aload_n (X := X_X4_init) (pc := 0) d_X4_init_0 rfl 0 rfl ?_
  refine GW_objInit (X := X_X4_init) (pc := 1) ⟨m_230, g_w_objI.1, g_w_objI.2⟩ d_X4_init_1 (Nat.le_of_ble_eq_true rfl) (Nat.le_of_ble_eq_true rfl) ?_
  refine GW_aload_n (X := X_X4_init) (pc := 4) d_X4_init_4 rfl 0 rfl ?_
  refine GW_bipush (X := X_X4_init) (pc := 5) (v := 20) d_X4_init_5 (by decide) ?_
  refine GW_newq (X := X_X4_init) (pc := 7) (t := 24) (N := 20) (fun _ h => h.2.1) 4 (fun _ => rfl) (fun _ _ => rfl) m_231 d_X4_init_7 (by decide) (by decide) (by decide) 100 2380 rfl (Nat.le_of_ble_eq_true rfl) ?_
  replace h := g_bd h
  obtain ⟨M1, hM1, h⟩ := h
  refine GW_putR (X := X_X4_init) (pc := 10) f_X4_11 d_X4_init_10 hM1 (Or.inr ⟨rfl, fi_4_0⟩) (Or.inr ⟨_, ty_4_0⟩) ?_
  refine GW_aload_n (X := X_X4_init) (pc := 13) d_X4_init_13 rfl 0 rfl ?_
  refine GW_iconst (X := X_X4_init) (pc := 14) (v := 0) d_X4_init_14 (by decide) ?_
  replace h := g_bd h
  obtain ⟨M2, hM2, h⟩ := h
  refine GW_putI (X := X_X4_init) (pc := 15) f_X4_15 d_X4_init_15 hM2 (Or.inl fi_4_1) (Or.inl ty_4_1) ?_
  refine GW_aload_n (X := X_X4_init) (pc := 18) d_X4_init_18 rfl 0 rfl ?_
  refine GW_iconst (X := X_X4_init) (pc := 19) (v := 0) d_X4_init_19 (by decide) ?_
  replace h := g_bd h
  obtain ⟨M3, hM3, h⟩ := h
  refine GW_putI (X := X_X4_init) (pc := 20) f_X4_19 d_X4_init_20 hM3 (Or.inl fi_4_2) (Or.inl ty_4_2) ?_
  refine GW_iconst (X := X_X4_init) (pc := 23) (v := 0) d_X4_init_23 (by decide) ?_
  refine GW_istore_n (X := X_X4_init) (pc := 24) d_X4_init_24 rfl (Nat.le_of_ble_eq_true rfl) (lv2 := [(1, vi (0 : Int32)), (0, vr (some l0))]) rfl ?_
  refine GW_iload_n (X := X_X4_init) (pc := 25) d_X4_init_25 rfl 0 rfl ?_
  refine GW_bipush (X := X_X4_init) (pc := 26) (v := 20) d_X4_init_26 (by decide) ?_
  refine GW_icmp_ge (X := X_X4_init) (pc := 28) 50 d_X4_init_28 (by decide) (fun c => absurd c (by decide)) (fun _ => ?_)
  refine GW_aload_n (X := X_X4_init) (pc := 31) d_X4_init_31 rfl 1 rfl ?_
  replace h := g_bd h
  obtain ⟨v4, hv4, h⟩ := h
  refine GW_getR (X := X_X4_init) (pc := 32) f_X4_11 d_X4_init_32 hv4 (Or.inr ⟨_, ty_4_0⟩) ?_
  refine GW_iload_n (X := X_X4_init) (pc := 35) d_X4_init_35 rfl 0 rfl ?_
  refine GW_new (X := X_X4_init) (pc := 36) (c := 8) g_cok8 nf_8 ⟨m_231, m_179, m_119⟩ d_X4_init_36 99 2373 rfl rfl ?_
  refine GW_dup (X := X_X4_init) (pc := 39) d_X4_init_39 rfl ?_
  replace h := g_bd h
  obtain ⟨M5, hM5, h⟩ := h
  refine GW_callIN (X := X_X4_init) (pc := 40) (bc0 := 95) (bs0 := 2261) (M2 := M5) (host := RX11) (T_X8_init M3.1.length (nw (8, 0) M3) M5 hM5) (Nat.le_of_ble_eq_true rfl) (Nat.le_of_ble_eq_true rfl) rfl rfl yc_X8_init (List.mem_of_getElem? (i := 3) rfl) ⟨m_181, m_119, m_182⟩ d_X4_init_40 rfl (st := [vr (some M3.1.length), vi (0 : Int32), vr v4]) rfl (Nat.le_of_ble_eq_true rfl) (Nat.le_of_ble_eq_true rfl) (Nat.le_of_ble_eq_true rfl) ?_
  replace h := g_bd h
  obtain ⟨M6, hM6, h⟩ := h
  refine GW_aast (X := X_X4_init) (pc := 43) (t := 24) (by decide) d_X4_init_43 hM6 ?_
  refine GW_iinc (j := 0) (X := X_X4_init) (pc := 44) d_X4_init_44 rfl (by decide) (Nat.le_of_ble_eq_true rfl) (lv2 := [(1, vi (1 : Int32)), (0, vr (some l0))]) rfl ?_
  refine GW_goto (X := X_X4_init) (pc := 47) 25 d_X4_init_47 (by decide) ?_
  refine GW_iload_n (X := X_X4_init) (pc := 25) d_X4_init_25 rfl 0 rfl ?_
  refine GW_bipush (X := X_X4_init) (pc := 26) (v := 20) d_X4_init_26 (by decide) ?_
  refine GW_icmp_ge (X := X_X4_init) (pc := 28) 50 d_X4_init_28 (by decide) (fun c => absurd c (by decide)) (fun _ => ?_)
  refine GW_aload_n (X := X_X4_init) (pc := 31) d_X4_init_31 rfl 1 rfl ?_
  replace h := g_bd h
  obtain ⟨v7, hv7, h⟩ := h
  refine GW_getR (X := X_X4_init) (pc := 32) f_X4_11 d_X4_init_32 hv7 (Or.inr ⟨_, ty_4_0⟩) ?_
  refine GW_iload_n (X := X_X4_init) (pc := 35) d_X4_init_35 rfl 0 rfl ?_
  refine GW_new (X := X_X4_init) (pc := 36) (c := 8) g_cok8 nf_8 ⟨m_231, m_179, m_119⟩ d_X4_init_36 94 2254 rfl rfl ?_
  refine GW_dup (X := X_X4_init) (pc := 39) d_X4_init_39 rfl ?_
  replace h := g_bd h
  obtain ⟨M8, hM8, h⟩ := h
  refine GW_callIN (X := X_X4_init) (pc := 40) (bc0 := 90) (bs0 := 2142) (M2 := M8) (host := RX11) (T_X8_init M6.1.length (nw (8, 0) M6) M8 hM8) (Nat.le_of_ble_eq_true rfl) (Nat.le_of_ble_eq_true rfl) rfl rfl yc_X8_init (List.mem_of_getElem? (i := 3) rfl) ⟨m_181, m_119, m_182⟩ d_X4_init_40 rfl (st := [vr (some M6.1.length), vi (1 : Int32), vr v7]) rfl (Nat.le_of_ble_eq_true rfl) (Nat.le_of_ble_eq_true rfl) (Nat.le_of_ble_eq_true rfl) ?_
  replace h := g_bd h
  obtain ⟨M9, hM9, h⟩ := h
  refine GW_aast (X := X_X4_init) (pc := 43) (t := 24) (by decide) d_X4_init_43 hM9 ?_
  refine GW_iinc (j := 0) (X := X_X4_init) (pc := 44) d_X4_init_44 rfl (by decide) (Nat.le_of_ble_eq_true rfl) (lv2 := [(1, vi (2 : Int32)), (0, vr (some l0))]) rfl ?_
  refine GW_goto (X := X_X4_init) (pc := 47) 25 d_X4_init_47 (by decide) ?_
  refine GW_iload_n (X := X_X4_init) (pc := 25) d_X4_init_25 rfl 0 rfl ?_
  refine GW_bipush (X := X_X4_init) (pc := 26) (v := 20) d_X4_init_26 (by decide) ?_
  refine GW_icmp_ge (X := X_X4_init) (pc := 28) 50 d_X4_init_28 (by decide) (fun c => absurd c (by decide)) (fun _ => ?_)
  refine GW_aload_n (X := X_X4_init) (pc := 31) d_X4_init_31 rfl 1 rfl ?_
  replace h := g_bd h
  obtain ⟨v10, hv10, h⟩ := h
  refine GW_getR (X := X_X4_init) (pc := 32) f_X4_11 d_X4_init_32 hv10 (Or.inr ⟨_, ty_4_0⟩) ?_
  refine GW_iload_n (X := X_X4_init) (pc := 35) d_X4_init_35 rfl 0 rfl ?_
  refine GW_new (X := X_X4_init) (pc := 36) (c := 8) g_cok8 nf_8 ⟨m_231, m_179, m_119⟩ d_X4_init_36 89 2135 rfl rfl ?_
  refine GW_dup (X := X_X4_init) (pc := 39) d_X4_init_39 rfl ?_
  replace h := g_bd h
  obtain ⟨M11, hM11, h⟩ := h
  refine GW_callIN (X := X_X4_init) (pc := 40) (bc0 := 85) (bs0 := 2023) (M2 := M11) (host := RX11) (T_X8_init M9.1.length (nw (8, 0) M9) M11 hM11) (Nat.le_of_ble_eq_true rfl) (Nat.le_of_ble_eq_true rfl) rfl rfl yc_X8_init (List.mem_of_getElem? (i := 3) rfl) ⟨m_181, m_119, m_182⟩ d_X4_init_40 rfl (st := [vr (some M9.1.length), vi (2 : Int32), vr v10]) rfl (Nat.le_of_ble_eq_true rfl) (Nat.le_of_ble_eq_true rfl) (Nat.le_of_ble_eq_true rfl) ?_
  replace h := g_bd h
  obtain ⟨M12, hM12, h⟩ := h
  refine GW_aast (X := X_X4_init) (pc := 43) (t := 24) (by decide) d_X4_init_43 hM12 ?_
  refine GW_iinc (j := 0) (X := X_X4_init) (pc := 44) d_X4_init_44 rfl (by decide) (Nat.le_of_ble_eq_true rfl) (lv2 := [(1, vi (3 : Int32)), (0, vr (some l0))]) rfl ?_
  refine GW_goto (X := X_X4_init) (pc := 47) 25 d_X4_init_47 (by decide) ?_
  refine GW_iload_n (X := X_X4_init) (pc := 25) d_X4_init_25 rfl 0 rfl ?_
  refine GW_bipush (X := X_X4_init) (pc := 26) (v := 20) d_X4_init_26 (by decide) ?_
  refine GW_icmp_ge (X := X_X4_init) (pc := 28) 50 d_X4_init_28 (by decide) (fun c => absurd c (by decide)) (fun _ => ?_)
  refine GW_aload_n (X := X_X4_init) (pc := 31) d_X4_init_31 rfl 1 rfl ?_
  replace h := g_bd h
  obtain ⟨v13, hv13, h⟩ := h
  refine GW_getR (X := X_X4_init) (pc := 32) f_X4_11 d_X4_init_32 hv13 (Or.inr ⟨_, ty_4_0⟩) ?_
  refine GW_iload_n (X := X_X4_init) (pc := 35) d_X4_init_35 rfl 0 rfl ?_
  refine GW_new (X := X_X4_init) (pc := 36) (c := 8) g_cok8 nf_8 ⟨m_231, m_179, m_119⟩ d_X4_init_36 84 2016 rfl rfl ?_
  refine GW_dup (X := X_X4_init) (pc := 39) d_X4_init_39 rfl ?_
  replace h := g_bd h
  obtain ⟨M14, hM14, h⟩ := h
  refine GW_callIN (X := X_X4_init) (pc := 40) (bc0 := 80) (bs0 := 1904) (M2 := M14) (host := RX11) (T_X8_init M12.1.length (nw (8, 0) M12) M14 hM14) (Nat.le_of_ble_eq_true rfl) (Nat.le_of_ble_eq_true rfl) rfl rfl yc_X8_init (List.mem_of_getElem? (i := 3) rfl) ⟨m_181, m_119, m_182⟩ d_X4_init_40 rfl (st := [vr (some M12.1.length), vi (3 : Int32), vr v13]) rfl (Nat.le_of_ble_eq_true rfl) (Nat.le_of_ble_eq_true rfl) (Nat.le_of_ble_eq_true rfl) ?_
  replace h := g_bd h
  obtain ⟨M15, hM15, h⟩ := h
  refine GW_aast (X := X_X4_init) (pc := 43) (t := 24) (by decide) d_X4_init_43 hM15 ?_
  refine GW_iinc (j := 0) (X := X_X4_init) (pc := 44) d_X4_init_44 rfl (by decide) (Nat.le_of_ble_eq_true rfl) (lv2 := [(1, vi (4 : Int32)), (0, vr (some l0))]) rfl ?_
  refine GW_goto (X := X_X4_init) (pc := 47) 25 d_X4_init_47 (by decide) ?_
  refine GW_iload_n (X := X_X4_init) (pc := 25) d_X4_init_25 rfl 0 rfl ?_
  refine GW_bipush (X := X_X4_init) (pc := 26) (v := 20) d_X4_init_26 (by decide) ?_
  refine GW_icmp_ge (X := X_X4_init) (pc := 28) 50 d_X4_init_28 (by decide) (fun c => absurd c (by decide)) (fun _ => ?_)
  refine GW_aload_n (X := X_X4_init) (pc := 31) d_X4_init_31 rfl 1 rfl ?_
  replace h := g_bd h
  obtain ⟨v16, hv16, h⟩ := h
  refine GW_getR (X := X_X4_init) (pc := 32) f_X4_11 d_X4_init_32 hv16 (Or.inr ⟨_, ty_4_0⟩) ?_
  refine GW_iload_n (X := X_X4_init) (pc := 35) d_X4_init_35 rfl 0 rfl ?_
  refine GW_new (X := X_X4_init) (pc := 36) (c := 8) g_cok8 nf_8 ⟨m_231, m_179, m_119⟩ d_X4_init_36 79 1897 rfl rfl ?_
  refine GW_dup (X := X_X4_init) (pc := 39) d_X4_init_39 rfl ?_
  replace h := g_bd h
  obtain ⟨M17, hM17, h⟩ := h
  refine GW_callIN (X := X_X4_init) (pc := 40) (bc0 := 75) (bs0 := 1785) (M2 := M17) (host := RX11) (T_X8_init M15.1.length (nw (8, 0) M15) M17 hM17) (Nat.le_of_ble_eq_true rfl) (Nat.le_of_ble_eq_true rfl) rfl rfl yc_X8_init (List.mem_of_getElem? (i := 3) rfl) ⟨m_181, m_119, m_182⟩ d_X4_init_40 rfl (st := [vr (some M15.1.length), vi (4 : Int32), vr v16]) rfl (Nat.le_of_ble_eq_true rfl) (Nat.le_of_ble_eq_true rfl) (Nat.le_of_ble_eq_true rfl) ?_
  replace h := g_bd h
  obtain ⟨M18, hM18, h⟩ := h
  refine GW_aast (X := X_X4_init) (pc := 43) (t := 24) (by decide) d_X4_init_43 hM18 ?_
  refine GW_iinc (j := 0) (X := X_X4_init) (pc := 44) d_X4_init_44 rfl (by decide) (Nat.le_of_ble_eq_true rfl) (lv2 := [(1, vi (5 : Int32)), (0, vr (some l0))]) rfl ?_
  refine GW_goto (X := X_X4_init) (pc := 47) 25 d_X4_init_47 (by decide) ?_
  refine GW_iload_n (X := X_X4_init) (pc := 25) d_X4_init_25 rfl 0 rfl ?_
  refine GW_bipush (X := X_X4_init) (pc := 26) (v := 20) d_X4_init_26 (by decide) ?_
  refine GW_icmp_ge (X := X_X4_init) (pc := 28) 50 d_X4_init_28 (by decide) (fun c => absurd c (by decide)) (fun _ => ?_)
  refine GW_aload_n (X := X_X4_init) (pc := 31) d_X4_init_31 rfl 1 rfl ?_
  replace h := g_bd h
  obtain ⟨v19, hv19, h⟩ := h
  refine GW_getR (X := X_X4_init) (pc := 32) f_X4_11 d_X4_init_32 hv19 (Or.inr ⟨_, ty_4_0⟩) ?_
  refine GW_iload_n (X := X_X4_init) (pc := 35) d_X4_init_35 rfl 0 rfl ?_
  refine GW_new (X := X_X4_init) (pc := 36) (c := 8) g_cok8 nf_8 ⟨m_231, m_179, m_119⟩ d_X4_init_36 74 1778 rfl rfl ?_
  refine GW_dup (X := X_X4_init) (pc := 39) d_X4_init_39 rfl ?_
  replace h := g_bd h
  obtain ⟨M20, hM20, h⟩ := h
  refine GW_callIN (X := X_X4_init) (pc := 40) (bc0 := 70) (bs0 := 1666) (M2 := M20) (host := RX11) (T_X8_init M18.1.length (nw (8, 0) M18) M20 hM20) (Nat.le_of_ble_eq_true rfl) (Nat.le_of_ble_eq_true rfl) rfl rfl yc_X8_init (List.mem_of_getElem? (i := 3) rfl) ⟨m_181, m_119, m_182⟩ d_X4_init_40 rfl (st := [vr (some M18.1.length), vi (5 : Int32), vr v19]) rfl (Nat.le_of_ble_eq_true rfl) (Nat.le_of_ble_eq_true rfl) (Nat.le_of_ble_eq_true rfl) ?_
  replace h := g_bd h
  obtain ⟨M21, hM21, h⟩ := h
  refine GW_aast (X := X_X4_init) (pc := 43) (t := 24) (by decide) d_X4_init_43 hM21 ?_
  refine GW_iinc (j := 0) (X := X_X4_init) (pc := 44) d_X4_init_44 rfl (by decide) (Nat.le_of_ble_eq_true rfl) (lv2 := [(1, vi (6 : Int32)), (0, vr (some l0))]) rfl ?_
  refine GW_goto (X := X_X4_init) (pc := 47) 25 d_X4_init_47 (by decide) ?_
  refine GW_iload_n (X := X_X4_init) (pc := 25) d_X4_init_25 rfl 0 rfl ?_
  refine GW_bipush (X := X_X4_init) (pc := 26) (v := 20) d_X4_init_26 (by decide) ?_
  refine GW_icmp_ge (X := X_X4_init) (pc := 28) 50 d_X4_init_28 (by decide) (fun c => absurd c (by decide)) (fun _ => ?_)
  refine GW_aload_n (X := X_X4_init) (pc := 31) d_X4_init_31 rfl 1 rfl ?_
  replace h := g_bd h
  obtain ⟨v22, hv22, h⟩ := h
  refine GW_getR (X := X_X4_init) (pc := 32) f_X4_11 d_X4_init_32 hv22 (Or.inr ⟨_, ty_4_0⟩) ?_
  refine GW_iload_n (X := X_X4_init) (pc := 35) d_X4_init_35 rfl 0 rfl ?_
  refine GW_new (X := X_X4_init) (pc := 36) (c := 8) g_cok8 nf_8 ⟨m_231, m_179, m_119⟩ d_X4_init_36 69 1659 rfl rfl ?_
  refine GW_dup (X := X_X4_init) (pc := 39) d_X4_init_39 rfl ?_
  replace h := g_bd h
  obtain ⟨M23, hM23, h⟩ := h
  refine GW_callIN (X := X_X4_init) (pc := 40) (bc0 := 65) (bs0 := 1547) (M2 := M23) (host := RX11) (T_X8_init M21.1.length (nw (8, 0) M21) M23 hM23) (Nat.le_of_ble_eq_true rfl) (Nat.le_of_ble_eq_true rfl) rfl rfl yc_X8_init (List.mem_of_getElem? (i := 3) rfl) ⟨m_181, m_119, m_182⟩ d_X4_init_40 rfl (st := [vr (some M21.1.length), vi (6 : Int32), vr v22]) rfl (Nat.le_of_ble_eq_true rfl) (Nat.le_of_ble_eq_true rfl) (Nat.le_of_ble_eq_true rfl) ?_
  replace h := g_bd h
  obtain ⟨M24, hM24, h⟩ := h
  refine GW_aast (X := X_X4_init) (pc := 43) (t := 24) (by decide) d_X4_init_43 hM24 ?_
  refine GW_iinc (j := 0) (X := X_X4_init) (pc := 44) d_X4_init_44 rfl (by decide) (Nat.le_of_ble_eq_true rfl) (lv2 := [(1, vi (7 : Int32)), (0, vr (some l0))]) rfl ?_
  refine GW_goto (X := X_X4_init) (pc := 47) 25 d_X4_init_47 (by decide) ?_
  refine GW_iload_n (X := X_X4_init) (pc := 25) d_X4_init_25 rfl 0 rfl ?_
  refine GW_bipush (X := X_X4_init) (pc := 26) (v := 20) d_X4_init_26 (by decide) ?_
  refine GW_icmp_ge (X := X_X4_init) (pc := 28) 50 d_X4_init_28 (by decide) (fun c => absurd c (by decide)) (fun _ => ?_)
  refine GW_aload_n (X := X_X4_init) (pc := 31) d_X4_init_31 rfl 1 rfl ?_
  replace h := g_bd h
  obtain ⟨v25, hv25, h⟩ := h
  refine GW_getR (X := X_X4_init) (pc := 32) f_X4_11 d_X4_init_32 hv25 (Or.inr ⟨_, ty_4_0⟩) ?_
  refine GW_iload_n (X := X_X4_init) (pc := 35) d_X4_init_35 rfl 0 rfl ?_
  refine GW_new (X := X_X4_init) (pc := 36) (c := 8) g_cok8 nf_8 ⟨m_231, m_179, m_119⟩ d_X4_init_36 64 1540 rfl rfl ?_
  refine GW_dup (X := X_X4_init) (pc := 39) d_X4_init_39 rfl ?_
  replace h := g_bd h
  obtain ⟨M26, hM26, h⟩ := h
  refine GW_callIN (X := X_X4_init) (pc := 40) (bc0 := 60) (bs0 := 1428) (M2 := M26) (host := RX11) (T_X8_init M24.1.length (nw (8, 0) M24) M26 hM26) (Nat.le_of_ble_eq_true rfl) (Nat.le_of_ble_eq_true rfl) rfl rfl yc_X8_init (List.mem_of_getElem? (i := 3) rfl) ⟨m_181, m_119, m_182⟩ d_X4_init_40 rfl (st := [vr (some M24.1.length), vi (7 : Int32), vr v25]) rfl (Nat.le_of_ble_eq_true rfl) (Nat.le_of_ble_eq_true rfl) (Nat.le_of_ble_eq_true rfl) ?_
  replace h := g_bd h
  obtain ⟨M27, hM27, h⟩ := h
  refine GW_aast (X := X_X4_init) (pc := 43) (t := 24) (by decide) d_X4_init_43 hM27 ?_
  refine GW_iinc (j := 0) (X := X_X4_init) (pc := 44) d_X4_init_44 rfl (by decide) (Nat.le_of_ble_eq_true rfl) (lv2 := [(1, vi (8 : Int32)), (0, vr (some l0))]) rfl ?_
  refine GW_goto (X := X_X4_init) (pc := 47) 25 d_X4_init_47 (by decide) ?_
  refine GW_iload_n (X := X_X4_init) (pc := 25) d_X4_init_25 rfl 0 rfl ?_
  refine GW_bipush (X := X_X4_init) (pc := 26) (v := 20) d_X4_init_26 (by decide) ?_
  refine GW_icmp_ge (X := X_X4_init) (pc := 28) 50 d_X4_init_28 (by decide) (fun c => absurd c (by decide)) (fun _ => ?_)
  refine GW_aload_n (X := X_X4_init) (pc := 31) d_X4_init_31 rfl 1 rfl ?_
  replace h := g_bd h
  obtain ⟨v28, hv28, h⟩ := h
  refine GW_getR (X := X_X4_init) (pc := 32) f_X4_11 d_X4_init_32 hv28 (Or.inr ⟨_, ty_4_0⟩) ?_
  refine GW_iload_n (X := X_X4_init) (pc := 35) d_X4_init_35 rfl 0 rfl ?_
  refine GW_new (X := X_X4_init) (pc := 36) (c := 8) g_cok8 nf_8 ⟨m_231, m_179, m_119⟩ d_X4_init_36 59 1421 rfl rfl ?_
  refine GW_dup (X := X_X4_init) (pc := 39) d_X4_init_39 rfl ?_
  replace h := g_bd h
  obtain ⟨M29, hM29, h⟩ := h
  refine GW_callIN (X := X_X4_init) (pc := 40) (bc0 := 55) (bs0 := 1309) (M2 := M29) (host := RX11) (T_X8_init M27.1.length (nw (8, 0) M27) M29 hM29) (Nat.le_of_ble_eq_true rfl) (Nat.le_of_ble_eq_true rfl) rfl rfl yc_X8_init (List.mem_of_getElem? (i := 3) rfl) ⟨m_181, m_119, m_182⟩ d_X4_init_40 rfl (st := [vr (some M27.1.length), vi (8 : Int32), vr v28]) rfl (Nat.le_of_ble_eq_true rfl) (Nat.le_of_ble_eq_true rfl) (Nat.le_of_ble_eq_true rfl) ?_
  replace h := g_bd h
  obtain ⟨M30, hM30, h⟩ := h
  refine GW_aast (X := X_X4_init) (pc := 43) (t := 24) (by decide) d_X4_init_43 hM30 ?_
  refine GW_iinc (j := 0) (X := X_X4_init) (pc := 44) d_X4_init_44 rfl (by decide) (Nat.le_of_ble_eq_true rfl) (lv2 := [(1, vi (9 : Int32)), (0, vr (some l0))]) rfl ?_
  refine GW_goto (X := X_X4_init) (pc := 47) 25 d_X4_init_47 (by decide) ?_
  refine GW_iload_n (X := X_X4_init) (pc := 25) d_X4_init_25 rfl 0 rfl ?_
  refine GW_bipush (X := X_X4_init) (pc := 26) (v := 20) d_X4_init_26 (by decide) ?_
  refine GW_icmp_ge (X := X_X4_init) (pc := 28) 50 d_X4_init_28 (by decide) (fun c => absurd c (by decide)) (fun _ => ?_)
  refine GW_aload_n (X := X_X4_init) (pc := 31) d_X4_init_31 rfl 1 rfl ?_
  replace h := g_bd h
  obtain ⟨v31, hv31, h⟩ := h
  refine GW_getR (X := X_X4_init) (pc := 32) f_X4_11 d_X4_init_32 hv31 (Or.inr ⟨_, ty_4_0⟩) ?_
  refine GW_iload_n (X := X_X4_init) (pc := 35) d_X4_init_35 rfl 0 rfl ?_
  refine GW_new (X := X_X4_init) (pc := 36) (c := 8) g_cok8 nf_8 ⟨m_231, m_179, m_119⟩ d_X4_init_36 54 1302 rfl rfl ?_
  refine GW_dup (X := X_X4_init) (pc := 39) d_X4_init_39 rfl ?_
  replace h := g_bd h
  obtain ⟨M32, hM32, h⟩ := h
  refine GW_callIN (X := X_X4_init) (pc := 40) (bc0 := 50) (bs0 := 1190) (M2 := M32) (host := RX11) (T_X8_init M30.1.length (nw (8, 0) M30) M32 hM32) (Nat.le_of_ble_eq_true rfl) (Nat.le_of_ble_eq_true rfl) rfl rfl yc_X8_init (List.mem_of_getElem? (i := 3) rfl) ⟨m_181, m_119, m_182⟩ d_X4_init_40 rfl (st := [vr (some M30.1.length), vi (9 : Int32), vr v31]) rfl (Nat.le_of_ble_eq_true rfl) (Nat.le_of_ble_eq_true rfl) (Nat.le_of_ble_eq_true rfl) ?_
  replace h := g_bd h
  obtain ⟨M33, hM33, h⟩ := h
  refine GW_aast (X := X_X4_init) (pc := 43) (t := 24) (by decide) d_X4_init_43 hM33 ?_
  refine GW_iinc (j := 0) (X := X_X4_init) (pc := 44) d_X4_init_44 rfl (by decide) (Nat.le_of_ble_eq_true rfl) (lv2 := [(1, vi (10 : Int32)), (0, vr (some l0))]) rfl ?_
  refine GW_goto (X := X_X4_init) (pc := 47) 25 d_X4_init_47 (by decide) ?_
  refine GW_iload_n (X := X_X4_init) (pc := 25) d_X4_init_25 rfl 0 rfl ?_
  refine GW_bipush (X := X_X4_init) (pc := 26) (v := 20) d_X4_init_26 (by decide) ?_
  refine GW_icmp_ge (X := X_X4_init) (pc := 28) 50 d_X4_init_28 (by decide) (fun c => absurd c (by decide)) (fun _ => ?_)
  refine GW_aload_n (X := X_X4_init) (pc := 31) d_X4_init_31 rfl 1 rfl ?_
  replace h := g_bd h
  obtain ⟨v34, hv34, h⟩ := h
  refine GW_getR (X := X_X4_init) (pc := 32) f_X4_11 d_X4_init_32 hv34 (Or.inr ⟨_, ty_4_0⟩) ?_
  refine GW_iload_n (X := X_X4_init) (pc := 35) d_X4_init_35 rfl 0 rfl ?_
  refine GW_new (X := X_X4_init) (pc := 36) (c := 8) g_cok8 nf_8 ⟨m_231, m_179, m_119⟩ d_X4_init_36 49 1183 rfl rfl ?_
  refine GW_dup (X := X_X4_init) (pc := 39) d_X4_init_39 rfl ?_
  replace h := g_bd h
  obtain ⟨M35, hM35, h⟩ := h
  refine GW_callIN (X := X_X4_init) (pc := 40) (bc0 := 45) (bs0 := 1071) (M2 := M35) (host := RX11) (T_X8_init M33.1.length (nw (8, 0) M33) M35 hM35) (Nat.le_of_ble_eq_true rfl) (Nat.le_of_ble_eq_true rfl) rfl rfl yc_X8_init (List.mem_of_getElem? (i := 3) rfl) ⟨m_181, m_119, m_182⟩ d_X4_init_40 rfl (st := [vr (some M33.1.length), vi (10 : Int32), vr v34]) rfl (Nat.le_of_ble_eq_true rfl) (Nat.le_of_ble_eq_true rfl) (Nat.le_of_ble_eq_true rfl) ?_
  replace h := g_bd h
  obtain ⟨M36, hM36, h⟩ := h
  refine GW_aast (X := X_X4_init) (pc := 43) (t := 24) (by decide) d_X4_init_43 hM36 ?_
  refine GW_iinc (j := 0) (X := X_X4_init) (pc := 44) d_X4_init_44 rfl (by decide) (Nat.le_of_ble_eq_true rfl) (lv2 := [(1, vi (11 : Int32)), (0, vr (some l0))]) rfl ?_
  refine GW_goto (X := X_X4_init) (pc := 47) 25 d_X4_init_47 (by decide) ?_
  refine GW_iload_n (X := X_X4_init) (pc := 25) d_X4_init_25 rfl 0 rfl ?_
  refine GW_bipush (X := X_X4_init) (pc := 26) (v := 20) d_X4_init_26 (by decide) ?_
  refine GW_icmp_ge (X := X_X4_init) (pc := 28) 50 d_X4_init_28 (by decide) (fun c => absurd c (by decide)) (fun _ => ?_)
  refine GW_aload_n (X := X_X4_init) (pc := 31) d_X4_init_31 rfl 1 rfl ?_
  replace h := g_bd h
  obtain ⟨v37, hv37, h⟩ := h
  refine GW_getR (X := X_X4_init) (pc := 32) f_X4_11 d_X4_init_32 hv37 (Or.inr ⟨_, ty_4_0⟩) ?_
  refine GW_iload_n (X := X_X4_init) (pc := 35) d_X4_init_35 rfl 0 rfl ?_
  refine GW_new (X := X_X4_init) (pc := 36) (c := 8) g_cok8 nf_8 ⟨m_231, m_179, m_119⟩ d_X4_init_36 44 1064 rfl rfl ?_
  refine GW_dup (X := X_X4_init) (pc := 39) d_X4_init_39 rfl ?_
  replace h := g_bd h
  obtain ⟨M38, hM38, h⟩ := h
  refine GW_callIN (X := X_X4_init) (pc := 40) (bc0 := 40) (bs0 := 952) (M2 := M38) (host := RX11) (T_X8_init M36.1.length (nw (8, 0) M36) M38 hM38) (Nat.le_of_ble_eq_true rfl) (Nat.le_of_ble_eq_true rfl) rfl rfl yc_X8_init (List.mem_of_getElem? (i := 3) rfl) ⟨m_181, m_119, m_182⟩ d_X4_init_40 rfl (st := [vr (some M36.1.length), vi (11 : Int32), vr v37]) rfl (Nat.le_of_ble_eq_true rfl) (Nat.le_of_ble_eq_true rfl) (Nat.le_of_ble_eq_true rfl) ?_
  replace h := g_bd h
  obtain ⟨M39, hM39, h⟩ := h
  refine GW_aast (X := X_X4_init) (pc := 43) (t := 24) (by decide) d_X4_init_43 hM39 ?_
  refine GW_iinc (j := 0) (X := X_X4_init) (pc := 44) d_X4_init_44 rfl (by decide) (Nat.le_of_ble_eq_true rfl) (lv2 := [(1, vi (12 : Int32)), (0, vr (some l0))]) rfl ?_
  refine GW_goto (X := X_X4_init) (pc := 47) 25 d_X4_init_47 (by decide) ?_
  refine GW_iload_n (X := X_X4_init) (pc := 25) d_X4_init_25 rfl 0 rfl ?_
  refine GW_bipush (X := X_X4_init) (pc := 26) (v := 20) d_X4_init_26 (by decide) ?_
  refine GW_icmp_ge (X := X_X4_init) (pc := 28) 50 d_X4_init_28 (by decide) (fun c => absurd c (by decide)) (fun _ => ?_)
  refine GW_aload_n (X := X_X4_init) (pc := 31) d_X4_init_31 rfl 1 rfl ?_
  replace h := g_bd h
  obtain ⟨v40, hv40, h⟩ := h
  refine GW_getR (X := X_X4_init) (pc := 32) f_X4_11 d_X4_init_32 hv40 (Or.inr ⟨_, ty_4_0⟩) ?_
  refine GW_iload_n (X := X_X4_init) (pc := 35) d_X4_init_35 rfl 0 rfl ?_
  refine GW_new (X := X_X4_init) (pc := 36) (c := 8) g_cok8 nf_8 ⟨m_231, m_179, m_119⟩ d_X4_init_36 39 945 rfl rfl ?_
  refine GW_dup (X := X_X4_init) (pc := 39) d_X4_init_39 rfl ?_
  replace h := g_bd h
  obtain ⟨M41, hM41, h⟩ := h
  refine GW_callIN (X := X_X4_init) (pc := 40) (bc0 := 35) (bs0 := 833) (M2 := M41) (host := RX11) (T_X8_init M39.1.length (nw (8, 0) M39) M41 hM41) (Nat.le_of_ble_eq_true rfl) (Nat.le_of_ble_eq_true rfl) rfl rfl yc_X8_init (List.mem_of_getElem? (i := 3) rfl) ⟨m_181, m_119, m_182⟩ d_X4_init_40 rfl (st := [vr (some M39.1.length), vi (12 : Int32), vr v40]) rfl (Nat.le_of_ble_eq_true rfl) (Nat.le_of_ble_eq_true rfl) (Nat.le_of_ble_eq_true rfl) ?_
  replace h := g_bd h
  obtain ⟨M42, hM42, h⟩ := h
  refine GW_aast (X := X_X4_init) (pc := 43) (t := 24) (by decide) d_X4_init_43 hM42 ?_
  refine GW_iinc (j := 0) (X := X_X4_init) (pc := 44) d_X4_init_44 rfl (by decide) (Nat.le_of_ble_eq_true rfl) (lv2 := [(1, vi (13 : Int32)), (0, vr (some l0))]) rfl ?_
  refine GW_goto (X := X_X4_init) (pc := 47) 25 d_X4_init_47 (by decide) ?_
  refine GW_iload_n (X := X_X4_init) (pc := 25) d_X4_init_25 rfl 0 rfl ?_
  refine GW_bipush (X := X_X4_init) (pc := 26) (v := 20) d_X4_init_26 (by decide) ?_
  refine GW_icmp_ge (X := X_X4_init) (pc := 28) 50 d_X4_init_28 (by decide) (fun c => absurd c (by decide)) (fun _ => ?_)
  refine GW_aload_n (X := X_X4_init) (pc := 31) d_X4_init_31 rfl 1 rfl ?_
  replace h := g_bd h
  obtain ⟨v43, hv43, h⟩ := h
  refine GW_getR (X := X_X4_init) (pc := 32) f_X4_11 d_X4_init_32 hv43 (Or.inr ⟨_, ty_4_0⟩) ?_
  refine GW_iload_n (X := X_X4_init) (pc := 35) d_X4_init_35 rfl 0 rfl ?_
  refine GW_new (X := X_X4_init) (pc := 36) (c := 8) g_cok8 nf_8 ⟨m_231, m_179, m_119⟩ d_X4_init_36 34 826 rfl rfl ?_
  refine GW_dup (X := X_X4_init) (pc := 39) d_X4_init_39 rfl ?_
  replace h := g_bd h
  obtain ⟨M44, hM44, h⟩ := h
  refine GW_callIN (X := X_X4_init) (pc := 40) (bc0 := 30) (bs0 := 714) (M2 := M44) (host := RX11) (T_X8_init M42.1.length (nw (8, 0) M42) M44 hM44) (Nat.le_of_ble_eq_true rfl) (Nat.le_of_ble_eq_true rfl) rfl rfl yc_X8_init (List.mem_of_getElem? (i := 3) rfl) ⟨m_181, m_119, m_182⟩ d_X4_init_40 rfl (st := [vr (some M42.1.length), vi (13 : Int32), vr v43]) rfl (Nat.le_of_ble_eq_true rfl) (Nat.le_of_ble_eq_true rfl) (Nat.le_of_ble_eq_true rfl) ?_
  replace h := g_bd h
  obtain ⟨M45, hM45, h⟩ := h
  refine GW_aast (X := X_X4_init) (pc := 43) (t := 24) (by decide) d_X4_init_43 hM45 ?_
  refine GW_iinc (j := 0) (X := X_X4_init) (pc := 44) d_X4_init_44 rfl (by decide) (Nat.le_of_ble_eq_true rfl) (lv2 := [(1, vi (14 : Int32)), (0, vr (some l0))]) rfl ?_
  refine GW_goto (X := X_X4_init) (pc := 47) 25 d_X4_init_47 (by decide) ?_
  refine GW_iload_n (X := X_X4_init) (pc := 25) d_X4_init_25 rfl 0 rfl ?_
  refine GW_bipush (X := X_X4_init) (pc := 26) (v := 20) d_X4_init_26 (by decide) ?_
  refine GW_icmp_ge (X := X_X4_init) (pc := 28) 50 d_X4_init_28 (by decide) (fun c => absurd c (by decide)) (fun _ => ?_)
  refine GW_aload_n (X := X_X4_init) (pc := 31) d_X4_init_31 rfl 1 rfl ?_
  replace h := g_bd h
  obtain ⟨v46, hv46, h⟩ := h
  refine GW_getR (X := X_X4_init) (pc := 32) f_X4_11 d_X4_init_32 hv46 (Or.inr ⟨_, ty_4_0⟩) ?_
  refine GW_iload_n (X := X_X4_init) (pc := 35) d_X4_init_35 rfl 0 rfl ?_
  refine GW_new (X := X_X4_init) (pc := 36) (c := 8) g_cok8 nf_8 ⟨m_231, m_179, m_119⟩ d_X4_init_36 29 707 rfl rfl ?_
  refine GW_dup (X := X_X4_init) (pc := 39) d_X4_init_39 rfl ?_
  replace h := g_bd h
  obtain ⟨M47, hM47, h⟩ := h
  refine GW_callIN (X := X_X4_init) (pc := 40) (bc0 := 25) (bs0 := 595) (M2 := M47) (host := RX11) (T_X8_init M45.1.length (nw (8, 0) M45) M47 hM47) (Nat.le_of_ble_eq_true rfl) (Nat.le_of_ble_eq_true rfl) rfl rfl yc_X8_init (List.mem_of_getElem? (i := 3) rfl) ⟨m_181, m_119, m_182⟩ d_X4_init_40 rfl (st := [vr (some M45.1.length), vi (14 : Int32), vr v46]) rfl (Nat.le_of_ble_eq_true rfl) (Nat.le_of_ble_eq_true rfl) (Nat.le_of_ble_eq_true rfl) ?_
  replace h := g_bd h
  obtain ⟨M48, hM48, h⟩ := h
  refine GW_aast (X := X_X4_init) (pc := 43) (t := 24) (by decide) d_X4_init_43 hM48 ?_
  refine GW_iinc (j := 0) (X := X_X4_init) (pc := 44) d_X4_init_44 rfl (by decide) (Nat.le_of_ble_eq_true rfl) (lv2 := [(1, vi (15 : Int32)), (0, vr (some l0))]) rfl ?_
  refine GW_goto (X := X_X4_init) (pc := 47) 25 d_X4_init_47 (by decide) ?_
  refine GW_iload_n (X := X_X4_init) (pc := 25) d_X4_init_25 rfl 0 rfl ?_
  refine GW_bipush (X := X_X4_init) (pc := 26) (v := 20) d_X4_init_26 (by decide) ?_
  refine GW_icmp_ge (X := X_X4_init) (pc := 28) 50 d_X4_init_28 (by decide) (fun c => absurd c (by decide)) (fun _ => ?_)
  refine GW_aload_n (X := X_X4_init) (pc := 31) d_X4_init_31 rfl 1 rfl ?_
  replace h := g_bd h
  obtain ⟨v49, hv49, h⟩ := h
  refine GW_getR (X := X_X4_init) (pc := 32) f_X4_11 d_X4_init_32 hv49 (Or.inr ⟨_, ty_4_0⟩) ?_
  refine GW_iload_n (X := X_X4_init) (pc := 35) d_X4_init_35 rfl 0 rfl ?_
  refine GW_new (X := X_X4_init) (pc := 36) (c := 8) g_cok8 nf_8 ⟨m_231, m_179, m_119⟩ d_X4_init_36 24 588 rfl rfl ?_
  refine GW_dup (X := X_X4_init) (pc := 39) d_X4_init_39 rfl ?_
  replace h := g_bd h
  obtain ⟨M50, hM50, h⟩ := h
  refine GW_callIN (X := X_X4_init) (pc := 40) (bc0 := 20) (bs0 := 476) (M2 := M50) (host := RX11) (T_X8_init M48.1.length (nw (8, 0) M48) M50 hM50) (Nat.le_of_ble_eq_true rfl) (Nat.le_of_ble_eq_true rfl) rfl rfl yc_X8_init (List.mem_of_getElem? (i := 3) rfl) ⟨m_181, m_119, m_182⟩ d_X4_init_40 rfl (st := [vr (some M48.1.length), vi (15 : Int32), vr v49]) rfl (Nat.le_of_ble_eq_true rfl) (Nat.le_of_ble_eq_true rfl) (Nat.le_of_ble_eq_true rfl) ?_
  replace h := g_bd h
  obtain ⟨M51, hM51, h⟩ := h
  refine GW_aast (X := X_X4_init) (pc := 43) (t := 24) (by decide) d_X4_init_43 hM51 ?_
  refine GW_iinc (j := 0) (X := X_X4_init) (pc := 44) d_X4_init_44 rfl (by decide) (Nat.le_of_ble_eq_true rfl) (lv2 := [(1, vi (16 : Int32)), (0, vr (some l0))]) rfl ?_
  refine GW_goto (X := X_X4_init) (pc := 47) 25 d_X4_init_47 (by decide) ?_
  refine GW_iload_n (X := X_X4_init) (pc := 25) d_X4_init_25 rfl 0 rfl ?_
  refine GW_bipush (X := X_X4_init) (pc := 26) (v := 20) d_X4_init_26 (by decide) ?_
  refine GW_icmp_ge (X := X_X4_init) (pc := 28) 50 d_X4_init_28 (by decide) (fun c => absurd c (by decide)) (fun _ => ?_)
  refine GW_aload_n (X := X_X4_init) (pc := 31) d_X4_init_31 rfl 1 rfl ?_
  replace h := g_bd h
  obtain ⟨v52, hv52, h⟩ := h
  refine GW_getR (X := X_X4_init) (pc := 32) f_X4_11 d_X4_init_32 hv52 (Or.inr ⟨_, ty_4_0⟩) ?_
  refine GW_iload_n (X := X_X4_init) (pc := 35) d_X4_init_35 rfl 0 rfl ?_
  refine GW_new (X := X_X4_init) (pc := 36) (c := 8) g_cok8 nf_8 ⟨m_231, m_179, m_119⟩ d_X4_init_36 19 469 rfl rfl ?_
  refine GW_dup (X := X_X4_init) (pc := 39) d_X4_init_39 rfl ?_
  replace h := g_bd h
  obtain ⟨M53, hM53, h⟩ := h
  refine GW_callIN (X := X_X4_init) (pc := 40) (bc0 := 15) (bs0 := 357) (M2 := M53) (host := RX11) (T_X8_init M51.1.length (nw (8, 0) M51) M53 hM53) (Nat.le_of_ble_eq_true rfl) (Nat.le_of_ble_eq_true rfl) rfl rfl yc_X8_init (List.mem_of_getElem? (i := 3) rfl) ⟨m_181, m_119, m_182⟩ d_X4_init_40 rfl (st := [vr (some M51.1.length), vi (16 : Int32), vr v52]) rfl (Nat.le_of_ble_eq_true rfl) (Nat.le_of_ble_eq_true rfl) (Nat.le_of_ble_eq_true rfl) ?_
  replace h := g_bd h
  obtain ⟨M54, hM54, h⟩ := h
  refine GW_aast (X := X_X4_init) (pc := 43) (t := 24) (by decide) d_X4_init_43 hM54 ?_
  refine GW_iinc (j := 0) (X := X_X4_init) (pc := 44) d_X4_init_44 rfl (by decide) (Nat.le_of_ble_eq_true rfl) (lv2 := [(1, vi (17 : Int32)), (0, vr (some l0))]) rfl ?_
  refine GW_goto (X := X_X4_init) (pc := 47) 25 d_X4_init_47 (by decide) ?_
  refine GW_iload_n (X := X_X4_init) (pc := 25) d_X4_init_25 rfl 0 rfl ?_
  refine GW_bipush (X := X_X4_init) (pc := 26) (v := 20) d_X4_init_26 (by decide) ?_
  refine GW_icmp_ge (X := X_X4_init) (pc := 28) 50 d_X4_init_28 (by decide) (fun c => absurd c (by decide)) (fun _ => ?_)
  refine GW_aload_n (X := X_X4_init) (pc := 31) d_X4_init_31 rfl 1 rfl ?_
  replace h := g_bd h
  obtain ⟨v55, hv55, h⟩ := h
  refine GW_getR (X := X_X4_init) (pc := 32) f_X4_11 d_X4_init_32 hv55 (Or.inr ⟨_, ty_4_0⟩) ?_
  refine GW_iload_n (X := X_X4_init) (pc := 35) d_X4_init_35 rfl 0 rfl ?_
  refine GW_new (X := X_X4_init) (pc := 36) (c := 8) g_cok8 nf_8 ⟨m_231, m_179, m_119⟩ d_X4_init_36 14 350 rfl rfl ?_
  refine GW_dup (X := X_X4_init) (pc := 39) d_X4_init_39 rfl ?_
  replace h := g_bd h
  obtain ⟨M56, hM56, h⟩ := h
  refine GW_callIN (X := X_X4_init) (pc := 40) (bc0 := 10) (bs0 := 238) (M2 := M56) (host := RX11) (T_X8_init M54.1.length (nw (8, 0) M54) M56 hM56) (Nat.le_of_ble_eq_true rfl) (Nat.le_of_ble_eq_true rfl) rfl rfl yc_X8_init (List.mem_of_getElem? (i := 3) rfl) ⟨m_181, m_119, m_182⟩ d_X4_init_40 rfl (st := [vr (some M54.1.length), vi (17 : Int32), vr v55]) rfl (Nat.le_of_ble_eq_true rfl) (Nat.le_of_ble_eq_true rfl) (Nat.le_of_ble_eq_true rfl) ?_
  replace h := g_bd h
  obtain ⟨M57, hM57, h⟩ := h
  refine GW_aast (X := X_X4_init) (pc := 43) (t := 24) (by decide) d_X4_init_43 hM57 ?_
  refine GW_iinc (j := 0) (X := X_X4_init) (pc := 44) d_X4_init_44 rfl (by decide) (Nat.le_of_ble_eq_true rfl) (lv2 := [(1, vi (18 : Int32)), (0, vr (some l0))]) rfl ?_
  refine GW_goto (X := X_X4_init) (pc := 47) 25 d_X4_init_47 (by decide) ?_
  refine GW_iload_n (X := X_X4_init) (pc := 25) d_X4_init_25 rfl 0 rfl ?_
  refine GW_bipush (X := X_X4_init) (pc := 26) (v := 20) d_X4_init_26 (by decide) ?_
  refine GW_icmp_ge (X := X_X4_init) (pc := 28) 50 d_X4_init_28 (by decide) (fun c => absurd c (by decide)) (fun _ => ?_)
  refine GW_aload_n (X := X_X4_init) (pc := 31) d_X4_init_31 rfl 1 rfl ?_
  replace h := g_bd h
  obtain ⟨v58, hv58, h⟩ := h
  refine GW_getR (X := X_X4_init) (pc := 32) f_X4_11 d_X4_init_32 hv58 (Or.inr ⟨_, ty_4_0⟩) ?_
  refine GW_iload_n (X := X_X4_init) (pc := 35) d_X4_init_35 rfl 0 rfl ?_
  refine GW_new (X := X_X4_init) (pc := 36) (c := 8) g_cok8 nf_8 ⟨m_231, m_179, m_119⟩ d_X4_init_36 9 231 rfl rfl ?_
  refine GW_dup (X := X_X4_init) (pc := 39) d_X4_init_39 rfl ?_
  replace h := g_bd h
  obtain ⟨M59, hM59, h⟩ := h
  refine GW_callIN (X := X_X4_init) (pc := 40) (bc0 := 5) (bs0 := 119) (M2 := M59) (host := RX11) (T_X8_init M57.1.length (nw (8, 0) M57) M59 hM59) (Nat.le_of_ble_eq_true rfl) (Nat.le_of_ble_eq_true rfl) rfl rfl yc_X8_init (List.mem_of_getElem? (i := 3) rfl) ⟨m_181, m_119, m_182⟩ d_X4_init_40 rfl (st := [vr (some M57.1.length), vi (18 : Int32), vr v58]) rfl (Nat.le_of_ble_eq_true rfl) (Nat.le_of_ble_eq_true rfl) (Nat.le_of_ble_eq_true rfl) ?_
  replace h := g_bd h
  obtain ⟨M60, hM60, h⟩ := h
  refine GW_aast (X := X_X4_init) (pc := 43) (t := 24) (by decide) d_X4_init_43 hM60 ?_
  refine GW_iinc (j := 0) (X := X_X4_init) (pc := 44) d_X4_init_44 rfl (by decide) (Nat.le_of_ble_eq_true rfl) (lv2 := [(1, vi (19 : Int32)), (0, vr (some l0))]) rfl ?_
  refine GW_goto (X := X_X4_init) (pc := 47) 25 d_X4_init_47 (by decide) ?_
  refine GW_iload_n (X := X_X4_init) (pc := 25) d_X4_init_25 rfl 0 rfl ?_
  refine GW_bipush (X := X_X4_init) (pc := 26) (v := 20) d_X4_init_26 (by decide) ?_
  refine GW_icmp_ge (X := X_X4_init) (pc := 28) 50 d_X4_init_28 (by decide) (fun c => absurd c (by decide)) (fun _ => ?_)
  refine GW_aload_n (X := X_X4_init) (pc := 31) d_X4_init_31 rfl 1 rfl ?_
  replace h := g_bd h
  obtain ⟨v61, hv61, h⟩ := h
  refine GW_getR (X := X_X4_init) (pc := 32) f_X4_11 d_X4_init_32 hv61 (Or.inr ⟨_, ty_4_0⟩) ?_
  refine GW_iload_n (X := X_X4_init) (pc := 35) d_X4_init_35 rfl 0 rfl ?_
  refine GW_new (X := X_X4_init) (pc := 36) (c := 8) g_cok8 nf_8 ⟨m_231, m_179, m_119⟩ d_X4_init_36 4 112 rfl rfl ?_
  refine GW_dup (X := X_X4_init) (pc := 39) d_X4_init_39 rfl ?_
  replace h := g_bd h
  obtain ⟨M62, hM62, h⟩ := h
  refine GW_callIN (X := X_X4_init) (pc := 40) (bc0 := 0) (bs0 := 0) (M2 := M62) (host := RX11) (T_X8_init M60.1.length (nw (8, 0) M60) M62 hM62) (Nat.le_of_ble_eq_true rfl) (Nat.le_of_ble_eq_true rfl) rfl rfl yc_X8_init (List.mem_of_getElem? (i := 3) rfl) ⟨m_181, m_119, m_182⟩ d_X4_init_40 rfl (st := [vr (some M60.1.length), vi (19 : Int32), vr v61]) rfl (Nat.le_of_ble_eq_true rfl) (Nat.le_of_ble_eq_true rfl) (Nat.le_of_ble_eq_true rfl) ?_
  replace h := g_bd h
  obtain ⟨M63, hM63, h⟩ := h
  refine GW_aast (X := X_X4_init) (pc := 43) (t := 24) (by decide) d_X4_init_43 hM63 ?_
  refine GW_iinc (j := 0) (X := X_X4_init) (pc := 44) d_X4_init_44 rfl (by decide) (Nat.le_of_ble_eq_true rfl) (lv2 := [(1, vi (20 : Int32)), (0, vr (some l0))]) rfl ?_
  refine GW_goto (X := X_X4_init) (pc := 47) 25 d_X4_init_47 (by decide) ?_
  refine GW_iload_n (X := X_X4_init) (pc := 25) d_X4_init_25 rfl 0 rfl ?_
  refine GW_bipush (X := X_X4_init) (pc := 26) (v := 20) d_X4_init_26 (by decide) ?_
  refine GW_icmp_ge (X := X_X4_init) (pc := 28) 50 d_X4_init_28 (by decide) (fun _ => ?_) (fun c => absurd c (by decide))
  replace h := Option.some.inj h
  subst h
  exact GW_ret (X := X_X4_init) (pc := 50) d_X4_init_50 rfl trivial
theorem T_X4_init (l0 : Nat) (M : gM) (r : gM) (h : F_X4_init l0 M = some r) : g_Met 2 101 2400 yX4_init X_X4_init [vr (some l0)] M (none, r) :=
  g_Met_of pn_RX4 rfl (Nat.le_of_ble_eq_true rfl) (fun _ => rfl) (GW_sub [0] rfl (T_X4_init_b0 r l0 M h))
/-! ForgetHeirs$Forests.<init>()V -/
theorem d_X0_init_0 : decode cX0_init 0 = .ok (.aload_n 0, 1) := by decide +kernel
theorem d_X0_init_1 : decode cX0_init 1 = .ok (.invokespecial 3, 3) := by decide +kernel
theorem d_X0_init_4 : decode cX0_init 4 = .ok (.aload_n 0, 1) := by decide +kernel
theorem d_X0_init_5 : decode cX0_init 5 = .ok (.bipush 49, 2) := by decide +kernel
theorem d_X0_init_7 : decode cX0_init 7 = .ok (.newarray .long, 2) := by decide +kernel
theorem d_X0_init_9 : decode cX0_init 9 = .ok (.putfield 9, 3) := by decide +kernel
theorem d_X0_init_12 : decode cX0_init 12 = .ok (.aload_n 0, 1) := by decide +kernel
theorem d_X0_init_13 : decode cX0_init 13 = .ok (.iconst 0, 1) := by decide +kernel
theorem d_X0_init_14 : decode cX0_init 14 = .ok (.putfield 15, 3) := by decide +kernel
theorem d_X0_init_17 : decode cX0_init 17 = .ok (.return_, 1) := by decide +kernel
abbrev X_X0_init : gX := (RX0, cX0_init, 1, none, true)
def F_X0_init_b0 (l0 : Nat) (M : gM) : Option gM :=
  (pR 0 (nw (21, 49) M) (some l0) 0 (some M.1.length)).bind fun M1 => (pI 0 M1 (some l0) 1 (0 : Int32)).bind fun M2 => some M2
theorem T_X0_init_b0 (r : gM) (l0 : Nat) (M : gM) (h : F_X0_init_b0 l0 M = some r) : GW 1 1 49 X_X0_init 0 [(0, vr (some l0))] [] M (none, r) := by
  delta F_X0_init_b0 at h
  refine GW_aload_n (X := X_X0_init) (pc := 0) d_X0_init_0 rfl 0 rfl ?_
  refine GW_objInit (X := X_X0_init) (pc := 1) ⟨m_252, g_w_objI.1, g_w_objI.2⟩ d_X0_init_1 (Nat.le_of_ble_eq_true rfl) (Nat.le_of_ble_eq_true rfl) ?_
  refine GW_aload_n (X := X_X0_init) (pc := 4) d_X0_init_4 rfl 0 rfl ?_
  refine GW_bipush (X := X_X0_init) (pc := 5) (v := 49) d_X0_init_5 (by decide) ?_
  refine GW_newa_long (X := X_X0_init) (pc := 7) (N := 49) g_w_arrc.1.2 d_X0_init_7 (by decide) (by decide) (by decide) 0 0 rfl (Nat.le_of_ble_eq_true rfl) ?_
  replace h := g_bd h
  obtain ⟨M1, hM1, h⟩ := h
  refine GW_putR (X := X_X0_init) (pc := 9) f_X0_9 d_X0_init_9 hM1 (Or.inr ⟨rfl, fi_0_0⟩) (Or.inr ⟨_, ty_0_0⟩) ?_
  refine GW_aload_n (X := X_X0_init) (pc := 12) d_X0_init_12 rfl 0 rfl ?_
  refine GW_iconst (X := X_X0_init) (pc := 13) (v := 0) d_X0_init_13 (by decide) ?_
  replace h := g_bd h
  obtain ⟨M2, hM2, h⟩ := h
  refine GW_putI (X := X_X0_init) (pc := 14) f_X0_15 d_X0_init_14 hM2 (Or.inl fi_0_1) (Or.inl ty_0_1) ?_
  replace h := Option.some.inj h
  subst h
  exact GW_ret (X := X_X0_init) (pc := 17) d_X0_init_17 rfl trivial
def F_X0_init (l0 : Nat) (M : gM) : Option gM := F_X0_init_b0 l0 M
theorem T_X0_init (l0 : Nat) (M : gM) (r : gM) (h : F_X0_init l0 M = some r) : g_Met 1 1 49 yX0_init X_X0_init [vr (some l0)] M (none, r) :=
  g_Met_of pn_RX0 rfl (Nat.le_of_ble_eq_true rfl) (fun _ => rfl) (GW_sub [0] rfl (T_X0_init_b0 r l0 M h))
/-! ForgetHeirs$House.<init>()V -/
theorem d_X1_init_0 : decode cX1_init 0 = .ok (.aload_n 0, 1) := by decide +kernel
theorem d_X1_init_1 : decode cX1_init 1 = .ok (.invokespecial 3, 3) := by decide +kernel
theorem d_X1_init_4 : decode cX1_init 4 = .ok (.aload_n 0, 1) := by decide +kernel
theorem d_X1_init_5 : decode cX1_init 5 = .ok (.bipush 7, 2) := by decide +kernel
theorem d_X1_init_7 : decode cX1_init 7 = .ok (.newarray .int, 2) := by decide +kernel
theorem d_X1_init_9 : decode cX1_init 9 = .ok (.putfield 9, 3) := by decide +kernel
theorem d_X1_init_12 : decode cX1_init 12 = .ok (.aload_n 0, 1) := by decide +kernel
theorem d_X1_init_13 : decode cX1_init 13 = .ok (.bipush 7, 2) := by decide +kernel
theorem d_X1_init_15 : decode cX1_init 15 = .ok (.newarray .int, 2) := by decide +kernel
theorem d_X1_init_17 : decode cX1_init 17 = .ok (.putfield 15, 3) := by decide +kernel
theorem d_X1_init_20 : decode cX1_init 20 = .ok (.aload_n 0, 1) := by decide +kernel
theorem d_X1_init_21 : decode cX1_init 21 = .ok (.bipush 7, 2) := by decide +kernel
theorem d_X1_init_23 : decode cX1_init 23 = .ok (.newarray .int, 2) := by decide +kernel
theorem d_X1_init_25 : decode cX1_init 25 = .ok (.putfield 18, 3) := by decide +kernel
theorem d_X1_init_28 : decode cX1_init 28 = .ok (.aload_n 0, 1) := by decide +kernel
theorem d_X1_init_29 : decode cX1_init 29 = .ok (.bipush 7, 2) := by decide +kernel
theorem d_X1_init_31 : decode cX1_init 31 = .ok (.newarray .int, 2) := by decide +kernel
theorem d_X1_init_33 : decode cX1_init 33 = .ok (.putfield 21, 3) := by decide +kernel
theorem d_X1_init_36 : decode cX1_init 36 = .ok (.aload_n 0, 1) := by decide +kernel
theorem d_X1_init_37 : decode cX1_init 37 = .ok (.bipush 7, 2) := by decide +kernel
theorem d_X1_init_39 : decode cX1_init 39 = .ok (.newarray .int, 2) := by decide +kernel
theorem d_X1_init_41 : decode cX1_init 41 = .ok (.putfield 24, 3) := by decide +kernel
theorem d_X1_init_44 : decode cX1_init 44 = .ok (.aload_n 0, 1) := by decide +kernel
theorem d_X1_init_45 : decode cX1_init 45 = .ok (.iconst 0, 1) := by decide +kernel
theorem d_X1_init_46 : decode cX1_init 46 = .ok (.putfield 27, 3) := by decide +kernel
theorem d_X1_init_49 : decode cX1_init 49 = .ok (.aload_n 0, 1) := by decide +kernel
theorem d_X1_init_50 : decode cX1_init 50 = .ok (.iconst 0, 1) := by decide +kernel
theorem d_X1_init_51 : decode cX1_init 51 = .ok (.putfield 31, 3) := by decide +kernel
theorem d_X1_init_54 : decode cX1_init 54 = .ok (.aload_n 0, 1) := by decide +kernel
theorem d_X1_init_55 : decode cX1_init 55 = .ok (.iconst 0, 1) := by decide +kernel
theorem d_X1_init_56 : decode cX1_init 56 = .ok (.putfield 35, 3) := by decide +kernel
theorem d_X1_init_59 : decode cX1_init 59 = .ok (.aload_n 0, 1) := by decide +kernel
theorem d_X1_init_60 : decode cX1_init 60 = .ok (.iconst 0, 1) := by decide +kernel
theorem d_X1_init_61 : decode cX1_init 61 = .ok (.putfield 38, 3) := by decide +kernel
theorem d_X1_init_64 : decode cX1_init 64 = .ok (.aload_n 0, 1) := by decide +kernel
theorem d_X1_init_65 : decode cX1_init 65 = .ok (.iconst 0, 1) := by decide +kernel
theorem d_X1_init_66 : decode cX1_init 66 = .ok (.putfield 41, 3) := by decide +kernel
theorem d_X1_init_69 : decode cX1_init 69 = .ok (.aload_n 0, 1) := by decide +kernel
theorem d_X1_init_70 : decode cX1_init 70 = .ok (.iconst 0, 1) := by decide +kernel
theorem d_X1_init_71 : decode cX1_init 71 = .ok (.putfield 44, 3) := by decide +kernel
theorem d_X1_init_74 : decode cX1_init 74 = .ok (.return_, 1) := by decide +kernel
abbrev X_X1_init : gX := (RX1, cX1_init, 1, none, true)
def F_X1_init_b0 (l0 : Nat) (M : gM) : Option gM :=
  (pR 1 (nw (20, 7) M) (some l0) 0 (some M.1.length)).bind fun M1 => (pR 1 (nw (20, 7) M1) (some l0) 1 (some M1.1.length)).bind fun M2 => (pR 1 (nw (20, 7) M2) (some l0) 2 (some M2.1.length)).bind fun M3 => (pR 1 (nw (20, 7) M3) (some l0) 3 (some M3.1.length)).bind fun M4 => (pR 1 (nw (20, 7) M4) (some l0) 4 (some M4.1.length)).bind fun M5 => (pI 1 M5 (some l0) 5 (0 : Int32)).bind fun M6 => (pI 1 M6 (some l0) 6 (0 : Int32)).bind fun M7 => (pI 1 M7 (some l0) 7 (0 : Int32)).bind fun M8 => (pI 1 M8 (some l0) 8 (0 : Int32)).bind fun M9 => (pI 1 M9 (some l0) 9 (0 : Int32)).bind fun M10 => (pI 1 M10 (some l0) 10 (0 : Int32)).bind fun M11 => some M11
set_option maxHeartbeats 1000000 in
theorem T_X1_init_b0 (r : gM) (l0 : Nat) (M : gM) (h : F_X1_init_b0 l0 M = some r) : GW 1 5 35 X_X1_init 0 [(0, vr (some l0))] [] M (none, r) := by
  delta F_X1_init_b0 at h
  refine GW_aload_n (X := X_X1_init) (pc := 0) d_X1_init_0 rfl 0 rfl ?_
  refine GW_objInit (X := X_X1_init) (pc := 1) ⟨m_265, g_w_objI.1, g_w_objI.2⟩ d_X1_init_1 (Nat.le_of_ble_eq_true rfl) (Nat.le_of_ble_eq_true rfl) ?_
  refine GW_aload_n (X := X_X1_init) (pc := 4) d_X1_init_4 rfl 0 rfl ?_
  refine GW_bipush (X := X_X1_init) (pc := 5) (v := 7) d_X1_init_5 (by decide) ?_
  refine GW_newa_int (X := X_X1_init) (pc := 7) (N := 7) g_w_arrc.1.1 d_X1_init_7 (by decide) (by decide) (by decide) 4 28 rfl (Nat.le_of_ble_eq_true rfl) ?_
  replace h := g_bd h
  obtain ⟨M1, hM1, h⟩ := h
  refine GW_putR (X := X_X1_init) (pc := 9) f_X1_9 d_X1_init_9 hM1 (Or.inr ⟨rfl, fi_1_0⟩) (Or.inr ⟨_, ty_1_0⟩) ?_
  refine GW_aload_n (X := X_X1_init) (pc := 12) d_X1_init_12 rfl 0 rfl ?_
  refine GW_bipush (X := X_X1_init) (pc := 13) (v := 7) d_X1_init_13 (by decide) ?_
  refine GW_newa_int (X := X_X1_init) (pc := 15) (N := 7) g_w_arrc.1.1 d_X1_init_15 (by decide) (by decide) (by decide) 3 21 rfl (Nat.le_of_ble_eq_true rfl) ?_
  replace h := g_bd h
  obtain ⟨M2, hM2, h⟩ := h
  refine GW_putR (X := X_X1_init) (pc := 17) f_X1_15 d_X1_init_17 hM2 (Or.inr ⟨rfl, fi_1_1⟩) (Or.inr ⟨_, ty_1_1⟩) ?_
  refine GW_aload_n (X := X_X1_init) (pc := 20) d_X1_init_20 rfl 0 rfl ?_
  refine GW_bipush (X := X_X1_init) (pc := 21) (v := 7) d_X1_init_21 (by decide) ?_
  refine GW_newa_int (X := X_X1_init) (pc := 23) (N := 7) g_w_arrc.1.1 d_X1_init_23 (by decide) (by decide) (by decide) 2 14 rfl (Nat.le_of_ble_eq_true rfl) ?_
  replace h := g_bd h
  obtain ⟨M3, hM3, h⟩ := h
  refine GW_putR (X := X_X1_init) (pc := 25) f_X1_18 d_X1_init_25 hM3 (Or.inr ⟨rfl, fi_1_2⟩) (Or.inr ⟨_, ty_1_2⟩) ?_
  refine GW_aload_n (X := X_X1_init) (pc := 28) d_X1_init_28 rfl 0 rfl ?_
  refine GW_bipush (X := X_X1_init) (pc := 29) (v := 7) d_X1_init_29 (by decide) ?_
  refine GW_newa_int (X := X_X1_init) (pc := 31) (N := 7) g_w_arrc.1.1 d_X1_init_31 (by decide) (by decide) (by decide) 1 7 rfl (Nat.le_of_ble_eq_true rfl) ?_
  replace h := g_bd h
  obtain ⟨M4, hM4, h⟩ := h
  refine GW_putR (X := X_X1_init) (pc := 33) f_X1_21 d_X1_init_33 hM4 (Or.inr ⟨rfl, fi_1_3⟩) (Or.inr ⟨_, ty_1_3⟩) ?_
  refine GW_aload_n (X := X_X1_init) (pc := 36) d_X1_init_36 rfl 0 rfl ?_
  refine GW_bipush (X := X_X1_init) (pc := 37) (v := 7) d_X1_init_37 (by decide) ?_
  refine GW_newa_int (X := X_X1_init) (pc := 39) (N := 7) g_w_arrc.1.1 d_X1_init_39 (by decide) (by decide) (by decide) 0 0 rfl (Nat.le_of_ble_eq_true rfl) ?_
  replace h := g_bd h
  obtain ⟨M5, hM5, h⟩ := h
  refine GW_putR (X := X_X1_init) (pc := 41) f_X1_24 d_X1_init_41 hM5 (Or.inr ⟨rfl, fi_1_4⟩) (Or.inr ⟨_, ty_1_4⟩) ?_
  refine GW_aload_n (X := X_X1_init) (pc := 44) d_X1_init_44 rfl 0 rfl ?_
  refine GW_iconst (X := X_X1_init) (pc := 45) (v := 0) d_X1_init_45 (by decide) ?_
  replace h := g_bd h
  obtain ⟨M6, hM6, h⟩ := h
  refine GW_putI (X := X_X1_init) (pc := 46) f_X1_27 d_X1_init_46 hM6 (Or.inl fi_1_5) (Or.inr ⟨ty_1_5, by decide⟩) ?_
  refine GW_aload_n (X := X_X1_init) (pc := 49) d_X1_init_49 rfl 0 rfl ?_
  refine GW_iconst (X := X_X1_init) (pc := 50) (v := 0) d_X1_init_50 (by decide) ?_
  replace h := g_bd h
  obtain ⟨M7, hM7, h⟩ := h
  refine GW_putI (X := X_X1_init) (pc := 51) f_X1_31 d_X1_init_51 hM7 (Or.inl fi_1_6) (Or.inl ty_1_6) ?_
  refine GW_aload_n (X := X_X1_init) (pc := 54) d_X1_init_54 rfl 0 rfl ?_
  refine GW_iconst (X := X_X1_init) (pc := 55) (v := 0) d_X1_init_55 (by decide) ?_
  replace h := g_bd h
  obtain ⟨M8, hM8, h⟩ := h
  refine GW_putI (X := X_X1_init) (pc := 56) f_X1_35 d_X1_init_56 hM8 (Or.inl fi_1_7) (Or.inl ty_1_7) ?_
  refine GW_aload_n (X := X_X1_init) (pc := 59) d_X1_init_59 rfl 0 rfl ?_
  refine GW_iconst (X := X_X1_init) (pc := 60) (v := 0) d_X1_init_60 (by decide) ?_
  replace h := g_bd h
  obtain ⟨M9, hM9, h⟩ := h
  refine GW_putI (X := X_X1_init) (pc := 61) f_X1_38 d_X1_init_61 hM9 (Or.inl fi_1_8) (Or.inl ty_1_8) ?_
  refine GW_aload_n (X := X_X1_init) (pc := 64) d_X1_init_64 rfl 0 rfl ?_
  refine GW_iconst (X := X_X1_init) (pc := 65) (v := 0) d_X1_init_65 (by decide) ?_
  replace h := g_bd h
  obtain ⟨M10, hM10, h⟩ := h
  refine GW_putI (X := X_X1_init) (pc := 66) f_X1_41 d_X1_init_66 hM10 (Or.inl fi_1_9) (Or.inl ty_1_9) ?_
  refine GW_aload_n (X := X_X1_init) (pc := 69) d_X1_init_69 rfl 0 rfl ?_
  refine GW_iconst (X := X_X1_init) (pc := 70) (v := 0) d_X1_init_70 (by decide) ?_
  replace h := g_bd h
  obtain ⟨M11, hM11, h⟩ := h
  refine GW_putI (X := X_X1_init) (pc := 71) f_X1_44 d_X1_init_71 hM11 (Or.inl fi_1_10) (Or.inl ty_1_10) ?_
  replace h := Option.some.inj h
  subst h
  exact GW_ret (X := X_X1_init) (pc := 74) d_X1_init_74 rfl trivial
def F_X1_init (l0 : Nat) (M : gM) : Option gM := F_X1_init_b0 l0 M
theorem T_X1_init (l0 : Nat) (M : gM) (r : gM) (h : F_X1_init l0 M = some r) : g_Met 1 5 35 yX1_init X_X1_init [vr (some l0)] M (none, r) :=
  g_Met_of pn_RX1 rfl (Nat.le_of_ble_eq_true rfl) (fun _ => rfl) (GW_sub [0] rfl (T_X1_init_b0 r l0 M h))
/-! ForgetHeirs$Tape.<init>()V -/
theorem d_X9_init_0 : decode cX9_init 0 = .ok (.aload_n 0, 1) := by decide +kernel
theorem d_X9_init_1 : decode cX9_init 1 = .ok (.invokespecial 5, 3) := by decide +kernel
theorem d_X9_init_4 : decode cX9_init 4 = .ok (.aload_n 0, 1) := by decide +kernel
theorem d_X9_init_5 : decode cX9_init 5 = .ok (.sipush 400, 3) := by decide +kernel
theorem d_X9_init_8 : decode cX9_init 8 = .ok (.newarray .byte, 2) := by decide +kernel
theorem d_X9_init_10 : decode cX9_init 10 = .ok (.putfield 11, 3) := by decide +kernel
theorem d_X9_init_13 : decode cX9_init 13 = .ok (.aload_n 0, 1) := by decide +kernel
theorem d_X9_init_14 : decode cX9_init 14 = .ok (.sipush 401, 3) := by decide +kernel
theorem d_X9_init_17 : decode cX9_init 17 = .ok (.newarray .int, 2) := by decide +kernel
theorem d_X9_init_19 : decode cX9_init 19 = .ok (.putfield 15, 3) := by decide +kernel
theorem d_X9_init_22 : decode cX9_init 22 = .ok (.aload_n 0, 1) := by decide +kernel
theorem d_X9_init_23 : decode cX9_init 23 = .ok (.sipush 401, 3) := by decide +kernel
theorem d_X9_init_26 : decode cX9_init 26 = .ok (.newarray .int, 2) := by decide +kernel
theorem d_X9_init_28 : decode cX9_init 28 = .ok (.putfield 19, 3) := by decide +kernel
theorem d_X9_init_31 : decode cX9_init 31 = .ok (.aload_n 0, 1) := by decide +kernel
theorem d_X9_init_32 : decode cX9_init 32 = .ok (.sipush 401, 3) := by decide +kernel
theorem d_X9_init_35 : decode cX9_init 35 = .ok (.newarray .int, 2) := by decide +kernel
theorem d_X9_init_37 : decode cX9_init 37 = .ok (.putfield 22, 3) := by decide +kernel
theorem d_X9_init_40 : decode cX9_init 40 = .ok (.aload_n 0, 1) := by decide +kernel
theorem d_X9_init_41 : decode cX9_init 41 = .ok (.iconst 0, 1) := by decide +kernel
theorem d_X9_init_42 : decode cX9_init 42 = .ok (.putfield 25, 3) := by decide +kernel
theorem d_X9_init_45 : decode cX9_init 45 = .ok (.aload_n 0, 1) := by decide +kernel
theorem d_X9_init_46 : decode cX9_init 46 = .ok (.iconst 0, 1) := by decide +kernel
theorem d_X9_init_47 : decode cX9_init 47 = .ok (.putfield 29, 3) := by decide +kernel
theorem d_X9_init_50 : decode cX9_init 50 = .ok (.aload_n 0, 1) := by decide +kernel
theorem d_X9_init_51 : decode cX9_init 51 = .ok (.iconst 0, 1) := by decide +kernel
theorem d_X9_init_52 : decode cX9_init 52 = .ok (.putfield 32, 3) := by decide +kernel
theorem d_X9_init_55 : decode cX9_init 55 = .ok (.aload_n 0, 1) := by decide +kernel
theorem d_X9_init_56 : decode cX9_init 56 = .ok (.iconst 0, 1) := by decide +kernel
theorem d_X9_init_57 : decode cX9_init 57 = .ok (.putfield 35, 3) := by decide +kernel
theorem d_X9_init_60 : decode cX9_init 60 = .ok (.return_, 1) := by decide +kernel
abbrev X_X9_init : gX := (RX9, cX9_init, 1, none, true)
def F_X9_init_b0 (l0 : Nat) (M : gM) : Option gM :=
  (pR 9 (nw (22, 400) M) (some l0) 0 (some M.1.length)).bind fun M1 => (pR 9 (nw (20, 401) M1) (some l0) 1 (some M1.1.length)).bind fun M2 => (pR 9 (nw (20, 401) M2) (some l0) 2 (some M2.1.length)).bind fun M3 => (pR 9 (nw (20, 401) M3) (some l0) 3 (some M3.1.length)).bind fun M4 => (pI 9 M4 (some l0) 4 (0 : Int32)).bind fun M5 => (pI 9 M5 (some l0) 5 (0 : Int32)).bind fun M6 => (pI 9 M6 (some l0) 6 (0 : Int32)).bind fun M7 => (pI 9 M7 (some l0) 7 (0 : Int32)).bind fun M8 => some M8
set_option maxHeartbeats 1000000 in
theorem T_X9_init_b0 (r : gM) (l0 : Nat) (M : gM) (h : F_X9_init_b0 l0 M = some r) : GW 1 4 1603 X_X9_init 0 [(0, vr (some l0))] [] M (none, r) := by
  delta F_X9_init_b0 at h
  refine GW_aload_n (X := X_X9_init) (pc := 0) d_X9_init_0 rfl 0 rfl ?_
  refine GW_objInit (X := X_X9_init) (pc := 1) ⟨m_337, g_w_objI.1, g_w_objI.2⟩ d_X9_init_1 (Nat.le_of_ble_eq_true rfl) (Nat.le_of_ble_eq_true rfl) ?_
  refine GW_aload_n (X := X_X9_init) (pc := 4) d_X9_init_4 rfl 0 rfl ?_
  refine GW_sipush (X := X_X9_init) (pc := 5) (v := 400) d_X9_init_5 (by decide) ?_
  refine GW_newa_byte (X := X_X9_init) (pc := 8) (N := 400) g_w_arrc.2.1 d_X9_init_8 (by decide) (by decide) (by decide) 3 1203 rfl (Nat.le_of_ble_eq_true rfl) ?_
  replace h := g_bd h
  obtain ⟨M1, hM1, h⟩ := h
  refine GW_putR (X := X_X9_init) (pc := 10) f_X9_11 d_X9_init_10 hM1 (Or.inr ⟨rfl, fi_9_0⟩) (Or.inr ⟨_, ty_9_0⟩) ?_
  refine GW_aload_n (X := X_X9_init) (pc := 13) d_X9_init_13 rfl 0 rfl ?_
  refine GW_sipush (X := X_X9_init) (pc := 14) (v := 401) d_X9_init_14 (by decide) ?_
  refine GW_newa_int (X := X_X9_init) (pc := 17) (N := 401) g_w_arrc.1.1 d_X9_init_17 (by decide) (by decide) (by decide) 2 802 rfl (Nat.le_of_ble_eq_true rfl) ?_
  replace h := g_bd h
  obtain ⟨M2, hM2, h⟩ := h
  refine GW_putR (X := X_X9_init) (pc := 19) f_X9_15 d_X9_init_19 hM2 (Or.inr ⟨rfl, fi_9_1⟩) (Or.inr ⟨_, ty_9_1⟩) ?_
  refine GW_aload_n (X := X_X9_init) (pc := 22) d_X9_init_22 rfl 0 rfl ?_
  refine GW_sipush (X := X_X9_init) (pc := 23) (v := 401) d_X9_init_23 (by decide) ?_
  refine GW_newa_int (X := X_X9_init) (pc := 26) (N := 401) g_w_arrc.1.1 d_X9_init_26 (by decide) (by decide) (by decide) 1 401 rfl (Nat.le_of_ble_eq_true rfl) ?_
  replace h := g_bd h
  obtain ⟨M3, hM3, h⟩ := h
  refine GW_putR (X := X_X9_init) (pc := 28) f_X9_19 d_X9_init_28 hM3 (Or.inr ⟨rfl, fi_9_2⟩) (Or.inr ⟨_, ty_9_2⟩) ?_
  refine GW_aload_n (X := X_X9_init) (pc := 31) d_X9_init_31 rfl 0 rfl ?_
  refine GW_sipush (X := X_X9_init) (pc := 32) (v := 401) d_X9_init_32 (by decide) ?_
  refine GW_newa_int (X := X_X9_init) (pc := 35) (N := 401) g_w_arrc.1.1 d_X9_init_35 (by decide) (by decide) (by decide) 0 0 rfl (Nat.le_of_ble_eq_true rfl) ?_
  replace h := g_bd h
  obtain ⟨M4, hM4, h⟩ := h
  refine GW_putR (X := X_X9_init) (pc := 37) f_X9_22 d_X9_init_37 hM4 (Or.inr ⟨rfl, fi_9_3⟩) (Or.inr ⟨_, ty_9_3⟩) ?_
  refine GW_aload_n (X := X_X9_init) (pc := 40) d_X9_init_40 rfl 0 rfl ?_
  refine GW_iconst (X := X_X9_init) (pc := 41) (v := 0) d_X9_init_41 (by decide) ?_
  replace h := g_bd h
  obtain ⟨M5, hM5, h⟩ := h
  refine GW_putI (X := X_X9_init) (pc := 42) f_X9_25 d_X9_init_42 hM5 (Or.inl fi_9_4) (Or.inl ty_9_4) ?_
  refine GW_aload_n (X := X_X9_init) (pc := 45) d_X9_init_45 rfl 0 rfl ?_
  refine GW_iconst (X := X_X9_init) (pc := 46) (v := 0) d_X9_init_46 (by decide) ?_
  replace h := g_bd h
  obtain ⟨M6, hM6, h⟩ := h
  refine GW_putI (X := X_X9_init) (pc := 47) f_X9_29 d_X9_init_47 hM6 (Or.inl fi_9_5) (Or.inl ty_9_5) ?_
  refine GW_aload_n (X := X_X9_init) (pc := 50) d_X9_init_50 rfl 0 rfl ?_
  refine GW_iconst (X := X_X9_init) (pc := 51) (v := 0) d_X9_init_51 (by decide) ?_
  replace h := g_bd h
  obtain ⟨M7, hM7, h⟩ := h
  refine GW_putI (X := X_X9_init) (pc := 52) f_X9_32 d_X9_init_52 hM7 (Or.inl fi_9_6) (Or.inl ty_9_6) ?_
  refine GW_aload_n (X := X_X9_init) (pc := 55) d_X9_init_55 rfl 0 rfl ?_
  refine GW_iconst (X := X_X9_init) (pc := 56) (v := 0) d_X9_init_56 (by decide) ?_
  replace h := g_bd h
  obtain ⟨M8, hM8, h⟩ := h
  refine GW_putI (X := X_X9_init) (pc := 57) f_X9_35 d_X9_init_57 hM8 (Or.inl fi_9_7) (Or.inl ty_9_7) ?_
  replace h := Option.some.inj h
  subst h
  exact GW_ret (X := X_X9_init) (pc := 60) d_X9_init_60 rfl trivial
def F_X9_init (l0 : Nat) (M : gM) : Option gM := F_X9_init_b0 l0 M
theorem T_X9_init (l0 : Nat) (M : gM) (r : gM) (h : F_X9_init l0 M = some r) : g_Met 1 4 1603 yX9_init X_X9_init [vr (some l0)] M (none, r) :=
  g_Met_of pn_RX9 rfl (Nat.le_of_ble_eq_true rfl) (fun _ => rfl) (GW_sub [0] rfl (T_X9_init_b0 r l0 M h))
/-! ForgetHeirs$HouseReader.<init>(LForgetHeirs$Tape;)V -/
theorem d_X2_init_0 : decode cX2_init 0 = .ok (.aload_n 0, 1) := by decide +kernel
theorem d_X2_init_1 : decode cX2_init 1 = .ok (.invokespecial 3, 3) := by decide +kernel
theorem d_X2_init_4 : decode cX2_init 4 = .ok (.aload_n 0, 1) := by decide +kernel
theorem d_X2_init_5 : decode cX2_init 5 = .ok (.new 9, 3) := by decide +kernel
theorem d_X2_init_8 : decode cX2_init 8 = .ok (.dup, 1) := by decide +kernel
theorem d_X2_init_9 : decode cX2_init 9 = .ok (.invokespecial 11, 3) := by decide +kernel
theorem d_X2_init_12 : decode cX2_init 12 = .ok (.putfield 12, 3) := by decide +kernel
theorem d_X2_init_15 : decode cX2_init 15 = .ok (.aload_n 0, 1) := by decide +kernel
theorem d_X2_init_16 : decode cX2_init 16 = .ok (.new 18, 3) := by decide +kernel
theorem d_X2_init_19 : decode cX2_init 19 = .ok (.dup, 1) := by decide +kernel
theorem d_X2_init_20 : decode cX2_init 20 = .ok (.invokespecial 20, 3) := by decide +kernel
theorem d_X2_init_23 : decode cX2_init 23 = .ok (.putfield 21, 3) := by decide +kernel
theorem d_X2_init_26 : decode cX2_init 26 = .ok (.aload_n 0, 1) := by decide +kernel
theorem d_X2_init_27 : decode cX2_init 27 = .ok (.aload_n 1, 1) := by decide +kernel
theorem d_X2_init_28 : decode cX2_init 28 = .ok (.putfield 25, 3) := by decide +kernel
theorem d_X2_init_31 : decode cX2_init 31 = .ok (.return_, 1) := by decide +kernel
abbrev X_X2_init : gX := (RX2, cX2_init, 2, none, true)
def F_X2_init_b0 (l0 : Nat) (l1 : Option Nat) (M : gM) : Option gM :=
  (F_X1_init M.1.length (nw (1, 0) M)).bind fun M1 => (pR 2 M1 (some l0) 1 (some M.1.length)).bind fun M2 => (F_X8_init M2.1.length (nw (8, 0) M2)).bind fun M3 => (pR 2 M3 (some l0) 2 (some M2.1.length)).bind fun M4 => (pR 2 M4 (some l0) 0 l1).bind fun M5 => some M5
theorem T_X2_init_b0 (r : gM) (l0 : Nat) (l1 : Option Nat) (M : gM) (h : F_X2_init_b0 l0 l1 M = some r) : GW 2 11 165 X_X2_init 0 [(0, vr (some l0)), (1, vr l1)] [] M (none, r) := by
  delta F_X2_init_b0 at h
  refine GW_aload_n (X := X_X2_init) (pc := 0) d_X2_init_0 rfl 0 rfl ?_
  refine GW_objInit (X := X_X2_init) (pc := 1) ⟨m_371, g_w_objI.1, g_w_objI.2⟩ d_X2_init_1 (Nat.le_of_ble_eq_true rfl) (Nat.le_of_ble_eq_true rfl) ?_
  refine GW_aload_n (X := X_X2_init) (pc := 4) d_X2_init_4 rfl 0 rfl ?_
  refine GW_new (X := X_X2_init) (pc := 5) (c := 1) g_cok1 nf_1 ⟨m_372, m_261, m_122⟩ d_X2_init_5 10 154 rfl rfl ?_
  refine GW_dup (X := X_X2_init) (pc := 8) d_X2_init_8 rfl ?_
  replace h := g_bd h
  obtain ⟨M1, hM1, h⟩ := h
  refine GW_callIN (X := X_X2_init) (pc := 9) (bc0 := 5) (bs0 := 119) (M2 := M1) (host := RX11) (T_X1_init M.1.length (nw (1, 0) M) M1 hM1) (Nat.le_of_ble_eq_true rfl) (Nat.le_of_ble_eq_true rfl) rfl rfl yc_X1_init (List.mem_of_getElem? (i := 7) rfl) ⟨m_263, m_122, m_264⟩ d_X2_init_9 rfl (st := [vr (some M.1.length), vr (some l0)]) rfl (Nat.le_of_ble_eq_true rfl) (Nat.le_of_ble_eq_true rfl) (Nat.le_of_ble_eq_true rfl) ?_
  replace h := g_bd h
  obtain ⟨M2, hM2, h⟩ := h
  refine GW_putR (X := X_X2_init) (pc := 12) f_X2_12 d_X2_init_12 hM2 (Or.inl fi_2_1) (Or.inl ⟨_, ty_2_1⟩) ?_
  refine GW_aload_n (X := X_X2_init) (pc := 15) d_X2_init_15 rfl 0 rfl ?_
  refine GW_new (X := X_X2_init) (pc := 16) (c := 8) g_cok8 nf_8 ⟨m_374, m_179, m_119⟩ d_X2_init_16 4 112 rfl rfl ?_
  refine GW_dup (X := X_X2_init) (pc := 19) d_X2_init_19 rfl ?_
  replace h := g_bd h
  obtain ⟨M3, hM3, h⟩ := h
  refine GW_callIN (X := X_X2_init) (pc := 20) (bc0 := 0) (bs0 := 0) (M2 := M3) (host := RX11) (T_X8_init M2.1.length (nw (8, 0) M2) M3 hM3) (Nat.le_of_ble_eq_true rfl) (Nat.le_of_ble_eq_true rfl) rfl rfl yc_X8_init (List.mem_of_getElem? (i := 8) rfl) ⟨m_181, m_119, m_182⟩ d_X2_init_20 rfl (st := [vr (some M2.1.length), vr (some l0)]) rfl (Nat.le_of_ble_eq_true rfl) (Nat.le_of_ble_eq_true rfl) (Nat.le_of_ble_eq_true rfl) ?_
  replace h := g_bd h
  obtain ⟨M4, hM4, h⟩ := h
  refine GW_putR (X := X_X2_init) (pc := 23) f_X2_21 d_X2_init_23 hM4 (Or.inr ⟨rfl, fi_2_2⟩) (Or.inl ⟨_, ty_2_2⟩) ?_
  refine GW_aload_n (X := X_X2_init) (pc := 26) d_X2_init_26 rfl 0 rfl ?_
  refine GW_aload_n (X := X_X2_init) (pc := 27) d_X2_init_27 rfl 1 rfl ?_
  replace h := g_bd h
  obtain ⟨M5, hM5, h⟩ := h
  refine GW_putR (X := X_X2_init) (pc := 28) f_X2_25 d_X2_init_28 hM5 (Or.inr ⟨rfl, fi_2_0⟩) (Or.inl ⟨_, ty_2_0⟩) ?_
  replace h := Option.some.inj h
  subst h
  exact GW_ret (X := X_X2_init) (pc := 31) d_X2_init_31 rfl trivial
def F_X2_init (l0 : Nat) (l1 : Option Nat) (M : gM) : Option gM := F_X2_init_b0 l0 l1 M
theorem T_X2_init (l0 : Nat) (l1 : Option Nat) (M : gM) (r : gM) (h : F_X2_init l0 l1 M = some r) : g_Met 2 11 165 yX2_init X_X2_init [vr (some l0), vr l1] M (none, r) :=
  g_Met_of pn_RX2 rfl (Nat.le_of_ble_eq_true rfl) (fun _ => rfl) (GW_sub [0, 1] rfl (T_X2_init_b0 r l0 l1 M h))
/-! ForgetHeirs$RuleReader.<init>(LForgetHeirs$Tape;)V -/
theorem d_X7_init_0 : decode cX7_init 0 = .ok (.aload_n 0, 1) := by decide +kernel
theorem d_X7_init_1 : decode cX7_init 1 = .ok (.invokespecial 3, 3) := by decide +kernel
theorem d_X7_init_4 : decode cX7_init 4 = .ok (.aload_n 0, 1) := by decide +kernel
theorem d_X7_init_5 : decode cX7_init 5 = .ok (.sipush 400, 3) := by decide +kernel
theorem d_X7_init_8 : decode cX7_init 8 = .ok (.newarray .int, 2) := by decide +kernel
theorem d_X7_init_10 : decode cX7_init 10 = .ok (.putfield 11, 3) := by decide +kernel
theorem d_X7_init_13 : decode cX7_init 13 = .ok (.aload_n 0, 1) := by decide +kernel
theorem d_X7_init_14 : decode cX7_init 14 = .ok (.bipush 36, 2) := by decide +kernel
theorem d_X7_init_16 : decode cX7_init 16 = .ok (.newarray .int, 2) := by decide +kernel
theorem d_X7_init_18 : decode cX7_init 18 = .ok (.putfield 17, 3) := by decide +kernel
theorem d_X7_init_21 : decode cX7_init 21 = .ok (.aload_n 0, 1) := by decide +kernel
theorem d_X7_init_22 : decode cX7_init 22 = .ok (.iconst 0, 1) := by decide +kernel
theorem d_X7_init_23 : decode cX7_init 23 = .ok (.putfield 20, 3) := by decide +kernel
theorem d_X7_init_26 : decode cX7_init 26 = .ok (.aload_n 0, 1) := by decide +kernel
theorem d_X7_init_27 : decode cX7_init 27 = .ok (.iconst 0, 1) := by decide +kernel
theorem d_X7_init_28 : decode cX7_init 28 = .ok (.putfield 24, 3) := by decide +kernel
theorem d_X7_init_31 : decode cX7_init 31 = .ok (.aload_n 0, 1) := by decide +kernel
theorem d_X7_init_32 : decode cX7_init 32 = .ok (.iconst 0, 1) := by decide +kernel
theorem d_X7_init_33 : decode cX7_init 33 = .ok (.putfield 27, 3) := by decide +kernel
theorem d_X7_init_36 : decode cX7_init 36 = .ok (.aload_n 0, 1) := by decide +kernel
theorem d_X7_init_37 : decode cX7_init 37 = .ok (.aload_n 1, 1) := by decide +kernel
theorem d_X7_init_38 : decode cX7_init 38 = .ok (.putfield 30, 3) := by decide +kernel
theorem d_X7_init_41 : decode cX7_init 41 = .ok (.return_, 1) := by decide +kernel
abbrev X_X7_init : gX := (RX7, cX7_init, 2, none, true)
def F_X7_init_b0 (l0 : Nat) (l1 : Option Nat) (M : gM) : Option gM :=
  (pR 7 (nw (20, 400) M) (some l0) 1 (some M.1.length)).bind fun M1 => (pR 7 (nw (20, 36) M1) (some l0) 2 (some M1.1.length)).bind fun M2 => (pI 7 M2 (some l0) 3 (0 : Int32)).bind fun M3 => (pI 7 M3 (some l0) 4 (0 : Int32)).bind fun M4 => (pI 7 M4 (some l0) 5 (0 : Int32)).bind fun M5 => (pR 7 M5 (some l0) 0 l1).bind fun M6 => some M6
theorem T_X7_init_b0 (r : gM) (l0 : Nat) (l1 : Option Nat) (M : gM) (h : F_X7_init_b0 l0 l1 M = some r) : GW 1 2 436 X_X7_init 0 [(0, vr (some l0)), (1, vr l1)] [] M (none, r) := by
  delta F_X7_init_b0 at h
  refine GW_aload_n (X := X_X7_init) (pc := 0) d_X7_init_0 rfl 0 rfl ?_
  refine GW_objInit (X := X_X7_init) (pc := 1) ⟨m_392, g_w_objI.1, g_w_objI.2⟩ d_X7_init_1 (Nat.le_of_ble_eq_true rfl) (Nat.le_of_ble_eq_true rfl) ?_
  refine GW_aload_n (X := X_X7_init) (pc := 4) d_X7_init_4 rfl 0 rfl ?_
  refine GW_sipush (X := X_X7_init) (pc := 5) (v := 400) d_X7_init_5 (by decide) ?_
  refine GW_newa_int (X := X_X7_init) (pc := 8) (N := 400) g_w_arrc.1.1 d_X7_init_8 (by decide) (by decide) (by decide) 1 36 rfl (Nat.le_of_ble_eq_true rfl) ?_
  replace h := g_bd h
  obtain ⟨M1, hM1, h⟩ := h
  refine GW_putR (X := X_X7_init) (pc := 10) f_X7_11 d_X7_init_10 hM1 (Or.inr ⟨rfl, fi_7_1⟩) (Or.inr ⟨_, ty_7_1⟩) ?_
  refine GW_aload_n (X := X_X7_init) (pc := 13) d_X7_init_13 rfl 0 rfl ?_
  refine GW_bipush (X := X_X7_init) (pc := 14) (v := 36) d_X7_init_14 (by decide) ?_
  refine GW_newa_int (X := X_X7_init) (pc := 16) (N := 36) g_w_arrc.1.1 d_X7_init_16 (by decide) (by decide) (by decide) 0 0 rfl (Nat.le_of_ble_eq_true rfl) ?_
  replace h := g_bd h
  obtain ⟨M2, hM2, h⟩ := h
  refine GW_putR (X := X_X7_init) (pc := 18) f_X7_17 d_X7_init_18 hM2 (Or.inr ⟨rfl, fi_7_2⟩) (Or.inr ⟨_, ty_7_2⟩) ?_
  refine GW_aload_n (X := X_X7_init) (pc := 21) d_X7_init_21 rfl 0 rfl ?_
  refine GW_iconst (X := X_X7_init) (pc := 22) (v := 0) d_X7_init_22 (by decide) ?_
  replace h := g_bd h
  obtain ⟨M3, hM3, h⟩ := h
  refine GW_putI (X := X_X7_init) (pc := 23) f_X7_20 d_X7_init_23 hM3 (Or.inl fi_7_3) (Or.inl ty_7_3) ?_
  refine GW_aload_n (X := X_X7_init) (pc := 26) d_X7_init_26 rfl 0 rfl ?_
  refine GW_iconst (X := X_X7_init) (pc := 27) (v := 0) d_X7_init_27 (by decide) ?_
  replace h := g_bd h
  obtain ⟨M4, hM4, h⟩ := h
  refine GW_putI (X := X_X7_init) (pc := 28) f_X7_24 d_X7_init_28 hM4 (Or.inl fi_7_4) (Or.inl ty_7_4) ?_
  refine GW_aload_n (X := X_X7_init) (pc := 31) d_X7_init_31 rfl 0 rfl ?_
  refine GW_iconst (X := X_X7_init) (pc := 32) (v := 0) d_X7_init_32 (by decide) ?_
  replace h := g_bd h
  obtain ⟨M5, hM5, h⟩ := h
  refine GW_putI (X := X_X7_init) (pc := 33) f_X7_27 d_X7_init_33 hM5 (Or.inl fi_7_5) (Or.inl ty_7_5) ?_
  refine GW_aload_n (X := X_X7_init) (pc := 36) d_X7_init_36 rfl 0 rfl ?_
  refine GW_aload_n (X := X_X7_init) (pc := 37) d_X7_init_37 rfl 1 rfl ?_
  replace h := g_bd h
  obtain ⟨M6, hM6, h⟩ := h
  refine GW_putR (X := X_X7_init) (pc := 38) f_X7_30 d_X7_init_38 hM6 (Or.inr ⟨rfl, fi_7_0⟩) (Or.inl ⟨_, ty_7_0⟩) ?_
  replace h := Option.some.inj h
  subst h
  exact GW_ret (X := X_X7_init) (pc := 41) d_X7_init_41 rfl trivial
def F_X7_init (l0 : Nat) (l1 : Option Nat) (M : gM) : Option gM := F_X7_init_b0 l0 l1 M
theorem T_X7_init (l0 : Nat) (l1 : Option Nat) (M : gM) (r : gM) (h : F_X7_init l0 l1 M = some r) : g_Met 1 2 436 yX7_init X_X7_init [vr (some l0), vr l1] M (none, r) :=
  g_Met_of pn_RX7 rfl (Nat.le_of_ble_eq_true rfl) (fun _ => rfl) (GW_sub [0, 1] rfl (T_X7_init_b0 r l0 l1 M h))
/-! ForgetHeirs$Image.<init>()V -/
theorem d_X3_init_0 : decode cX3_init 0 = .ok (.aload_n 0, 1) := by decide +kernel
theorem d_X3_init_1 : decode cX3_init 1 = .ok (.invokespecial 3, 3) := by decide +kernel
theorem d_X3_init_4 : decode cX3_init 4 = .ok (.aload_n 0, 1) := by decide +kernel
theorem d_X3_init_5 : decode cX3_init 5 = .ok (.new 9, 3) := by decide +kernel
theorem d_X3_init_8 : decode cX3_init 8 = .ok (.dup, 1) := by decide +kernel
theorem d_X3_init_9 : decode cX3_init 9 = .ok (.invokespecial 11, 3) := by decide +kernel
theorem d_X3_init_12 : decode cX3_init 12 = .ok (.putfield 12, 3) := by decide +kernel
theorem d_X3_init_15 : decode cX3_init 15 = .ok (.aload_n 0, 1) := by decide +kernel
theorem d_X3_init_16 : decode cX3_init 16 = .ok (.aconst_null, 1) := by decide +kernel
theorem d_X3_init_17 : decode cX3_init 17 = .ok (.putfield 18, 3) := by decide +kernel
theorem d_X3_init_20 : decode cX3_init 20 = .ok (.aload_n 0, 1) := by decide +kernel
theorem d_X3_init_21 : decode cX3_init 21 = .ok (.iconst (-1), 1) := by decide +kernel
theorem d_X3_init_22 : decode cX3_init 22 = .ok (.putfield 22, 3) := by decide +kernel
theorem d_X3_init_25 : decode cX3_init 25 = .ok (.aload_n 0, 1) := by decide +kernel
theorem d_X3_init_26 : decode cX3_init 26 = .ok (.iconst 0, 1) := by decide +kernel
theorem d_X3_init_27 : decode cX3_init 27 = .ok (.putfield 26, 3) := by decide +kernel
theorem d_X3_init_30 : decode cX3_init 30 = .ok (.return_, 1) := by decide +kernel
abbrev X_X3_init : gX := (RX3, cX3_init, 1, none, true)
def F_X3_init_b0 (l0 : Nat) (M : gM) : Option gM :=
  (F_X8_init M.1.length (nw (8, 0) M)).bind fun M1 => (pR 3 M1 (some l0) 0 (some M.1.length)).bind fun M2 => (pR 3 M2 (some l0) 1 none).bind fun M3 => (pI 3 M3 (some l0) 2 (-1 : Int32)).bind fun M4 => (pI 3 M4 (some l0) 3 (0 : Int32)).bind fun M5 => some M5
theorem T_X3_init_b0 (r : gM) (l0 : Nat) (M : gM) (h : F_X3_init_b0 l0 M = some r) : GW 2 5 119 X_X3_init 0 [(0, vr (some l0))] [] M (none, r) := by
  delta F_X3_init_b0 at h
  refine GW_aload_n (X := X_X3_init) (pc := 0) d_X3_init_0 rfl 0 rfl ?_
  refine GW_objInit (X := X_X3_init) (pc := 1) ⟨m_416, g_w_objI.1, g_w_objI.2⟩ d_X3_init_1 (Nat.le_of_ble_eq_true rfl) (Nat.le_of_ble_eq_true rfl) ?_
  refine GW_aload_n (X := X_X3_init) (pc := 4) d_X3_init_4 rfl 0 rfl ?_
  refine GW_new (X := X_X3_init) (pc := 5) (c := 8) g_cok8 nf_8 ⟨m_417, m_179, m_119⟩ d_X3_init_5 4 112 rfl rfl ?_
  refine GW_dup (X := X_X3_init) (pc := 8) d_X3_init_8 rfl ?_
  replace h := g_bd h
  obtain ⟨M1, hM1, h⟩ := h
  refine GW_callIN (X := X_X3_init) (pc := 9) (bc0 := 0) (bs0 := 0) (M2 := M1) (host := RX11) (T_X8_init M.1.length (nw (8, 0) M) M1 hM1) (Nat.le_of_ble_eq_true rfl) (Nat.le_of_ble_eq_true rfl) rfl rfl yc_X8_init (List.mem_of_getElem? (i := 10) rfl) ⟨m_181, m_119, m_182⟩ d_X3_init_9 rfl (st := [vr (some M.1.length), vr (some l0)]) rfl (Nat.le_of_ble_eq_true rfl) (Nat.le_of_ble_eq_true rfl) (Nat.le_of_ble_eq_true rfl) ?_
  replace h := g_bd h
  obtain ⟨M2, hM2, h⟩ := h
  refine GW_putR (X := X_X3_init) (pc := 12) f_X3_12 d_X3_init_12 hM2 (Or.inr ⟨rfl, fi_3_0⟩) (Or.inl ⟨_, ty_3_0⟩) ?_
  refine GW_aload_n (X := X_X3_init) (pc := 15) d_X3_init_15 rfl 0 rfl ?_
  refine GW_null (X := X_X3_init) (pc := 16) d_X3_init_16 ?_
  replace h := g_bd h
  obtain ⟨M3, hM3, h⟩ := h
  refine GW_putR (X := X_X3_init) (pc := 17) f_X3_18 d_X3_init_17 hM3 (Or.inl fi_3_1) (Or.inl ⟨_, ty_3_1⟩) ?_
  refine GW_aload_n (X := X_X3_init) (pc := 20) d_X3_init_20 rfl 0 rfl ?_
  refine GW_iconst (X := X_X3_init) (pc := 21) (v := -1) d_X3_init_21 (by decide) ?_
  replace h := g_bd h
  obtain ⟨M4, hM4, h⟩ := h
  refine GW_putI (X := X_X3_init) (pc := 22) f_X3_22 d_X3_init_22 hM4 (Or.inl fi_3_2) (Or.inl ty_3_2) ?_
  refine GW_aload_n (X := X_X3_init) (pc := 25) d_X3_init_25 rfl 0 rfl ?_
  refine GW_iconst (X := X_X3_init) (pc := 26) (v := 0) d_X3_init_26 (by decide) ?_
  replace h := g_bd h
  obtain ⟨M5, hM5, h⟩ := h
  refine GW_putI (X := X_X3_init) (pc := 27) f_X3_26 d_X3_init_27 hM5 (Or.inl fi_3_3) (Or.inl ty_3_3) ?_
  replace h := Option.some.inj h
  subst h
  exact GW_ret (X := X_X3_init) (pc := 30) d_X3_init_30 rfl trivial
def F_X3_init (l0 : Nat) (M : gM) : Option gM := F_X3_init_b0 l0 M
theorem T_X3_init (l0 : Nat) (M : gM) (r : gM) (h : F_X3_init l0 M = some r) : g_Met 2 5 119 yX3_init X_X3_init [vr (some l0)] M (none, r) :=
  g_Met_of pn_RX3 rfl (Nat.le_of_ble_eq_true rfl) (fun _ => rfl) (GW_sub [0] rfl (T_X3_init_b0 r l0 M h))
/-! ForgetHeirs.<init>()V -/
theorem d_X11_init_0 : decode cX11_init 0 = .ok (.aload_n 0, 1) := by decide +kernel
theorem d_X11_init_1 : decode cX11_init 1 = .ok (.invokespecial 3, 3) := by decide +kernel
theorem d_X11_init_4 : decode cX11_init 4 = .ok (.aload_n 0, 1) := by decide +kernel
theorem d_X11_init_5 : decode cX11_init 5 = .ok (.bipush 6, 2) := by decide +kernel
theorem d_X11_init_7 : decode cX11_init 7 = .ok (.anewarray 9, 3) := by decide +kernel
theorem d_X11_init_10 : decode cX11_init 10 = .ok (.putfield 11, 3) := by decide +kernel
theorem d_X11_init_13 : decode cX11_init 13 = .ok (.aload_n 0, 1) := by decide +kernel
theorem d_X11_init_14 : decode cX11_init 14 = .ok (.new 15, 3) := by decide +kernel
theorem d_X11_init_17 : decode cX11_init 17 = .ok (.dup, 1) := by decide +kernel
theorem d_X11_init_18 : decode cX11_init 18 = .ok (.invokespecial 17, 3) := by decide +kernel
theorem d_X11_init_21 : decode cX11_init 21 = .ok (.putfield 18, 3) := by decide +kernel
theorem d_X11_init_24 : decode cX11_init 24 = .ok (.aload_n 0, 1) := by decide +kernel
theorem d_X11_init_25 : decode cX11_init 25 = .ok (.new 22, 3) := by decide +kernel
theorem d_X11_init_28 : decode cX11_init 28 = .ok (.dup, 1) := by decide +kernel
theorem d_X11_init_29 : decode cX11_init 29 = .ok (.invokespecial 24, 3) := by decide +kernel
theorem d_X11_init_32 : decode cX11_init 32 = .ok (.putfield 25, 3) := by decide +kernel
theorem d_X11_init_35 : decode cX11_init 35 = .ok (.aload_n 0, 1) := by decide +kernel
theorem d_X11_init_36 : decode cX11_init 36 = .ok (.new 22, 3) := by decide +kernel
theorem d_X11_init_39 : decode cX11_init 39 = .ok (.dup, 1) := by decide +kernel
theorem d_X11_init_40 : decode cX11_init 40 = .ok (.invokespecial 24, 3) := by decide +kernel
theorem d_X11_init_43 : decode cX11_init 43 = .ok (.putfield 29, 3) := by decide +kernel
theorem d_X11_init_46 : decode cX11_init 46 = .ok (.aload_n 0, 1) := by decide +kernel
theorem d_X11_init_47 : decode cX11_init 47 = .ok (.new 32, 3) := by decide +kernel
theorem d_X11_init_50 : decode cX11_init 50 = .ok (.dup, 1) := by decide +kernel
theorem d_X11_init_51 : decode cX11_init 51 = .ok (.invokespecial 34, 3) := by decide +kernel
theorem d_X11_init_54 : decode cX11_init 54 = .ok (.putfield 35, 3) := by decide +kernel
theorem d_X11_init_57 : decode cX11_init 57 = .ok (.aload_n 0, 1) := by decide +kernel
theorem d_X11_init_58 : decode cX11_init 58 = .ok (.iconst 4, 1) := by decide +kernel
theorem d_X11_init_59 : decode cX11_init 59 = .ok (.anewarray 39, 3) := by decide +kernel
theorem d_X11_init_62 : decode cX11_init 62 = .ok (.putfield 41, 3) := by decide +kernel
theorem d_X11_init_65 : decode cX11_init 65 = .ok (.aload_n 0, 1) := by decide +kernel
theorem d_X11_init_66 : decode cX11_init 66 = .ok (.bipush 21, 2) := by decide +kernel
theorem d_X11_init_68 : decode cX11_init 68 = .ok (.newarray .int, 2) := by decide +kernel
theorem d_X11_init_70 : decode cX11_init 70 = .ok (.putfield 45, 3) := by decide +kernel
theorem d_X11_init_73 : decode cX11_init 73 = .ok (.aload_n 0, 1) := by decide +kernel
theorem d_X11_init_74 : decode cX11_init 74 = .ok (.new 49, 3) := by decide +kernel
theorem d_X11_init_77 : decode cX11_init 77 = .ok (.dup, 1) := by decide +kernel
theorem d_X11_init_78 : decode cX11_init 78 = .ok (.invokespecial 51, 3) := by decide +kernel
theorem d_X11_init_81 : decode cX11_init 81 = .ok (.putfield 52, 3) := by decide +kernel
theorem d_X11_init_84 : decode cX11_init 84 = .ok (.aload_n 0, 1) := by decide +kernel
theorem d_X11_init_85 : decode cX11_init 85 = .ok (.new 56, 3) := by decide +kernel
theorem d_X11_init_88 : decode cX11_init 88 = .ok (.dup, 1) := by decide +kernel
theorem d_X11_init_89 : decode cX11_init 89 = .ok (.invokespecial 58, 3) := by decide +kernel
theorem d_X11_init_92 : decode cX11_init 92 = .ok (.putfield 59, 3) := by decide +kernel
theorem d_X11_init_95 : decode cX11_init 95 = .ok (.aload_n 0, 1) := by decide +kernel
theorem d_X11_init_96 : decode cX11_init 96 = .ok (.iconst 0, 1) := by decide +kernel
theorem d_X11_init_97 : decode cX11_init 97 = .ok (.putfield 63, 3) := by decide +kernel
theorem d_X11_init_100 : decode cX11_init 100 = .ok (.aload_n 0, 1) := by decide +kernel
theorem d_X11_init_101 : decode cX11_init 101 = .ok (.iconst (-1), 1) := by decide +kernel
theorem d_X11_init_102 : decode cX11_init 102 = .ok (.putfield 67, 3) := by decide +kernel
theorem d_X11_init_105 : decode cX11_init 105 = .ok (.aload_n 0, 1) := by decide +kernel
theorem d_X11_init_106 : decode cX11_init 106 = .ok (.iconst 0, 1) := by decide +kernel
theorem d_X11_init_107 : decode cX11_init 107 = .ok (.putfield 70, 3) := by decide +kernel
theorem d_X11_init_110 : decode cX11_init 110 = .ok (.new 73, 3) := by decide +kernel
theorem d_X11_init_113 : decode cX11_init 113 = .ok (.dup, 1) := by decide +kernel
theorem d_X11_init_114 : decode cX11_init 114 = .ok (.invokespecial 75, 3) := by decide +kernel
theorem d_X11_init_117 : decode cX11_init 117 = .ok (.astore_n 1, 1) := by decide +kernel
theorem d_X11_init_118 : decode cX11_init 118 = .ok (.aload_n 0, 1) := by decide +kernel
theorem d_X11_init_119 : decode cX11_init 119 = .ok (.aload_n 1, 1) := by decide +kernel
theorem d_X11_init_120 : decode cX11_init 120 = .ok (.putfield 76, 3) := by decide +kernel
theorem d_X11_init_123 : decode cX11_init 123 = .ok (.aload_n 0, 1) := by decide +kernel
theorem d_X11_init_124 : decode cX11_init 124 = .ok (.new 80, 3) := by decide +kernel
theorem d_X11_init_127 : decode cX11_init 127 = .ok (.dup, 1) := by decide +kernel
theorem d_X11_init_128 : decode cX11_init 128 = .ok (.aload_n 1, 1) := by decide +kernel
theorem d_X11_init_129 : decode cX11_init 129 = .ok (.invokespecial 82, 3) := by decide +kernel
theorem d_X11_init_132 : decode cX11_init 132 = .ok (.putfield 85, 3) := by decide +kernel
theorem d_X11_init_135 : decode cX11_init 135 = .ok (.aload_n 0, 1) := by decide +kernel
theorem d_X11_init_136 : decode cX11_init 136 = .ok (.new 89, 3) := by decide +kernel
theorem d_X11_init_139 : decode cX11_init 139 = .ok (.dup, 1) := by decide +kernel
theorem d_X11_init_140 : decode cX11_init 140 = .ok (.aload_n 1, 1) := by decide +kernel
theorem d_X11_init_141 : decode cX11_init 141 = .ok (.invokespecial 91, 3) := by decide +kernel
theorem d_X11_init_144 : decode cX11_init 144 = .ok (.putfield 92, 3) := by decide +kernel
theorem d_X11_init_147 : decode cX11_init 147 = .ok (.iconst 0, 1) := by decide +kernel
theorem d_X11_init_148 : decode cX11_init 148 = .ok (.istore_n 2, 1) := by decide +kernel
theorem d_X11_init_149 : decode cX11_init 149 = .ok (.iload_n 2, 1) := by decide +kernel
theorem d_X11_init_150 : decode cX11_init 150 = .ok (.iconst 4, 1) := by decide +kernel
theorem d_X11_init_151 : decode cX11_init 151 = .ok (.if_icmp .ge 22, 3) := by decide +kernel
theorem d_X11_init_154 : decode cX11_init 154 = .ok (.aload_n 0, 1) := by decide +kernel
theorem d_X11_init_155 : decode cX11_init 155 = .ok (.getfield 41, 3) := by decide +kernel
theorem d_X11_init_158 : decode cX11_init 158 = .ok (.iload_n 2, 1) := by decide +kernel
theorem d_X11_init_159 : decode cX11_init 159 = .ok (.new 39, 3) := by decide +kernel
theorem d_X11_init_162 : decode cX11_init 162 = .ok (.dup, 1) := by decide +kernel
theorem d_X11_init_163 : decode cX11_init 163 = .ok (.invokespecial 96, 3) := by decide +kernel
theorem d_X11_init_166 : decode cX11_init 166 = .ok (.aastore, 1) := by decide +kernel
theorem d_X11_init_167 : decode cX11_init 167 = .ok (.iinc 2 1, 3) := by decide +kernel
theorem d_X11_init_170 : decode cX11_init 170 = .ok (.goto (-21), 3) := by decide +kernel
theorem d_X11_init_173 : decode cX11_init 173 = .ok (.return_, 1) := by decide +kernel
abbrev X_X11_init : gX := (RX11, cX11_init, 3, none, true)
def F_X11_init (l0 : Nat) (M : gM) : Option gM :=
  (pR 11 (nw (25, 6) M) (some l0) 3 (some M.1.length)).bind fun M1 => (F_X10_init M1.1.length (nw (10, 0) M1)).bind fun M2 => (pR 11 M2 (some l0) 4 (some M1.1.length)).bind fun M3 => (F_X8_init M3.1.length (nw (8, 0) M3)).bind fun M4 => (pR 11 M4 (some l0) 5 (some M3.1.length)).bind fun M5 => (F_X8_init M5.1.length (nw (8, 0) M5)).bind fun M6 => (pR 11 M6 (some l0) 6 (some M5.1.length)).bind fun M7 => (F_X4_init M7.1.length (nw (4, 0) M7)).bind fun M8 => (pR 11 M8 (some l0) 7 (some M7.1.length)).bind fun M9 => (pR 11 (nw (26, 4) M9) (some l0) 8 (some M9.1.length)).bind fun M10 => (pR 11 (nw (20, 21) M10) (some l0) 9 (some M10.1.length)).bind fun M11 => (F_X0_init M11.1.length (nw (0, 0) M11)).bind fun M12 => (pR 11 M12 (some l0) 10 (some M11.1.length)).bind fun M13 => (F_X1_init M13.1.length (nw (1, 0) M13)).bind fun M14 => (pR 11 M14 (some l0) 11 (some M13.1.length)).bind fun M15 => (pI 11 M15 (some l0) 12 (0 : Int32)).bind fun M16 => (pI 11 M16 (some l0) 13 (-1 : Int32)).bind fun M17 => (pI 11 M17 (some l0) 14 (0 : Int32)).bind fun M18 => (F_X9_init M18.1.length (nw (9, 0) M18)).bind fun M19 => (pR 11 M19 (some l0) 0 (some M18.1.length)).bind fun M20 => (F_X2_init M20.1.length (some M18.1.length) (nw (2, 0) M20)).bind fun M21 => (pR 11 M21 (some l0) 1 (some M20.1.length)).bind fun M22 => (F_X7_init M22.1.length (some M18.1.length) (nw (7, 0) M22)).bind fun M23 => (pR 11 M23 (some l0) 2 (some M22.1.length)).bind fun M24 => (gR 11 M24 (some l0) 8).bind fun v25 => (F_X3_init M24.1.length (nw (3, 0) M24)).bind fun M26 => (sR 26 M26 v25 (0 : Int32) (some M24.1.length)).bind fun M27 => (gR 11 M27 (some l0) 8).bind fun v28 => (F_X3_init M27.1.length (nw (3, 0) M27)).bind fun M29 => (sR 26 M29 v28 (1 : Int32) (some M27.1.length)).bind fun M30 => (gR 11 M30 (some l0) 8).bind fun v31 => (F_X3_init M30.1.length (nw (3, 0) M30)).bind fun M32 => (sR 26 M32 v31 (2 : Int32) (some M30.1.length)).bind fun M33 => (gR 11 M33 (some l0) 8).bind fun v34 => (F_X3_init M33.1.length (nw (3, 0) M33)).bind fun M35 => (sR 26 M35 v34 (3 : Int32) (some M33.1.length)).bind fun M36 => some M36
set_option maxHeartbeats 40000000 in
set_option maxRecDepth 100000 in
theorem T_X11_init_b0 (r : gM) (l0 : Nat) (M : gM) (h : F_X11_init l0 M = some r) : GW 3 172 5582 X_X11_init 0 [(0, vr (some l0))] [] M (none, r) := by
  delta F_X11_init at h
  refine GW_aload_n (X := X_X11_init) (pc := 0) d_X11_init_0 rfl 0 rfl ?_
  refine GW_objInit (X := X_X11_init) (pc := 1) ⟨m_142, g_w_objI.1, g_w_objI.2⟩ d_X11_init_1 (Nat.le_of_ble_eq_true rfl) (Nat.le_of_ble_eq_true rfl) ?_
  refine GW_aload_n (X := X_X11_init) (pc := 4) d_X11_init_4 rfl 0 rfl ?_
  refine GW_bipush (X := X_X11_init) (pc := 5) (v := 6) d_X11_init_5 (by decide) ?_
  refine GW_newq (X := X_X11_init) (pc := 7) (t := 25) (N := 6) (fun _ h => h.1) 5 (fun _ => rfl) (fun _ _ => rfl) m_145 d_X11_init_7 (by decide) (by decide) (by decide) 171 5576 rfl (Nat.le_of_ble_eq_true rfl) ?_
  replace h := g_bd h
  obtain ⟨M1, hM1, h⟩ := h
  refine GW_putR (X := X_X11_init) (pc := 10) f_X11_11 d_X11_init_10 hM1 (Or.inr ⟨rfl, fi_11_3⟩) (Or.inr ⟨_, ty_11_3⟩) ?_
  refine GW_aload_n (X := X_X11_init) (pc := 13) d_X11_init_13 rfl 0 rfl ?_
  refine GW_new (X := X_X11_init) (pc := 14) (c := 10) g_cok10 nf_10 ⟨m_147, m_148, m_117⟩ d_X11_init_14 170 5574 rfl rfl ?_
  refine GW_dup (X := X_X11_init) (pc := 17) d_X11_init_17 rfl ?_
  replace h := g_bd h
  obtain ⟨M2, hM2, h⟩ := h
  refine GW_callIN (X := X_X11_init) (pc := 18) (bc0 := 166) (bs0 := 5476) (M2 := M2) (host := RX11) (T_X10_init M1.1.length (nw (10, 0) M1) M2 hM2) (Nat.le_of_ble_eq_true rfl) (Nat.le_of_ble_eq_true rfl) rfl rfl yc_X10_init (List.mem_of_getElem? (i := 0) rfl) ⟨m_150, m_117, m_151⟩ d_X11_init_18 rfl (st := [vr (some M1.1.length), vr (some l0)]) rfl (Nat.le_of_ble_eq_true rfl) (Nat.le_of_ble_eq_true rfl) (Nat.le_of_ble_eq_true rfl) ?_
  replace h := g_bd h
  obtain ⟨M3, hM3, h⟩ := h
  refine GW_putR (X := X_X11_init) (pc := 21) f_X11_18 d_X11_init_21 hM3 (Or.inr ⟨rfl, fi_11_4⟩) (Or.inl ⟨_, ty_11_4⟩) ?_
  refine GW_aload_n (X := X_X11_init) (pc := 24) d_X11_init_24 rfl 0 rfl ?_
  refine GW_new (X := X_X11_init) (pc := 25) (c := 8) g_cok8 nf_8 ⟨m_178, m_179, m_119⟩ d_X11_init_25 165 5469 rfl rfl ?_
  refine GW_dup (X := X_X11_init) (pc := 28) d_X11_init_28 rfl ?_
  replace h := g_bd h
  obtain ⟨M4, hM4, h⟩ := h
  refine GW_callIN (X := X_X11_init) (pc := 29) (bc0 := 161) (bs0 := 5357) (M2 := M4) (host := RX11) (T_X8_init M3.1.length (nw (8, 0) M3) M4 hM4) (Nat.le_of_ble_eq_true rfl) (Nat.le_of_ble_eq_true rfl) rfl rfl yc_X8_init (List.mem_of_getElem? (i := 2) rfl) ⟨m_181, m_119, m_182⟩ d_X11_init_29 rfl (st := [vr (some M3.1.length), vr (some l0)]) rfl (Nat.le_of_ble_eq_true rfl) (Nat.le_of_ble_eq_true rfl) (Nat.le_of_ble_eq_true rfl) ?_
  replace h := g_bd h
  obtain ⟨M5, hM5, h⟩ := h
  refine GW_putR (X := X_X11_init) (pc := 32) f_X11_25 d_X11_init_32 hM5 (Or.inr ⟨rfl, fi_11_5⟩) (Or.inl ⟨_, ty_11_5⟩) ?_
  refine GW_aload_n (X := X_X11_init) (pc := 35) d_X11_init_35 rfl 0 rfl ?_
  refine GW_new (X := X_X11_init) (pc := 36) (c := 8) g_cok8 nf_8 ⟨m_178, m_179, m_119⟩ d_X11_init_36 160 5350 rfl rfl ?_
  refine GW_dup (X := X_X11_init) (pc := 39) d_X11_init_39 rfl ?_
  replace h := g_bd h
  obtain ⟨M6, hM6, h⟩ := h
  refine GW_callIN (X := X_X11_init) (pc := 40) (bc0 := 156) (bs0 := 5238) (M2 := M6) (host := RX11) (T_X8_init M5.1.length (nw (8, 0) M5) M6 hM6) (Nat.le_of_ble_eq_true rfl) (Nat.le_of_ble_eq_true rfl) rfl rfl yc_X8_init (List.mem_of_getElem? (i := 2) rfl) ⟨m_181, m_119, m_182⟩ d_X11_init_40 rfl (st := [vr (some M5.1.length), vr (some l0)]) rfl (Nat.le_of_ble_eq_true rfl) (Nat.le_of_ble_eq_true rfl) (Nat.le_of_ble_eq_true rfl) ?_
  replace h := g_bd h
  obtain ⟨M7, hM7, h⟩ := h
  refine GW_putR (X := X_X11_init) (pc := 43) f_X11_29 d_X11_init_43 hM7 (Or.inr ⟨rfl, fi_11_6⟩) (Or.inl ⟨_, ty_11_6⟩) ?_
  refine GW_aload_n (X := X_X11_init) (pc := 46) d_X11_init_46 rfl 0 rfl ?_
  refine GW_new (X := X_X11_init) (pc := 47) (c := 4) g_cok4 nf_4 ⟨m_225, m_226, m_120⟩ d_X11_init_47 155 5235 rfl rfl ?_
  refine GW_dup (X := X_X11_init) (pc := 50) d_X11_init_50 rfl ?_
  replace h := g_bd h
  obtain ⟨M8, hM8, h⟩ := h
  refine GW_callI (X := X_X11_init) (pc := 51) (bc0 := 54) (bs0 := 2835) (M2 := M8) (T_X4_init M7.1.length (nw (4, 0) M7) M8 hM8) (Nat.le_of_ble_eq_true rfl) (Nat.le_of_ble_eq_true rfl) rfl rfl yc_X4_init ⟨m_227, m_228, m_120, m_229⟩ d_X11_init_51 rfl (st := [vr (some M7.1.length), vr (some l0)]) rfl (Nat.le_of_ble_eq_true rfl) (Nat.le_of_ble_eq_true rfl) (Nat.le_of_ble_eq_true rfl) ?_
  replace h := g_bd h
  obtain ⟨M9, hM9, h⟩ := h
  refine GW_putR (X := X_X11_init) (pc := 54) f_X11_35 d_X11_init_54 hM9 (Or.inr ⟨rfl, fi_11_7⟩) (Or.inl ⟨_, ty_11_7⟩) ?_
  refine GW_aload_n (X := X_X11_init) (pc := 57) d_X11_init_57 rfl 0 rfl ?_
  refine GW_iconst (X := X_X11_init) (pc := 58) (v := 4) d_X11_init_58 (by decide) ?_
  refine GW_newq (X := X_X11_init) (pc := 59) (t := 26) (N := 4) (fun _ h => h.2.2) 6 (fun _ => rfl) (fun _ _ => rfl) m_245 d_X11_init_59 (by decide) (by decide) (by decide) 53 2831 rfl (Nat.le_of_ble_eq_true rfl) ?_
  replace h := g_bd h
  obtain ⟨M10, hM10, h⟩ := h
  refine GW_putR (X := X_X11_init) (pc := 62) f_X11_41 d_X11_init_62 hM10 (Or.inr ⟨rfl, fi_11_8⟩) (Or.inr ⟨_, ty_11_8⟩) ?_
  refine GW_aload_n (X := X_X11_init) (pc := 65) d_X11_init_65 rfl 0 rfl ?_
  refine GW_bipush (X := X_X11_init) (pc := 66) (v := 21) d_X11_init_66 (by decide) ?_
  refine GW_newa_int (X := X_X11_init) (pc := 68) (N := 21) g_w_arrc.1.1 d_X11_init_68 (by decide) (by decide) (by decide) 52 2810 rfl (Nat.le_of_ble_eq_true rfl) ?_
  replace h := g_bd h
  obtain ⟨M11, hM11, h⟩ := h
  refine GW_putR (X := X_X11_init) (pc := 70) f_X11_45 d_X11_init_70 hM11 (Or.inr ⟨rfl, fi_11_9⟩) (Or.inr ⟨_, ty_11_9⟩) ?_
  refine GW_aload_n (X := X_X11_init) (pc := 73) d_X11_init_73 rfl 0 rfl ?_
  refine GW_new (X := X_X11_init) (pc := 74) (c := 0) g_cok0 nf_0 ⟨m_247, m_248, m_121⟩ d_X11_init_74 51 2808 rfl rfl ?_
  refine GW_dup (X := X_X11_init) (pc := 77) d_X11_init_77 rfl ?_
  replace h := g_bd h
  obtain ⟨M12, hM12, h⟩ := h
  refine GW_callIN (X := X_X11_init) (pc := 78) (bc0 := 50) (bs0 := 2759) (M2 := M12) (host := RX11) (T_X0_init M11.1.length (nw (0, 0) M11) M12 hM12) (Nat.le_of_ble_eq_true rfl) (Nat.le_of_ble_eq_true rfl) rfl rfl yc_X0_init (List.mem_of_getElem? (i := 4) rfl) ⟨m_250, m_121, m_251⟩ d_X11_init_78 rfl (st := [vr (some M11.1.length), vr (some l0)]) rfl (Nat.le_of_ble_eq_true rfl) (Nat.le_of_ble_eq_true rfl) (Nat.le_of_ble_eq_true rfl) ?_
  replace h := g_bd h
  obtain ⟨M13, hM13, h⟩ := h
  refine GW_putR (X := X_X11_init) (pc := 81) f_X11_52 d_X11_init_81 hM13 (Or.inr ⟨rfl, fi_11_10⟩) (Or.inl ⟨_, ty_11_10⟩) ?_
  refine GW_aload_n (X := X_X11_init) (pc := 84) d_X11_init_84 rfl 0 rfl ?_
  refine GW_new (X := X_X11_init) (pc := 85) (c := 1) g_cok1 nf_1 ⟨m_260, m_261, m_122⟩ d_X11_init_85 49 2748 rfl rfl ?_
  refine GW_dup (X := X_X11_init) (pc := 88) d_X11_init_88 rfl ?_
  replace h := g_bd h
  obtain ⟨M14, hM14, h⟩ := h
  refine GW_callIN (X := X_X11_init) (pc := 89) (bc0 := 44) (bs0 := 2713) (M2 := M14) (host := RX11) (T_X1_init M13.1.length (nw (1, 0) M13) M14 hM14) (Nat.le_of_ble_eq_true rfl) (Nat.le_of_ble_eq_true rfl) rfl rfl yc_X1_init (List.mem_of_getElem? (i := 5) rfl) ⟨m_263, m_122, m_264⟩ d_X11_init_89 rfl (st := [vr (some M13.1.length), vr (some l0)]) rfl (Nat.le_of_ble_eq_true rfl) (Nat.le_of_ble_eq_true rfl) (Nat.le_of_ble_eq_true rfl) ?_
  replace h := g_bd h
  obtain ⟨M15, hM15, h⟩ := h
  refine GW_putR (X := X_X11_init) (pc := 92) f_X11_59 d_X11_init_92 hM15 (Or.inl fi_11_11) (Or.inl ⟨_, ty_11_11⟩) ?_
  refine GW_aload_n (X := X_X11_init) (pc := 95) d_X11_init_95 rfl 0 rfl ?_
  refine GW_iconst (X := X_X11_init) (pc := 96) (v := 0) d_X11_init_96 (by decide) ?_
  replace h := g_bd h
  obtain ⟨M16, hM16, h⟩ := h
  refine GW_putI (X := X_X11_init) (pc := 97) f_X11_63 d_X11_init_97 hM16 (Or.inl fi_11_12) (Or.inl ty_11_12) ?_
  refine GW_aload_n (X := X_X11_init) (pc := 100) d_X11_init_100 rfl 0 rfl ?_
  refine GW_iconst (X := X_X11_init) (pc := 101) (v := -1) d_X11_init_101 (by decide) ?_
  replace h := g_bd h
  obtain ⟨M17, hM17, h⟩ := h
  refine GW_putI (X := X_X11_init) (pc := 102) f_X11_67 d_X11_init_102 hM17 (Or.inl fi_11_13) (Or.inl ty_11_13) ?_
  refine GW_aload_n (X := X_X11_init) (pc := 105) d_X11_init_105 rfl 0 rfl ?_
  refine GW_iconst (X := X_X11_init) (pc := 106) (v := 0) d_X11_init_106 (by decide) ?_
  replace h := g_bd h
  obtain ⟨M18, hM18, h⟩ := h
  refine GW_putI (X := X_X11_init) (pc := 107) f_X11_70 d_X11_init_107 hM18 (Or.inl fi_11_14) (Or.inl ty_11_14) ?_
  refine GW_new (X := X_X11_init) (pc := 110) (c := 9) g_cok9 nf_9 ⟨m_332, m_333, m_123⟩ d_X11_init_110 43 2705 rfl rfl ?_
  refine GW_dup (X := X_X11_init) (pc := 113) d_X11_init_113 rfl ?_
  replace h := g_bd h
  obtain ⟨M19, hM19, h⟩ := h
  refine GW_callIN (X := X_X11_init) (pc := 114) (bc0 := 39) (bs0 := 1102) (M2 := M19) (host := RX11) (T_X9_init M18.1.length (nw (9, 0) M18) M19 hM19) (Nat.le_of_ble_eq_true rfl) (Nat.le_of_ble_eq_true rfl) rfl rfl yc_X9_init (List.mem_of_getElem? (i := 6) rfl) ⟨m_335, m_123, m_336⟩ d_X11_init_114 rfl (st := [vr (some M18.1.length)]) rfl (Nat.le_of_ble_eq_true rfl) (Nat.le_of_ble_eq_true rfl) (Nat.le_of_ble_eq_true rfl) ?_
  refine GW_astore_n (X := X_X11_init) (pc := 117) d_X11_init_117 rfl (Nat.le_of_ble_eq_true rfl) (lv2 := [(1, vr (some M18.1.length)), (0, vr (some l0))]) rfl ?_
  refine GW_aload_n (X := X_X11_init) (pc := 118) d_X11_init_118 rfl 1 rfl ?_
  refine GW_aload_n (X := X_X11_init) (pc := 119) d_X11_init_119 rfl 0 rfl ?_
  replace h := g_bd h
  obtain ⟨M20, hM20, h⟩ := h
  refine GW_putR (X := X_X11_init) (pc := 120) f_X11_76 d_X11_init_120 hM20 (Or.inr ⟨rfl, fi_11_0⟩) (Or.inl ⟨_, ty_11_0⟩) ?_
  refine GW_aload_n (X := X_X11_init) (pc := 123) d_X11_init_123 rfl 1 rfl ?_
  refine GW_new (X := X_X11_init) (pc := 124) (c := 2) g_cok2 nf_2 ⟨m_366, m_367, m_124⟩ d_X11_init_124 38 1099 rfl rfl ?_
  refine GW_dup (X := X_X11_init) (pc := 127) d_X11_init_127 rfl ?_
  refine GW_aload_n (X := X_X11_init) (pc := 128) d_X11_init_128 rfl 0 rfl ?_
  replace h := g_bd h
  obtain ⟨M21, hM21, h⟩ := h
  refine GW_callI (X := X_X11_init) (pc := 129) (bc0 := 27) (bs0 := 934) (M2 := M21) (T_X2_init M20.1.length (some M18.1.length) (nw (2, 0) M20) M21 hM21) (Nat.le_of_ble_eq_true rfl) (Nat.le_of_ble_eq_true rfl) rfl rfl yc_X2_init ⟨m_368, m_369, m_124, m_370⟩ d_X11_init_129 rfl (st := [vr (some M20.1.length), vr (some l0)]) rfl (Nat.le_of_ble_eq_true rfl) (Nat.le_of_ble_eq_true rfl) (Nat.le_of_ble_eq_true rfl) ?_
  replace h := g_bd h
  obtain ⟨M22, hM22, h⟩ := h
  refine GW_putR (X := X_X11_init) (pc := 132) f_X11_85 d_X11_init_132 hM22 (Or.inr ⟨rfl, fi_11_1⟩) (Or.inl ⟨_, ty_11_1⟩) ?_
  refine GW_aload_n (X := X_X11_init) (pc := 135) d_X11_init_135 rfl 1 rfl ?_
  refine GW_new (X := X_X11_init) (pc := 136) (c := 7) g_cok7 nf_7 ⟨m_387, m_388, m_125⟩ d_X11_init_136 26 928 rfl rfl ?_
  refine GW_dup (X := X_X11_init) (pc := 139) d_X11_init_139 rfl ?_
  refine GW_aload_n (X := X_X11_init) (pc := 140) d_X11_init_140 rfl 0 rfl ?_
  replace h := g_bd h
  obtain ⟨M23, hM23, h⟩ := h
  refine GW_callI (X := X_X11_init) (pc := 141) (bc0 := 24) (bs0 := 492) (M2 := M23) (T_X7_init M22.1.length (some M18.1.length) (nw (7, 0) M22) M23 hM23) (Nat.le_of_ble_eq_true rfl) (Nat.le_of_ble_eq_true rfl) rfl rfl yc_X7_init ⟨m_389, m_390, m_125, m_391⟩ d_X11_init_141 rfl (st := [vr (some M22.1.length), vr (some l0)]) rfl (Nat.le_of_ble_eq_true rfl) (Nat.le_of_ble_eq_true rfl) (Nat.le_of_ble_eq_true rfl) ?_
  replace h := g_bd h
  obtain ⟨M24, hM24, h⟩ := h
  refine GW_putR (X := X_X11_init) (pc := 144) f_X11_92 d_X11_init_144 hM24 (Or.inr ⟨rfl, fi_11_2⟩) (Or.inl ⟨_, ty_11_2⟩) ?_
  refine GW_iconst (X := X_X11_init) (pc := 147) (v := 0) d_X11_init_147 (by decide) ?_
  refine GW_istore_n (X := X_X11_init) (pc := 148) d_X11_init_148 rfl (Nat.le_of_ble_eq_true rfl) (lv2 := [(2, vi (0 : Int32)), (1, vr (some M18.1.length)), (0, vr (some l0))]) rfl ?_
  refine GW_iload_n (X := X_X11_init) (pc := 149) d_X11_init_149 rfl 0 rfl ?_
  refine GW_iconst (X := X_X11_init) (pc := 150) (v := 4) d_X11_init_150 (by decide) ?_
  refine GW_icmp_ge (X := X_X11_init) (pc := 151) 173 d_X11_init_151 (by decide) (fun c => absurd c (by decide)) (fun _ => ?_)
  refine GW_aload_n (X := X_X11_init) (pc := 154) d_X11_init_154 rfl 2 rfl ?_
  replace h := g_bd h
  obtain ⟨v25, hv25, h⟩ := h
  refine GW_getR (X := X_X11_init) (pc := 155) f_X11_41 d_X11_init_155 hv25 (Or.inr ⟨_, ty_11_8⟩) ?_
  refine GW_iload_n (X := X_X11_init) (pc := 158) d_X11_init_158 rfl 0 rfl ?_
  refine GW_new (X := X_X11_init) (pc := 159) (c := 3) g_cok3 nf_3 ⟨m_245, m_412, m_126⟩ d_X11_init_159 23 488 rfl rfl ?_
  refine GW_dup (X := X_X11_init) (pc := 162) d_X11_init_162 rfl ?_
  replace h := g_bd h
  obtain ⟨M26, hM26, h⟩ := h
  refine GW_callIN (X := X_X11_init) (pc := 163) (bc0 := 18) (bs0 := 369) (M2 := M26) (host := RX11) (T_X3_init M24.1.length (nw (3, 0) M24) M26 hM26) (Nat.le_of_ble_eq_true rfl) (Nat.le_of_ble_eq_true rfl) rfl rfl yc_X3_init (List.mem_of_getElem? (i := 9) rfl) ⟨m_414, m_126, m_415⟩ d_X11_init_163 rfl (st := [vr (some M24.1.length), vi (0 : Int32), vr v25]) rfl (Nat.le_of_ble_eq_true rfl) (Nat.le_of_ble_eq_true rfl) (Nat.le_of_ble_eq_true rfl) ?_
  replace h := g_bd h
  obtain ⟨M27, hM27, h⟩ := h
  refine GW_aast (X := X_X11_init) (pc := 166) (t := 26) (by decide) d_X11_init_166 hM27 ?_
  refine GW_iinc (j := 0) (X := X_X11_init) (pc := 167) d_X11_init_167 rfl (by decide) (Nat.le_of_ble_eq_true rfl) (lv2 := [(2, vi (1 : Int32)), (1, vr (some M18.1.length)), (0, vr (some l0))]) rfl ?_
  refine GW_goto (X := X_X11_init) (pc := 170) 149 d_X11_init_170 (by decide) ?_
  refine GW_iload_n (X := X_X11_init) (pc := 149) d_X11_init_149 rfl 0 rfl ?_
  refine GW_iconst (X := X_X11_init) (pc := 150) (v := 4) d_X11_init_150 (by decide) ?_
  refine GW_icmp_ge (X := X_X11_init) (pc := 151) 173 d_X11_init_151 (by decide) (fun c => absurd c (by decide)) (fun _ => ?_)
  refine GW_aload_n (X := X_X11_init) (pc := 154) d_X11_init_154 rfl 2 rfl ?_
  replace h := g_bd h
  obtain ⟨v28, hv28, h⟩ := h
  refine GW_getR (X := X_X11_init) (pc := 155) f_X11_41 d_X11_init_155 hv28 (Or.inr ⟨_, ty_11_8⟩) ?_
  refine GW_iload_n (X := X_X11_init) (pc := 158) d_X11_init_158 rfl 0 rfl ?_
  refine GW_new (X := X_X11_init) (pc := 159) (c := 3) g_cok3 nf_3 ⟨m_245, m_412, m_126⟩ d_X11_init_159 17 365 rfl rfl ?_
  refine GW_dup (X := X_X11_init) (pc := 162) d_X11_init_162 rfl ?_
  replace h := g_bd h
  obtain ⟨M29, hM29, h⟩ := h
  refine GW_callIN (X := X_X11_init) (pc := 163) (bc0 := 12) (bs0 := 246) (M2 := M29) (host := RX11) (T_X3_init M27.1.length (nw (3, 0) M27) M29 hM29) (Nat.le_of_ble_eq_true rfl) (Nat.le_of_ble_eq_true rfl) rfl rfl yc_X3_init (List.mem_of_getElem? (i := 9) rfl) ⟨m_414, m_126, m_415⟩ d_X11_init_163 rfl (st := [vr (some M27.1.length), vi (1 : Int32), vr v28]) rfl (Nat.le_of_ble_eq_true rfl) (Nat.le_of_ble_eq_true rfl) (Nat.le_of_ble_eq_true rfl) ?_
  replace h := g_bd h
  obtain ⟨M30, hM30, h⟩ := h
  refine GW_aast (X := X_X11_init) (pc := 166) (t := 26) (by decide) d_X11_init_166 hM30 ?_
  refine GW_iinc (j := 0) (X := X_X11_init) (pc := 167) d_X11_init_167 rfl (by decide) (Nat.le_of_ble_eq_true rfl) (lv2 := [(2, vi (2 : Int32)), (1, vr (some M18.1.length)), (0, vr (some l0))]) rfl ?_
  refine GW_goto (X := X_X11_init) (pc := 170) 149 d_X11_init_170 (by decide) ?_
  refine GW_iload_n (X := X_X11_init) (pc := 149) d_X11_init_149 rfl 0 rfl ?_
  refine GW_iconst (X := X_X11_init) (pc := 150) (v := 4) d_X11_init_150 (by decide) ?_
  refine GW_icmp_ge (X := X_X11_init) (pc := 151) 173 d_X11_init_151 (by decide) (fun c => absurd c (by decide)) (fun _ => ?_)
  refine GW_aload_n (X := X_X11_init) (pc := 154) d_X11_init_154 rfl 2 rfl ?_
  replace h := g_bd h
  obtain ⟨v31, hv31, h⟩ := h
  refine GW_getR (X := X_X11_init) (pc := 155) f_X11_41 d_X11_init_155 hv31 (Or.inr ⟨_, ty_11_8⟩) ?_
  refine GW_iload_n (X := X_X11_init) (pc := 158) d_X11_init_158 rfl 0 rfl ?_
  refine GW_new (X := X_X11_init) (pc := 159) (c := 3) g_cok3 nf_3 ⟨m_245, m_412, m_126⟩ d_X11_init_159 11 242 rfl rfl ?_
  refine GW_dup (X := X_X11_init) (pc := 162) d_X11_init_162 rfl ?_
  replace h := g_bd h
  obtain ⟨M32, hM32, h⟩ := h
  refine GW_callIN (X := X_X11_init) (pc := 163) (bc0 := 6) (bs0 := 123) (M2 := M32) (host := RX11) (T_X3_init M30.1.length (nw (3, 0) M30) M32 hM32) (Nat.le_of_ble_eq_true rfl) (Nat.le_of_ble_eq_true rfl) rfl rfl yc_X3_init (List.mem_of_getElem? (i := 9) rfl) ⟨m_414, m_126, m_415⟩ d_X11_init_163 rfl (st := [vr (some M30.1.length), vi (2 : Int32), vr v31]) rfl (Nat.le_of_ble_eq_true rfl) (Nat.le_of_ble_eq_true rfl) (Nat.le_of_ble_eq_true rfl) ?_
  replace h := g_bd h
  obtain ⟨M33, hM33, h⟩ := h
  refine GW_aast (X := X_X11_init) (pc := 166) (t := 26) (by decide) d_X11_init_166 hM33 ?_
  refine GW_iinc (j := 0) (X := X_X11_init) (pc := 167) d_X11_init_167 rfl (by decide) (Nat.le_of_ble_eq_true rfl) (lv2 := [(2, vi (3 : Int32)), (1, vr (some M18.1.length)), (0, vr (some l0))]) rfl ?_
  refine GW_goto (X := X_X11_init) (pc := 170) 149 d_X11_init_170 (by decide) ?_
  refine GW_iload_n (X := X_X11_init) (pc := 149) d_X11_init_149 rfl 0 rfl ?_
  refine GW_iconst (X := X_X11_init) (pc := 150) (v := 4) d_X11_init_150 (by decide) ?_
  refine GW_icmp_ge (X := X_X11_init) (pc := 151) 173 d_X11_init_151 (by decide) (fun c => absurd c (by decide)) (fun _ => ?_)
  refine GW_aload_n (X := X_X11_init) (pc := 154) d_X11_init_154 rfl 2 rfl ?_
  replace h := g_bd h
  obtain ⟨v34, hv34, h⟩ := h
  refine GW_getR (X := X_X11_init) (pc := 155) f_X11_41 d_X11_init_155 hv34 (Or.inr ⟨_, ty_11_8⟩) ?_
  refine GW_iload_n (X := X_X11_init) (pc := 158) d_X11_init_158 rfl 0 rfl ?_
  refine GW_new (X := X_X11_init) (pc := 159) (c := 3) g_cok3 nf_3 ⟨m_245, m_412, m_126⟩ d_X11_init_159 5 119 rfl rfl ?_
  refine GW_dup (X := X_X11_init) (pc := 162) d_X11_init_162 rfl ?_
  replace h := g_bd h
  obtain ⟨M35, hM35, h⟩ := h
  refine GW_callIN (X := X_X11_init) (pc := 163) (bc0 := 0) (bs0 := 0) (M2 := M35) (host := RX11) (T_X3_init M33.1.length (nw (3, 0) M33) M35 hM35) (Nat.le_of_ble_eq_true rfl) (Nat.le_of_ble_eq_true rfl) rfl rfl yc_X3_init (List.mem_of_getElem? (i := 9) rfl) ⟨m_414, m_126, m_415⟩ d_X11_init_163 rfl (st := [vr (some M33.1.length), vi (3 : Int32), vr v34]) rfl (Nat.le_of_ble_eq_true rfl) (Nat.le_of_ble_eq_true rfl) (Nat.le_of_ble_eq_true rfl) ?_
  replace h := g_bd h
  obtain ⟨M36, hM36, h⟩ := h
  refine GW_aast (X := X_X11_init) (pc := 166) (t := 26) (by decide) d_X11_init_166 hM36 ?_
  refine GW_iinc (j := 0) (X := X_X11_init) (pc := 167) d_X11_init_167 rfl (by decide) (Nat.le_of_ble_eq_true rfl) (lv2 := [(2, vi (4 : Int32)), (1, vr (some M18.1.length)), (0, vr (some l0))]) rfl ?_
  refine GW_goto (X := X_X11_init) (pc := 170) 149 d_X11_init_170 (by decide) ?_
  refine GW_iload_n (X := X_X11_init) (pc := 149) d_X11_init_149 rfl 0 rfl ?_
  refine GW_iconst (X := X_X11_init) (pc := 150) (v := 4) d_X11_init_150 (by decide) ?_
  refine GW_icmp_ge (X := X_X11_init) (pc := 151) 173 d_X11_init_151 (by decide) (fun _ => ?_) (fun c => absurd c (by decide))
  replace h := Option.some.inj h
  subst h
  exact GW_ret (X := X_X11_init) (pc := 173) d_X11_init_173 rfl trivial
theorem T_X11_init (l0 : Nat) (M : gM) (r : gM) (h : F_X11_init l0 M = some r) : g_Met 3 172 5582 yX11_init X_X11_init [vr (some l0)] M (none, r) :=
  g_Met_of pn_RX11 rfl (Nat.le_of_ble_eq_true rfl) (fun _ => rfl) (GW_sub [0] rfl (T_X11_init_b0 r l0 M h))
/-! ForgetHeirsModel.<init>()V -/
theorem d_X12_init_0 : decode cX12_init 0 = .ok (.aload_n 0, 1) := by decide +kernel
theorem d_X12_init_1 : decode cX12_init 1 = .ok (.invokespecial 1, 3) := by decide +kernel
theorem d_X12_init_4 : decode cX12_init 4 = .ok (.aload_n 0, 1) := by decide +kernel
theorem d_X12_init_5 : decode cX12_init 5 = .ok (.sipush 400, 3) := by decide +kernel
theorem d_X12_init_8 : decode cX12_init 8 = .ok (.newarray .byte, 2) := by decide +kernel
theorem d_X12_init_10 : decode cX12_init 10 = .ok (.putfield 7, 3) := by decide +kernel
theorem d_X12_init_13 : decode cX12_init 13 = .ok (.aload_n 0, 1) := by decide +kernel
theorem d_X12_init_14 : decode cX12_init 14 = .ok (.sipush 2400, 3) := by decide +kernel
theorem d_X12_init_17 : decode cX12_init 17 = .ok (.newarray .int, 2) := by decide +kernel
theorem d_X12_init_19 : decode cX12_init 19 = .ok (.putfield 13, 3) := by decide +kernel
theorem d_X12_init_22 : decode cX12_init 22 = .ok (.aload_n 0, 1) := by decide +kernel
theorem d_X12_init_23 : decode cX12_init 23 = .ok (.bipush 7, 2) := by decide +kernel
theorem d_X12_init_25 : decode cX12_init 25 = .ok (.newarray .int, 2) := by decide +kernel
theorem d_X12_init_27 : decode cX12_init 27 = .ok (.putfield 17, 3) := by decide +kernel
theorem d_X12_init_30 : decode cX12_init 30 = .ok (.aload_n 0, 1) := by decide +kernel
theorem d_X12_init_31 : decode cX12_init 31 = .ok (.sipush 288, 3) := by decide +kernel
theorem d_X12_init_34 : decode cX12_init 34 = .ok (.newarray .int, 2) := by decide +kernel
theorem d_X12_init_36 : decode cX12_init 36 = .ok (.putfield 20, 3) := by decide +kernel
theorem d_X12_init_39 : decode cX12_init 39 = .ok (.aload_n 0, 1) := by decide +kernel
theorem d_X12_init_40 : decode cX12_init 40 = .ok (.bipush 6, 2) := by decide +kernel
theorem d_X12_init_42 : decode cX12_init 42 = .ok (.newarray .int, 2) := by decide +kernel
theorem d_X12_init_44 : decode cX12_init 44 = .ok (.putfield 23, 3) := by decide +kernel
theorem d_X12_init_47 : decode cX12_init 47 = .ok (.aload_n 0, 1) := by decide +kernel
theorem d_X12_init_48 : decode cX12_init 48 = .ok (.sipush 157, 3) := by decide +kernel
theorem d_X12_init_51 : decode cX12_init 51 = .ok (.newarray .int, 2) := by decide +kernel
theorem d_X12_init_53 : decode cX12_init 53 = .ok (.putfield 26, 3) := by decide +kernel
theorem d_X12_init_56 : decode cX12_init 56 = .ok (.aload_n 0, 1) := by decide +kernel
theorem d_X12_init_57 : decode cX12_init 57 = .ok (.sipush 400, 3) := by decide +kernel
theorem d_X12_init_60 : decode cX12_init 60 = .ok (.newarray .int, 2) := by decide +kernel
theorem d_X12_init_62 : decode cX12_init 62 = .ok (.putfield 29, 3) := by decide +kernel
theorem d_X12_init_65 : decode cX12_init 65 = .ok (.aload_n 0, 1) := by decide +kernel
theorem d_X12_init_66 : decode cX12_init 66 = .ok (.bipush 64, 2) := by decide +kernel
theorem d_X12_init_68 : decode cX12_init 68 = .ok (.newarray .long, 2) := by decide +kernel
theorem d_X12_init_70 : decode cX12_init 70 = .ok (.putfield 32, 3) := by decide +kernel
theorem d_X12_init_73 : decode cX12_init 73 = .ok (.aload_n 0, 1) := by decide +kernel
theorem d_X12_init_74 : decode cX12_init 74 = .ok (.bipush 14, 2) := by decide +kernel
theorem d_X12_init_76 : decode cX12_init 76 = .ok (.newarray .long, 2) := by decide +kernel
theorem d_X12_init_78 : decode cX12_init 78 = .ok (.putfield 36, 3) := by decide +kernel
theorem d_X12_init_81 : decode cX12_init 81 = .ok (.aload_n 0, 1) := by decide +kernel
theorem d_X12_init_82 : decode cX12_init 82 = .ok (.sipush 157, 3) := by decide +kernel
theorem d_X12_init_85 : decode cX12_init 85 = .ok (.newarray .int, 2) := by decide +kernel
theorem d_X12_init_87 : decode cX12_init 87 = .ok (.putfield 39, 3) := by decide +kernel
theorem d_X12_init_90 : decode cX12_init 90 = .ok (.aload_n 0, 1) := by decide +kernel
theorem d_X12_init_91 : decode cX12_init 91 = .ok (.iconst (-1), 1) := by decide +kernel
theorem d_X12_init_92 : decode cX12_init 92 = .ok (.putfield 42, 3) := by decide +kernel
theorem d_X12_init_95 : decode cX12_init 95 = .ok (.aload_n 0, 1) := by decide +kernel
theorem d_X12_init_96 : decode cX12_init 96 = .ok (.bipush 49, 2) := by decide +kernel
theorem d_X12_init_98 : decode cX12_init 98 = .ok (.newarray .int, 2) := by decide +kernel
theorem d_X12_init_100 : decode cX12_init 100 = .ok (.putfield 46, 3) := by decide +kernel
theorem d_X12_init_103 : decode cX12_init 103 = .ok (.aload_n 0, 1) := by decide +kernel
theorem d_X12_init_104 : decode cX12_init 104 = .ok (.sipush 3140, 3) := by decide +kernel
theorem d_X12_init_107 : decode cX12_init 107 = .ok (.newarray .int, 2) := by decide +kernel
theorem d_X12_init_109 : decode cX12_init 109 = .ok (.putfield 49, 3) := by decide +kernel
theorem d_X12_init_112 : decode cX12_init 112 = .ok (.aload_n 0, 1) := by decide +kernel
theorem d_X12_init_113 : decode cX12_init 113 = .ok (.sipush 157, 3) := by decide +kernel
theorem d_X12_init_116 : decode cX12_init 116 = .ok (.newarray .int, 2) := by decide +kernel
theorem d_X12_init_118 : decode cX12_init 118 = .ok (.putfield 52, 3) := by decide +kernel
theorem d_X12_init_121 : decode cX12_init 121 = .ok (.aload_n 0, 1) := by decide +kernel
theorem d_X12_init_122 : decode cX12_init 122 = .ok (.bipush 7, 2) := by decide +kernel
theorem d_X12_init_124 : decode cX12_init 124 = .ok (.newarray .int, 2) := by decide +kernel
theorem d_X12_init_126 : decode cX12_init 126 = .ok (.putfield 55, 3) := by decide +kernel
theorem d_X12_init_129 : decode cX12_init 129 = .ok (.aload_n 0, 1) := by decide +kernel
theorem d_X12_init_130 : decode cX12_init 130 = .ok (.bipush 56, 2) := by decide +kernel
theorem d_X12_init_132 : decode cX12_init 132 = .ok (.newarray .int, 2) := by decide +kernel
theorem d_X12_init_134 : decode cX12_init 134 = .ok (.putfield 58, 3) := by decide +kernel
theorem d_X12_init_137 : decode cX12_init 137 = .ok (.aload_n 0, 1) := by decide +kernel
theorem d_X12_init_138 : decode cX12_init 138 = .ok (.bipush 100, 2) := by decide +kernel
theorem d_X12_init_140 : decode cX12_init 140 = .ok (.newarray .int, 2) := by decide +kernel
theorem d_X12_init_142 : decode cX12_init 142 = .ok (.putfield 61, 3) := by decide +kernel
theorem d_X12_init_145 : decode cX12_init 145 = .ok (.aload_n 0, 1) := by decide +kernel
theorem d_X12_init_146 : decode cX12_init 146 = .ok (.bipush 100, 2) := by decide +kernel
theorem d_X12_init_148 : decode cX12_init 148 = .ok (.newarray .int, 2) := by decide +kernel
theorem d_X12_init_150 : decode cX12_init 150 = .ok (.putfield 64, 3) := by decide +kernel
theorem d_X12_init_153 : decode cX12_init 153 = .ok (.aload_n 0, 1) := by decide +kernel
theorem d_X12_init_154 : decode cX12_init 154 = .ok (.sipush 628, 3) := by decide +kernel
theorem d_X12_init_157 : decode cX12_init 157 = .ok (.newarray .int, 2) := by decide +kernel
theorem d_X12_init_159 : decode cX12_init 159 = .ok (.putfield 67, 3) := by decide +kernel
theorem d_X12_init_162 : decode cX12_init 162 = .ok (.aload_n 0, 1) := by decide +kernel
theorem d_X12_init_163 : decode cX12_init 163 = .ok (.iconst 4, 1) := by decide +kernel
theorem d_X12_init_164 : decode cX12_init 164 = .ok (.newarray .int, 2) := by decide +kernel
theorem d_X12_init_166 : decode cX12_init 166 = .ok (.putfield 70, 3) := by decide +kernel
theorem d_X12_init_169 : decode cX12_init 169 = .ok (.aload_n 0, 1) := by decide +kernel
theorem d_X12_init_170 : decode cX12_init 170 = .ok (.iconst 4, 1) := by decide +kernel
theorem d_X12_init_171 : decode cX12_init 171 = .ok (.newarray .int, 2) := by decide +kernel
theorem d_X12_init_173 : decode cX12_init 173 = .ok (.putfield 73, 3) := by decide +kernel
theorem d_X12_init_176 : decode cX12_init 176 = .ok (.aload_n 0, 1) := by decide +kernel
theorem d_X12_init_177 : decode cX12_init 177 = .ok (.iconst 4, 1) := by decide +kernel
theorem d_X12_init_178 : decode cX12_init 178 = .ok (.newarray .boolean, 2) := by decide +kernel
theorem d_X12_init_180 : decode cX12_init 180 = .ok (.putfield 76, 3) := by decide +kernel
theorem d_X12_init_183 : decode cX12_init 183 = .ok (.return_, 1) := by decide +kernel
abbrev X_X12_init : gX := (RX12, cX12_init, 1, none, true)
def F_X12_init_b0 (l0 : Nat) (M : gM) : Option gM :=
  (pR 12 (nw (22, 400) M) (some l0) 0 (some M.1.length)).bind fun M1 => (pR 12 (nw (20, 2400) M1) (some l0) 3 (some M1.1.length)).bind fun M2 => (pR 12 (nw (20, 7) M2) (some l0) 4 (some M2.1.length)).bind fun M3 => (pR 12 (nw (20, 288) M3) (some l0) 5 (some M3.1.length)).bind fun M4 => (pR 12 (nw (20, 6) M4) (some l0) 6 (some M4.1.length)).bind fun M5 => (pR 12 (nw (20, 157) M5) (some l0) 7 (some M5.1.length)).bind fun M6 => (pR 12 (nw (20, 400) M6) (some l0) 15 (some M6.1.length)).bind fun M7 => (pR 12 (nw (21, 64) M7) (some l0) 17 (some M7.1.length)).bind fun M8 => (pR 12 (nw (21, 14) M8) (some l0) 19 (some M8.1.length)).bind fun M9 => (pR 12 (nw (20, 157) M9) (some l0) 20 (some M9.1.length)).bind fun M10 => (pI 12 M10 (some l0) 21 (-1 : Int32)).bind fun M11 => (pR 12 (nw (20, 49) M11) (some l0) 23 (some M11.1.length)).bind fun M12 => (pR 12 (nw (20, 3140) M12) (some l0) 24 (some M12.1.length)).bind fun M13 => (pR 12 (nw (20, 157) M13) (some l0) 26 (some M13.1.length)).bind fun M14 => (pR 12 (nw (20, 7) M14) (some l0) 27 (some M14.1.length)).bind fun M15 => (pR 12 (nw (20, 56) M15) (some l0) 28 (some M15.1.length)).bind fun M16 => (pR 12 (nw (20, 100) M16) (some l0) 30 (some M16.1.length)).bind fun M17 => (pR 12 (nw (20, 100) M17) (some l0) 31 (some M17.1.length)).bind fun M18 => (pR 12 (nw (20, 628) M18) (some l0) 33 (some M18.1.length)).bind fun M19 => (pR 12 (nw (20, 4) M19) (some l0) 34 (some M19.1.length)).bind fun M20 => (pR 12 (nw (20, 4) M20) (some l0) 35 (some M20.1.length)).bind fun M21 => (pR 12 (nw (23, 4) M21) (some l0) 36 (some M21.1.length)).bind fun M22 => some M22
set_option maxHeartbeats 1000000 in
theorem T_X12_init_b0 (r : gM) (l0 : Nat) (M : gM) (h : F_X12_init_b0 l0 M = some r) : GW 1 21 8142 X_X12_init 0 [(0, vr (some l0))] [] M (none, r) := by
  delta F_X12_init_b0 at h
  refine GW_aload_n (X := X_X12_init) (pc := 0) d_X12_init_0 rfl 0 rfl ?_
  refine GW_objInit (X := X_X12_init) (pc := 1) ⟨m_1101, g_w_objI.1, g_w_objI.2⟩ d_X12_init_1 (Nat.le_of_ble_eq_true rfl) (Nat.le_of_ble_eq_true rfl) ?_
  refine GW_aload_n (X := X_X12_init) (pc := 4) d_X12_init_4 rfl 0 rfl ?_
  refine GW_sipush (X := X_X12_init) (pc := 5) (v := 400) d_X12_init_5 (by decide) ?_
  refine GW_newa_byte (X := X_X12_init) (pc := 8) (N := 400) g_w_arrc.2.1 d_X12_init_8 (by decide) (by decide) (by decide) 20 7742 rfl (Nat.le_of_ble_eq_true rfl) ?_
  replace h := g_bd h
  obtain ⟨M1, hM1, h⟩ := h
  refine GW_putR (X := X_X12_init) (pc := 10) f_X12_7 d_X12_init_10 hM1 (Or.inr ⟨rfl, fi_12_0⟩) (Or.inr ⟨_, ty_12_0⟩) ?_
  refine GW_aload_n (X := X_X12_init) (pc := 13) d_X12_init_13 rfl 0 rfl ?_
  refine GW_sipush (X := X_X12_init) (pc := 14) (v := 2400) d_X12_init_14 (by decide) ?_
  refine GW_newa_int (X := X_X12_init) (pc := 17) (N := 2400) g_w_arrc.1.1 d_X12_init_17 (by decide) (by decide) (by decide) 19 5342 rfl (Nat.le_of_ble_eq_true rfl) ?_
  replace h := g_bd h
  obtain ⟨M2, hM2, h⟩ := h
  refine GW_putR (X := X_X12_init) (pc := 19) f_X12_13 d_X12_init_19 hM2 (Or.inr ⟨rfl, fi_12_3⟩) (Or.inr ⟨_, ty_12_3⟩) ?_
  refine GW_aload_n (X := X_X12_init) (pc := 22) d_X12_init_22 rfl 0 rfl ?_
  refine GW_bipush (X := X_X12_init) (pc := 23) (v := 7) d_X12_init_23 (by decide) ?_
  refine GW_newa_int (X := X_X12_init) (pc := 25) (N := 7) g_w_arrc.1.1 d_X12_init_25 (by decide) (by decide) (by decide) 18 5335 rfl (Nat.le_of_ble_eq_true rfl) ?_
  replace h := g_bd h
  obtain ⟨M3, hM3, h⟩ := h
  refine GW_putR (X := X_X12_init) (pc := 27) f_X12_17 d_X12_init_27 hM3 (Or.inr ⟨rfl, fi_12_4⟩) (Or.inr ⟨_, ty_12_4⟩) ?_
  refine GW_aload_n (X := X_X12_init) (pc := 30) d_X12_init_30 rfl 0 rfl ?_
  refine GW_sipush (X := X_X12_init) (pc := 31) (v := 288) d_X12_init_31 (by decide) ?_
  refine GW_newa_int (X := X_X12_init) (pc := 34) (N := 288) g_w_arrc.1.1 d_X12_init_34 (by decide) (by decide) (by decide) 17 5047 rfl (Nat.le_of_ble_eq_true rfl) ?_
  replace h := g_bd h
  obtain ⟨M4, hM4, h⟩ := h
  refine GW_putR (X := X_X12_init) (pc := 36) f_X12_20 d_X12_init_36 hM4 (Or.inr ⟨rfl, fi_12_5⟩) (Or.inr ⟨_, ty_12_5⟩) ?_
  refine GW_aload_n (X := X_X12_init) (pc := 39) d_X12_init_39 rfl 0 rfl ?_
  refine GW_bipush (X := X_X12_init) (pc := 40) (v := 6) d_X12_init_40 (by decide) ?_
  refine GW_newa_int (X := X_X12_init) (pc := 42) (N := 6) g_w_arrc.1.1 d_X12_init_42 (by decide) (by decide) (by decide) 16 5041 rfl (Nat.le_of_ble_eq_true rfl) ?_
  replace h := g_bd h
  obtain ⟨M5, hM5, h⟩ := h
  refine GW_putR (X := X_X12_init) (pc := 44) f_X12_23 d_X12_init_44 hM5 (Or.inr ⟨rfl, fi_12_6⟩) (Or.inr ⟨_, ty_12_6⟩) ?_
  refine GW_aload_n (X := X_X12_init) (pc := 47) d_X12_init_47 rfl 0 rfl ?_
  refine GW_sipush (X := X_X12_init) (pc := 48) (v := 157) d_X12_init_48 (by decide) ?_
  refine GW_newa_int (X := X_X12_init) (pc := 51) (N := 157) g_w_arrc.1.1 d_X12_init_51 (by decide) (by decide) (by decide) 15 4884 rfl (Nat.le_of_ble_eq_true rfl) ?_
  replace h := g_bd h
  obtain ⟨M6, hM6, h⟩ := h
  refine GW_putR (X := X_X12_init) (pc := 53) f_X12_26 d_X12_init_53 hM6 (Or.inr ⟨rfl, fi_12_7⟩) (Or.inr ⟨_, ty_12_7⟩) ?_
  refine GW_aload_n (X := X_X12_init) (pc := 56) d_X12_init_56 rfl 0 rfl ?_
  refine GW_sipush (X := X_X12_init) (pc := 57) (v := 400) d_X12_init_57 (by decide) ?_
  refine GW_newa_int (X := X_X12_init) (pc := 60) (N := 400) g_w_arrc.1.1 d_X12_init_60 (by decide) (by decide) (by decide) 14 4484 rfl (Nat.le_of_ble_eq_true rfl) ?_
  replace h := g_bd h
  obtain ⟨M7, hM7, h⟩ := h
  refine GW_putR (X := X_X12_init) (pc := 62) f_X12_29 d_X12_init_62 hM7 (Or.inr ⟨rfl, fi_12_15⟩) (Or.inr ⟨_, ty_12_15⟩) ?_
  refine GW_aload_n (X := X_X12_init) (pc := 65) d_X12_init_65 rfl 0 rfl ?_
  refine GW_bipush (X := X_X12_init) (pc := 66) (v := 64) d_X12_init_66 (by decide) ?_
  refine GW_newa_long (X := X_X12_init) (pc := 68) (N := 64) g_w_arrc.1.2 d_X12_init_68 (by decide) (by decide) (by decide) 13 4420 rfl (Nat.le_of_ble_eq_true rfl) ?_
  replace h := g_bd h
  obtain ⟨M8, hM8, h⟩ := h
  refine GW_putR (X := X_X12_init) (pc := 70) f_X12_32 d_X12_init_70 hM8 (Or.inr ⟨rfl, fi_12_17⟩) (Or.inr ⟨_, ty_12_17⟩) ?_
  refine GW_aload_n (X := X_X12_init) (pc := 73) d_X12_init_73 rfl 0 rfl ?_
  refine GW_bipush (X := X_X12_init) (pc := 74) (v := 14) d_X12_init_74 (by decide) ?_
  refine GW_newa_long (X := X_X12_init) (pc := 76) (N := 14) g_w_arrc.1.2 d_X12_init_76 (by decide) (by decide) (by decide) 12 4406 rfl (Nat.le_of_ble_eq_true rfl) ?_
  replace h := g_bd h
  obtain ⟨M9, hM9, h⟩ := h
  refine GW_putR (X := X_X12_init) (pc := 78) f_X12_36 d_X12_init_78 hM9 (Or.inr ⟨rfl, fi_12_19⟩) (Or.inr ⟨_, ty_12_19⟩) ?_
  refine GW_aload_n (X := X_X12_init) (pc := 81) d_X12_init_81 rfl 0 rfl ?_
  refine GW_sipush (X := X_X12_init) (pc := 82) (v := 157) d_X12_init_82 (by decide) ?_
  refine GW_newa_int (X := X_X12_init) (pc := 85) (N := 157) g_w_arrc.1.1 d_X12_init_85 (by decide) (by decide) (by decide) 11 4249 rfl (Nat.le_of_ble_eq_true rfl) ?_
  replace h := g_bd h
  obtain ⟨M10, hM10, h⟩ := h
  refine GW_putR (X := X_X12_init) (pc := 87) f_X12_39 d_X12_init_87 hM10 (Or.inr ⟨rfl, fi_12_20⟩) (Or.inr ⟨_, ty_12_20⟩) ?_
  refine GW_aload_n (X := X_X12_init) (pc := 90) d_X12_init_90 rfl 0 rfl ?_
  refine GW_iconst (X := X_X12_init) (pc := 91) (v := -1) d_X12_init_91 (by decide) ?_
  replace h := g_bd h
  obtain ⟨M11, hM11, h⟩ := h
  refine GW_putI (X := X_X12_init) (pc := 92) f_X12_42 d_X12_init_92 hM11 (Or.inl fi_12_21) (Or.inl ty_12_21) ?_
  refine GW_aload_n (X := X_X12_init) (pc := 95) d_X12_init_95 rfl 0 rfl ?_
  refine GW_bipush (X := X_X12_init) (pc := 96) (v := 49) d_X12_init_96 (by decide) ?_
  refine GW_newa_int (X := X_X12_init) (pc := 98) (N := 49) g_w_arrc.1.1 d_X12_init_98 (by decide) (by decide) (by decide) 10 4200 rfl (Nat.le_of_ble_eq_true rfl) ?_
  replace h := g_bd h
  obtain ⟨M12, hM12, h⟩ := h
  refine GW_putR (X := X_X12_init) (pc := 100) f_X12_46 d_X12_init_100 hM12 (Or.inr ⟨rfl, fi_12_23⟩) (Or.inr ⟨_, ty_12_23⟩) ?_
  refine GW_aload_n (X := X_X12_init) (pc := 103) d_X12_init_103 rfl 0 rfl ?_
  refine GW_sipush (X := X_X12_init) (pc := 104) (v := 3140) d_X12_init_104 (by decide) ?_
  refine GW_newa_int (X := X_X12_init) (pc := 107) (N := 3140) g_w_arrc.1.1 d_X12_init_107 (by decide) (by decide) (by decide) 9 1060 rfl (Nat.le_of_ble_eq_true rfl) ?_
  replace h := g_bd h
  obtain ⟨M13, hM13, h⟩ := h
  refine GW_putR (X := X_X12_init) (pc := 109) f_X12_49 d_X12_init_109 hM13 (Or.inr ⟨rfl, fi_12_24⟩) (Or.inr ⟨_, ty_12_24⟩) ?_
  refine GW_aload_n (X := X_X12_init) (pc := 112) d_X12_init_112 rfl 0 rfl ?_
  refine GW_sipush (X := X_X12_init) (pc := 113) (v := 157) d_X12_init_113 (by decide) ?_
  refine GW_newa_int (X := X_X12_init) (pc := 116) (N := 157) g_w_arrc.1.1 d_X12_init_116 (by decide) (by decide) (by decide) 8 903 rfl (Nat.le_of_ble_eq_true rfl) ?_
  replace h := g_bd h
  obtain ⟨M14, hM14, h⟩ := h
  refine GW_putR (X := X_X12_init) (pc := 118) f_X12_52 d_X12_init_118 hM14 (Or.inr ⟨rfl, fi_12_26⟩) (Or.inr ⟨_, ty_12_26⟩) ?_
  refine GW_aload_n (X := X_X12_init) (pc := 121) d_X12_init_121 rfl 0 rfl ?_
  refine GW_bipush (X := X_X12_init) (pc := 122) (v := 7) d_X12_init_122 (by decide) ?_
  refine GW_newa_int (X := X_X12_init) (pc := 124) (N := 7) g_w_arrc.1.1 d_X12_init_124 (by decide) (by decide) (by decide) 7 896 rfl (Nat.le_of_ble_eq_true rfl) ?_
  replace h := g_bd h
  obtain ⟨M15, hM15, h⟩ := h
  refine GW_putR (X := X_X12_init) (pc := 126) f_X12_55 d_X12_init_126 hM15 (Or.inr ⟨rfl, fi_12_27⟩) (Or.inr ⟨_, ty_12_27⟩) ?_
  refine GW_aload_n (X := X_X12_init) (pc := 129) d_X12_init_129 rfl 0 rfl ?_
  refine GW_bipush (X := X_X12_init) (pc := 130) (v := 56) d_X12_init_130 (by decide) ?_
  refine GW_newa_int (X := X_X12_init) (pc := 132) (N := 56) g_w_arrc.1.1 d_X12_init_132 (by decide) (by decide) (by decide) 6 840 rfl (Nat.le_of_ble_eq_true rfl) ?_
  replace h := g_bd h
  obtain ⟨M16, hM16, h⟩ := h
  refine GW_putR (X := X_X12_init) (pc := 134) f_X12_58 d_X12_init_134 hM16 (Or.inr ⟨rfl, fi_12_28⟩) (Or.inr ⟨_, ty_12_28⟩) ?_
  refine GW_aload_n (X := X_X12_init) (pc := 137) d_X12_init_137 rfl 0 rfl ?_
  refine GW_bipush (X := X_X12_init) (pc := 138) (v := 100) d_X12_init_138 (by decide) ?_
  refine GW_newa_int (X := X_X12_init) (pc := 140) (N := 100) g_w_arrc.1.1 d_X12_init_140 (by decide) (by decide) (by decide) 5 740 rfl (Nat.le_of_ble_eq_true rfl) ?_
  replace h := g_bd h
  obtain ⟨M17, hM17, h⟩ := h
  refine GW_putR (X := X_X12_init) (pc := 142) f_X12_61 d_X12_init_142 hM17 (Or.inr ⟨rfl, fi_12_30⟩) (Or.inr ⟨_, ty_12_30⟩) ?_
  refine GW_aload_n (X := X_X12_init) (pc := 145) d_X12_init_145 rfl 0 rfl ?_
  refine GW_bipush (X := X_X12_init) (pc := 146) (v := 100) d_X12_init_146 (by decide) ?_
  refine GW_newa_int (X := X_X12_init) (pc := 148) (N := 100) g_w_arrc.1.1 d_X12_init_148 (by decide) (by decide) (by decide) 4 640 rfl (Nat.le_of_ble_eq_true rfl) ?_
  replace h := g_bd h
  obtain ⟨M18, hM18, h⟩ := h
  refine GW_putR (X := X_X12_init) (pc := 150) f_X12_64 d_X12_init_150 hM18 (Or.inr ⟨rfl, fi_12_31⟩) (Or.inr ⟨_, ty_12_31⟩) ?_
  refine GW_aload_n (X := X_X12_init) (pc := 153) d_X12_init_153 rfl 0 rfl ?_
  refine GW_sipush (X := X_X12_init) (pc := 154) (v := 628) d_X12_init_154 (by decide) ?_
  refine GW_newa_int (X := X_X12_init) (pc := 157) (N := 628) g_w_arrc.1.1 d_X12_init_157 (by decide) (by decide) (by decide) 3 12 rfl (Nat.le_of_ble_eq_true rfl) ?_
  replace h := g_bd h
  obtain ⟨M19, hM19, h⟩ := h
  refine GW_putR (X := X_X12_init) (pc := 159) f_X12_67 d_X12_init_159 hM19 (Or.inr ⟨rfl, fi_12_33⟩) (Or.inr ⟨_, ty_12_33⟩) ?_
  refine GW_aload_n (X := X_X12_init) (pc := 162) d_X12_init_162 rfl 0 rfl ?_
  refine GW_iconst (X := X_X12_init) (pc := 163) (v := 4) d_X12_init_163 (by decide) ?_
  refine GW_newa_int (X := X_X12_init) (pc := 164) (N := 4) g_w_arrc.1.1 d_X12_init_164 (by decide) (by decide) (by decide) 2 8 rfl (Nat.le_of_ble_eq_true rfl) ?_
  replace h := g_bd h
  obtain ⟨M20, hM20, h⟩ := h
  refine GW_putR (X := X_X12_init) (pc := 166) f_X12_70 d_X12_init_166 hM20 (Or.inr ⟨rfl, fi_12_34⟩) (Or.inr ⟨_, ty_12_34⟩) ?_
  refine GW_aload_n (X := X_X12_init) (pc := 169) d_X12_init_169 rfl 0 rfl ?_
  refine GW_iconst (X := X_X12_init) (pc := 170) (v := 4) d_X12_init_170 (by decide) ?_
  refine GW_newa_int (X := X_X12_init) (pc := 171) (N := 4) g_w_arrc.1.1 d_X12_init_171 (by decide) (by decide) (by decide) 1 4 rfl (Nat.le_of_ble_eq_true rfl) ?_
  replace h := g_bd h
  obtain ⟨M21, hM21, h⟩ := h
  refine GW_putR (X := X_X12_init) (pc := 173) f_X12_73 d_X12_init_173 hM21 (Or.inr ⟨rfl, fi_12_35⟩) (Or.inr ⟨_, ty_12_35⟩) ?_
  refine GW_aload_n (X := X_X12_init) (pc := 176) d_X12_init_176 rfl 0 rfl ?_
  refine GW_iconst (X := X_X12_init) (pc := 177) (v := 4) d_X12_init_177 (by decide) ?_
  refine GW_newa_boolean (X := X_X12_init) (pc := 178) (N := 4) g_w_arrc.2.2 d_X12_init_178 (by decide) (by decide) (by decide) 0 0 rfl (Nat.le_of_ble_eq_true rfl) ?_
  replace h := g_bd h
  obtain ⟨M22, hM22, h⟩ := h
  refine GW_putR (X := X_X12_init) (pc := 180) f_X12_76 d_X12_init_180 hM22 (Or.inr ⟨rfl, fi_12_36⟩) (Or.inr ⟨_, ty_12_36⟩) ?_
  replace h := Option.some.inj h
  subst h
  exact GW_ret (X := X_X12_init) (pc := 183) d_X12_init_183 rfl trivial
def F_X12_init (l0 : Nat) (M : gM) : Option gM := F_X12_init_b0 l0 M
theorem T_X12_init (l0 : Nat) (M : gM) (r : gM) (h : F_X12_init l0 M = some r) : g_Met 1 21 8142 yX12_init X_X12_init [vr (some l0)] M (none, r) :=
  g_Met_of pn_RX12 rfl (Nat.le_of_ble_eq_true rfl) (fun _ => rfl) (GW_sub [0] rfl (T_X12_init_b0 r l0 M h))
/-! ForgetHeirs$Tape.append(I)V -/
theorem d_X9_append_0 : decode cX9_append 0 = .ok (.bipush 24, 2) := by decide +kernel
theorem d_X9_append_2 : decode cX9_append 2 = .ok (.istore_n 2, 1) := by decide +kernel
theorem d_X9_append_3 : decode cX9_append 3 = .ok (.iload_n 2, 1) := by decide +kernel
theorem d_X9_append_4 : decode cX9_append 4 = .ok (.ifCond .lt 42, 3) := by decide +kernel
theorem d_X9_append_7 : decode cX9_append 7 = .ok (.aload_n 0, 1) := by decide +kernel
theorem d_X9_append_8 : decode cX9_append 8 = .ok (.getfield 32, 3) := by decide +kernel
theorem d_X9_append_11 : decode cX9_append 11 = .ok (.sipush 400, 3) := by decide +kernel
theorem d_X9_append_14 : decode cX9_append 14 = .ok (.if_icmp .ge 32, 3) := by decide +kernel
theorem d_X9_append_17 : decode cX9_append 17 = .ok (.aload_n 0, 1) := by decide +kernel
theorem d_X9_append_18 : decode cX9_append 18 = .ok (.getfield 11, 3) := by decide +kernel
theorem d_X9_append_21 : decode cX9_append 21 = .ok (.aload_n 0, 1) := by decide +kernel
theorem d_X9_append_22 : decode cX9_append 22 = .ok (.getfield 32, 3) := by decide +kernel
theorem d_X9_append_25 : decode cX9_append 25 = .ok (.iload_n 1, 1) := by decide +kernel
theorem d_X9_append_26 : decode cX9_append 26 = .ok (.iload_n 2, 1) := by decide +kernel
theorem d_X9_append_27 : decode cX9_append 27 = .ok (.ishr, 1) := by decide +kernel
theorem d_X9_append_28 : decode cX9_append 28 = .ok (.i2b, 1) := by decide +kernel
theorem d_X9_append_29 : decode cX9_append 29 = .ok (.bastore, 1) := by decide +kernel
theorem d_X9_append_30 : decode cX9_append 30 = .ok (.aload_n 0, 1) := by decide +kernel
theorem d_X9_append_31 : decode cX9_append 31 = .ok (.dup, 1) := by decide +kernel
theorem d_X9_append_32 : decode cX9_append 32 = .ok (.getfield 32, 3) := by decide +kernel
theorem d_X9_append_35 : decode cX9_append 35 = .ok (.iconst 1, 1) := by decide +kernel
theorem d_X9_append_36 : decode cX9_append 36 = .ok (.iadd, 1) := by decide +kernel
theorem d_X9_append_37 : decode cX9_append 37 = .ok (.putfield 32, 3) := by decide +kernel
theorem d_X9_append_40 : decode cX9_append 40 = .ok (.iinc 2 (-8), 3) := by decide +kernel
theorem d_X9_append_43 : decode cX9_append 43 = .ok (.goto (-40), 3) := by decide +kernel
theorem d_X9_append_46 : decode cX9_append 46 = .ok (.return_, 1) := by decide +kernel
abbrev X_X9_append : gX := (RX9, cX9_append, 3, none, false)
def F_X9_append_b3 (k3 : Option Nat → Int32 → Int32 → gM → Option gM) (l0 : Option Nat) (l1 : Int32) (l2 : Int32) (M : gM) : Option gM :=
  if l2 < 0 then (some M) else ((gI 9 M l0 6).bind fun v1 => if (400 : Int32) ≤ v1 then (some M) else ((gR 9 M l0 0).bind fun v2 => (gI 9 M l0 6).bind fun v3 => (sB M v2 v3 ((l1 >>> (l2 &&& 31))).toInt8.toInt32).bind fun M4 => (gI 9 M4 l0 6).bind fun v5 => (pI 9 M4 l0 6 (v5 + (1 : Int32))).bind fun M6 => k3 l0 l1 (l2 + (-8)) M6))
set_option maxHeartbeats 1000000 in
theorem T_X9_append_b3 (k3 : Option Nat → Int32 → Int32 → gM → Option gM) (r : gM) (hk3 : ∀ (l0 : Option Nat) (l1 : Int32) (l2 : Int32) (M : gM), k3 l0 l1 l2 M = some r → GW 0 0 0 X_X9_append 3 [(0, vr l0), (1, vi l1), (2, vi l2)] [] M (none, r)) (l0 : Option Nat) (l1 : Int32) (l2 : Int32) (M : gM) (h : F_X9_append_b3 k3 l0 l1 l2 M = some r) : GW 0 0 0 X_X9_append 3 [(0, vr l0), (1, vi l1), (2, vi l2)] [] M (none, r) := by
  delta F_X9_append_b3 at h
  refine GW_iload_n (X := X_X9_append) (pc := 3) d_X9_append_3 rfl 2 rfl ?_
  refine GW_if_lt (X := X_X9_append) (pc := 4) 46 d_X9_append_4 (by decide) (fun c => ?_) (fun c => ?_)
  · replace h := g_ip c h
    replace h := Option.some.inj h
    subst h
    exact GW_ret (X := X_X9_append) (pc := 46) d_X9_append_46 rfl trivial
  · replace h := g_ie c h
    refine GW_aload_n (X := X_X9_append) (pc := 7) d_X9_append_7 rfl 0 rfl ?_
    replace h := g_bd h
    obtain ⟨v1, hv1, h⟩ := h
    refine GW_getI (X := X_X9_append) (pc := 8) f_X9_32 d_X9_append_8 hv1 (Or.inl ty_9_6) ?_
    refine GW_sipush (X := X_X9_append) (pc := 11) (v := 400) d_X9_append_11 (by decide) ?_
    refine GW_icmp_ge (X := X_X9_append) (pc := 14) 46 d_X9_append_14 (by decide) (fun c => ?_) (fun c => ?_)
    · replace h := g_ip c h
      replace h := Option.some.inj h
      subst h
      exact GW_ret (X := X_X9_append) (pc := 46) d_X9_append_46 rfl trivial
    · replace h := g_ie c h
      refine GW_aload_n (X := X_X9_append) (pc := 17) d_X9_append_17 rfl 0 rfl ?_
      replace h := g_bd h
      obtain ⟨v2, hv2, h⟩ := h
      refine GW_getR (X := X_X9_append) (pc := 18) f_X9_11 d_X9_append_18 hv2 (Or.inr ⟨_, ty_9_0⟩) ?_
      refine GW_aload_n (X := X_X9_append) (pc := 21) d_X9_append_21 rfl 0 rfl ?_
      replace h := g_bd h
      obtain ⟨v3, hv3, h⟩ := h
      refine GW_getI (X := X_X9_append) (pc := 22) f_X9_32 d_X9_append_22 hv3 (Or.inl ty_9_6) ?_
      refine GW_iload_n (X := X_X9_append) (pc := 25) d_X9_append_25 rfl 1 rfl ?_
      refine GW_iload_n (X := X_X9_append) (pc := 26) d_X9_append_26 rfl 2 rfl ?_
      refine GW_ishr (X := X_X9_append) (pc := 27) d_X9_append_27 ?_
      refine GW_i2b (X := X_X9_append) (pc := 28) d_X9_append_28 ?_
      replace h := g_bd h
      obtain ⟨M4, hM4, h⟩ := h
      refine GW_bast (X := X_X9_append) (pc := 29) d_X9_append_29 hM4 ?_
      refine GW_aload_n (X := X_X9_append) (pc := 30) d_X9_append_30 rfl 0 rfl ?_
      refine GW_dup (X := X_X9_append) (pc := 31) d_X9_append_31 rfl ?_
      replace h := g_bd h
      obtain ⟨v5, hv5, h⟩ := h
      refine GW_getI (X := X_X9_append) (pc := 32) f_X9_32 d_X9_append_32 hv5 (Or.inl ty_9_6) ?_
      refine GW_iconst (X := X_X9_append) (pc := 35) (v := 1) d_X9_append_35 (by decide) ?_
      refine GW_iadd (X := X_X9_append) (pc := 36) d_X9_append_36 ?_
      replace h := g_bd h
      obtain ⟨M6, hM6, h⟩ := h
      refine GW_putI (X := X_X9_append) (pc := 37) f_X9_32 d_X9_append_37 hM6 (Or.inl fi_9_6) (Or.inl ty_9_6) ?_
      refine GW_iinc (j := 2) (X := X_X9_append) (pc := 40) d_X9_append_40 rfl (congrArg (fun z => _ + z) (by decide : Int32.ofInt (-8) = (-8 : Int32))) (Nat.le_of_ble_eq_true rfl) (lv2 := [(2, vi (l2 + (-8))), (0, vr l0), (1, vi l1)]) rfl ?_
      refine GW_goto (X := X_X9_append) (pc := 43) 3 d_X9_append_43 (by decide) ?_
      refine GW_sub [1, 2, 0] rfl ?_
      exact hk3 l0 l1 (l2 + (-8)) M6 h
def F_X9_append_L3 : Nat → Option Nat → Int32 → Int32 → gM → Option gM
  | 0 => fun _ _ _ _ => none
  | n + 1 => F_X9_append_b3 (F_X9_append_L3 n)
theorem T_X9_append_L3 (r : gM) : ∀ (n : Nat) (l0 : Option Nat) (l1 : Int32) (l2 : Int32) (M : gM), F_X9_append_L3 n l0 l1 l2 M = some r → GW 0 0 0 X_X9_append 3 [(0, vr l0), (1, vi l1), (2, vi l2)] [] M (none, r) := by
  intro n
  induction n with
  | zero => intro l0 l1 l2 M h; exact g_no h
  | succ n ih => intro l0 l1 l2 M h; exact T_X9_append_b3 (F_X9_append_L3 n) r ih l0 l1 l2 M h
def F_X9_append_b0 (l0 : Option Nat) (l1 : Int32) (M : gM) : Option gM :=
  F_X9_append_L3 g_fuel l0 l1 (24 : Int32) M
theorem T_X9_append_b0 (r : gM) (l0 : Option Nat) (l1 : Int32) (M : gM) (h : F_X9_append_b0 l0 l1 M = some r) : GW 0 0 0 X_X9_append 0 [(0, vr l0), (1, vi l1)] [] M (none, r) := by
  delta F_X9_append_b0 at h
  refine GW_bipush (X := X_X9_append) (pc := 0) (v := 24) d_X9_append_0 (by decide) ?_
  refine GW_istore_n (X := X_X9_append) (pc := 2) d_X9_append_2 rfl (Nat.le_of_ble_eq_true rfl) (lv2 := [(2, vi (24 : Int32)), (0, vr l0), (1, vi l1)]) rfl ?_
  refine GW_sub [1, 2, 0] rfl ?_
  exact T_X9_append_L3 r g_fuel l0 l1 (24 : Int32) M h
def F_X9_append (l0 : Option Nat) (l1 : Int32) (M : gM) : Option gM := F_X9_append_b0 l0 l1 M
theorem T_X9_append (l0 : Option Nat) (l1 : Int32) (M : gM) (r : gM) (h : F_X9_append l0 l1 M = some r) : g_Met 0 0 0 yX9_append X_X9_append [vr l0, vi l1] M (none, r) :=
  g_Met_of pn_RX9 rfl (Nat.le_of_ble_eq_true rfl) (fun h => by cases h) (GW_sub [0, 1] rfl (T_X9_append_b0 r l0 l1 M h))
/-! ForgetHeirs.feed(IIIII)I -/
theorem d_X11_feed_0 : decode cX11_feed 0 = .ok (.aload_n 0, 1) := by decide +kernel
theorem d_X11_feed_1 : decode cX11_feed 1 = .ok (.getfield 76, 3) := by decide +kernel
theorem d_X11_feed_4 : decode cX11_feed 4 = .ok (.getfield 97, 3) := by decide +kernel
theorem d_X11_feed_7 : decode cX11_feed 7 = .ok (.bipush 20, 2) := by decide +kernel
theorem d_X11_feed_9 : decode cX11_feed 9 = .ok (.iadd, 1) := by decide +kernel
theorem d_X11_feed_10 : decode cX11_feed 10 = .ok (.sipush 400, 3) := by decide +kernel
theorem d_X11_feed_13 : decode cX11_feed 13 = .ok (.if_icmp .le 5, 3) := by decide +kernel
theorem d_X11_feed_16 : decode cX11_feed 16 = .ok (.iconst (-1), 1) := by decide +kernel
theorem d_X11_feed_17 : decode cX11_feed 17 = .ok (.ireturn, 1) := by decide +kernel
theorem d_X11_feed_18 : decode cX11_feed 18 = .ok (.aload_n 0, 1) := by decide +kernel
theorem d_X11_feed_19 : decode cX11_feed 19 = .ok (.getfield 76, 3) := by decide +kernel
theorem d_X11_feed_22 : decode cX11_feed 22 = .ok (.iload_n 1, 1) := by decide +kernel
theorem d_X11_feed_23 : decode cX11_feed 23 = .ok (.invokevirtual 100, 3) := by decide +kernel
theorem d_X11_feed_26 : decode cX11_feed 26 = .ok (.aload_n 0, 1) := by decide +kernel
theorem d_X11_feed_27 : decode cX11_feed 27 = .ok (.getfield 76, 3) := by decide +kernel
theorem d_X11_feed_30 : decode cX11_feed 30 = .ok (.iload_n 2, 1) := by decide +kernel
theorem d_X11_feed_31 : decode cX11_feed 31 = .ok (.invokevirtual 100, 3) := by decide +kernel
theorem d_X11_feed_34 : decode cX11_feed 34 = .ok (.aload_n 0, 1) := by decide +kernel
theorem d_X11_feed_35 : decode cX11_feed 35 = .ok (.getfield 76, 3) := by decide +kernel
theorem d_X11_feed_38 : decode cX11_feed 38 = .ok (.iload_n 3, 1) := by decide +kernel
theorem d_X11_feed_39 : decode cX11_feed 39 = .ok (.invokevirtual 100, 3) := by decide +kernel
theorem d_X11_feed_42 : decode cX11_feed 42 = .ok (.aload_n 0, 1) := by decide +kernel
theorem d_X11_feed_43 : decode cX11_feed 43 = .ok (.getfield 76, 3) := by decide +kernel
theorem d_X11_feed_46 : decode cX11_feed 46 = .ok (.iload 4, 2) := by decide +kernel
theorem d_X11_feed_48 : decode cX11_feed 48 = .ok (.invokevirtual 100, 3) := by decide +kernel
theorem d_X11_feed_51 : decode cX11_feed 51 = .ok (.aload_n 0, 1) := by decide +kernel
theorem d_X11_feed_52 : decode cX11_feed 52 = .ok (.getfield 76, 3) := by decide +kernel
theorem d_X11_feed_55 : decode cX11_feed 55 = .ok (.iload 5, 2) := by decide +kernel
theorem d_X11_feed_57 : decode cX11_feed 57 = .ok (.invokevirtual 100, 3) := by decide +kernel
theorem d_X11_feed_60 : decode cX11_feed 60 = .ok (.aload_n 0, 1) := by decide +kernel
theorem d_X11_feed_61 : decode cX11_feed 61 = .ok (.getfield 76, 3) := by decide +kernel
theorem d_X11_feed_64 : decode cX11_feed 64 = .ok (.getfield 97, 3) := by decide +kernel
theorem d_X11_feed_67 : decode cX11_feed 67 = .ok (.ireturn, 1) := by decide +kernel
abbrev X_X11_feed : gX := (RX11, cX11_feed, 6, (some .int), false)
def F_X11_feed_b0 (l0 : Option Nat) (l1 : Int32) (l2 : Int32) (l3 : Int32) (l4 : Int32) (l5 : Int32) (M : gM) : Option (Int32 × gM) :=
  (gR 11 M l0 0).bind fun v1 => (gI 9 M v1 6).bind fun v2 => if (v2 + (20 : Int32)) ≤ (400 : Int32) then ((gR 11 M l0 0).bind fun v3 => (gO 9 M v3).bind fun i4 => (F_X9_append (some i4) l1 M).bind fun M5 => (gR 11 M5 l0 0).bind fun v6 => (gO 9 M5 v6).bind fun i7 => (F_X9_append (some i7) l2 M5).bind fun M8 => (gR 11 M8 l0 0).bind fun v9 => (gO 9 M8 v9).bind fun i10 => (F_X9_append (some i10) l3 M8).bind fun M11 => (gR 11 M11 l0 0).bind fun v12 => (gO 9 M11 v12).bind fun i13 => (F_X9_append (some i13) l4 M11).bind fun M14 => (gR 11 M14 l0 0).bind fun v15 => (gO 9 M14 v15).bind fun i16 => (F_X9_append (some i16) l5 M14).bind fun M17 => (gR 11 M17 l0 0).bind fun v18 => (gI 9 M17 v18 6).bind fun v19 => some (v19, M17)) else (some ((-1 : Int32), M))
set_option maxHeartbeats 1000000 in
theorem T_X11_feed_b0 (r : (Int32 × gM)) (l0 : Option Nat) (l1 : Int32) (l2 : Int32) (l3 : Int32) (l4 : Int32) (l5 : Int32) (M : gM) (h : F_X11_feed_b0 l0 l1 l2 l3 l4 l5 M = some r) : GW 1 0 0 X_X11_feed 0 [(0, vr l0), (1, vi l1), (2, vi l2), (3, vi l3), (4, vi l4), (5, vi l5)] [] M (some (vi r.1), r.2) := by
  delta F_X11_feed_b0 at h
  refine GW_aload_n (X := X_X11_feed) (pc := 0) d_X11_feed_0 rfl 0 rfl ?_
  replace h := g_bd h
  obtain ⟨v1, hv1, h⟩ := h
  refine GW_getR (X := X_X11_feed) (pc := 1) f_X11_76 d_X11_feed_1 hv1 (Or.inl ⟨_, ty_11_0⟩) ?_
  replace h := g_bd h
  obtain ⟨v2, hv2, h⟩ := h
  refine GW_getI (X := X_X11_feed) (pc := 4) f_X11_97 d_X11_feed_4 hv2 (Or.inl ty_9_6) ?_
  refine GW_bipush (X := X_X11_feed) (pc := 7) (v := 20) d_X11_feed_7 (by decide) ?_
  refine GW_iadd (X := X_X11_feed) (pc := 9) d_X11_feed_9 ?_
  refine GW_sipush (X := X_X11_feed) (pc := 10) (v := 400) d_X11_feed_10 (by decide) ?_
  refine GW_icmp_le (X := X_X11_feed) (pc := 13) 18 d_X11_feed_13 (by decide) (fun c => ?_) (fun c => ?_)
  · replace h := g_ip c h
    refine GW_aload_n (X := X_X11_feed) (pc := 18) d_X11_feed_18 rfl 0 rfl ?_
    replace h := g_bd h
    obtain ⟨v3, hv3, h⟩ := h
    refine GW_getR (X := X_X11_feed) (pc := 19) f_X11_76 d_X11_feed_19 hv3 (Or.inl ⟨_, ty_11_0⟩) ?_
    refine GW_iload_n (X := X_X11_feed) (pc := 22) d_X11_feed_22 rfl 1 rfl ?_
    replace h := g_bd h
    obtain ⟨i4, hi4, h⟩ := h
    obtain ⟨rfl, ki4⟩ := g_gO hi4
    replace h := g_bd h
    obtain ⟨M5, hM5, h⟩ := h
    refine GW_callV (X := X_X11_feed) (pc := 23) (bc0 := 0) (bs0 := 0) (r := none) (M2 := M5) (c0 := 9) (T_X9_append (some i4) l1 M M5 hM5) (Nat.le_of_ble_eq_true rfl) (Nat.le_of_ble_eq_true rfl) rfl g_cok9 ki4 yc_X9_append ⟨m_486, m_487, m_488, m_123, m_489⟩ d_X11_feed_23 rfl (st := []) rfl (Nat.le_of_ble_eq_true rfl) (Nat.le_of_ble_eq_true rfl) (Nat.le_of_ble_eq_true rfl) (st2 := []) rfl ?_
    refine GW_aload_n (X := X_X11_feed) (pc := 26) d_X11_feed_26 rfl 0 rfl ?_
    replace h := g_bd h
    obtain ⟨v6, hv6, h⟩ := h
    refine GW_getR (X := X_X11_feed) (pc := 27) f_X11_76 d_X11_feed_27 hv6 (Or.inl ⟨_, ty_11_0⟩) ?_
    refine GW_iload_n (X := X_X11_feed) (pc := 30) d_X11_feed_30 rfl 2 rfl ?_
    replace h := g_bd h
    obtain ⟨i7, hi7, h⟩ := h
    obtain ⟨rfl, ki7⟩ := g_gO hi7
    replace h := g_bd h
    obtain ⟨M8, hM8, h⟩ := h
    refine GW_callV (X := X_X11_feed) (pc := 31) (bc0 := 0) (bs0 := 0) (r := none) (M2 := M8) (c0 := 9) (T_X9_append (some i7) l2 M5 M8 hM8) (Nat.le_of_ble_eq_true rfl) (Nat.le_of_ble_eq_true rfl) rfl g_cok9 ki7 yc_X9_append ⟨m_486, m_487, m_488, m_123, m_489⟩ d_X11_feed_31 rfl (st := []) rfl (Nat.le_of_ble_eq_true rfl) (Nat.le_of_ble_eq_true rfl) (Nat.le_of_ble_eq_true rfl) (st2 := []) rfl ?_
    refine GW_aload_n (X := X_X11_feed) (pc := 34) d_X11_feed_34 rfl 0 rfl ?_
    replace h := g_bd h
    obtain ⟨v9, hv9, h⟩ := h
    refine GW_getR (X := X_X11_feed) (pc := 35) f_X11_76 d_X11_feed_35 hv9 (Or.inl ⟨_, ty_11_0⟩) ?_
    refine GW_iload_n (X := X_X11_feed) (pc := 38) d_X11_feed_38 rfl 3 rfl ?_
    replace h := g_bd h
    obtain ⟨i10, hi10, h⟩ := h
    obtain ⟨rfl, ki10⟩ := g_gO hi10
    replace h := g_bd h
    obtain ⟨M11, hM11, h⟩ := h
    refine GW_callV (X := X_X11_feed) (pc := 39) (bc0 := 0) (bs0 := 0) (r := none) (M2 := M11) (c0 := 9) (T_X9_append (some i10) l3 M8 M11 hM11) (Nat.le_of_ble_eq_true rfl) (Nat.le_of_ble_eq_true rfl) rfl g_cok9 ki10 yc_X9_append ⟨m_486, m_487, m_488, m_123, m_489⟩ d_X11_feed_39 rfl (st := []) rfl (Nat.le_of_ble_eq_true rfl) (Nat.le_of_ble_eq_true rfl) (Nat.le_of_ble_eq_true rfl) (st2 := []) rfl ?_
    refine GW_aload_n (X := X_X11_feed) (pc := 42) d_X11_feed_42 rfl 0 rfl ?_
    replace h := g_bd h
    obtain ⟨v12, hv12, h⟩ := h
    refine GW_getR (X := X_X11_feed) (pc := 43) f_X11_76 d_X11_feed_43 hv12 (Or.inl ⟨_, ty_11_0⟩) ?_
    refine GW_iload (X := X_X11_feed) (pc := 46) d_X11_feed_46 4 rfl ?_
    replace h := g_bd h
    obtain ⟨i13, hi13, h⟩ := h
    obtain ⟨rfl, ki13⟩ := g_gO hi13
    replace h := g_bd h
    obtain ⟨M14, hM14, h⟩ := h
    refine GW_callV (X := X_X11_feed) (pc := 48) (bc0 := 0) (bs0 := 0) (r := none) (M2 := M14) (c0 := 9) (T_X9_append (some i13) l4 M11 M14 hM14) (Nat.le_of_ble_eq_true rfl) (Nat.le_of_ble_eq_true rfl) rfl g_cok9 ki13 yc_X9_append ⟨m_486, m_487, m_488, m_123, m_489⟩ d_X11_feed_48 rfl (st := []) rfl (Nat.le_of_ble_eq_true rfl) (Nat.le_of_ble_eq_true rfl) (Nat.le_of_ble_eq_true rfl) (st2 := []) rfl ?_
    refine GW_aload_n (X := X_X11_feed) (pc := 51) d_X11_feed_51 rfl 0 rfl ?_
    replace h := g_bd h
    obtain ⟨v15, hv15, h⟩ := h
    refine GW_getR (X := X_X11_feed) (pc := 52) f_X11_76 d_X11_feed_52 hv15 (Or.inl ⟨_, ty_11_0⟩) ?_
    refine GW_iload (X := X_X11_feed) (pc := 55) d_X11_feed_55 5 rfl ?_
    replace h := g_bd h
    obtain ⟨i16, hi16, h⟩ := h
    obtain ⟨rfl, ki16⟩ := g_gO hi16
    replace h := g_bd h
    obtain ⟨M17, hM17, h⟩ := h
    refine GW_callV (X := X_X11_feed) (pc := 57) (bc0 := 0) (bs0 := 0) (r := none) (M2 := M17) (c0 := 9) (T_X9_append (some i16) l5 M14 M17 hM17) (Nat.le_of_ble_eq_true rfl) (Nat.le_of_ble_eq_true rfl) rfl g_cok9 ki16 yc_X9_append ⟨m_486, m_487, m_488, m_123, m_489⟩ d_X11_feed_57 rfl (st := []) rfl (Nat.le_of_ble_eq_true rfl) (Nat.le_of_ble_eq_true rfl) (Nat.le_of_ble_eq_true rfl) (st2 := []) rfl ?_
    refine GW_aload_n (X := X_X11_feed) (pc := 60) d_X11_feed_60 rfl 0 rfl ?_
    replace h := g_bd h
    obtain ⟨v18, hv18, h⟩ := h
    refine GW_getR (X := X_X11_feed) (pc := 61) f_X11_76 d_X11_feed_61 hv18 (Or.inl ⟨_, ty_11_0⟩) ?_
    replace h := g_bd h
    obtain ⟨v19, hv19, h⟩ := h
    refine GW_getI (X := X_X11_feed) (pc := 64) f_X11_97 d_X11_feed_64 hv19 (Or.inl ty_9_6) ?_
    replace h := Option.some.inj h
    subst h
    exact GW_ret (X := X_X11_feed) (pc := 67) d_X11_feed_67 rfl trivial
  · replace h := g_ie c h
    refine GW_iconst (X := X_X11_feed) (pc := 16) (v := -1) d_X11_feed_16 (by decide) ?_
    replace h := Option.some.inj h
    subst h
    exact GW_ret (X := X_X11_feed) (pc := 17) d_X11_feed_17 rfl trivial
def F_X11_feed (l0 : Option Nat) (l1 : Int32) (l2 : Int32) (l3 : Int32) (l4 : Int32) (l5 : Int32) (M : gM) : Option (Int32 × gM) := F_X11_feed_b0 l0 l1 l2 l3 l4 l5 M
theorem T_X11_feed (l0 : Option Nat) (l1 : Int32) (l2 : Int32) (l3 : Int32) (l4 : Int32) (l5 : Int32) (M : gM) (r : (Int32 × gM)) (h : F_X11_feed l0 l1 l2 l3 l4 l5 M = some r) : g_Met 1 0 0 yX11_feed X_X11_feed [vr l0, vi l1, vi l2, vi l3, vi l4, vi l5] M (some (vi r.1), r.2) :=
  g_Met_of pn_RX11 rfl (Nat.le_of_ble_eq_true rfl) (fun h => by cases h) (GW_sub [0, 1, 2, 3, 4, 5] rfl (T_X11_feed_b0 r l0 l1 l2 l3 l4 l5 M h))
/-! ForgetHeirsModel.four(I)V -/
theorem d_X12_four_0 : decode cX12_four 0 = .ok (.bipush 24, 2) := by decide +kernel
theorem d_X12_four_2 : decode cX12_four 2 = .ok (.istore_n 2, 1) := by decide +kernel
theorem d_X12_four_3 : decode cX12_four 3 = .ok (.iload_n 2, 1) := by decide +kernel
theorem d_X12_four_4 : decode cX12_four 4 = .ok (.ifCond .lt 32, 3) := by decide +kernel
theorem d_X12_four_7 : decode cX12_four 7 = .ok (.aload_n 0, 1) := by decide +kernel
theorem d_X12_four_8 : decode cX12_four 8 = .ok (.getfield 7, 3) := by decide +kernel
theorem d_X12_four_11 : decode cX12_four 11 = .ok (.aload_n 0, 1) := by decide +kernel
theorem d_X12_four_12 : decode cX12_four 12 = .ok (.getfield 80, 3) := by decide +kernel
theorem d_X12_four_15 : decode cX12_four 15 = .ok (.iload_n 1, 1) := by decide +kernel
theorem d_X12_four_16 : decode cX12_four 16 = .ok (.iload_n 2, 1) := by decide +kernel
theorem d_X12_four_17 : decode cX12_four 17 = .ok (.ishr, 1) := by decide +kernel
theorem d_X12_four_18 : decode cX12_four 18 = .ok (.i2b, 1) := by decide +kernel
theorem d_X12_four_19 : decode cX12_four 19 = .ok (.bastore, 1) := by decide +kernel
theorem d_X12_four_20 : decode cX12_four 20 = .ok (.aload_n 0, 1) := by decide +kernel
theorem d_X12_four_21 : decode cX12_four 21 = .ok (.dup, 1) := by decide +kernel
theorem d_X12_four_22 : decode cX12_four 22 = .ok (.getfield 80, 3) := by decide +kernel
theorem d_X12_four_25 : decode cX12_four 25 = .ok (.iconst 1, 1) := by decide +kernel
theorem d_X12_four_26 : decode cX12_four 26 = .ok (.iadd, 1) := by decide +kernel
theorem d_X12_four_27 : decode cX12_four 27 = .ok (.putfield 80, 3) := by decide +kernel
theorem d_X12_four_30 : decode cX12_four 30 = .ok (.iinc 2 (-8), 3) := by decide +kernel
theorem d_X12_four_33 : decode cX12_four 33 = .ok (.goto (-30), 3) := by decide +kernel
theorem d_X12_four_36 : decode cX12_four 36 = .ok (.return_, 1) := by decide +kernel
abbrev X_X12_four : gX := (RX12, cX12_four, 3, none, false)
def F_X12_four_b3 (k3 : Option Nat → Int32 → Int32 → gM → Option gM) (l0 : Option Nat) (l1 : Int32) (l2 : Int32) (M : gM) : Option gM :=
  if l2 < 0 then (some M) else ((gR 12 M l0 0).bind fun v1 => (gI 12 M l0 1).bind fun v2 => (sB M v1 v2 ((l1 >>> (l2 &&& 31))).toInt8.toInt32).bind fun M3 => (gI 12 M3 l0 1).bind fun v4 => (pI 12 M3 l0 1 (v4 + (1 : Int32))).bind fun M5 => k3 l0 l1 (l2 + (-8)) M5)
theorem T_X12_four_b3 (k3 : Option Nat → Int32 → Int32 → gM → Option gM) (r : gM) (hk3 : ∀ (l0 : Option Nat) (l1 : Int32) (l2 : Int32) (M : gM), k3 l0 l1 l2 M = some r → GW 0 0 0 X_X12_four 3 [(0, vr l0), (1, vi l1), (2, vi l2)] [] M (none, r)) (l0 : Option Nat) (l1 : Int32) (l2 : Int32) (M : gM) (h : F_X12_four_b3 k3 l0 l1 l2 M = some r) : GW 0 0 0 X_X12_four 3 [(0, vr l0), (1, vi l1), (2, vi l2)] [] M (none, r) := by
  delta F_X12_four_b3 at h
  refine GW_iload_n (X := X_X12_four) (pc := 3) d_X12_four_3 rfl 2 rfl ?_
  refine GW_if_lt (X := X_X12_four) (pc := 4) 36 d_X12_four_4 (by decide) (fun c => ?_) (fun c => ?_)
  · replace h := g_ip c h
    replace h := Option.some.inj h
    subst h
    exact GW_ret (X := X_X12_four) (pc := 36) d_X12_four_36 rfl trivial
  · replace h := g_ie c h
    refine GW_aload_n (X := X_X12_four) (pc := 7) d_X12_four_7 rfl 0 rfl ?_
    replace h := g_bd h
    obtain ⟨v1, hv1, h⟩ := h
    refine GW_getR (X := X_X12_four) (pc := 8) f_X12_7 d_X12_four_8 hv1 (Or.inr ⟨_, ty_12_0⟩) ?_
    refine GW_aload_n (X := X_X12_four) (pc := 11) d_X12_four_11 rfl 0 rfl ?_
    replace h := g_bd h
    obtain ⟨v2, hv2, h⟩ := h
    refine GW_getI (X := X_X12_four) (pc := 12) f_X12_80 d_X12_four_12 hv2 (Or.inl ty_12_1) ?_
    refine GW_iload_n (X := X_X12_four) (pc := 15) d_X12_four_15 rfl 1 rfl ?_
    refine GW_iload_n (X := X_X12_four) (pc := 16) d_X12_four_16 rfl 2 rfl ?_
    refine GW_ishr (X := X_X12_four) (pc := 17) d_X12_four_17 ?_
    refine GW_i2b (X := X_X12_four) (pc := 18) d_X12_four_18 ?_
    replace h := g_bd h
    obtain ⟨M3, hM3, h⟩ := h
    refine GW_bast (X := X_X12_four) (pc := 19) d_X12_four_19 hM3 ?_
    refine GW_aload_n (X := X_X12_four) (pc := 20) d_X12_four_20 rfl 0 rfl ?_
    refine GW_dup (X := X_X12_four) (pc := 21) d_X12_four_21 rfl ?_
    replace h := g_bd h
    obtain ⟨v4, hv4, h⟩ := h
    refine GW_getI (X := X_X12_four) (pc := 22) f_X12_80 d_X12_four_22 hv4 (Or.inl ty_12_1) ?_
    refine GW_iconst (X := X_X12_four) (pc := 25) (v := 1) d_X12_four_25 (by decide) ?_
    refine GW_iadd (X := X_X12_four) (pc := 26) d_X12_four_26 ?_
    replace h := g_bd h
    obtain ⟨M5, hM5, h⟩ := h
    refine GW_putI (X := X_X12_four) (pc := 27) f_X12_80 d_X12_four_27 hM5 (Or.inl fi_12_1) (Or.inl ty_12_1) ?_
    refine GW_iinc (j := 2) (X := X_X12_four) (pc := 30) d_X12_four_30 rfl (congrArg (fun z => _ + z) (by decide : Int32.ofInt (-8) = (-8 : Int32))) (Nat.le_of_ble_eq_true rfl) (lv2 := [(2, vi (l2 + (-8))), (0, vr l0), (1, vi l1)]) rfl ?_
    refine GW_goto (X := X_X12_four) (pc := 33) 3 d_X12_four_33 (by decide) ?_
    refine GW_sub [1, 2, 0] rfl ?_
    exact hk3 l0 l1 (l2 + (-8)) M5 h
def F_X12_four_L3 : Nat → Option Nat → Int32 → Int32 → gM → Option gM
  | 0 => fun _ _ _ _ => none
  | n + 1 => F_X12_four_b3 (F_X12_four_L3 n)
theorem T_X12_four_L3 (r : gM) : ∀ (n : Nat) (l0 : Option Nat) (l1 : Int32) (l2 : Int32) (M : gM), F_X12_four_L3 n l0 l1 l2 M = some r → GW 0 0 0 X_X12_four 3 [(0, vr l0), (1, vi l1), (2, vi l2)] [] M (none, r) := by
  intro n
  induction n with
  | zero => intro l0 l1 l2 M h; exact g_no h
  | succ n ih => intro l0 l1 l2 M h; exact T_X12_four_b3 (F_X12_four_L3 n) r ih l0 l1 l2 M h
def F_X12_four_b0 (l0 : Option Nat) (l1 : Int32) (M : gM) : Option gM :=
  F_X12_four_L3 g_fuel l0 l1 (24 : Int32) M
theorem T_X12_four_b0 (r : gM) (l0 : Option Nat) (l1 : Int32) (M : gM) (h : F_X12_four_b0 l0 l1 M = some r) : GW 0 0 0 X_X12_four 0 [(0, vr l0), (1, vi l1)] [] M (none, r) := by
  delta F_X12_four_b0 at h
  refine GW_bipush (X := X_X12_four) (pc := 0) (v := 24) d_X12_four_0 (by decide) ?_
  refine GW_istore_n (X := X_X12_four) (pc := 2) d_X12_four_2 rfl (Nat.le_of_ble_eq_true rfl) (lv2 := [(2, vi (24 : Int32)), (0, vr l0), (1, vi l1)]) rfl ?_
  refine GW_sub [1, 2, 0] rfl ?_
  exact T_X12_four_L3 r g_fuel l0 l1 (24 : Int32) M h
def F_X12_four (l0 : Option Nat) (l1 : Int32) (M : gM) : Option gM := F_X12_four_b0 l0 l1 M
theorem T_X12_four (l0 : Option Nat) (l1 : Int32) (M : gM) (r : gM) (h : F_X12_four l0 l1 M = some r) : g_Met 0 0 0 yX12_four X_X12_four [vr l0, vi l1] M (none, r) :=
  g_Met_of pn_RX12 rfl (Nat.le_of_ble_eq_true rfl) (fun h => by cases h) (GW_sub [0, 1] rfl (T_X12_four_b0 r l0 l1 M h))
/-! ForgetHeirsModel.feed(IIIII)I -/
theorem d_X12_feed_0 : decode cX12_feed 0 = .ok (.aload_n 0, 1) := by decide +kernel
theorem d_X12_feed_1 : decode cX12_feed 1 = .ok (.getfield 80, 3) := by decide +kernel
theorem d_X12_feed_4 : decode cX12_feed 4 = .ok (.bipush 20, 2) := by decide +kernel
theorem d_X12_feed_6 : decode cX12_feed 6 = .ok (.iadd, 1) := by decide +kernel
theorem d_X12_feed_7 : decode cX12_feed 7 = .ok (.sipush 400, 3) := by decide +kernel
theorem d_X12_feed_10 : decode cX12_feed 10 = .ok (.if_icmp .le 5, 3) := by decide +kernel
theorem d_X12_feed_13 : decode cX12_feed 13 = .ok (.iconst (-1), 1) := by decide +kernel
theorem d_X12_feed_14 : decode cX12_feed 14 = .ok (.ireturn, 1) := by decide +kernel
theorem d_X12_feed_15 : decode cX12_feed 15 = .ok (.aload_n 0, 1) := by decide +kernel
theorem d_X12_feed_16 : decode cX12_feed 16 = .ok (.iload_n 1, 1) := by decide +kernel
theorem d_X12_feed_17 : decode cX12_feed 17 = .ok (.invokevirtual 83, 3) := by decide +kernel
theorem d_X12_feed_20 : decode cX12_feed 20 = .ok (.aload_n 0, 1) := by decide +kernel
theorem d_X12_feed_21 : decode cX12_feed 21 = .ok (.iload_n 2, 1) := by decide +kernel
theorem d_X12_feed_22 : decode cX12_feed 22 = .ok (.invokevirtual 83, 3) := by decide +kernel
theorem d_X12_feed_25 : decode cX12_feed 25 = .ok (.aload_n 0, 1) := by decide +kernel
theorem d_X12_feed_26 : decode cX12_feed 26 = .ok (.iload_n 3, 1) := by decide +kernel
theorem d_X12_feed_27 : decode cX12_feed 27 = .ok (.invokevirtual 83, 3) := by decide +kernel
theorem d_X12_feed_30 : decode cX12_feed 30 = .ok (.aload_n 0, 1) := by decide +kernel
theorem d_X12_feed_31 : decode cX12_feed 31 = .ok (.iload 4, 2) := by decide +kernel
theorem d_X12_feed_33 : decode cX12_feed 33 = .ok (.invokevirtual 83, 3) := by decide +kernel
theorem d_X12_feed_36 : decode cX12_feed 36 = .ok (.aload_n 0, 1) := by decide +kernel
theorem d_X12_feed_37 : decode cX12_feed 37 = .ok (.iload 5, 2) := by decide +kernel
theorem d_X12_feed_39 : decode cX12_feed 39 = .ok (.invokevirtual 83, 3) := by decide +kernel
theorem d_X12_feed_42 : decode cX12_feed 42 = .ok (.aload_n 0, 1) := by decide +kernel
theorem d_X12_feed_43 : decode cX12_feed 43 = .ok (.getfield 80, 3) := by decide +kernel
theorem d_X12_feed_46 : decode cX12_feed 46 = .ok (.ireturn, 1) := by decide +kernel
abbrev X_X12_feed : gX := (RX12, cX12_feed, 6, (some .int), false)
def F_X12_feed_b0 (l0 : Option Nat) (l1 : Int32) (l2 : Int32) (l3 : Int32) (l4 : Int32) (l5 : Int32) (M : gM) : Option (Int32 × gM) :=
  (gI 12 M l0 1).bind fun v1 => if (v1 + (20 : Int32)) ≤ (400 : Int32) then ((gO 12 M l0).bind fun i2 => (F_X12_four (some i2) l1 M).bind fun M3 => (gC 12 M3 i2).bind fun _ => (F_X12_four (some i2) l2 M3).bind fun M5 => (gC 12 M5 i2).bind fun _ => (F_X12_four (some i2) l3 M5).bind fun M7 => (gC 12 M7 i2).bind fun _ => (F_X12_four (some i2) l4 M7).bind fun M9 => (gC 12 M9 i2).bind fun _ => (F_X12_four (some i2) l5 M9).bind fun M11 => (gI 12 M11 (some i2) 1).bind fun v12 => some (v12, M11)) else (some ((-1 : Int32), M))
set_option maxHeartbeats 1000000 in
theorem T_X12_feed_b0 (r : (Int32 × gM)) (l0 : Option Nat) (l1 : Int32) (l2 : Int32) (l3 : Int32) (l4 : Int32) (l5 : Int32) (M : gM) (h : F_X12_feed_b0 l0 l1 l2 l3 l4 l5 M = some r) : GW 1 0 0 X_X12_feed 0 [(0, vr l0), (1, vi l1), (2, vi l2), (3, vi l3), (4, vi l4), (5, vi l5)] [] M (some (vi r.1), r.2) := by
  delta F_X12_feed_b0 at h
  refine GW_aload_n (X := X_X12_feed) (pc := 0) d_X12_feed_0 rfl 0 rfl ?_
  replace h := g_bd h
  obtain ⟨v1, hv1, h⟩ := h
  refine GW_getI (X := X_X12_feed) (pc := 1) f_X12_80 d_X12_feed_1 hv1 (Or.inl ty_12_1) ?_
  refine GW_bipush (X := X_X12_feed) (pc := 4) (v := 20) d_X12_feed_4 (by decide) ?_
  refine GW_iadd (X := X_X12_feed) (pc := 6) d_X12_feed_6 ?_
  refine GW_sipush (X := X_X12_feed) (pc := 7) (v := 400) d_X12_feed_7 (by decide) ?_
  refine GW_icmp_le (X := X_X12_feed) (pc := 10) 15 d_X12_feed_10 (by decide) (fun c => ?_) (fun c => ?_)
  · replace h := g_ip c h
    refine GW_aload_n (X := X_X12_feed) (pc := 15) d_X12_feed_15 rfl 0 rfl ?_
    refine GW_iload_n (X := X_X12_feed) (pc := 16) d_X12_feed_16 rfl 1 rfl ?_
    replace h := g_bd h
    obtain ⟨i2, hi2, h⟩ := h
    obtain ⟨rfl, ki2⟩ := g_gO hi2
    replace h := g_bd h
    obtain ⟨M3, hM3, h⟩ := h
    refine GW_callV (X := X_X12_feed) (pc := 17) (bc0 := 0) (bs0 := 0) (r := none) (M2 := M3) (c0 := 12) (T_X12_four (some i2) l1 M M3 hM3) (Nat.le_of_ble_eq_true rfl) (Nat.le_of_ble_eq_true rfl) rfl g_cok12 ki2 yc_X12_four ⟨m_1219, m_1221, m_40, m_127, m_1222⟩ d_X12_feed_17 rfl (st := []) rfl (Nat.le_of_ble_eq_true rfl) (Nat.le_of_ble_eq_true rfl) (Nat.le_of_ble_eq_true rfl) (st2 := []) rfl ?_
    refine GW_aload_n (X := X_X12_feed) (pc := 20) d_X12_feed_20 rfl 0 rfl ?_
    refine GW_iload_n (X := X_X12_feed) (pc := 21) d_X12_feed_21 rfl 2 rfl ?_
    replace h := g_bd h
    obtain ⟨_, kk4, h⟩ := h
    replace kk4 := g_gC kk4
    replace h := g_bd h
    obtain ⟨M5, hM5, h⟩ := h
    refine GW_callV (X := X_X12_feed) (pc := 22) (bc0 := 0) (bs0 := 0) (r := none) (M2 := M5) (c0 := 12) (T_X12_four (some i2) l2 M3 M5 hM5) (Nat.le_of_ble_eq_true rfl) (Nat.le_of_ble_eq_true rfl) rfl g_cok12 kk4 yc_X12_four ⟨m_1219, m_1221, m_40, m_127, m_1222⟩ d_X12_feed_22 rfl (st := []) rfl (Nat.le_of_ble_eq_true rfl) (Nat.le_of_ble_eq_true rfl) (Nat.le_of_ble_eq_true rfl) (st2 := []) rfl ?_
    refine GW_aload_n (X := X_X12_feed) (pc := 25) d_X12_feed_25 rfl 0 rfl ?_
    refine GW_iload_n (X := X_X12_feed) (pc := 26) d_X12_feed_26 rfl 3 rfl ?_
    replace h := g_bd h
    obtain ⟨_, kk6, h⟩ := h
    replace kk6 := g_gC kk6
    replace h := g_bd h
    obtain ⟨M7, hM7, h⟩ := h
    refine GW_callV (X := X_X12_feed) (pc := 27) (bc0 := 0) (bs0 := 0) (r := none) (M2 := M7) (c0 := 12) (T_X12_four (some i2) l3 M5 M7 hM7) (Nat.le_of_ble_eq_true rfl) (Nat.le_of_ble_eq_true rfl) rfl g_cok12 kk6 yc_X12_four ⟨m_1219, m_1221, m_40, m_127, m_1222⟩ d_X12_feed_27 rfl (st := []) rfl (Nat.le_of_ble_eq_true rfl) (Nat.le_of_ble_eq_true rfl) (Nat.le_of_ble_eq_true rfl) (st2 := []) rfl ?_
    refine GW_aload_n (X := X_X12_feed) (pc := 30) d_X12_feed_30 rfl 0 rfl ?_
    refine GW_iload (X := X_X12_feed) (pc := 31) d_X12_feed_31 4 rfl ?_
    replace h := g_bd h
    obtain ⟨_, kk8, h⟩ := h
    replace kk8 := g_gC kk8
    replace h := g_bd h
    obtain ⟨M9, hM9, h⟩ := h
    refine GW_callV (X := X_X12_feed) (pc := 33) (bc0 := 0) (bs0 := 0) (r := none) (M2 := M9) (c0 := 12) (T_X12_four (some i2) l4 M7 M9 hM9) (Nat.le_of_ble_eq_true rfl) (Nat.le_of_ble_eq_true rfl) rfl g_cok12 kk8 yc_X12_four ⟨m_1219, m_1221, m_40, m_127, m_1222⟩ d_X12_feed_33 rfl (st := []) rfl (Nat.le_of_ble_eq_true rfl) (Nat.le_of_ble_eq_true rfl) (Nat.le_of_ble_eq_true rfl) (st2 := []) rfl ?_
    refine GW_aload_n (X := X_X12_feed) (pc := 36) d_X12_feed_36 rfl 0 rfl ?_
    refine GW_iload (X := X_X12_feed) (pc := 37) d_X12_feed_37 5 rfl ?_
    replace h := g_bd h
    obtain ⟨_, kk10, h⟩ := h
    replace kk10 := g_gC kk10
    replace h := g_bd h
    obtain ⟨M11, hM11, h⟩ := h
    refine GW_callV (X := X_X12_feed) (pc := 39) (bc0 := 0) (bs0 := 0) (r := none) (M2 := M11) (c0 := 12) (T_X12_four (some i2) l5 M9 M11 hM11) (Nat.le_of_ble_eq_true rfl) (Nat.le_of_ble_eq_true rfl) rfl g_cok12 kk10 yc_X12_four ⟨m_1219, m_1221, m_40, m_127, m_1222⟩ d_X12_feed_39 rfl (st := []) rfl (Nat.le_of_ble_eq_true rfl) (Nat.le_of_ble_eq_true rfl) (Nat.le_of_ble_eq_true rfl) (st2 := []) rfl ?_
    refine GW_aload_n (X := X_X12_feed) (pc := 42) d_X12_feed_42 rfl 0 rfl ?_
    replace h := g_bd h
    obtain ⟨v12, hv12, h⟩ := h
    refine GW_getI (X := X_X12_feed) (pc := 43) f_X12_80 d_X12_feed_43 hv12 (Or.inl ty_12_1) ?_
    replace h := Option.some.inj h
    subst h
    exact GW_ret (X := X_X12_feed) (pc := 46) d_X12_feed_46 rfl trivial
  · replace h := g_ie c h
    refine GW_iconst (X := X_X12_feed) (pc := 13) (v := -1) d_X12_feed_13 (by decide) ?_
    replace h := Option.some.inj h
    subst h
    exact GW_ret (X := X_X12_feed) (pc := 14) d_X12_feed_14 rfl trivial
def F_X12_feed (l0 : Option Nat) (l1 : Int32) (l2 : Int32) (l3 : Int32) (l4 : Int32) (l5 : Int32) (M : gM) : Option (Int32 × gM) := F_X12_feed_b0 l0 l1 l2 l3 l4 l5 M
theorem T_X12_feed (l0 : Option Nat) (l1 : Int32) (l2 : Int32) (l3 : Int32) (l4 : Int32) (l5 : Int32) (M : gM) (r : (Int32 × gM)) (h : F_X12_feed l0 l1 l2 l3 l4 l5 M = some r) : g_Met 1 0 0 yX12_feed X_X12_feed [vr l0, vi l1, vi l2, vi l3, vi l4, vi l5] M (some (vi r.1), r.2) :=
  g_Met_of pn_RX12 rfl (Nat.le_of_ble_eq_true rfl) (fun h => by cases h) (GW_sub [0, 1, 2, 3, 4, 5] rfl (T_X12_feed_b0 r l0 l1 l2 l3 l4 l5 M h))
/-! ForgetHeirs.end(I)I -/
theorem d_X11_end_0 : decode cX11_end 0 = .ok (.iload_n 1, 1) := by decide +kernel
theorem d_X11_end_1 : decode cX11_end 1 = .ok (.ifCond .lt 14, 3) := by decide +kernel
theorem d_X11_end_4 : decode cX11_end 4 = .ok (.iload_n 1, 1) := by decide +kernel
theorem d_X11_end_5 : decode cX11_end 5 = .ok (.aload_n 0, 1) := by decide +kernel
theorem d_X11_end_6 : decode cX11_end 6 = .ok (.getfield 76, 3) := by decide +kernel
theorem d_X11_end_9 : decode cX11_end 9 = .ok (.getfield 97, 3) := by decide +kernel
theorem d_X11_end_12 : decode cX11_end 12 = .ok (.if_icmp .le 5, 3) := by decide +kernel
theorem d_X11_end_15 : decode cX11_end 15 = .ok (.iconst (-1), 1) := by decide +kernel
theorem d_X11_end_16 : decode cX11_end 16 = .ok (.ireturn, 1) := by decide +kernel
theorem d_X11_end_17 : decode cX11_end 17 = .ok (.aload_n 0, 1) := by decide +kernel
theorem d_X11_end_18 : decode cX11_end 18 = .ok (.getfield 76, 3) := by decide +kernel
theorem d_X11_end_21 : decode cX11_end 21 = .ok (.iload_n 1, 1) := by decide +kernel
theorem d_X11_end_22 : decode cX11_end 22 = .ok (.putfield 97, 3) := by decide +kernel
theorem d_X11_end_25 : decode cX11_end 25 = .ok (.iload_n 1, 1) := by decide +kernel
theorem d_X11_end_26 : decode cX11_end 26 = .ok (.ireturn, 1) := by decide +kernel
abbrev X_X11_end : gX := (RX11, cX11_end, 2, (some .int), false)
def F_X11_end_b15 (M : gM) : Option (Int32 × gM) :=
  some ((-1 : Int32), M)
theorem T_X11_end_b15 (r : (Int32 × gM)) (M : gM) (h : F_X11_end_b15 M = some r) : GW 0 0 0 X_X11_end 15 [] [] M (some (vi r.1), r.2) := by
  delta F_X11_end_b15 at h
  refine GW_iconst (X := X_X11_end) (pc := 15) (v := -1) d_X11_end_15 (by decide) ?_
  replace h := Option.some.inj h
  subst h
  exact GW_ret (X := X_X11_end) (pc := 16) d_X11_end_16 rfl trivial
def F_X11_end_b0 (l0 : Option Nat) (l1 : Int32) (M : gM) : Option (Int32 × gM) :=
  if l1 < 0 then (F_X11_end_b15 M) else ((gR 11 M l0 0).bind fun v1 => (gI 9 M v1 6).bind fun v2 => if l1 ≤ v2 then ((gR 11 M l0 0).bind fun v3 => (pI 9 M v3 6 l1).bind fun M4 => some (l1, M4)) else (F_X11_end_b15 M))
theorem T_X11_end_b0 (r : (Int32 × gM)) (l0 : Option Nat) (l1 : Int32) (M : gM) (h : F_X11_end_b0 l0 l1 M = some r) : GW 0 0 0 X_X11_end 0 [(0, vr l0), (1, vi l1)] [] M (some (vi r.1), r.2) := by
  delta F_X11_end_b0 at h
  refine GW_iload_n (X := X_X11_end) (pc := 0) d_X11_end_0 rfl 1 rfl ?_
  refine GW_if_lt (X := X_X11_end) (pc := 1) 15 d_X11_end_1 (by decide) (fun c => ?_) (fun c => ?_)
  · replace h := g_ip c h
    refine GW_sub [] rfl ?_
    exact T_X11_end_b15 r M h
  · replace h := g_ie c h
    refine GW_iload_n (X := X_X11_end) (pc := 4) d_X11_end_4 rfl 1 rfl ?_
    refine GW_aload_n (X := X_X11_end) (pc := 5) d_X11_end_5 rfl 0 rfl ?_
    replace h := g_bd h
    obtain ⟨v1, hv1, h⟩ := h
    refine GW_getR (X := X_X11_end) (pc := 6) f_X11_76 d_X11_end_6 hv1 (Or.inl ⟨_, ty_11_0⟩) ?_
    replace h := g_bd h
    obtain ⟨v2, hv2, h⟩ := h
    refine GW_getI (X := X_X11_end) (pc := 9) f_X11_97 d_X11_end_9 hv2 (Or.inl ty_9_6) ?_
    refine GW_icmp_le (X := X_X11_end) (pc := 12) 17 d_X11_end_12 (by decide) (fun c => ?_) (fun c => ?_)
    · replace h := g_ip c h
      refine GW_aload_n (X := X_X11_end) (pc := 17) d_X11_end_17 rfl 0 rfl ?_
      replace h := g_bd h
      obtain ⟨v3, hv3, h⟩ := h
      refine GW_getR (X := X_X11_end) (pc := 18) f_X11_76 d_X11_end_18 hv3 (Or.inl ⟨_, ty_11_0⟩) ?_
      refine GW_iload_n (X := X_X11_end) (pc := 21) d_X11_end_21 rfl 1 rfl ?_
      replace h := g_bd h
      obtain ⟨M4, hM4, h⟩ := h
      refine GW_putI (X := X_X11_end) (pc := 22) f_X11_97 d_X11_end_22 hM4 (Or.inl fi_9_6) (Or.inl ty_9_6) ?_
      refine GW_iload_n (X := X_X11_end) (pc := 25) d_X11_end_25 rfl 1 rfl ?_
      replace h := Option.some.inj h
      subst h
      exact GW_ret (X := X_X11_end) (pc := 26) d_X11_end_26 rfl trivial
    · replace h := g_ie c h
      refine GW_sub [] rfl ?_
      exact T_X11_end_b15 r M h
def F_X11_end (l0 : Option Nat) (l1 : Int32) (M : gM) : Option (Int32 × gM) := F_X11_end_b0 l0 l1 M
theorem T_X11_end (l0 : Option Nat) (l1 : Int32) (M : gM) (r : (Int32 × gM)) (h : F_X11_end l0 l1 M = some r) : g_Met 0 0 0 yX11_end X_X11_end [vr l0, vi l1] M (some (vi r.1), r.2) :=
  g_Met_of pn_RX11 rfl (Nat.le_of_ble_eq_true rfl) (fun h => by cases h) (GW_sub [0, 1] rfl (T_X11_end_b0 r l0 l1 M h))
/-! ForgetHeirsModel.end(I)I -/
theorem d_X12_end_0 : decode cX12_end 0 = .ok (.iload_n 1, 1) := by decide +kernel
theorem d_X12_end_1 : decode cX12_end 1 = .ok (.ifCond .lt 11, 3) := by decide +kernel
theorem d_X12_end_4 : decode cX12_end 4 = .ok (.iload_n 1, 1) := by decide +kernel
theorem d_X12_end_5 : decode cX12_end 5 = .ok (.aload_n 0, 1) := by decide +kernel
theorem d_X12_end_6 : decode cX12_end 6 = .ok (.getfield 80, 3) := by decide +kernel
theorem d_X12_end_9 : decode cX12_end 9 = .ok (.if_icmp .le 5, 3) := by decide +kernel
theorem d_X12_end_12 : decode cX12_end 12 = .ok (.iconst (-1), 1) := by decide +kernel
theorem d_X12_end_13 : decode cX12_end 13 = .ok (.ireturn, 1) := by decide +kernel
theorem d_X12_end_14 : decode cX12_end 14 = .ok (.aload_n 0, 1) := by decide +kernel
theorem d_X12_end_15 : decode cX12_end 15 = .ok (.iload_n 1, 1) := by decide +kernel
theorem d_X12_end_16 : decode cX12_end 16 = .ok (.putfield 80, 3) := by decide +kernel
theorem d_X12_end_19 : decode cX12_end 19 = .ok (.iload_n 1, 1) := by decide +kernel
theorem d_X12_end_20 : decode cX12_end 20 = .ok (.ireturn, 1) := by decide +kernel
abbrev X_X12_end : gX := (RX12, cX12_end, 2, (some .int), false)
def F_X12_end_b12 (M : gM) : Option (Int32 × gM) :=
  some ((-1 : Int32), M)
theorem T_X12_end_b12 (r : (Int32 × gM)) (M : gM) (h : F_X12_end_b12 M = some r) : GW 0 0 0 X_X12_end 12 [] [] M (some (vi r.1), r.2) := by
  delta F_X12_end_b12 at h
  refine GW_iconst (X := X_X12_end) (pc := 12) (v := -1) d_X12_end_12 (by decide) ?_
  replace h := Option.some.inj h
  subst h
  exact GW_ret (X := X_X12_end) (pc := 13) d_X12_end_13 rfl trivial
def F_X12_end_b0 (l0 : Option Nat) (l1 : Int32) (M : gM) : Option (Int32 × gM) :=
  if l1 < 0 then (F_X12_end_b12 M) else ((gI 12 M l0 1).bind fun v1 => if l1 ≤ v1 then ((pI 12 M l0 1 l1).bind fun M2 => some (l1, M2)) else (F_X12_end_b12 M))
theorem T_X12_end_b0 (r : (Int32 × gM)) (l0 : Option Nat) (l1 : Int32) (M : gM) (h : F_X12_end_b0 l0 l1 M = some r) : GW 0 0 0 X_X12_end 0 [(0, vr l0), (1, vi l1)] [] M (some (vi r.1), r.2) := by
  delta F_X12_end_b0 at h
  refine GW_iload_n (X := X_X12_end) (pc := 0) d_X12_end_0 rfl 1 rfl ?_
  refine GW_if_lt (X := X_X12_end) (pc := 1) 12 d_X12_end_1 (by decide) (fun c => ?_) (fun c => ?_)
  · replace h := g_ip c h
    refine GW_sub [] rfl ?_
    exact T_X12_end_b12 r M h
  · replace h := g_ie c h
    refine GW_iload_n (X := X_X12_end) (pc := 4) d_X12_end_4 rfl 1 rfl ?_
    refine GW_aload_n (X := X_X12_end) (pc := 5) d_X12_end_5 rfl 0 rfl ?_
    replace h := g_bd h
    obtain ⟨v1, hv1, h⟩ := h
    refine GW_getI (X := X_X12_end) (pc := 6) f_X12_80 d_X12_end_6 hv1 (Or.inl ty_12_1) ?_
    refine GW_icmp_le (X := X_X12_end) (pc := 9) 14 d_X12_end_9 (by decide) (fun c => ?_) (fun c => ?_)
    · replace h := g_ip c h
      refine GW_aload_n (X := X_X12_end) (pc := 14) d_X12_end_14 rfl 0 rfl ?_
      refine GW_iload_n (X := X_X12_end) (pc := 15) d_X12_end_15 rfl 1 rfl ?_
      replace h := g_bd h
      obtain ⟨M2, hM2, h⟩ := h
      refine GW_putI (X := X_X12_end) (pc := 16) f_X12_80 d_X12_end_16 hM2 (Or.inl fi_12_1) (Or.inl ty_12_1) ?_
      refine GW_iload_n (X := X_X12_end) (pc := 19) d_X12_end_19 rfl 1 rfl ?_
      replace h := Option.some.inj h
      subst h
      exact GW_ret (X := X_X12_end) (pc := 20) d_X12_end_20 rfl trivial
    · replace h := g_ie c h
      refine GW_sub [] rfl ?_
      exact T_X12_end_b12 r M h
def F_X12_end (l0 : Option Nat) (l1 : Int32) (M : gM) : Option (Int32 × gM) := F_X12_end_b0 l0 l1 M
theorem T_X12_end (l0 : Option Nat) (l1 : Int32) (M : gM) (r : (Int32 × gM)) (h : F_X12_end l0 l1 M = some r) : g_Met 0 0 0 yX12_end X_X12_end [vr l0, vi l1] M (some (vi r.1), r.2) :=
  g_Met_of pn_RX12 rfl (Nat.le_of_ble_eq_true rfl) (fun h => by cases h) (GW_sub [0, 1] rfl (T_X12_end_b0 r l0 l1 M h))
/-! ForgetHeirs$Tape.byteAt(I)I -/
theorem d_X9_byteAt_0 : decode cX9_byteAt 0 = .ok (.iload_n 1, 1) := by decide +kernel
theorem d_X9_byteAt_1 : decode cX9_byteAt 1 = .ok (.ifCond .lt 31, 3) := by decide +kernel
theorem d_X9_byteAt_4 : decode cX9_byteAt 4 = .ok (.iload_n 1, 1) := by decide +kernel
theorem d_X9_byteAt_5 : decode cX9_byteAt 5 = .ok (.aload_n 0, 1) := by decide +kernel
theorem d_X9_byteAt_6 : decode cX9_byteAt 6 = .ok (.getfield 32, 3) := by decide +kernel
theorem d_X9_byteAt_9 : decode cX9_byteAt 9 = .ok (.if_icmp .ge 23, 3) := by decide +kernel
theorem d_X9_byteAt_12 : decode cX9_byteAt 12 = .ok (.iload_n 1, 1) := by decide +kernel
theorem d_X9_byteAt_13 : decode cX9_byteAt 13 = .ok (.sipush 400, 3) := by decide +kernel
theorem d_X9_byteAt_16 : decode cX9_byteAt 16 = .ok (.if_icmp .ge 16, 3) := by decide +kernel
theorem d_X9_byteAt_19 : decode cX9_byteAt 19 = .ok (.aload_n 0, 1) := by decide +kernel
theorem d_X9_byteAt_20 : decode cX9_byteAt 20 = .ok (.getfield 11, 3) := by decide +kernel
theorem d_X9_byteAt_23 : decode cX9_byteAt 23 = .ok (.iload_n 1, 1) := by decide +kernel
theorem d_X9_byteAt_24 : decode cX9_byteAt 24 = .ok (.baload, 1) := by decide +kernel
theorem d_X9_byteAt_25 : decode cX9_byteAt 25 = .ok (.sipush 255, 3) := by decide +kernel
theorem d_X9_byteAt_28 : decode cX9_byteAt 28 = .ok (.iand, 1) := by decide +kernel
theorem d_X9_byteAt_29 : decode cX9_byteAt 29 = .ok (.goto 6, 3) := by decide +kernel
theorem d_X9_byteAt_32 : decode cX9_byteAt 32 = .ok (.sipush 256, 3) := by decide +kernel
theorem d_X9_byteAt_35 : decode cX9_byteAt 35 = .ok (.ireturn, 1) := by decide +kernel
abbrev X_X9_byteAt : gX := (RX9, cX9_byteAt, 2, (some .int), false)
def F_X9_byteAt_b32 (M : gM) : Option Int32 :=
  some (256 : Int32)
theorem T_X9_byteAt_b32 (M : gM) (r : Int32) (h : F_X9_byteAt_b32 M = some r) : GW 0 0 0 X_X9_byteAt 32 [] [] M (some (vi r), M) := by
  delta F_X9_byteAt_b32 at h
  refine GW_sipush (X := X_X9_byteAt) (pc := 32) (v := 256) d_X9_byteAt_32 (by decide) ?_
  replace h := Option.some.inj h
  subst h
  exact GW_ret (X := X_X9_byteAt) (pc := 35) d_X9_byteAt_35 rfl trivial
def F_X9_byteAt_b0 (M : gM) (l0 : Option Nat) (l1 : Int32) : Option Int32 :=
  if l1 < 0 then (F_X9_byteAt_b32 M ) else ((gI 9 M l0 6).bind fun v1 => if v1 ≤ l1 then (F_X9_byteAt_b32 M ) else (if (400 : Int32) ≤ l1 then (F_X9_byteAt_b32 M ) else ((gR 9 M l0 0).bind fun v2 => (aI 22 M v2 l1).bind fun v3 => some (v3 &&& (255 : Int32)))))
theorem T_X9_byteAt_b0 (M : gM) (r : Int32) (l0 : Option Nat) (l1 : Int32) (h : F_X9_byteAt_b0 M l0 l1 = some r) : GW 0 0 0 X_X9_byteAt 0 [(0, vr l0), (1, vi l1)] [] M (some (vi r), M) := by
  delta F_X9_byteAt_b0 at h
  refine GW_iload_n (X := X_X9_byteAt) (pc := 0) d_X9_byteAt_0 rfl 1 rfl ?_
  refine GW_if_lt (X := X_X9_byteAt) (pc := 1) 32 d_X9_byteAt_1 (by decide) (fun c => ?_) (fun c => ?_)
  · replace h := g_ip c h
    refine GW_sub [] rfl ?_
    exact T_X9_byteAt_b32 M r  h
  · replace h := g_ie c h
    refine GW_iload_n (X := X_X9_byteAt) (pc := 4) d_X9_byteAt_4 rfl 1 rfl ?_
    refine GW_aload_n (X := X_X9_byteAt) (pc := 5) d_X9_byteAt_5 rfl 0 rfl ?_
    replace h := g_bd h
    obtain ⟨v1, hv1, h⟩ := h
    refine GW_getI (X := X_X9_byteAt) (pc := 6) f_X9_32 d_X9_byteAt_6 hv1 (Or.inl ty_9_6) ?_
    refine GW_icmp_ge (X := X_X9_byteAt) (pc := 9) 32 d_X9_byteAt_9 (by decide) (fun c => ?_) (fun c => ?_)
    · replace h := g_ip c h
      refine GW_sub [] rfl ?_
      exact T_X9_byteAt_b32 M r  h
    · replace h := g_ie c h
      refine GW_iload_n (X := X_X9_byteAt) (pc := 12) d_X9_byteAt_12 rfl 1 rfl ?_
      refine GW_sipush (X := X_X9_byteAt) (pc := 13) (v := 400) d_X9_byteAt_13 (by decide) ?_
      refine GW_icmp_ge (X := X_X9_byteAt) (pc := 16) 32 d_X9_byteAt_16 (by decide) (fun c => ?_) (fun c => ?_)
      · replace h := g_ip c h
        refine GW_sub [] rfl ?_
        exact T_X9_byteAt_b32 M r  h
      · replace h := g_ie c h
        refine GW_aload_n (X := X_X9_byteAt) (pc := 19) d_X9_byteAt_19 rfl 0 rfl ?_
        replace h := g_bd h
        obtain ⟨v2, hv2, h⟩ := h
        refine GW_getR (X := X_X9_byteAt) (pc := 20) f_X9_11 d_X9_byteAt_20 hv2 (Or.inr ⟨_, ty_9_0⟩) ?_
        refine GW_iload_n (X := X_X9_byteAt) (pc := 23) d_X9_byteAt_23 rfl 1 rfl ?_
        replace h := g_bd h
        obtain ⟨v3, hv3, h⟩ := h
        refine GW_bald (X := X_X9_byteAt) (pc := 24) d_X9_byteAt_24 hv3 ?_
        refine GW_sipush (X := X_X9_byteAt) (pc := 25) (v := 255) d_X9_byteAt_25 (by decide) ?_
        refine GW_iand (X := X_X9_byteAt) (pc := 28) d_X9_byteAt_28 ?_
        refine GW_goto (X := X_X9_byteAt) (pc := 29) 35 d_X9_byteAt_29 (by decide) ?_
        replace h := Option.some.inj h
        subst h
        exact GW_ret (X := X_X9_byteAt) (pc := 35) d_X9_byteAt_35 rfl trivial
def F_X9_byteAt (l0 : Option Nat) (l1 : Int32) (M : gM) : Option Int32 := F_X9_byteAt_b0 M l0 l1
theorem T_X9_byteAt (l0 : Option Nat) (l1 : Int32) (M : gM) (r : Int32) (h : F_X9_byteAt l0 l1 M = some r) : g_Met 0 0 0 yX9_byteAt X_X9_byteAt [vr l0, vi l1] M (some (vi r), M) :=
  g_Met_of pn_RX9 rfl (Nat.le_of_ble_eq_true rfl) (fun h => by cases h) (GW_sub [0, 1] rfl (T_X9_byteAt_b0 M r l0 l1 h))
/-! ForgetHeirs$Tape.isLetter(I)Z -/
theorem d_X9_isLetter_0 : decode cX9_isLetter 0 = .ok (.iload_n 0, 1) := by decide +kernel
theorem d_X9_isLetter_1 : decode cX9_isLetter 1 = .ok (.bipush 97, 2) := by decide +kernel
theorem d_X9_isLetter_3 : decode cX9_isLetter 3 = .ok (.if_icmp .lt 13, 3) := by decide +kernel
theorem d_X9_isLetter_6 : decode cX9_isLetter 6 = .ok (.iload_n 0, 1) := by decide +kernel
theorem d_X9_isLetter_7 : decode cX9_isLetter 7 = .ok (.bipush 122, 2) := by decide +kernel
theorem d_X9_isLetter_9 : decode cX9_isLetter 9 = .ok (.if_icmp .gt 7, 3) := by decide +kernel
theorem d_X9_isLetter_12 : decode cX9_isLetter 12 = .ok (.iconst 1, 1) := by decide +kernel
theorem d_X9_isLetter_13 : decode cX9_isLetter 13 = .ok (.goto 4, 3) := by decide +kernel
theorem d_X9_isLetter_16 : decode cX9_isLetter 16 = .ok (.iconst 0, 1) := by decide +kernel
theorem d_X9_isLetter_17 : decode cX9_isLetter 17 = .ok (.ireturn, 1) := by decide +kernel
abbrev X_X9_isLetter : gX := (RX9, cX9_isLetter, 1, (some .boolean), false)
def F_X9_isLetter_b16 (M : gM) : Option Int32 :=
  some (0 : Int32)
theorem T_X9_isLetter_b16 (M : gM) (r : Int32) (h : F_X9_isLetter_b16 M = some r) : GW 0 0 0 X_X9_isLetter 16 [] [] M (some (vi r), M) := by
  delta F_X9_isLetter_b16 at h
  refine GW_iconst (X := X_X9_isLetter) (pc := 16) (v := 0) d_X9_isLetter_16 (by decide) ?_
  replace h := Option.some.inj h
  subst h
  exact GW_ret (X := X_X9_isLetter) (pc := 17) d_X9_isLetter_17 rfl g_rok0
def F_X9_isLetter_b0 (M : gM) (l0 : Int32) : Option Int32 :=
  if l0 < (97 : Int32) then (F_X9_isLetter_b16 M ) else (if (122 : Int32) < l0 then (F_X9_isLetter_b16 M ) else (some (1 : Int32)))
theorem T_X9_isLetter_b0 (M : gM) (r : Int32) (l0 : Int32) (h : F_X9_isLetter_b0 M l0 = some r) : GW 0 0 0 X_X9_isLetter 0 [(0, vi l0)] [] M (some (vi r), M) := by
  delta F_X9_isLetter_b0 at h
  refine GW_iload_n (X := X_X9_isLetter) (pc := 0) d_X9_isLetter_0 rfl 0 rfl ?_
  refine GW_bipush (X := X_X9_isLetter) (pc := 1) (v := 97) d_X9_isLetter_1 (by decide) ?_
  refine GW_icmp_lt (X := X_X9_isLetter) (pc := 3) 16 d_X9_isLetter_3 (by decide) (fun c => ?_) (fun c => ?_)
  · replace h := g_ip c h
    refine GW_sub [] rfl ?_
    exact T_X9_isLetter_b16 M r  h
  · replace h := g_ie c h
    refine GW_iload_n (X := X_X9_isLetter) (pc := 6) d_X9_isLetter_6 rfl 0 rfl ?_
    refine GW_bipush (X := X_X9_isLetter) (pc := 7) (v := 122) d_X9_isLetter_7 (by decide) ?_
    refine GW_icmp_gt (X := X_X9_isLetter) (pc := 9) 16 d_X9_isLetter_9 (by decide) (fun c => ?_) (fun c => ?_)
    · replace h := g_ip c h
      refine GW_sub [] rfl ?_
      exact T_X9_isLetter_b16 M r  h
    · replace h := g_ie c h
      refine GW_iconst (X := X_X9_isLetter) (pc := 12) (v := 1) d_X9_isLetter_12 (by decide) ?_
      refine GW_goto (X := X_X9_isLetter) (pc := 13) 17 d_X9_isLetter_13 (by decide) ?_
      replace h := Option.some.inj h
      subst h
      exact GW_ret (X := X_X9_isLetter) (pc := 17) d_X9_isLetter_17 rfl g_rok1
def F_X9_isLetter (l0 : Int32) (M : gM) : Option Int32 := F_X9_isLetter_b0 M l0
theorem T_X9_isLetter (l0 : Int32) (M : gM) (r : Int32) (h : F_X9_isLetter l0 M = some r) : g_Met 0 0 0 yX9_isLetter X_X9_isLetter [vi l0] M (some (vi r), M) :=
  g_Met_of pn_RX9 rfl (Nat.le_of_ble_eq_true rfl) (fun h => by cases h) (GW_sub [0] rfl (T_X9_isLetter_b0 M r l0 h))
/-! ForgetHeirs$Tape.isDigit(I)Z -/
theorem d_X9_isDigit_0 : decode cX9_isDigit 0 = .ok (.iload_n 0, 1) := by decide +kernel
theorem d_X9_isDigit_1 : decode cX9_isDigit 1 = .ok (.bipush 48, 2) := by decide +kernel
theorem d_X9_isDigit_3 : decode cX9_isDigit 3 = .ok (.if_icmp .lt 13, 3) := by decide +kernel
theorem d_X9_isDigit_6 : decode cX9_isDigit 6 = .ok (.iload_n 0, 1) := by decide +kernel
theorem d_X9_isDigit_7 : decode cX9_isDigit 7 = .ok (.bipush 57, 2) := by decide +kernel
theorem d_X9_isDigit_9 : decode cX9_isDigit 9 = .ok (.if_icmp .gt 7, 3) := by decide +kernel
theorem d_X9_isDigit_12 : decode cX9_isDigit 12 = .ok (.iconst 1, 1) := by decide +kernel
theorem d_X9_isDigit_13 : decode cX9_isDigit 13 = .ok (.goto 4, 3) := by decide +kernel
theorem d_X9_isDigit_16 : decode cX9_isDigit 16 = .ok (.iconst 0, 1) := by decide +kernel
theorem d_X9_isDigit_17 : decode cX9_isDigit 17 = .ok (.ireturn, 1) := by decide +kernel
abbrev X_X9_isDigit : gX := (RX9, cX9_isDigit, 1, (some .boolean), false)
def F_X9_isDigit_b16 (M : gM) : Option Int32 :=
  some (0 : Int32)
theorem T_X9_isDigit_b16 (M : gM) (r : Int32) (h : F_X9_isDigit_b16 M = some r) : GW 0 0 0 X_X9_isDigit 16 [] [] M (some (vi r), M) := by
  delta F_X9_isDigit_b16 at h
  refine GW_iconst (X := X_X9_isDigit) (pc := 16) (v := 0) d_X9_isDigit_16 (by decide) ?_
  replace h := Option.some.inj h
  subst h
  exact GW_ret (X := X_X9_isDigit) (pc := 17) d_X9_isDigit_17 rfl g_rok0
def F_X9_isDigit_b0 (M : gM) (l0 : Int32) : Option Int32 :=
  if l0 < (48 : Int32) then (F_X9_isDigit_b16 M ) else (if (57 : Int32) < l0 then (F_X9_isDigit_b16 M ) else (some (1 : Int32)))
theorem T_X9_isDigit_b0 (M : gM) (r : Int32) (l0 : Int32) (h : F_X9_isDigit_b0 M l0 = some r) : GW 0 0 0 X_X9_isDigit 0 [(0, vi l0)] [] M (some (vi r), M) := by
  delta F_X9_isDigit_b0 at h
  refine GW_iload_n (X := X_X9_isDigit) (pc := 0) d_X9_isDigit_0 rfl 0 rfl ?_
  refine GW_bipush (X := X_X9_isDigit) (pc := 1) (v := 48) d_X9_isDigit_1 (by decide) ?_
  refine GW_icmp_lt (X := X_X9_isDigit) (pc := 3) 16 d_X9_isDigit_3 (by decide) (fun c => ?_) (fun c => ?_)
  · replace h := g_ip c h
    refine GW_sub [] rfl ?_
    exact T_X9_isDigit_b16 M r  h
  · replace h := g_ie c h
    refine GW_iload_n (X := X_X9_isDigit) (pc := 6) d_X9_isDigit_6 rfl 0 rfl ?_
    refine GW_bipush (X := X_X9_isDigit) (pc := 7) (v := 57) d_X9_isDigit_7 (by decide) ?_
    refine GW_icmp_gt (X := X_X9_isDigit) (pc := 9) 16 d_X9_isDigit_9 (by decide) (fun c => ?_) (fun c => ?_)
    · replace h := g_ip c h
      refine GW_sub [] rfl ?_
      exact T_X9_isDigit_b16 M r  h
    · replace h := g_ie c h
      refine GW_iconst (X := X_X9_isDigit) (pc := 12) (v := 1) d_X9_isDigit_12 (by decide) ?_
      refine GW_goto (X := X_X9_isDigit) (pc := 13) 17 d_X9_isDigit_13 (by decide) ?_
      replace h := Option.some.inj h
      subst h
      exact GW_ret (X := X_X9_isDigit) (pc := 17) d_X9_isDigit_17 rfl g_rok1
def F_X9_isDigit (l0 : Int32) (M : gM) : Option Int32 := F_X9_isDigit_b0 M l0
theorem T_X9_isDigit (l0 : Int32) (M : gM) (r : Int32) (h : F_X9_isDigit l0 M = some r) : g_Met 0 0 0 yX9_isDigit X_X9_isDigit [vi l0] M (some (vi r), M) :=
  g_Met_of pn_RX9 rfl (Nat.le_of_ble_eq_true rfl) (fun h => by cases h) (GW_sub [0] rfl (T_X9_isDigit_b0 M r l0 h))
/-! ForgetHeirs$Tape.endOfRun(I)I -/
theorem d_X9_endOfRun_0 : decode cX9_endOfRun 0 = .ok (.aload_n 0, 1) := by decide +kernel
theorem d_X9_endOfRun_1 : decode cX9_endOfRun 1 = .ok (.iload_n 1, 1) := by decide +kernel
theorem d_X9_endOfRun_2 : decode cX9_endOfRun 2 = .ok (.invokevirtual 38, 3) := by decide +kernel
theorem d_X9_endOfRun_5 : decode cX9_endOfRun 5 = .ok (.invokestatic 42, 3) := by decide +kernel
theorem d_X9_endOfRun_8 : decode cX9_endOfRun 8 = .ok (.istore_n 2, 1) := by decide +kernel
theorem d_X9_endOfRun_9 : decode cX9_endOfRun 9 = .ok (.iload_n 1, 1) := by decide +kernel
theorem d_X9_endOfRun_10 : decode cX9_endOfRun 10 = .ok (.iconst 1, 1) := by decide +kernel
theorem d_X9_endOfRun_11 : decode cX9_endOfRun 11 = .ok (.iadd, 1) := by decide +kernel
theorem d_X9_endOfRun_12 : decode cX9_endOfRun 12 = .ok (.istore_n 3, 1) := by decide +kernel
theorem d_X9_endOfRun_13 : decode cX9_endOfRun 13 = .ok (.iload_n 3, 1) := by decide +kernel
theorem d_X9_endOfRun_14 : decode cX9_endOfRun 14 = .ok (.aload_n 0, 1) := by decide +kernel
theorem d_X9_endOfRun_15 : decode cX9_endOfRun 15 = .ok (.getfield 32, 3) := by decide +kernel
theorem d_X9_endOfRun_18 : decode cX9_endOfRun 18 = .ok (.if_icmp .ge 40, 3) := by decide +kernel
theorem d_X9_endOfRun_21 : decode cX9_endOfRun 21 = .ok (.iload_n 2, 1) := by decide +kernel
theorem d_X9_endOfRun_22 : decode cX9_endOfRun 22 = .ok (.ifCond .eq 17, 3) := by decide +kernel
theorem d_X9_endOfRun_25 : decode cX9_endOfRun 25 = .ok (.aload_n 0, 1) := by decide +kernel
theorem d_X9_endOfRun_26 : decode cX9_endOfRun 26 = .ok (.iload_n 3, 1) := by decide +kernel
theorem d_X9_endOfRun_27 : decode cX9_endOfRun 27 = .ok (.invokevirtual 38, 3) := by decide +kernel
theorem d_X9_endOfRun_30 : decode cX9_endOfRun 30 = .ok (.invokestatic 42, 3) := by decide +kernel
theorem d_X9_endOfRun_33 : decode cX9_endOfRun 33 = .ok (.ifCond .ne 19, 3) := by decide +kernel
theorem d_X9_endOfRun_36 : decode cX9_endOfRun 36 = .ok (.goto 14, 3) := by decide +kernel
theorem d_X9_endOfRun_39 : decode cX9_endOfRun 39 = .ok (.aload_n 0, 1) := by decide +kernel
theorem d_X9_endOfRun_40 : decode cX9_endOfRun 40 = .ok (.iload_n 3, 1) := by decide +kernel
theorem d_X9_endOfRun_41 : decode cX9_endOfRun 41 = .ok (.invokevirtual 38, 3) := by decide +kernel
theorem d_X9_endOfRun_44 : decode cX9_endOfRun 44 = .ok (.invokestatic 46, 3) := by decide +kernel
theorem d_X9_endOfRun_47 : decode cX9_endOfRun 47 = .ok (.ifCond .ne 5, 3) := by decide +kernel
theorem d_X9_endOfRun_50 : decode cX9_endOfRun 50 = .ok (.iload_n 3, 1) := by decide +kernel
theorem d_X9_endOfRun_51 : decode cX9_endOfRun 51 = .ok (.ireturn, 1) := by decide +kernel
theorem d_X9_endOfRun_52 : decode cX9_endOfRun 52 = .ok (.iinc 3 1, 3) := by decide +kernel
theorem d_X9_endOfRun_55 : decode cX9_endOfRun 55 = .ok (.goto (-42), 3) := by decide +kernel
theorem d_X9_endOfRun_58 : decode cX9_endOfRun 58 = .ok (.aload_n 0, 1) := by decide +kernel
theorem d_X9_endOfRun_59 : decode cX9_endOfRun 59 = .ok (.getfield 32, 3) := by decide +kernel
theorem d_X9_endOfRun_62 : decode cX9_endOfRun 62 = .ok (.ireturn, 1) := by decide +kernel
abbrev X_X9_endOfRun : gX := (RX9, cX9_endOfRun, 4, (some .int), false)
def F_X9_endOfRun_b52 (k13 : Option Nat → Int32 → Int32 → Option Int32) (M : gM) (l0 : Option Nat) (l2 : Int32) (l3 : Int32) : Option Int32 :=
  k13 l0 l2 (l3 + 1)
theorem T_X9_endOfRun_b52 (k13 : Option Nat → Int32 → Int32 → Option Int32) (M : gM) (r : Int32) (hk13 : ∀ (l0 : Option Nat) (l2 : Int32) (l3 : Int32), k13 l0 l2 l3 = some r → GW 1 0 0 X_X9_endOfRun 13 [(0, vr l0), (2, vi l2), (3, vi l3)] [] M (some (vi r), M)) (l0 : Option Nat) (l2 : Int32) (l3 : Int32) (h : F_X9_endOfRun_b52 k13 M l0 l2 l3 = some r) : GW 1 0 0 X_X9_endOfRun 52 [(0, vr l0), (2, vi l2), (3, vi l3)] [] M (some (vi r), M) := by
  delta F_X9_endOfRun_b52 at h
  refine GW_iinc (j := 2) (X := X_X9_endOfRun) (pc := 52) d_X9_endOfRun_52 rfl (congrArg (fun z => _ + z) (by decide : Int32.ofInt 1 = (1 : Int32))) (Nat.le_of_ble_eq_true rfl) (lv2 := [(3, vi (l3 + 1)), (0, vr l0), (2, vi l2)]) rfl ?_
  refine GW_goto (X := X_X9_endOfRun) (pc := 55) 13 d_X9_endOfRun_55 (by decide) ?_
  refine GW_sub [1, 2, 0] rfl ?_
  exact hk13 l0 l2 (l3 + 1) h
def F_X9_endOfRun_b50 (M : gM) (l3 : Int32) : Option Int32 :=
  some l3
theorem T_X9_endOfRun_b50 (M : gM) (r : Int32) (l3 : Int32) (h : F_X9_endOfRun_b50 M l3 = some r) : GW 1 0 0 X_X9_endOfRun 50 [(3, vi l3)] [] M (some (vi r), M) := by
  delta F_X9_endOfRun_b50 at h
  refine GW_iload_n (X := X_X9_endOfRun) (pc := 50) d_X9_endOfRun_50 rfl 0 rfl ?_
  replace h := Option.some.inj h
  subst h
  exact GW_ret (X := X_X9_endOfRun) (pc := 51) d_X9_endOfRun_51 rfl trivial
def F_X9_endOfRun_b13 (k13 : Option Nat → Int32 → Int32 → Option Int32) (M : gM) (l0 : Option Nat) (l2 : Int32) (l3 : Int32) : Option Int32 :=
  (gI 9 M l0 6).bind fun v1 => if v1 ≤ l3 then ((gI 9 M l0 6).bind fun v2 => some v2) else (if l2 = 0 then ((gO 9 M l0).bind fun i3 => (F_X9_byteAt (some i3) l3 M).bind fun v4 => (F_X9_isDigit v4 M).bind fun v5 => if v5 = 0 then (F_X9_endOfRun_b50 M l3) else (F_X9_endOfRun_b52 k13 M (some i3) l2 l3)) else ((gO 9 M l0).bind fun i6 => (F_X9_byteAt (some i6) l3 M).bind fun v7 => (F_X9_isLetter v7 M).bind fun v8 => if v8 = 0 then (F_X9_endOfRun_b50 M l3) else (F_X9_endOfRun_b52 k13 M (some i6) l2 l3)))
set_option maxHeartbeats 1000000 in
theorem T_X9_endOfRun_b13 (k13 : Option Nat → Int32 → Int32 → Option Int32) (M : gM) (r : Int32) (hk13 : ∀ (l0 : Option Nat) (l2 : Int32) (l3 : Int32), k13 l0 l2 l3 = some r → GW 1 0 0 X_X9_endOfRun 13 [(0, vr l0), (2, vi l2), (3, vi l3)] [] M (some (vi r), M)) (l0 : Option Nat) (l2 : Int32) (l3 : Int32) (h : F_X9_endOfRun_b13 k13 M l0 l2 l3 = some r) : GW 1 0 0 X_X9_endOfRun 13 [(0, vr l0), (2, vi l2), (3, vi l3)] [] M (some (vi r), M) := by
  delta F_X9_endOfRun_b13 at h
  refine GW_iload_n (X := X_X9_endOfRun) (pc := 13) d_X9_endOfRun_13 rfl 2 rfl ?_
  refine GW_aload_n (X := X_X9_endOfRun) (pc := 14) d_X9_endOfRun_14 rfl 0 rfl ?_
  replace h := g_bd h
  obtain ⟨v1, hv1, h⟩ := h
  refine GW_getI (X := X_X9_endOfRun) (pc := 15) f_X9_32 d_X9_endOfRun_15 hv1 (Or.inl ty_9_6) ?_
  refine GW_icmp_ge (X := X_X9_endOfRun) (pc := 18) 58 d_X9_endOfRun_18 (by decide) (fun c => ?_) (fun c => ?_)
  · replace h := g_ip c h
    refine GW_aload_n (X := X_X9_endOfRun) (pc := 58) d_X9_endOfRun_58 rfl 0 rfl ?_
    replace h := g_bd h
    obtain ⟨v2, hv2, h⟩ := h
    refine GW_getI (X := X_X9_endOfRun) (pc := 59) f_X9_32 d_X9_endOfRun_59 hv2 (Or.inl ty_9_6) ?_
    replace h := Option.some.inj h
    subst h
    exact GW_ret (X := X_X9_endOfRun) (pc := 62) d_X9_endOfRun_62 rfl trivial
  · replace h := g_ie c h
    refine GW_iload_n (X := X_X9_endOfRun) (pc := 21) d_X9_endOfRun_21 rfl 1 rfl ?_
    refine GW_if_eq (X := X_X9_endOfRun) (pc := 22) 39 d_X9_endOfRun_22 (by decide) (fun c => ?_) (fun c => ?_)
    · replace h := g_ip c h
      refine GW_aload_n (X := X_X9_endOfRun) (pc := 39) d_X9_endOfRun_39 rfl 0 rfl ?_
      refine GW_iload_n (X := X_X9_endOfRun) (pc := 40) d_X9_endOfRun_40 rfl 2 rfl ?_
      replace h := g_bd h
      obtain ⟨i3, hi3, h⟩ := h
      obtain ⟨rfl, ki3⟩ := g_gO hi3
      replace h := g_bd h
      obtain ⟨v4, hv4, h⟩ := h
      refine GW_callV (X := X_X9_endOfRun) (pc := 41) (bc0 := 0) (bs0 := 0) (r := some (vi v4)) (M2 := M) (c0 := 9) (T_X9_byteAt (some i3) l3 M v4 hv4) (Nat.le_of_ble_eq_true rfl) (Nat.le_of_ble_eq_true rfl) rfl g_cok9 ki3 yc_X9_byteAt ⟨m_506, m_508, m_0, m_123, m_509⟩ d_X9_endOfRun_41 rfl (st := []) rfl (Nat.le_of_ble_eq_true rfl) (Nat.le_of_ble_eq_true rfl) (Nat.le_of_ble_eq_true rfl) (st2 := [vi v4]) rfl ?_
      replace h := g_bd h
      obtain ⟨v5, hv5, h⟩ := h
      refine GW_callS (X := X_X9_endOfRun) (pc := 44) (bc0 := 0) (bs0 := 0) (r := some (vi v5)) (M2 := M) (T_X9_isDigit v4 M v5 hv5) (Nat.le_of_ble_eq_true rfl) (Nat.le_of_ble_eq_true rfl) yc_X9_isDigit ⟨m_513, m_514, m_123, m_515⟩ d_X9_endOfRun_44 rfl (st := []) rfl (Nat.le_of_ble_eq_true rfl) (Nat.le_of_ble_eq_true rfl) (Nat.le_of_ble_eq_true rfl) (st2 := [vi v5]) rfl ?_
      refine GW_if_ne (X := X_X9_endOfRun) (pc := 47) 52 d_X9_endOfRun_47 (by decide) (fun c => ?_) (fun c => ?_)
      · replace h := g_ie c h
        exact T_X9_endOfRun_b52 k13 M r hk13 (some i3) l2 l3 h
      · replace h := g_ip c h
        refine GW_sub [2] rfl ?_
        exact T_X9_endOfRun_b50 M r l3 h
    · replace h := g_ie c h
      refine GW_aload_n (X := X_X9_endOfRun) (pc := 25) d_X9_endOfRun_25 rfl 0 rfl ?_
      refine GW_iload_n (X := X_X9_endOfRun) (pc := 26) d_X9_endOfRun_26 rfl 2 rfl ?_
      replace h := g_bd h
      obtain ⟨i6, hi6, h⟩ := h
      obtain ⟨rfl, ki6⟩ := g_gO hi6
      replace h := g_bd h
      obtain ⟨v7, hv7, h⟩ := h
      refine GW_callV (X := X_X9_endOfRun) (pc := 27) (bc0 := 0) (bs0 := 0) (r := some (vi v7)) (M2 := M) (c0 := 9) (T_X9_byteAt (some i6) l3 M v7 hv7) (Nat.le_of_ble_eq_true rfl) (Nat.le_of_ble_eq_true rfl) rfl g_cok9 ki6 yc_X9_byteAt ⟨m_506, m_508, m_0, m_123, m_509⟩ d_X9_endOfRun_27 rfl (st := []) rfl (Nat.le_of_ble_eq_true rfl) (Nat.le_of_ble_eq_true rfl) (Nat.le_of_ble_eq_true rfl) (st2 := [vi v7]) rfl ?_
      replace h := g_bd h
      obtain ⟨v8, hv8, h⟩ := h
      refine GW_callS (X := X_X9_endOfRun) (pc := 30) (bc0 := 0) (bs0 := 0) (r := some (vi v8)) (M2 := M) (T_X9_isLetter v7 M v8 hv8) (Nat.le_of_ble_eq_true rfl) (Nat.le_of_ble_eq_true rfl) yc_X9_isLetter ⟨m_510, m_511, m_123, m_512⟩ d_X9_endOfRun_30 rfl (st := []) rfl (Nat.le_of_ble_eq_true rfl) (Nat.le_of_ble_eq_true rfl) (Nat.le_of_ble_eq_true rfl) (st2 := [vi v8]) rfl ?_
      refine GW_if_ne (X := X_X9_endOfRun) (pc := 33) 52 d_X9_endOfRun_33 (by decide) (fun c => ?_) (fun c => ?_)
      · replace h := g_ie c h
        exact T_X9_endOfRun_b52 k13 M r hk13 (some i6) l2 l3 h
      · replace h := g_ip c h
        refine GW_goto (X := X_X9_endOfRun) (pc := 36) 50 d_X9_endOfRun_36 (by decide) ?_
        refine GW_sub [2] rfl ?_
        exact T_X9_endOfRun_b50 M r l3 h
def F_X9_endOfRun_L13 (M : gM) : Nat → Option Nat → Int32 → Int32 → Option Int32
  | 0 => fun _ _ _ => none
  | n + 1 => F_X9_endOfRun_b13 (F_X9_endOfRun_L13 M n) M
theorem T_X9_endOfRun_L13 (M : gM) (r : Int32) : ∀ (n : Nat) (l0 : Option Nat) (l2 : Int32) (l3 : Int32), F_X9_endOfRun_L13 M n l0 l2 l3 = some r → GW 1 0 0 X_X9_endOfRun 13 [(0, vr l0), (2, vi l2), (3, vi l3)] [] M (some (vi r), M) := by
  intro n
  induction n with
  | zero => intro l0 l2 l3 h; exact g_no h
  | succ n ih => intro l0 l2 l3 h; exact T_X9_endOfRun_b13 (F_X9_endOfRun_L13 M n) M r ih l0 l2 l3 h
def F_X9_endOfRun_b0 (M : gM) (l0 : Option Nat) (l1 : Int32) : Option Int32 :=
  (gO 9 M l0).bind fun i1 => (F_X9_byteAt (some i1) l1 M).bind fun v2 => (F_X9_isLetter v2 M).bind fun v3 => F_X9_endOfRun_L13 M g_fuel (some i1) v3 (l1 + (1 : Int32))
theorem T_X9_endOfRun_b0 (M : gM) (r : Int32) (l0 : Option Nat) (l1 : Int32) (h : F_X9_endOfRun_b0 M l0 l1 = some r) : GW 1 0 0 X_X9_endOfRun 0 [(0, vr l0), (1, vi l1)] [] M (some (vi r), M) := by
  delta F_X9_endOfRun_b0 at h
  refine GW_aload_n (X := X_X9_endOfRun) (pc := 0) d_X9_endOfRun_0 rfl 0 rfl ?_
  refine GW_iload_n (X := X_X9_endOfRun) (pc := 1) d_X9_endOfRun_1 rfl 1 rfl ?_
  replace h := g_bd h
  obtain ⟨i1, hi1, h⟩ := h
  obtain ⟨rfl, ki1⟩ := g_gO hi1
  replace h := g_bd h
  obtain ⟨v2, hv2, h⟩ := h
  refine GW_callV (X := X_X9_endOfRun) (pc := 2) (bc0 := 0) (bs0 := 0) (r := some (vi v2)) (M2 := M) (c0 := 9) (T_X9_byteAt (some i1) l1 M v2 hv2) (Nat.le_of_ble_eq_true rfl) (Nat.le_of_ble_eq_true rfl) rfl g_cok9 ki1 yc_X9_byteAt ⟨m_506, m_508, m_0, m_123, m_509⟩ d_X9_endOfRun_2 rfl (st := []) rfl (Nat.le_of_ble_eq_true rfl) (Nat.le_of_ble_eq_true rfl) (Nat.le_of_ble_eq_true rfl) (st2 := [vi v2]) rfl ?_
  replace h := g_bd h
  obtain ⟨v3, hv3, h⟩ := h
  refine GW_callS (X := X_X9_endOfRun) (pc := 5) (bc0 := 0) (bs0 := 0) (r := some (vi v3)) (M2 := M) (T_X9_isLetter v2 M v3 hv3) (Nat.le_of_ble_eq_true rfl) (Nat.le_of_ble_eq_true rfl) yc_X9_isLetter ⟨m_510, m_511, m_123, m_512⟩ d_X9_endOfRun_5 rfl (st := []) rfl (Nat.le_of_ble_eq_true rfl) (Nat.le_of_ble_eq_true rfl) (Nat.le_of_ble_eq_true rfl) (st2 := [vi v3]) rfl ?_
  refine GW_istore_n (X := X_X9_endOfRun) (pc := 8) d_X9_endOfRun_8 rfl (Nat.le_of_ble_eq_true rfl) (lv2 := [(2, vi v3), (0, vr (some i1)), (1, vi l1)]) rfl ?_
  refine GW_iload_n (X := X_X9_endOfRun) (pc := 9) d_X9_endOfRun_9 rfl 2 rfl ?_
  refine GW_iconst (X := X_X9_endOfRun) (pc := 10) (v := 1) d_X9_endOfRun_10 (by decide) ?_
  refine GW_iadd (X := X_X9_endOfRun) (pc := 11) d_X9_endOfRun_11 ?_
  refine GW_istore_n (X := X_X9_endOfRun) (pc := 12) d_X9_endOfRun_12 rfl (Nat.le_of_ble_eq_true rfl) (lv2 := [(3, vi (l1 + (1 : Int32))), (2, vi v3), (0, vr (some i1)), (1, vi l1)]) rfl ?_
  refine GW_sub [2, 1, 0] rfl ?_
  exact T_X9_endOfRun_L13 M r g_fuel (some i1) v3 (l1 + (1 : Int32)) h
def F_X9_endOfRun (l0 : Option Nat) (l1 : Int32) (M : gM) : Option Int32 := F_X9_endOfRun_b0 M l0 l1
theorem T_X9_endOfRun (l0 : Option Nat) (l1 : Int32) (M : gM) (r : Int32) (h : F_X9_endOfRun l0 l1 M = some r) : g_Met 1 0 0 yX9_endOfRun X_X9_endOfRun [vr l0, vi l1] M (some (vi r), M) :=
  g_Met_of pn_RX9 rfl (Nat.le_of_ble_eq_true rfl) (fun h => by cases h) (GW_sub [0, 1] rfl (T_X9_endOfRun_b0 M r l0 l1 h))
/-! ForgetHeirs$Tape.wordKind(II)I -/
theorem d_X9_wordKind_0 : decode cX9_wordKind 0 = .ok (.sipush 261, 3) := by decide +kernel
theorem d_X9_wordKind_3 : decode cX9_wordKind 3 = .ok (.istore_n 3, 1) := by decide +kernel
theorem d_X9_wordKind_4 : decode cX9_wordKind 4 = .ok (.iconst 0, 1) := by decide +kernel
theorem d_X9_wordKind_5 : decode cX9_wordKind 5 = .ok (.istore 4, 2) := by decide +kernel
theorem d_X9_wordKind_7 : decode cX9_wordKind 7 = .ok (.iconst 0, 1) := by decide +kernel
theorem d_X9_wordKind_8 : decode cX9_wordKind 8 = .ok (.istore 5, 2) := by decide +kernel
theorem d_X9_wordKind_10 : decode cX9_wordKind 10 = .ok (.iload 5, 2) := by decide +kernel
theorem d_X9_wordKind_12 : decode cX9_wordKind 12 = .ok (.ldc 64, 2) := by decide +kernel
theorem d_X9_wordKind_14 : decode cX9_wordKind 14 = .ok (.invokevirtual 66, 3) := by decide +kernel
theorem d_X9_wordKind_17 : decode cX9_wordKind 17 = .ok (.if_icmp .ge 79, 3) := by decide +kernel
theorem d_X9_wordKind_20 : decode cX9_wordKind 20 = .ok (.ldc 64, 2) := by decide +kernel
theorem d_X9_wordKind_22 : decode cX9_wordKind 22 = .ok (.iload 5, 2) := by decide +kernel
theorem d_X9_wordKind_24 : decode cX9_wordKind 24 = .ok (.invokevirtual 72, 3) := by decide +kernel
theorem d_X9_wordKind_27 : decode cX9_wordKind 27 = .ok (.istore 6, 2) := by decide +kernel
theorem d_X9_wordKind_29 : decode cX9_wordKind 29 = .ok (.iload 6, 2) := by decide +kernel
theorem d_X9_wordKind_31 : decode cX9_wordKind 31 = .ok (.bipush 32, 2) := by decide +kernel
theorem d_X9_wordKind_33 : decode cX9_wordKind 33 = .ok (.if_icmp .ne 22, 3) := by decide +kernel
theorem d_X9_wordKind_36 : decode cX9_wordKind 36 = .ok (.iload 4, 2) := by decide +kernel
theorem d_X9_wordKind_38 : decode cX9_wordKind 38 = .ok (.iload_n 2, 1) := by decide +kernel
theorem d_X9_wordKind_39 : decode cX9_wordKind 39 = .ok (.iload_n 1, 1) := by decide +kernel
theorem d_X9_wordKind_40 : decode cX9_wordKind 40 = .ok (.isub, 1) := by decide +kernel
theorem d_X9_wordKind_41 : decode cX9_wordKind 41 = .ok (.if_icmp .ne 5, 3) := by decide +kernel
theorem d_X9_wordKind_44 : decode cX9_wordKind 44 = .ok (.iload_n 3, 1) := by decide +kernel
theorem d_X9_wordKind_45 : decode cX9_wordKind 45 = .ok (.ireturn, 1) := by decide +kernel
theorem d_X9_wordKind_46 : decode cX9_wordKind 46 = .ok (.iinc 3 1, 3) := by decide +kernel
theorem d_X9_wordKind_49 : decode cX9_wordKind 49 = .ok (.iconst 0, 1) := by decide +kernel
theorem d_X9_wordKind_50 : decode cX9_wordKind 50 = .ok (.istore 4, 2) := by decide +kernel
theorem d_X9_wordKind_52 : decode cX9_wordKind 52 = .ok (.goto 38, 3) := by decide +kernel
theorem d_X9_wordKind_55 : decode cX9_wordKind 55 = .ok (.iload 4, 2) := by decide +kernel
theorem d_X9_wordKind_57 : decode cX9_wordKind 57 = .ok (.ifCond .lt 30, 3) := by decide +kernel
theorem d_X9_wordKind_60 : decode cX9_wordKind 60 = .ok (.iload_n 1, 1) := by decide +kernel
theorem d_X9_wordKind_61 : decode cX9_wordKind 61 = .ok (.iload 4, 2) := by decide +kernel
theorem d_X9_wordKind_63 : decode cX9_wordKind 63 = .ok (.iadd, 1) := by decide +kernel
theorem d_X9_wordKind_64 : decode cX9_wordKind 64 = .ok (.iload_n 2, 1) := by decide +kernel
theorem d_X9_wordKind_65 : decode cX9_wordKind 65 = .ok (.if_icmp .ge 22, 3) := by decide +kernel
theorem d_X9_wordKind_68 : decode cX9_wordKind 68 = .ok (.aload_n 0, 1) := by decide +kernel
theorem d_X9_wordKind_69 : decode cX9_wordKind 69 = .ok (.iload_n 1, 1) := by decide +kernel
theorem d_X9_wordKind_70 : decode cX9_wordKind 70 = .ok (.iload 4, 2) := by decide +kernel
theorem d_X9_wordKind_72 : decode cX9_wordKind 72 = .ok (.iadd, 1) := by decide +kernel
theorem d_X9_wordKind_73 : decode cX9_wordKind 73 = .ok (.invokevirtual 38, 3) := by decide +kernel
theorem d_X9_wordKind_76 : decode cX9_wordKind 76 = .ok (.iload 6, 2) := by decide +kernel
theorem d_X9_wordKind_78 : decode cX9_wordKind 78 = .ok (.if_icmp .ne 9, 3) := by decide +kernel
theorem d_X9_wordKind_81 : decode cX9_wordKind 81 = .ok (.iinc 4 1, 3) := by decide +kernel
theorem d_X9_wordKind_84 : decode cX9_wordKind 84 = .ok (.goto 6, 3) := by decide +kernel
theorem d_X9_wordKind_87 : decode cX9_wordKind 87 = .ok (.iconst (-1), 1) := by decide +kernel
theorem d_X9_wordKind_88 : decode cX9_wordKind 88 = .ok (.istore 4, 2) := by decide +kernel
theorem d_X9_wordKind_90 : decode cX9_wordKind 90 = .ok (.iinc 5 1, 3) := by decide +kernel
theorem d_X9_wordKind_93 : decode cX9_wordKind 93 = .ok (.goto (-83), 3) := by decide +kernel
theorem d_X9_wordKind_96 : decode cX9_wordKind 96 = .ok (.sipush 260, 3) := by decide +kernel
theorem d_X9_wordKind_99 : decode cX9_wordKind 99 = .ok (.ireturn, 1) := by decide +kernel
abbrev X_X9_wordKind : gX := (RX9, cX9_wordKind, 7, (some .int), false)
def F_X9_wordKind_b90 (k10 : Option Nat → Int32 → Int32 → Int32 → Int32 → Int32 → Option Int32) (M : gM) (l0 : Option Nat) (l1 : Int32) (l2 : Int32) (l3 : Int32) (l4 : Int32) (l5 : Int32) : Option Int32 :=
  k10 l0 l1 l2 l3 l4 (l5 + 1)
theorem T_X9_wordKind_b90 (k10 : Option Nat → Int32 → Int32 → Int32 → Int32 → Int32 → Option Int32) (M : gM) (r : Int32) (hk10 : ∀ (l0 : Option Nat) (l1 : Int32) (l2 : Int32) (l3 : Int32) (l4 : Int32) (l5 : Int32), k10 l0 l1 l2 l3 l4 l5 = some r → GW 4 0 0 X_X9_wordKind 10 [(0, vr l0), (1, vi l1), (2, vi l2), (3, vi l3), (4, vi l4), (5, vi l5)] [] M (some (vi r), M)) (l0 : Option Nat) (l1 : Int32) (l2 : Int32) (l3 : Int32) (l4 : Int32) (l5 : Int32) (h : F_X9_wordKind_b90 k10 M l0 l1 l2 l3 l4 l5 = some r) : GW 4 0 0 X_X9_wordKind 90 [(0, vr l0), (1, vi l1), (2, vi l2), (3, vi l3), (4, vi l4), (5, vi l5)] [] M (some (vi r), M) := by
  delta F_X9_wordKind_b90 at h
  refine GW_iinc (j := 5) (X := X_X9_wordKind) (pc := 90) d_X9_wordKind_90 rfl (congrArg (fun z => _ + z) (by decide : Int32.ofInt 1 = (1 : Int32))) (Nat.le_of_ble_eq_true rfl) (lv2 := [(5, vi (l5 + 1)), (0, vr l0), (1, vi l1), (2, vi l2), (3, vi l3), (4, vi l4)]) rfl ?_
  refine GW_goto (X := X_X9_wordKind) (pc := 93) 10 d_X9_wordKind_93 (by decide) ?_
  refine GW_sub [1, 2, 3, 4, 5, 0] rfl ?_
  exact hk10 l0 l1 l2 l3 l4 (l5 + 1) h
def F_X9_wordKind_b87 (k10 : Option Nat → Int32 → Int32 → Int32 → Int32 → Int32 → Option Int32) (M : gM) (l0 : Option Nat) (l1 : Int32) (l2 : Int32) (l3 : Int32) (l5 : Int32) : Option Int32 :=
  F_X9_wordKind_b90 k10 M l0 l1 l2 l3 (-1 : Int32) l5
theorem T_X9_wordKind_b87 (k10 : Option Nat → Int32 → Int32 → Int32 → Int32 → Int32 → Option Int32) (M : gM) (r : Int32) (hk10 : ∀ (l0 : Option Nat) (l1 : Int32) (l2 : Int32) (l3 : Int32) (l4 : Int32) (l5 : Int32), k10 l0 l1 l2 l3 l4 l5 = some r → GW 4 0 0 X_X9_wordKind 10 [(0, vr l0), (1, vi l1), (2, vi l2), (3, vi l3), (4, vi l4), (5, vi l5)] [] M (some (vi r), M)) (l0 : Option Nat) (l1 : Int32) (l2 : Int32) (l3 : Int32) (l5 : Int32) (h : F_X9_wordKind_b87 k10 M l0 l1 l2 l3 l5 = some r) : GW 4 0 0 X_X9_wordKind 87 [(0, vr l0), (1, vi l1), (2, vi l2), (3, vi l3), (5, vi l5)] [] M (some (vi r), M) := by
  delta F_X9_wordKind_b87 at h
  refine GW_iconst (X := X_X9_wordKind) (pc := 87) (v := -1) d_X9_wordKind_87 (by decide) ?_
  refine GW_istore (X := X_X9_wordKind) (pc := 88) d_X9_wordKind_88 (Nat.le_of_ble_eq_true rfl) (lv2 := [(4, vi (-1 : Int32)), (0, vr l0), (1, vi l1), (2, vi l2), (3, vi l3), (5, vi l5)]) rfl ?_
  refine GW_sub [1, 2, 3, 4, 0, 5] rfl ?_
  exact T_X9_wordKind_b90 k10 M r hk10 l0 l1 l2 l3 (-1 : Int32) l5 h
def F_X9_wordKind_b10 (k10 : Option Nat → Int32 → Int32 → Int32 → Int32 → Int32 → Option Int32) (M : gM) (l0 : Option Nat) (l1 : Int32) (l2 : Int32) (l3 : Int32) (l4 : Int32) (l5 : Int32) : Option Int32 :=
  if (116 : Int32) ≤ l5 then (some (260 : Int32)) else ((gch (some 1) l5).bind fun v1 => if v1 = (32 : Int32) then (if l4 = (l2 - l1) then (some l3) else (F_X9_wordKind_b90 k10 M l0 l1 l2 (l3 + 1) (0 : Int32) l5)) else (if l4 < 0 then (F_X9_wordKind_b87 k10 M l0 l1 l2 l3 l5) else (if l2 ≤ (l1 + l4) then (F_X9_wordKind_b87 k10 M l0 l1 l2 l3 l5) else ((gO 9 M l0).bind fun i2 => (F_X9_byteAt (some i2) (l1 + l4) M).bind fun v3 => if v3 = v1 then (F_X9_wordKind_b90 k10 M (some i2) l1 l2 l3 (l4 + 1) l5) else (F_X9_wordKind_b87 k10 M (some i2) l1 l2 l3 l5)))))
set_option maxHeartbeats 1000000 in
theorem T_X9_wordKind_b10 (k10 : Option Nat → Int32 → Int32 → Int32 → Int32 → Int32 → Option Int32) (M : gM) (r : Int32) (hk10 : ∀ (l0 : Option Nat) (l1 : Int32) (l2 : Int32) (l3 : Int32) (l4 : Int32) (l5 : Int32), k10 l0 l1 l2 l3 l4 l5 = some r → GW 4 0 0 X_X9_wordKind 10 [(0, vr l0), (1, vi l1), (2, vi l2), (3, vi l3), (4, vi l4), (5, vi l5)] [] M (some (vi r), M)) (l0 : Option Nat) (l1 : Int32) (l2 : Int32) (l3 : Int32) (l4 : Int32) (l5 : Int32) (h : F_X9_wordKind_b10 k10 M l0 l1 l2 l3 l4 l5 = some r) : GW 4 0 0 X_X9_wordKind 10 [(0, vr l0), (1, vi l1), (2, vi l2), (3, vi l3), (4, vi l4), (5, vi l5)] [] M (some (vi r), M) := by
  delta F_X9_wordKind_b10 at h
  refine GW_iload (X := X_X9_wordKind) (pc := 10) d_X9_wordKind_10 5 rfl ?_
  refine GW_ldcS (X := X_X9_wordKind) (pc := 12) rfl d_X9_wordKind_12 ?_
  refine GW_strlen (X := X_X9_wordKind) (pc := 14) rfl d_X9_wordKind_14 (Nat.le_of_ble_eq_true rfl) (Nat.le_of_ble_eq_true rfl) ?_
  refine GW_icmp_ge (X := X_X9_wordKind) (pc := 17) 96 d_X9_wordKind_17 (by decide) (fun c => ?_) (fun c => ?_)
  · replace h := g_ip c h
    refine GW_sipush (X := X_X9_wordKind) (pc := 96) (v := 260) d_X9_wordKind_96 (by decide) ?_
    replace h := Option.some.inj h
    subst h
    exact GW_ret (X := X_X9_wordKind) (pc := 99) d_X9_wordKind_99 rfl trivial
  · replace h := g_ie c h
    refine GW_ldcS (X := X_X9_wordKind) (pc := 20) rfl d_X9_wordKind_20 ?_
    refine GW_iload (X := X_X9_wordKind) (pc := 22) d_X9_wordKind_22 5 rfl ?_
    replace h := g_bd h
    obtain ⟨v1, hv1, h⟩ := h
    refine GW_charAt (X := X_X9_wordKind) (pc := 24) rfl d_X9_wordKind_24 hv1 (Nat.le_of_ble_eq_true rfl) (Nat.le_of_ble_eq_true rfl) ?_
    refine GW_istore (X := X_X9_wordKind) (pc := 27) d_X9_wordKind_27 (Nat.le_of_ble_eq_true rfl) (lv2 := [(6, vi v1), (0, vr l0), (1, vi l1), (2, vi l2), (3, vi l3), (4, vi l4), (5, vi l5)]) rfl ?_
    refine GW_iload (X := X_X9_wordKind) (pc := 29) d_X9_wordKind_29 0 rfl ?_
    refine GW_bipush (X := X_X9_wordKind) (pc := 31) (v := 32) d_X9_wordKind_31 (by decide) ?_
    refine GW_icmp_ne (X := X_X9_wordKind) (pc := 33) 55 d_X9_wordKind_33 (by decide) (fun c => ?_) (fun c => ?_)
    · replace h := g_ie c h
      refine GW_iload (X := X_X9_wordKind) (pc := 55) d_X9_wordKind_55 5 rfl ?_
      refine GW_if_lt (X := X_X9_wordKind) (pc := 57) 87 d_X9_wordKind_57 (by decide) (fun c => ?_) (fun c => ?_)
      · replace h := g_ip c h
        refine GW_sub [1, 2, 3, 4, 6] rfl ?_
        exact T_X9_wordKind_b87 k10 M r hk10 l0 l1 l2 l3 l5 h
      · replace h := g_ie c h
        refine GW_iload_n (X := X_X9_wordKind) (pc := 60) d_X9_wordKind_60 rfl 2 rfl ?_
        refine GW_iload (X := X_X9_wordKind) (pc := 61) d_X9_wordKind_61 5 rfl ?_
        refine GW_iadd (X := X_X9_wordKind) (pc := 63) d_X9_wordKind_63 ?_
        refine GW_iload_n (X := X_X9_wordKind) (pc := 64) d_X9_wordKind_64 rfl 3 rfl ?_
        refine GW_icmp_ge (X := X_X9_wordKind) (pc := 65) 87 d_X9_wordKind_65 (by decide) (fun c => ?_) (fun c => ?_)
        · replace h := g_ip c h
          refine GW_sub [1, 2, 3, 4, 6] rfl ?_
          exact T_X9_wordKind_b87 k10 M r hk10 l0 l1 l2 l3 l5 h
        · replace h := g_ie c h
          refine GW_aload_n (X := X_X9_wordKind) (pc := 68) d_X9_wordKind_68 rfl 1 rfl ?_
          refine GW_iload_n (X := X_X9_wordKind) (pc := 69) d_X9_wordKind_69 rfl 2 rfl ?_
          refine GW_iload (X := X_X9_wordKind) (pc := 70) d_X9_wordKind_70 5 rfl ?_
          refine GW_iadd (X := X_X9_wordKind) (pc := 72) d_X9_wordKind_72 ?_
          replace h := g_bd h
          obtain ⟨i2, hi2, h⟩ := h
          obtain ⟨rfl, ki2⟩ := g_gO hi2
          replace h := g_bd h
          obtain ⟨v3, hv3, h⟩ := h
          refine GW_callV (X := X_X9_wordKind) (pc := 73) (bc0 := 0) (bs0 := 0) (r := some (vi v3)) (M2 := M) (c0 := 9) (T_X9_byteAt (some i2) (l1 + l4) M v3 hv3) (Nat.le_of_ble_eq_true rfl) (Nat.le_of_ble_eq_true rfl) rfl g_cok9 ki2 yc_X9_byteAt ⟨m_506, m_508, m_0, m_123, m_509⟩ d_X9_wordKind_73 rfl (st := []) rfl (Nat.le_of_ble_eq_true rfl) (Nat.le_of_ble_eq_true rfl) (Nat.le_of_ble_eq_true rfl) (st2 := [vi v3]) rfl ?_
          refine GW_iload (X := X_X9_wordKind) (pc := 76) d_X9_wordKind_76 0 rfl ?_
          refine GW_icmp_ne (X := X_X9_wordKind) (pc := 78) 87 d_X9_wordKind_78 (by decide) (fun c => ?_) (fun c => ?_)
          · replace h := g_ie c h
            refine GW_sub [1, 2, 3, 4, 6] rfl ?_
            exact T_X9_wordKind_b87 k10 M r hk10 (some i2) l1 l2 l3 l5 h
          · replace h := g_ip c h
            refine GW_iinc (j := 5) (X := X_X9_wordKind) (pc := 81) d_X9_wordKind_81 rfl (congrArg (fun z => _ + z) (by decide : Int32.ofInt 1 = (1 : Int32))) (Nat.le_of_ble_eq_true rfl) (lv2 := [(4, vi (l4 + 1)), (6, vi v1), (0, vr (some i2)), (1, vi l1), (2, vi l2), (3, vi l3), (5, vi l5)]) rfl ?_
            refine GW_goto (X := X_X9_wordKind) (pc := 84) 90 d_X9_wordKind_84 (by decide) ?_
            refine GW_sub [2, 3, 4, 5, 0, 6] rfl ?_
            exact T_X9_wordKind_b90 k10 M r hk10 (some i2) l1 l2 l3 (l4 + 1) l5 h
    · replace h := g_ip c h
      refine GW_iload (X := X_X9_wordKind) (pc := 36) d_X9_wordKind_36 5 rfl ?_
      refine GW_iload_n (X := X_X9_wordKind) (pc := 38) d_X9_wordKind_38 rfl 3 rfl ?_
      refine GW_iload_n (X := X_X9_wordKind) (pc := 39) d_X9_wordKind_39 rfl 2 rfl ?_
      refine GW_isub (X := X_X9_wordKind) (pc := 40) d_X9_wordKind_40 ?_
      refine GW_icmp_ne (X := X_X9_wordKind) (pc := 41) 46 d_X9_wordKind_41 (by decide) (fun c => ?_) (fun c => ?_)
      · replace h := g_ie c h
        refine GW_iinc (j := 4) (X := X_X9_wordKind) (pc := 46) d_X9_wordKind_46 rfl (congrArg (fun z => _ + z) (by decide : Int32.ofInt 1 = (1 : Int32))) (Nat.le_of_ble_eq_true rfl) (lv2 := [(3, vi (l3 + 1)), (6, vi v1), (0, vr l0), (1, vi l1), (2, vi l2), (4, vi l4), (5, vi l5)]) rfl ?_
        refine GW_iconst (X := X_X9_wordKind) (pc := 49) (v := 0) d_X9_wordKind_49 (by decide) ?_
        refine GW_istore (X := X_X9_wordKind) (pc := 50) d_X9_wordKind_50 (Nat.le_of_ble_eq_true rfl) (lv2 := [(4, vi (0 : Int32)), (3, vi (l3 + 1)), (6, vi v1), (0, vr l0), (1, vi l1), (2, vi l2), (5, vi l5)]) rfl ?_
        refine GW_goto (X := X_X9_wordKind) (pc := 52) 90 d_X9_wordKind_52 (by decide) ?_
        refine GW_sub [3, 4, 5, 1, 0, 6] rfl ?_
        exact T_X9_wordKind_b90 k10 M r hk10 l0 l1 l2 (l3 + 1) (0 : Int32) l5 h
      · replace h := g_ip c h
        refine GW_iload_n (X := X_X9_wordKind) (pc := 44) d_X9_wordKind_44 rfl 4 rfl ?_
        replace h := Option.some.inj h
        subst h
        exact GW_ret (X := X_X9_wordKind) (pc := 45) d_X9_wordKind_45 rfl trivial
def F_X9_wordKind_L10 (M : gM) : Nat → Option Nat → Int32 → Int32 → Int32 → Int32 → Int32 → Option Int32
  | 0 => fun _ _ _ _ _ _ => none
  | n + 1 => F_X9_wordKind_b10 (F_X9_wordKind_L10 M n) M
theorem T_X9_wordKind_L10 (M : gM) (r : Int32) : ∀ (n : Nat) (l0 : Option Nat) (l1 : Int32) (l2 : Int32) (l3 : Int32) (l4 : Int32) (l5 : Int32), F_X9_wordKind_L10 M n l0 l1 l2 l3 l4 l5 = some r → GW 4 0 0 X_X9_wordKind 10 [(0, vr l0), (1, vi l1), (2, vi l2), (3, vi l3), (4, vi l4), (5, vi l5)] [] M (some (vi r), M) := by
  intro n
  induction n with
  | zero => intro l0 l1 l2 l3 l4 l5 h; exact g_no h
  | succ n ih => intro l0 l1 l2 l3 l4 l5 h; exact T_X9_wordKind_b10 (F_X9_wordKind_L10 M n) M r ih l0 l1 l2 l3 l4 l5 h
def F_X9_wordKind_b0 (M : gM) (l0 : Option Nat) (l1 : Int32) (l2 : Int32) : Option Int32 :=
  F_X9_wordKind_L10 M g_fuel l0 l1 l2 (261 : Int32) (0 : Int32) (0 : Int32)
theorem T_X9_wordKind_b0 (M : gM) (r : Int32) (l0 : Option Nat) (l1 : Int32) (l2 : Int32) (h : F_X9_wordKind_b0 M l0 l1 l2 = some r) : GW 4 0 0 X_X9_wordKind 0 [(0, vr l0), (1, vi l1), (2, vi l2)] [] M (some (vi r), M) := by
  delta F_X9_wordKind_b0 at h
  refine GW_sipush (X := X_X9_wordKind) (pc := 0) (v := 261) d_X9_wordKind_0 (by decide) ?_
  refine GW_istore_n (X := X_X9_wordKind) (pc := 3) d_X9_wordKind_3 rfl (Nat.le_of_ble_eq_true rfl) (lv2 := [(3, vi (261 : Int32)), (0, vr l0), (1, vi l1), (2, vi l2)]) rfl ?_
  refine GW_iconst (X := X_X9_wordKind) (pc := 4) (v := 0) d_X9_wordKind_4 (by decide) ?_
  refine GW_istore (X := X_X9_wordKind) (pc := 5) d_X9_wordKind_5 (Nat.le_of_ble_eq_true rfl) (lv2 := [(4, vi (0 : Int32)), (3, vi (261 : Int32)), (0, vr l0), (1, vi l1), (2, vi l2)]) rfl ?_
  refine GW_iconst (X := X_X9_wordKind) (pc := 7) (v := 0) d_X9_wordKind_7 (by decide) ?_
  refine GW_istore (X := X_X9_wordKind) (pc := 8) d_X9_wordKind_8 (Nat.le_of_ble_eq_true rfl) (lv2 := [(5, vi (0 : Int32)), (4, vi (0 : Int32)), (3, vi (261 : Int32)), (0, vr l0), (1, vi l1), (2, vi l2)]) rfl ?_
  refine GW_sub [3, 4, 5, 2, 1, 0] rfl ?_
  exact T_X9_wordKind_L10 M r g_fuel l0 l1 l2 (261 : Int32) (0 : Int32) (0 : Int32) h
def F_X9_wordKind (l0 : Option Nat) (l1 : Int32) (l2 : Int32) (M : gM) : Option Int32 := F_X9_wordKind_b0 M l0 l1 l2
theorem T_X9_wordKind (l0 : Option Nat) (l1 : Int32) (l2 : Int32) (M : gM) (r : Int32) (h : F_X9_wordKind l0 l1 l2 M = some r) : g_Met 4 0 0 yX9_wordKind X_X9_wordKind [vr l0, vi l1, vi l2] M (some (vi r), M) :=
  g_Met_of pn_RX9 rfl (Nat.le_of_ble_eq_true rfl) (fun h => by cases h) (GW_sub [0, 1, 2] rfl (T_X9_wordKind_b0 M r l0 l1 l2 h))
/-! ForgetHeirs$Tape.add(III)V -/
theorem d_X9_add_0 : decode cX9_add 0 = .ok (.aload_n 0, 1) := by decide +kernel
theorem d_X9_add_1 : decode cX9_add 1 = .ok (.getfield 25, 3) := by decide +kernel
theorem d_X9_add_4 : decode cX9_add 4 = .ok (.aload_n 0, 1) := by decide +kernel
theorem d_X9_add_5 : decode cX9_add 5 = .ok (.getfield 15, 3) := by decide +kernel
theorem d_X9_add_8 : decode cX9_add 8 = .ok (.arraylength, 1) := by decide +kernel
theorem d_X9_add_9 : decode cX9_add 9 = .ok (.if_icmp .ge 43, 3) := by decide +kernel
theorem d_X9_add_12 : decode cX9_add 12 = .ok (.aload_n 0, 1) := by decide +kernel
theorem d_X9_add_13 : decode cX9_add 13 = .ok (.getfield 15, 3) := by decide +kernel
theorem d_X9_add_16 : decode cX9_add 16 = .ok (.aload_n 0, 1) := by decide +kernel
theorem d_X9_add_17 : decode cX9_add 17 = .ok (.getfield 25, 3) := by decide +kernel
theorem d_X9_add_20 : decode cX9_add 20 = .ok (.iload_n 1, 1) := by decide +kernel
theorem d_X9_add_21 : decode cX9_add 21 = .ok (.iastore, 1) := by decide +kernel
theorem d_X9_add_22 : decode cX9_add 22 = .ok (.aload_n 0, 1) := by decide +kernel
theorem d_X9_add_23 : decode cX9_add 23 = .ok (.getfield 19, 3) := by decide +kernel
theorem d_X9_add_26 : decode cX9_add 26 = .ok (.aload_n 0, 1) := by decide +kernel
theorem d_X9_add_27 : decode cX9_add 27 = .ok (.getfield 25, 3) := by decide +kernel
theorem d_X9_add_30 : decode cX9_add 30 = .ok (.iload_n 2, 1) := by decide +kernel
theorem d_X9_add_31 : decode cX9_add 31 = .ok (.iastore, 1) := by decide +kernel
theorem d_X9_add_32 : decode cX9_add 32 = .ok (.aload_n 0, 1) := by decide +kernel
theorem d_X9_add_33 : decode cX9_add 33 = .ok (.getfield 22, 3) := by decide +kernel
theorem d_X9_add_36 : decode cX9_add 36 = .ok (.aload_n 0, 1) := by decide +kernel
theorem d_X9_add_37 : decode cX9_add 37 = .ok (.getfield 25, 3) := by decide +kernel
theorem d_X9_add_40 : decode cX9_add 40 = .ok (.iload_n 3, 1) := by decide +kernel
theorem d_X9_add_41 : decode cX9_add 41 = .ok (.iastore, 1) := by decide +kernel
theorem d_X9_add_42 : decode cX9_add 42 = .ok (.aload_n 0, 1) := by decide +kernel
theorem d_X9_add_43 : decode cX9_add 43 = .ok (.dup, 1) := by decide +kernel
theorem d_X9_add_44 : decode cX9_add 44 = .ok (.getfield 25, 3) := by decide +kernel
theorem d_X9_add_47 : decode cX9_add 47 = .ok (.iconst 1, 1) := by decide +kernel
theorem d_X9_add_48 : decode cX9_add 48 = .ok (.iadd, 1) := by decide +kernel
theorem d_X9_add_49 : decode cX9_add 49 = .ok (.putfield 25, 3) := by decide +kernel
theorem d_X9_add_52 : decode cX9_add 52 = .ok (.return_, 1) := by decide +kernel
abbrev X_X9_add : gX := (RX9, cX9_add, 4, none, false)
def F_X9_add_b0 (l0 : Option Nat) (l1 : Int32) (l2 : Int32) (l3 : Int32) (M : gM) : Option gM :=
  (gI 9 M l0 4).bind fun v1 => (gR 9 M l0 1).bind fun v2 => (aN M v2).bind fun v3 => if v3 ≤ v1 then (some M) else ((gR 9 M l0 1).bind fun v4 => (gI 9 M l0 4).bind fun v5 => (sI M v4 v5 l1).bind fun M6 => (gR 9 M6 l0 2).bind fun v7 => (gI 9 M6 l0 4).bind fun v8 => (sI M6 v7 v8 l2).bind fun M9 => (gR 9 M9 l0 3).bind fun v10 => (gI 9 M9 l0 4).bind fun v11 => (sI M9 v10 v11 l3).bind fun M12 => (gI 9 M12 l0 4).bind fun v13 => (pI 9 M12 l0 4 (v13 + (1 : Int32))).bind fun M14 => some M14)
set_option maxHeartbeats 1000000 in
theorem T_X9_add_b0 (r : gM) (l0 : Option Nat) (l1 : Int32) (l2 : Int32) (l3 : Int32) (M : gM) (h : F_X9_add_b0 l0 l1 l2 l3 M = some r) : GW 0 0 0 X_X9_add 0 [(0, vr l0), (1, vi l1), (2, vi l2), (3, vi l3)] [] M (none, r) := by
  delta F_X9_add_b0 at h
  refine GW_aload_n (X := X_X9_add) (pc := 0) d_X9_add_0 rfl 0 rfl ?_
  replace h := g_bd h
  obtain ⟨v1, hv1, h⟩ := h
  refine GW_getI (X := X_X9_add) (pc := 1) f_X9_25 d_X9_add_1 hv1 (Or.inl ty_9_4) ?_
  refine GW_aload_n (X := X_X9_add) (pc := 4) d_X9_add_4 rfl 0 rfl ?_
  replace h := g_bd h
  obtain ⟨v2, hv2, h⟩ := h
  refine GW_getR (X := X_X9_add) (pc := 5) f_X9_15 d_X9_add_5 hv2 (Or.inr ⟨_, ty_9_1⟩) ?_
  replace h := g_bd h
  obtain ⟨v3, hv3, h⟩ := h
  refine GW_alen (X := X_X9_add) (pc := 8) d_X9_add_8 hv3 ?_
  refine GW_icmp_ge (X := X_X9_add) (pc := 9) 52 d_X9_add_9 (by decide) (fun c => ?_) (fun c => ?_)
  · replace h := g_ip c h
    replace h := Option.some.inj h
    subst h
    exact GW_ret (X := X_X9_add) (pc := 52) d_X9_add_52 rfl trivial
  · replace h := g_ie c h
    refine GW_aload_n (X := X_X9_add) (pc := 12) d_X9_add_12 rfl 0 rfl ?_
    replace h := g_bd h
    obtain ⟨v4, hv4, h⟩ := h
    refine GW_getR (X := X_X9_add) (pc := 13) f_X9_15 d_X9_add_13 hv4 (Or.inr ⟨_, ty_9_1⟩) ?_
    refine GW_aload_n (X := X_X9_add) (pc := 16) d_X9_add_16 rfl 0 rfl ?_
    replace h := g_bd h
    obtain ⟨v5, hv5, h⟩ := h
    refine GW_getI (X := X_X9_add) (pc := 17) f_X9_25 d_X9_add_17 hv5 (Or.inl ty_9_4) ?_
    refine GW_iload_n (X := X_X9_add) (pc := 20) d_X9_add_20 rfl 1 rfl ?_
    replace h := g_bd h
    obtain ⟨M6, hM6, h⟩ := h
    refine GW_iast (X := X_X9_add) (pc := 21) d_X9_add_21 hM6 ?_
    refine GW_aload_n (X := X_X9_add) (pc := 22) d_X9_add_22 rfl 0 rfl ?_
    replace h := g_bd h
    obtain ⟨v7, hv7, h⟩ := h
    refine GW_getR (X := X_X9_add) (pc := 23) f_X9_19 d_X9_add_23 hv7 (Or.inr ⟨_, ty_9_2⟩) ?_
    refine GW_aload_n (X := X_X9_add) (pc := 26) d_X9_add_26 rfl 0 rfl ?_
    replace h := g_bd h
    obtain ⟨v8, hv8, h⟩ := h
    refine GW_getI (X := X_X9_add) (pc := 27) f_X9_25 d_X9_add_27 hv8 (Or.inl ty_9_4) ?_
    refine GW_iload_n (X := X_X9_add) (pc := 30) d_X9_add_30 rfl 2 rfl ?_
    replace h := g_bd h
    obtain ⟨M9, hM9, h⟩ := h
    refine GW_iast (X := X_X9_add) (pc := 31) d_X9_add_31 hM9 ?_
    refine GW_aload_n (X := X_X9_add) (pc := 32) d_X9_add_32 rfl 0 rfl ?_
    replace h := g_bd h
    obtain ⟨v10, hv10, h⟩ := h
    refine GW_getR (X := X_X9_add) (pc := 33) f_X9_22 d_X9_add_33 hv10 (Or.inr ⟨_, ty_9_3⟩) ?_
    refine GW_aload_n (X := X_X9_add) (pc := 36) d_X9_add_36 rfl 0 rfl ?_
    replace h := g_bd h
    obtain ⟨v11, hv11, h⟩ := h
    refine GW_getI (X := X_X9_add) (pc := 37) f_X9_25 d_X9_add_37 hv11 (Or.inl ty_9_4) ?_
    refine GW_iload_n (X := X_X9_add) (pc := 40) d_X9_add_40 rfl 3 rfl ?_
    replace h := g_bd h
    obtain ⟨M12, hM12, h⟩ := h
    refine GW_iast (X := X_X9_add) (pc := 41) d_X9_add_41 hM12 ?_
    refine GW_aload_n (X := X_X9_add) (pc := 42) d_X9_add_42 rfl 0 rfl ?_
    refine GW_dup (X := X_X9_add) (pc := 43) d_X9_add_43 rfl ?_
    replace h := g_bd h
    obtain ⟨v13, hv13, h⟩ := h
    refine GW_getI (X := X_X9_add) (pc := 44) f_X9_25 d_X9_add_44 hv13 (Or.inl ty_9_4) ?_
    refine GW_iconst (X := X_X9_add) (pc := 47) (v := 1) d_X9_add_47 (by decide) ?_
    refine GW_iadd (X := X_X9_add) (pc := 48) d_X9_add_48 ?_
    replace h := g_bd h
    obtain ⟨M14, hM14, h⟩ := h
    refine GW_putI (X := X_X9_add) (pc := 49) f_X9_25 d_X9_add_49 hM14 (Or.inl fi_9_4) (Or.inl ty_9_4) ?_
    replace h := Option.some.inj h
    subst h
    exact GW_ret (X := X_X9_add) (pc := 52) d_X9_add_52 rfl trivial
def F_X9_add (l0 : Option Nat) (l1 : Int32) (l2 : Int32) (l3 : Int32) (M : gM) : Option gM := F_X9_add_b0 l0 l1 l2 l3 M
theorem T_X9_add (l0 : Option Nat) (l1 : Int32) (l2 : Int32) (l3 : Int32) (M : gM) (r : gM) (h : F_X9_add l0 l1 l2 l3 M = some r) : g_Met 0 0 0 yX9_add X_X9_add [vr l0, vi l1, vi l2, vi l3] M (none, r) :=
  g_Met_of pn_RX9 rfl (Nat.le_of_ble_eq_true rfl) (fun h => by cases h) (GW_sub [0, 1, 2, 3] rfl (T_X9_add_b0 r l0 l1 l2 l3 M h))
/-! ForgetHeirs$Tape.valueOf(II)I -/
theorem d_X9_valueOf_0 : decode cX9_valueOf 0 = .ok (.iload_n 2, 1) := by decide +kernel
theorem d_X9_valueOf_1 : decode cX9_valueOf 1 = .ok (.iload_n 1, 1) := by decide +kernel
theorem d_X9_valueOf_2 : decode cX9_valueOf 2 = .ok (.isub, 1) := by decide +kernel
theorem d_X9_valueOf_3 : decode cX9_valueOf 3 = .ok (.iconst 5, 1) := by decide +kernel
theorem d_X9_valueOf_4 : decode cX9_valueOf 4 = .ok (.if_icmp .le 6, 3) := by decide +kernel
theorem d_X9_valueOf_7 : decode cX9_valueOf 7 = .ok (.ldc 63, 2) := by decide +kernel
theorem d_X9_valueOf_9 : decode cX9_valueOf 9 = .ok (.ireturn, 1) := by decide +kernel
theorem d_X9_valueOf_10 : decode cX9_valueOf 10 = .ok (.iconst 0, 1) := by decide +kernel
theorem d_X9_valueOf_11 : decode cX9_valueOf 11 = .ok (.istore_n 3, 1) := by decide +kernel
theorem d_X9_valueOf_12 : decode cX9_valueOf 12 = .ok (.iload_n 1, 1) := by decide +kernel
theorem d_X9_valueOf_13 : decode cX9_valueOf 13 = .ok (.istore 4, 2) := by decide +kernel
theorem d_X9_valueOf_15 : decode cX9_valueOf 15 = .ok (.iload 4, 2) := by decide +kernel
theorem d_X9_valueOf_17 : decode cX9_valueOf 17 = .ok (.iload_n 2, 1) := by decide +kernel
theorem d_X9_valueOf_18 : decode cX9_valueOf 18 = .ok (.if_icmp .ge 24, 3) := by decide +kernel
theorem d_X9_valueOf_21 : decode cX9_valueOf 21 = .ok (.iload_n 3, 1) := by decide +kernel
theorem d_X9_valueOf_22 : decode cX9_valueOf 22 = .ok (.bipush 10, 2) := by decide +kernel
theorem d_X9_valueOf_24 : decode cX9_valueOf 24 = .ok (.imul, 1) := by decide +kernel
theorem d_X9_valueOf_25 : decode cX9_valueOf 25 = .ok (.aload_n 0, 1) := by decide +kernel
theorem d_X9_valueOf_26 : decode cX9_valueOf 26 = .ok (.iload 4, 2) := by decide +kernel
theorem d_X9_valueOf_28 : decode cX9_valueOf 28 = .ok (.invokevirtual 38, 3) := by decide +kernel
theorem d_X9_valueOf_31 : decode cX9_valueOf 31 = .ok (.iadd, 1) := by decide +kernel
theorem d_X9_valueOf_32 : decode cX9_valueOf 32 = .ok (.bipush 48, 2) := by decide +kernel
theorem d_X9_valueOf_34 : decode cX9_valueOf 34 = .ok (.isub, 1) := by decide +kernel
theorem d_X9_valueOf_35 : decode cX9_valueOf 35 = .ok (.istore_n 3, 1) := by decide +kernel
theorem d_X9_valueOf_36 : decode cX9_valueOf 36 = .ok (.iinc 4 1, 3) := by decide +kernel
theorem d_X9_valueOf_39 : decode cX9_valueOf 39 = .ok (.goto (-24), 3) := by decide +kernel
theorem d_X9_valueOf_42 : decode cX9_valueOf 42 = .ok (.iload_n 3, 1) := by decide +kernel
theorem d_X9_valueOf_43 : decode cX9_valueOf 43 = .ok (.ireturn, 1) := by decide +kernel
abbrev X_X9_valueOf : gX := (RX9, cX9_valueOf, 5, (some .int), false)
def F_X9_valueOf_b15 (k15 : Option Nat → Int32 → Int32 → Int32 → Option Int32) (M : gM) (l0 : Option Nat) (l2 : Int32) (l3 : Int32) (l4 : Int32) : Option Int32 :=
  if l2 ≤ l4 then (some l3) else ((gO 9 M l0).bind fun i1 => (F_X9_byteAt (some i1) l4 M).bind fun v2 => k15 (some i1) l2 (((l3 * (10 : Int32)) + v2) - (48 : Int32)) (l4 + 1))
theorem T_X9_valueOf_b15 (k15 : Option Nat → Int32 → Int32 → Int32 → Option Int32) (M : gM) (r : Int32) (hk15 : ∀ (l0 : Option Nat) (l2 : Int32) (l3 : Int32) (l4 : Int32), k15 l0 l2 l3 l4 = some r → GW 1 0 0 X_X9_valueOf 15 [(0, vr l0), (2, vi l2), (3, vi l3), (4, vi l4)] [] M (some (vi r), M)) (l0 : Option Nat) (l2 : Int32) (l3 : Int32) (l4 : Int32) (h : F_X9_valueOf_b15 k15 M l0 l2 l3 l4 = some r) : GW 1 0 0 X_X9_valueOf 15 [(0, vr l0), (2, vi l2), (3, vi l3), (4, vi l4)] [] M (some (vi r), M) := by
  delta F_X9_valueOf_b15 at h
  refine GW_iload (X := X_X9_valueOf) (pc := 15) d_X9_valueOf_15 3 rfl ?_
  refine GW_iload_n (X := X_X9_valueOf) (pc := 17) d_X9_valueOf_17 rfl 1 rfl ?_
  refine GW_icmp_ge (X := X_X9_valueOf) (pc := 18) 42 d_X9_valueOf_18 (by decide) (fun c => ?_) (fun c => ?_)
  · replace h := g_ip c h
    refine GW_iload_n (X := X_X9_valueOf) (pc := 42) d_X9_valueOf_42 rfl 2 rfl ?_
    replace h := Option.some.inj h
    subst h
    exact GW_ret (X := X_X9_valueOf) (pc := 43) d_X9_valueOf_43 rfl trivial
  · replace h := g_ie c h
    refine GW_iload_n (X := X_X9_valueOf) (pc := 21) d_X9_valueOf_21 rfl 2 rfl ?_
    refine GW_bipush (X := X_X9_valueOf) (pc := 22) (v := 10) d_X9_valueOf_22 (by decide) ?_
    refine GW_imul (X := X_X9_valueOf) (pc := 24) d_X9_valueOf_24 ?_
    refine GW_aload_n (X := X_X9_valueOf) (pc := 25) d_X9_valueOf_25 rfl 0 rfl ?_
    refine GW_iload (X := X_X9_valueOf) (pc := 26) d_X9_valueOf_26 3 rfl ?_
    replace h := g_bd h
    obtain ⟨i1, hi1, h⟩ := h
    obtain ⟨rfl, ki1⟩ := g_gO hi1
    replace h := g_bd h
    obtain ⟨v2, hv2, h⟩ := h
    refine GW_callV (X := X_X9_valueOf) (pc := 28) (bc0 := 0) (bs0 := 0) (r := some (vi v2)) (M2 := M) (c0 := 9) (T_X9_byteAt (some i1) l4 M v2 hv2) (Nat.le_of_ble_eq_true rfl) (Nat.le_of_ble_eq_true rfl) rfl g_cok9 ki1 yc_X9_byteAt ⟨m_506, m_508, m_0, m_123, m_509⟩ d_X9_valueOf_28 rfl (st := [vi (l3 * (10 : Int32))]) rfl (Nat.le_of_ble_eq_true rfl) (Nat.le_of_ble_eq_true rfl) (Nat.le_of_ble_eq_true rfl) (st2 := [vi v2, vi (l3 * (10 : Int32))]) rfl ?_
    refine GW_iadd (X := X_X9_valueOf) (pc := 31) d_X9_valueOf_31 ?_
    refine GW_bipush (X := X_X9_valueOf) (pc := 32) (v := 48) d_X9_valueOf_32 (by decide) ?_
    refine GW_isub (X := X_X9_valueOf) (pc := 34) d_X9_valueOf_34 ?_
    refine GW_istore_n (X := X_X9_valueOf) (pc := 35) d_X9_valueOf_35 rfl (Nat.le_of_ble_eq_true rfl) (lv2 := [(3, vi (((l3 * (10 : Int32)) + v2) - (48 : Int32))), (0, vr (some i1)), (2, vi l2), (4, vi l4)]) rfl ?_
    refine GW_iinc (j := 3) (X := X_X9_valueOf) (pc := 36) d_X9_valueOf_36 rfl (congrArg (fun z => _ + z) (by decide : Int32.ofInt 1 = (1 : Int32))) (Nat.le_of_ble_eq_true rfl) (lv2 := [(4, vi (l4 + 1)), (3, vi (((l3 * (10 : Int32)) + v2) - (48 : Int32))), (0, vr (some i1)), (2, vi l2)]) rfl ?_
    refine GW_goto (X := X_X9_valueOf) (pc := 39) 15 d_X9_valueOf_39 (by decide) ?_
    refine GW_sub [2, 3, 1, 0] rfl ?_
    exact hk15 (some i1) l2 (((l3 * (10 : Int32)) + v2) - (48 : Int32)) (l4 + 1) h
def F_X9_valueOf_L15 (M : gM) : Nat → Option Nat → Int32 → Int32 → Int32 → Option Int32
  | 0 => fun _ _ _ _ => none
  | n + 1 => F_X9_valueOf_b15 (F_X9_valueOf_L15 M n) M
theorem T_X9_valueOf_L15 (M : gM) (r : Int32) : ∀ (n : Nat) (l0 : Option Nat) (l2 : Int32) (l3 : Int32) (l4 : Int32), F_X9_valueOf_L15 M n l0 l2 l3 l4 = some r → GW 1 0 0 X_X9_valueOf 15 [(0, vr l0), (2, vi l2), (3, vi l3), (4, vi l4)] [] M (some (vi r), M) := by
  intro n
  induction n with
  | zero => intro l0 l2 l3 l4 h; exact g_no h
  | succ n ih => intro l0 l2 l3 l4 h; exact T_X9_valueOf_b15 (F_X9_valueOf_L15 M n) M r ih l0 l2 l3 l4 h
def F_X9_valueOf_b0 (M : gM) (l0 : Option Nat) (l1 : Int32) (l2 : Int32) : Option Int32 :=
  if (l2 - l1) ≤ (5 : Int32) then (F_X9_valueOf_L15 M g_fuel l0 l2 (0 : Int32) l1) else (some (1000000 : Int32))
theorem T_X9_valueOf_b0 (M : gM) (r : Int32) (l0 : Option Nat) (l1 : Int32) (l2 : Int32) (h : F_X9_valueOf_b0 M l0 l1 l2 = some r) : GW 1 0 0 X_X9_valueOf 0 [(0, vr l0), (1, vi l1), (2, vi l2)] [] M (some (vi r), M) := by
  delta F_X9_valueOf_b0 at h
  refine GW_iload_n (X := X_X9_valueOf) (pc := 0) d_X9_valueOf_0 rfl 2 rfl ?_
  refine GW_iload_n (X := X_X9_valueOf) (pc := 1) d_X9_valueOf_1 rfl 1 rfl ?_
  refine GW_isub (X := X_X9_valueOf) (pc := 2) d_X9_valueOf_2 ?_
  refine GW_iconst (X := X_X9_valueOf) (pc := 3) (v := 5) d_X9_valueOf_3 (by decide) ?_
  refine GW_icmp_le (X := X_X9_valueOf) (pc := 4) 10 d_X9_valueOf_4 (by decide) (fun c => ?_) (fun c => ?_)
  · replace h := g_ip c h
    refine GW_iconst (X := X_X9_valueOf) (pc := 10) (v := 0) d_X9_valueOf_10 (by decide) ?_
    refine GW_istore_n (X := X_X9_valueOf) (pc := 11) d_X9_valueOf_11 rfl (Nat.le_of_ble_eq_true rfl) (lv2 := [(3, vi (0 : Int32)), (0, vr l0), (1, vi l1), (2, vi l2)]) rfl ?_
    refine GW_iload_n (X := X_X9_valueOf) (pc := 12) d_X9_valueOf_12 rfl 2 rfl ?_
    refine GW_istore (X := X_X9_valueOf) (pc := 13) d_X9_valueOf_13 (Nat.le_of_ble_eq_true rfl) (lv2 := [(4, vi l1), (3, vi (0 : Int32)), (0, vr l0), (1, vi l1), (2, vi l2)]) rfl ?_
    refine GW_sub [2, 4, 1, 0] rfl ?_
    exact T_X9_valueOf_L15 M r g_fuel l0 l2 (0 : Int32) l1 h
  · replace h := g_ie c h
    refine GW_ldc (X := X_X9_valueOf) (pc := 7) d_X9_valueOf_7 m_581 ?_
    replace h := Option.some.inj h
    subst h
    exact GW_ret (X := X_X9_valueOf) (pc := 9) d_X9_valueOf_9 rfl trivial
def F_X9_valueOf (l0 : Option Nat) (l1 : Int32) (l2 : Int32) (M : gM) : Option Int32 := F_X9_valueOf_b0 M l0 l1 l2
theorem T_X9_valueOf (l0 : Option Nat) (l1 : Int32) (l2 : Int32) (M : gM) (r : Int32) (h : F_X9_valueOf l0 l1 l2 M = some r) : g_Met 1 0 0 yX9_valueOf X_X9_valueOf [vr l0, vi l1, vi l2] M (some (vi r), M) :=
  g_Met_of pn_RX9 rfl (Nat.le_of_ble_eq_true rfl) (fun h => by cases h) (GW_sub [0, 1, 2] rfl (T_X9_valueOf_b0 M r l0 l1 l2 h))
/-! ForgetHeirs$Tape.split()V -/
theorem d_X9_split_0 : decode cX9_split 0 = .ok (.aload_n 0, 1) := by decide +kernel
theorem d_X9_split_1 : decode cX9_split 1 = .ok (.iconst 0, 1) := by decide +kernel
theorem d_X9_split_2 : decode cX9_split 2 = .ok (.putfield 25, 3) := by decide +kernel
theorem d_X9_split_5 : decode cX9_split 5 = .ok (.aload_n 0, 1) := by decide +kernel
theorem d_X9_split_6 : decode cX9_split 6 = .ok (.iconst 0, 1) := by decide +kernel
theorem d_X9_split_7 : decode cX9_split 7 = .ok (.putfield 29, 3) := by decide +kernel
theorem d_X9_split_10 : decode cX9_split 10 = .ok (.aload_n 0, 1) := by decide +kernel
theorem d_X9_split_11 : decode cX9_split 11 = .ok (.iconst 0, 1) := by decide +kernel
theorem d_X9_split_12 : decode cX9_split 12 = .ok (.putfield 35, 3) := by decide +kernel
theorem d_X9_split_15 : decode cX9_split 15 = .ok (.iconst 0, 1) := by decide +kernel
theorem d_X9_split_16 : decode cX9_split 16 = .ok (.istore_n 1, 1) := by decide +kernel
theorem d_X9_split_17 : decode cX9_split 17 = .ok (.iconst 0, 1) := by decide +kernel
theorem d_X9_split_18 : decode cX9_split 18 = .ok (.istore_n 2, 1) := by decide +kernel
theorem d_X9_split_19 : decode cX9_split 19 = .ok (.iload_n 2, 1) := by decide +kernel
theorem d_X9_split_20 : decode cX9_split 20 = .ok (.sipush 400, 3) := by decide +kernel
theorem d_X9_split_23 : decode cX9_split 23 = .ok (.if_icmp .ge 164, 3) := by decide +kernel
theorem d_X9_split_26 : decode cX9_split 26 = .ok (.iload_n 1, 1) := by decide +kernel
theorem d_X9_split_27 : decode cX9_split 27 = .ok (.aload_n 0, 1) := by decide +kernel
theorem d_X9_split_28 : decode cX9_split 28 = .ok (.getfield 32, 3) := by decide +kernel
theorem d_X9_split_31 : decode cX9_split 31 = .ok (.if_icmp .ge 156, 3) := by decide +kernel
theorem d_X9_split_34 : decode cX9_split 34 = .ok (.aload_n 0, 1) := by decide +kernel
theorem d_X9_split_35 : decode cX9_split 35 = .ok (.iload_n 1, 1) := by decide +kernel
theorem d_X9_split_36 : decode cX9_split 36 = .ok (.invokevirtual 38, 3) := by decide +kernel
theorem d_X9_split_39 : decode cX9_split 39 = .ok (.istore_n 3, 1) := by decide +kernel
theorem d_X9_split_40 : decode cX9_split 40 = .ok (.iload_n 3, 1) := by decide +kernel
theorem d_X9_split_41 : decode cX9_split 41 = .ok (.invokestatic 42, 3) := by decide +kernel
theorem d_X9_split_44 : decode cX9_split 44 = .ok (.ifCond .ne 10, 3) := by decide +kernel
theorem d_X9_split_47 : decode cX9_split 47 = .ok (.iload_n 3, 1) := by decide +kernel
theorem d_X9_split_48 : decode cX9_split 48 = .ok (.invokestatic 46, 3) := by decide +kernel
theorem d_X9_split_51 : decode cX9_split 51 = .ok (.ifCond .eq 11, 3) := by decide +kernel
theorem d_X9_split_54 : decode cX9_split 54 = .ok (.aload_n 0, 1) := by decide +kernel
theorem d_X9_split_55 : decode cX9_split 55 = .ok (.iload_n 1, 1) := by decide +kernel
theorem d_X9_split_56 : decode cX9_split 56 = .ok (.invokevirtual 49, 3) := by decide +kernel
theorem d_X9_split_59 : decode cX9_split 59 = .ok (.goto 6, 3) := by decide +kernel
theorem d_X9_split_62 : decode cX9_split 62 = .ok (.iload_n 1, 1) := by decide +kernel
theorem d_X9_split_63 : decode cX9_split 63 = .ok (.iconst 1, 1) := by decide +kernel
theorem d_X9_split_64 : decode cX9_split 64 = .ok (.iadd, 1) := by decide +kernel
theorem d_X9_split_65 : decode cX9_split 65 = .ok (.istore 4, 2) := by decide +kernel
theorem d_X9_split_67 : decode cX9_split 67 = .ok (.iload_n 3, 1) := by decide +kernel
theorem d_X9_split_68 : decode cX9_split 68 = .ok (.invokestatic 42, 3) := by decide +kernel
theorem d_X9_split_71 : decode cX9_split 71 = .ok (.ifCond .eq 19, 3) := by decide +kernel
theorem d_X9_split_74 : decode cX9_split 74 = .ok (.aload_n 0, 1) := by decide +kernel
theorem d_X9_split_75 : decode cX9_split 75 = .ok (.aload_n 0, 1) := by decide +kernel
theorem d_X9_split_76 : decode cX9_split 76 = .ok (.iload_n 1, 1) := by decide +kernel
theorem d_X9_split_77 : decode cX9_split 77 = .ok (.iload 4, 2) := by decide +kernel
theorem d_X9_split_79 : decode cX9_split 79 = .ok (.invokevirtual 52, 3) := by decide +kernel
theorem d_X9_split_82 : decode cX9_split 82 = .ok (.iload_n 1, 1) := by decide +kernel
theorem d_X9_split_83 : decode cX9_split 83 = .ok (.iconst 0, 1) := by decide +kernel
theorem d_X9_split_84 : decode cX9_split 84 = .ok (.invokevirtual 56, 3) := by decide +kernel
theorem d_X9_split_87 : decode cX9_split 87 = .ok (.goto 91, 3) := by decide +kernel
theorem d_X9_split_90 : decode cX9_split 90 = .ok (.iload_n 3, 1) := by decide +kernel
theorem d_X9_split_91 : decode cX9_split 91 = .ok (.invokestatic 46, 3) := by decide +kernel
theorem d_X9_split_94 : decode cX9_split 94 = .ok (.ifCond .eq 21, 3) := by decide +kernel
theorem d_X9_split_97 : decode cX9_split 97 = .ok (.aload_n 0, 1) := by decide +kernel
theorem d_X9_split_98 : decode cX9_split 98 = .ok (.sipush 257, 3) := by decide +kernel
theorem d_X9_split_101 : decode cX9_split 101 = .ok (.iload_n 1, 1) := by decide +kernel
theorem d_X9_split_102 : decode cX9_split 102 = .ok (.aload_n 0, 1) := by decide +kernel
theorem d_X9_split_103 : decode cX9_split 103 = .ok (.iload_n 1, 1) := by decide +kernel
theorem d_X9_split_104 : decode cX9_split 104 = .ok (.iload 4, 2) := by decide +kernel
theorem d_X9_split_106 : decode cX9_split 106 = .ok (.invokevirtual 60, 3) := by decide +kernel
theorem d_X9_split_109 : decode cX9_split 109 = .ok (.invokevirtual 56, 3) := by decide +kernel
theorem d_X9_split_112 : decode cX9_split 112 = .ok (.goto 66, 3) := by decide +kernel
theorem d_X9_split_115 : decode cX9_split 115 = .ok (.iload_n 3, 1) := by decide +kernel
theorem d_X9_split_116 : decode cX9_split 116 = .ok (.bipush 60, 2) := by decide +kernel
theorem d_X9_split_118 : decode cX9_split 118 = .ok (.if_icmp .eq 9, 3) := by decide +kernel
theorem d_X9_split_121 : decode cX9_split 121 = .ok (.iload_n 3, 1) := by decide +kernel
theorem d_X9_split_122 : decode cX9_split 122 = .ok (.bipush 62, 2) := by decide +kernel
theorem d_X9_split_124 : decode cX9_split 124 = .ok (.if_icmp .ne 41, 3) := by decide +kernel
theorem d_X9_split_127 : decode cX9_split 127 = .ok (.aload_n 0, 1) := by decide +kernel
theorem d_X9_split_128 : decode cX9_split 128 = .ok (.iload 4, 2) := by decide +kernel
theorem d_X9_split_130 : decode cX9_split 130 = .ok (.invokevirtual 38, 3) := by decide +kernel
theorem d_X9_split_133 : decode cX9_split 133 = .ok (.bipush 61, 2) := by decide +kernel
theorem d_X9_split_135 : decode cX9_split 135 = .ok (.if_icmp .ne 30, 3) := by decide +kernel
theorem d_X9_split_138 : decode cX9_split 138 = .ok (.aload_n 0, 1) := by decide +kernel
theorem d_X9_split_139 : decode cX9_split 139 = .ok (.iload_n 3, 1) := by decide +kernel
theorem d_X9_split_140 : decode cX9_split 140 = .ok (.bipush 60, 2) := by decide +kernel
theorem d_X9_split_142 : decode cX9_split 142 = .ok (.if_icmp .ne 9, 3) := by decide +kernel
theorem d_X9_split_145 : decode cX9_split 145 = .ok (.sipush 258, 3) := by decide +kernel
theorem d_X9_split_148 : decode cX9_split 148 = .ok (.goto 6, 3) := by decide +kernel
theorem d_X9_split_151 : decode cX9_split 151 = .ok (.sipush 259, 3) := by decide +kernel
theorem d_X9_split_154 : decode cX9_split 154 = .ok (.iload_n 1, 1) := by decide +kernel
theorem d_X9_split_155 : decode cX9_split 155 = .ok (.iconst 0, 1) := by decide +kernel
theorem d_X9_split_156 : decode cX9_split 156 = .ok (.invokevirtual 56, 3) := by decide +kernel
theorem d_X9_split_159 : decode cX9_split 159 = .ok (.iinc 4 1, 3) := by decide +kernel
theorem d_X9_split_162 : decode cX9_split 162 = .ok (.goto 16, 3) := by decide +kernel
theorem d_X9_split_165 : decode cX9_split 165 = .ok (.iload_n 3, 1) := by decide +kernel
theorem d_X9_split_166 : decode cX9_split 166 = .ok (.bipush 32, 2) := by decide +kernel
theorem d_X9_split_168 : decode cX9_split 168 = .ok (.if_icmp .eq 10, 3) := by decide +kernel
theorem d_X9_split_171 : decode cX9_split 171 = .ok (.aload_n 0, 1) := by decide +kernel
theorem d_X9_split_172 : decode cX9_split 172 = .ok (.iload_n 3, 1) := by decide +kernel
theorem d_X9_split_173 : decode cX9_split 173 = .ok (.iload_n 1, 1) := by decide +kernel
theorem d_X9_split_174 : decode cX9_split 174 = .ok (.iconst 0, 1) := by decide +kernel
theorem d_X9_split_175 : decode cX9_split 175 = .ok (.invokevirtual 56, 3) := by decide +kernel
theorem d_X9_split_178 : decode cX9_split 178 = .ok (.iload 4, 2) := by decide +kernel
theorem d_X9_split_180 : decode cX9_split 180 = .ok (.istore_n 1, 1) := by decide +kernel
theorem d_X9_split_181 : decode cX9_split 181 = .ok (.iinc 2 1, 3) := by decide +kernel
theorem d_X9_split_184 : decode cX9_split 184 = .ok (.goto (-165), 3) := by decide +kernel
theorem d_X9_split_187 : decode cX9_split 187 = .ok (.aload_n 0, 1) := by decide +kernel
theorem d_X9_split_188 : decode cX9_split 188 = .ok (.sipush 256, 3) := by decide +kernel
theorem d_X9_split_191 : decode cX9_split 191 = .ok (.aload_n 0, 1) := by decide +kernel
theorem d_X9_split_192 : decode cX9_split 192 = .ok (.getfield 32, 3) := by decide +kernel
theorem d_X9_split_195 : decode cX9_split 195 = .ok (.iconst 0, 1) := by decide +kernel
theorem d_X9_split_196 : decode cX9_split 196 = .ok (.invokevirtual 56, 3) := by decide +kernel
theorem d_X9_split_199 : decode cX9_split 199 = .ok (.return_, 1) := by decide +kernel
abbrev X_X9_split : gX := (RX9, cX9_split, 5, none, false)
def F_X9_split_b187 (l0 : Option Nat) (M : gM) : Option gM :=
  (gI 9 M l0 6).bind fun v1 => (gO 9 M l0).bind fun i2 => (F_X9_add (some i2) (256 : Int32) v1 (0 : Int32) M).bind fun M3 => some M3
theorem T_X9_split_b187 (r : gM) (l0 : Option Nat) (M : gM) (h : F_X9_split_b187 l0 M = some r) : GW 5 0 0 X_X9_split 187 [(0, vr l0)] [] M (none, r) := by
  delta F_X9_split_b187 at h
  refine GW_aload_n (X := X_X9_split) (pc := 187) d_X9_split_187 rfl 0 rfl ?_
  refine GW_sipush (X := X_X9_split) (pc := 188) (v := 256) d_X9_split_188 (by decide) ?_
  refine GW_aload_n (X := X_X9_split) (pc := 191) d_X9_split_191 rfl 0 rfl ?_
  replace h := g_bd h
  obtain ⟨v1, hv1, h⟩ := h
  refine GW_getI (X := X_X9_split) (pc := 192) f_X9_32 d_X9_split_192 hv1 (Or.inl ty_9_6) ?_
  refine GW_iconst (X := X_X9_split) (pc := 195) (v := 0) d_X9_split_195 (by decide) ?_
  replace h := g_bd h
  obtain ⟨i2, hi2, h⟩ := h
  obtain ⟨rfl, ki2⟩ := g_gO hi2
  replace h := g_bd h
  obtain ⟨M3, hM3, h⟩ := h
  refine GW_callV (X := X_X9_split) (pc := 196) (bc0 := 0) (bs0 := 0) (r := none) (M2 := M3) (c0 := 9) (T_X9_add (some i2) (256 : Int32) v1 (0 : Int32) M M3 hM3) (Nat.le_of_ble_eq_true rfl) (Nat.le_of_ble_eq_true rfl) rfl g_cok9 ki2 yc_X9_add ⟨m_573, m_575, m_3, m_123, m_576⟩ d_X9_split_196 rfl (st := []) rfl (Nat.le_of_ble_eq_true rfl) (Nat.le_of_ble_eq_true rfl) (Nat.le_of_ble_eq_true rfl) (st2 := []) rfl ?_
  replace h := Option.some.inj h
  subst h
  exact GW_ret (X := X_X9_split) (pc := 199) d_X9_split_199 rfl trivial
def F_X9_split_b178 (k19 : Option Nat → Int32 → Int32 → gM → Option gM) (l0 : Option Nat) (l2 : Int32) (l4 : Int32) (M : gM) : Option gM :=
  k19 l0 l4 (l2 + 1) M
theorem T_X9_split_b178 (k19 : Option Nat → Int32 → Int32 → gM → Option gM) (r : gM) (hk19 : ∀ (l0 : Option Nat) (l1 : Int32) (l2 : Int32) (M : gM), k19 l0 l1 l2 M = some r → GW 5 0 0 X_X9_split 19 [(0, vr l0), (1, vi l1), (2, vi l2)] [] M (none, r)) (l0 : Option Nat) (l2 : Int32) (l4 : Int32) (M : gM) (h : F_X9_split_b178 k19 l0 l2 l4 M = some r) : GW 5 0 0 X_X9_split 178 [(0, vr l0), (2, vi l2), (4, vi l4)] [] M (none, r) := by
  delta F_X9_split_b178 at h
  refine GW_iload (X := X_X9_split) (pc := 178) d_X9_split_178 2 rfl ?_
  refine GW_istore_n (X := X_X9_split) (pc := 180) d_X9_split_180 rfl (Nat.le_of_ble_eq_true rfl) (lv2 := [(1, vi l4), (0, vr l0), (2, vi l2), (4, vi l4)]) rfl ?_
  refine GW_iinc (j := 2) (X := X_X9_split) (pc := 181) d_X9_split_181 rfl (congrArg (fun z => _ + z) (by decide : Int32.ofInt 1 = (1 : Int32))) (Nat.le_of_ble_eq_true rfl) (lv2 := [(2, vi (l2 + 1)), (1, vi l4), (0, vr l0), (4, vi l4)]) rfl ?_
  refine GW_goto (X := X_X9_split) (pc := 184) 19 d_X9_split_184 (by decide) ?_
  refine GW_sub [2, 1, 0] rfl ?_
  exact hk19 l0 l4 (l2 + 1) M h
def F_X9_split_b165 (k19 : Option Nat → Int32 → Int32 → gM → Option gM) (l0 : Option Nat) (l1 : Int32) (l2 : Int32) (l3 : Int32) (l4 : Int32) (M : gM) : Option gM :=
  if l3 = (32 : Int32) then (F_X9_split_b178 k19 l0 l2 l4 M) else ((gO 9 M l0).bind fun i1 => (F_X9_add (some i1) l3 l1 (0 : Int32) M).bind fun M2 => F_X9_split_b178 k19 (some i1) l2 l4 M2)
theorem T_X9_split_b165 (k19 : Option Nat → Int32 → Int32 → gM → Option gM) (r : gM) (hk19 : ∀ (l0 : Option Nat) (l1 : Int32) (l2 : Int32) (M : gM), k19 l0 l1 l2 M = some r → GW 5 0 0 X_X9_split 19 [(0, vr l0), (1, vi l1), (2, vi l2)] [] M (none, r)) (l0 : Option Nat) (l1 : Int32) (l2 : Int32) (l3 : Int32) (l4 : Int32) (M : gM) (h : F_X9_split_b165 k19 l0 l1 l2 l3 l4 M = some r) : GW 5 0 0 X_X9_split 165 [(0, vr l0), (1, vi l1), (2, vi l2), (3, vi l3), (4, vi l4)] [] M (none, r) := by
  delta F_X9_split_b165 at h
  refine GW_iload_n (X := X_X9_split) (pc := 165) d_X9_split_165 rfl 3 rfl ?_
  refine GW_bipush (X := X_X9_split) (pc := 166) (v := 32) d_X9_split_166 (by decide) ?_
  refine GW_icmp_eq (X := X_X9_split) (pc := 168) 178 d_X9_split_168 (by decide) (fun c => ?_) (fun c => ?_)
  · replace h := g_ip c h
    refine GW_sub [0, 2, 4] rfl ?_
    exact T_X9_split_b178 k19 r hk19 l0 l2 l4 M h
  · replace h := g_ie c h
    refine GW_aload_n (X := X_X9_split) (pc := 171) d_X9_split_171 rfl 0 rfl ?_
    refine GW_iload_n (X := X_X9_split) (pc := 172) d_X9_split_172 rfl 3 rfl ?_
    refine GW_iload_n (X := X_X9_split) (pc := 173) d_X9_split_173 rfl 1 rfl ?_
    refine GW_iconst (X := X_X9_split) (pc := 174) (v := 0) d_X9_split_174 (by decide) ?_
    replace h := g_bd h
    obtain ⟨i1, hi1, h⟩ := h
    obtain ⟨rfl, ki1⟩ := g_gO hi1
    replace h := g_bd h
    obtain ⟨M2, hM2, h⟩ := h
    refine GW_callV (X := X_X9_split) (pc := 175) (bc0 := 0) (bs0 := 0) (r := none) (M2 := M2) (c0 := 9) (T_X9_add (some i1) l3 l1 (0 : Int32) M M2 hM2) (Nat.le_of_ble_eq_true rfl) (Nat.le_of_ble_eq_true rfl) rfl g_cok9 ki1 yc_X9_add ⟨m_573, m_575, m_3, m_123, m_576⟩ d_X9_split_175 rfl (st := []) rfl (Nat.le_of_ble_eq_true rfl) (Nat.le_of_ble_eq_true rfl) (Nat.le_of_ble_eq_true rfl) (st2 := []) rfl ?_
    refine GW_sub [0, 2, 4] rfl ?_
    exact T_X9_split_b178 k19 r hk19 (some i1) l2 l4 M2 h
def F_X9_split_b154 (k19 : Option Nat → Int32 → Int32 → gM → Option gM) (l0 : Option Nat) (l1 : Int32) (l2 : Int32) (l4 : Int32) (s0 : Option Nat) (s1 : Int32) (M : gM) : Option gM :=
  (gO 9 M s0).bind fun i1 => (F_X9_add (some i1) s1 l1 (0 : Int32) M).bind fun M2 => F_X9_split_b178 k19 l0 l2 (l4 + 1) M2
theorem T_X9_split_b154 (k19 : Option Nat → Int32 → Int32 → gM → Option gM) (r : gM) (hk19 : ∀ (l0 : Option Nat) (l1 : Int32) (l2 : Int32) (M : gM), k19 l0 l1 l2 M = some r → GW 5 0 0 X_X9_split 19 [(0, vr l0), (1, vi l1), (2, vi l2)] [] M (none, r)) (l0 : Option Nat) (l1 : Int32) (l2 : Int32) (l4 : Int32) (s0 : Option Nat) (s1 : Int32) (M : gM) (h : F_X9_split_b154 k19 l0 l1 l2 l4 s0 s1 M = some r) : GW 5 0 0 X_X9_split 154 [(0, vr l0), (1, vi l1), (2, vi l2), (4, vi l4)] [vi s1, vr s0] M (none, r) := by
  delta F_X9_split_b154 at h
  refine GW_iload_n (X := X_X9_split) (pc := 154) d_X9_split_154 rfl 1 rfl ?_
  refine GW_iconst (X := X_X9_split) (pc := 155) (v := 0) d_X9_split_155 (by decide) ?_
  replace h := g_bd h
  obtain ⟨i1, hi1, h⟩ := h
  obtain ⟨rfl, ki1⟩ := g_gO hi1
  replace h := g_bd h
  obtain ⟨M2, hM2, h⟩ := h
  refine GW_callV (X := X_X9_split) (pc := 156) (bc0 := 0) (bs0 := 0) (r := none) (M2 := M2) (c0 := 9) (T_X9_add (some i1) s1 l1 (0 : Int32) M M2 hM2) (Nat.le_of_ble_eq_true rfl) (Nat.le_of_ble_eq_true rfl) rfl g_cok9 ki1 yc_X9_add ⟨m_573, m_575, m_3, m_123, m_576⟩ d_X9_split_156 rfl (st := []) rfl (Nat.le_of_ble_eq_true rfl) (Nat.le_of_ble_eq_true rfl) (Nat.le_of_ble_eq_true rfl) (st2 := []) rfl ?_
  refine GW_iinc (j := 3) (X := X_X9_split) (pc := 159) d_X9_split_159 rfl (congrArg (fun z => _ + z) (by decide : Int32.ofInt 1 = (1 : Int32))) (Nat.le_of_ble_eq_true rfl) (lv2 := [(4, vi (l4 + 1)), (0, vr l0), (1, vi l1), (2, vi l2)]) rfl ?_
  refine GW_goto (X := X_X9_split) (pc := 162) 178 d_X9_split_162 (by decide) ?_
  refine GW_sub [1, 3, 0] rfl ?_
  exact T_X9_split_b178 k19 r hk19 l0 l2 (l4 + 1) M2 h
def F_X9_split_b127 (k19 : Option Nat → Int32 → Int32 → gM → Option gM) (l0 : Option Nat) (l1 : Int32) (l2 : Int32) (l3 : Int32) (l4 : Int32) (M : gM) : Option gM :=
  (gO 9 M l0).bind fun i1 => (F_X9_byteAt (some i1) l4 M).bind fun v2 => if v2 = (61 : Int32) then (if l3 = (60 : Int32) then (F_X9_split_b154 k19 (some i1) l1 l2 l4 (some i1) (258 : Int32) M) else (F_X9_split_b154 k19 (some i1) l1 l2 l4 (some i1) (259 : Int32) M)) else (F_X9_split_b165 k19 (some i1) l1 l2 l3 l4 M)
theorem T_X9_split_b127 (k19 : Option Nat → Int32 → Int32 → gM → Option gM) (r : gM) (hk19 : ∀ (l0 : Option Nat) (l1 : Int32) (l2 : Int32) (M : gM), k19 l0 l1 l2 M = some r → GW 5 0 0 X_X9_split 19 [(0, vr l0), (1, vi l1), (2, vi l2)] [] M (none, r)) (l0 : Option Nat) (l1 : Int32) (l2 : Int32) (l3 : Int32) (l4 : Int32) (M : gM) (h : F_X9_split_b127 k19 l0 l1 l2 l3 l4 M = some r) : GW 5 0 0 X_X9_split 127 [(0, vr l0), (1, vi l1), (2, vi l2), (3, vi l3), (4, vi l4)] [] M (none, r) := by
  delta F_X9_split_b127 at h
  refine GW_aload_n (X := X_X9_split) (pc := 127) d_X9_split_127 rfl 0 rfl ?_
  refine GW_iload (X := X_X9_split) (pc := 128) d_X9_split_128 4 rfl ?_
  replace h := g_bd h
  obtain ⟨i1, hi1, h⟩ := h
  obtain ⟨rfl, ki1⟩ := g_gO hi1
  replace h := g_bd h
  obtain ⟨v2, hv2, h⟩ := h
  refine GW_callV (X := X_X9_split) (pc := 130) (bc0 := 0) (bs0 := 0) (r := some (vi v2)) (M2 := M) (c0 := 9) (T_X9_byteAt (some i1) l4 M v2 hv2) (Nat.le_of_ble_eq_true rfl) (Nat.le_of_ble_eq_true rfl) rfl g_cok9 ki1 yc_X9_byteAt ⟨m_506, m_508, m_0, m_123, m_509⟩ d_X9_split_130 rfl (st := []) rfl (Nat.le_of_ble_eq_true rfl) (Nat.le_of_ble_eq_true rfl) (Nat.le_of_ble_eq_true rfl) (st2 := [vi v2]) rfl ?_
  refine GW_bipush (X := X_X9_split) (pc := 133) (v := 61) d_X9_split_133 (by decide) ?_
  refine GW_icmp_ne (X := X_X9_split) (pc := 135) 165 d_X9_split_135 (by decide) (fun c => ?_) (fun c => ?_)
  · replace h := g_ie c h
    exact T_X9_split_b165 k19 r hk19 (some i1) l1 l2 l3 l4 M h
  · replace h := g_ip c h
    refine GW_aload_n (X := X_X9_split) (pc := 138) d_X9_split_138 rfl 0 rfl ?_
    refine GW_iload_n (X := X_X9_split) (pc := 139) d_X9_split_139 rfl 3 rfl ?_
    refine GW_bipush (X := X_X9_split) (pc := 140) (v := 60) d_X9_split_140 (by decide) ?_
    refine GW_icmp_ne (X := X_X9_split) (pc := 142) 151 d_X9_split_142 (by decide) (fun c => ?_) (fun c => ?_)
    · replace h := g_ie c h
      refine GW_sipush (X := X_X9_split) (pc := 151) (v := 259) d_X9_split_151 (by decide) ?_
      refine GW_sub [0, 1, 2, 4] rfl ?_
      exact T_X9_split_b154 k19 r hk19 (some i1) l1 l2 l4 (some i1) (259 : Int32) M h
    · replace h := g_ip c h
      refine GW_sipush (X := X_X9_split) (pc := 145) (v := 258) d_X9_split_145 (by decide) ?_
      refine GW_goto (X := X_X9_split) (pc := 148) 154 d_X9_split_148 (by decide) ?_
      refine GW_sub [0, 1, 2, 4] rfl ?_
      exact T_X9_split_b154 k19 r hk19 (some i1) l1 l2 l4 (some i1) (258 : Int32) M h
def F_X9_split_b65 (k19 : Option Nat → Int32 → Int32 → gM → Option gM) (l0 : Option Nat) (l1 : Int32) (l2 : Int32) (l3 : Int32) (s0 : Int32) (M : gM) : Option gM :=
  (F_X9_isLetter l3 M).bind fun v1 => if v1 = 0 then ((F_X9_isDigit l3 M).bind fun v2 => if v2 = 0 then (if l3 = (60 : Int32) then (F_X9_split_b127 k19 l0 l1 l2 l3 s0 M) else (if l3 = (62 : Int32) then (F_X9_split_b127 k19 l0 l1 l2 l3 s0 M) else (F_X9_split_b165 k19 l0 l1 l2 l3 s0 M))) else ((gO 9 M l0).bind fun i3 => (F_X9_valueOf (some i3) l1 s0 M).bind fun v4 => (F_X9_add (some i3) (257 : Int32) l1 v4 M).bind fun M5 => F_X9_split_b178 k19 (some i3) l2 s0 M5)) else ((gO 9 M l0).bind fun i6 => (F_X9_wordKind (some i6) l1 s0 M).bind fun v7 => (F_X9_add (some i6) v7 l1 (0 : Int32) M).bind fun M8 => F_X9_split_b178 k19 (some i6) l2 s0 M8)
set_option maxHeartbeats 1000000 in
theorem T_X9_split_b65 (k19 : Option Nat → Int32 → Int32 → gM → Option gM) (r : gM) (hk19 : ∀ (l0 : Option Nat) (l1 : Int32) (l2 : Int32) (M : gM), k19 l0 l1 l2 M = some r → GW 5 0 0 X_X9_split 19 [(0, vr l0), (1, vi l1), (2, vi l2)] [] M (none, r)) (l0 : Option Nat) (l1 : Int32) (l2 : Int32) (l3 : Int32) (s0 : Int32) (M : gM) (h : F_X9_split_b65 k19 l0 l1 l2 l3 s0 M = some r) : GW 5 0 0 X_X9_split 65 [(0, vr l0), (1, vi l1), (2, vi l2), (3, vi l3)] [vi s0] M (none, r) := by
  delta F_X9_split_b65 at h
  refine GW_istore (X := X_X9_split) (pc := 65) d_X9_split_65 (Nat.le_of_ble_eq_true rfl) (lv2 := [(4, vi s0), (0, vr l0), (1, vi l1), (2, vi l2), (3, vi l3)]) rfl ?_
  refine GW_iload_n (X := X_X9_split) (pc := 67) d_X9_split_67 rfl 4 rfl ?_
  replace h := g_bd h
  obtain ⟨v1, hv1, h⟩ := h
  refine GW_callS (X := X_X9_split) (pc := 68) (bc0 := 0) (bs0 := 0) (r := some (vi v1)) (M2 := M) (T_X9_isLetter l3 M v1 hv1) (Nat.le_of_ble_eq_true rfl) (Nat.le_of_ble_eq_true rfl) yc_X9_isLetter ⟨m_510, m_511, m_123, m_512⟩ d_X9_split_68 rfl (st := []) rfl (Nat.le_of_ble_eq_true rfl) (Nat.le_of_ble_eq_true rfl) (Nat.le_of_ble_eq_true rfl) (st2 := [vi v1]) rfl ?_
  refine GW_if_eq (X := X_X9_split) (pc := 71) 90 d_X9_split_71 (by decide) (fun c => ?_) (fun c => ?_)
  · replace h := g_ip c h
    refine GW_iload_n (X := X_X9_split) (pc := 90) d_X9_split_90 rfl 4 rfl ?_
    replace h := g_bd h
    obtain ⟨v2, hv2, h⟩ := h
    refine GW_callS (X := X_X9_split) (pc := 91) (bc0 := 0) (bs0 := 0) (r := some (vi v2)) (M2 := M) (T_X9_isDigit l3 M v2 hv2) (Nat.le_of_ble_eq_true rfl) (Nat.le_of_ble_eq_true rfl) yc_X9_isDigit ⟨m_513, m_514, m_123, m_515⟩ d_X9_split_91 rfl (st := []) rfl (Nat.le_of_ble_eq_true rfl) (Nat.le_of_ble_eq_true rfl) (Nat.le_of_ble_eq_true rfl) (st2 := [vi v2]) rfl ?_
    refine GW_if_eq (X := X_X9_split) (pc := 94) 115 d_X9_split_94 (by decide) (fun c => ?_) (fun c => ?_)
    · replace h := g_ip c h
      refine GW_iload_n (X := X_X9_split) (pc := 115) d_X9_split_115 rfl 4 rfl ?_
      refine GW_bipush (X := X_X9_split) (pc := 116) (v := 60) d_X9_split_116 (by decide) ?_
      refine GW_icmp_eq (X := X_X9_split) (pc := 118) 127 d_X9_split_118 (by decide) (fun c => ?_) (fun c => ?_)
      · replace h := g_ip c h
        refine GW_sub [1, 2, 3, 4, 0] rfl ?_
        exact T_X9_split_b127 k19 r hk19 l0 l1 l2 l3 s0 M h
      · replace h := g_ie c h
        refine GW_iload_n (X := X_X9_split) (pc := 121) d_X9_split_121 rfl 4 rfl ?_
        refine GW_bipush (X := X_X9_split) (pc := 122) (v := 62) d_X9_split_122 (by decide) ?_
        refine GW_icmp_ne (X := X_X9_split) (pc := 124) 165 d_X9_split_124 (by decide) (fun c => ?_) (fun c => ?_)
        · replace h := g_ie c h
          refine GW_sub [1, 2, 3, 4, 0] rfl ?_
          exact T_X9_split_b165 k19 r hk19 l0 l1 l2 l3 s0 M h
        · replace h := g_ip c h
          refine GW_sub [1, 2, 3, 4, 0] rfl ?_
          exact T_X9_split_b127 k19 r hk19 l0 l1 l2 l3 s0 M h
    · replace h := g_ie c h
      refine GW_aload_n (X := X_X9_split) (pc := 97) d_X9_split_97 rfl 1 rfl ?_
      refine GW_sipush (X := X_X9_split) (pc := 98) (v := 257) d_X9_split_98 (by decide) ?_
      refine GW_iload_n (X := X_X9_split) (pc := 101) d_X9_split_101 rfl 2 rfl ?_
      refine GW_aload_n (X := X_X9_split) (pc := 102) d_X9_split_102 rfl 1 rfl ?_
      refine GW_iload_n (X := X_X9_split) (pc := 103) d_X9_split_103 rfl 2 rfl ?_
      refine GW_iload (X := X_X9_split) (pc := 104) d_X9_split_104 0 rfl ?_
      replace h := g_bd h
      obtain ⟨i3, hi3, h⟩ := h
      obtain ⟨rfl, ki3⟩ := g_gO hi3
      replace h := g_bd h
      obtain ⟨v4, hv4, h⟩ := h
      refine GW_callV (X := X_X9_split) (pc := 106) (bc0 := 0) (bs0 := 0) (r := some (vi v4)) (M2 := M) (c0 := 9) (T_X9_valueOf (some i3) l1 s0 M v4 hv4) (Nat.le_of_ble_eq_true rfl) (Nat.le_of_ble_eq_true rfl) rfl g_cok9 ki3 yc_X9_valueOf ⟨m_577, m_579, m_4, m_123, m_580⟩ d_X9_split_106 rfl (st := [vi l1, vi (257 : Int32), vr (some i3)]) rfl (Nat.le_of_ble_eq_true rfl) (Nat.le_of_ble_eq_true rfl) (Nat.le_of_ble_eq_true rfl) (st2 := [vi v4, vi l1, vi (257 : Int32), vr (some i3)]) rfl ?_
      replace h := g_bd h
      obtain ⟨M5, hM5, h⟩ := h
      refine GW_callV (X := X_X9_split) (pc := 109) (bc0 := 0) (bs0 := 0) (r := none) (M2 := M5) (c0 := 9) (T_X9_add (some i3) (257 : Int32) l1 v4 M M5 hM5) (Nat.le_of_ble_eq_true rfl) (Nat.le_of_ble_eq_true rfl) rfl g_cok9 ki3 yc_X9_add ⟨m_573, m_575, m_3, m_123, m_576⟩ d_X9_split_109 rfl (st := []) rfl (Nat.le_of_ble_eq_true rfl) (Nat.le_of_ble_eq_true rfl) (Nat.le_of_ble_eq_true rfl) (st2 := []) rfl ?_
      refine GW_goto (X := X_X9_split) (pc := 112) 178 d_X9_split_112 (by decide) ?_
      refine GW_sub [1, 3, 0] rfl ?_
      exact T_X9_split_b178 k19 r hk19 (some i3) l2 s0 M5 h
  · replace h := g_ie c h
    refine GW_aload_n (X := X_X9_split) (pc := 74) d_X9_split_74 rfl 1 rfl ?_
    refine GW_aload_n (X := X_X9_split) (pc := 75) d_X9_split_75 rfl 1 rfl ?_
    refine GW_iload_n (X := X_X9_split) (pc := 76) d_X9_split_76 rfl 2 rfl ?_
    refine GW_iload (X := X_X9_split) (pc := 77) d_X9_split_77 0 rfl ?_
    replace h := g_bd h
    obtain ⟨i6, hi6, h⟩ := h
    obtain ⟨rfl, ki6⟩ := g_gO hi6
    replace h := g_bd h
    obtain ⟨v7, hv7, h⟩ := h
    refine GW_callV (X := X_X9_split) (pc := 79) (bc0 := 0) (bs0 := 0) (r := some (vi v7)) (M2 := M) (c0 := 9) (T_X9_wordKind (some i6) l1 s0 M v7 hv7) (Nat.le_of_ble_eq_true rfl) (Nat.le_of_ble_eq_true rfl) rfl g_cok9 ki6 yc_X9_wordKind ⟨m_520, m_522, m_2, m_123, m_523⟩ d_X9_split_79 rfl (st := [vr (some i6)]) rfl (Nat.le_of_ble_eq_true rfl) (Nat.le_of_ble_eq_true rfl) (Nat.le_of_ble_eq_true rfl) (st2 := [vi v7, vr (some i6)]) rfl ?_
    refine GW_iload_n (X := X_X9_split) (pc := 82) d_X9_split_82 rfl 2 rfl ?_
    refine GW_iconst (X := X_X9_split) (pc := 83) (v := 0) d_X9_split_83 (by decide) ?_
    replace h := g_bd h
    obtain ⟨M8, hM8, h⟩ := h
    refine GW_callV (X := X_X9_split) (pc := 84) (bc0 := 0) (bs0 := 0) (r := none) (M2 := M8) (c0 := 9) (T_X9_add (some i6) v7 l1 (0 : Int32) M M8 hM8) (Nat.le_of_ble_eq_true rfl) (Nat.le_of_ble_eq_true rfl) rfl g_cok9 ki6 yc_X9_add ⟨m_573, m_575, m_3, m_123, m_576⟩ d_X9_split_84 rfl (st := []) rfl (Nat.le_of_ble_eq_true rfl) (Nat.le_of_ble_eq_true rfl) (Nat.le_of_ble_eq_true rfl) (st2 := []) rfl ?_
    refine GW_goto (X := X_X9_split) (pc := 87) 178 d_X9_split_87 (by decide) ?_
    refine GW_sub [1, 3, 0] rfl ?_
    exact T_X9_split_b178 k19 r hk19 (some i6) l2 s0 M8 h
def F_X9_split_b54 (k19 : Option Nat → Int32 → Int32 → gM → Option gM) (l0 : Option Nat) (l1 : Int32) (l2 : Int32) (l3 : Int32) (M : gM) : Option gM :=
  (gO 9 M l0).bind fun i1 => (F_X9_endOfRun (some i1) l1 M).bind fun v2 => F_X9_split_b65 k19 (some i1) l1 l2 l3 v2 M
theorem T_X9_split_b54 (k19 : Option Nat → Int32 → Int32 → gM → Option gM) (r : gM) (hk19 : ∀ (l0 : Option Nat) (l1 : Int32) (l2 : Int32) (M : gM), k19 l0 l1 l2 M = some r → GW 5 0 0 X_X9_split 19 [(0, vr l0), (1, vi l1), (2, vi l2)] [] M (none, r)) (l0 : Option Nat) (l1 : Int32) (l2 : Int32) (l3 : Int32) (M : gM) (h : F_X9_split_b54 k19 l0 l1 l2 l3 M = some r) : GW 5 0 0 X_X9_split 54 [(0, vr l0), (1, vi l1), (2, vi l2), (3, vi l3)] [] M (none, r) := by
  delta F_X9_split_b54 at h
  refine GW_aload_n (X := X_X9_split) (pc := 54) d_X9_split_54 rfl 0 rfl ?_
  refine GW_iload_n (X := X_X9_split) (pc := 55) d_X9_split_55 rfl 1 rfl ?_
  replace h := g_bd h
  obtain ⟨i1, hi1, h⟩ := h
  obtain ⟨rfl, ki1⟩ := g_gO hi1
  replace h := g_bd h
  obtain ⟨v2, hv2, h⟩ := h
  refine GW_callV (X := X_X9_split) (pc := 56) (bc0 := 0) (bs0 := 0) (r := some (vi v2)) (M2 := M) (c0 := 9) (T_X9_endOfRun (some i1) l1 M v2 hv2) (Nat.le_of_ble_eq_true rfl) (Nat.le_of_ble_eq_true rfl) rfl g_cok9 ki1 yc_X9_endOfRun ⟨m_516, m_518, m_1, m_123, m_519⟩ d_X9_split_56 rfl (st := []) rfl (Nat.le_of_ble_eq_true rfl) (Nat.le_of_ble_eq_true rfl) (Nat.le_of_ble_eq_true rfl) (st2 := [vi v2]) rfl ?_
  refine GW_goto (X := X_X9_split) (pc := 59) 65 d_X9_split_59 (by decide) ?_
  exact T_X9_split_b65 k19 r hk19 (some i1) l1 l2 l3 v2 M h
def F_X9_split_b19 (k19 : Option Nat → Int32 → Int32 → gM → Option gM) (l0 : Option Nat) (l1 : Int32) (l2 : Int32) (M : gM) : Option gM :=
  if (400 : Int32) ≤ l2 then (F_X9_split_b187 l0 M) else ((gI 9 M l0 6).bind fun v1 => if v1 ≤ l1 then (F_X9_split_b187 l0 M) else ((gO 9 M l0).bind fun i2 => (F_X9_byteAt (some i2) l1 M).bind fun v3 => (F_X9_isLetter v3 M).bind fun v4 => if v4 = 0 then ((F_X9_isDigit v3 M).bind fun v5 => if v5 = 0 then (F_X9_split_b65 k19 (some i2) l1 l2 v3 (l1 + (1 : Int32)) M) else (F_X9_split_b54 k19 (some i2) l1 l2 v3 M)) else (F_X9_split_b54 k19 (some i2) l1 l2 v3 M)))
set_option maxHeartbeats 1000000 in
theorem T_X9_split_b19 (k19 : Option Nat → Int32 → Int32 → gM → Option gM) (r : gM) (hk19 : ∀ (l0 : Option Nat) (l1 : Int32) (l2 : Int32) (M : gM), k19 l0 l1 l2 M = some r → GW 5 0 0 X_X9_split 19 [(0, vr l0), (1, vi l1), (2, vi l2)] [] M (none, r)) (l0 : Option Nat) (l1 : Int32) (l2 : Int32) (M : gM) (h : F_X9_split_b19 k19 l0 l1 l2 M = some r) : GW 5 0 0 X_X9_split 19 [(0, vr l0), (1, vi l1), (2, vi l2)] [] M (none, r) := by
  delta F_X9_split_b19 at h
  refine GW_iload_n (X := X_X9_split) (pc := 19) d_X9_split_19 rfl 2 rfl ?_
  refine GW_sipush (X := X_X9_split) (pc := 20) (v := 400) d_X9_split_20 (by decide) ?_
  refine GW_icmp_ge (X := X_X9_split) (pc := 23) 187 d_X9_split_23 (by decide) (fun c => ?_) (fun c => ?_)
  · replace h := g_ip c h
    refine GW_sub [0] rfl ?_
    exact T_X9_split_b187 r l0 M h
  · replace h := g_ie c h
    refine GW_iload_n (X := X_X9_split) (pc := 26) d_X9_split_26 rfl 1 rfl ?_
    refine GW_aload_n (X := X_X9_split) (pc := 27) d_X9_split_27 rfl 0 rfl ?_
    replace h := g_bd h
    obtain ⟨v1, hv1, h⟩ := h
    refine GW_getI (X := X_X9_split) (pc := 28) f_X9_32 d_X9_split_28 hv1 (Or.inl ty_9_6) ?_
    refine GW_icmp_ge (X := X_X9_split) (pc := 31) 187 d_X9_split_31 (by decide) (fun c => ?_) (fun c => ?_)
    · replace h := g_ip c h
      refine GW_sub [0] rfl ?_
      exact T_X9_split_b187 r l0 M h
    · replace h := g_ie c h
      refine GW_aload_n (X := X_X9_split) (pc := 34) d_X9_split_34 rfl 0 rfl ?_
      refine GW_iload_n (X := X_X9_split) (pc := 35) d_X9_split_35 rfl 1 rfl ?_
      replace h := g_bd h
      obtain ⟨i2, hi2, h⟩ := h
      obtain ⟨rfl, ki2⟩ := g_gO hi2
      replace h := g_bd h
      obtain ⟨v3, hv3, h⟩ := h
      refine GW_callV (X := X_X9_split) (pc := 36) (bc0 := 0) (bs0 := 0) (r := some (vi v3)) (M2 := M) (c0 := 9) (T_X9_byteAt (some i2) l1 M v3 hv3) (Nat.le_of_ble_eq_true rfl) (Nat.le_of_ble_eq_true rfl) rfl g_cok9 ki2 yc_X9_byteAt ⟨m_506, m_508, m_0, m_123, m_509⟩ d_X9_split_36 rfl (st := []) rfl (Nat.le_of_ble_eq_true rfl) (Nat.le_of_ble_eq_true rfl) (Nat.le_of_ble_eq_true rfl) (st2 := [vi v3]) rfl ?_
      refine GW_istore_n (X := X_X9_split) (pc := 39) d_X9_split_39 rfl (Nat.le_of_ble_eq_true rfl) (lv2 := [(3, vi v3), (0, vr (some i2)), (1, vi l1), (2, vi l2)]) rfl ?_
      refine GW_iload_n (X := X_X9_split) (pc := 40) d_X9_split_40 rfl 0 rfl ?_
      replace h := g_bd h
      obtain ⟨v4, hv4, h⟩ := h
      refine GW_callS (X := X_X9_split) (pc := 41) (bc0 := 0) (bs0 := 0) (r := some (vi v4)) (M2 := M) (T_X9_isLetter v3 M v4 hv4) (Nat.le_of_ble_eq_true rfl) (Nat.le_of_ble_eq_true rfl) yc_X9_isLetter ⟨m_510, m_511, m_123, m_512⟩ d_X9_split_41 rfl (st := []) rfl (Nat.le_of_ble_eq_true rfl) (Nat.le_of_ble_eq_true rfl) (Nat.le_of_ble_eq_true rfl) (st2 := [vi v4]) rfl ?_
      refine GW_if_ne (X := X_X9_split) (pc := 44) 54 d_X9_split_44 (by decide) (fun c => ?_) (fun c => ?_)
      · replace h := g_ie c h
        refine GW_sub [1, 2, 3, 0] rfl ?_
        exact T_X9_split_b54 k19 r hk19 (some i2) l1 l2 v3 M h
      · replace h := g_ip c h
        refine GW_iload_n (X := X_X9_split) (pc := 47) d_X9_split_47 rfl 0 rfl ?_
        replace h := g_bd h
        obtain ⟨v5, hv5, h⟩ := h
        refine GW_callS (X := X_X9_split) (pc := 48) (bc0 := 0) (bs0 := 0) (r := some (vi v5)) (M2 := M) (T_X9_isDigit v3 M v5 hv5) (Nat.le_of_ble_eq_true rfl) (Nat.le_of_ble_eq_true rfl) yc_X9_isDigit ⟨m_513, m_514, m_123, m_515⟩ d_X9_split_48 rfl (st := []) rfl (Nat.le_of_ble_eq_true rfl) (Nat.le_of_ble_eq_true rfl) (Nat.le_of_ble_eq_true rfl) (st2 := [vi v5]) rfl ?_
        refine GW_if_eq (X := X_X9_split) (pc := 51) 62 d_X9_split_51 (by decide) (fun c => ?_) (fun c => ?_)
        · replace h := g_ip c h
          refine GW_iload_n (X := X_X9_split) (pc := 62) d_X9_split_62 rfl 2 rfl ?_
          refine GW_iconst (X := X_X9_split) (pc := 63) (v := 1) d_X9_split_63 (by decide) ?_
          refine GW_iadd (X := X_X9_split) (pc := 64) d_X9_split_64 ?_
          refine GW_sub [1, 2, 3, 0] rfl ?_
          exact T_X9_split_b65 k19 r hk19 (some i2) l1 l2 v3 (l1 + (1 : Int32)) M h
        · replace h := g_ie c h
          refine GW_sub [1, 2, 3, 0] rfl ?_
          exact T_X9_split_b54 k19 r hk19 (some i2) l1 l2 v3 M h
def F_X9_split_L19 : Nat → Option Nat → Int32 → Int32 → gM → Option gM
  | 0 => fun _ _ _ _ => none
  | n + 1 => F_X9_split_b19 (F_X9_split_L19 n)
theorem T_X9_split_L19 (r : gM) : ∀ (n : Nat) (l0 : Option Nat) (l1 : Int32) (l2 : Int32) (M : gM), F_X9_split_L19 n l0 l1 l2 M = some r → GW 5 0 0 X_X9_split 19 [(0, vr l0), (1, vi l1), (2, vi l2)] [] M (none, r) := by
  intro n
  induction n with
  | zero => intro l0 l1 l2 M h; exact g_no h
  | succ n ih => intro l0 l1 l2 M h; exact T_X9_split_b19 (F_X9_split_L19 n) r ih l0 l1 l2 M h
def F_X9_split_b0 (l0 : Option Nat) (M : gM) : Option gM :=
  (pI 9 M l0 4 (0 : Int32)).bind fun M1 => (pI 9 M1 l0 5 (0 : Int32)).bind fun M2 => (pI 9 M2 l0 7 (0 : Int32)).bind fun M3 => F_X9_split_L19 g_fuel l0 (0 : Int32) (0 : Int32) M3
theorem T_X9_split_b0 (r : gM) (l0 : Option Nat) (M : gM) (h : F_X9_split_b0 l0 M = some r) : GW 5 0 0 X_X9_split 0 [(0, vr l0)] [] M (none, r) := by
  delta F_X9_split_b0 at h
  refine GW_aload_n (X := X_X9_split) (pc := 0) d_X9_split_0 rfl 0 rfl ?_
  refine GW_iconst (X := X_X9_split) (pc := 1) (v := 0) d_X9_split_1 (by decide) ?_
  replace h := g_bd h
  obtain ⟨M1, hM1, h⟩ := h
  refine GW_putI (X := X_X9_split) (pc := 2) f_X9_25 d_X9_split_2 hM1 (Or.inl fi_9_4) (Or.inl ty_9_4) ?_
  refine GW_aload_n (X := X_X9_split) (pc := 5) d_X9_split_5 rfl 0 rfl ?_
  refine GW_iconst (X := X_X9_split) (pc := 6) (v := 0) d_X9_split_6 (by decide) ?_
  replace h := g_bd h
  obtain ⟨M2, hM2, h⟩ := h
  refine GW_putI (X := X_X9_split) (pc := 7) f_X9_29 d_X9_split_7 hM2 (Or.inl fi_9_5) (Or.inl ty_9_5) ?_
  refine GW_aload_n (X := X_X9_split) (pc := 10) d_X9_split_10 rfl 0 rfl ?_
  refine GW_iconst (X := X_X9_split) (pc := 11) (v := 0) d_X9_split_11 (by decide) ?_
  replace h := g_bd h
  obtain ⟨M3, hM3, h⟩ := h
  refine GW_putI (X := X_X9_split) (pc := 12) f_X9_35 d_X9_split_12 hM3 (Or.inl fi_9_7) (Or.inl ty_9_7) ?_
  refine GW_iconst (X := X_X9_split) (pc := 15) (v := 0) d_X9_split_15 (by decide) ?_
  refine GW_istore_n (X := X_X9_split) (pc := 16) d_X9_split_16 rfl (Nat.le_of_ble_eq_true rfl) (lv2 := [(1, vi (0 : Int32)), (0, vr l0)]) rfl ?_
  refine GW_iconst (X := X_X9_split) (pc := 17) (v := 0) d_X9_split_17 (by decide) ?_
  refine GW_istore_n (X := X_X9_split) (pc := 18) d_X9_split_18 rfl (Nat.le_of_ble_eq_true rfl) (lv2 := [(2, vi (0 : Int32)), (1, vi (0 : Int32)), (0, vr l0)]) rfl ?_
  refine GW_sub [2, 1, 0] rfl ?_
  exact T_X9_split_L19 r g_fuel l0 (0 : Int32) (0 : Int32) M3 h
def F_X9_split (l0 : Option Nat) (M : gM) : Option gM := F_X9_split_b0 l0 M
theorem T_X9_split (l0 : Option Nat) (M : gM) (r : gM) (h : F_X9_split l0 M = some r) : g_Met 5 0 0 yX9_split X_X9_split [vr l0] M (none, r) :=
  g_Met_of pn_RX9 rfl (Nat.le_of_ble_eq_true rfl) (fun h => by cases h) (GW_sub [0] rfl (T_X9_split_b0 r l0 M h))
