/-! ForgetHeirs.strikeLater(I)I -/
theorem d_X11_strikeLater_0 : decode cX11_strikeLater 0 = .ok (.iconst 0, 1) := by decide +kernel
theorem d_X11_strikeLater_1 : decode cX11_strikeLater 1 = .ok (.istore_n 2, 1) := by decide +kernel
theorem d_X11_strikeLater_2 : decode cX11_strikeLater 2 = .ok (.iload_n 2, 1) := by decide +kernel
theorem d_X11_strikeLater_3 : decode cX11_strikeLater 3 = .ok (.sipush 200, 3) := by decide +kernel
theorem d_X11_strikeLater_6 : decode cX11_strikeLater 6 = .ok (.if_icmp .ge 42, 3) := by decide +kernel
theorem d_X11_strikeLater_9 : decode cX11_strikeLater 9 = .ok (.aload_n 0, 1) := by decide +kernel
theorem d_X11_strikeLater_10 : decode cX11_strikeLater 10 = .ok (.getfield 29, 3) := by decide +kernel
theorem d_X11_strikeLater_13 : decode cX11_strikeLater 13 = .ok (.getfield 172, 3) := by decide +kernel
theorem d_X11_strikeLater_16 : decode cX11_strikeLater 16 = .ok (.iload_n 1, 1) := by decide +kernel
theorem d_X11_strikeLater_17 : decode cX11_strikeLater 17 = .ok (.iaload, 1) := by decide +kernel
theorem d_X11_strikeLater_18 : decode cX11_strikeLater 18 = .ok (.iconst (-1), 1) := by decide +kernel
theorem d_X11_strikeLater_19 : decode cX11_strikeLater 19 = .ok (.if_icmp .ne 29, 3) := by decide +kernel
theorem d_X11_strikeLater_22 : decode cX11_strikeLater 22 = .ok (.aload_n 0, 1) := by decide +kernel
theorem d_X11_strikeLater_23 : decode cX11_strikeLater 23 = .ok (.getfield 18, 3) := by decide +kernel
theorem d_X11_strikeLater_26 : decode cX11_strikeLater 26 = .ok (.aload_n 0, 1) := by decide +kernel
theorem d_X11_strikeLater_27 : decode cX11_strikeLater 27 = .ok (.getfield 59, 3) := by decide +kernel
theorem d_X11_strikeLater_30 : decode cX11_strikeLater 30 = .ok (.aload_n 0, 1) := by decide +kernel
theorem d_X11_strikeLater_31 : decode cX11_strikeLater 31 = .ok (.getfield 29, 3) := by decide +kernel
theorem d_X11_strikeLater_34 : decode cX11_strikeLater 34 = .ok (.aload_n 0, 1) := by decide +kernel
theorem d_X11_strikeLater_35 : decode cX11_strikeLater 35 = .ok (.invokevirtual 211, 3) := by decide +kernel
theorem d_X11_strikeLater_38 : decode cX11_strikeLater 38 = .ok (.invokevirtual 214, 3) := by decide +kernel
theorem d_X11_strikeLater_41 : decode cX11_strikeLater 41 = .ok (.pop, 1) := by decide +kernel
theorem d_X11_strikeLater_42 : decode cX11_strikeLater 42 = .ok (.iinc 2 1, 3) := by decide +kernel
theorem d_X11_strikeLater_45 : decode cX11_strikeLater 45 = .ok (.goto (-43), 3) := by decide +kernel
theorem d_X11_strikeLater_48 : decode cX11_strikeLater 48 = .ok (.aload_n 0, 1) := by decide +kernel
theorem d_X11_strikeLater_49 : decode cX11_strikeLater 49 = .ok (.getfield 29, 3) := by decide +kernel
theorem d_X11_strikeLater_52 : decode cX11_strikeLater 52 = .ok (.getfield 172, 3) := by decide +kernel
theorem d_X11_strikeLater_55 : decode cX11_strikeLater 55 = .ok (.iload_n 1, 1) := by decide +kernel
theorem d_X11_strikeLater_56 : decode cX11_strikeLater 56 = .ok (.iaload, 1) := by decide +kernel
theorem d_X11_strikeLater_57 : decode cX11_strikeLater 57 = .ok (.ireturn, 1) := by decide +kernel
abbrev X_X11_strikeLater : gX := (RX11, cX11_strikeLater, 3, (some .int), false)
def F_X11_strikeLater_b48 (l0 : Option Nat) (l1 : Int32) (M : gM) : Option (Int32 × gM) :=
  (gR 11 M l0 6).bind fun v1 => (gR 8 M v1 3).bind fun v2 => (aI 20 M v2 l1).bind fun v3 => some (v3, M)
theorem T_X11_strikeLater_b48 (r : (Int32 × gM)) (l0 : Option Nat) (l1 : Int32) (M : gM) (h : F_X11_strikeLater_b48 l0 l1 M = some r) : GW 5 0 0 X_X11_strikeLater 48 [(0, vr l0), (1, vi l1)] [] M (some (vi r.1), r.2) := by
  delta F_X11_strikeLater_b48 at h
  refine GW_aload_n (X := X_X11_strikeLater) (pc := 48) d_X11_strikeLater_48 rfl 0 rfl ?_
  replace h := g_bd h
  obtain ⟨v1, hv1, h⟩ := h
  refine GW_getR (X := X_X11_strikeLater) (pc := 49) f_X11_29 d_X11_strikeLater_49 hv1 (Or.inl ⟨_, ty_11_6⟩) ?_
  replace h := g_bd h
  obtain ⟨v2, hv2, h⟩ := h
  refine GW_getR (X := X_X11_strikeLater) (pc := 52) f_X11_172 d_X11_strikeLater_52 hv2 (Or.inr ⟨_, ty_8_3⟩) ?_
  refine GW_iload_n (X := X_X11_strikeLater) (pc := 55) d_X11_strikeLater_55 rfl 1 rfl ?_
  replace h := g_bd h
  obtain ⟨v3, hv3, h⟩ := h
  refine GW_iald (X := X_X11_strikeLater) (pc := 56) d_X11_strikeLater_56 hv3 ?_
  replace h := Option.some.inj h
  subst h
  exact GW_ret (X := X_X11_strikeLater) (pc := 57) d_X11_strikeLater_57 rfl trivial
def F_X11_strikeLater_b2 (k2 : Option Nat → Int32 → Int32 → gM → Option (Int32 × gM)) (l0 : Option Nat) (l1 : Int32) (l2 : Int32) (M : gM) : Option (Int32 × gM) :=
  if (200 : Int32) ≤ l2 then (F_X11_strikeLater_b48 l0 l1 M) else ((gR 11 M l0 6).bind fun v1 => (gR 8 M v1 3).bind fun v2 => (aI 20 M v2 l1).bind fun v3 => if v3 = (-1 : Int32) then ((gR 11 M l0 4).bind fun v4 => (gR 11 M l0 11).bind fun v5 => (gR 11 M l0 6).bind fun v6 => (gO 11 M l0).bind fun i7 => (F_X11_ruleInForce (some i7) M).bind fun v8 => (gO 10 M v4).bind fun i9 => (F_X10_pass (some i9) v5 v6 v8 M).bind fun (v10, M11) => k2 (some i7) l1 (l2 + 1) M11) else (F_X11_strikeLater_b48 l0 l1 M))
set_option maxHeartbeats 1000000 in
theorem T_X11_strikeLater_b2 (k2 : Option Nat → Int32 → Int32 → gM → Option (Int32 × gM)) (r : (Int32 × gM)) (hk2 : ∀ (l0 : Option Nat) (l1 : Int32) (l2 : Int32) (M : gM), k2 l0 l1 l2 M = some r → GW 5 0 0 X_X11_strikeLater 2 [(0, vr l0), (1, vi l1), (2, vi l2)] [] M (some (vi r.1), r.2)) (l0 : Option Nat) (l1 : Int32) (l2 : Int32) (M : gM) (h : F_X11_strikeLater_b2 k2 l0 l1 l2 M = some r) : GW 5 0 0 X_X11_strikeLater 2 [(0, vr l0), (1, vi l1), (2, vi l2)] [] M (some (vi r.1), r.2) := by
  delta F_X11_strikeLater_b2 at h
  refine GW_iload_n (X := X_X11_strikeLater) (pc := 2) d_X11_strikeLater_2 rfl 2 rfl ?_
  refine GW_sipush (X := X_X11_strikeLater) (pc := 3) (v := 200) d_X11_strikeLater_3 (by decide) ?_
  refine GW_icmp_ge (X := X_X11_strikeLater) (pc := 6) 48 d_X11_strikeLater_6 (by decide) (fun c => ?_) (fun c => ?_)
  · replace h := g_ip c h
    refine GW_sub [0, 1] rfl ?_
    exact T_X11_strikeLater_b48 r l0 l1 M h
  · replace h := g_ie c h
    refine GW_aload_n (X := X_X11_strikeLater) (pc := 9) d_X11_strikeLater_9 rfl 0 rfl ?_
    replace h := g_bd h
    obtain ⟨v1, hv1, h⟩ := h
    refine GW_getR (X := X_X11_strikeLater) (pc := 10) f_X11_29 d_X11_strikeLater_10 hv1 (Or.inl ⟨_, ty_11_6⟩) ?_
    replace h := g_bd h
    obtain ⟨v2, hv2, h⟩ := h
    refine GW_getR (X := X_X11_strikeLater) (pc := 13) f_X11_172 d_X11_strikeLater_13 hv2 (Or.inr ⟨_, ty_8_3⟩) ?_
    refine GW_iload_n (X := X_X11_strikeLater) (pc := 16) d_X11_strikeLater_16 rfl 1 rfl ?_
    replace h := g_bd h
    obtain ⟨v3, hv3, h⟩ := h
    refine GW_iald (X := X_X11_strikeLater) (pc := 17) d_X11_strikeLater_17 hv3 ?_
    refine GW_iconst (X := X_X11_strikeLater) (pc := 18) (v := -1) d_X11_strikeLater_18 (by decide) ?_
    refine GW_icmp_ne (X := X_X11_strikeLater) (pc := 19) 48 d_X11_strikeLater_19 (by decide) (fun c => ?_) (fun c => ?_)
    · replace h := g_ie c h
      refine GW_sub [0, 1] rfl ?_
      exact T_X11_strikeLater_b48 r l0 l1 M h
    · replace h := g_ip c h
      refine GW_aload_n (X := X_X11_strikeLater) (pc := 22) d_X11_strikeLater_22 rfl 0 rfl ?_
      replace h := g_bd h
      obtain ⟨v4, hv4, h⟩ := h
      refine GW_getR (X := X_X11_strikeLater) (pc := 23) f_X11_18 d_X11_strikeLater_23 hv4 (Or.inl ⟨_, ty_11_4⟩) ?_
      refine GW_aload_n (X := X_X11_strikeLater) (pc := 26) d_X11_strikeLater_26 rfl 0 rfl ?_
      replace h := g_bd h
      obtain ⟨v5, hv5, h⟩ := h
      refine GW_getR (X := X_X11_strikeLater) (pc := 27) f_X11_59 d_X11_strikeLater_27 hv5 (Or.inl ⟨_, ty_11_11⟩) ?_
      refine GW_aload_n (X := X_X11_strikeLater) (pc := 30) d_X11_strikeLater_30 rfl 0 rfl ?_
      replace h := g_bd h
      obtain ⟨v6, hv6, h⟩ := h
      refine GW_getR (X := X_X11_strikeLater) (pc := 31) f_X11_29 d_X11_strikeLater_31 hv6 (Or.inl ⟨_, ty_11_6⟩) ?_
      refine GW_aload_n (X := X_X11_strikeLater) (pc := 34) d_X11_strikeLater_34 rfl 0 rfl ?_
      replace h := g_bd h
      obtain ⟨i7, hi7, h⟩ := h
      obtain ⟨rfl, ki7⟩ := g_gO hi7
      replace h := g_bd h
      obtain ⟨v8, hv8, h⟩ := h
      refine GW_callV (X := X_X11_strikeLater) (pc := 35) (bc0 := 0) (bs0 := 0) (r := some (vr v8)) (M2 := M) (c0 := 11) (T_X11_ruleInForce (some i7) M v8 hv8) (Nat.le_of_ble_eq_true rfl) (Nat.le_of_ble_eq_true rfl) rfl g_cok11 ki7 yc_X11_ruleInForce ⟨m_831, m_833, m_23, m_116, m_834⟩ d_X11_strikeLater_35 rfl (st := [vr v6, vr v5, vr v4]) rfl (Nat.le_of_ble_eq_true rfl) (Nat.le_of_ble_eq_true rfl) (Nat.le_of_ble_eq_true rfl) (st2 := [vr v8, vr v6, vr v5, vr v4]) rfl ?_
      replace h := g_bd h
      obtain ⟨i9, hi9, h⟩ := h
      obtain ⟨rfl, ki9⟩ := g_gO hi9
      replace h := g_bd h
      obtain ⟨⟨v10, M11⟩, hv10, h⟩ := h
      dsimp only at h
      refine GW_callV (X := X_X11_strikeLater) (pc := 38) (bc0 := 0) (bs0 := 0) (r := some (vi v10)) (M2 := M11) (c0 := 10) (T_X10_pass (some i9) v5 v6 v8 M (v10, M11) hv10) (Nat.le_of_ble_eq_true rfl) (Nat.le_of_ble_eq_true rfl) rfl g_cok10 ki9 yc_X10_pass ⟨m_835, m_836, m_837, m_117, m_838⟩ d_X11_strikeLater_38 rfl (st := []) rfl (Nat.le_of_ble_eq_true rfl) (Nat.le_of_ble_eq_true rfl) (Nat.le_of_ble_eq_true rfl) (st2 := [vi v10]) rfl ?_
      refine GW_pop (X := X_X11_strikeLater) (pc := 41) d_X11_strikeLater_41 rfl ?_
      refine GW_iinc (j := 2) (X := X_X11_strikeLater) (pc := 42) d_X11_strikeLater_42 rfl (congrArg (fun z => _ + z) (by decide : Int32.ofInt 1 = (1 : Int32))) (Nat.le_of_ble_eq_true rfl) (lv2 := [(2, vi (l2 + 1)), (0, vr (some i7)), (1, vi l1)]) rfl ?_
      refine GW_goto (X := X_X11_strikeLater) (pc := 45) 2 d_X11_strikeLater_45 (by decide) ?_
      refine GW_sub [1, 2, 0] rfl ?_
      exact hk2 (some i7) l1 (l2 + 1) M11 h
def F_X11_strikeLater_L2 : Nat → Option Nat → Int32 → Int32 → gM → Option (Int32 × gM)
  | 0 => fun _ _ _ _ => none
  | n + 1 => F_X11_strikeLater_b2 (F_X11_strikeLater_L2 n)
theorem T_X11_strikeLater_L2 (r : (Int32 × gM)) : ∀ (n : Nat) (l0 : Option Nat) (l1 : Int32) (l2 : Int32) (M : gM), F_X11_strikeLater_L2 n l0 l1 l2 M = some r → GW 5 0 0 X_X11_strikeLater 2 [(0, vr l0), (1, vi l1), (2, vi l2)] [] M (some (vi r.1), r.2) := by
  intro n
  induction n with
  | zero => intro l0 l1 l2 M h; exact g_no h
  | succ n ih => intro l0 l1 l2 M h; exact T_X11_strikeLater_b2 (F_X11_strikeLater_L2 n) r ih l0 l1 l2 M h
def F_X11_strikeLater_b0 (l0 : Option Nat) (l1 : Int32) (M : gM) : Option (Int32 × gM) :=
  F_X11_strikeLater_L2 g_fuel l0 l1 (0 : Int32) M
theorem T_X11_strikeLater_b0 (r : (Int32 × gM)) (l0 : Option Nat) (l1 : Int32) (M : gM) (h : F_X11_strikeLater_b0 l0 l1 M = some r) : GW 5 0 0 X_X11_strikeLater 0 [(0, vr l0), (1, vi l1)] [] M (some (vi r.1), r.2) := by
  delta F_X11_strikeLater_b0 at h
  refine GW_iconst (X := X_X11_strikeLater) (pc := 0) (v := 0) d_X11_strikeLater_0 (by decide) ?_
  refine GW_istore_n (X := X_X11_strikeLater) (pc := 1) d_X11_strikeLater_1 rfl (Nat.le_of_ble_eq_true rfl) (lv2 := [(2, vi (0 : Int32)), (0, vr l0), (1, vi l1)]) rfl ?_
  refine GW_sub [1, 2, 0] rfl ?_
  exact T_X11_strikeLater_L2 r g_fuel l0 l1 (0 : Int32) M h
def F_X11_strikeLater (l0 : Option Nat) (l1 : Int32) (M : gM) : Option (Int32 × gM) := F_X11_strikeLater_b0 l0 l1 M
theorem T_X11_strikeLater (l0 : Option Nat) (l1 : Int32) (M : gM) (r : (Int32 × gM)) (h : F_X11_strikeLater l0 l1 M = some r) : g_Met 5 0 0 yX11_strikeLater X_X11_strikeLater [vr l0, vi l1] M (some (vi r.1), r.2) :=
  g_Met_of pn_RX11 rfl (Nat.le_of_ble_eq_true rfl) (fun h => by cases h) (GW_sub [0, 1] rfl (T_X11_strikeLater_b0 r l0 l1 M h))
/-! ForgetHeirs.strike(I)I -/
theorem d_X11_strike_0 : decode cX11_strike 0 = .ok (.aload_n 0, 1) := by decide +kernel
theorem d_X11_strike_1 : decode cX11_strike 1 = .ok (.iload_n 1, 1) := by decide +kernel
theorem d_X11_strike_2 : decode cX11_strike 2 = .ok (.invokevirtual 154, 3) := by decide +kernel
theorem d_X11_strike_5 : decode cX11_strike 5 = .ok (.ifCond .ne 5, 3) := by decide +kernel
theorem d_X11_strike_8 : decode cX11_strike 8 = .ok (.iconst (-1), 1) := by decide +kernel
theorem d_X11_strike_9 : decode cX11_strike 9 = .ok (.ireturn, 1) := by decide +kernel
theorem d_X11_strike_10 : decode cX11_strike 10 = .ok (.aload_n 0, 1) := by decide +kernel
theorem d_X11_strike_11 : decode cX11_strike 11 = .ok (.getfield 29, 3) := by decide +kernel
theorem d_X11_strike_14 : decode cX11_strike 14 = .ok (.aload_n 0, 1) := by decide +kernel
theorem d_X11_strike_15 : decode cX11_strike 15 = .ok (.getfield 25, 3) := by decide +kernel
theorem d_X11_strike_18 : decode cX11_strike 18 = .ok (.invokevirtual 114, 3) := by decide +kernel
theorem d_X11_strike_21 : decode cX11_strike 21 = .ok (.aload_n 0, 1) := by decide +kernel
theorem d_X11_strike_22 : decode cX11_strike 22 = .ok (.iload_n 1, 1) := by decide +kernel
theorem d_X11_strike_23 : decode cX11_strike 23 = .ok (.invokevirtual 245, 3) := by decide +kernel
theorem d_X11_strike_26 : decode cX11_strike 26 = .ok (.istore_n 2, 1) := by decide +kernel
theorem d_X11_strike_27 : decode cX11_strike 27 = .ok (.iload_n 2, 1) := by decide +kernel
theorem d_X11_strike_28 : decode cX11_strike 28 = .ok (.iconst (-1), 1) := by decide +kernel
theorem d_X11_strike_29 : decode cX11_strike 29 = .ok (.if_icmp .ne 8, 3) := by decide +kernel
theorem d_X11_strike_32 : decode cX11_strike 32 = .ok (.bipush (-2), 2) := by decide +kernel
theorem d_X11_strike_34 : decode cX11_strike 34 = .ok (.goto 4, 3) := by decide +kernel
theorem d_X11_strike_37 : decode cX11_strike 37 = .ok (.iload_n 2, 1) := by decide +kernel
theorem d_X11_strike_38 : decode cX11_strike 38 = .ok (.ireturn, 1) := by decide +kernel
abbrev X_X11_strike : gX := (RX11, cX11_strike, 3, (some .int), false)
def F_X11_strike_b0 (l0 : Option Nat) (l1 : Int32) (M : gM) : Option (Int32 × gM) :=
  (gO 11 M l0).bind fun i1 => (F_X11_isThing (some i1) l1 M).bind fun v2 => if v2 = 0 then (some ((-1 : Int32), M)) else ((gR 11 M (some i1) 6).bind fun v3 => (gR 11 M (some i1) 5).bind fun v4 => (gO 8 M v3).bind fun i5 => (F_X8_copy (some i5) v4 M).bind fun M6 => (gC 11 M6 i1).bind fun _ => (F_X11_strikeLater (some i1) l1 M6).bind fun (v8, M9) => if v8 = (-1 : Int32) then (some ((-2 : Int32), M9)) else (some (v8, M9)))
set_option maxHeartbeats 1000000 in
theorem T_X11_strike_b0 (r : (Int32 × gM)) (l0 : Option Nat) (l1 : Int32) (M : gM) (h : F_X11_strike_b0 l0 l1 M = some r) : GW 6 0 0 X_X11_strike 0 [(0, vr l0), (1, vi l1)] [] M (some (vi r.1), r.2) := by
  delta F_X11_strike_b0 at h
  refine GW_aload_n (X := X_X11_strike) (pc := 0) d_X11_strike_0 rfl 0 rfl ?_
  refine GW_iload_n (X := X_X11_strike) (pc := 1) d_X11_strike_1 rfl 1 rfl ?_
  replace h := g_bd h
  obtain ⟨i1, hi1, h⟩ := h
  obtain ⟨rfl, ki1⟩ := g_gO hi1
  replace h := g_bd h
  obtain ⟨v2, hv2, h⟩ := h
  refine GW_callV (X := X_X11_strike) (pc := 2) (bc0 := 0) (bs0 := 0) (r := some (vi v2)) (M2 := M) (c0 := 11) (T_X11_isThing (some i1) l1 M v2 hv2) (Nat.le_of_ble_eq_true rfl) (Nat.le_of_ble_eq_true rfl) rfl g_cok11 ki1 yc_X11_isThing ⟨m_794, m_796, m_22, m_116, m_797⟩ d_X11_strike_2 rfl (st := []) rfl (Nat.le_of_ble_eq_true rfl) (Nat.le_of_ble_eq_true rfl) (Nat.le_of_ble_eq_true rfl) (st2 := [vi v2]) rfl ?_
  refine GW_if_ne (X := X_X11_strike) (pc := 5) 10 d_X11_strike_5 (by decide) (fun c => ?_) (fun c => ?_)
  · replace h := g_ie c h
    refine GW_aload_n (X := X_X11_strike) (pc := 10) d_X11_strike_10 rfl 0 rfl ?_
    replace h := g_bd h
    obtain ⟨v3, hv3, h⟩ := h
    refine GW_getR (X := X_X11_strike) (pc := 11) f_X11_29 d_X11_strike_11 hv3 (Or.inl ⟨_, ty_11_6⟩) ?_
    refine GW_aload_n (X := X_X11_strike) (pc := 14) d_X11_strike_14 rfl 0 rfl ?_
    replace h := g_bd h
    obtain ⟨v4, hv4, h⟩ := h
    refine GW_getR (X := X_X11_strike) (pc := 15) f_X11_25 d_X11_strike_15 hv4 (Or.inl ⟨_, ty_11_5⟩) ?_
    replace h := g_bd h
    obtain ⟨i5, hi5, h⟩ := h
    obtain ⟨rfl, ki5⟩ := g_gO hi5
    replace h := g_bd h
    obtain ⟨M6, hM6, h⟩ := h
    refine GW_callV (X := X_X11_strike) (pc := 18) (bc0 := 0) (bs0 := 0) (r := none) (M2 := M6) (c0 := 8) (T_X8_copy (some i5) v4 M M6 hM6) (Nat.le_of_ble_eq_true rfl) (Nat.le_of_ble_eq_true rfl) rfl g_cok8 ki5 yc_X8_copy ⟨m_664, m_665, m_666, m_119, m_667⟩ d_X11_strike_18 rfl (st := []) rfl (Nat.le_of_ble_eq_true rfl) (Nat.le_of_ble_eq_true rfl) (Nat.le_of_ble_eq_true rfl) (st2 := []) rfl ?_
    refine GW_aload_n (X := X_X11_strike) (pc := 21) d_X11_strike_21 rfl 0 rfl ?_
    refine GW_iload_n (X := X_X11_strike) (pc := 22) d_X11_strike_22 rfl 1 rfl ?_
    replace h := g_bd h
    obtain ⟨_, kk7, h⟩ := h
    replace kk7 := g_gC kk7
    replace h := g_bd h
    obtain ⟨⟨v8, M9⟩, hv8, h⟩ := h
    dsimp only at h
    refine GW_callV (X := X_X11_strike) (pc := 23) (bc0 := 0) (bs0 := 0) (r := some (vi v8)) (M2 := M9) (c0 := 11) (T_X11_strikeLater (some i1) l1 M6 (v8, M9) hv8) (Nat.le_of_ble_eq_true rfl) (Nat.le_of_ble_eq_true rfl) rfl g_cok11 kk7 yc_X11_strikeLater ⟨m_964, m_966, m_33, m_116, m_967⟩ d_X11_strike_23 rfl (st := []) rfl (Nat.le_of_ble_eq_true rfl) (Nat.le_of_ble_eq_true rfl) (Nat.le_of_ble_eq_true rfl) (st2 := [vi v8]) rfl ?_
    refine GW_istore_n (X := X_X11_strike) (pc := 26) d_X11_strike_26 rfl (Nat.le_of_ble_eq_true rfl) (lv2 := [(2, vi v8), (0, vr (some i1)), (1, vi l1)]) rfl ?_
    refine GW_iload_n (X := X_X11_strike) (pc := 27) d_X11_strike_27 rfl 0 rfl ?_
    refine GW_iconst (X := X_X11_strike) (pc := 28) (v := -1) d_X11_strike_28 (by decide) ?_
    refine GW_icmp_ne (X := X_X11_strike) (pc := 29) 37 d_X11_strike_29 (by decide) (fun c => ?_) (fun c => ?_)
    · replace h := g_ie c h
      refine GW_iload_n (X := X_X11_strike) (pc := 37) d_X11_strike_37 rfl 0 rfl ?_
      replace h := Option.some.inj h
      subst h
      exact GW_ret (X := X_X11_strike) (pc := 38) d_X11_strike_38 rfl trivial
    · replace h := g_ip c h
      refine GW_bipush (X := X_X11_strike) (pc := 32) (v := -2) d_X11_strike_32 (by decide) ?_
      refine GW_goto (X := X_X11_strike) (pc := 34) 38 d_X11_strike_34 (by decide) ?_
      replace h := Option.some.inj h
      subst h
      exact GW_ret (X := X_X11_strike) (pc := 38) d_X11_strike_38 rfl trivial
  · replace h := g_ip c h
    refine GW_iconst (X := X_X11_strike) (pc := 8) (v := -1) d_X11_strike_8 (by decide) ?_
    replace h := Option.some.inj h
    subst h
    exact GW_ret (X := X_X11_strike) (pc := 9) d_X11_strike_9 rfl trivial
def F_X11_strike (l0 : Option Nat) (l1 : Int32) (M : gM) : Option (Int32 × gM) := F_X11_strike_b0 l0 l1 M
theorem T_X11_strike (l0 : Option Nat) (l1 : Int32) (M : gM) (r : (Int32 × gM)) (h : F_X11_strike l0 l1 M = some r) : g_Met 6 0 0 yX11_strike X_X11_strike [vr l0, vi l1] M (some (vi r.1), r.2) :=
  g_Met_of pn_RX11 rfl (Nat.le_of_ble_eq_true rfl) (fun h => by cases h) (GW_sub [0, 1] rfl (T_X11_strike_b0 r l0 l1 M h))
/-! ForgetHeirsModel.strikeOf(I)I -/
theorem d_X12_strikeOf_0 : decode cX12_strikeOf 0 = .ok (.iconst 0, 1) := by decide +kernel
theorem d_X12_strikeOf_1 : decode cX12_strikeOf 1 = .ok (.istore_n 2, 1) := by decide +kernel
theorem d_X12_strikeOf_2 : decode cX12_strikeOf 2 = .ok (.iload_n 2, 1) := by decide +kernel
theorem d_X12_strikeOf_3 : decode cX12_strikeOf 3 = .ok (.sipush 200, 3) := by decide +kernel
theorem d_X12_strikeOf_6 : decode cX12_strikeOf 6 = .ok (.if_icmp .ge 23, 3) := by decide +kernel
theorem d_X12_strikeOf_9 : decode cX12_strikeOf 9 = .ok (.aload_n 0, 1) := by decide +kernel
theorem d_X12_strikeOf_10 : decode cX12_strikeOf 10 = .ok (.iload_n 1, 1) := by decide +kernel
theorem d_X12_strikeOf_11 : decode cX12_strikeOf 11 = .ok (.iconst 3, 1) := by decide +kernel
theorem d_X12_strikeOf_12 : decode cX12_strikeOf 12 = .ok (.invokevirtual 301, 3) := by decide +kernel
theorem d_X12_strikeOf_15 : decode cX12_strikeOf 15 = .ok (.ifCond .ge 14, 3) := by decide +kernel
theorem d_X12_strikeOf_18 : decode cX12_strikeOf 18 = .ok (.aload_n 0, 1) := by decide +kernel
theorem d_X12_strikeOf_19 : decode cX12_strikeOf 19 = .ok (.invokevirtual 368, 3) := by decide +kernel
theorem d_X12_strikeOf_22 : decode cX12_strikeOf 22 = .ok (.pop, 1) := by decide +kernel
theorem d_X12_strikeOf_23 : decode cX12_strikeOf 23 = .ok (.iinc 2 1, 3) := by decide +kernel
theorem d_X12_strikeOf_26 : decode cX12_strikeOf 26 = .ok (.goto (-24), 3) := by decide +kernel
theorem d_X12_strikeOf_29 : decode cX12_strikeOf 29 = .ok (.aload_n 0, 1) := by decide +kernel
theorem d_X12_strikeOf_30 : decode cX12_strikeOf 30 = .ok (.iload_n 1, 1) := by decide +kernel
theorem d_X12_strikeOf_31 : decode cX12_strikeOf 31 = .ok (.iconst 3, 1) := by decide +kernel
theorem d_X12_strikeOf_32 : decode cX12_strikeOf 32 = .ok (.invokevirtual 301, 3) := by decide +kernel
theorem d_X12_strikeOf_35 : decode cX12_strikeOf 35 = .ok (.istore_n 2, 1) := by decide +kernel
theorem d_X12_strikeOf_36 : decode cX12_strikeOf 36 = .ok (.aload_n 0, 1) := by decide +kernel
theorem d_X12_strikeOf_37 : decode cX12_strikeOf 37 = .ok (.invokevirtual 386, 3) := by decide +kernel
theorem d_X12_strikeOf_40 : decode cX12_strikeOf 40 = .ok (.iload_n 2, 1) := by decide +kernel
theorem d_X12_strikeOf_41 : decode cX12_strikeOf 41 = .ok (.ireturn, 1) := by decide +kernel
abbrev X_X12_strikeOf : gX := (RX12, cX12_strikeOf, 3, (some .int), false)
def F_X12_strikeOf_b29 (l0 : Option Nat) (l1 : Int32) (M : gM) : Option (Int32 × gM) :=
  (gO 12 M l0).bind fun i1 => (F_X12_thingOf (some i1) l1 (3 : Int32) M).bind fun v2 => (F_X12_laysBack (some i1) M).bind fun M3 => some (v2, M3)
theorem T_X12_strikeOf_b29 (r : (Int32 × gM)) (l0 : Option Nat) (l1 : Int32) (M : gM) (h : F_X12_strikeOf_b29 l0 l1 M = some r) : GW 5 0 0 X_X12_strikeOf 29 [(0, vr l0), (1, vi l1)] [] M (some (vi r.1), r.2) := by
  delta F_X12_strikeOf_b29 at h
  refine GW_aload_n (X := X_X12_strikeOf) (pc := 29) d_X12_strikeOf_29 rfl 0 rfl ?_
  refine GW_iload_n (X := X_X12_strikeOf) (pc := 30) d_X12_strikeOf_30 rfl 1 rfl ?_
  refine GW_iconst (X := X_X12_strikeOf) (pc := 31) (v := 3) d_X12_strikeOf_31 (by decide) ?_
  replace h := g_bd h
  obtain ⟨i1, hi1, h⟩ := h
  obtain ⟨rfl, ki1⟩ := g_gO hi1
  replace h := g_bd h
  obtain ⟨v2, hv2, h⟩ := h
  refine GW_callV (X := X_X12_strikeOf) (pc := 32) (bc0 := 0) (bs0 := 0) (r := some (vi v2)) (M2 := M) (c0 := 12) (T_X12_thingOf (some i1) l1 (3 : Int32) M v2 hv2) (Nat.le_of_ble_eq_true rfl) (Nat.le_of_ble_eq_true rfl) rfl g_cok12 ki1 yc_X12_thingOf ⟨m_1428, m_1430, m_79, m_127, m_1431⟩ d_X12_strikeOf_32 rfl (st := []) rfl (Nat.le_of_ble_eq_true rfl) (Nat.le_of_ble_eq_true rfl) (Nat.le_of_ble_eq_true rfl) (st2 := [vi v2]) rfl ?_
  refine GW_istore_n (X := X_X12_strikeOf) (pc := 35) d_X12_strikeOf_35 rfl (Nat.le_of_ble_eq_true rfl) (lv2 := [(2, vi v2), (0, vr (some i1)), (1, vi l1)]) rfl ?_
  refine GW_aload_n (X := X_X12_strikeOf) (pc := 36) d_X12_strikeOf_36 rfl 1 rfl ?_
  replace h := g_bd h
  obtain ⟨M3, hM3, h⟩ := h
  refine GW_callV (X := X_X12_strikeOf) (pc := 37) (bc0 := 0) (bs0 := 0) (r := none) (M2 := M3) (c0 := 12) (T_X12_laysBack (some i1) M M3 hM3) (Nat.le_of_ble_eq_true rfl) (Nat.le_of_ble_eq_true rfl) rfl g_cok12 ki1 yc_X12_laysBack ⟨m_1558, m_1560, m_101, m_127, m_1561⟩ d_X12_strikeOf_37 rfl (st := []) rfl (Nat.le_of_ble_eq_true rfl) (Nat.le_of_ble_eq_true rfl) (Nat.le_of_ble_eq_true rfl) (st2 := []) rfl ?_
  refine GW_iload_n (X := X_X12_strikeOf) (pc := 40) d_X12_strikeOf_40 rfl 0 rfl ?_
  replace h := Option.some.inj h
  subst h
  exact GW_ret (X := X_X12_strikeOf) (pc := 41) d_X12_strikeOf_41 rfl trivial
def F_X12_strikeOf_b2 (k2 : Option Nat → Int32 → Int32 → gM → Option (Int32 × gM)) (l0 : Option Nat) (l1 : Int32) (l2 : Int32) (M : gM) : Option (Int32 × gM) :=
  if (200 : Int32) ≤ l2 then (F_X12_strikeOf_b29 l0 l1 M) else ((gO 12 M l0).bind fun i1 => (F_X12_thingOf (some i1) l1 (3 : Int32) M).bind fun v2 => if 0 ≤ v2 then (F_X12_strikeOf_b29 (some i1) l1 M) else ((F_X12_passes (some i1) M).bind fun (v3, M4) => k2 (some i1) l1 (l2 + 1) M4))
theorem T_X12_strikeOf_b2 (k2 : Option Nat → Int32 → Int32 → gM → Option (Int32 × gM)) (r : (Int32 × gM)) (hk2 : ∀ (l0 : Option Nat) (l1 : Int32) (l2 : Int32) (M : gM), k2 l0 l1 l2 M = some r → GW 5 0 0 X_X12_strikeOf 2 [(0, vr l0), (1, vi l1), (2, vi l2)] [] M (some (vi r.1), r.2)) (l0 : Option Nat) (l1 : Int32) (l2 : Int32) (M : gM) (h : F_X12_strikeOf_b2 k2 l0 l1 l2 M = some r) : GW 5 0 0 X_X12_strikeOf 2 [(0, vr l0), (1, vi l1), (2, vi l2)] [] M (some (vi r.1), r.2) := by
  delta F_X12_strikeOf_b2 at h
  refine GW_iload_n (X := X_X12_strikeOf) (pc := 2) d_X12_strikeOf_2 rfl 2 rfl ?_
  refine GW_sipush (X := X_X12_strikeOf) (pc := 3) (v := 200) d_X12_strikeOf_3 (by decide) ?_
  refine GW_icmp_ge (X := X_X12_strikeOf) (pc := 6) 29 d_X12_strikeOf_6 (by decide) (fun c => ?_) (fun c => ?_)
  · replace h := g_ip c h
    refine GW_sub [0, 1] rfl ?_
    exact T_X12_strikeOf_b29 r l0 l1 M h
  · replace h := g_ie c h
    refine GW_aload_n (X := X_X12_strikeOf) (pc := 9) d_X12_strikeOf_9 rfl 0 rfl ?_
    refine GW_iload_n (X := X_X12_strikeOf) (pc := 10) d_X12_strikeOf_10 rfl 1 rfl ?_
    refine GW_iconst (X := X_X12_strikeOf) (pc := 11) (v := 3) d_X12_strikeOf_11 (by decide) ?_
    replace h := g_bd h
    obtain ⟨i1, hi1, h⟩ := h
    obtain ⟨rfl, ki1⟩ := g_gO hi1
    replace h := g_bd h
    obtain ⟨v2, hv2, h⟩ := h
    refine GW_callV (X := X_X12_strikeOf) (pc := 12) (bc0 := 0) (bs0 := 0) (r := some (vi v2)) (M2 := M) (c0 := 12) (T_X12_thingOf (some i1) l1 (3 : Int32) M v2 hv2) (Nat.le_of_ble_eq_true rfl) (Nat.le_of_ble_eq_true rfl) rfl g_cok12 ki1 yc_X12_thingOf ⟨m_1428, m_1430, m_79, m_127, m_1431⟩ d_X12_strikeOf_12 rfl (st := []) rfl (Nat.le_of_ble_eq_true rfl) (Nat.le_of_ble_eq_true rfl) (Nat.le_of_ble_eq_true rfl) (st2 := [vi v2]) rfl ?_
    refine GW_if_ge (X := X_X12_strikeOf) (pc := 15) 29 d_X12_strikeOf_15 (by decide) (fun c => ?_) (fun c => ?_)
    · replace h := g_ip c h
      refine GW_sub [0, 1] rfl ?_
      exact T_X12_strikeOf_b29 r (some i1) l1 M h
    · replace h := g_ie c h
      refine GW_aload_n (X := X_X12_strikeOf) (pc := 18) d_X12_strikeOf_18 rfl 0 rfl ?_
      replace h := g_bd h
      obtain ⟨⟨v3, M4⟩, hv3, h⟩ := h
      dsimp only at h
      refine GW_callV (X := X_X12_strikeOf) (pc := 19) (bc0 := 0) (bs0 := 0) (r := some (vi v3)) (M2 := M4) (c0 := 12) (T_X12_passes (some i1) M (v3, M4) hv3) (Nat.le_of_ble_eq_true rfl) (Nat.le_of_ble_eq_true rfl) rfl g_cok12 ki1 yc_X12_passes ⟨m_1477, m_1479, m_87, m_127, m_1480⟩ d_X12_strikeOf_19 rfl (st := []) rfl (Nat.le_of_ble_eq_true rfl) (Nat.le_of_ble_eq_true rfl) (Nat.le_of_ble_eq_true rfl) (st2 := [vi v3]) rfl ?_
      refine GW_pop (X := X_X12_strikeOf) (pc := 22) d_X12_strikeOf_22 rfl ?_
      refine GW_iinc (j := 2) (X := X_X12_strikeOf) (pc := 23) d_X12_strikeOf_23 rfl (congrArg (fun z => _ + z) (by decide : Int32.ofInt 1 = (1 : Int32))) (Nat.le_of_ble_eq_true rfl) (lv2 := [(2, vi (l2 + 1)), (0, vr (some i1)), (1, vi l1)]) rfl ?_
      refine GW_goto (X := X_X12_strikeOf) (pc := 26) 2 d_X12_strikeOf_26 (by decide) ?_
      refine GW_sub [1, 2, 0] rfl ?_
      exact hk2 (some i1) l1 (l2 + 1) M4 h
def F_X12_strikeOf_L2 : Nat → Option Nat → Int32 → Int32 → gM → Option (Int32 × gM)
  | 0 => fun _ _ _ _ => none
  | n + 1 => F_X12_strikeOf_b2 (F_X12_strikeOf_L2 n)
theorem T_X12_strikeOf_L2 (r : (Int32 × gM)) : ∀ (n : Nat) (l0 : Option Nat) (l1 : Int32) (l2 : Int32) (M : gM), F_X12_strikeOf_L2 n l0 l1 l2 M = some r → GW 5 0 0 X_X12_strikeOf 2 [(0, vr l0), (1, vi l1), (2, vi l2)] [] M (some (vi r.1), r.2) := by
  intro n
  induction n with
  | zero => intro l0 l1 l2 M h; exact g_no h
  | succ n ih => intro l0 l1 l2 M h; exact T_X12_strikeOf_b2 (F_X12_strikeOf_L2 n) r ih l0 l1 l2 M h
def F_X12_strikeOf_b0 (l0 : Option Nat) (l1 : Int32) (M : gM) : Option (Int32 × gM) :=
  F_X12_strikeOf_L2 g_fuel l0 l1 (0 : Int32) M
theorem T_X12_strikeOf_b0 (r : (Int32 × gM)) (l0 : Option Nat) (l1 : Int32) (M : gM) (h : F_X12_strikeOf_b0 l0 l1 M = some r) : GW 5 0 0 X_X12_strikeOf 0 [(0, vr l0), (1, vi l1)] [] M (some (vi r.1), r.2) := by
  delta F_X12_strikeOf_b0 at h
  refine GW_iconst (X := X_X12_strikeOf) (pc := 0) (v := 0) d_X12_strikeOf_0 (by decide) ?_
  refine GW_istore_n (X := X_X12_strikeOf) (pc := 1) d_X12_strikeOf_1 rfl (Nat.le_of_ble_eq_true rfl) (lv2 := [(2, vi (0 : Int32)), (0, vr l0), (1, vi l1)]) rfl ?_
  refine GW_sub [1, 2, 0] rfl ?_
  exact T_X12_strikeOf_L2 r g_fuel l0 l1 (0 : Int32) M h
def F_X12_strikeOf (l0 : Option Nat) (l1 : Int32) (M : gM) : Option (Int32 × gM) := F_X12_strikeOf_b0 l0 l1 M
theorem T_X12_strikeOf (l0 : Option Nat) (l1 : Int32) (M : gM) (r : (Int32 × gM)) (h : F_X12_strikeOf l0 l1 M = some r) : g_Met 5 0 0 yX12_strikeOf X_X12_strikeOf [vr l0, vi l1] M (some (vi r.1), r.2) :=
  g_Met_of pn_RX12 rfl (Nat.le_of_ble_eq_true rfl) (fun h => by cases h) (GW_sub [0, 1] rfl (T_X12_strikeOf_b0 r l0 l1 M h))
/-! ForgetHeirsModel.strike(I)I -/
theorem d_X12_strike_0 : decode cX12_strike 0 = .ok (.aload_n 0, 1) := by decide +kernel
theorem d_X12_strike_1 : decode cX12_strike 1 = .ok (.iload_n 1, 1) := by decide +kernel
theorem d_X12_strike_2 : decode cX12_strike 2 = .ok (.invokevirtual 327, 3) := by decide +kernel
theorem d_X12_strike_5 : decode cX12_strike 5 = .ok (.ifCond .ne 5, 3) := by decide +kernel
theorem d_X12_strike_8 : decode cX12_strike 8 = .ok (.iconst (-1), 1) := by decide +kernel
theorem d_X12_strike_9 : decode cX12_strike 9 = .ok (.ireturn, 1) := by decide +kernel
theorem d_X12_strike_10 : decode cX12_strike 10 = .ok (.aload_n 0, 1) := by decide +kernel
theorem d_X12_strike_11 : decode cX12_strike 11 = .ok (.invokevirtual 383, 3) := by decide +kernel
theorem d_X12_strike_14 : decode cX12_strike 14 = .ok (.aload_n 0, 1) := by decide +kernel
theorem d_X12_strike_15 : decode cX12_strike 15 = .ok (.iload_n 1, 1) := by decide +kernel
theorem d_X12_strike_16 : decode cX12_strike 16 = .ok (.invokevirtual 389, 3) := by decide +kernel
theorem d_X12_strike_19 : decode cX12_strike 19 = .ok (.istore_n 2, 1) := by decide +kernel
theorem d_X12_strike_20 : decode cX12_strike 20 = .ok (.iload_n 2, 1) := by decide +kernel
theorem d_X12_strike_21 : decode cX12_strike 21 = .ok (.ifCond .ge 8, 3) := by decide +kernel
theorem d_X12_strike_24 : decode cX12_strike 24 = .ok (.bipush (-2), 2) := by decide +kernel
theorem d_X12_strike_26 : decode cX12_strike 26 = .ok (.goto 4, 3) := by decide +kernel
theorem d_X12_strike_29 : decode cX12_strike 29 = .ok (.iload_n 2, 1) := by decide +kernel
theorem d_X12_strike_30 : decode cX12_strike 30 = .ok (.ireturn, 1) := by decide +kernel
abbrev X_X12_strike : gX := (RX12, cX12_strike, 3, (some .int), false)
def F_X12_strike_b0 (l0 : Option Nat) (l1 : Int32) (M : gM) : Option (Int32 × gM) :=
  (gO 12 M l0).bind fun i1 => (F_X12_isThing (some i1) l1 M).bind fun v2 => if v2 = 0 then (some ((-1 : Int32), M)) else ((F_X12_keeps (some i1) M).bind fun M3 => (gC 12 M3 i1).bind fun _ => (F_X12_strikeOf (some i1) l1 M3).bind fun (v5, M6) => if 0 ≤ v5 then (some (v5, M6)) else (some ((-2 : Int32), M6)))
set_option maxHeartbeats 1000000 in
theorem T_X12_strike_b0 (r : (Int32 × gM)) (l0 : Option Nat) (l1 : Int32) (M : gM) (h : F_X12_strike_b0 l0 l1 M = some r) : GW 6 0 0 X_X12_strike 0 [(0, vr l0), (1, vi l1)] [] M (some (vi r.1), r.2) := by
  delta F_X12_strike_b0 at h
  refine GW_aload_n (X := X_X12_strike) (pc := 0) d_X12_strike_0 rfl 0 rfl ?_
  refine GW_iload_n (X := X_X12_strike) (pc := 1) d_X12_strike_1 rfl 1 rfl ?_
  replace h := g_bd h
  obtain ⟨i1, hi1, h⟩ := h
  obtain ⟨rfl, ki1⟩ := g_gO hi1
  replace h := g_bd h
  obtain ⟨v2, hv2, h⟩ := h
  refine GW_callV (X := X_X12_strike) (pc := 2) (bc0 := 0) (bs0 := 0) (r := some (vi v2)) (M2 := M) (c0 := 12) (T_X12_isThing (some i1) l1 M v2 hv2) (Nat.le_of_ble_eq_true rfl) (Nat.le_of_ble_eq_true rfl) rfl g_cok12 ki1 yc_X12_isThing ⟨m_1448, m_1450, m_83, m_127, m_1451⟩ d_X12_strike_2 rfl (st := []) rfl (Nat.le_of_ble_eq_true rfl) (Nat.le_of_ble_eq_true rfl) (Nat.le_of_ble_eq_true rfl) (st2 := [vi v2]) rfl ?_
  refine GW_if_ne (X := X_X12_strike) (pc := 5) 10 d_X12_strike_5 (by decide) (fun c => ?_) (fun c => ?_)
  · replace h := g_ie c h
    refine GW_aload_n (X := X_X12_strike) (pc := 10) d_X12_strike_10 rfl 0 rfl ?_
    replace h := g_bd h
    obtain ⟨M3, hM3, h⟩ := h
    refine GW_callV (X := X_X12_strike) (pc := 11) (bc0 := 0) (bs0 := 0) (r := none) (M2 := M3) (c0 := 12) (T_X12_keeps (some i1) M M3 hM3) (Nat.le_of_ble_eq_true rfl) (Nat.le_of_ble_eq_true rfl) rfl g_cok12 ki1 yc_X12_keeps ⟨m_1554, m_1556, m_100, m_127, m_1557⟩ d_X12_strike_11 rfl (st := []) rfl (Nat.le_of_ble_eq_true rfl) (Nat.le_of_ble_eq_true rfl) (Nat.le_of_ble_eq_true rfl) (st2 := []) rfl ?_
    refine GW_aload_n (X := X_X12_strike) (pc := 14) d_X12_strike_14 rfl 0 rfl ?_
    refine GW_iload_n (X := X_X12_strike) (pc := 15) d_X12_strike_15 rfl 1 rfl ?_
    replace h := g_bd h
    obtain ⟨_, kk4, h⟩ := h
    replace kk4 := g_gC kk4
    replace h := g_bd h
    obtain ⟨⟨v5, M6⟩, hv5, h⟩ := h
    dsimp only at h
    refine GW_callV (X := X_X12_strike) (pc := 16) (bc0 := 0) (bs0 := 0) (r := some (vi v5)) (M2 := M6) (c0 := 12) (T_X12_strikeOf (some i1) l1 M3 (v5, M6) hv5) (Nat.le_of_ble_eq_true rfl) (Nat.le_of_ble_eq_true rfl) rfl g_cok12 kk4 yc_X12_strikeOf ⟨m_1566, m_1568, m_102, m_127, m_1569⟩ d_X12_strike_16 rfl (st := []) rfl (Nat.le_of_ble_eq_true rfl) (Nat.le_of_ble_eq_true rfl) (Nat.le_of_ble_eq_true rfl) (st2 := [vi v5]) rfl ?_
    refine GW_istore_n (X := X_X12_strike) (pc := 19) d_X12_strike_19 rfl (Nat.le_of_ble_eq_true rfl) (lv2 := [(2, vi v5), (0, vr (some i1)), (1, vi l1)]) rfl ?_
    refine GW_iload_n (X := X_X12_strike) (pc := 20) d_X12_strike_20 rfl 0 rfl ?_
    refine GW_if_ge (X := X_X12_strike) (pc := 21) 29 d_X12_strike_21 (by decide) (fun c => ?_) (fun c => ?_)
    · replace h := g_ip c h
      refine GW_iload_n (X := X_X12_strike) (pc := 29) d_X12_strike_29 rfl 0 rfl ?_
      replace h := Option.some.inj h
      subst h
      exact GW_ret (X := X_X12_strike) (pc := 30) d_X12_strike_30 rfl trivial
    · replace h := g_ie c h
      refine GW_bipush (X := X_X12_strike) (pc := 24) (v := -2) d_X12_strike_24 (by decide) ?_
      refine GW_goto (X := X_X12_strike) (pc := 26) 30 d_X12_strike_26 (by decide) ?_
      replace h := Option.some.inj h
      subst h
      exact GW_ret (X := X_X12_strike) (pc := 30) d_X12_strike_30 rfl trivial
  · replace h := g_ip c h
    refine GW_iconst (X := X_X12_strike) (pc := 8) (v := -1) d_X12_strike_8 (by decide) ?_
    replace h := Option.some.inj h
    subst h
    exact GW_ret (X := X_X12_strike) (pc := 9) d_X12_strike_9 rfl trivial
def F_X12_strike (l0 : Option Nat) (l1 : Int32) (M : gM) : Option (Int32 × gM) := F_X12_strike_b0 l0 l1 M
theorem T_X12_strike (l0 : Option Nat) (l1 : Int32) (M : gM) (r : (Int32 × gM)) (h : F_X12_strike l0 l1 M = some r) : g_Met 6 0 0 yX12_strike X_X12_strike [vr l0, vi l1] M (some (vi r.1), r.2) :=
  g_Met_of pn_RX12 rfl (Nat.le_of_ble_eq_true rfl) (fun h => by cases h) (GW_sub [0, 1] rfl (T_X12_strike_b0 r l0 l1 M h))
/-! ForgetHeirs$State.isAnyHeld(LForgetHeirs$House;)Z -/
theorem d_X8_isAnyHeld_0 : decode cX8_isAnyHeld 0 = .ok (.iconst 0, 1) := by decide +kernel
theorem d_X8_isAnyHeld_1 : decode cX8_isAnyHeld 1 = .ok (.istore_n 2, 1) := by decide +kernel
theorem d_X8_isAnyHeld_2 : decode cX8_isAnyHeld 2 = .ok (.iload_n 2, 1) := by decide +kernel
theorem d_X8_isAnyHeld_3 : decode cX8_isAnyHeld 3 = .ok (.aload_n 1, 1) := by decide +kernel
theorem d_X8_isAnyHeld_4 : decode cX8_isAnyHeld 4 = .ok (.getfield 63, 3) := by decide +kernel
theorem d_X8_isAnyHeld_7 : decode cX8_isAnyHeld 7 = .ok (.if_icmp .ge 20, 3) := by decide +kernel
theorem d_X8_isAnyHeld_10 : decode cX8_isAnyHeld 10 = .ok (.aload_n 0, 1) := by decide +kernel
theorem d_X8_isAnyHeld_11 : decode cX8_isAnyHeld 11 = .ok (.aload_n 1, 1) := by decide +kernel
theorem d_X8_isAnyHeld_12 : decode cX8_isAnyHeld 12 = .ok (.iload_n 2, 1) := by decide +kernel
theorem d_X8_isAnyHeld_13 : decode cX8_isAnyHeld 13 = .ok (.invokevirtual 76, 3) := by decide +kernel
theorem d_X8_isAnyHeld_16 : decode cX8_isAnyHeld 16 = .ok (.ifCond .eq 5, 3) := by decide +kernel
theorem d_X8_isAnyHeld_19 : decode cX8_isAnyHeld 19 = .ok (.iconst 1, 1) := by decide +kernel
theorem d_X8_isAnyHeld_20 : decode cX8_isAnyHeld 20 = .ok (.ireturn, 1) := by decide +kernel
theorem d_X8_isAnyHeld_21 : decode cX8_isAnyHeld 21 = .ok (.iinc 2 1, 3) := by decide +kernel
theorem d_X8_isAnyHeld_24 : decode cX8_isAnyHeld 24 = .ok (.goto (-22), 3) := by decide +kernel
theorem d_X8_isAnyHeld_27 : decode cX8_isAnyHeld 27 = .ok (.iconst 0, 1) := by decide +kernel
theorem d_X8_isAnyHeld_28 : decode cX8_isAnyHeld 28 = .ok (.ireturn, 1) := by decide +kernel
abbrev X_X8_isAnyHeld : gX := (RX8, cX8_isAnyHeld, 3, (some .boolean), false)
def F_X8_isAnyHeld_b2 (k2 : Option Nat → Option Nat → Int32 → Option Int32) (M : gM) (l0 : Option Nat) (l1 : Option Nat) (l2 : Int32) : Option Int32 :=
  (gI 1 M l1 6).bind fun v1 => if v1 ≤ l2 then (some (0 : Int32)) else ((gO 8 M l0).bind fun i2 => (F_X8_holdersOf (some i2) l1 l2 M).bind fun v3 => if v3 = 0 then (k2 (some i2) l1 (l2 + 1)) else (some (1 : Int32)))
theorem T_X8_isAnyHeld_b2 (k2 : Option Nat → Option Nat → Int32 → Option Int32) (M : gM) (r : Int32) (hk2 : ∀ (l0 : Option Nat) (l1 : Option Nat) (l2 : Int32), k2 l0 l1 l2 = some r → GW 2 0 0 X_X8_isAnyHeld 2 [(0, vr l0), (1, vr l1), (2, vi l2)] [] M (some (vi r), M)) (l0 : Option Nat) (l1 : Option Nat) (l2 : Int32) (h : F_X8_isAnyHeld_b2 k2 M l0 l1 l2 = some r) : GW 2 0 0 X_X8_isAnyHeld 2 [(0, vr l0), (1, vr l1), (2, vi l2)] [] M (some (vi r), M) := by
  delta F_X8_isAnyHeld_b2 at h
  refine GW_iload_n (X := X_X8_isAnyHeld) (pc := 2) d_X8_isAnyHeld_2 rfl 2 rfl ?_
  refine GW_aload_n (X := X_X8_isAnyHeld) (pc := 3) d_X8_isAnyHeld_3 rfl 1 rfl ?_
  replace h := g_bd h
  obtain ⟨v1, hv1, h⟩ := h
  refine GW_getI (X := X_X8_isAnyHeld) (pc := 4) f_X8_63 d_X8_isAnyHeld_4 hv1 (Or.inl ty_1_6) ?_
  refine GW_icmp_ge (X := X_X8_isAnyHeld) (pc := 7) 27 d_X8_isAnyHeld_7 (by decide) (fun c => ?_) (fun c => ?_)
  · replace h := g_ip c h
    refine GW_iconst (X := X_X8_isAnyHeld) (pc := 27) (v := 0) d_X8_isAnyHeld_27 (by decide) ?_
    replace h := Option.some.inj h
    subst h
    exact GW_ret (X := X_X8_isAnyHeld) (pc := 28) d_X8_isAnyHeld_28 rfl g_rok0
  · replace h := g_ie c h
    refine GW_aload_n (X := X_X8_isAnyHeld) (pc := 10) d_X8_isAnyHeld_10 rfl 0 rfl ?_
    refine GW_aload_n (X := X_X8_isAnyHeld) (pc := 11) d_X8_isAnyHeld_11 rfl 1 rfl ?_
    refine GW_iload_n (X := X_X8_isAnyHeld) (pc := 12) d_X8_isAnyHeld_12 rfl 2 rfl ?_
    replace h := g_bd h
    obtain ⟨i2, hi2, h⟩ := h
    obtain ⟨rfl, ki2⟩ := g_gO hi2
    replace h := g_bd h
    obtain ⟨v3, hv3, h⟩ := h
    refine GW_callV (X := X_X8_isAnyHeld) (pc := 13) (bc0 := 0) (bs0 := 0) (r := some (vi v3)) (M2 := M) (c0 := 8) (T_X8_holdersOf (some i2) l1 l2 M v3 hv3) (Nat.le_of_ble_eq_true rfl) (Nat.le_of_ble_eq_true rfl) rfl g_cok8 ki2 yc_X8_holdersOf ⟨m_781, m_782, m_783, m_119, m_784⟩ d_X8_isAnyHeld_13 rfl (st := []) rfl (Nat.le_of_ble_eq_true rfl) (Nat.le_of_ble_eq_true rfl) (Nat.le_of_ble_eq_true rfl) (st2 := [vi v3]) rfl ?_
    refine GW_if_eq (X := X_X8_isAnyHeld) (pc := 16) 21 d_X8_isAnyHeld_16 (by decide) (fun c => ?_) (fun c => ?_)
    · replace h := g_ip c h
      refine GW_iinc (j := 2) (X := X_X8_isAnyHeld) (pc := 21) d_X8_isAnyHeld_21 rfl (congrArg (fun z => _ + z) (by decide : Int32.ofInt 1 = (1 : Int32))) (Nat.le_of_ble_eq_true rfl) (lv2 := [(2, vi (l2 + 1)), (0, vr (some i2)), (1, vr l1)]) rfl ?_
      refine GW_goto (X := X_X8_isAnyHeld) (pc := 24) 2 d_X8_isAnyHeld_24 (by decide) ?_
      refine GW_sub [1, 2, 0] rfl ?_
      exact hk2 (some i2) l1 (l2 + 1) h
    · replace h := g_ie c h
      refine GW_iconst (X := X_X8_isAnyHeld) (pc := 19) (v := 1) d_X8_isAnyHeld_19 (by decide) ?_
      replace h := Option.some.inj h
      subst h
      exact GW_ret (X := X_X8_isAnyHeld) (pc := 20) d_X8_isAnyHeld_20 rfl g_rok1
def F_X8_isAnyHeld_L2 (M : gM) : Nat → Option Nat → Option Nat → Int32 → Option Int32
  | 0 => fun _ _ _ => none
  | n + 1 => F_X8_isAnyHeld_b2 (F_X8_isAnyHeld_L2 M n) M
theorem T_X8_isAnyHeld_L2 (M : gM) (r : Int32) : ∀ (n : Nat) (l0 : Option Nat) (l1 : Option Nat) (l2 : Int32), F_X8_isAnyHeld_L2 M n l0 l1 l2 = some r → GW 2 0 0 X_X8_isAnyHeld 2 [(0, vr l0), (1, vr l1), (2, vi l2)] [] M (some (vi r), M) := by
  intro n
  induction n with
  | zero => intro l0 l1 l2 h; exact g_no h
  | succ n ih => intro l0 l1 l2 h; exact T_X8_isAnyHeld_b2 (F_X8_isAnyHeld_L2 M n) M r ih l0 l1 l2 h
def F_X8_isAnyHeld_b0 (M : gM) (l0 : Option Nat) (l1 : Option Nat) : Option Int32 :=
  F_X8_isAnyHeld_L2 M g_fuel l0 l1 (0 : Int32)
theorem T_X8_isAnyHeld_b0 (M : gM) (r : Int32) (l0 : Option Nat) (l1 : Option Nat) (h : F_X8_isAnyHeld_b0 M l0 l1 = some r) : GW 2 0 0 X_X8_isAnyHeld 0 [(0, vr l0), (1, vr l1)] [] M (some (vi r), M) := by
  delta F_X8_isAnyHeld_b0 at h
  refine GW_iconst (X := X_X8_isAnyHeld) (pc := 0) (v := 0) d_X8_isAnyHeld_0 (by decide) ?_
  refine GW_istore_n (X := X_X8_isAnyHeld) (pc := 1) d_X8_isAnyHeld_1 rfl (Nat.le_of_ble_eq_true rfl) (lv2 := [(2, vi (0 : Int32)), (0, vr l0), (1, vr l1)]) rfl ?_
  refine GW_sub [1, 2, 0] rfl ?_
  exact T_X8_isAnyHeld_L2 M r g_fuel l0 l1 (0 : Int32) h
def F_X8_isAnyHeld (l0 : Option Nat) (l1 : Option Nat) (M : gM) : Option Int32 := F_X8_isAnyHeld_b0 M l0 l1
theorem T_X8_isAnyHeld (l0 : Option Nat) (l1 : Option Nat) (M : gM) (r : Int32) (h : F_X8_isAnyHeld l0 l1 M = some r) : g_Met 2 0 0 yX8_isAnyHeld X_X8_isAnyHeld [vr l0, vr l1] M (some (vi r), M) :=
  g_Met_of pn_RX8 rfl (Nat.le_of_ble_eq_true rfl) (fun h => by cases h) (GW_sub [0, 1] rfl (T_X8_isAnyHeld_b0 M r l0 l1 h))
/-! ForgetHeirs$State.holdsMost(LForgetHeirs$House;)I -/
theorem d_X8_holdsMost_0 : decode cX8_holdsMost 0 = .ok (.iconst (-1), 1) := by decide +kernel
theorem d_X8_holdsMost_1 : decode cX8_holdsMost 1 = .ok (.istore_n 2, 1) := by decide +kernel
theorem d_X8_holdsMost_2 : decode cX8_holdsMost 2 = .ok (.iconst 0, 1) := by decide +kernel
theorem d_X8_holdsMost_3 : decode cX8_holdsMost 3 = .ok (.istore_n 3, 1) := by decide +kernel
theorem d_X8_holdsMost_4 : decode cX8_holdsMost 4 = .ok (.iconst 0, 1) := by decide +kernel
theorem d_X8_holdsMost_5 : decode cX8_holdsMost 5 = .ok (.istore 4, 2) := by decide +kernel
theorem d_X8_holdsMost_7 : decode cX8_holdsMost 7 = .ok (.iload 4, 2) := by decide +kernel
theorem d_X8_holdsMost_9 : decode cX8_holdsMost 9 = .ok (.aload_n 1, 1) := by decide +kernel
theorem d_X8_holdsMost_10 : decode cX8_holdsMost 10 = .ok (.getfield 66, 3) := by decide +kernel
theorem d_X8_holdsMost_13 : decode cX8_holdsMost 13 = .ok (.if_icmp .ge 33, 3) := by decide +kernel
theorem d_X8_holdsMost_16 : decode cX8_holdsMost 16 = .ok (.aload_n 0, 1) := by decide +kernel
theorem d_X8_holdsMost_17 : decode cX8_holdsMost 17 = .ok (.aload_n 1, 1) := by decide +kernel
theorem d_X8_holdsMost_18 : decode cX8_holdsMost 18 = .ok (.iload 4, 2) := by decide +kernel
theorem d_X8_holdsMost_20 : decode cX8_holdsMost 20 = .ok (.invokevirtual 85, 3) := by decide +kernel
theorem d_X8_holdsMost_23 : decode cX8_holdsMost 23 = .ok (.invokestatic 79, 3) := by decide +kernel
theorem d_X8_holdsMost_26 : decode cX8_holdsMost 26 = .ok (.istore 5, 2) := by decide +kernel
theorem d_X8_holdsMost_28 : decode cX8_holdsMost 28 = .ok (.iload 5, 2) := by decide +kernel
theorem d_X8_holdsMost_30 : decode cX8_holdsMost 30 = .ok (.iload_n 3, 1) := by decide +kernel
theorem d_X8_holdsMost_31 : decode cX8_holdsMost 31 = .ok (.if_icmp .le 9, 3) := by decide +kernel
theorem d_X8_holdsMost_34 : decode cX8_holdsMost 34 = .ok (.iload 4, 2) := by decide +kernel
theorem d_X8_holdsMost_36 : decode cX8_holdsMost 36 = .ok (.istore_n 2, 1) := by decide +kernel
theorem d_X8_holdsMost_37 : decode cX8_holdsMost 37 = .ok (.iload 5, 2) := by decide +kernel
theorem d_X8_holdsMost_39 : decode cX8_holdsMost 39 = .ok (.istore_n 3, 1) := by decide +kernel
theorem d_X8_holdsMost_40 : decode cX8_holdsMost 40 = .ok (.iinc 4 1, 3) := by decide +kernel
theorem d_X8_holdsMost_43 : decode cX8_holdsMost 43 = .ok (.goto (-36), 3) := by decide +kernel
theorem d_X8_holdsMost_46 : decode cX8_holdsMost 46 = .ok (.iload_n 2, 1) := by decide +kernel
theorem d_X8_holdsMost_47 : decode cX8_holdsMost 47 = .ok (.ireturn, 1) := by decide +kernel
abbrev X_X8_holdsMost : gX := (RX8, cX8_holdsMost, 6, (some .int), false)
def F_X8_holdsMost_b40 (k7 : Option Nat → Option Nat → Int32 → Int32 → Int32 → Option Int32) (M : gM) (l0 : Option Nat) (l1 : Option Nat) (l2 : Int32) (l3 : Int32) (l4 : Int32) : Option Int32 :=
  k7 l0 l1 l2 l3 (l4 + 1)
theorem T_X8_holdsMost_b40 (k7 : Option Nat → Option Nat → Int32 → Int32 → Int32 → Option Int32) (M : gM) (r : Int32) (hk7 : ∀ (l0 : Option Nat) (l1 : Option Nat) (l2 : Int32) (l3 : Int32) (l4 : Int32), k7 l0 l1 l2 l3 l4 = some r → GW 3 0 0 X_X8_holdsMost 7 [(0, vr l0), (1, vr l1), (2, vi l2), (3, vi l3), (4, vi l4)] [] M (some (vi r), M)) (l0 : Option Nat) (l1 : Option Nat) (l2 : Int32) (l3 : Int32) (l4 : Int32) (h : F_X8_holdsMost_b40 k7 M l0 l1 l2 l3 l4 = some r) : GW 3 0 0 X_X8_holdsMost 40 [(0, vr l0), (1, vr l1), (2, vi l2), (3, vi l3), (4, vi l4)] [] M (some (vi r), M) := by
  delta F_X8_holdsMost_b40 at h
  refine GW_iinc (j := 4) (X := X_X8_holdsMost) (pc := 40) d_X8_holdsMost_40 rfl (congrArg (fun z => _ + z) (by decide : Int32.ofInt 1 = (1 : Int32))) (Nat.le_of_ble_eq_true rfl) (lv2 := [(4, vi (l4 + 1)), (0, vr l0), (1, vr l1), (2, vi l2), (3, vi l3)]) rfl ?_
  refine GW_goto (X := X_X8_holdsMost) (pc := 43) 7 d_X8_holdsMost_43 (by decide) ?_
  refine GW_sub [1, 2, 3, 4, 0] rfl ?_
  exact hk7 l0 l1 l2 l3 (l4 + 1) h
def F_X8_holdsMost_b7 (k7 : Option Nat → Option Nat → Int32 → Int32 → Int32 → Option Int32) (M : gM) (l0 : Option Nat) (l1 : Option Nat) (l2 : Int32) (l3 : Int32) (l4 : Int32) : Option Int32 :=
  (gI 1 M l1 7).bind fun v1 => if v1 ≤ l4 then (some l2) else ((gO 8 M l0).bind fun i2 => (F_X8_heldBy (some i2) l1 l4 M).bind fun v3 => (F_J6_bitCount_0f7a4 v3 M).bind fun v4 => if v4 ≤ l3 then (F_X8_holdsMost_b40 k7 M (some i2) l1 l2 l3 l4) else (F_X8_holdsMost_b40 k7 M (some i2) l1 l4 v4 l4))
theorem T_X8_holdsMost_b7 (k7 : Option Nat → Option Nat → Int32 → Int32 → Int32 → Option Int32) (M : gM) (r : Int32) (hk7 : ∀ (l0 : Option Nat) (l1 : Option Nat) (l2 : Int32) (l3 : Int32) (l4 : Int32), k7 l0 l1 l2 l3 l4 = some r → GW 3 0 0 X_X8_holdsMost 7 [(0, vr l0), (1, vr l1), (2, vi l2), (3, vi l3), (4, vi l4)] [] M (some (vi r), M)) (l0 : Option Nat) (l1 : Option Nat) (l2 : Int32) (l3 : Int32) (l4 : Int32) (h : F_X8_holdsMost_b7 k7 M l0 l1 l2 l3 l4 = some r) : GW 3 0 0 X_X8_holdsMost 7 [(0, vr l0), (1, vr l1), (2, vi l2), (3, vi l3), (4, vi l4)] [] M (some (vi r), M) := by
  delta F_X8_holdsMost_b7 at h
  refine GW_iload (X := X_X8_holdsMost) (pc := 7) d_X8_holdsMost_7 4 rfl ?_
  refine GW_aload_n (X := X_X8_holdsMost) (pc := 9) d_X8_holdsMost_9 rfl 1 rfl ?_
  replace h := g_bd h
  obtain ⟨v1, hv1, h⟩ := h
  refine GW_getI (X := X_X8_holdsMost) (pc := 10) f_X8_66 d_X8_holdsMost_10 hv1 (Or.inl ty_1_7) ?_
  refine GW_icmp_ge (X := X_X8_holdsMost) (pc := 13) 46 d_X8_holdsMost_13 (by decide) (fun c => ?_) (fun c => ?_)
  · replace h := g_ip c h
    refine GW_iload_n (X := X_X8_holdsMost) (pc := 46) d_X8_holdsMost_46 rfl 2 rfl ?_
    replace h := Option.some.inj h
    subst h
    exact GW_ret (X := X_X8_holdsMost) (pc := 47) d_X8_holdsMost_47 rfl trivial
  · replace h := g_ie c h
    refine GW_aload_n (X := X_X8_holdsMost) (pc := 16) d_X8_holdsMost_16 rfl 0 rfl ?_
    refine GW_aload_n (X := X_X8_holdsMost) (pc := 17) d_X8_holdsMost_17 rfl 1 rfl ?_
    refine GW_iload (X := X_X8_holdsMost) (pc := 18) d_X8_holdsMost_18 4 rfl ?_
    replace h := g_bd h
    obtain ⟨i2, hi2, h⟩ := h
    obtain ⟨rfl, ki2⟩ := g_gO hi2
    replace h := g_bd h
    obtain ⟨v3, hv3, h⟩ := h
    refine GW_callV (X := X_X8_holdsMost) (pc := 20) (bc0 := 0) (bs0 := 0) (r := some (vi v3)) (M2 := M) (c0 := 8) (T_X8_heldBy (some i2) l1 l4 M v3 hv3) (Nat.le_of_ble_eq_true rfl) (Nat.le_of_ble_eq_true rfl) rfl g_cok8 ki2 yc_X8_heldBy ⟨m_980, m_778, m_779, m_119, m_780⟩ d_X8_holdsMost_20 rfl (st := []) rfl (Nat.le_of_ble_eq_true rfl) (Nat.le_of_ble_eq_true rfl) (Nat.le_of_ble_eq_true rfl) (st2 := [vi v3]) rfl ?_
    replace h := g_bd h
    obtain ⟨v4, hv4, h⟩ := h
    refine GW_callS (X := X_X8_holdsMost) (pc := 23) (bc0 := 0) (bs0 := 0) (r := some (vi v4)) (M2 := M) (T_J6_bitCount_0f7a4 v3 M v4 hv4) (Nat.le_of_ble_eq_true rfl) (Nat.le_of_ble_eq_true rfl) yc_J6_bitCount_0f7a4 ⟨m_815, m_816, m_136, m_817⟩ d_X8_holdsMost_23 rfl (st := []) rfl (Nat.le_of_ble_eq_true rfl) (Nat.le_of_ble_eq_true rfl) (Nat.le_of_ble_eq_true rfl) (st2 := [vi v4]) rfl ?_
    refine GW_istore (X := X_X8_holdsMost) (pc := 26) d_X8_holdsMost_26 (Nat.le_of_ble_eq_true rfl) (lv2 := [(5, vi v4), (0, vr (some i2)), (1, vr l1), (2, vi l2), (3, vi l3), (4, vi l4)]) rfl ?_
    refine GW_iload (X := X_X8_holdsMost) (pc := 28) d_X8_holdsMost_28 0 rfl ?_
    refine GW_iload_n (X := X_X8_holdsMost) (pc := 30) d_X8_holdsMost_30 rfl 4 rfl ?_
    refine GW_icmp_le (X := X_X8_holdsMost) (pc := 31) 40 d_X8_holdsMost_31 (by decide) (fun c => ?_) (fun c => ?_)
    · replace h := g_ip c h
      refine GW_sub [1, 2, 3, 4, 5] rfl ?_
      exact T_X8_holdsMost_b40 k7 M r hk7 (some i2) l1 l2 l3 l4 h
    · replace h := g_ie c h
      refine GW_iload (X := X_X8_holdsMost) (pc := 34) d_X8_holdsMost_34 5 rfl ?_
      refine GW_istore_n (X := X_X8_holdsMost) (pc := 36) d_X8_holdsMost_36 rfl (Nat.le_of_ble_eq_true rfl) (lv2 := [(2, vi l4), (5, vi v4), (0, vr (some i2)), (1, vr l1), (3, vi l3), (4, vi l4)]) rfl ?_
      refine GW_iload (X := X_X8_holdsMost) (pc := 37) d_X8_holdsMost_37 1 rfl ?_
      refine GW_istore_n (X := X_X8_holdsMost) (pc := 39) d_X8_holdsMost_39 rfl (Nat.le_of_ble_eq_true rfl) (lv2 := [(3, vi v4), (2, vi l4), (5, vi v4), (0, vr (some i2)), (1, vr l1), (4, vi l4)]) rfl ?_
      refine GW_sub [3, 4, 1, 0, 5] rfl ?_
      exact T_X8_holdsMost_b40 k7 M r hk7 (some i2) l1 l4 v4 l4 h
def F_X8_holdsMost_L7 (M : gM) : Nat → Option Nat → Option Nat → Int32 → Int32 → Int32 → Option Int32
  | 0 => fun _ _ _ _ _ => none
  | n + 1 => F_X8_holdsMost_b7 (F_X8_holdsMost_L7 M n) M
theorem T_X8_holdsMost_L7 (M : gM) (r : Int32) : ∀ (n : Nat) (l0 : Option Nat) (l1 : Option Nat) (l2 : Int32) (l3 : Int32) (l4 : Int32), F_X8_holdsMost_L7 M n l0 l1 l2 l3 l4 = some r → GW 3 0 0 X_X8_holdsMost 7 [(0, vr l0), (1, vr l1), (2, vi l2), (3, vi l3), (4, vi l4)] [] M (some (vi r), M) := by
  intro n
  induction n with
  | zero => intro l0 l1 l2 l3 l4 h; exact g_no h
  | succ n ih => intro l0 l1 l2 l3 l4 h; exact T_X8_holdsMost_b7 (F_X8_holdsMost_L7 M n) M r ih l0 l1 l2 l3 l4 h
def F_X8_holdsMost_b0 (M : gM) (l0 : Option Nat) (l1 : Option Nat) : Option Int32 :=
  F_X8_holdsMost_L7 M g_fuel l0 l1 (-1 : Int32) (0 : Int32) (0 : Int32)
theorem T_X8_holdsMost_b0 (M : gM) (r : Int32) (l0 : Option Nat) (l1 : Option Nat) (h : F_X8_holdsMost_b0 M l0 l1 = some r) : GW 3 0 0 X_X8_holdsMost 0 [(0, vr l0), (1, vr l1)] [] M (some (vi r), M) := by
  delta F_X8_holdsMost_b0 at h
  refine GW_iconst (X := X_X8_holdsMost) (pc := 0) (v := -1) d_X8_holdsMost_0 (by decide) ?_
  refine GW_istore_n (X := X_X8_holdsMost) (pc := 1) d_X8_holdsMost_1 rfl (Nat.le_of_ble_eq_true rfl) (lv2 := [(2, vi (-1 : Int32)), (0, vr l0), (1, vr l1)]) rfl ?_
  refine GW_iconst (X := X_X8_holdsMost) (pc := 2) (v := 0) d_X8_holdsMost_2 (by decide) ?_
  refine GW_istore_n (X := X_X8_holdsMost) (pc := 3) d_X8_holdsMost_3 rfl (Nat.le_of_ble_eq_true rfl) (lv2 := [(3, vi (0 : Int32)), (2, vi (-1 : Int32)), (0, vr l0), (1, vr l1)]) rfl ?_
  refine GW_iconst (X := X_X8_holdsMost) (pc := 4) (v := 0) d_X8_holdsMost_4 (by decide) ?_
  refine GW_istore (X := X_X8_holdsMost) (pc := 5) d_X8_holdsMost_5 (Nat.le_of_ble_eq_true rfl) (lv2 := [(4, vi (0 : Int32)), (3, vi (0 : Int32)), (2, vi (-1 : Int32)), (0, vr l0), (1, vr l1)]) rfl ?_
  refine GW_sub [3, 4, 2, 1, 0] rfl ?_
  exact T_X8_holdsMost_L7 M r g_fuel l0 l1 (-1 : Int32) (0 : Int32) (0 : Int32) h
def F_X8_holdsMost (l0 : Option Nat) (l1 : Option Nat) (M : gM) : Option Int32 := F_X8_holdsMost_b0 M l0 l1
theorem T_X8_holdsMost (l0 : Option Nat) (l1 : Option Nat) (M : gM) (r : Int32) (h : F_X8_holdsMost l0 l1 M = some r) : g_Met 3 0 0 yX8_holdsMost X_X8_holdsMost [vr l0, vr l1] M (some (vi r), M) :=
  g_Met_of pn_RX8 rfl (Nat.le_of_ble_eq_true rfl) (fun h => by cases h) (GW_sub [0, 1] rfl (T_X8_holdsMost_b0 M r l0 l1 h))
/-! ForgetHeirs.inherits(I)I -/
theorem d_X11_inherits_0 : decode cX11_inherits 0 = .ok (.iload_n 1, 1) := by decide +kernel
theorem d_X11_inherits_1 : decode cX11_inherits 1 = .ok (.ifCond .lt 18, 3) := by decide +kernel
theorem d_X11_inherits_4 : decode cX11_inherits 4 = .ok (.iload_n 1, 1) := by decide +kernel
theorem d_X11_inherits_5 : decode cX11_inherits 5 = .ok (.iconst 1, 1) := by decide +kernel
theorem d_X11_inherits_6 : decode cX11_inherits 6 = .ok (.if_icmp .gt 13, 3) := by decide +kernel
theorem d_X11_inherits_9 : decode cX11_inherits 9 = .ok (.aload_n 0, 1) := by decide +kernel
theorem d_X11_inherits_10 : decode cX11_inherits 10 = .ok (.getfield 59, 3) := by decide +kernel
theorem d_X11_inherits_13 : decode cX11_inherits 13 = .ok (.getfield 204, 3) := by decide +kernel
theorem d_X11_inherits_16 : decode cX11_inherits 16 = .ok (.ifCond .ne 5, 3) := by decide +kernel
theorem d_X11_inherits_19 : decode cX11_inherits 19 = .ok (.iconst (-1), 1) := by decide +kernel
theorem d_X11_inherits_20 : decode cX11_inherits 20 = .ok (.ireturn, 1) := by decide +kernel
theorem d_X11_inherits_21 : decode cX11_inherits 21 = .ok (.aload_n 0, 1) := by decide +kernel
theorem d_X11_inherits_22 : decode cX11_inherits 22 = .ok (.getfield 25, 3) := by decide +kernel
theorem d_X11_inherits_25 : decode cX11_inherits 25 = .ok (.aload_n 0, 1) := by decide +kernel
theorem d_X11_inherits_26 : decode cX11_inherits 26 = .ok (.getfield 59, 3) := by decide +kernel
theorem d_X11_inherits_29 : decode cX11_inherits 29 = .ok (.invokevirtual 248, 3) := by decide +kernel
theorem d_X11_inherits_32 : decode cX11_inherits 32 = .ok (.ifCond .ne 6, 3) := by decide +kernel
theorem d_X11_inherits_35 : decode cX11_inherits 35 = .ok (.bipush (-2), 2) := by decide +kernel
theorem d_X11_inherits_37 : decode cX11_inherits 37 = .ok (.ireturn, 1) := by decide +kernel
theorem d_X11_inherits_38 : decode cX11_inherits 38 = .ok (.aload_n 0, 1) := by decide +kernel
theorem d_X11_inherits_39 : decode cX11_inherits 39 = .ok (.getfield 29, 3) := by decide +kernel
theorem d_X11_inherits_42 : decode cX11_inherits 42 = .ok (.aload_n 0, 1) := by decide +kernel
theorem d_X11_inherits_43 : decode cX11_inherits 43 = .ok (.getfield 25, 3) := by decide +kernel
theorem d_X11_inherits_46 : decode cX11_inherits 46 = .ok (.invokevirtual 114, 3) := by decide +kernel
theorem d_X11_inherits_49 : decode cX11_inherits 49 = .ok (.iconst (-1), 1) := by decide +kernel
theorem d_X11_inherits_50 : decode cX11_inherits 50 = .ok (.istore_n 2, 1) := by decide +kernel
theorem d_X11_inherits_51 : decode cX11_inherits 51 = .ok (.iconst (-1), 1) := by decide +kernel
theorem d_X11_inherits_52 : decode cX11_inherits 52 = .ok (.istore_n 3, 1) := by decide +kernel
theorem d_X11_inherits_53 : decode cX11_inherits 53 = .ok (.iconst 0, 1) := by decide +kernel
theorem d_X11_inherits_54 : decode cX11_inherits 54 = .ok (.istore 4, 2) := by decide +kernel
theorem d_X11_inherits_56 : decode cX11_inherits 56 = .ok (.iload 4, 2) := by decide +kernel
theorem d_X11_inherits_58 : decode cX11_inherits 58 = .ok (.sipush 200, 3) := by decide +kernel
theorem d_X11_inherits_61 : decode cX11_inherits 61 = .ok (.if_icmp .ge 63, 3) := by decide +kernel
theorem d_X11_inherits_64 : decode cX11_inherits 64 = .ok (.aload_n 0, 1) := by decide +kernel
theorem d_X11_inherits_65 : decode cX11_inherits 65 = .ok (.getfield 29, 3) := by decide +kernel
theorem d_X11_inherits_68 : decode cX11_inherits 68 = .ok (.aload_n 0, 1) := by decide +kernel
theorem d_X11_inherits_69 : decode cX11_inherits 69 = .ok (.getfield 59, 3) := by decide +kernel
theorem d_X11_inherits_72 : decode cX11_inherits 72 = .ok (.invokevirtual 248, 3) := by decide +kernel
theorem d_X11_inherits_75 : decode cX11_inherits 75 = .ok (.ifCond .eq 49, 3) := by decide +kernel
theorem d_X11_inherits_78 : decode cX11_inherits 78 = .ok (.aload_n 0, 1) := by decide +kernel
theorem d_X11_inherits_79 : decode cX11_inherits 79 = .ok (.getfield 29, 3) := by decide +kernel
theorem d_X11_inherits_82 : decode cX11_inherits 82 = .ok (.aload_n 0, 1) := by decide +kernel
theorem d_X11_inherits_83 : decode cX11_inherits 83 = .ok (.getfield 59, 3) := by decide +kernel
theorem d_X11_inherits_86 : decode cX11_inherits 86 = .ok (.invokevirtual 252, 3) := by decide +kernel
theorem d_X11_inherits_89 : decode cX11_inherits 89 = .ok (.istore_n 2, 1) := by decide +kernel
theorem d_X11_inherits_90 : decode cX11_inherits 90 = .ok (.aload_n 0, 1) := by decide +kernel
theorem d_X11_inherits_91 : decode cX11_inherits 91 = .ok (.getfield 29, 3) := by decide +kernel
theorem d_X11_inherits_94 : decode cX11_inherits 94 = .ok (.getfield 190, 3) := by decide +kernel
theorem d_X11_inherits_97 : decode cX11_inherits 97 = .ok (.istore_n 3, 1) := by decide +kernel
theorem d_X11_inherits_98 : decode cX11_inherits 98 = .ok (.aload_n 0, 1) := by decide +kernel
theorem d_X11_inherits_99 : decode cX11_inherits 99 = .ok (.getfield 18, 3) := by decide +kernel
theorem d_X11_inherits_102 : decode cX11_inherits 102 = .ok (.aload_n 0, 1) := by decide +kernel
theorem d_X11_inherits_103 : decode cX11_inherits 103 = .ok (.getfield 59, 3) := by decide +kernel
theorem d_X11_inherits_106 : decode cX11_inherits 106 = .ok (.aload_n 0, 1) := by decide +kernel
theorem d_X11_inherits_107 : decode cX11_inherits 107 = .ok (.getfield 29, 3) := by decide +kernel
theorem d_X11_inherits_110 : decode cX11_inherits 110 = .ok (.aload_n 0, 1) := by decide +kernel
theorem d_X11_inherits_111 : decode cX11_inherits 111 = .ok (.invokevirtual 211, 3) := by decide +kernel
theorem d_X11_inherits_114 : decode cX11_inherits 114 = .ok (.invokevirtual 214, 3) := by decide +kernel
theorem d_X11_inherits_117 : decode cX11_inherits 117 = .ok (.pop, 1) := by decide +kernel
theorem d_X11_inherits_118 : decode cX11_inherits 118 = .ok (.iinc 4 1, 3) := by decide +kernel
theorem d_X11_inherits_121 : decode cX11_inherits 121 = .ok (.goto (-65), 3) := by decide +kernel
theorem d_X11_inherits_124 : decode cX11_inherits 124 = .ok (.aload_n 0, 1) := by decide +kernel
theorem d_X11_inherits_125 : decode cX11_inherits 125 = .ok (.getfield 29, 3) := by decide +kernel
theorem d_X11_inherits_128 : decode cX11_inherits 128 = .ok (.aload_n 0, 1) := by decide +kernel
theorem d_X11_inherits_129 : decode cX11_inherits 129 = .ok (.getfield 59, 3) := by decide +kernel
theorem d_X11_inherits_132 : decode cX11_inherits 132 = .ok (.invokevirtual 248, 3) := by decide +kernel
theorem d_X11_inherits_135 : decode cX11_inherits 135 = .ok (.ifCond .eq 6, 3) := by decide +kernel
theorem d_X11_inherits_138 : decode cX11_inherits 138 = .ok (.bipush (-3), 2) := by decide +kernel
theorem d_X11_inherits_140 : decode cX11_inherits 140 = .ok (.ireturn, 1) := by decide +kernel
theorem d_X11_inherits_141 : decode cX11_inherits 141 = .ok (.iload_n 1, 1) := by decide +kernel
theorem d_X11_inherits_142 : decode cX11_inherits 142 = .ok (.ifCond .ne 7, 3) := by decide +kernel
theorem d_X11_inherits_145 : decode cX11_inherits 145 = .ok (.iload_n 2, 1) := by decide +kernel
theorem d_X11_inherits_146 : decode cX11_inherits 146 = .ok (.goto 4, 3) := by decide +kernel
theorem d_X11_inherits_149 : decode cX11_inherits 149 = .ok (.iload_n 3, 1) := by decide +kernel
theorem d_X11_inherits_150 : decode cX11_inherits 150 = .ok (.ireturn, 1) := by decide +kernel
abbrev X_X11_inherits : gX := (RX11, cX11_inherits, 5, (some .int), false)
def F_X11_inherits_b19 (M : gM) : Option (Int32 × gM) :=
  some ((-1 : Int32), M)
theorem T_X11_inherits_b19 (r : (Int32 × gM)) (M : gM) (h : F_X11_inherits_b19 M = some r) : GW 5 0 0 X_X11_inherits 19 [] [] M (some (vi r.1), r.2) := by
  delta F_X11_inherits_b19 at h
  refine GW_iconst (X := X_X11_inherits) (pc := 19) (v := -1) d_X11_inherits_19 (by decide) ?_
  replace h := Option.some.inj h
  subst h
  exact GW_ret (X := X_X11_inherits) (pc := 20) d_X11_inherits_20 rfl trivial
def F_X11_inherits_b124 (l0 : Option Nat) (l1 : Int32) (l2 : Int32) (l3 : Int32) (M : gM) : Option (Int32 × gM) :=
  (gR 11 M l0 6).bind fun v1 => (gR 11 M l0 11).bind fun v2 => (gO 8 M v1).bind fun i3 => (F_X8_isAnyHeld (some i3) v2 M).bind fun v4 => if v4 = 0 then (if l1 = 0 then (some (l2, M)) else (some (l3, M))) else (some ((-3 : Int32), M))
theorem T_X11_inherits_b124 (r : (Int32 × gM)) (l0 : Option Nat) (l1 : Int32) (l2 : Int32) (l3 : Int32) (M : gM) (h : F_X11_inherits_b124 l0 l1 l2 l3 M = some r) : GW 5 0 0 X_X11_inherits 124 [(0, vr l0), (1, vi l1), (2, vi l2), (3, vi l3)] [] M (some (vi r.1), r.2) := by
  delta F_X11_inherits_b124 at h
  refine GW_aload_n (X := X_X11_inherits) (pc := 124) d_X11_inherits_124 rfl 0 rfl ?_
  replace h := g_bd h
  obtain ⟨v1, hv1, h⟩ := h
  refine GW_getR (X := X_X11_inherits) (pc := 125) f_X11_29 d_X11_inherits_125 hv1 (Or.inl ⟨_, ty_11_6⟩) ?_
  refine GW_aload_n (X := X_X11_inherits) (pc := 128) d_X11_inherits_128 rfl 0 rfl ?_
  replace h := g_bd h
  obtain ⟨v2, hv2, h⟩ := h
  refine GW_getR (X := X_X11_inherits) (pc := 129) f_X11_59 d_X11_inherits_129 hv2 (Or.inl ⟨_, ty_11_11⟩) ?_
  replace h := g_bd h
  obtain ⟨i3, hi3, h⟩ := h
  obtain ⟨rfl, ki3⟩ := g_gO hi3
  replace h := g_bd h
  obtain ⟨v4, hv4, h⟩ := h
  refine GW_callV (X := X_X11_inherits) (pc := 132) (bc0 := 0) (bs0 := 0) (r := some (vi v4)) (M2 := M) (c0 := 8) (T_X8_isAnyHeld (some i3) v2 M v4 hv4) (Nat.le_of_ble_eq_true rfl) (Nat.le_of_ble_eq_true rfl) rfl g_cok8 ki3 yc_X8_isAnyHeld ⟨m_972, m_973, m_974, m_119, m_975⟩ d_X11_inherits_132 rfl (st := []) rfl (Nat.le_of_ble_eq_true rfl) (Nat.le_of_ble_eq_true rfl) (Nat.le_of_ble_eq_true rfl) (st2 := [vi v4]) rfl ?_
  refine GW_if_eq (X := X_X11_inherits) (pc := 135) 141 d_X11_inherits_135 (by decide) (fun c => ?_) (fun c => ?_)
  · replace h := g_ip c h
    refine GW_iload_n (X := X_X11_inherits) (pc := 141) d_X11_inherits_141 rfl 1 rfl ?_
    refine GW_if_ne (X := X_X11_inherits) (pc := 142) 149 d_X11_inherits_142 (by decide) (fun c => ?_) (fun c => ?_)
    · replace h := g_ie c h
      refine GW_iload_n (X := X_X11_inherits) (pc := 149) d_X11_inherits_149 rfl 3 rfl ?_
      replace h := Option.some.inj h
      subst h
      exact GW_ret (X := X_X11_inherits) (pc := 150) d_X11_inherits_150 rfl trivial
    · replace h := g_ip c h
      refine GW_iload_n (X := X_X11_inherits) (pc := 145) d_X11_inherits_145 rfl 2 rfl ?_
      refine GW_goto (X := X_X11_inherits) (pc := 146) 150 d_X11_inherits_146 (by decide) ?_
      replace h := Option.some.inj h
      subst h
      exact GW_ret (X := X_X11_inherits) (pc := 150) d_X11_inherits_150 rfl trivial
  · replace h := g_ie c h
    refine GW_bipush (X := X_X11_inherits) (pc := 138) (v := -3) d_X11_inherits_138 (by decide) ?_
    replace h := Option.some.inj h
    subst h
    exact GW_ret (X := X_X11_inherits) (pc := 140) d_X11_inherits_140 rfl trivial
def F_X11_inherits_b56 (k56 : Option Nat → Int32 → Int32 → Int32 → Int32 → gM → Option (Int32 × gM)) (l0 : Option Nat) (l1 : Int32) (l2 : Int32) (l3 : Int32) (l4 : Int32) (M : gM) : Option (Int32 × gM) :=
  if (200 : Int32) ≤ l4 then (F_X11_inherits_b124 l0 l1 l2 l3 M) else ((gR 11 M l0 6).bind fun v1 => (gR 11 M l0 11).bind fun v2 => (gO 8 M v1).bind fun i3 => (F_X8_isAnyHeld (some i3) v2 M).bind fun v4 => if v4 = 0 then (F_X11_inherits_b124 l0 l1 l2 l3 M) else ((gR 11 M l0 6).bind fun v5 => (gR 11 M l0 11).bind fun v6 => (gO 8 M v5).bind fun i7 => (F_X8_holdsMost (some i7) v6 M).bind fun v8 => (gR 11 M l0 6).bind fun v9 => (gI 8 M v9 5).bind fun v10 => (gR 11 M l0 4).bind fun v11 => (gR 11 M l0 11).bind fun v12 => (gR 11 M l0 6).bind fun v13 => (gO 11 M l0).bind fun i14 => (F_X11_ruleInForce (some i14) M).bind fun v15 => (gO 10 M v11).bind fun i16 => (F_X10_pass (some i16) v12 v13 v15 M).bind fun (v17, M18) => k56 (some i14) l1 v8 v10 (l4 + 1) M18))
set_option maxHeartbeats 1000000 in
theorem T_X11_inherits_b56 (k56 : Option Nat → Int32 → Int32 → Int32 → Int32 → gM → Option (Int32 × gM)) (r : (Int32 × gM)) (hk56 : ∀ (l0 : Option Nat) (l1 : Int32) (l2 : Int32) (l3 : Int32) (l4 : Int32) (M : gM), k56 l0 l1 l2 l3 l4 M = some r → GW 5 0 0 X_X11_inherits 56 [(0, vr l0), (1, vi l1), (2, vi l2), (3, vi l3), (4, vi l4)] [] M (some (vi r.1), r.2)) (l0 : Option Nat) (l1 : Int32) (l2 : Int32) (l3 : Int32) (l4 : Int32) (M : gM) (h : F_X11_inherits_b56 k56 l0 l1 l2 l3 l4 M = some r) : GW 5 0 0 X_X11_inherits 56 [(0, vr l0), (1, vi l1), (2, vi l2), (3, vi l3), (4, vi l4)] [] M (some (vi r.1), r.2) := by
  delta F_X11_inherits_b56 at h
  refine GW_iload (X := X_X11_inherits) (pc := 56) d_X11_inherits_56 4 rfl ?_
  refine GW_sipush (X := X_X11_inherits) (pc := 58) (v := 200) d_X11_inherits_58 (by decide) ?_
  refine GW_icmp_ge (X := X_X11_inherits) (pc := 61) 124 d_X11_inherits_61 (by decide) (fun c => ?_) (fun c => ?_)
  · replace h := g_ip c h
    refine GW_sub [0, 1, 2, 3] rfl ?_
    exact T_X11_inherits_b124 r l0 l1 l2 l3 M h
  · replace h := g_ie c h
    refine GW_aload_n (X := X_X11_inherits) (pc := 64) d_X11_inherits_64 rfl 0 rfl ?_
    replace h := g_bd h
    obtain ⟨v1, hv1, h⟩ := h
    refine GW_getR (X := X_X11_inherits) (pc := 65) f_X11_29 d_X11_inherits_65 hv1 (Or.inl ⟨_, ty_11_6⟩) ?_
    refine GW_aload_n (X := X_X11_inherits) (pc := 68) d_X11_inherits_68 rfl 0 rfl ?_
    replace h := g_bd h
    obtain ⟨v2, hv2, h⟩ := h
    refine GW_getR (X := X_X11_inherits) (pc := 69) f_X11_59 d_X11_inherits_69 hv2 (Or.inl ⟨_, ty_11_11⟩) ?_
    replace h := g_bd h
    obtain ⟨i3, hi3, h⟩ := h
    obtain ⟨rfl, ki3⟩ := g_gO hi3
    replace h := g_bd h
    obtain ⟨v4, hv4, h⟩ := h
    refine GW_callV (X := X_X11_inherits) (pc := 72) (bc0 := 0) (bs0 := 0) (r := some (vi v4)) (M2 := M) (c0 := 8) (T_X8_isAnyHeld (some i3) v2 M v4 hv4) (Nat.le_of_ble_eq_true rfl) (Nat.le_of_ble_eq_true rfl) rfl g_cok8 ki3 yc_X8_isAnyHeld ⟨m_972, m_973, m_974, m_119, m_975⟩ d_X11_inherits_72 rfl (st := []) rfl (Nat.le_of_ble_eq_true rfl) (Nat.le_of_ble_eq_true rfl) (Nat.le_of_ble_eq_true rfl) (st2 := [vi v4]) rfl ?_
    refine GW_if_eq (X := X_X11_inherits) (pc := 75) 124 d_X11_inherits_75 (by decide) (fun c => ?_) (fun c => ?_)
    · replace h := g_ip c h
      refine GW_sub [0, 1, 2, 3] rfl ?_
      exact T_X11_inherits_b124 r l0 l1 l2 l3 M h
    · replace h := g_ie c h
      refine GW_aload_n (X := X_X11_inherits) (pc := 78) d_X11_inherits_78 rfl 0 rfl ?_
      replace h := g_bd h
      obtain ⟨v5, hv5, h⟩ := h
      refine GW_getR (X := X_X11_inherits) (pc := 79) f_X11_29 d_X11_inherits_79 hv5 (Or.inl ⟨_, ty_11_6⟩) ?_
      refine GW_aload_n (X := X_X11_inherits) (pc := 82) d_X11_inherits_82 rfl 0 rfl ?_
      replace h := g_bd h
      obtain ⟨v6, hv6, h⟩ := h
      refine GW_getR (X := X_X11_inherits) (pc := 83) f_X11_59 d_X11_inherits_83 hv6 (Or.inl ⟨_, ty_11_11⟩) ?_
      replace h := g_bd h
      obtain ⟨i7, hi7, h⟩ := h
      obtain ⟨rfl, ki7⟩ := g_gO hi7
      replace h := g_bd h
      obtain ⟨v8, hv8, h⟩ := h
      refine GW_callV (X := X_X11_inherits) (pc := 86) (bc0 := 0) (bs0 := 0) (r := some (vi v8)) (M2 := M) (c0 := 8) (T_X8_holdsMost (some i7) v6 M v8 hv8) (Nat.le_of_ble_eq_true rfl) (Nat.le_of_ble_eq_true rfl) rfl g_cok8 ki7 yc_X8_holdsMost ⟨m_976, m_977, m_978, m_119, m_979⟩ d_X11_inherits_86 rfl (st := []) rfl (Nat.le_of_ble_eq_true rfl) (Nat.le_of_ble_eq_true rfl) (Nat.le_of_ble_eq_true rfl) (st2 := [vi v8]) rfl ?_
      refine GW_istore_n (X := X_X11_inherits) (pc := 89) d_X11_inherits_89 rfl (Nat.le_of_ble_eq_true rfl) (lv2 := [(2, vi v8), (0, vr l0), (1, vi l1), (3, vi l3), (4, vi l4)]) rfl ?_
      refine GW_aload_n (X := X_X11_inherits) (pc := 90) d_X11_inherits_90 rfl 1 rfl ?_
      replace h := g_bd h
      obtain ⟨v9, hv9, h⟩ := h
      refine GW_getR (X := X_X11_inherits) (pc := 91) f_X11_29 d_X11_inherits_91 hv9 (Or.inl ⟨_, ty_11_6⟩) ?_
      replace h := g_bd h
      obtain ⟨v10, hv10, h⟩ := h
      refine GW_getI (X := X_X11_inherits) (pc := 94) f_X11_190 d_X11_inherits_94 hv10 (Or.inl ty_8_5) ?_
      refine GW_istore_n (X := X_X11_inherits) (pc := 97) d_X11_inherits_97 rfl (Nat.le_of_ble_eq_true rfl) (lv2 := [(3, vi v10), (2, vi v8), (0, vr l0), (1, vi l1), (4, vi l4)]) rfl ?_
      refine GW_aload_n (X := X_X11_inherits) (pc := 98) d_X11_inherits_98 rfl 2 rfl ?_
      replace h := g_bd h
      obtain ⟨v11, hv11, h⟩ := h
      refine GW_getR (X := X_X11_inherits) (pc := 99) f_X11_18 d_X11_inherits_99 hv11 (Or.inl ⟨_, ty_11_4⟩) ?_
      refine GW_aload_n (X := X_X11_inherits) (pc := 102) d_X11_inherits_102 rfl 2 rfl ?_
      replace h := g_bd h
      obtain ⟨v12, hv12, h⟩ := h
      refine GW_getR (X := X_X11_inherits) (pc := 103) f_X11_59 d_X11_inherits_103 hv12 (Or.inl ⟨_, ty_11_11⟩) ?_
      refine GW_aload_n (X := X_X11_inherits) (pc := 106) d_X11_inherits_106 rfl 2 rfl ?_
      replace h := g_bd h
      obtain ⟨v13, hv13, h⟩ := h
      refine GW_getR (X := X_X11_inherits) (pc := 107) f_X11_29 d_X11_inherits_107 hv13 (Or.inl ⟨_, ty_11_6⟩) ?_
      refine GW_aload_n (X := X_X11_inherits) (pc := 110) d_X11_inherits_110 rfl 2 rfl ?_
      replace h := g_bd h
      obtain ⟨i14, hi14, h⟩ := h
      obtain ⟨rfl, ki14⟩ := g_gO hi14
      replace h := g_bd h
      obtain ⟨v15, hv15, h⟩ := h
      refine GW_callV (X := X_X11_inherits) (pc := 111) (bc0 := 0) (bs0 := 0) (r := some (vr v15)) (M2 := M) (c0 := 11) (T_X11_ruleInForce (some i14) M v15 hv15) (Nat.le_of_ble_eq_true rfl) (Nat.le_of_ble_eq_true rfl) rfl g_cok11 ki14 yc_X11_ruleInForce ⟨m_831, m_833, m_23, m_116, m_834⟩ d_X11_inherits_111 rfl (st := [vr v13, vr v12, vr v11]) rfl (Nat.le_of_ble_eq_true rfl) (Nat.le_of_ble_eq_true rfl) (Nat.le_of_ble_eq_true rfl) (st2 := [vr v15, vr v13, vr v12, vr v11]) rfl ?_
      replace h := g_bd h
      obtain ⟨i16, hi16, h⟩ := h
      obtain ⟨rfl, ki16⟩ := g_gO hi16
      replace h := g_bd h
      obtain ⟨⟨v17, M18⟩, hv17, h⟩ := h
      dsimp only at h
      refine GW_callV (X := X_X11_inherits) (pc := 114) (bc0 := 0) (bs0 := 0) (r := some (vi v17)) (M2 := M18) (c0 := 10) (T_X10_pass (some i16) v12 v13 v15 M (v17, M18) hv17) (Nat.le_of_ble_eq_true rfl) (Nat.le_of_ble_eq_true rfl) rfl g_cok10 ki16 yc_X10_pass ⟨m_835, m_836, m_837, m_117, m_838⟩ d_X11_inherits_114 rfl (st := []) rfl (Nat.le_of_ble_eq_true rfl) (Nat.le_of_ble_eq_true rfl) (Nat.le_of_ble_eq_true rfl) (st2 := [vi v17]) rfl ?_
      refine GW_pop (X := X_X11_inherits) (pc := 117) d_X11_inherits_117 rfl ?_
      refine GW_iinc (j := 4) (X := X_X11_inherits) (pc := 118) d_X11_inherits_118 rfl (congrArg (fun z => _ + z) (by decide : Int32.ofInt 1 = (1 : Int32))) (Nat.le_of_ble_eq_true rfl) (lv2 := [(4, vi (l4 + 1)), (3, vi v10), (2, vi v8), (0, vr (some i14)), (1, vi l1)]) rfl ?_
      refine GW_goto (X := X_X11_inherits) (pc := 121) 56 d_X11_inherits_121 (by decide) ?_
      refine GW_sub [3, 4, 2, 1, 0] rfl ?_
      exact hk56 (some i14) l1 v8 v10 (l4 + 1) M18 h
def F_X11_inherits_L56 : Nat → Option Nat → Int32 → Int32 → Int32 → Int32 → gM → Option (Int32 × gM)
  | 0 => fun _ _ _ _ _ _ => none
  | n + 1 => F_X11_inherits_b56 (F_X11_inherits_L56 n)
theorem T_X11_inherits_L56 (r : (Int32 × gM)) : ∀ (n : Nat) (l0 : Option Nat) (l1 : Int32) (l2 : Int32) (l3 : Int32) (l4 : Int32) (M : gM), F_X11_inherits_L56 n l0 l1 l2 l3 l4 M = some r → GW 5 0 0 X_X11_inherits 56 [(0, vr l0), (1, vi l1), (2, vi l2), (3, vi l3), (4, vi l4)] [] M (some (vi r.1), r.2) := by
  intro n
  induction n with
  | zero => intro l0 l1 l2 l3 l4 M h; exact g_no h
  | succ n ih => intro l0 l1 l2 l3 l4 M h; exact T_X11_inherits_b56 (F_X11_inherits_L56 n) r ih l0 l1 l2 l3 l4 M h
def F_X11_inherits_b0 (l0 : Option Nat) (l1 : Int32) (M : gM) : Option (Int32 × gM) :=
  if l1 < 0 then (F_X11_inherits_b19 M) else (if (1 : Int32) < l1 then (F_X11_inherits_b19 M) else ((gR 11 M l0 11).bind fun v1 => (gI 1 M v1 5).bind fun v2 => if v2 = 0 then (F_X11_inherits_b19 M) else ((gR 11 M l0 5).bind fun v3 => (gR 11 M l0 11).bind fun v4 => (gO 8 M v3).bind fun i5 => (F_X8_isAnyHeld (some i5) v4 M).bind fun v6 => if v6 = 0 then (some ((-2 : Int32), M)) else ((gR 11 M l0 6).bind fun v7 => (gR 11 M l0 5).bind fun v8 => (gO 8 M v7).bind fun i9 => (F_X8_copy (some i9) v8 M).bind fun M10 => F_X11_inherits_L56 g_fuel l0 l1 (-1 : Int32) (-1 : Int32) (0 : Int32) M10))))
set_option maxHeartbeats 1000000 in
theorem T_X11_inherits_b0 (r : (Int32 × gM)) (l0 : Option Nat) (l1 : Int32) (M : gM) (h : F_X11_inherits_b0 l0 l1 M = some r) : GW 5 0 0 X_X11_inherits 0 [(0, vr l0), (1, vi l1)] [] M (some (vi r.1), r.2) := by
  delta F_X11_inherits_b0 at h
  refine GW_iload_n (X := X_X11_inherits) (pc := 0) d_X11_inherits_0 rfl 1 rfl ?_
  refine GW_if_lt (X := X_X11_inherits) (pc := 1) 19 d_X11_inherits_1 (by decide) (fun c => ?_) (fun c => ?_)
  · replace h := g_ip c h
    refine GW_sub [] rfl ?_
    exact T_X11_inherits_b19 r M h
  · replace h := g_ie c h
    refine GW_iload_n (X := X_X11_inherits) (pc := 4) d_X11_inherits_4 rfl 1 rfl ?_
    refine GW_iconst (X := X_X11_inherits) (pc := 5) (v := 1) d_X11_inherits_5 (by decide) ?_
    refine GW_icmp_gt (X := X_X11_inherits) (pc := 6) 19 d_X11_inherits_6 (by decide) (fun c => ?_) (fun c => ?_)
    · replace h := g_ip c h
      refine GW_sub [] rfl ?_
      exact T_X11_inherits_b19 r M h
    · replace h := g_ie c h
      refine GW_aload_n (X := X_X11_inherits) (pc := 9) d_X11_inherits_9 rfl 0 rfl ?_
      replace h := g_bd h
      obtain ⟨v1, hv1, h⟩ := h
      refine GW_getR (X := X_X11_inherits) (pc := 10) f_X11_59 d_X11_inherits_10 hv1 (Or.inl ⟨_, ty_11_11⟩) ?_
      replace h := g_bd h
      obtain ⟨v2, hv2, h⟩ := h
      refine GW_getI (X := X_X11_inherits) (pc := 13) f_X11_204 d_X11_inherits_13 hv2 (Or.inr ty_1_5) ?_
      refine GW_if_ne (X := X_X11_inherits) (pc := 16) 21 d_X11_inherits_16 (by decide) (fun c => ?_) (fun c => ?_)
      · replace h := g_ie c h
        refine GW_aload_n (X := X_X11_inherits) (pc := 21) d_X11_inherits_21 rfl 0 rfl ?_
        replace h := g_bd h
        obtain ⟨v3, hv3, h⟩ := h
        refine GW_getR (X := X_X11_inherits) (pc := 22) f_X11_25 d_X11_inherits_22 hv3 (Or.inl ⟨_, ty_11_5⟩) ?_
        refine GW_aload_n (X := X_X11_inherits) (pc := 25) d_X11_inherits_25 rfl 0 rfl ?_
        replace h := g_bd h
        obtain ⟨v4, hv4, h⟩ := h
        refine GW_getR (X := X_X11_inherits) (pc := 26) f_X11_59 d_X11_inherits_26 hv4 (Or.inl ⟨_, ty_11_11⟩) ?_
        replace h := g_bd h
        obtain ⟨i5, hi5, h⟩ := h
        obtain ⟨rfl, ki5⟩ := g_gO hi5
        replace h := g_bd h
        obtain ⟨v6, hv6, h⟩ := h
        refine GW_callV (X := X_X11_inherits) (pc := 29) (bc0 := 0) (bs0 := 0) (r := some (vi v6)) (M2 := M) (c0 := 8) (T_X8_isAnyHeld (some i5) v4 M v6 hv6) (Nat.le_of_ble_eq_true rfl) (Nat.le_of_ble_eq_true rfl) rfl g_cok8 ki5 yc_X8_isAnyHeld ⟨m_972, m_973, m_974, m_119, m_975⟩ d_X11_inherits_29 rfl (st := []) rfl (Nat.le_of_ble_eq_true rfl) (Nat.le_of_ble_eq_true rfl) (Nat.le_of_ble_eq_true rfl) (st2 := [vi v6]) rfl ?_
        refine GW_if_ne (X := X_X11_inherits) (pc := 32) 38 d_X11_inherits_32 (by decide) (fun c => ?_) (fun c => ?_)
        · replace h := g_ie c h
          refine GW_aload_n (X := X_X11_inherits) (pc := 38) d_X11_inherits_38 rfl 0 rfl ?_
          replace h := g_bd h
          obtain ⟨v7, hv7, h⟩ := h
          refine GW_getR (X := X_X11_inherits) (pc := 39) f_X11_29 d_X11_inherits_39 hv7 (Or.inl ⟨_, ty_11_6⟩) ?_
          refine GW_aload_n (X := X_X11_inherits) (pc := 42) d_X11_inherits_42 rfl 0 rfl ?_
          replace h := g_bd h
          obtain ⟨v8, hv8, h⟩ := h
          refine GW_getR (X := X_X11_inherits) (pc := 43) f_X11_25 d_X11_inherits_43 hv8 (Or.inl ⟨_, ty_11_5⟩) ?_
          replace h := g_bd h
          obtain ⟨i9, hi9, h⟩ := h
          obtain ⟨rfl, ki9⟩ := g_gO hi9
          replace h := g_bd h
          obtain ⟨M10, hM10, h⟩ := h
          refine GW_callV (X := X_X11_inherits) (pc := 46) (bc0 := 0) (bs0 := 0) (r := none) (M2 := M10) (c0 := 8) (T_X8_copy (some i9) v8 M M10 hM10) (Nat.le_of_ble_eq_true rfl) (Nat.le_of_ble_eq_true rfl) rfl g_cok8 ki9 yc_X8_copy ⟨m_664, m_665, m_666, m_119, m_667⟩ d_X11_inherits_46 rfl (st := []) rfl (Nat.le_of_ble_eq_true rfl) (Nat.le_of_ble_eq_true rfl) (Nat.le_of_ble_eq_true rfl) (st2 := []) rfl ?_
          refine GW_iconst (X := X_X11_inherits) (pc := 49) (v := -1) d_X11_inherits_49 (by decide) ?_
          refine GW_istore_n (X := X_X11_inherits) (pc := 50) d_X11_inherits_50 rfl (Nat.le_of_ble_eq_true rfl) (lv2 := [(2, vi (-1 : Int32)), (0, vr l0), (1, vi l1)]) rfl ?_
          refine GW_iconst (X := X_X11_inherits) (pc := 51) (v := -1) d_X11_inherits_51 (by decide) ?_
          refine GW_istore_n (X := X_X11_inherits) (pc := 52) d_X11_inherits_52 rfl (Nat.le_of_ble_eq_true rfl) (lv2 := [(3, vi (-1 : Int32)), (2, vi (-1 : Int32)), (0, vr l0), (1, vi l1)]) rfl ?_
          refine GW_iconst (X := X_X11_inherits) (pc := 53) (v := 0) d_X11_inherits_53 (by decide) ?_
          refine GW_istore (X := X_X11_inherits) (pc := 54) d_X11_inherits_54 (Nat.le_of_ble_eq_true rfl) (lv2 := [(4, vi (0 : Int32)), (3, vi (-1 : Int32)), (2, vi (-1 : Int32)), (0, vr l0), (1, vi l1)]) rfl ?_
          refine GW_sub [3, 4, 2, 1, 0] rfl ?_
          exact T_X11_inherits_L56 r g_fuel l0 l1 (-1 : Int32) (-1 : Int32) (0 : Int32) M10 h
        · replace h := g_ip c h
          refine GW_bipush (X := X_X11_inherits) (pc := 35) (v := -2) d_X11_inherits_35 (by decide) ?_
          replace h := Option.some.inj h
          subst h
          exact GW_ret (X := X_X11_inherits) (pc := 37) d_X11_inherits_37 rfl trivial
      · replace h := g_ip c h
        refine GW_sub [] rfl ?_
        exact T_X11_inherits_b19 r M h
def F_X11_inherits (l0 : Option Nat) (l1 : Int32) (M : gM) : Option (Int32 × gM) := F_X11_inherits_b0 l0 l1 M
theorem T_X11_inherits (l0 : Option Nat) (l1 : Int32) (M : gM) (r : (Int32 × gM)) (h : F_X11_inherits l0 l1 M = some r) : g_Met 5 0 0 yX11_inherits X_X11_inherits [vr l0, vi l1] M (some (vi r.1), r.2) :=
  g_Met_of pn_RX11 rfl (Nat.le_of_ble_eq_true rfl) (fun h => by cases h) (GW_sub [0, 1] rfl (T_X11_inherits_b0 r l0 l1 M h))
/-! ForgetHeirsModel.bits(I)I -/
theorem d_X12_bits_0 : decode cX12_bits 0 = .ok (.iconst 0, 1) := by decide +kernel
theorem d_X12_bits_1 : decode cX12_bits 1 = .ok (.istore_n 1, 1) := by decide +kernel
theorem d_X12_bits_2 : decode cX12_bits 2 = .ok (.iload_n 0, 1) := by decide +kernel
theorem d_X12_bits_3 : decode cX12_bits 3 = .ok (.istore_n 2, 1) := by decide +kernel
theorem d_X12_bits_4 : decode cX12_bits 4 = .ok (.iload_n 2, 1) := by decide +kernel
theorem d_X12_bits_5 : decode cX12_bits 5 = .ok (.ifCond .eq 15, 3) := by decide +kernel
theorem d_X12_bits_8 : decode cX12_bits 8 = .ok (.iinc 1 1, 3) := by decide +kernel
theorem d_X12_bits_11 : decode cX12_bits 11 = .ok (.iload_n 2, 1) := by decide +kernel
theorem d_X12_bits_12 : decode cX12_bits 12 = .ok (.iload_n 2, 1) := by decide +kernel
theorem d_X12_bits_13 : decode cX12_bits 13 = .ok (.iconst 1, 1) := by decide +kernel
theorem d_X12_bits_14 : decode cX12_bits 14 = .ok (.isub, 1) := by decide +kernel
theorem d_X12_bits_15 : decode cX12_bits 15 = .ok (.iand, 1) := by decide +kernel
theorem d_X12_bits_16 : decode cX12_bits 16 = .ok (.istore_n 2, 1) := by decide +kernel
theorem d_X12_bits_17 : decode cX12_bits 17 = .ok (.goto (-13), 3) := by decide +kernel
theorem d_X12_bits_20 : decode cX12_bits 20 = .ok (.iload_n 1, 1) := by decide +kernel
theorem d_X12_bits_21 : decode cX12_bits 21 = .ok (.ireturn, 1) := by decide +kernel
abbrev X_X12_bits : gX := (RX12, cX12_bits, 3, (some .int), false)
def F_X12_bits_b4 (k4 : Int32 → Int32 → Option Int32) (M : gM) (l1 : Int32) (l2 : Int32) : Option Int32 :=
  if l2 = 0 then (some l1) else (k4 (l1 + 1) (l2 &&& (l2 - (1 : Int32))))
theorem T_X12_bits_b4 (k4 : Int32 → Int32 → Option Int32) (M : gM) (r : Int32) (hk4 : ∀ (l1 : Int32) (l2 : Int32), k4 l1 l2 = some r → GW 0 0 0 X_X12_bits 4 [(1, vi l1), (2, vi l2)] [] M (some (vi r), M)) (l1 : Int32) (l2 : Int32) (h : F_X12_bits_b4 k4 M l1 l2 = some r) : GW 0 0 0 X_X12_bits 4 [(1, vi l1), (2, vi l2)] [] M (some (vi r), M) := by
  delta F_X12_bits_b4 at h
  refine GW_iload_n (X := X_X12_bits) (pc := 4) d_X12_bits_4 rfl 1 rfl ?_
  refine GW_if_eq (X := X_X12_bits) (pc := 5) 20 d_X12_bits_5 (by decide) (fun c => ?_) (fun c => ?_)
  · replace h := g_ip c h
    refine GW_iload_n (X := X_X12_bits) (pc := 20) d_X12_bits_20 rfl 0 rfl ?_
    replace h := Option.some.inj h
    subst h
    exact GW_ret (X := X_X12_bits) (pc := 21) d_X12_bits_21 rfl trivial
  · replace h := g_ie c h
    refine GW_iinc (j := 0) (X := X_X12_bits) (pc := 8) d_X12_bits_8 rfl (congrArg (fun z => _ + z) (by decide : Int32.ofInt 1 = (1 : Int32))) (Nat.le_of_ble_eq_true rfl) (lv2 := [(1, vi (l1 + 1)), (2, vi l2)]) rfl ?_
    refine GW_iload_n (X := X_X12_bits) (pc := 11) d_X12_bits_11 rfl 1 rfl ?_
    refine GW_iload_n (X := X_X12_bits) (pc := 12) d_X12_bits_12 rfl 1 rfl ?_
    refine GW_iconst (X := X_X12_bits) (pc := 13) (v := 1) d_X12_bits_13 (by decide) ?_
    refine GW_isub (X := X_X12_bits) (pc := 14) d_X12_bits_14 ?_
    refine GW_iand (X := X_X12_bits) (pc := 15) d_X12_bits_15 ?_
    refine GW_istore_n (X := X_X12_bits) (pc := 16) d_X12_bits_16 rfl (Nat.le_of_ble_eq_true rfl) (lv2 := [(2, vi (l2 &&& (l2 - (1 : Int32)))), (1, vi (l1 + 1))]) rfl ?_
    refine GW_goto (X := X_X12_bits) (pc := 17) 4 d_X12_bits_17 (by decide) ?_
    refine GW_sub [1, 0] rfl ?_
    exact hk4 (l1 + 1) (l2 &&& (l2 - (1 : Int32))) h
def F_X12_bits_L4 (M : gM) : Nat → Int32 → Int32 → Option Int32
  | 0 => fun _ _ => none
  | n + 1 => F_X12_bits_b4 (F_X12_bits_L4 M n) M
theorem T_X12_bits_L4 (M : gM) (r : Int32) : ∀ (n : Nat) (l1 : Int32) (l2 : Int32), F_X12_bits_L4 M n l1 l2 = some r → GW 0 0 0 X_X12_bits 4 [(1, vi l1), (2, vi l2)] [] M (some (vi r), M) := by
  intro n
  induction n with
  | zero => intro l1 l2 h; exact g_no h
  | succ n ih => intro l1 l2 h; exact T_X12_bits_b4 (F_X12_bits_L4 M n) M r ih l1 l2 h
def F_X12_bits_b0 (M : gM) (l0 : Int32) : Option Int32 :=
  F_X12_bits_L4 M g_fuel (0 : Int32) l0
theorem T_X12_bits_b0 (M : gM) (r : Int32) (l0 : Int32) (h : F_X12_bits_b0 M l0 = some r) : GW 0 0 0 X_X12_bits 0 [(0, vi l0)] [] M (some (vi r), M) := by
  delta F_X12_bits_b0 at h
  refine GW_iconst (X := X_X12_bits) (pc := 0) (v := 0) d_X12_bits_0 (by decide) ?_
  refine GW_istore_n (X := X_X12_bits) (pc := 1) d_X12_bits_1 rfl (Nat.le_of_ble_eq_true rfl) (lv2 := [(1, vi (0 : Int32)), (0, vi l0)]) rfl ?_
  refine GW_iload_n (X := X_X12_bits) (pc := 2) d_X12_bits_2 rfl 1 rfl ?_
  refine GW_istore_n (X := X_X12_bits) (pc := 3) d_X12_bits_3 rfl (Nat.le_of_ble_eq_true rfl) (lv2 := [(2, vi l0), (1, vi (0 : Int32)), (0, vi l0)]) rfl ?_
  refine GW_sub [1, 0] rfl ?_
  exact T_X12_bits_L4 M r g_fuel (0 : Int32) l0 h
def F_X12_bits (l0 : Int32) (M : gM) : Option Int32 := F_X12_bits_b0 M l0
theorem T_X12_bits (l0 : Int32) (M : gM) (r : Int32) (h : F_X12_bits l0 M = some r) : g_Met 0 0 0 yX12_bits X_X12_bits [vi l0] M (some (vi r), M) :=
  g_Met_of pn_RX12 rfl (Nat.le_of_ble_eq_true rfl) (fun h => by cases h) (GW_sub [0] rfl (T_X12_bits_b0 M r l0 h))
/-! ForgetHeirsModel.most()I -/
theorem d_X12_most_0 : decode cX12_most 0 = .ok (.iconst (-1), 1) := by decide +kernel
theorem d_X12_most_1 : decode cX12_most 1 = .ok (.istore_n 1, 1) := by decide +kernel
theorem d_X12_most_2 : decode cX12_most 2 = .ok (.iconst 0, 1) := by decide +kernel
theorem d_X12_most_3 : decode cX12_most 3 = .ok (.istore_n 2, 1) := by decide +kernel
theorem d_X12_most_4 : decode cX12_most 4 = .ok (.iload_n 2, 1) := by decide +kernel
theorem d_X12_most_5 : decode cX12_most 5 = .ok (.aload_n 0, 1) := by decide +kernel
theorem d_X12_most_6 : decode cX12_most 6 = .ok (.getfield 39, 3) := by decide +kernel
theorem d_X12_most_9 : decode cX12_most 9 = .ok (.iconst 2, 1) := by decide +kernel
theorem d_X12_most_10 : decode cX12_most 10 = .ok (.iaload, 1) := by decide +kernel
theorem d_X12_most_11 : decode cX12_most 11 = .ok (.if_icmp .ge 42, 3) := by decide +kernel
theorem d_X12_most_14 : decode cX12_most 14 = .ok (.aload_n 0, 1) := by decide +kernel
theorem d_X12_most_15 : decode cX12_most 15 = .ok (.iload_n 2, 1) := by decide +kernel
theorem d_X12_most_16 : decode cX12_most 16 = .ok (.invokevirtual 313, 3) := by decide +kernel
theorem d_X12_most_19 : decode cX12_most 19 = .ok (.ifCond .eq 28, 3) := by decide +kernel
theorem d_X12_most_22 : decode cX12_most 22 = .ok (.iload_n 1, 1) := by decide +kernel
theorem d_X12_most_23 : decode cX12_most 23 = .ok (.ifCond .lt 22, 3) := by decide +kernel
theorem d_X12_most_26 : decode cX12_most 26 = .ok (.aload_n 0, 1) := by decide +kernel
theorem d_X12_most_27 : decode cX12_most 27 = .ok (.iload_n 2, 1) := by decide +kernel
theorem d_X12_most_28 : decode cX12_most 28 = .ok (.invokevirtual 313, 3) := by decide +kernel
theorem d_X12_most_31 : decode cX12_most 31 = .ok (.invokestatic 316, 3) := by decide +kernel
theorem d_X12_most_34 : decode cX12_most 34 = .ok (.aload_n 0, 1) := by decide +kernel
theorem d_X12_most_35 : decode cX12_most 35 = .ok (.iload_n 1, 1) := by decide +kernel
theorem d_X12_most_36 : decode cX12_most 36 = .ok (.invokevirtual 313, 3) := by decide +kernel
theorem d_X12_most_39 : decode cX12_most 39 = .ok (.invokestatic 316, 3) := by decide +kernel
theorem d_X12_most_42 : decode cX12_most 42 = .ok (.if_icmp .le 5, 3) := by decide +kernel
theorem d_X12_most_45 : decode cX12_most 45 = .ok (.iload_n 2, 1) := by decide +kernel
theorem d_X12_most_46 : decode cX12_most 46 = .ok (.istore_n 1, 1) := by decide +kernel
theorem d_X12_most_47 : decode cX12_most 47 = .ok (.iinc 2 1, 3) := by decide +kernel
theorem d_X12_most_50 : decode cX12_most 50 = .ok (.goto (-46), 3) := by decide +kernel
theorem d_X12_most_53 : decode cX12_most 53 = .ok (.iload_n 1, 1) := by decide +kernel
theorem d_X12_most_54 : decode cX12_most 54 = .ok (.ireturn, 1) := by decide +kernel
abbrev X_X12_most : gX := (RX12, cX12_most, 3, (some .int), false)
def F_X12_most_b47 (k4 : Option Nat → Int32 → Int32 → Option Int32) (M : gM) (l0 : Option Nat) (l1 : Int32) (l2 : Int32) : Option Int32 :=
  k4 l0 l1 (l2 + 1)
theorem T_X12_most_b47 (k4 : Option Nat → Int32 → Int32 → Option Int32) (M : gM) (r : Int32) (hk4 : ∀ (l0 : Option Nat) (l1 : Int32) (l2 : Int32), k4 l0 l1 l2 = some r → GW 4 0 0 X_X12_most 4 [(0, vr l0), (1, vi l1), (2, vi l2)] [] M (some (vi r), M)) (l0 : Option Nat) (l1 : Int32) (l2 : Int32) (h : F_X12_most_b47 k4 M l0 l1 l2 = some r) : GW 4 0 0 X_X12_most 47 [(0, vr l0), (1, vi l1), (2, vi l2)] [] M (some (vi r), M) := by
  delta F_X12_most_b47 at h
  refine GW_iinc (j := 2) (X := X_X12_most) (pc := 47) d_X12_most_47 rfl (congrArg (fun z => _ + z) (by decide : Int32.ofInt 1 = (1 : Int32))) (Nat.le_of_ble_eq_true rfl) (lv2 := [(2, vi (l2 + 1)), (0, vr l0), (1, vi l1)]) rfl ?_
  refine GW_goto (X := X_X12_most) (pc := 50) 4 d_X12_most_50 (by decide) ?_
  refine GW_sub [1, 2, 0] rfl ?_
  exact hk4 l0 l1 (l2 + 1) h
def F_X12_most_b45 (k4 : Option Nat → Int32 → Int32 → Option Int32) (M : gM) (l0 : Option Nat) (l2 : Int32) : Option Int32 :=
  F_X12_most_b47 k4 M l0 l2 l2
theorem T_X12_most_b45 (k4 : Option Nat → Int32 → Int32 → Option Int32) (M : gM) (r : Int32) (hk4 : ∀ (l0 : Option Nat) (l1 : Int32) (l2 : Int32), k4 l0 l1 l2 = some r → GW 4 0 0 X_X12_most 4 [(0, vr l0), (1, vi l1), (2, vi l2)] [] M (some (vi r), M)) (l0 : Option Nat) (l2 : Int32) (h : F_X12_most_b45 k4 M l0 l2 = some r) : GW 4 0 0 X_X12_most 45 [(0, vr l0), (2, vi l2)] [] M (some (vi r), M) := by
  delta F_X12_most_b45 at h
  refine GW_iload_n (X := X_X12_most) (pc := 45) d_X12_most_45 rfl 1 rfl ?_
  refine GW_istore_n (X := X_X12_most) (pc := 46) d_X12_most_46 rfl (Nat.le_of_ble_eq_true rfl) (lv2 := [(1, vi l2), (0, vr l0), (2, vi l2)]) rfl ?_
  refine GW_sub [1, 0, 2] rfl ?_
  exact T_X12_most_b47 k4 M r hk4 l0 l2 l2 h
def F_X12_most_b4 (k4 : Option Nat → Int32 → Int32 → Option Int32) (M : gM) (l0 : Option Nat) (l1 : Int32) (l2 : Int32) : Option Int32 :=
  (gR 12 M l0 20).bind fun v1 => (aI 20 M v1 (2 : Int32)).bind fun v2 => if v2 ≤ l2 then (some l1) else ((gO 12 M l0).bind fun i3 => (F_X12_holdsOf (some i3) l2 M).bind fun v4 => if v4 = 0 then (F_X12_most_b47 k4 M (some i3) l1 l2) else (if l1 < 0 then (F_X12_most_b45 k4 M (some i3) l2) else ((F_X12_holdsOf (some i3) l2 M).bind fun v5 => (F_X12_bits v5 M).bind fun v6 => (F_X12_holdsOf (some i3) l1 M).bind fun v7 => (F_X12_bits v7 M).bind fun v8 => if v6 ≤ v8 then (F_X12_most_b47 k4 M (some i3) l1 l2) else (F_X12_most_b45 k4 M (some i3) l2))))
set_option maxHeartbeats 1000000 in
theorem T_X12_most_b4 (k4 : Option Nat → Int32 → Int32 → Option Int32) (M : gM) (r : Int32) (hk4 : ∀ (l0 : Option Nat) (l1 : Int32) (l2 : Int32), k4 l0 l1 l2 = some r → GW 4 0 0 X_X12_most 4 [(0, vr l0), (1, vi l1), (2, vi l2)] [] M (some (vi r), M)) (l0 : Option Nat) (l1 : Int32) (l2 : Int32) (h : F_X12_most_b4 k4 M l0 l1 l2 = some r) : GW 4 0 0 X_X12_most 4 [(0, vr l0), (1, vi l1), (2, vi l2)] [] M (some (vi r), M) := by
  delta F_X12_most_b4 at h
  refine GW_iload_n (X := X_X12_most) (pc := 4) d_X12_most_4 rfl 2 rfl ?_
  refine GW_aload_n (X := X_X12_most) (pc := 5) d_X12_most_5 rfl 0 rfl ?_
  replace h := g_bd h
  obtain ⟨v1, hv1, h⟩ := h
  refine GW_getR (X := X_X12_most) (pc := 6) f_X12_39 d_X12_most_6 hv1 (Or.inr ⟨_, ty_12_20⟩) ?_
  refine GW_iconst (X := X_X12_most) (pc := 9) (v := 2) d_X12_most_9 (by decide) ?_
  replace h := g_bd h
  obtain ⟨v2, hv2, h⟩ := h
  refine GW_iald (X := X_X12_most) (pc := 10) d_X12_most_10 hv2 ?_
  refine GW_icmp_ge (X := X_X12_most) (pc := 11) 53 d_X12_most_11 (by decide) (fun c => ?_) (fun c => ?_)
  · replace h := g_ip c h
    refine GW_iload_n (X := X_X12_most) (pc := 53) d_X12_most_53 rfl 1 rfl ?_
    replace h := Option.some.inj h
    subst h
    exact GW_ret (X := X_X12_most) (pc := 54) d_X12_most_54 rfl trivial
  · replace h := g_ie c h
    refine GW_aload_n (X := X_X12_most) (pc := 14) d_X12_most_14 rfl 0 rfl ?_
    refine GW_iload_n (X := X_X12_most) (pc := 15) d_X12_most_15 rfl 2 rfl ?_
    replace h := g_bd h
    obtain ⟨i3, hi3, h⟩ := h
    obtain ⟨rfl, ki3⟩ := g_gO hi3
    replace h := g_bd h
    obtain ⟨v4, hv4, h⟩ := h
    refine GW_callV (X := X_X12_most) (pc := 16) (bc0 := 0) (bs0 := 0) (r := some (vi v4)) (M2 := M) (c0 := 12) (T_X12_holdsOf (some i3) l2 M v4 hv4) (Nat.le_of_ble_eq_true rfl) (Nat.le_of_ble_eq_true rfl) rfl g_cok12 ki3 yc_X12_holdsOf ⟨m_1420, m_1422, m_77, m_127, m_1423⟩ d_X12_most_16 rfl (st := []) rfl (Nat.le_of_ble_eq_true rfl) (Nat.le_of_ble_eq_true rfl) (Nat.le_of_ble_eq_true rfl) (st2 := [vi v4]) rfl ?_
    refine GW_if_eq (X := X_X12_most) (pc := 19) 47 d_X12_most_19 (by decide) (fun c => ?_) (fun c => ?_)
    · replace h := g_ip c h
      exact T_X12_most_b47 k4 M r hk4 (some i3) l1 l2 h
    · replace h := g_ie c h
      refine GW_iload_n (X := X_X12_most) (pc := 22) d_X12_most_22 rfl 1 rfl ?_
      refine GW_if_lt (X := X_X12_most) (pc := 23) 45 d_X12_most_23 (by decide) (fun c => ?_) (fun c => ?_)
      · replace h := g_ip c h
        refine GW_sub [0, 2] rfl ?_
        exact T_X12_most_b45 k4 M r hk4 (some i3) l2 h
      · replace h := g_ie c h
        refine GW_aload_n (X := X_X12_most) (pc := 26) d_X12_most_26 rfl 0 rfl ?_
        refine GW_iload_n (X := X_X12_most) (pc := 27) d_X12_most_27 rfl 2 rfl ?_
        replace h := g_bd h
        obtain ⟨v5, hv5, h⟩ := h
        refine GW_callV (X := X_X12_most) (pc := 28) (bc0 := 0) (bs0 := 0) (r := some (vi v5)) (M2 := M) (c0 := 12) (T_X12_holdsOf (some i3) l2 M v5 hv5) (Nat.le_of_ble_eq_true rfl) (Nat.le_of_ble_eq_true rfl) rfl g_cok12 ki3 yc_X12_holdsOf ⟨m_1420, m_1422, m_77, m_127, m_1423⟩ d_X12_most_28 rfl (st := []) rfl (Nat.le_of_ble_eq_true rfl) (Nat.le_of_ble_eq_true rfl) (Nat.le_of_ble_eq_true rfl) (st2 := [vi v5]) rfl ?_
        replace h := g_bd h
        obtain ⟨v6, hv6, h⟩ := h
        refine GW_callS (X := X_X12_most) (pc := 31) (bc0 := 0) (bs0 := 0) (r := some (vi v6)) (M2 := M) (T_X12_bits v5 M v6 hv6) (Nat.le_of_ble_eq_true rfl) (Nat.le_of_ble_eq_true rfl) yc_X12_bits ⟨m_1578, m_1579, m_127, m_1580⟩ d_X12_most_31 rfl (st := []) rfl (Nat.le_of_ble_eq_true rfl) (Nat.le_of_ble_eq_true rfl) (Nat.le_of_ble_eq_true rfl) (st2 := [vi v6]) rfl ?_
        refine GW_aload_n (X := X_X12_most) (pc := 34) d_X12_most_34 rfl 0 rfl ?_
        refine GW_iload_n (X := X_X12_most) (pc := 35) d_X12_most_35 rfl 1 rfl ?_
        replace h := g_bd h
        obtain ⟨v7, hv7, h⟩ := h
        refine GW_callV (X := X_X12_most) (pc := 36) (bc0 := 0) (bs0 := 0) (r := some (vi v7)) (M2 := M) (c0 := 12) (T_X12_holdsOf (some i3) l1 M v7 hv7) (Nat.le_of_ble_eq_true rfl) (Nat.le_of_ble_eq_true rfl) rfl g_cok12 ki3 yc_X12_holdsOf ⟨m_1420, m_1422, m_77, m_127, m_1423⟩ d_X12_most_36 rfl (st := [vi v6]) rfl (Nat.le_of_ble_eq_true rfl) (Nat.le_of_ble_eq_true rfl) (Nat.le_of_ble_eq_true rfl) (st2 := [vi v7, vi v6]) rfl ?_
        replace h := g_bd h
        obtain ⟨v8, hv8, h⟩ := h
        refine GW_callS (X := X_X12_most) (pc := 39) (bc0 := 0) (bs0 := 0) (r := some (vi v8)) (M2 := M) (T_X12_bits v7 M v8 hv8) (Nat.le_of_ble_eq_true rfl) (Nat.le_of_ble_eq_true rfl) yc_X12_bits ⟨m_1578, m_1579, m_127, m_1580⟩ d_X12_most_39 rfl (st := [vi v6]) rfl (Nat.le_of_ble_eq_true rfl) (Nat.le_of_ble_eq_true rfl) (Nat.le_of_ble_eq_true rfl) (st2 := [vi v8, vi v6]) rfl ?_
        refine GW_icmp_le (X := X_X12_most) (pc := 42) 47 d_X12_most_42 (by decide) (fun c => ?_) (fun c => ?_)
        · replace h := g_ip c h
          exact T_X12_most_b47 k4 M r hk4 (some i3) l1 l2 h
        · replace h := g_ie c h
          refine GW_sub [0, 2] rfl ?_
          exact T_X12_most_b45 k4 M r hk4 (some i3) l2 h
def F_X12_most_L4 (M : gM) : Nat → Option Nat → Int32 → Int32 → Option Int32
  | 0 => fun _ _ _ => none
  | n + 1 => F_X12_most_b4 (F_X12_most_L4 M n) M
theorem T_X12_most_L4 (M : gM) (r : Int32) : ∀ (n : Nat) (l0 : Option Nat) (l1 : Int32) (l2 : Int32), F_X12_most_L4 M n l0 l1 l2 = some r → GW 4 0 0 X_X12_most 4 [(0, vr l0), (1, vi l1), (2, vi l2)] [] M (some (vi r), M) := by
  intro n
  induction n with
  | zero => intro l0 l1 l2 h; exact g_no h
  | succ n ih => intro l0 l1 l2 h; exact T_X12_most_b4 (F_X12_most_L4 M n) M r ih l0 l1 l2 h
def F_X12_most_b0 (M : gM) (l0 : Option Nat) : Option Int32 :=
  F_X12_most_L4 M g_fuel l0 (-1 : Int32) (0 : Int32)
theorem T_X12_most_b0 (M : gM) (r : Int32) (l0 : Option Nat) (h : F_X12_most_b0 M l0 = some r) : GW 4 0 0 X_X12_most 0 [(0, vr l0)] [] M (some (vi r), M) := by
  delta F_X12_most_b0 at h
  refine GW_iconst (X := X_X12_most) (pc := 0) (v := -1) d_X12_most_0 (by decide) ?_
  refine GW_istore_n (X := X_X12_most) (pc := 1) d_X12_most_1 rfl (Nat.le_of_ble_eq_true rfl) (lv2 := [(1, vi (-1 : Int32)), (0, vr l0)]) rfl ?_
  refine GW_iconst (X := X_X12_most) (pc := 2) (v := 0) d_X12_most_2 (by decide) ?_
  refine GW_istore_n (X := X_X12_most) (pc := 3) d_X12_most_3 rfl (Nat.le_of_ble_eq_true rfl) (lv2 := [(2, vi (0 : Int32)), (1, vi (-1 : Int32)), (0, vr l0)]) rfl ?_
  refine GW_sub [2, 1, 0] rfl ?_
  exact T_X12_most_L4 M r g_fuel l0 (-1 : Int32) (0 : Int32) h
def F_X12_most (l0 : Option Nat) (M : gM) : Option Int32 := F_X12_most_b0 M l0
theorem T_X12_most (l0 : Option Nat) (M : gM) (r : Int32) (h : F_X12_most l0 M = some r) : g_Met 4 0 0 yX12_most X_X12_most [vr l0] M (some (vi r), M) :=
  g_Met_of pn_RX12 rfl (Nat.le_of_ble_eq_true rfl) (fun h => by cases h) (GW_sub [0] rfl (T_X12_most_b0 M r l0 h))
/-! ForgetHeirsModel.inherits(I)I -/
theorem d_X12_inherits_0 : decode cX12_inherits 0 = .ok (.aload_n 0, 1) := by decide +kernel
theorem d_X12_inherits_1 : decode cX12_inherits 1 = .ok (.invokevirtual 362, 3) := by decide +kernel
theorem d_X12_inherits_4 : decode cX12_inherits 4 = .ok (.ifCond .eq 13, 3) := by decide +kernel
theorem d_X12_inherits_7 : decode cX12_inherits 7 = .ok (.iload_n 1, 1) := by decide +kernel
theorem d_X12_inherits_8 : decode cX12_inherits 8 = .ok (.i2l, 1) := by decide +kernel
theorem d_X12_inherits_9 : decode cX12_inherits 9 = .ok (.lconst 0, 1) := by decide +kernel
theorem d_X12_inherits_10 : decode cX12_inherits 10 = .ok (.lconst 1, 1) := by decide +kernel
theorem d_X12_inherits_11 : decode cX12_inherits 11 = .ok (.invokestatic 118, 3) := by decide +kernel
theorem d_X12_inherits_14 : decode cX12_inherits 14 = .ok (.ifCond .ne 5, 3) := by decide +kernel
theorem d_X12_inherits_17 : decode cX12_inherits 17 = .ok (.iconst (-1), 1) := by decide +kernel
theorem d_X12_inherits_18 : decode cX12_inherits 18 = .ok (.ireturn, 1) := by decide +kernel
theorem d_X12_inherits_19 : decode cX12_inherits 19 = .ok (.bipush (-2), 2) := by decide +kernel
theorem d_X12_inherits_21 : decode cX12_inherits 21 = .ok (.istore_n 2, 1) := by decide +kernel
theorem d_X12_inherits_22 : decode cX12_inherits 22 = .ok (.bipush (-2), 2) := by decide +kernel
theorem d_X12_inherits_24 : decode cX12_inherits 24 = .ok (.istore_n 3, 1) := by decide +kernel
theorem d_X12_inherits_25 : decode cX12_inherits 25 = .ok (.aload_n 0, 1) := by decide +kernel
theorem d_X12_inherits_26 : decode cX12_inherits 26 = .ok (.invokevirtual 383, 3) := by decide +kernel
theorem d_X12_inherits_29 : decode cX12_inherits 29 = .ok (.iconst 0, 1) := by decide +kernel
theorem d_X12_inherits_30 : decode cX12_inherits 30 = .ok (.istore 4, 2) := by decide +kernel
theorem d_X12_inherits_32 : decode cX12_inherits 32 = .ok (.iload 4, 2) := by decide +kernel
theorem d_X12_inherits_34 : decode cX12_inherits 34 = .ok (.sipush 200, 3) := by decide +kernel
theorem d_X12_inherits_37 : decode cX12_inherits 37 = .ok (.if_icmp .gt 35, 3) := by decide +kernel
theorem d_X12_inherits_40 : decode cX12_inherits 40 = .ok (.aload_n 0, 1) := by decide +kernel
theorem d_X12_inherits_41 : decode cX12_inherits 41 = .ok (.invokevirtual 392, 3) := by decide +kernel
theorem d_X12_inherits_44 : decode cX12_inherits 44 = .ok (.istore 5, 2) := by decide +kernel
theorem d_X12_inherits_46 : decode cX12_inherits 46 = .ok (.iload 5, 2) := by decide +kernel
theorem d_X12_inherits_48 : decode cX12_inherits 48 = .ok (.ifCond .lt 13, 3) := by decide +kernel
theorem d_X12_inherits_51 : decode cX12_inherits 51 = .ok (.iload 5, 2) := by decide +kernel
theorem d_X12_inherits_53 : decode cX12_inherits 53 = .ok (.istore_n 2, 1) := by decide +kernel
theorem d_X12_inherits_54 : decode cX12_inherits 54 = .ok (.aload_n 0, 1) := by decide +kernel
theorem d_X12_inherits_55 : decode cX12_inherits 55 = .ok (.getfield 39, 3) := by decide +kernel
theorem d_X12_inherits_58 : decode cX12_inherits 58 = .ok (.iconst 4, 1) := by decide +kernel
theorem d_X12_inherits_59 : decode cX12_inherits 59 = .ok (.iaload, 1) := by decide +kernel
theorem d_X12_inherits_60 : decode cX12_inherits 60 = .ok (.istore_n 3, 1) := by decide +kernel
theorem d_X12_inherits_61 : decode cX12_inherits 61 = .ok (.aload_n 0, 1) := by decide +kernel
theorem d_X12_inherits_62 : decode cX12_inherits 62 = .ok (.invokevirtual 368, 3) := by decide +kernel
theorem d_X12_inherits_65 : decode cX12_inherits 65 = .ok (.pop, 1) := by decide +kernel
theorem d_X12_inherits_66 : decode cX12_inherits 66 = .ok (.iinc 4 1, 3) := by decide +kernel
theorem d_X12_inherits_69 : decode cX12_inherits 69 = .ok (.goto (-37), 3) := by decide +kernel
theorem d_X12_inherits_72 : decode cX12_inherits 72 = .ok (.aload_n 0, 1) := by decide +kernel
theorem d_X12_inherits_73 : decode cX12_inherits 73 = .ok (.invokevirtual 386, 3) := by decide +kernel
theorem d_X12_inherits_76 : decode cX12_inherits 76 = .ok (.iload_n 3, 1) := by decide +kernel
theorem d_X12_inherits_77 : decode cX12_inherits 77 = .ok (.aload_n 0, 1) := by decide +kernel
theorem d_X12_inherits_78 : decode cX12_inherits 78 = .ok (.getfield 39, 3) := by decide +kernel
theorem d_X12_inherits_81 : decode cX12_inherits 81 = .ok (.iconst 4, 1) := by decide +kernel
theorem d_X12_inherits_82 : decode cX12_inherits 82 = .ok (.iaload, 1) := by decide +kernel
theorem d_X12_inherits_83 : decode cX12_inherits 83 = .ok (.sipush 200, 3) := by decide +kernel
theorem d_X12_inherits_86 : decode cX12_inherits 86 = .ok (.iadd, 1) := by decide +kernel
theorem d_X12_inherits_87 : decode cX12_inherits 87 = .ok (.if_icmp .ne 6, 3) := by decide +kernel
theorem d_X12_inherits_90 : decode cX12_inherits 90 = .ok (.bipush (-3), 2) := by decide +kernel
theorem d_X12_inherits_92 : decode cX12_inherits 92 = .ok (.ireturn, 1) := by decide +kernel
theorem d_X12_inherits_93 : decode cX12_inherits 93 = .ok (.iload_n 1, 1) := by decide +kernel
theorem d_X12_inherits_94 : decode cX12_inherits 94 = .ok (.ifCond .ne 7, 3) := by decide +kernel
theorem d_X12_inherits_97 : decode cX12_inherits 97 = .ok (.iload_n 2, 1) := by decide +kernel
theorem d_X12_inherits_98 : decode cX12_inherits 98 = .ok (.goto 4, 3) := by decide +kernel
theorem d_X12_inherits_101 : decode cX12_inherits 101 = .ok (.iload_n 3, 1) := by decide +kernel
theorem d_X12_inherits_102 : decode cX12_inherits 102 = .ok (.ireturn, 1) := by decide +kernel
abbrev X_X12_inherits : gX := (RX12, cX12_inherits, 6, (some .int), false)
def F_X12_inherits_b17 (M : gM) : Option (Int32 × gM) :=
  some ((-1 : Int32), M)
theorem T_X12_inherits_b17 (r : (Int32 × gM)) (M : gM) (h : F_X12_inherits_b17 M = some r) : GW 5 0 0 X_X12_inherits 17 [] [] M (some (vi r.1), r.2) := by
  delta F_X12_inherits_b17 at h
  refine GW_iconst (X := X_X12_inherits) (pc := 17) (v := -1) d_X12_inherits_17 (by decide) ?_
  replace h := Option.some.inj h
  subst h
  exact GW_ret (X := X_X12_inherits) (pc := 18) d_X12_inherits_18 rfl trivial
def F_X12_inherits_b61 (k32 : Option Nat → Int32 → Int32 → Int32 → Int32 → gM → Option (Int32 × gM)) (l0 : Option Nat) (l1 : Int32) (l2 : Int32) (l3 : Int32) (l4 : Int32) (M : gM) : Option (Int32 × gM) :=
  (gO 12 M l0).bind fun i1 => (F_X12_passes (some i1) M).bind fun (v2, M3) => k32 (some i1) l1 l2 l3 (l4 + 1) M3
theorem T_X12_inherits_b61 (k32 : Option Nat → Int32 → Int32 → Int32 → Int32 → gM → Option (Int32 × gM)) (r : (Int32 × gM)) (hk32 : ∀ (l0 : Option Nat) (l1 : Int32) (l2 : Int32) (l3 : Int32) (l4 : Int32) (M : gM), k32 l0 l1 l2 l3 l4 M = some r → GW 5 0 0 X_X12_inherits 32 [(0, vr l0), (1, vi l1), (2, vi l2), (3, vi l3), (4, vi l4)] [] M (some (vi r.1), r.2)) (l0 : Option Nat) (l1 : Int32) (l2 : Int32) (l3 : Int32) (l4 : Int32) (M : gM) (h : F_X12_inherits_b61 k32 l0 l1 l2 l3 l4 M = some r) : GW 5 0 0 X_X12_inherits 61 [(0, vr l0), (1, vi l1), (2, vi l2), (3, vi l3), (4, vi l4)] [] M (some (vi r.1), r.2) := by
  delta F_X12_inherits_b61 at h
  refine GW_aload_n (X := X_X12_inherits) (pc := 61) d_X12_inherits_61 rfl 0 rfl ?_
  replace h := g_bd h
  obtain ⟨i1, hi1, h⟩ := h
  obtain ⟨rfl, ki1⟩ := g_gO hi1
  replace h := g_bd h
  obtain ⟨⟨v2, M3⟩, hv2, h⟩ := h
  dsimp only at h
  refine GW_callV (X := X_X12_inherits) (pc := 62) (bc0 := 0) (bs0 := 0) (r := some (vi v2)) (M2 := M3) (c0 := 12) (T_X12_passes (some i1) M (v2, M3) hv2) (Nat.le_of_ble_eq_true rfl) (Nat.le_of_ble_eq_true rfl) rfl g_cok12 ki1 yc_X12_passes ⟨m_1477, m_1479, m_87, m_127, m_1480⟩ d_X12_inherits_62 rfl (st := []) rfl (Nat.le_of_ble_eq_true rfl) (Nat.le_of_ble_eq_true rfl) (Nat.le_of_ble_eq_true rfl) (st2 := [vi v2]) rfl ?_
  refine GW_pop (X := X_X12_inherits) (pc := 65) d_X12_inherits_65 rfl ?_
  refine GW_iinc (j := 4) (X := X_X12_inherits) (pc := 66) d_X12_inherits_66 rfl (congrArg (fun z => _ + z) (by decide : Int32.ofInt 1 = (1 : Int32))) (Nat.le_of_ble_eq_true rfl) (lv2 := [(4, vi (l4 + 1)), (0, vr (some i1)), (1, vi l1), (2, vi l2), (3, vi l3)]) rfl ?_
  refine GW_goto (X := X_X12_inherits) (pc := 69) 32 d_X12_inherits_69 (by decide) ?_
  refine GW_sub [1, 2, 3, 4, 0] rfl ?_
  exact hk32 (some i1) l1 l2 l3 (l4 + 1) M3 h
def F_X12_inherits_b32 (k32 : Option Nat → Int32 → Int32 → Int32 → Int32 → gM → Option (Int32 × gM)) (l0 : Option Nat) (l1 : Int32) (l2 : Int32) (l3 : Int32) (l4 : Int32) (M : gM) : Option (Int32 × gM) :=
  if (200 : Int32) < l4 then ((gO 12 M l0).bind fun i1 => (F_X12_laysBack (some i1) M).bind fun M2 => (gR 12 M2 (some i1) 20).bind fun v3 => (aI 20 M2 v3 (4 : Int32)).bind fun v4 => if l3 = (v4 + (200 : Int32)) then (some ((-3 : Int32), M2)) else (if l1 = 0 then (some (l2, M2)) else (some (l3, M2)))) else ((gO 12 M l0).bind fun i5 => (F_X12_most (some i5) M).bind fun v6 => if v6 < 0 then (F_X12_inherits_b61 k32 (some i5) l1 l2 l3 l4 M) else ((gR 12 M (some i5) 20).bind fun v7 => (aI 20 M v7 (4 : Int32)).bind fun v8 => F_X12_inherits_b61 k32 (some i5) l1 v6 v8 l4 M))
set_option maxHeartbeats 1000000 in
theorem T_X12_inherits_b32 (k32 : Option Nat → Int32 → Int32 → Int32 → Int32 → gM → Option (Int32 × gM)) (r : (Int32 × gM)) (hk32 : ∀ (l0 : Option Nat) (l1 : Int32) (l2 : Int32) (l3 : Int32) (l4 : Int32) (M : gM), k32 l0 l1 l2 l3 l4 M = some r → GW 5 0 0 X_X12_inherits 32 [(0, vr l0), (1, vi l1), (2, vi l2), (3, vi l3), (4, vi l4)] [] M (some (vi r.1), r.2)) (l0 : Option Nat) (l1 : Int32) (l2 : Int32) (l3 : Int32) (l4 : Int32) (M : gM) (h : F_X12_inherits_b32 k32 l0 l1 l2 l3 l4 M = some r) : GW 5 0 0 X_X12_inherits 32 [(0, vr l0), (1, vi l1), (2, vi l2), (3, vi l3), (4, vi l4)] [] M (some (vi r.1), r.2) := by
  delta F_X12_inherits_b32 at h
  refine GW_iload (X := X_X12_inherits) (pc := 32) d_X12_inherits_32 4 rfl ?_
  refine GW_sipush (X := X_X12_inherits) (pc := 34) (v := 200) d_X12_inherits_34 (by decide) ?_
  refine GW_icmp_gt (X := X_X12_inherits) (pc := 37) 72 d_X12_inherits_37 (by decide) (fun c => ?_) (fun c => ?_)
  · replace h := g_ip c h
    refine GW_aload_n (X := X_X12_inherits) (pc := 72) d_X12_inherits_72 rfl 0 rfl ?_
    replace h := g_bd h
    obtain ⟨i1, hi1, h⟩ := h
    obtain ⟨rfl, ki1⟩ := g_gO hi1
    replace h := g_bd h
    obtain ⟨M2, hM2, h⟩ := h
    refine GW_callV (X := X_X12_inherits) (pc := 73) (bc0 := 0) (bs0 := 0) (r := none) (M2 := M2) (c0 := 12) (T_X12_laysBack (some i1) M M2 hM2) (Nat.le_of_ble_eq_true rfl) (Nat.le_of_ble_eq_true rfl) rfl g_cok12 ki1 yc_X12_laysBack ⟨m_1558, m_1560, m_101, m_127, m_1561⟩ d_X12_inherits_73 rfl (st := []) rfl (Nat.le_of_ble_eq_true rfl) (Nat.le_of_ble_eq_true rfl) (Nat.le_of_ble_eq_true rfl) (st2 := []) rfl ?_
    refine GW_iload_n (X := X_X12_inherits) (pc := 76) d_X12_inherits_76 rfl 3 rfl ?_
    refine GW_aload_n (X := X_X12_inherits) (pc := 77) d_X12_inherits_77 rfl 0 rfl ?_
    replace h := g_bd h
    obtain ⟨v3, hv3, h⟩ := h
    refine GW_getR (X := X_X12_inherits) (pc := 78) f_X12_39 d_X12_inherits_78 hv3 (Or.inr ⟨_, ty_12_20⟩) ?_
    refine GW_iconst (X := X_X12_inherits) (pc := 81) (v := 4) d_X12_inherits_81 (by decide) ?_
    replace h := g_bd h
    obtain ⟨v4, hv4, h⟩ := h
    refine GW_iald (X := X_X12_inherits) (pc := 82) d_X12_inherits_82 hv4 ?_
    refine GW_sipush (X := X_X12_inherits) (pc := 83) (v := 200) d_X12_inherits_83 (by decide) ?_
    refine GW_iadd (X := X_X12_inherits) (pc := 86) d_X12_inherits_86 ?_
    refine GW_icmp_ne (X := X_X12_inherits) (pc := 87) 93 d_X12_inherits_87 (by decide) (fun c => ?_) (fun c => ?_)
    · replace h := g_ie c h
      refine GW_iload_n (X := X_X12_inherits) (pc := 93) d_X12_inherits_93 rfl 1 rfl ?_
      refine GW_if_ne (X := X_X12_inherits) (pc := 94) 101 d_X12_inherits_94 (by decide) (fun c => ?_) (fun c => ?_)
      · replace h := g_ie c h
        refine GW_iload_n (X := X_X12_inherits) (pc := 101) d_X12_inherits_101 rfl 3 rfl ?_
        replace h := Option.some.inj h
        subst h
        exact GW_ret (X := X_X12_inherits) (pc := 102) d_X12_inherits_102 rfl trivial
      · replace h := g_ip c h
        refine GW_iload_n (X := X_X12_inherits) (pc := 97) d_X12_inherits_97 rfl 2 rfl ?_
        refine GW_goto (X := X_X12_inherits) (pc := 98) 102 d_X12_inherits_98 (by decide) ?_
        replace h := Option.some.inj h
        subst h
        exact GW_ret (X := X_X12_inherits) (pc := 102) d_X12_inherits_102 rfl trivial
    · replace h := g_ip c h
      refine GW_bipush (X := X_X12_inherits) (pc := 90) (v := -3) d_X12_inherits_90 (by decide) ?_
      replace h := Option.some.inj h
      subst h
      exact GW_ret (X := X_X12_inherits) (pc := 92) d_X12_inherits_92 rfl trivial
  · replace h := g_ie c h
    refine GW_aload_n (X := X_X12_inherits) (pc := 40) d_X12_inherits_40 rfl 0 rfl ?_
    replace h := g_bd h
    obtain ⟨i5, hi5, h⟩ := h
    obtain ⟨rfl, ki5⟩ := g_gO hi5
    replace h := g_bd h
    obtain ⟨v6, hv6, h⟩ := h
    refine GW_callV (X := X_X12_inherits) (pc := 41) (bc0 := 0) (bs0 := 0) (r := some (vi v6)) (M2 := M) (c0 := 12) (T_X12_most (some i5) M v6 hv6) (Nat.le_of_ble_eq_true rfl) (Nat.le_of_ble_eq_true rfl) rfl g_cok12 ki5 yc_X12_most ⟨m_1574, m_1576, m_103, m_127, m_1577⟩ d_X12_inherits_41 rfl (st := []) rfl (Nat.le_of_ble_eq_true rfl) (Nat.le_of_ble_eq_true rfl) (Nat.le_of_ble_eq_true rfl) (st2 := [vi v6]) rfl ?_
    refine GW_istore (X := X_X12_inherits) (pc := 44) d_X12_inherits_44 (Nat.le_of_ble_eq_true rfl) (lv2 := [(5, vi v6), (0, vr (some i5)), (1, vi l1), (2, vi l2), (3, vi l3), (4, vi l4)]) rfl ?_
    refine GW_iload (X := X_X12_inherits) (pc := 46) d_X12_inherits_46 0 rfl ?_
    refine GW_if_lt (X := X_X12_inherits) (pc := 48) 61 d_X12_inherits_48 (by decide) (fun c => ?_) (fun c => ?_)
    · replace h := g_ip c h
      refine GW_sub [1, 2, 3, 4, 5] rfl ?_
      exact T_X12_inherits_b61 k32 r hk32 (some i5) l1 l2 l3 l4 M h
    · replace h := g_ie c h
      refine GW_iload (X := X_X12_inherits) (pc := 51) d_X12_inherits_51 0 rfl ?_
      refine GW_istore_n (X := X_X12_inherits) (pc := 53) d_X12_inherits_53 rfl (Nat.le_of_ble_eq_true rfl) (lv2 := [(2, vi v6), (5, vi v6), (0, vr (some i5)), (1, vi l1), (3, vi l3), (4, vi l4)]) rfl ?_
      refine GW_aload_n (X := X_X12_inherits) (pc := 54) d_X12_inherits_54 rfl 2 rfl ?_
      replace h := g_bd h
      obtain ⟨v7, hv7, h⟩ := h
      refine GW_getR (X := X_X12_inherits) (pc := 55) f_X12_39 d_X12_inherits_55 hv7 (Or.inr ⟨_, ty_12_20⟩) ?_
      refine GW_iconst (X := X_X12_inherits) (pc := 58) (v := 4) d_X12_inherits_58 (by decide) ?_
      replace h := g_bd h
      obtain ⟨v8, hv8, h⟩ := h
      refine GW_iald (X := X_X12_inherits) (pc := 59) d_X12_inherits_59 hv8 ?_
      refine GW_istore_n (X := X_X12_inherits) (pc := 60) d_X12_inherits_60 rfl (Nat.le_of_ble_eq_true rfl) (lv2 := [(3, vi v8), (2, vi v6), (5, vi v6), (0, vr (some i5)), (1, vi l1), (4, vi l4)]) rfl ?_
      refine GW_sub [3, 4, 1, 0, 5] rfl ?_
      exact T_X12_inherits_b61 k32 r hk32 (some i5) l1 v6 v8 l4 M h
def F_X12_inherits_L32 : Nat → Option Nat → Int32 → Int32 → Int32 → Int32 → gM → Option (Int32 × gM)
  | 0 => fun _ _ _ _ _ _ => none
  | n + 1 => F_X12_inherits_b32 (F_X12_inherits_L32 n)
theorem T_X12_inherits_L32 (r : (Int32 × gM)) : ∀ (n : Nat) (l0 : Option Nat) (l1 : Int32) (l2 : Int32) (l3 : Int32) (l4 : Int32) (M : gM), F_X12_inherits_L32 n l0 l1 l2 l3 l4 M = some r → GW 5 0 0 X_X12_inherits 32 [(0, vr l0), (1, vi l1), (2, vi l2), (3, vi l3), (4, vi l4)] [] M (some (vi r.1), r.2) := by
  intro n
  induction n with
  | zero => intro l0 l1 l2 l3 l4 M h; exact g_no h
  | succ n ih => intro l0 l1 l2 l3 l4 M h; exact T_X12_inherits_b32 (F_X12_inherits_L32 n) r ih l0 l1 l2 l3 l4 M h
def F_X12_inherits_b0 (l0 : Option Nat) (l1 : Int32) (M : gM) : Option (Int32 × gM) :=
  (gO 12 M l0).bind fun i1 => (F_X12_isHouse (some i1) M).bind fun v2 => if v2 = 0 then (F_X12_inherits_b17 M) else ((F_X12_in (l1).toInt64 (0 : Int64) (1 : Int64) M).bind fun v3 => if v3 = 0 then (F_X12_inherits_b17 M) else ((F_X12_keeps (some i1) M).bind fun M4 => F_X12_inherits_L32 g_fuel (some i1) l1 (-2 : Int32) (-2 : Int32) (0 : Int32) M4))
theorem T_X12_inherits_b0 (r : (Int32 × gM)) (l0 : Option Nat) (l1 : Int32) (M : gM) (h : F_X12_inherits_b0 l0 l1 M = some r) : GW 5 0 0 X_X12_inherits 0 [(0, vr l0), (1, vi l1)] [] M (some (vi r.1), r.2) := by
  delta F_X12_inherits_b0 at h
  refine GW_aload_n (X := X_X12_inherits) (pc := 0) d_X12_inherits_0 rfl 0 rfl ?_
  replace h := g_bd h
  obtain ⟨i1, hi1, h⟩ := h
  obtain ⟨rfl, ki1⟩ := g_gO hi1
  replace h := g_bd h
  obtain ⟨v2, hv2, h⟩ := h
  refine GW_callV (X := X_X12_inherits) (pc := 1) (bc0 := 0) (bs0 := 0) (r := some (vi v2)) (M2 := M) (c0 := 12) (T_X12_isHouse (some i1) M v2 hv2) (Nat.le_of_ble_eq_true rfl) (Nat.le_of_ble_eq_true rfl) rfl g_cok12 ki1 yc_X12_isHouse ⟨m_1469, m_1471, m_85, m_127, m_1472⟩ d_X12_inherits_1 rfl (st := []) rfl (Nat.le_of_ble_eq_true rfl) (Nat.le_of_ble_eq_true rfl) (Nat.le_of_ble_eq_true rfl) (st2 := [vi v2]) rfl ?_
  refine GW_if_eq (X := X_X12_inherits) (pc := 4) 17 d_X12_inherits_4 (by decide) (fun c => ?_) (fun c => ?_)
  · replace h := g_ip c h
    refine GW_sub [] rfl ?_
    exact T_X12_inherits_b17 r M h
  · replace h := g_ie c h
    refine GW_iload_n (X := X_X12_inherits) (pc := 7) d_X12_inherits_7 rfl 1 rfl ?_
    refine GW_i2l (X := X_X12_inherits) (pc := 8) d_X12_inherits_8 ?_
    refine GW_lconst (X := X_X12_inherits) (pc := 9) (v := 0) d_X12_inherits_9 (by decide) ?_
    refine GW_lconst (X := X_X12_inherits) (pc := 10) (v := 1) d_X12_inherits_10 (by decide) ?_
    replace h := g_bd h
    obtain ⟨v3, hv3, h⟩ := h
    refine GW_callS (X := X_X12_inherits) (pc := 11) (bc0 := 0) (bs0 := 0) (r := some (vi v3)) (M2 := M) (T_X12_in (l1).toInt64 (0 : Int64) (1 : Int64) M v3 hv3) (Nat.le_of_ble_eq_true rfl) (Nat.le_of_ble_eq_true rfl) yc_X12_in ⟨m_1291, m_1292, m_127, m_1293⟩ d_X12_inherits_11 rfl (st := []) rfl (Nat.le_of_ble_eq_true rfl) (Nat.le_of_ble_eq_true rfl) (Nat.le_of_ble_eq_true rfl) (st2 := [vi v3]) rfl ?_
    refine GW_if_ne (X := X_X12_inherits) (pc := 14) 19 d_X12_inherits_14 (by decide) (fun c => ?_) (fun c => ?_)
    · replace h := g_ie c h
      refine GW_bipush (X := X_X12_inherits) (pc := 19) (v := -2) d_X12_inherits_19 (by decide) ?_
      refine GW_istore_n (X := X_X12_inherits) (pc := 21) d_X12_inherits_21 rfl (Nat.le_of_ble_eq_true rfl) (lv2 := [(2, vi (-2 : Int32)), (0, vr (some i1)), (1, vi l1)]) rfl ?_
      refine GW_bipush (X := X_X12_inherits) (pc := 22) (v := -2) d_X12_inherits_22 (by decide) ?_
      refine GW_istore_n (X := X_X12_inherits) (pc := 24) d_X12_inherits_24 rfl (Nat.le_of_ble_eq_true rfl) (lv2 := [(3, vi (-2 : Int32)), (2, vi (-2 : Int32)), (0, vr (some i1)), (1, vi l1)]) rfl ?_
      refine GW_aload_n (X := X_X12_inherits) (pc := 25) d_X12_inherits_25 rfl 2 rfl ?_
      replace h := g_bd h
      obtain ⟨M4, hM4, h⟩ := h
      refine GW_callV (X := X_X12_inherits) (pc := 26) (bc0 := 0) (bs0 := 0) (r := none) (M2 := M4) (c0 := 12) (T_X12_keeps (some i1) M M4 hM4) (Nat.le_of_ble_eq_true rfl) (Nat.le_of_ble_eq_true rfl) rfl g_cok12 ki1 yc_X12_keeps ⟨m_1554, m_1556, m_100, m_127, m_1557⟩ d_X12_inherits_26 rfl (st := []) rfl (Nat.le_of_ble_eq_true rfl) (Nat.le_of_ble_eq_true rfl) (Nat.le_of_ble_eq_true rfl) (st2 := []) rfl ?_
      refine GW_iconst (X := X_X12_inherits) (pc := 29) (v := 0) d_X12_inherits_29 (by decide) ?_
      refine GW_istore (X := X_X12_inherits) (pc := 30) d_X12_inherits_30 (Nat.le_of_ble_eq_true rfl) (lv2 := [(4, vi (0 : Int32)), (3, vi (-2 : Int32)), (2, vi (-2 : Int32)), (0, vr (some i1)), (1, vi l1)]) rfl ?_
      refine GW_sub [3, 4, 2, 1, 0] rfl ?_
      exact T_X12_inherits_L32 r g_fuel (some i1) l1 (-2 : Int32) (-2 : Int32) (0 : Int32) M4 h
    · replace h := g_ip c h
      refine GW_sub [] rfl ?_
      exact T_X12_inherits_b17 r M h
def F_X12_inherits (l0 : Option Nat) (l1 : Int32) (M : gM) : Option (Int32 × gM) := F_X12_inherits_b0 l0 l1 M
theorem T_X12_inherits (l0 : Option Nat) (l1 : Int32) (M : gM) (r : (Int32 × gM)) (h : F_X12_inherits l0 l1 M = some r) : g_Met 5 0 0 yX12_inherits X_X12_inherits [vr l0, vi l1] M (some (vi r.1), r.2) :=
  g_Met_of pn_RX12 rfl (Nat.le_of_ble_eq_true rfl) (fun h => by cases h) (GW_sub [0, 1] rfl (T_X12_inherits_b0 r l0 l1 M h))
/-! ForgetHeirs$State.lasts(I)I -/
theorem d_X8_lasts_0 : decode cX8_lasts 0 = .ok (.aload_n 0, 1) := by decide +kernel
theorem d_X8_lasts_1 : decode cX8_lasts 1 = .ok (.getfield 21, 3) := by decide +kernel
theorem d_X8_lasts_4 : decode cX8_lasts 4 = .ok (.iload_n 1, 1) := by decide +kernel
theorem d_X8_lasts_5 : decode cX8_lasts 5 = .ok (.iaload, 1) := by decide +kernel
theorem d_X8_lasts_6 : decode cX8_lasts 6 = .ok (.iconst (-1), 1) := by decide +kernel
theorem d_X8_lasts_7 : decode cX8_lasts 7 = .ok (.if_icmp .ne 8, 3) := by decide +kernel
theorem d_X8_lasts_10 : decode cX8_lasts 10 = .ok (.ldc 88, 2) := by decide +kernel
theorem d_X8_lasts_12 : decode cX8_lasts 12 = .ok (.goto 9, 3) := by decide +kernel
theorem d_X8_lasts_15 : decode cX8_lasts 15 = .ok (.aload_n 0, 1) := by decide +kernel
theorem d_X8_lasts_16 : decode cX8_lasts 16 = .ok (.getfield 21, 3) := by decide +kernel
theorem d_X8_lasts_19 : decode cX8_lasts 19 = .ok (.iload_n 1, 1) := by decide +kernel
theorem d_X8_lasts_20 : decode cX8_lasts 20 = .ok (.iaload, 1) := by decide +kernel
theorem d_X8_lasts_21 : decode cX8_lasts 21 = .ok (.ireturn, 1) := by decide +kernel
abbrev X_X8_lasts : gX := (RX8, cX8_lasts, 2, (some .int), false)
def F_X8_lasts_b0 (M : gM) (l0 : Option Nat) (l1 : Int32) : Option Int32 :=
  (gR 8 M l0 3).bind fun v1 => (aI 20 M v1 l1).bind fun v2 => if v2 = (-1 : Int32) then (some (1000000 : Int32)) else ((gR 8 M l0 3).bind fun v3 => (aI 20 M v3 l1).bind fun v4 => some v4)
theorem T_X8_lasts_b0 (M : gM) (r : Int32) (l0 : Option Nat) (l1 : Int32) (h : F_X8_lasts_b0 M l0 l1 = some r) : GW 0 0 0 X_X8_lasts 0 [(0, vr l0), (1, vi l1)] [] M (some (vi r), M) := by
  delta F_X8_lasts_b0 at h
  refine GW_aload_n (X := X_X8_lasts) (pc := 0) d_X8_lasts_0 rfl 0 rfl ?_
  replace h := g_bd h
  obtain ⟨v1, hv1, h⟩ := h
  refine GW_getR (X := X_X8_lasts) (pc := 1) f_X8_21 d_X8_lasts_1 hv1 (Or.inr ⟨_, ty_8_3⟩) ?_
  refine GW_iload_n (X := X_X8_lasts) (pc := 4) d_X8_lasts_4 rfl 1 rfl ?_
  replace h := g_bd h
  obtain ⟨v2, hv2, h⟩ := h
  refine GW_iald (X := X_X8_lasts) (pc := 5) d_X8_lasts_5 hv2 ?_
  refine GW_iconst (X := X_X8_lasts) (pc := 6) (v := -1) d_X8_lasts_6 (by decide) ?_
  refine GW_icmp_ne (X := X_X8_lasts) (pc := 7) 15 d_X8_lasts_7 (by decide) (fun c => ?_) (fun c => ?_)
  · replace h := g_ie c h
    refine GW_aload_n (X := X_X8_lasts) (pc := 15) d_X8_lasts_15 rfl 0 rfl ?_
    replace h := g_bd h
    obtain ⟨v3, hv3, h⟩ := h
    refine GW_getR (X := X_X8_lasts) (pc := 16) f_X8_21 d_X8_lasts_16 hv3 (Or.inr ⟨_, ty_8_3⟩) ?_
    refine GW_iload_n (X := X_X8_lasts) (pc := 19) d_X8_lasts_19 rfl 1 rfl ?_
    replace h := g_bd h
    obtain ⟨v4, hv4, h⟩ := h
    refine GW_iald (X := X_X8_lasts) (pc := 20) d_X8_lasts_20 hv4 ?_
    replace h := Option.some.inj h
    subst h
    exact GW_ret (X := X_X8_lasts) (pc := 21) d_X8_lasts_21 rfl trivial
  · replace h := g_ip c h
    refine GW_ldc (X := X_X8_lasts) (pc := 10) d_X8_lasts_10 m_989 ?_
    refine GW_goto (X := X_X8_lasts) (pc := 12) 21 d_X8_lasts_12 (by decide) ?_
    replace h := Option.some.inj h
    subst h
    exact GW_ret (X := X_X8_lasts) (pc := 21) d_X8_lasts_21 rfl trivial
def F_X8_lasts (l0 : Option Nat) (l1 : Int32) (M : gM) : Option Int32 := F_X8_lasts_b0 M l0 l1
theorem T_X8_lasts (l0 : Option Nat) (l1 : Int32) (M : gM) (r : Int32) (h : F_X8_lasts l0 l1 M = some r) : g_Met 0 0 0 yX8_lasts X_X8_lasts [vr l0, vi l1] M (some (vi r), M) :=
  g_Met_of pn_RX8 rfl (Nat.le_of_ble_eq_true rfl) (fun h => by cases h) (GW_sub [0, 1] rfl (T_X8_lasts_b0 M r l0 l1 h))
/-! ForgetHeirs.longest()I -/
theorem d_X11_longest_0 : decode cX11_longest 0 = .ok (.aload_n 0, 1) := by decide +kernel
theorem d_X11_longest_1 : decode cX11_longest 1 = .ok (.getfield 59, 3) := by decide +kernel
theorem d_X11_longest_4 : decode cX11_longest 4 = .ok (.getfield 204, 3) := by decide +kernel
theorem d_X11_longest_7 : decode cX11_longest 7 = .ok (.ifCond .ne 5, 3) := by decide +kernel
theorem d_X11_longest_10 : decode cX11_longest 10 = .ok (.iconst (-1), 1) := by decide +kernel
theorem d_X11_longest_11 : decode cX11_longest 11 = .ok (.ireturn, 1) := by decide +kernel
theorem d_X11_longest_12 : decode cX11_longest 12 = .ok (.aload_n 0, 1) := by decide +kernel
theorem d_X11_longest_13 : decode cX11_longest 13 = .ok (.getfield 59, 3) := by decide +kernel
theorem d_X11_longest_16 : decode cX11_longest 16 = .ok (.getfield 184, 3) := by decide +kernel
theorem d_X11_longest_19 : decode cX11_longest 19 = .ok (.ifCond .ne 6, 3) := by decide +kernel
theorem d_X11_longest_22 : decode cX11_longest 22 = .ok (.bipush (-2), 2) := by decide +kernel
theorem d_X11_longest_24 : decode cX11_longest 24 = .ok (.ireturn, 1) := by decide +kernel
theorem d_X11_longest_25 : decode cX11_longest 25 = .ok (.aload_n 0, 1) := by decide +kernel
theorem d_X11_longest_26 : decode cX11_longest 26 = .ok (.sipush 200, 3) := by decide +kernel
theorem d_X11_longest_29 : decode cX11_longest 29 = .ok (.invokevirtual 242, 3) := by decide +kernel
theorem d_X11_longest_32 : decode cX11_longest 32 = .ok (.iconst 0, 1) := by decide +kernel
theorem d_X11_longest_33 : decode cX11_longest 33 = .ok (.istore_n 1, 1) := by decide +kernel
theorem d_X11_longest_34 : decode cX11_longest 34 = .ok (.iconst 1, 1) := by decide +kernel
theorem d_X11_longest_35 : decode cX11_longest 35 = .ok (.istore_n 2, 1) := by decide +kernel
theorem d_X11_longest_36 : decode cX11_longest 36 = .ok (.iload_n 2, 1) := by decide +kernel
theorem d_X11_longest_37 : decode cX11_longest 37 = .ok (.aload_n 0, 1) := by decide +kernel
theorem d_X11_longest_38 : decode cX11_longest 38 = .ok (.getfield 59, 3) := by decide +kernel
theorem d_X11_longest_41 : decode cX11_longest 41 = .ok (.getfield 184, 3) := by decide +kernel
theorem d_X11_longest_44 : decode cX11_longest 44 = .ok (.if_icmp .ge 30, 3) := by decide +kernel
theorem d_X11_longest_47 : decode cX11_longest 47 = .ok (.aload_n 0, 1) := by decide +kernel
theorem d_X11_longest_48 : decode cX11_longest 48 = .ok (.getfield 29, 3) := by decide +kernel
theorem d_X11_longest_51 : decode cX11_longest 51 = .ok (.iload_n 2, 1) := by decide +kernel
theorem d_X11_longest_52 : decode cX11_longest 52 = .ok (.invokevirtual 255, 3) := by decide +kernel
theorem d_X11_longest_55 : decode cX11_longest 55 = .ok (.aload_n 0, 1) := by decide +kernel
theorem d_X11_longest_56 : decode cX11_longest 56 = .ok (.getfield 29, 3) := by decide +kernel
theorem d_X11_longest_59 : decode cX11_longest 59 = .ok (.iload_n 1, 1) := by decide +kernel
theorem d_X11_longest_60 : decode cX11_longest 60 = .ok (.invokevirtual 255, 3) := by decide +kernel
theorem d_X11_longest_63 : decode cX11_longest 63 = .ok (.if_icmp .le 5, 3) := by decide +kernel
theorem d_X11_longest_66 : decode cX11_longest 66 = .ok (.iload_n 2, 1) := by decide +kernel
theorem d_X11_longest_67 : decode cX11_longest 67 = .ok (.istore_n 1, 1) := by decide +kernel
theorem d_X11_longest_68 : decode cX11_longest 68 = .ok (.iinc 2 1, 3) := by decide +kernel
theorem d_X11_longest_71 : decode cX11_longest 71 = .ok (.goto (-35), 3) := by decide +kernel
theorem d_X11_longest_74 : decode cX11_longest 74 = .ok (.iload_n 1, 1) := by decide +kernel
theorem d_X11_longest_75 : decode cX11_longest 75 = .ok (.ireturn, 1) := by decide +kernel
abbrev X_X11_longest : gX := (RX11, cX11_longest, 3, (some .int), false)
def F_X11_longest_b68 (k36 : Option Nat → Int32 → Int32 → gM → Option (Int32 × gM)) (l0 : Option Nat) (l1 : Int32) (l2 : Int32) (M : gM) : Option (Int32 × gM) :=
  k36 l0 l1 (l2 + 1) M
theorem T_X11_longest_b68 (k36 : Option Nat → Int32 → Int32 → gM → Option (Int32 × gM)) (r : (Int32 × gM)) (hk36 : ∀ (l0 : Option Nat) (l1 : Int32) (l2 : Int32) (M : gM), k36 l0 l1 l2 M = some r → GW 6 0 0 X_X11_longest 36 [(0, vr l0), (1, vi l1), (2, vi l2)] [] M (some (vi r.1), r.2)) (l0 : Option Nat) (l1 : Int32) (l2 : Int32) (M : gM) (h : F_X11_longest_b68 k36 l0 l1 l2 M = some r) : GW 6 0 0 X_X11_longest 68 [(0, vr l0), (1, vi l1), (2, vi l2)] [] M (some (vi r.1), r.2) := by
  delta F_X11_longest_b68 at h
  refine GW_iinc (j := 2) (X := X_X11_longest) (pc := 68) d_X11_longest_68 rfl (congrArg (fun z => _ + z) (by decide : Int32.ofInt 1 = (1 : Int32))) (Nat.le_of_ble_eq_true rfl) (lv2 := [(2, vi (l2 + 1)), (0, vr l0), (1, vi l1)]) rfl ?_
  refine GW_goto (X := X_X11_longest) (pc := 71) 36 d_X11_longest_71 (by decide) ?_
  refine GW_sub [1, 2, 0] rfl ?_
  exact hk36 l0 l1 (l2 + 1) M h
def F_X11_longest_b36 (k36 : Option Nat → Int32 → Int32 → gM → Option (Int32 × gM)) (l0 : Option Nat) (l1 : Int32) (l2 : Int32) (M : gM) : Option (Int32 × gM) :=
  (gR 11 M l0 11).bind fun v1 => (gI 1 M v1 6).bind fun v2 => if v2 ≤ l2 then (some (l1, M)) else ((gR 11 M l0 6).bind fun v3 => (gO 8 M v3).bind fun i4 => (F_X8_lasts (some i4) l2 M).bind fun v5 => (gR 11 M l0 6).bind fun v6 => (gO 8 M v6).bind fun i7 => (F_X8_lasts (some i7) l1 M).bind fun v8 => if v5 ≤ v8 then (F_X11_longest_b68 k36 l0 l1 l2 M) else (F_X11_longest_b68 k36 l0 l2 l2 M))
set_option maxHeartbeats 1000000 in
theorem T_X11_longest_b36 (k36 : Option Nat → Int32 → Int32 → gM → Option (Int32 × gM)) (r : (Int32 × gM)) (hk36 : ∀ (l0 : Option Nat) (l1 : Int32) (l2 : Int32) (M : gM), k36 l0 l1 l2 M = some r → GW 6 0 0 X_X11_longest 36 [(0, vr l0), (1, vi l1), (2, vi l2)] [] M (some (vi r.1), r.2)) (l0 : Option Nat) (l1 : Int32) (l2 : Int32) (M : gM) (h : F_X11_longest_b36 k36 l0 l1 l2 M = some r) : GW 6 0 0 X_X11_longest 36 [(0, vr l0), (1, vi l1), (2, vi l2)] [] M (some (vi r.1), r.2) := by
  delta F_X11_longest_b36 at h
  refine GW_iload_n (X := X_X11_longest) (pc := 36) d_X11_longest_36 rfl 2 rfl ?_
  refine GW_aload_n (X := X_X11_longest) (pc := 37) d_X11_longest_37 rfl 0 rfl ?_
  replace h := g_bd h
  obtain ⟨v1, hv1, h⟩ := h
  refine GW_getR (X := X_X11_longest) (pc := 38) f_X11_59 d_X11_longest_38 hv1 (Or.inl ⟨_, ty_11_11⟩) ?_
  replace h := g_bd h
  obtain ⟨v2, hv2, h⟩ := h
  refine GW_getI (X := X_X11_longest) (pc := 41) f_X11_184 d_X11_longest_41 hv2 (Or.inl ty_1_6) ?_
  refine GW_icmp_ge (X := X_X11_longest) (pc := 44) 74 d_X11_longest_44 (by decide) (fun c => ?_) (fun c => ?_)
  · replace h := g_ip c h
    refine GW_iload_n (X := X_X11_longest) (pc := 74) d_X11_longest_74 rfl 1 rfl ?_
    replace h := Option.some.inj h
    subst h
    exact GW_ret (X := X_X11_longest) (pc := 75) d_X11_longest_75 rfl trivial
  · replace h := g_ie c h
    refine GW_aload_n (X := X_X11_longest) (pc := 47) d_X11_longest_47 rfl 0 rfl ?_
    replace h := g_bd h
    obtain ⟨v3, hv3, h⟩ := h
    refine GW_getR (X := X_X11_longest) (pc := 48) f_X11_29 d_X11_longest_48 hv3 (Or.inl ⟨_, ty_11_6⟩) ?_
    refine GW_iload_n (X := X_X11_longest) (pc := 51) d_X11_longest_51 rfl 2 rfl ?_
    replace h := g_bd h
    obtain ⟨i4, hi4, h⟩ := h
    obtain ⟨rfl, ki4⟩ := g_gO hi4
    replace h := g_bd h
    obtain ⟨v5, hv5, h⟩ := h
    refine GW_callV (X := X_X11_longest) (pc := 52) (bc0 := 0) (bs0 := 0) (r := some (vi v5)) (M2 := M) (c0 := 8) (T_X8_lasts (some i4) l2 M v5 hv5) (Nat.le_of_ble_eq_true rfl) (Nat.le_of_ble_eq_true rfl) rfl g_cok8 ki4 yc_X8_lasts ⟨m_985, m_986, m_987, m_119, m_988⟩ d_X11_longest_52 rfl (st := []) rfl (Nat.le_of_ble_eq_true rfl) (Nat.le_of_ble_eq_true rfl) (Nat.le_of_ble_eq_true rfl) (st2 := [vi v5]) rfl ?_
    refine GW_aload_n (X := X_X11_longest) (pc := 55) d_X11_longest_55 rfl 0 rfl ?_
    replace h := g_bd h
    obtain ⟨v6, hv6, h⟩ := h
    refine GW_getR (X := X_X11_longest) (pc := 56) f_X11_29 d_X11_longest_56 hv6 (Or.inl ⟨_, ty_11_6⟩) ?_
    refine GW_iload_n (X := X_X11_longest) (pc := 59) d_X11_longest_59 rfl 1 rfl ?_
    replace h := g_bd h
    obtain ⟨i7, hi7, h⟩ := h
    obtain ⟨rfl, ki7⟩ := g_gO hi7
    replace h := g_bd h
    obtain ⟨v8, hv8, h⟩ := h
    refine GW_callV (X := X_X11_longest) (pc := 60) (bc0 := 0) (bs0 := 0) (r := some (vi v8)) (M2 := M) (c0 := 8) (T_X8_lasts (some i7) l1 M v8 hv8) (Nat.le_of_ble_eq_true rfl) (Nat.le_of_ble_eq_true rfl) rfl g_cok8 ki7 yc_X8_lasts ⟨m_985, m_986, m_987, m_119, m_988⟩ d_X11_longest_60 rfl (st := [vi v5]) rfl (Nat.le_of_ble_eq_true rfl) (Nat.le_of_ble_eq_true rfl) (Nat.le_of_ble_eq_true rfl) (st2 := [vi v8, vi v5]) rfl ?_
    refine GW_icmp_le (X := X_X11_longest) (pc := 63) 68 d_X11_longest_63 (by decide) (fun c => ?_) (fun c => ?_)
    · replace h := g_ip c h
      exact T_X11_longest_b68 k36 r hk36 l0 l1 l2 M h
    · replace h := g_ie c h
      refine GW_iload_n (X := X_X11_longest) (pc := 66) d_X11_longest_66 rfl 2 rfl ?_
      refine GW_istore_n (X := X_X11_longest) (pc := 67) d_X11_longest_67 rfl (Nat.le_of_ble_eq_true rfl) (lv2 := [(1, vi l2), (0, vr l0), (2, vi l2)]) rfl ?_
      refine GW_sub [1, 0, 2] rfl ?_
      exact T_X11_longest_b68 k36 r hk36 l0 l2 l2 M h
def F_X11_longest_L36 : Nat → Option Nat → Int32 → Int32 → gM → Option (Int32 × gM)
  | 0 => fun _ _ _ _ => none
  | n + 1 => F_X11_longest_b36 (F_X11_longest_L36 n)
theorem T_X11_longest_L36 (r : (Int32 × gM)) : ∀ (n : Nat) (l0 : Option Nat) (l1 : Int32) (l2 : Int32) (M : gM), F_X11_longest_L36 n l0 l1 l2 M = some r → GW 6 0 0 X_X11_longest 36 [(0, vr l0), (1, vi l1), (2, vi l2)] [] M (some (vi r.1), r.2) := by
  intro n
  induction n with
  | zero => intro l0 l1 l2 M h; exact g_no h
  | succ n ih => intro l0 l1 l2 M h; exact T_X11_longest_b36 (F_X11_longest_L36 n) r ih l0 l1 l2 M h
def F_X11_longest_b0 (l0 : Option Nat) (M : gM) : Option (Int32 × gM) :=
  (gR 11 M l0 11).bind fun v1 => (gI 1 M v1 5).bind fun v2 => if v2 = 0 then (some ((-1 : Int32), M)) else ((gR 11 M l0 11).bind fun v3 => (gI 1 M v3 6).bind fun v4 => if v4 = 0 then (some ((-2 : Int32), M)) else ((gO 11 M l0).bind fun i5 => (F_X11_lookAhead (some i5) (200 : Int32) M).bind fun M6 => F_X11_longest_L36 g_fuel (some i5) (0 : Int32) (1 : Int32) M6))
set_option maxHeartbeats 1000000 in
theorem T_X11_longest_b0 (r : (Int32 × gM)) (l0 : Option Nat) (M : gM) (h : F_X11_longest_b0 l0 M = some r) : GW 6 0 0 X_X11_longest 0 [(0, vr l0)] [] M (some (vi r.1), r.2) := by
  delta F_X11_longest_b0 at h
  refine GW_aload_n (X := X_X11_longest) (pc := 0) d_X11_longest_0 rfl 0 rfl ?_
  replace h := g_bd h
  obtain ⟨v1, hv1, h⟩ := h
  refine GW_getR (X := X_X11_longest) (pc := 1) f_X11_59 d_X11_longest_1 hv1 (Or.inl ⟨_, ty_11_11⟩) ?_
  replace h := g_bd h
  obtain ⟨v2, hv2, h⟩ := h
  refine GW_getI (X := X_X11_longest) (pc := 4) f_X11_204 d_X11_longest_4 hv2 (Or.inr ty_1_5) ?_
  refine GW_if_ne (X := X_X11_longest) (pc := 7) 12 d_X11_longest_7 (by decide) (fun c => ?_) (fun c => ?_)
  · replace h := g_ie c h
    refine GW_aload_n (X := X_X11_longest) (pc := 12) d_X11_longest_12 rfl 0 rfl ?_
    replace h := g_bd h
    obtain ⟨v3, hv3, h⟩ := h
    refine GW_getR (X := X_X11_longest) (pc := 13) f_X11_59 d_X11_longest_13 hv3 (Or.inl ⟨_, ty_11_11⟩) ?_
    replace h := g_bd h
    obtain ⟨v4, hv4, h⟩ := h
    refine GW_getI (X := X_X11_longest) (pc := 16) f_X11_184 d_X11_longest_16 hv4 (Or.inl ty_1_6) ?_
    refine GW_if_ne (X := X_X11_longest) (pc := 19) 25 d_X11_longest_19 (by decide) (fun c => ?_) (fun c => ?_)
    · replace h := g_ie c h
      refine GW_aload_n (X := X_X11_longest) (pc := 25) d_X11_longest_25 rfl 0 rfl ?_
      refine GW_sipush (X := X_X11_longest) (pc := 26) (v := 200) d_X11_longest_26 (by decide) ?_
      replace h := g_bd h
      obtain ⟨i5, hi5, h⟩ := h
      obtain ⟨rfl, ki5⟩ := g_gO hi5
      replace h := g_bd h
      obtain ⟨M6, hM6, h⟩ := h
      refine GW_callV (X := X_X11_longest) (pc := 29) (bc0 := 0) (bs0 := 0) (r := none) (M2 := M6) (c0 := 11) (T_X11_lookAhead (some i5) (200 : Int32) M M6 hM6) (Nat.le_of_ble_eq_true rfl) (Nat.le_of_ble_eq_true rfl) rfl g_cok11 ki5 yc_X11_lookAhead ⟨m_956, m_958, m_32, m_116, m_959⟩ d_X11_longest_29 rfl (st := []) rfl (Nat.le_of_ble_eq_true rfl) (Nat.le_of_ble_eq_true rfl) (Nat.le_of_ble_eq_true rfl) (st2 := []) rfl ?_
      refine GW_iconst (X := X_X11_longest) (pc := 32) (v := 0) d_X11_longest_32 (by decide) ?_
      refine GW_istore_n (X := X_X11_longest) (pc := 33) d_X11_longest_33 rfl (Nat.le_of_ble_eq_true rfl) (lv2 := [(1, vi (0 : Int32)), (0, vr (some i5))]) rfl ?_
      refine GW_iconst (X := X_X11_longest) (pc := 34) (v := 1) d_X11_longest_34 (by decide) ?_
      refine GW_istore_n (X := X_X11_longest) (pc := 35) d_X11_longest_35 rfl (Nat.le_of_ble_eq_true rfl) (lv2 := [(2, vi (1 : Int32)), (1, vi (0 : Int32)), (0, vr (some i5))]) rfl ?_
      refine GW_sub [2, 1, 0] rfl ?_
      exact T_X11_longest_L36 r g_fuel (some i5) (0 : Int32) (1 : Int32) M6 h
    · replace h := g_ip c h
      refine GW_bipush (X := X_X11_longest) (pc := 22) (v := -2) d_X11_longest_22 (by decide) ?_
      replace h := Option.some.inj h
      subst h
      exact GW_ret (X := X_X11_longest) (pc := 24) d_X11_longest_24 rfl trivial
  · replace h := g_ip c h
    refine GW_iconst (X := X_X11_longest) (pc := 10) (v := -1) d_X11_longest_10 (by decide) ?_
    replace h := Option.some.inj h
    subst h
    exact GW_ret (X := X_X11_longest) (pc := 11) d_X11_longest_11 rfl trivial
def F_X11_longest (l0 : Option Nat) (M : gM) : Option (Int32 × gM) := F_X11_longest_b0 l0 M
theorem T_X11_longest (l0 : Option Nat) (M : gM) (r : (Int32 × gM)) (h : F_X11_longest l0 M = some r) : g_Met 6 0 0 yX11_longest X_X11_longest [vr l0] M (some (vi r.1), r.2) :=
  g_Met_of pn_RX11 rfl (Nat.le_of_ble_eq_true rfl) (fun h => by cases h) (GW_sub [0] rfl (T_X11_longest_b0 r l0 M h))
/-! ForgetHeirsModel.longest()I -/
theorem d_X12_longest_0 : decode cX12_longest 0 = .ok (.aload_n 0, 1) := by decide +kernel
theorem d_X12_longest_1 : decode cX12_longest 1 = .ok (.invokevirtual 362, 3) := by decide +kernel
theorem d_X12_longest_4 : decode cX12_longest 4 = .ok (.ifCond .ne 5, 3) := by decide +kernel
theorem d_X12_longest_7 : decode cX12_longest 7 = .ok (.iconst (-1), 1) := by decide +kernel
theorem d_X12_longest_8 : decode cX12_longest 8 = .ok (.ireturn, 1) := by decide +kernel
theorem d_X12_longest_9 : decode cX12_longest 9 = .ok (.bipush (-2), 2) := by decide +kernel
theorem d_X12_longest_11 : decode cX12_longest 11 = .ok (.istore_n 1, 1) := by decide +kernel
theorem d_X12_longest_12 : decode cX12_longest 12 = .ok (.iconst 0, 1) := by decide +kernel
theorem d_X12_longest_13 : decode cX12_longest 13 = .ok (.istore_n 2, 1) := by decide +kernel
theorem d_X12_longest_14 : decode cX12_longest 14 = .ok (.aload_n 0, 1) := by decide +kernel
theorem d_X12_longest_15 : decode cX12_longest 15 = .ok (.invokevirtual 383, 3) := by decide +kernel
theorem d_X12_longest_18 : decode cX12_longest 18 = .ok (.iconst 0, 1) := by decide +kernel
theorem d_X12_longest_19 : decode cX12_longest 19 = .ok (.istore_n 3, 1) := by decide +kernel
theorem d_X12_longest_20 : decode cX12_longest 20 = .ok (.iload_n 3, 1) := by decide +kernel
theorem d_X12_longest_21 : decode cX12_longest 21 = .ok (.sipush 200, 3) := by decide +kernel
theorem d_X12_longest_24 : decode cX12_longest 24 = .ok (.if_icmp .ge 14, 3) := by decide +kernel
theorem d_X12_longest_27 : decode cX12_longest 27 = .ok (.aload_n 0, 1) := by decide +kernel
theorem d_X12_longest_28 : decode cX12_longest 28 = .ok (.invokevirtual 368, 3) := by decide +kernel
theorem d_X12_longest_31 : decode cX12_longest 31 = .ok (.pop, 1) := by decide +kernel
theorem d_X12_longest_32 : decode cX12_longest 32 = .ok (.iinc 3 1, 3) := by decide +kernel
theorem d_X12_longest_35 : decode cX12_longest 35 = .ok (.goto (-15), 3) := by decide +kernel
theorem d_X12_longest_38 : decode cX12_longest 38 = .ok (.iconst 0, 1) := by decide +kernel
theorem d_X12_longest_39 : decode cX12_longest 39 = .ok (.istore_n 3, 1) := by decide +kernel
theorem d_X12_longest_40 : decode cX12_longest 40 = .ok (.iload_n 3, 1) := by decide +kernel
theorem d_X12_longest_41 : decode cX12_longest 41 = .ok (.aload_n 0, 1) := by decide +kernel
theorem d_X12_longest_42 : decode cX12_longest 42 = .ok (.getfield 39, 3) := by decide +kernel
theorem d_X12_longest_45 : decode cX12_longest 45 = .ok (.iconst 1, 1) := by decide +kernel
theorem d_X12_longest_46 : decode cX12_longest 46 = .ok (.iaload, 1) := by decide +kernel
theorem d_X12_longest_47 : decode cX12_longest 47 = .ok (.if_icmp .ge 50, 3) := by decide +kernel
theorem d_X12_longest_50 : decode cX12_longest 50 = .ok (.aload_n 0, 1) := by decide +kernel
theorem d_X12_longest_51 : decode cX12_longest 51 = .ok (.iload_n 3, 1) := by decide +kernel
theorem d_X12_longest_52 : decode cX12_longest 52 = .ok (.iconst 3, 1) := by decide +kernel
theorem d_X12_longest_53 : decode cX12_longest 53 = .ok (.invokevirtual 301, 3) := by decide +kernel
theorem d_X12_longest_56 : decode cX12_longest 56 = .ok (.ifCond .ge 9, 3) := by decide +kernel
theorem d_X12_longest_59 : decode cX12_longest 59 = .ok (.ldc_w 395, 3) := by decide +kernel
theorem d_X12_longest_62 : decode cX12_longest 62 = .ok (.goto 9, 3) := by decide +kernel
theorem d_X12_longest_65 : decode cX12_longest 65 = .ok (.aload_n 0, 1) := by decide +kernel
theorem d_X12_longest_66 : decode cX12_longest 66 = .ok (.iload_n 3, 1) := by decide +kernel
theorem d_X12_longest_67 : decode cX12_longest 67 = .ok (.iconst 3, 1) := by decide +kernel
theorem d_X12_longest_68 : decode cX12_longest 68 = .ok (.invokevirtual 301, 3) := by decide +kernel
theorem d_X12_longest_71 : decode cX12_longest 71 = .ok (.istore 4, 2) := by decide +kernel
theorem d_X12_longest_73 : decode cX12_longest 73 = .ok (.iload_n 1, 1) := by decide +kernel
theorem d_X12_longest_74 : decode cX12_longest 74 = .ok (.ifCond .lt 12, 3) := by decide +kernel
theorem d_X12_longest_77 : decode cX12_longest 77 = .ok (.iload 4, 2) := by decide +kernel
theorem d_X12_longest_79 : decode cX12_longest 79 = .ok (.iload_n 2, 1) := by decide +kernel
theorem d_X12_longest_80 : decode cX12_longest 80 = .ok (.if_icmp .gt 6, 3) := by decide +kernel
theorem d_X12_longest_83 : decode cX12_longest 83 = .ok (.goto 8, 3) := by decide +kernel
theorem d_X12_longest_86 : decode cX12_longest 86 = .ok (.iload_n 3, 1) := by decide +kernel
theorem d_X12_longest_87 : decode cX12_longest 87 = .ok (.istore_n 1, 1) := by decide +kernel
theorem d_X12_longest_88 : decode cX12_longest 88 = .ok (.iload 4, 2) := by decide +kernel
theorem d_X12_longest_90 : decode cX12_longest 90 = .ok (.istore_n 2, 1) := by decide +kernel
theorem d_X12_longest_91 : decode cX12_longest 91 = .ok (.iinc 3 1, 3) := by decide +kernel
theorem d_X12_longest_94 : decode cX12_longest 94 = .ok (.goto (-54), 3) := by decide +kernel
theorem d_X12_longest_97 : decode cX12_longest 97 = .ok (.aload_n 0, 1) := by decide +kernel
theorem d_X12_longest_98 : decode cX12_longest 98 = .ok (.invokevirtual 386, 3) := by decide +kernel
theorem d_X12_longest_101 : decode cX12_longest 101 = .ok (.iload_n 1, 1) := by decide +kernel
theorem d_X12_longest_102 : decode cX12_longest 102 = .ok (.ireturn, 1) := by decide +kernel
abbrev X_X12_longest : gX := (RX12, cX12_longest, 5, (some .int), false)
def F_X12_longest_b91 (k40 : Option Nat → Int32 → Int32 → Int32 → gM → Option (Int32 × gM)) (l0 : Option Nat) (l1 : Int32) (l2 : Int32) (l3 : Int32) (M : gM) : Option (Int32 × gM) :=
  k40 l0 l1 l2 (l3 + 1) M
theorem T_X12_longest_b91 (k40 : Option Nat → Int32 → Int32 → Int32 → gM → Option (Int32 × gM)) (r : (Int32 × gM)) (hk40 : ∀ (l0 : Option Nat) (l1 : Int32) (l2 : Int32) (l3 : Int32) (M : gM), k40 l0 l1 l2 l3 M = some r → GW 5 0 0 X_X12_longest 40 [(0, vr l0), (1, vi l1), (2, vi l2), (3, vi l3)] [] M (some (vi r.1), r.2)) (l0 : Option Nat) (l1 : Int32) (l2 : Int32) (l3 : Int32) (M : gM) (h : F_X12_longest_b91 k40 l0 l1 l2 l3 M = some r) : GW 5 0 0 X_X12_longest 91 [(0, vr l0), (1, vi l1), (2, vi l2), (3, vi l3)] [] M (some (vi r.1), r.2) := by
  delta F_X12_longest_b91 at h
  refine GW_iinc (j := 3) (X := X_X12_longest) (pc := 91) d_X12_longest_91 rfl (congrArg (fun z => _ + z) (by decide : Int32.ofInt 1 = (1 : Int32))) (Nat.le_of_ble_eq_true rfl) (lv2 := [(3, vi (l3 + 1)), (0, vr l0), (1, vi l1), (2, vi l2)]) rfl ?_
  refine GW_goto (X := X_X12_longest) (pc := 94) 40 d_X12_longest_94 (by decide) ?_
  refine GW_sub [1, 2, 3, 0] rfl ?_
  exact hk40 l0 l1 l2 (l3 + 1) M h
def F_X12_longest_b86 (k40 : Option Nat → Int32 → Int32 → Int32 → gM → Option (Int32 × gM)) (l0 : Option Nat) (l3 : Int32) (l4 : Int32) (M : gM) : Option (Int32 × gM) :=
  F_X12_longest_b91 k40 l0 l3 l4 l3 M
theorem T_X12_longest_b86 (k40 : Option Nat → Int32 → Int32 → Int32 → gM → Option (Int32 × gM)) (r : (Int32 × gM)) (hk40 : ∀ (l0 : Option Nat) (l1 : Int32) (l2 : Int32) (l3 : Int32) (M : gM), k40 l0 l1 l2 l3 M = some r → GW 5 0 0 X_X12_longest 40 [(0, vr l0), (1, vi l1), (2, vi l2), (3, vi l3)] [] M (some (vi r.1), r.2)) (l0 : Option Nat) (l3 : Int32) (l4 : Int32) (M : gM) (h : F_X12_longest_b86 k40 l0 l3 l4 M = some r) : GW 5 0 0 X_X12_longest 86 [(0, vr l0), (3, vi l3), (4, vi l4)] [] M (some (vi r.1), r.2) := by
  delta F_X12_longest_b86 at h
  refine GW_iload_n (X := X_X12_longest) (pc := 86) d_X12_longest_86 rfl 1 rfl ?_
  refine GW_istore_n (X := X_X12_longest) (pc := 87) d_X12_longest_87 rfl (Nat.le_of_ble_eq_true rfl) (lv2 := [(1, vi l3), (0, vr l0), (3, vi l3), (4, vi l4)]) rfl ?_
  refine GW_iload (X := X_X12_longest) (pc := 88) d_X12_longest_88 3 rfl ?_
  refine GW_istore_n (X := X_X12_longest) (pc := 90) d_X12_longest_90 rfl (Nat.le_of_ble_eq_true rfl) (lv2 := [(2, vi l4), (1, vi l3), (0, vr l0), (3, vi l3), (4, vi l4)]) rfl ?_
  refine GW_sub [2, 1, 0, 3] rfl ?_
  exact T_X12_longest_b91 k40 r hk40 l0 l3 l4 l3 M h
def F_X12_longest_b71 (k40 : Option Nat → Int32 → Int32 → Int32 → gM → Option (Int32 × gM)) (l0 : Option Nat) (l1 : Int32) (l2 : Int32) (l3 : Int32) (s0 : Int32) (M : gM) : Option (Int32 × gM) :=
  if l1 < 0 then (F_X12_longest_b86 k40 l0 l3 s0 M) else (if l2 < s0 then (F_X12_longest_b86 k40 l0 l3 s0 M) else (F_X12_longest_b91 k40 l0 l1 l2 l3 M))
theorem T_X12_longest_b71 (k40 : Option Nat → Int32 → Int32 → Int32 → gM → Option (Int32 × gM)) (r : (Int32 × gM)) (hk40 : ∀ (l0 : Option Nat) (l1 : Int32) (l2 : Int32) (l3 : Int32) (M : gM), k40 l0 l1 l2 l3 M = some r → GW 5 0 0 X_X12_longest 40 [(0, vr l0), (1, vi l1), (2, vi l2), (3, vi l3)] [] M (some (vi r.1), r.2)) (l0 : Option Nat) (l1 : Int32) (l2 : Int32) (l3 : Int32) (s0 : Int32) (M : gM) (h : F_X12_longest_b71 k40 l0 l1 l2 l3 s0 M = some r) : GW 5 0 0 X_X12_longest 71 [(0, vr l0), (1, vi l1), (2, vi l2), (3, vi l3)] [vi s0] M (some (vi r.1), r.2) := by
  delta F_X12_longest_b71 at h
  refine GW_istore (X := X_X12_longest) (pc := 71) d_X12_longest_71 (Nat.le_of_ble_eq_true rfl) (lv2 := [(4, vi s0), (0, vr l0), (1, vi l1), (2, vi l2), (3, vi l3)]) rfl ?_
  refine GW_iload_n (X := X_X12_longest) (pc := 73) d_X12_longest_73 rfl 2 rfl ?_
  refine GW_if_lt (X := X_X12_longest) (pc := 74) 86 d_X12_longest_74 (by decide) (fun c => ?_) (fun c => ?_)
  · replace h := g_ip c h
    refine GW_sub [1, 4, 0] rfl ?_
    exact T_X12_longest_b86 k40 r hk40 l0 l3 s0 M h
  · replace h := g_ie c h
    refine GW_iload (X := X_X12_longest) (pc := 77) d_X12_longest_77 0 rfl ?_
    refine GW_iload_n (X := X_X12_longest) (pc := 79) d_X12_longest_79 rfl 3 rfl ?_
    refine GW_icmp_gt (X := X_X12_longest) (pc := 80) 86 d_X12_longest_80 (by decide) (fun c => ?_) (fun c => ?_)
    · replace h := g_ip c h
      refine GW_sub [1, 4, 0] rfl ?_
      exact T_X12_longest_b86 k40 r hk40 l0 l3 s0 M h
    · replace h := g_ie c h
      refine GW_goto (X := X_X12_longest) (pc := 83) 91 d_X12_longest_83 (by decide) ?_
      refine GW_sub [1, 2, 3, 4] rfl ?_
      exact T_X12_longest_b91 k40 r hk40 l0 l1 l2 l3 M h
def F_X12_longest_b40 (k40 : Option Nat → Int32 → Int32 → Int32 → gM → Option (Int32 × gM)) (l0 : Option Nat) (l1 : Int32) (l2 : Int32) (l3 : Int32) (M : gM) : Option (Int32 × gM) :=
  (gR 12 M l0 20).bind fun v1 => (aI 20 M v1 (1 : Int32)).bind fun v2 => if v2 ≤ l3 then ((gO 12 M l0).bind fun i3 => (F_X12_laysBack (some i3) M).bind fun M4 => some (l1, M4)) else ((gO 12 M l0).bind fun i5 => (F_X12_thingOf (some i5) l3 (3 : Int32) M).bind fun v6 => if 0 ≤ v6 then ((F_X12_thingOf (some i5) l3 (3 : Int32) M).bind fun v7 => F_X12_longest_b71 k40 (some i5) l1 l2 l3 v7 M) else (F_X12_longest_b71 k40 (some i5) l1 l2 l3 (100000 : Int32) M))
set_option maxHeartbeats 1000000 in
theorem T_X12_longest_b40 (k40 : Option Nat → Int32 → Int32 → Int32 → gM → Option (Int32 × gM)) (r : (Int32 × gM)) (hk40 : ∀ (l0 : Option Nat) (l1 : Int32) (l2 : Int32) (l3 : Int32) (M : gM), k40 l0 l1 l2 l3 M = some r → GW 5 0 0 X_X12_longest 40 [(0, vr l0), (1, vi l1), (2, vi l2), (3, vi l3)] [] M (some (vi r.1), r.2)) (l0 : Option Nat) (l1 : Int32) (l2 : Int32) (l3 : Int32) (M : gM) (h : F_X12_longest_b40 k40 l0 l1 l2 l3 M = some r) : GW 5 0 0 X_X12_longest 40 [(0, vr l0), (1, vi l1), (2, vi l2), (3, vi l3)] [] M (some (vi r.1), r.2) := by
  delta F_X12_longest_b40 at h
  refine GW_iload_n (X := X_X12_longest) (pc := 40) d_X12_longest_40 rfl 3 rfl ?_
  refine GW_aload_n (X := X_X12_longest) (pc := 41) d_X12_longest_41 rfl 0 rfl ?_
  replace h := g_bd h
  obtain ⟨v1, hv1, h⟩ := h
  refine GW_getR (X := X_X12_longest) (pc := 42) f_X12_39 d_X12_longest_42 hv1 (Or.inr ⟨_, ty_12_20⟩) ?_
  refine GW_iconst (X := X_X12_longest) (pc := 45) (v := 1) d_X12_longest_45 (by decide) ?_
  replace h := g_bd h
  obtain ⟨v2, hv2, h⟩ := h
  refine GW_iald (X := X_X12_longest) (pc := 46) d_X12_longest_46 hv2 ?_
  refine GW_icmp_ge (X := X_X12_longest) (pc := 47) 97 d_X12_longest_47 (by decide) (fun c => ?_) (fun c => ?_)
  · replace h := g_ip c h
    refine GW_aload_n (X := X_X12_longest) (pc := 97) d_X12_longest_97 rfl 0 rfl ?_
    replace h := g_bd h
    obtain ⟨i3, hi3, h⟩ := h
    obtain ⟨rfl, ki3⟩ := g_gO hi3
    replace h := g_bd h
    obtain ⟨M4, hM4, h⟩ := h
    refine GW_callV (X := X_X12_longest) (pc := 98) (bc0 := 0) (bs0 := 0) (r := none) (M2 := M4) (c0 := 12) (T_X12_laysBack (some i3) M M4 hM4) (Nat.le_of_ble_eq_true rfl) (Nat.le_of_ble_eq_true rfl) rfl g_cok12 ki3 yc_X12_laysBack ⟨m_1558, m_1560, m_101, m_127, m_1561⟩ d_X12_longest_98 rfl (st := []) rfl (Nat.le_of_ble_eq_true rfl) (Nat.le_of_ble_eq_true rfl) (Nat.le_of_ble_eq_true rfl) (st2 := []) rfl ?_
    refine GW_iload_n (X := X_X12_longest) (pc := 101) d_X12_longest_101 rfl 1 rfl ?_
    replace h := Option.some.inj h
    subst h
    exact GW_ret (X := X_X12_longest) (pc := 102) d_X12_longest_102 rfl trivial
  · replace h := g_ie c h
    refine GW_aload_n (X := X_X12_longest) (pc := 50) d_X12_longest_50 rfl 0 rfl ?_
    refine GW_iload_n (X := X_X12_longest) (pc := 51) d_X12_longest_51 rfl 3 rfl ?_
    refine GW_iconst (X := X_X12_longest) (pc := 52) (v := 3) d_X12_longest_52 (by decide) ?_
    replace h := g_bd h
    obtain ⟨i5, hi5, h⟩ := h
    obtain ⟨rfl, ki5⟩ := g_gO hi5
    replace h := g_bd h
    obtain ⟨v6, hv6, h⟩ := h
    refine GW_callV (X := X_X12_longest) (pc := 53) (bc0 := 0) (bs0 := 0) (r := some (vi v6)) (M2 := M) (c0 := 12) (T_X12_thingOf (some i5) l3 (3 : Int32) M v6 hv6) (Nat.le_of_ble_eq_true rfl) (Nat.le_of_ble_eq_true rfl) rfl g_cok12 ki5 yc_X12_thingOf ⟨m_1428, m_1430, m_79, m_127, m_1431⟩ d_X12_longest_53 rfl (st := []) rfl (Nat.le_of_ble_eq_true rfl) (Nat.le_of_ble_eq_true rfl) (Nat.le_of_ble_eq_true rfl) (st2 := [vi v6]) rfl ?_
    refine GW_if_ge (X := X_X12_longest) (pc := 56) 65 d_X12_longest_56 (by decide) (fun c => ?_) (fun c => ?_)
    · replace h := g_ip c h
      refine GW_aload_n (X := X_X12_longest) (pc := 65) d_X12_longest_65 rfl 0 rfl ?_
      refine GW_iload_n (X := X_X12_longest) (pc := 66) d_X12_longest_66 rfl 3 rfl ?_
      refine GW_iconst (X := X_X12_longest) (pc := 67) (v := 3) d_X12_longest_67 (by decide) ?_
      replace h := g_bd h
      obtain ⟨v7, hv7, h⟩ := h
      refine GW_callV (X := X_X12_longest) (pc := 68) (bc0 := 0) (bs0 := 0) (r := some (vi v7)) (M2 := M) (c0 := 12) (T_X12_thingOf (some i5) l3 (3 : Int32) M v7 hv7) (Nat.le_of_ble_eq_true rfl) (Nat.le_of_ble_eq_true rfl) rfl g_cok12 ki5 yc_X12_thingOf ⟨m_1428, m_1430, m_79, m_127, m_1431⟩ d_X12_longest_68 rfl (st := []) rfl (Nat.le_of_ble_eq_true rfl) (Nat.le_of_ble_eq_true rfl) (Nat.le_of_ble_eq_true rfl) (st2 := [vi v7]) rfl ?_
      exact T_X12_longest_b71 k40 r hk40 (some i5) l1 l2 l3 v7 M h
    · replace h := g_ie c h
      refine GW_ldcw (X := X_X12_longest) (pc := 59) d_X12_longest_59 m_1585 ?_
      refine GW_goto (X := X_X12_longest) (pc := 62) 71 d_X12_longest_62 (by decide) ?_
      exact T_X12_longest_b71 k40 r hk40 (some i5) l1 l2 l3 (100000 : Int32) M h
def F_X12_longest_L40 : Nat → Option Nat → Int32 → Int32 → Int32 → gM → Option (Int32 × gM)
  | 0 => fun _ _ _ _ _ => none
  | n + 1 => F_X12_longest_b40 (F_X12_longest_L40 n)
theorem T_X12_longest_L40 (r : (Int32 × gM)) : ∀ (n : Nat) (l0 : Option Nat) (l1 : Int32) (l2 : Int32) (l3 : Int32) (M : gM), F_X12_longest_L40 n l0 l1 l2 l3 M = some r → GW 5 0 0 X_X12_longest 40 [(0, vr l0), (1, vi l1), (2, vi l2), (3, vi l3)] [] M (some (vi r.1), r.2) := by
  intro n
  induction n with
  | zero => intro l0 l1 l2 l3 M h; exact g_no h
  | succ n ih => intro l0 l1 l2 l3 M h; exact T_X12_longest_b40 (F_X12_longest_L40 n) r ih l0 l1 l2 l3 M h
def F_X12_longest_b20 (k20 : Option Nat → Int32 → Int32 → Int32 → gM → Option (Int32 × gM)) (l0 : Option Nat) (l1 : Int32) (l2 : Int32) (l3 : Int32) (M : gM) : Option (Int32 × gM) :=
  if (200 : Int32) ≤ l3 then (F_X12_longest_L40 g_fuel l0 l1 l2 (0 : Int32) M) else ((gO 12 M l0).bind fun i1 => (F_X12_passes (some i1) M).bind fun (v2, M3) => k20 (some i1) l1 l2 (l3 + 1) M3)
theorem T_X12_longest_b20 (k20 : Option Nat → Int32 → Int32 → Int32 → gM → Option (Int32 × gM)) (r : (Int32 × gM)) (hk20 : ∀ (l0 : Option Nat) (l1 : Int32) (l2 : Int32) (l3 : Int32) (M : gM), k20 l0 l1 l2 l3 M = some r → GW 5 0 0 X_X12_longest 20 [(0, vr l0), (1, vi l1), (2, vi l2), (3, vi l3)] [] M (some (vi r.1), r.2)) (l0 : Option Nat) (l1 : Int32) (l2 : Int32) (l3 : Int32) (M : gM) (h : F_X12_longest_b20 k20 l0 l1 l2 l3 M = some r) : GW 5 0 0 X_X12_longest 20 [(0, vr l0), (1, vi l1), (2, vi l2), (3, vi l3)] [] M (some (vi r.1), r.2) := by
  delta F_X12_longest_b20 at h
  refine GW_iload_n (X := X_X12_longest) (pc := 20) d_X12_longest_20 rfl 3 rfl ?_
  refine GW_sipush (X := X_X12_longest) (pc := 21) (v := 200) d_X12_longest_21 (by decide) ?_
  refine GW_icmp_ge (X := X_X12_longest) (pc := 24) 38 d_X12_longest_24 (by decide) (fun c => ?_) (fun c => ?_)
  · replace h := g_ip c h
    refine GW_iconst (X := X_X12_longest) (pc := 38) (v := 0) d_X12_longest_38 (by decide) ?_
    refine GW_istore_n (X := X_X12_longest) (pc := 39) d_X12_longest_39 rfl (Nat.le_of_ble_eq_true rfl) (lv2 := [(3, vi (0 : Int32)), (0, vr l0), (1, vi l1), (2, vi l2)]) rfl ?_
    refine GW_sub [1, 2, 3, 0] rfl ?_
    exact T_X12_longest_L40 r g_fuel l0 l1 l2 (0 : Int32) M h
  · replace h := g_ie c h
    refine GW_aload_n (X := X_X12_longest) (pc := 27) d_X12_longest_27 rfl 0 rfl ?_
    replace h := g_bd h
    obtain ⟨i1, hi1, h⟩ := h
    obtain ⟨rfl, ki1⟩ := g_gO hi1
    replace h := g_bd h
    obtain ⟨⟨v2, M3⟩, hv2, h⟩ := h
    dsimp only at h
    refine GW_callV (X := X_X12_longest) (pc := 28) (bc0 := 0) (bs0 := 0) (r := some (vi v2)) (M2 := M3) (c0 := 12) (T_X12_passes (some i1) M (v2, M3) hv2) (Nat.le_of_ble_eq_true rfl) (Nat.le_of_ble_eq_true rfl) rfl g_cok12 ki1 yc_X12_passes ⟨m_1477, m_1479, m_87, m_127, m_1480⟩ d_X12_longest_28 rfl (st := []) rfl (Nat.le_of_ble_eq_true rfl) (Nat.le_of_ble_eq_true rfl) (Nat.le_of_ble_eq_true rfl) (st2 := [vi v2]) rfl ?_
    refine GW_pop (X := X_X12_longest) (pc := 31) d_X12_longest_31 rfl ?_
    refine GW_iinc (j := 3) (X := X_X12_longest) (pc := 32) d_X12_longest_32 rfl (congrArg (fun z => _ + z) (by decide : Int32.ofInt 1 = (1 : Int32))) (Nat.le_of_ble_eq_true rfl) (lv2 := [(3, vi (l3 + 1)), (0, vr (some i1)), (1, vi l1), (2, vi l2)]) rfl ?_
    refine GW_goto (X := X_X12_longest) (pc := 35) 20 d_X12_longest_35 (by decide) ?_
    refine GW_sub [1, 2, 3, 0] rfl ?_
    exact hk20 (some i1) l1 l2 (l3 + 1) M3 h
def F_X12_longest_L20 : Nat → Option Nat → Int32 → Int32 → Int32 → gM → Option (Int32 × gM)
  | 0 => fun _ _ _ _ _ => none
  | n + 1 => F_X12_longest_b20 (F_X12_longest_L20 n)
theorem T_X12_longest_L20 (r : (Int32 × gM)) : ∀ (n : Nat) (l0 : Option Nat) (l1 : Int32) (l2 : Int32) (l3 : Int32) (M : gM), F_X12_longest_L20 n l0 l1 l2 l3 M = some r → GW 5 0 0 X_X12_longest 20 [(0, vr l0), (1, vi l1), (2, vi l2), (3, vi l3)] [] M (some (vi r.1), r.2) := by
  intro n
  induction n with
  | zero => intro l0 l1 l2 l3 M h; exact g_no h
  | succ n ih => intro l0 l1 l2 l3 M h; exact T_X12_longest_b20 (F_X12_longest_L20 n) r ih l0 l1 l2 l3 M h
def F_X12_longest_b0 (l0 : Option Nat) (M : gM) : Option (Int32 × gM) :=
  (gO 12 M l0).bind fun i1 => (F_X12_isHouse (some i1) M).bind fun v2 => if v2 = 0 then (some ((-1 : Int32), M)) else ((F_X12_keeps (some i1) M).bind fun M3 => F_X12_longest_L20 g_fuel (some i1) (-2 : Int32) (0 : Int32) (0 : Int32) M3)
theorem T_X12_longest_b0 (r : (Int32 × gM)) (l0 : Option Nat) (M : gM) (h : F_X12_longest_b0 l0 M = some r) : GW 5 0 0 X_X12_longest 0 [(0, vr l0)] [] M (some (vi r.1), r.2) := by
  delta F_X12_longest_b0 at h
  refine GW_aload_n (X := X_X12_longest) (pc := 0) d_X12_longest_0 rfl 0 rfl ?_
  replace h := g_bd h
  obtain ⟨i1, hi1, h⟩ := h
  obtain ⟨rfl, ki1⟩ := g_gO hi1
  replace h := g_bd h
  obtain ⟨v2, hv2, h⟩ := h
  refine GW_callV (X := X_X12_longest) (pc := 1) (bc0 := 0) (bs0 := 0) (r := some (vi v2)) (M2 := M) (c0 := 12) (T_X12_isHouse (some i1) M v2 hv2) (Nat.le_of_ble_eq_true rfl) (Nat.le_of_ble_eq_true rfl) rfl g_cok12 ki1 yc_X12_isHouse ⟨m_1469, m_1471, m_85, m_127, m_1472⟩ d_X12_longest_1 rfl (st := []) rfl (Nat.le_of_ble_eq_true rfl) (Nat.le_of_ble_eq_true rfl) (Nat.le_of_ble_eq_true rfl) (st2 := [vi v2]) rfl ?_
  refine GW_if_ne (X := X_X12_longest) (pc := 4) 9 d_X12_longest_4 (by decide) (fun c => ?_) (fun c => ?_)
  · replace h := g_ie c h
    refine GW_bipush (X := X_X12_longest) (pc := 9) (v := -2) d_X12_longest_9 (by decide) ?_
    refine GW_istore_n (X := X_X12_longest) (pc := 11) d_X12_longest_11 rfl (Nat.le_of_ble_eq_true rfl) (lv2 := [(1, vi (-2 : Int32)), (0, vr (some i1))]) rfl ?_
    refine GW_iconst (X := X_X12_longest) (pc := 12) (v := 0) d_X12_longest_12 (by decide) ?_
    refine GW_istore_n (X := X_X12_longest) (pc := 13) d_X12_longest_13 rfl (Nat.le_of_ble_eq_true rfl) (lv2 := [(2, vi (0 : Int32)), (1, vi (-2 : Int32)), (0, vr (some i1))]) rfl ?_
    refine GW_aload_n (X := X_X12_longest) (pc := 14) d_X12_longest_14 rfl 2 rfl ?_
    replace h := g_bd h
    obtain ⟨M3, hM3, h⟩ := h
    refine GW_callV (X := X_X12_longest) (pc := 15) (bc0 := 0) (bs0 := 0) (r := none) (M2 := M3) (c0 := 12) (T_X12_keeps (some i1) M M3 hM3) (Nat.le_of_ble_eq_true rfl) (Nat.le_of_ble_eq_true rfl) rfl g_cok12 ki1 yc_X12_keeps ⟨m_1554, m_1556, m_100, m_127, m_1557⟩ d_X12_longest_15 rfl (st := []) rfl (Nat.le_of_ble_eq_true rfl) (Nat.le_of_ble_eq_true rfl) (Nat.le_of_ble_eq_true rfl) (st2 := []) rfl ?_
    refine GW_iconst (X := X_X12_longest) (pc := 18) (v := 0) d_X12_longest_18 (by decide) ?_
    refine GW_istore_n (X := X_X12_longest) (pc := 19) d_X12_longest_19 rfl (Nat.le_of_ble_eq_true rfl) (lv2 := [(3, vi (0 : Int32)), (2, vi (0 : Int32)), (1, vi (-2 : Int32)), (0, vr (some i1))]) rfl ?_
    refine GW_sub [3, 2, 1, 0] rfl ?_
    exact T_X12_longest_L20 r g_fuel (some i1) (-2 : Int32) (0 : Int32) (0 : Int32) M3 h
  · replace h := g_ip c h
    refine GW_iconst (X := X_X12_longest) (pc := 7) (v := -1) d_X12_longest_7 (by decide) ?_
    replace h := Option.some.inj h
    subst h
    exact GW_ret (X := X_X12_longest) (pc := 8) d_X12_longest_8 rfl trivial
def F_X12_longest (l0 : Option Nat) (M : gM) : Option (Int32 × gM) := F_X12_longest_b0 l0 M
theorem T_X12_longest (l0 : Option Nat) (M : gM) (r : (Int32 × gM)) (h : F_X12_longest l0 M = some r) : g_Met 5 0 0 yX12_longest X_X12_longest [vr l0] M (some (vi r.1), r.2) :=
  g_Met_of pn_RX12 rfl (Nat.le_of_ble_eq_true rfl) (fun h => by cases h) (GW_sub [0] rfl (T_X12_longest_b0 r l0 M h))
/-! ForgetHeirs.fields(I)I -/
theorem d_X11_fields_0 : decode cX11_fields 0 = .ok (.iload_n 1, 1) := by decide +kernel
theorem d_X11_fields_1 : decode cX11_fields 1 = .ok (.ifCond .lt 20, 3) := by decide +kernel
theorem d_X11_fields_4 : decode cX11_fields 4 = .ok (.iload_n 1, 1) := by decide +kernel
theorem d_X11_fields_5 : decode cX11_fields 5 = .ok (.sipush 200, 3) := by decide +kernel
theorem d_X11_fields_8 : decode cX11_fields 8 = .ok (.if_icmp .gt 13, 3) := by decide +kernel
theorem d_X11_fields_11 : decode cX11_fields 11 = .ok (.aload_n 0, 1) := by decide +kernel
theorem d_X11_fields_12 : decode cX11_fields 12 = .ok (.getfield 59, 3) := by decide +kernel
theorem d_X11_fields_15 : decode cX11_fields 15 = .ok (.getfield 204, 3) := by decide +kernel
theorem d_X11_fields_18 : decode cX11_fields 18 = .ok (.ifCond .ne 5, 3) := by decide +kernel
theorem d_X11_fields_21 : decode cX11_fields 21 = .ok (.iconst (-1), 1) := by decide +kernel
theorem d_X11_fields_22 : decode cX11_fields 22 = .ok (.ireturn, 1) := by decide +kernel
theorem d_X11_fields_23 : decode cX11_fields 23 = .ok (.aload_n 0, 1) := by decide +kernel
theorem d_X11_fields_24 : decode cX11_fields 24 = .ok (.iload_n 1, 1) := by decide +kernel
theorem d_X11_fields_25 : decode cX11_fields 25 = .ok (.invokevirtual 242, 3) := by decide +kernel
theorem d_X11_fields_28 : decode cX11_fields 28 = .ok (.iconst 0, 1) := by decide +kernel
theorem d_X11_fields_29 : decode cX11_fields 29 = .ok (.istore_n 2, 1) := by decide +kernel
theorem d_X11_fields_30 : decode cX11_fields 30 = .ok (.iconst 0, 1) := by decide +kernel
theorem d_X11_fields_31 : decode cX11_fields 31 = .ok (.istore_n 3, 1) := by decide +kernel
theorem d_X11_fields_32 : decode cX11_fields 32 = .ok (.iload_n 3, 1) := by decide +kernel
theorem d_X11_fields_33 : decode cX11_fields 33 = .ok (.aload_n 0, 1) := by decide +kernel
theorem d_X11_fields_34 : decode cX11_fields 34 = .ok (.getfield 59, 3) := by decide +kernel
theorem d_X11_fields_37 : decode cX11_fields 37 = .ok (.getfield 184, 3) := by decide +kernel
theorem d_X11_fields_40 : decode cX11_fields 40 = .ok (.if_icmp .ge 34, 3) := by decide +kernel
theorem d_X11_fields_43 : decode cX11_fields 43 = .ok (.aload_n 0, 1) := by decide +kernel
theorem d_X11_fields_44 : decode cX11_fields 44 = .ok (.getfield 29, 3) := by decide +kernel
theorem d_X11_fields_47 : decode cX11_fields 47 = .ok (.getfield 172, 3) := by decide +kernel
theorem d_X11_fields_50 : decode cX11_fields 50 = .ok (.iload_n 3, 1) := by decide +kernel
theorem d_X11_fields_51 : decode cX11_fields 51 = .ok (.iaload, 1) := by decide +kernel
theorem d_X11_fields_52 : decode cX11_fields 52 = .ok (.iconst (-1), 1) := by decide +kernel
theorem d_X11_fields_53 : decode cX11_fields 53 = .ok (.if_icmp .ne 15, 3) := by decide +kernel
theorem d_X11_fields_56 : decode cX11_fields 56 = .ok (.iload_n 2, 1) := by decide +kernel
theorem d_X11_fields_57 : decode cX11_fields 57 = .ok (.aload_n 0, 1) := by decide +kernel
theorem d_X11_fields_58 : decode cX11_fields 58 = .ok (.getfield 59, 3) := by decide +kernel
theorem d_X11_fields_61 : decode cX11_fields 61 = .ok (.getfield 163, 3) := by decide +kernel
theorem d_X11_fields_64 : decode cX11_fields 64 = .ok (.iload_n 3, 1) := by decide +kernel
theorem d_X11_fields_65 : decode cX11_fields 65 = .ok (.iaload, 1) := by decide +kernel
theorem d_X11_fields_66 : decode cX11_fields 66 = .ok (.iadd, 1) := by decide +kernel
theorem d_X11_fields_67 : decode cX11_fields 67 = .ok (.istore_n 2, 1) := by decide +kernel
theorem d_X11_fields_68 : decode cX11_fields 68 = .ok (.iinc 3 1, 3) := by decide +kernel
theorem d_X11_fields_71 : decode cX11_fields 71 = .ok (.goto (-39), 3) := by decide +kernel
theorem d_X11_fields_74 : decode cX11_fields 74 = .ok (.iload_n 2, 1) := by decide +kernel
theorem d_X11_fields_75 : decode cX11_fields 75 = .ok (.ireturn, 1) := by decide +kernel
abbrev X_X11_fields : gX := (RX11, cX11_fields, 4, (some .int), false)
def F_X11_fields_b21 (M : gM) : Option (Int32 × gM) :=
  some ((-1 : Int32), M)
theorem T_X11_fields_b21 (r : (Int32 × gM)) (M : gM) (h : F_X11_fields_b21 M = some r) : GW 6 0 0 X_X11_fields 21 [] [] M (some (vi r.1), r.2) := by
  delta F_X11_fields_b21 at h
  refine GW_iconst (X := X_X11_fields) (pc := 21) (v := -1) d_X11_fields_21 (by decide) ?_
  replace h := Option.some.inj h
  subst h
  exact GW_ret (X := X_X11_fields) (pc := 22) d_X11_fields_22 rfl trivial
def F_X11_fields_b68 (k32 : Option Nat → Int32 → Int32 → gM → Option (Int32 × gM)) (l0 : Option Nat) (l2 : Int32) (l3 : Int32) (M : gM) : Option (Int32 × gM) :=
  k32 l0 l2 (l3 + 1) M
theorem T_X11_fields_b68 (k32 : Option Nat → Int32 → Int32 → gM → Option (Int32 × gM)) (r : (Int32 × gM)) (hk32 : ∀ (l0 : Option Nat) (l2 : Int32) (l3 : Int32) (M : gM), k32 l0 l2 l3 M = some r → GW 6 0 0 X_X11_fields 32 [(0, vr l0), (2, vi l2), (3, vi l3)] [] M (some (vi r.1), r.2)) (l0 : Option Nat) (l2 : Int32) (l3 : Int32) (M : gM) (h : F_X11_fields_b68 k32 l0 l2 l3 M = some r) : GW 6 0 0 X_X11_fields 68 [(0, vr l0), (2, vi l2), (3, vi l3)] [] M (some (vi r.1), r.2) := by
  delta F_X11_fields_b68 at h
  refine GW_iinc (j := 2) (X := X_X11_fields) (pc := 68) d_X11_fields_68 rfl (congrArg (fun z => _ + z) (by decide : Int32.ofInt 1 = (1 : Int32))) (Nat.le_of_ble_eq_true rfl) (lv2 := [(3, vi (l3 + 1)), (0, vr l0), (2, vi l2)]) rfl ?_
  refine GW_goto (X := X_X11_fields) (pc := 71) 32 d_X11_fields_71 (by decide) ?_
  refine GW_sub [1, 2, 0] rfl ?_
  exact hk32 l0 l2 (l3 + 1) M h
def F_X11_fields_b32 (k32 : Option Nat → Int32 → Int32 → gM → Option (Int32 × gM)) (l0 : Option Nat) (l2 : Int32) (l3 : Int32) (M : gM) : Option (Int32 × gM) :=
  (gR 11 M l0 11).bind fun v1 => (gI 1 M v1 6).bind fun v2 => if v2 ≤ l3 then (some (l2, M)) else ((gR 11 M l0 6).bind fun v3 => (gR 8 M v3 3).bind fun v4 => (aI 20 M v4 l3).bind fun v5 => if v5 = (-1 : Int32) then ((gR 11 M l0 11).bind fun v6 => (gR 1 M v6 2).bind fun v7 => (aI 20 M v7 l3).bind fun v8 => F_X11_fields_b68 k32 l0 (l2 + v8) l3 M) else (F_X11_fields_b68 k32 l0 l2 l3 M))
set_option maxHeartbeats 1000000 in
theorem T_X11_fields_b32 (k32 : Option Nat → Int32 → Int32 → gM → Option (Int32 × gM)) (r : (Int32 × gM)) (hk32 : ∀ (l0 : Option Nat) (l2 : Int32) (l3 : Int32) (M : gM), k32 l0 l2 l3 M = some r → GW 6 0 0 X_X11_fields 32 [(0, vr l0), (2, vi l2), (3, vi l3)] [] M (some (vi r.1), r.2)) (l0 : Option Nat) (l2 : Int32) (l3 : Int32) (M : gM) (h : F_X11_fields_b32 k32 l0 l2 l3 M = some r) : GW 6 0 0 X_X11_fields 32 [(0, vr l0), (2, vi l2), (3, vi l3)] [] M (some (vi r.1), r.2) := by
  delta F_X11_fields_b32 at h
  refine GW_iload_n (X := X_X11_fields) (pc := 32) d_X11_fields_32 rfl 2 rfl ?_
  refine GW_aload_n (X := X_X11_fields) (pc := 33) d_X11_fields_33 rfl 0 rfl ?_
  replace h := g_bd h
  obtain ⟨v1, hv1, h⟩ := h
  refine GW_getR (X := X_X11_fields) (pc := 34) f_X11_59 d_X11_fields_34 hv1 (Or.inl ⟨_, ty_11_11⟩) ?_
  replace h := g_bd h
  obtain ⟨v2, hv2, h⟩ := h
  refine GW_getI (X := X_X11_fields) (pc := 37) f_X11_184 d_X11_fields_37 hv2 (Or.inl ty_1_6) ?_
  refine GW_icmp_ge (X := X_X11_fields) (pc := 40) 74 d_X11_fields_40 (by decide) (fun c => ?_) (fun c => ?_)
  · replace h := g_ip c h
    refine GW_iload_n (X := X_X11_fields) (pc := 74) d_X11_fields_74 rfl 1 rfl ?_
    replace h := Option.some.inj h
    subst h
    exact GW_ret (X := X_X11_fields) (pc := 75) d_X11_fields_75 rfl trivial
  · replace h := g_ie c h
    refine GW_aload_n (X := X_X11_fields) (pc := 43) d_X11_fields_43 rfl 0 rfl ?_
    replace h := g_bd h
    obtain ⟨v3, hv3, h⟩ := h
    refine GW_getR (X := X_X11_fields) (pc := 44) f_X11_29 d_X11_fields_44 hv3 (Or.inl ⟨_, ty_11_6⟩) ?_
    replace h := g_bd h
    obtain ⟨v4, hv4, h⟩ := h
    refine GW_getR (X := X_X11_fields) (pc := 47) f_X11_172 d_X11_fields_47 hv4 (Or.inr ⟨_, ty_8_3⟩) ?_
    refine GW_iload_n (X := X_X11_fields) (pc := 50) d_X11_fields_50 rfl 2 rfl ?_
    replace h := g_bd h
    obtain ⟨v5, hv5, h⟩ := h
    refine GW_iald (X := X_X11_fields) (pc := 51) d_X11_fields_51 hv5 ?_
    refine GW_iconst (X := X_X11_fields) (pc := 52) (v := -1) d_X11_fields_52 (by decide) ?_
    refine GW_icmp_ne (X := X_X11_fields) (pc := 53) 68 d_X11_fields_53 (by decide) (fun c => ?_) (fun c => ?_)
    · replace h := g_ie c h
      exact T_X11_fields_b68 k32 r hk32 l0 l2 l3 M h
    · replace h := g_ip c h
      refine GW_iload_n (X := X_X11_fields) (pc := 56) d_X11_fields_56 rfl 1 rfl ?_
      refine GW_aload_n (X := X_X11_fields) (pc := 57) d_X11_fields_57 rfl 0 rfl ?_
      replace h := g_bd h
      obtain ⟨v6, hv6, h⟩ := h
      refine GW_getR (X := X_X11_fields) (pc := 58) f_X11_59 d_X11_fields_58 hv6 (Or.inl ⟨_, ty_11_11⟩) ?_
      replace h := g_bd h
      obtain ⟨v7, hv7, h⟩ := h
      refine GW_getR (X := X_X11_fields) (pc := 61) f_X11_163 d_X11_fields_61 hv7 (Or.inr ⟨_, ty_1_2⟩) ?_
      refine GW_iload_n (X := X_X11_fields) (pc := 64) d_X11_fields_64 rfl 2 rfl ?_
      replace h := g_bd h
      obtain ⟨v8, hv8, h⟩ := h
      refine GW_iald (X := X_X11_fields) (pc := 65) d_X11_fields_65 hv8 ?_
      refine GW_iadd (X := X_X11_fields) (pc := 66) d_X11_fields_66 ?_
      refine GW_istore_n (X := X_X11_fields) (pc := 67) d_X11_fields_67 rfl (Nat.le_of_ble_eq_true rfl) (lv2 := [(2, vi (l2 + v8)), (0, vr l0), (3, vi l3)]) rfl ?_
      refine GW_sub [1, 0, 2] rfl ?_
      exact T_X11_fields_b68 k32 r hk32 l0 (l2 + v8) l3 M h
def F_X11_fields_L32 : Nat → Option Nat → Int32 → Int32 → gM → Option (Int32 × gM)
  | 0 => fun _ _ _ _ => none
  | n + 1 => F_X11_fields_b32 (F_X11_fields_L32 n)
theorem T_X11_fields_L32 (r : (Int32 × gM)) : ∀ (n : Nat) (l0 : Option Nat) (l2 : Int32) (l3 : Int32) (M : gM), F_X11_fields_L32 n l0 l2 l3 M = some r → GW 6 0 0 X_X11_fields 32 [(0, vr l0), (2, vi l2), (3, vi l3)] [] M (some (vi r.1), r.2) := by
  intro n
  induction n with
  | zero => intro l0 l2 l3 M h; exact g_no h
  | succ n ih => intro l0 l2 l3 M h; exact T_X11_fields_b32 (F_X11_fields_L32 n) r ih l0 l2 l3 M h
def F_X11_fields_b0 (l0 : Option Nat) (l1 : Int32) (M : gM) : Option (Int32 × gM) :=
  if l1 < 0 then (F_X11_fields_b21 M) else (if (200 : Int32) < l1 then (F_X11_fields_b21 M) else ((gR 11 M l0 11).bind fun v1 => (gI 1 M v1 5).bind fun v2 => if v2 = 0 then (F_X11_fields_b21 M) else ((gO 11 M l0).bind fun i3 => (F_X11_lookAhead (some i3) l1 M).bind fun M4 => F_X11_fields_L32 g_fuel (some i3) (0 : Int32) (0 : Int32) M4)))
theorem T_X11_fields_b0 (r : (Int32 × gM)) (l0 : Option Nat) (l1 : Int32) (M : gM) (h : F_X11_fields_b0 l0 l1 M = some r) : GW 6 0 0 X_X11_fields 0 [(0, vr l0), (1, vi l1)] [] M (some (vi r.1), r.2) := by
  delta F_X11_fields_b0 at h
  refine GW_iload_n (X := X_X11_fields) (pc := 0) d_X11_fields_0 rfl 1 rfl ?_
  refine GW_if_lt (X := X_X11_fields) (pc := 1) 21 d_X11_fields_1 (by decide) (fun c => ?_) (fun c => ?_)
  · replace h := g_ip c h
    refine GW_sub [] rfl ?_
    exact T_X11_fields_b21 r M h
  · replace h := g_ie c h
    refine GW_iload_n (X := X_X11_fields) (pc := 4) d_X11_fields_4 rfl 1 rfl ?_
    refine GW_sipush (X := X_X11_fields) (pc := 5) (v := 200) d_X11_fields_5 (by decide) ?_
    refine GW_icmp_gt (X := X_X11_fields) (pc := 8) 21 d_X11_fields_8 (by decide) (fun c => ?_) (fun c => ?_)
    · replace h := g_ip c h
      refine GW_sub [] rfl ?_
      exact T_X11_fields_b21 r M h
    · replace h := g_ie c h
      refine GW_aload_n (X := X_X11_fields) (pc := 11) d_X11_fields_11 rfl 0 rfl ?_
      replace h := g_bd h
      obtain ⟨v1, hv1, h⟩ := h
      refine GW_getR (X := X_X11_fields) (pc := 12) f_X11_59 d_X11_fields_12 hv1 (Or.inl ⟨_, ty_11_11⟩) ?_
      replace h := g_bd h
      obtain ⟨v2, hv2, h⟩ := h
      refine GW_getI (X := X_X11_fields) (pc := 15) f_X11_204 d_X11_fields_15 hv2 (Or.inr ty_1_5) ?_
      refine GW_if_ne (X := X_X11_fields) (pc := 18) 23 d_X11_fields_18 (by decide) (fun c => ?_) (fun c => ?_)
      · replace h := g_ie c h
        refine GW_aload_n (X := X_X11_fields) (pc := 23) d_X11_fields_23 rfl 0 rfl ?_
        refine GW_iload_n (X := X_X11_fields) (pc := 24) d_X11_fields_24 rfl 1 rfl ?_
        replace h := g_bd h
        obtain ⟨i3, hi3, h⟩ := h
        obtain ⟨rfl, ki3⟩ := g_gO hi3
        replace h := g_bd h
        obtain ⟨M4, hM4, h⟩ := h
        refine GW_callV (X := X_X11_fields) (pc := 25) (bc0 := 0) (bs0 := 0) (r := none) (M2 := M4) (c0 := 11) (T_X11_lookAhead (some i3) l1 M M4 hM4) (Nat.le_of_ble_eq_true rfl) (Nat.le_of_ble_eq_true rfl) rfl g_cok11 ki3 yc_X11_lookAhead ⟨m_956, m_958, m_32, m_116, m_959⟩ d_X11_fields_25 rfl (st := []) rfl (Nat.le_of_ble_eq_true rfl) (Nat.le_of_ble_eq_true rfl) (Nat.le_of_ble_eq_true rfl) (st2 := []) rfl ?_
        refine GW_iconst (X := X_X11_fields) (pc := 28) (v := 0) d_X11_fields_28 (by decide) ?_
        refine GW_istore_n (X := X_X11_fields) (pc := 29) d_X11_fields_29 rfl (Nat.le_of_ble_eq_true rfl) (lv2 := [(2, vi (0 : Int32)), (0, vr (some i3)), (1, vi l1)]) rfl ?_
        refine GW_iconst (X := X_X11_fields) (pc := 30) (v := 0) d_X11_fields_30 (by decide) ?_
        refine GW_istore_n (X := X_X11_fields) (pc := 31) d_X11_fields_31 rfl (Nat.le_of_ble_eq_true rfl) (lv2 := [(3, vi (0 : Int32)), (2, vi (0 : Int32)), (0, vr (some i3)), (1, vi l1)]) rfl ?_
        refine GW_sub [2, 1, 0] rfl ?_
        exact T_X11_fields_L32 r g_fuel (some i3) (0 : Int32) (0 : Int32) M4 h
      · replace h := g_ip c h
        refine GW_sub [] rfl ?_
        exact T_X11_fields_b21 r M h
def F_X11_fields (l0 : Option Nat) (l1 : Int32) (M : gM) : Option (Int32 × gM) := F_X11_fields_b0 l0 l1 M
theorem T_X11_fields (l0 : Option Nat) (l1 : Int32) (M : gM) (r : (Int32 × gM)) (h : F_X11_fields l0 l1 M = some r) : g_Met 6 0 0 yX11_fields X_X11_fields [vr l0, vi l1] M (some (vi r.1), r.2) :=
  g_Met_of pn_RX11 rfl (Nat.le_of_ble_eq_true rfl) (fun h => by cases h) (GW_sub [0, 1] rfl (T_X11_fields_b0 r l0 l1 M h))
/-! ForgetHeirsModel.fields(I)I -/
theorem d_X12_fields_0 : decode cX12_fields 0 = .ok (.aload_n 0, 1) := by decide +kernel
theorem d_X12_fields_1 : decode cX12_fields 1 = .ok (.invokevirtual 362, 3) := by decide +kernel
theorem d_X12_fields_4 : decode cX12_fields 4 = .ok (.ifCond .eq 15, 3) := by decide +kernel
theorem d_X12_fields_7 : decode cX12_fields 7 = .ok (.iload_n 1, 1) := by decide +kernel
theorem d_X12_fields_8 : decode cX12_fields 8 = .ok (.i2l, 1) := by decide +kernel
theorem d_X12_fields_9 : decode cX12_fields 9 = .ok (.lconst 0, 1) := by decide +kernel
theorem d_X12_fields_10 : decode cX12_fields 10 = .ok (.ldc2_w 381, 3) := by decide +kernel
theorem d_X12_fields_13 : decode cX12_fields 13 = .ok (.invokestatic 118, 3) := by decide +kernel
theorem d_X12_fields_16 : decode cX12_fields 16 = .ok (.ifCond .ne 5, 3) := by decide +kernel
theorem d_X12_fields_19 : decode cX12_fields 19 = .ok (.iconst (-1), 1) := by decide +kernel
theorem d_X12_fields_20 : decode cX12_fields 20 = .ok (.ireturn, 1) := by decide +kernel
theorem d_X12_fields_21 : decode cX12_fields 21 = .ok (.iconst 0, 1) := by decide +kernel
theorem d_X12_fields_22 : decode cX12_fields 22 = .ok (.istore_n 2, 1) := by decide +kernel
theorem d_X12_fields_23 : decode cX12_fields 23 = .ok (.aload_n 0, 1) := by decide +kernel
theorem d_X12_fields_24 : decode cX12_fields 24 = .ok (.invokevirtual 383, 3) := by decide +kernel
theorem d_X12_fields_27 : decode cX12_fields 27 = .ok (.iconst 0, 1) := by decide +kernel
theorem d_X12_fields_28 : decode cX12_fields 28 = .ok (.istore_n 3, 1) := by decide +kernel
theorem d_X12_fields_29 : decode cX12_fields 29 = .ok (.iload_n 3, 1) := by decide +kernel
theorem d_X12_fields_30 : decode cX12_fields 30 = .ok (.iload_n 1, 1) := by decide +kernel
theorem d_X12_fields_31 : decode cX12_fields 31 = .ok (.if_icmp .ge 14, 3) := by decide +kernel
theorem d_X12_fields_34 : decode cX12_fields 34 = .ok (.aload_n 0, 1) := by decide +kernel
theorem d_X12_fields_35 : decode cX12_fields 35 = .ok (.invokevirtual 368, 3) := by decide +kernel
theorem d_X12_fields_38 : decode cX12_fields 38 = .ok (.pop, 1) := by decide +kernel
theorem d_X12_fields_39 : decode cX12_fields 39 = .ok (.iinc 3 1, 3) := by decide +kernel
theorem d_X12_fields_42 : decode cX12_fields 42 = .ok (.goto (-13), 3) := by decide +kernel
theorem d_X12_fields_45 : decode cX12_fields 45 = .ok (.iconst 0, 1) := by decide +kernel
theorem d_X12_fields_46 : decode cX12_fields 46 = .ok (.istore_n 3, 1) := by decide +kernel
theorem d_X12_fields_47 : decode cX12_fields 47 = .ok (.iload_n 3, 1) := by decide +kernel
theorem d_X12_fields_48 : decode cX12_fields 48 = .ok (.aload_n 0, 1) := by decide +kernel
theorem d_X12_fields_49 : decode cX12_fields 49 = .ok (.getfield 39, 3) := by decide +kernel
theorem d_X12_fields_52 : decode cX12_fields 52 = .ok (.iconst 1, 1) := by decide +kernel
theorem d_X12_fields_53 : decode cX12_fields 53 = .ok (.iaload, 1) := by decide +kernel
theorem d_X12_fields_54 : decode cX12_fields 54 = .ok (.if_icmp .ge 31, 3) := by decide +kernel
theorem d_X12_fields_57 : decode cX12_fields 57 = .ok (.iload_n 2, 1) := by decide +kernel
theorem d_X12_fields_58 : decode cX12_fields 58 = .ok (.aload_n 0, 1) := by decide +kernel
theorem d_X12_fields_59 : decode cX12_fields 59 = .ok (.iload_n 3, 1) := by decide +kernel
theorem d_X12_fields_60 : decode cX12_fields 60 = .ok (.iconst 3, 1) := by decide +kernel
theorem d_X12_fields_61 : decode cX12_fields 61 = .ok (.invokevirtual 301, 3) := by decide +kernel
theorem d_X12_fields_64 : decode cX12_fields 64 = .ok (.ifCond .ge 12, 3) := by decide +kernel
theorem d_X12_fields_67 : decode cX12_fields 67 = .ok (.aload_n 0, 1) := by decide +kernel
theorem d_X12_fields_68 : decode cX12_fields 68 = .ok (.iload_n 3, 1) := by decide +kernel
theorem d_X12_fields_69 : decode cX12_fields 69 = .ok (.iconst 2, 1) := by decide +kernel
theorem d_X12_fields_70 : decode cX12_fields 70 = .ok (.invokevirtual 301, 3) := by decide +kernel
theorem d_X12_fields_73 : decode cX12_fields 73 = .ok (.goto 4, 3) := by decide +kernel
theorem d_X12_fields_76 : decode cX12_fields 76 = .ok (.iconst 0, 1) := by decide +kernel
theorem d_X12_fields_77 : decode cX12_fields 77 = .ok (.iadd, 1) := by decide +kernel
theorem d_X12_fields_78 : decode cX12_fields 78 = .ok (.istore_n 2, 1) := by decide +kernel
theorem d_X12_fields_79 : decode cX12_fields 79 = .ok (.iinc 3 1, 3) := by decide +kernel
theorem d_X12_fields_82 : decode cX12_fields 82 = .ok (.goto (-35), 3) := by decide +kernel
theorem d_X12_fields_85 : decode cX12_fields 85 = .ok (.aload_n 0, 1) := by decide +kernel
theorem d_X12_fields_86 : decode cX12_fields 86 = .ok (.invokevirtual 386, 3) := by decide +kernel
theorem d_X12_fields_89 : decode cX12_fields 89 = .ok (.iload_n 2, 1) := by decide +kernel
theorem d_X12_fields_90 : decode cX12_fields 90 = .ok (.ireturn, 1) := by decide +kernel
abbrev X_X12_fields : gX := (RX12, cX12_fields, 4, (some .int), false)
def F_X12_fields_b19 (M : gM) : Option (Int32 × gM) :=
  some ((-1 : Int32), M)
theorem T_X12_fields_b19 (r : (Int32 × gM)) (M : gM) (h : F_X12_fields_b19 M = some r) : GW 5 0 0 X_X12_fields 19 [] [] M (some (vi r.1), r.2) := by
  delta F_X12_fields_b19 at h
  refine GW_iconst (X := X_X12_fields) (pc := 19) (v := -1) d_X12_fields_19 (by decide) ?_
  replace h := Option.some.inj h
  subst h
  exact GW_ret (X := X_X12_fields) (pc := 20) d_X12_fields_20 rfl trivial
def F_X12_fields_b77 (k47 : Option Nat → Int32 → Int32 → gM → Option (Int32 × gM)) (l0 : Option Nat) (l3 : Int32) (s0 : Int32) (s1 : Int32) (M : gM) : Option (Int32 × gM) :=
  k47 l0 (s0 + s1) (l3 + 1) M
theorem T_X12_fields_b77 (k47 : Option Nat → Int32 → Int32 → gM → Option (Int32 × gM)) (r : (Int32 × gM)) (hk47 : ∀ (l0 : Option Nat) (l2 : Int32) (l3 : Int32) (M : gM), k47 l0 l2 l3 M = some r → GW 5 0 0 X_X12_fields 47 [(0, vr l0), (2, vi l2), (3, vi l3)] [] M (some (vi r.1), r.2)) (l0 : Option Nat) (l3 : Int32) (s0 : Int32) (s1 : Int32) (M : gM) (h : F_X12_fields_b77 k47 l0 l3 s0 s1 M = some r) : GW 5 0 0 X_X12_fields 77 [(0, vr l0), (3, vi l3)] [vi s1, vi s0] M (some (vi r.1), r.2) := by
  delta F_X12_fields_b77 at h
  refine GW_iadd (X := X_X12_fields) (pc := 77) d_X12_fields_77 ?_
  refine GW_istore_n (X := X_X12_fields) (pc := 78) d_X12_fields_78 rfl (Nat.le_of_ble_eq_true rfl) (lv2 := [(2, vi (s0 + s1)), (0, vr l0), (3, vi l3)]) rfl ?_
  refine GW_iinc (j := 2) (X := X_X12_fields) (pc := 79) d_X12_fields_79 rfl (congrArg (fun z => _ + z) (by decide : Int32.ofInt 1 = (1 : Int32))) (Nat.le_of_ble_eq_true rfl) (lv2 := [(3, vi (l3 + 1)), (2, vi (s0 + s1)), (0, vr l0)]) rfl ?_
  refine GW_goto (X := X_X12_fields) (pc := 82) 47 d_X12_fields_82 (by decide) ?_
  refine GW_sub [2, 1, 0] rfl ?_
  exact hk47 l0 (s0 + s1) (l3 + 1) M h
def F_X12_fields_b47 (k47 : Option Nat → Int32 → Int32 → gM → Option (Int32 × gM)) (l0 : Option Nat) (l2 : Int32) (l3 : Int32) (M : gM) : Option (Int32 × gM) :=
  (gR 12 M l0 20).bind fun v1 => (aI 20 M v1 (1 : Int32)).bind fun v2 => if v2 ≤ l3 then ((gO 12 M l0).bind fun i3 => (F_X12_laysBack (some i3) M).bind fun M4 => some (l2, M4)) else ((gO 12 M l0).bind fun i5 => (F_X12_thingOf (some i5) l3 (3 : Int32) M).bind fun v6 => if 0 ≤ v6 then (F_X12_fields_b77 k47 (some i5) l3 l2 (0 : Int32) M) else ((F_X12_thingOf (some i5) l3 (2 : Int32) M).bind fun v7 => F_X12_fields_b77 k47 (some i5) l3 l2 v7 M))
set_option maxHeartbeats 1000000 in
theorem T_X12_fields_b47 (k47 : Option Nat → Int32 → Int32 → gM → Option (Int32 × gM)) (r : (Int32 × gM)) (hk47 : ∀ (l0 : Option Nat) (l2 : Int32) (l3 : Int32) (M : gM), k47 l0 l2 l3 M = some r → GW 5 0 0 X_X12_fields 47 [(0, vr l0), (2, vi l2), (3, vi l3)] [] M (some (vi r.1), r.2)) (l0 : Option Nat) (l2 : Int32) (l3 : Int32) (M : gM) (h : F_X12_fields_b47 k47 l0 l2 l3 M = some r) : GW 5 0 0 X_X12_fields 47 [(0, vr l0), (2, vi l2), (3, vi l3)] [] M (some (vi r.1), r.2) := by
  delta F_X12_fields_b47 at h
  refine GW_iload_n (X := X_X12_fields) (pc := 47) d_X12_fields_47 rfl 2 rfl ?_
  refine GW_aload_n (X := X_X12_fields) (pc := 48) d_X12_fields_48 rfl 0 rfl ?_
  replace h := g_bd h
  obtain ⟨v1, hv1, h⟩ := h
  refine GW_getR (X := X_X12_fields) (pc := 49) f_X12_39 d_X12_fields_49 hv1 (Or.inr ⟨_, ty_12_20⟩) ?_
  refine GW_iconst (X := X_X12_fields) (pc := 52) (v := 1) d_X12_fields_52 (by decide) ?_
  replace h := g_bd h
  obtain ⟨v2, hv2, h⟩ := h
  refine GW_iald (X := X_X12_fields) (pc := 53) d_X12_fields_53 hv2 ?_
  refine GW_icmp_ge (X := X_X12_fields) (pc := 54) 85 d_X12_fields_54 (by decide) (fun c => ?_) (fun c => ?_)
  · replace h := g_ip c h
    refine GW_aload_n (X := X_X12_fields) (pc := 85) d_X12_fields_85 rfl 0 rfl ?_
    replace h := g_bd h
    obtain ⟨i3, hi3, h⟩ := h
    obtain ⟨rfl, ki3⟩ := g_gO hi3
    replace h := g_bd h
    obtain ⟨M4, hM4, h⟩ := h
    refine GW_callV (X := X_X12_fields) (pc := 86) (bc0 := 0) (bs0 := 0) (r := none) (M2 := M4) (c0 := 12) (T_X12_laysBack (some i3) M M4 hM4) (Nat.le_of_ble_eq_true rfl) (Nat.le_of_ble_eq_true rfl) rfl g_cok12 ki3 yc_X12_laysBack ⟨m_1558, m_1560, m_101, m_127, m_1561⟩ d_X12_fields_86 rfl (st := []) rfl (Nat.le_of_ble_eq_true rfl) (Nat.le_of_ble_eq_true rfl) (Nat.le_of_ble_eq_true rfl) (st2 := []) rfl ?_
    refine GW_iload_n (X := X_X12_fields) (pc := 89) d_X12_fields_89 rfl 1 rfl ?_
    replace h := Option.some.inj h
    subst h
    exact GW_ret (X := X_X12_fields) (pc := 90) d_X12_fields_90 rfl trivial
  · replace h := g_ie c h
    refine GW_iload_n (X := X_X12_fields) (pc := 57) d_X12_fields_57 rfl 1 rfl ?_
    refine GW_aload_n (X := X_X12_fields) (pc := 58) d_X12_fields_58 rfl 0 rfl ?_
    refine GW_iload_n (X := X_X12_fields) (pc := 59) d_X12_fields_59 rfl 2 rfl ?_
    refine GW_iconst (X := X_X12_fields) (pc := 60) (v := 3) d_X12_fields_60 (by decide) ?_
    replace h := g_bd h
    obtain ⟨i5, hi5, h⟩ := h
    obtain ⟨rfl, ki5⟩ := g_gO hi5
    replace h := g_bd h
    obtain ⟨v6, hv6, h⟩ := h
    refine GW_callV (X := X_X12_fields) (pc := 61) (bc0 := 0) (bs0 := 0) (r := some (vi v6)) (M2 := M) (c0 := 12) (T_X12_thingOf (some i5) l3 (3 : Int32) M v6 hv6) (Nat.le_of_ble_eq_true rfl) (Nat.le_of_ble_eq_true rfl) rfl g_cok12 ki5 yc_X12_thingOf ⟨m_1428, m_1430, m_79, m_127, m_1431⟩ d_X12_fields_61 rfl (st := [vi l2]) rfl (Nat.le_of_ble_eq_true rfl) (Nat.le_of_ble_eq_true rfl) (Nat.le_of_ble_eq_true rfl) (st2 := [vi v6, vi l2]) rfl ?_
    refine GW_if_ge (X := X_X12_fields) (pc := 64) 76 d_X12_fields_64 (by decide) (fun c => ?_) (fun c => ?_)
    · replace h := g_ip c h
      refine GW_iconst (X := X_X12_fields) (pc := 76) (v := 0) d_X12_fields_76 (by decide) ?_
      refine GW_sub [0, 2] rfl ?_
      exact T_X12_fields_b77 k47 r hk47 (some i5) l3 l2 (0 : Int32) M h
    · replace h := g_ie c h
      refine GW_aload_n (X := X_X12_fields) (pc := 67) d_X12_fields_67 rfl 0 rfl ?_
      refine GW_iload_n (X := X_X12_fields) (pc := 68) d_X12_fields_68 rfl 2 rfl ?_
      refine GW_iconst (X := X_X12_fields) (pc := 69) (v := 2) d_X12_fields_69 (by decide) ?_
      replace h := g_bd h
      obtain ⟨v7, hv7, h⟩ := h
      refine GW_callV (X := X_X12_fields) (pc := 70) (bc0 := 0) (bs0 := 0) (r := some (vi v7)) (M2 := M) (c0 := 12) (T_X12_thingOf (some i5) l3 (2 : Int32) M v7 hv7) (Nat.le_of_ble_eq_true rfl) (Nat.le_of_ble_eq_true rfl) rfl g_cok12 ki5 yc_X12_thingOf ⟨m_1428, m_1430, m_79, m_127, m_1431⟩ d_X12_fields_70 rfl (st := [vi l2]) rfl (Nat.le_of_ble_eq_true rfl) (Nat.le_of_ble_eq_true rfl) (Nat.le_of_ble_eq_true rfl) (st2 := [vi v7, vi l2]) rfl ?_
      refine GW_goto (X := X_X12_fields) (pc := 73) 77 d_X12_fields_73 (by decide) ?_
      refine GW_sub [0, 2] rfl ?_
      exact T_X12_fields_b77 k47 r hk47 (some i5) l3 l2 v7 M h
def F_X12_fields_L47 : Nat → Option Nat → Int32 → Int32 → gM → Option (Int32 × gM)
  | 0 => fun _ _ _ _ => none
  | n + 1 => F_X12_fields_b47 (F_X12_fields_L47 n)
theorem T_X12_fields_L47 (r : (Int32 × gM)) : ∀ (n : Nat) (l0 : Option Nat) (l2 : Int32) (l3 : Int32) (M : gM), F_X12_fields_L47 n l0 l2 l3 M = some r → GW 5 0 0 X_X12_fields 47 [(0, vr l0), (2, vi l2), (3, vi l3)] [] M (some (vi r.1), r.2) := by
  intro n
  induction n with
  | zero => intro l0 l2 l3 M h; exact g_no h
  | succ n ih => intro l0 l2 l3 M h; exact T_X12_fields_b47 (F_X12_fields_L47 n) r ih l0 l2 l3 M h
def F_X12_fields_b29 (k29 : Option Nat → Int32 → Int32 → Int32 → gM → Option (Int32 × gM)) (l0 : Option Nat) (l1 : Int32) (l2 : Int32) (l3 : Int32) (M : gM) : Option (Int32 × gM) :=
  if l1 ≤ l3 then (F_X12_fields_L47 g_fuel l0 l2 (0 : Int32) M) else ((gO 12 M l0).bind fun i1 => (F_X12_passes (some i1) M).bind fun (v2, M3) => k29 (some i1) l1 l2 (l3 + 1) M3)
theorem T_X12_fields_b29 (k29 : Option Nat → Int32 → Int32 → Int32 → gM → Option (Int32 × gM)) (r : (Int32 × gM)) (hk29 : ∀ (l0 : Option Nat) (l1 : Int32) (l2 : Int32) (l3 : Int32) (M : gM), k29 l0 l1 l2 l3 M = some r → GW 5 0 0 X_X12_fields 29 [(0, vr l0), (1, vi l1), (2, vi l2), (3, vi l3)] [] M (some (vi r.1), r.2)) (l0 : Option Nat) (l1 : Int32) (l2 : Int32) (l3 : Int32) (M : gM) (h : F_X12_fields_b29 k29 l0 l1 l2 l3 M = some r) : GW 5 0 0 X_X12_fields 29 [(0, vr l0), (1, vi l1), (2, vi l2), (3, vi l3)] [] M (some (vi r.1), r.2) := by
  delta F_X12_fields_b29 at h
  refine GW_iload_n (X := X_X12_fields) (pc := 29) d_X12_fields_29 rfl 3 rfl ?_
  refine GW_iload_n (X := X_X12_fields) (pc := 30) d_X12_fields_30 rfl 1 rfl ?_
  refine GW_icmp_ge (X := X_X12_fields) (pc := 31) 45 d_X12_fields_31 (by decide) (fun c => ?_) (fun c => ?_)
  · replace h := g_ip c h
    refine GW_iconst (X := X_X12_fields) (pc := 45) (v := 0) d_X12_fields_45 (by decide) ?_
    refine GW_istore_n (X := X_X12_fields) (pc := 46) d_X12_fields_46 rfl (Nat.le_of_ble_eq_true rfl) (lv2 := [(3, vi (0 : Int32)), (0, vr l0), (1, vi l1), (2, vi l2)]) rfl ?_
    refine GW_sub [1, 3, 0] rfl ?_
    exact T_X12_fields_L47 r g_fuel l0 l2 (0 : Int32) M h
  · replace h := g_ie c h
    refine GW_aload_n (X := X_X12_fields) (pc := 34) d_X12_fields_34 rfl 0 rfl ?_
    replace h := g_bd h
    obtain ⟨i1, hi1, h⟩ := h
    obtain ⟨rfl, ki1⟩ := g_gO hi1
    replace h := g_bd h
    obtain ⟨⟨v2, M3⟩, hv2, h⟩ := h
    dsimp only at h
    refine GW_callV (X := X_X12_fields) (pc := 35) (bc0 := 0) (bs0 := 0) (r := some (vi v2)) (M2 := M3) (c0 := 12) (T_X12_passes (some i1) M (v2, M3) hv2) (Nat.le_of_ble_eq_true rfl) (Nat.le_of_ble_eq_true rfl) rfl g_cok12 ki1 yc_X12_passes ⟨m_1477, m_1479, m_87, m_127, m_1480⟩ d_X12_fields_35 rfl (st := []) rfl (Nat.le_of_ble_eq_true rfl) (Nat.le_of_ble_eq_true rfl) (Nat.le_of_ble_eq_true rfl) (st2 := [vi v2]) rfl ?_
    refine GW_pop (X := X_X12_fields) (pc := 38) d_X12_fields_38 rfl ?_
    refine GW_iinc (j := 3) (X := X_X12_fields) (pc := 39) d_X12_fields_39 rfl (congrArg (fun z => _ + z) (by decide : Int32.ofInt 1 = (1 : Int32))) (Nat.le_of_ble_eq_true rfl) (lv2 := [(3, vi (l3 + 1)), (0, vr (some i1)), (1, vi l1), (2, vi l2)]) rfl ?_
    refine GW_goto (X := X_X12_fields) (pc := 42) 29 d_X12_fields_42 (by decide) ?_
    refine GW_sub [1, 2, 3, 0] rfl ?_
    exact hk29 (some i1) l1 l2 (l3 + 1) M3 h
def F_X12_fields_L29 : Nat → Option Nat → Int32 → Int32 → Int32 → gM → Option (Int32 × gM)
  | 0 => fun _ _ _ _ _ => none
  | n + 1 => F_X12_fields_b29 (F_X12_fields_L29 n)
theorem T_X12_fields_L29 (r : (Int32 × gM)) : ∀ (n : Nat) (l0 : Option Nat) (l1 : Int32) (l2 : Int32) (l3 : Int32) (M : gM), F_X12_fields_L29 n l0 l1 l2 l3 M = some r → GW 5 0 0 X_X12_fields 29 [(0, vr l0), (1, vi l1), (2, vi l2), (3, vi l3)] [] M (some (vi r.1), r.2) := by
  intro n
  induction n with
  | zero => intro l0 l1 l2 l3 M h; exact g_no h
  | succ n ih => intro l0 l1 l2 l3 M h; exact T_X12_fields_b29 (F_X12_fields_L29 n) r ih l0 l1 l2 l3 M h
def F_X12_fields_b0 (l0 : Option Nat) (l1 : Int32) (M : gM) : Option (Int32 × gM) :=
  (gO 12 M l0).bind fun i1 => (F_X12_isHouse (some i1) M).bind fun v2 => if v2 = 0 then (F_X12_fields_b19 M) else ((F_X12_in (l1).toInt64 (0 : Int64) (200 : Int64) M).bind fun v3 => if v3 = 0 then (F_X12_fields_b19 M) else ((F_X12_keeps (some i1) M).bind fun M4 => F_X12_fields_L29 g_fuel (some i1) l1 (0 : Int32) (0 : Int32) M4))
theorem T_X12_fields_b0 (r : (Int32 × gM)) (l0 : Option Nat) (l1 : Int32) (M : gM) (h : F_X12_fields_b0 l0 l1 M = some r) : GW 5 0 0 X_X12_fields 0 [(0, vr l0), (1, vi l1)] [] M (some (vi r.1), r.2) := by
  delta F_X12_fields_b0 at h
  refine GW_aload_n (X := X_X12_fields) (pc := 0) d_X12_fields_0 rfl 0 rfl ?_
  replace h := g_bd h
  obtain ⟨i1, hi1, h⟩ := h
  obtain ⟨rfl, ki1⟩ := g_gO hi1
  replace h := g_bd h
  obtain ⟨v2, hv2, h⟩ := h
  refine GW_callV (X := X_X12_fields) (pc := 1) (bc0 := 0) (bs0 := 0) (r := some (vi v2)) (M2 := M) (c0 := 12) (T_X12_isHouse (some i1) M v2 hv2) (Nat.le_of_ble_eq_true rfl) (Nat.le_of_ble_eq_true rfl) rfl g_cok12 ki1 yc_X12_isHouse ⟨m_1469, m_1471, m_85, m_127, m_1472⟩ d_X12_fields_1 rfl (st := []) rfl (Nat.le_of_ble_eq_true rfl) (Nat.le_of_ble_eq_true rfl) (Nat.le_of_ble_eq_true rfl) (st2 := [vi v2]) rfl ?_
  refine GW_if_eq (X := X_X12_fields) (pc := 4) 19 d_X12_fields_4 (by decide) (fun c => ?_) (fun c => ?_)
  · replace h := g_ip c h
    refine GW_sub [] rfl ?_
    exact T_X12_fields_b19 r M h
  · replace h := g_ie c h
    refine GW_iload_n (X := X_X12_fields) (pc := 7) d_X12_fields_7 rfl 1 rfl ?_
    refine GW_i2l (X := X_X12_fields) (pc := 8) d_X12_fields_8 ?_
    refine GW_lconst (X := X_X12_fields) (pc := 9) (v := 0) d_X12_fields_9 (by decide) ?_
    refine GW_ldc2 (X := X_X12_fields) (pc := 10) d_X12_fields_10 m_1553 ?_
    replace h := g_bd h
    obtain ⟨v3, hv3, h⟩ := h
    refine GW_callS (X := X_X12_fields) (pc := 13) (bc0 := 0) (bs0 := 0) (r := some (vi v3)) (M2 := M) (T_X12_in (l1).toInt64 (0 : Int64) (200 : Int64) M v3 hv3) (Nat.le_of_ble_eq_true rfl) (Nat.le_of_ble_eq_true rfl) yc_X12_in ⟨m_1291, m_1292, m_127, m_1293⟩ d_X12_fields_13 rfl (st := []) rfl (Nat.le_of_ble_eq_true rfl) (Nat.le_of_ble_eq_true rfl) (Nat.le_of_ble_eq_true rfl) (st2 := [vi v3]) rfl ?_
    refine GW_if_ne (X := X_X12_fields) (pc := 16) 21 d_X12_fields_16 (by decide) (fun c => ?_) (fun c => ?_)
    · replace h := g_ie c h
      refine GW_iconst (X := X_X12_fields) (pc := 21) (v := 0) d_X12_fields_21 (by decide) ?_
      refine GW_istore_n (X := X_X12_fields) (pc := 22) d_X12_fields_22 rfl (Nat.le_of_ble_eq_true rfl) (lv2 := [(2, vi (0 : Int32)), (0, vr (some i1)), (1, vi l1)]) rfl ?_
      refine GW_aload_n (X := X_X12_fields) (pc := 23) d_X12_fields_23 rfl 1 rfl ?_
      replace h := g_bd h
      obtain ⟨M4, hM4, h⟩ := h
      refine GW_callV (X := X_X12_fields) (pc := 24) (bc0 := 0) (bs0 := 0) (r := none) (M2 := M4) (c0 := 12) (T_X12_keeps (some i1) M M4 hM4) (Nat.le_of_ble_eq_true rfl) (Nat.le_of_ble_eq_true rfl) rfl g_cok12 ki1 yc_X12_keeps ⟨m_1554, m_1556, m_100, m_127, m_1557⟩ d_X12_fields_24 rfl (st := []) rfl (Nat.le_of_ble_eq_true rfl) (Nat.le_of_ble_eq_true rfl) (Nat.le_of_ble_eq_true rfl) (st2 := []) rfl ?_
      refine GW_iconst (X := X_X12_fields) (pc := 27) (v := 0) d_X12_fields_27 (by decide) ?_
      refine GW_istore_n (X := X_X12_fields) (pc := 28) d_X12_fields_28 rfl (Nat.le_of_ble_eq_true rfl) (lv2 := [(3, vi (0 : Int32)), (2, vi (0 : Int32)), (0, vr (some i1)), (1, vi l1)]) rfl ?_
      refine GW_sub [2, 3, 1, 0] rfl ?_
      exact T_X12_fields_L29 r g_fuel (some i1) l1 (0 : Int32) (0 : Int32) M4 h
    · replace h := g_ip c h
      refine GW_sub [] rfl ?_
      exact T_X12_fields_b19 r M h
def F_X12_fields (l0 : Option Nat) (l1 : Int32) (M : gM) : Option (Int32 × gM) := F_X12_fields_b0 l0 l1 M
theorem T_X12_fields (l0 : Option Nat) (l1 : Int32) (M : gM) (r : (Int32 × gM)) (h : F_X12_fields l0 l1 M = some r) : g_Met 5 0 0 yX12_fields X_X12_fields [vr l0, vi l1] M (some (vi r.1), r.2) :=
  g_Met_of pn_RX12 rfl (Nat.le_of_ble_eq_true rfl) (fun h => by cases h) (GW_sub [0, 1] rfl (T_X12_fields_b0 r l0 l1 M h))
/-! ForgetHeirs.falls(I)I -/
theorem d_X11_falls_0 : decode cX11_falls 0 = .ok (.aload_n 0, 1) := by decide +kernel
theorem d_X11_falls_1 : decode cX11_falls 1 = .ok (.iload_n 1, 1) := by decide +kernel
theorem d_X11_falls_2 : decode cX11_falls 2 = .ok (.invokevirtual 127, 3) := by decide +kernel
theorem d_X11_falls_5 : decode cX11_falls 5 = .ok (.ifCond .ne 5, 3) := by decide +kernel
theorem d_X11_falls_8 : decode cX11_falls 8 = .ok (.iconst (-1), 1) := by decide +kernel
theorem d_X11_falls_9 : decode cX11_falls 9 = .ok (.ireturn, 1) := by decide +kernel
theorem d_X11_falls_10 : decode cX11_falls 10 = .ok (.aload_n 0, 1) := by decide +kernel
theorem d_X11_falls_11 : decode cX11_falls 11 = .ok (.getfield 29, 3) := by decide +kernel
theorem d_X11_falls_14 : decode cX11_falls 14 = .ok (.aload_n 0, 1) := by decide +kernel
theorem d_X11_falls_15 : decode cX11_falls 15 = .ok (.getfield 25, 3) := by decide +kernel
theorem d_X11_falls_18 : decode cX11_falls 18 = .ok (.invokevirtual 114, 3) := by decide +kernel
theorem d_X11_falls_21 : decode cX11_falls 21 = .ok (.iconst 0, 1) := by decide +kernel
theorem d_X11_falls_22 : decode cX11_falls 22 = .ok (.istore_n 2, 1) := by decide +kernel
theorem d_X11_falls_23 : decode cX11_falls 23 = .ok (.iload_n 2, 1) := by decide +kernel
theorem d_X11_falls_24 : decode cX11_falls 24 = .ok (.aload_n 0, 1) := by decide +kernel
theorem d_X11_falls_25 : decode cX11_falls 25 = .ok (.getfield 59, 3) := by decide +kernel
theorem d_X11_falls_28 : decode cX11_falls 28 = .ok (.getfield 184, 3) := by decide +kernel
theorem d_X11_falls_31 : decode cX11_falls 31 = .ok (.if_icmp .ge 18, 3) := by decide +kernel
theorem d_X11_falls_34 : decode cX11_falls 34 = .ok (.aload_n 0, 1) := by decide +kernel
theorem d_X11_falls_35 : decode cX11_falls 35 = .ok (.getfield 29, 3) := by decide +kernel
theorem d_X11_falls_38 : decode cX11_falls 38 = .ok (.iload_n 1, 1) := by decide +kernel
theorem d_X11_falls_39 : decode cX11_falls 39 = .ok (.iload_n 2, 1) := by decide +kernel
theorem d_X11_falls_40 : decode cX11_falls 40 = .ok (.invokevirtual 267, 3) := by decide +kernel
theorem d_X11_falls_43 : decode cX11_falls 43 = .ok (.iinc 2 1, 3) := by decide +kernel
theorem d_X11_falls_46 : decode cX11_falls 46 = .ok (.goto (-23), 3) := by decide +kernel
theorem d_X11_falls_49 : decode cX11_falls 49 = .ok (.iconst 0, 1) := by decide +kernel
theorem d_X11_falls_50 : decode cX11_falls 50 = .ok (.istore_n 2, 1) := by decide +kernel
theorem d_X11_falls_51 : decode cX11_falls 51 = .ok (.iconst 0, 1) := by decide +kernel
theorem d_X11_falls_52 : decode cX11_falls 52 = .ok (.istore_n 3, 1) := by decide +kernel
theorem d_X11_falls_53 : decode cX11_falls 53 = .ok (.iload_n 3, 1) := by decide +kernel
theorem d_X11_falls_54 : decode cX11_falls 54 = .ok (.aload_n 0, 1) := by decide +kernel
theorem d_X11_falls_55 : decode cX11_falls 55 = .ok (.getfield 59, 3) := by decide +kernel
theorem d_X11_falls_58 : decode cX11_falls 58 = .ok (.getfield 184, 3) := by decide +kernel
theorem d_X11_falls_61 : decode cX11_falls 61 = .ok (.if_icmp .ge 45, 3) := by decide +kernel
theorem d_X11_falls_64 : decode cX11_falls 64 = .ok (.aload_n 0, 1) := by decide +kernel
theorem d_X11_falls_65 : decode cX11_falls 65 = .ok (.getfield 25, 3) := by decide +kernel
theorem d_X11_falls_68 : decode cX11_falls 68 = .ok (.aload_n 0, 1) := by decide +kernel
theorem d_X11_falls_69 : decode cX11_falls 69 = .ok (.getfield 59, 3) := by decide +kernel
theorem d_X11_falls_72 : decode cX11_falls 72 = .ok (.iload_n 3, 1) := by decide +kernel
theorem d_X11_falls_73 : decode cX11_falls 73 = .ok (.invokevirtual 175, 3) := by decide +kernel
theorem d_X11_falls_76 : decode cX11_falls 76 = .ok (.ifCond .eq 24, 3) := by decide +kernel
theorem d_X11_falls_79 : decode cX11_falls 79 = .ok (.aload_n 0, 1) := by decide +kernel
theorem d_X11_falls_80 : decode cX11_falls 80 = .ok (.getfield 29, 3) := by decide +kernel
theorem d_X11_falls_83 : decode cX11_falls 83 = .ok (.aload_n 0, 1) := by decide +kernel
theorem d_X11_falls_84 : decode cX11_falls 84 = .ok (.getfield 59, 3) := by decide +kernel
theorem d_X11_falls_87 : decode cX11_falls 87 = .ok (.iload_n 3, 1) := by decide +kernel
theorem d_X11_falls_88 : decode cX11_falls 88 = .ok (.invokevirtual 175, 3) := by decide +kernel
theorem d_X11_falls_91 : decode cX11_falls 91 = .ok (.ifCond .ne 9, 3) := by decide +kernel
theorem d_X11_falls_94 : decode cX11_falls 94 = .ok (.iload_n 2, 1) := by decide +kernel
theorem d_X11_falls_95 : decode cX11_falls 95 = .ok (.iconst 1, 1) := by decide +kernel
theorem d_X11_falls_96 : decode cX11_falls 96 = .ok (.iload_n 3, 1) := by decide +kernel
theorem d_X11_falls_97 : decode cX11_falls 97 = .ok (.ishl, 1) := by decide +kernel
theorem d_X11_falls_98 : decode cX11_falls 98 = .ok (.ior, 1) := by decide +kernel
theorem d_X11_falls_99 : decode cX11_falls 99 = .ok (.istore_n 2, 1) := by decide +kernel
theorem d_X11_falls_100 : decode cX11_falls 100 = .ok (.iinc 3 1, 3) := by decide +kernel
theorem d_X11_falls_103 : decode cX11_falls 103 = .ok (.goto (-50), 3) := by decide +kernel
theorem d_X11_falls_106 : decode cX11_falls 106 = .ok (.iload_n 2, 1) := by decide +kernel
theorem d_X11_falls_107 : decode cX11_falls 107 = .ok (.ireturn, 1) := by decide +kernel
abbrev X_X11_falls : gX := (RX11, cX11_falls, 4, (some .int), false)
def F_X11_falls_b100 (k53 : Option Nat → Int32 → Int32 → gM → Option (Int32 × gM)) (l0 : Option Nat) (l2 : Int32) (l3 : Int32) (M : gM) : Option (Int32 × gM) :=
  k53 l0 l2 (l3 + 1) M
theorem T_X11_falls_b100 (k53 : Option Nat → Int32 → Int32 → gM → Option (Int32 × gM)) (r : (Int32 × gM)) (hk53 : ∀ (l0 : Option Nat) (l2 : Int32) (l3 : Int32) (M : gM), k53 l0 l2 l3 M = some r → GW 2 0 0 X_X11_falls 53 [(0, vr l0), (2, vi l2), (3, vi l3)] [] M (some (vi r.1), r.2)) (l0 : Option Nat) (l2 : Int32) (l3 : Int32) (M : gM) (h : F_X11_falls_b100 k53 l0 l2 l3 M = some r) : GW 2 0 0 X_X11_falls 100 [(0, vr l0), (2, vi l2), (3, vi l3)] [] M (some (vi r.1), r.2) := by
  delta F_X11_falls_b100 at h
  refine GW_iinc (j := 2) (X := X_X11_falls) (pc := 100) d_X11_falls_100 rfl (congrArg (fun z => _ + z) (by decide : Int32.ofInt 1 = (1 : Int32))) (Nat.le_of_ble_eq_true rfl) (lv2 := [(3, vi (l3 + 1)), (0, vr l0), (2, vi l2)]) rfl ?_
  refine GW_goto (X := X_X11_falls) (pc := 103) 53 d_X11_falls_103 (by decide) ?_
  refine GW_sub [1, 2, 0] rfl ?_
  exact hk53 l0 l2 (l3 + 1) M h
def F_X11_falls_b53 (k53 : Option Nat → Int32 → Int32 → gM → Option (Int32 × gM)) (l0 : Option Nat) (l2 : Int32) (l3 : Int32) (M : gM) : Option (Int32 × gM) :=
  (gR 11 M l0 11).bind fun v1 => (gI 1 M v1 6).bind fun v2 => if v2 ≤ l3 then (some (l2, M)) else ((gR 11 M l0 5).bind fun v3 => (gR 11 M l0 11).bind fun v4 => (gO 8 M v3).bind fun i5 => (F_X8_holdersOf (some i5) v4 l3 M).bind fun v6 => if v6 = 0 then (F_X11_falls_b100 k53 l0 l2 l3 M) else ((gR 11 M l0 6).bind fun v7 => (gR 11 M l0 11).bind fun v8 => (gO 8 M v7).bind fun i9 => (F_X8_holdersOf (some i9) v8 l3 M).bind fun v10 => if v10 = 0 then (F_X11_falls_b100 k53 l0 (l2 ||| ((1 : Int32) <<< (l3 &&& 31))) l3 M) else (F_X11_falls_b100 k53 l0 l2 l3 M)))
set_option maxHeartbeats 1000000 in
theorem T_X11_falls_b53 (k53 : Option Nat → Int32 → Int32 → gM → Option (Int32 × gM)) (r : (Int32 × gM)) (hk53 : ∀ (l0 : Option Nat) (l2 : Int32) (l3 : Int32) (M : gM), k53 l0 l2 l3 M = some r → GW 2 0 0 X_X11_falls 53 [(0, vr l0), (2, vi l2), (3, vi l3)] [] M (some (vi r.1), r.2)) (l0 : Option Nat) (l2 : Int32) (l3 : Int32) (M : gM) (h : F_X11_falls_b53 k53 l0 l2 l3 M = some r) : GW 2 0 0 X_X11_falls 53 [(0, vr l0), (2, vi l2), (3, vi l3)] [] M (some (vi r.1), r.2) := by
  delta F_X11_falls_b53 at h
  refine GW_iload_n (X := X_X11_falls) (pc := 53) d_X11_falls_53 rfl 2 rfl ?_
  refine GW_aload_n (X := X_X11_falls) (pc := 54) d_X11_falls_54 rfl 0 rfl ?_
  replace h := g_bd h
  obtain ⟨v1, hv1, h⟩ := h
  refine GW_getR (X := X_X11_falls) (pc := 55) f_X11_59 d_X11_falls_55 hv1 (Or.inl ⟨_, ty_11_11⟩) ?_
  replace h := g_bd h
  obtain ⟨v2, hv2, h⟩ := h
  refine GW_getI (X := X_X11_falls) (pc := 58) f_X11_184 d_X11_falls_58 hv2 (Or.inl ty_1_6) ?_
  refine GW_icmp_ge (X := X_X11_falls) (pc := 61) 106 d_X11_falls_61 (by decide) (fun c => ?_) (fun c => ?_)
  · replace h := g_ip c h
    refine GW_iload_n (X := X_X11_falls) (pc := 106) d_X11_falls_106 rfl 1 rfl ?_
    replace h := Option.some.inj h
    subst h
    exact GW_ret (X := X_X11_falls) (pc := 107) d_X11_falls_107 rfl trivial
  · replace h := g_ie c h
    refine GW_aload_n (X := X_X11_falls) (pc := 64) d_X11_falls_64 rfl 0 rfl ?_
    replace h := g_bd h
    obtain ⟨v3, hv3, h⟩ := h
    refine GW_getR (X := X_X11_falls) (pc := 65) f_X11_25 d_X11_falls_65 hv3 (Or.inl ⟨_, ty_11_5⟩) ?_
    refine GW_aload_n (X := X_X11_falls) (pc := 68) d_X11_falls_68 rfl 0 rfl ?_
    replace h := g_bd h
    obtain ⟨v4, hv4, h⟩ := h
    refine GW_getR (X := X_X11_falls) (pc := 69) f_X11_59 d_X11_falls_69 hv4 (Or.inl ⟨_, ty_11_11⟩) ?_
    refine GW_iload_n (X := X_X11_falls) (pc := 72) d_X11_falls_72 rfl 2 rfl ?_
    replace h := g_bd h
    obtain ⟨i5, hi5, h⟩ := h
    obtain ⟨rfl, ki5⟩ := g_gO hi5
    replace h := g_bd h
    obtain ⟨v6, hv6, h⟩ := h
    refine GW_callV (X := X_X11_falls) (pc := 73) (bc0 := 0) (bs0 := 0) (r := some (vi v6)) (M2 := M) (c0 := 8) (T_X8_holdersOf (some i5) v4 l3 M v6 hv6) (Nat.le_of_ble_eq_true rfl) (Nat.le_of_ble_eq_true rfl) rfl g_cok8 ki5 yc_X8_holdersOf ⟨m_798, m_782, m_783, m_119, m_784⟩ d_X11_falls_73 rfl (st := []) rfl (Nat.le_of_ble_eq_true rfl) (Nat.le_of_ble_eq_true rfl) (Nat.le_of_ble_eq_true rfl) (st2 := [vi v6]) rfl ?_
    refine GW_if_eq (X := X_X11_falls) (pc := 76) 100 d_X11_falls_76 (by decide) (fun c => ?_) (fun c => ?_)
    · replace h := g_ip c h
      exact T_X11_falls_b100 k53 r hk53 l0 l2 l3 M h
    · replace h := g_ie c h
      refine GW_aload_n (X := X_X11_falls) (pc := 79) d_X11_falls_79 rfl 0 rfl ?_
      replace h := g_bd h
      obtain ⟨v7, hv7, h⟩ := h
      refine GW_getR (X := X_X11_falls) (pc := 80) f_X11_29 d_X11_falls_80 hv7 (Or.inl ⟨_, ty_11_6⟩) ?_
      refine GW_aload_n (X := X_X11_falls) (pc := 83) d_X11_falls_83 rfl 0 rfl ?_
      replace h := g_bd h
      obtain ⟨v8, hv8, h⟩ := h
      refine GW_getR (X := X_X11_falls) (pc := 84) f_X11_59 d_X11_falls_84 hv8 (Or.inl ⟨_, ty_11_11⟩) ?_
      refine GW_iload_n (X := X_X11_falls) (pc := 87) d_X11_falls_87 rfl 2 rfl ?_
      replace h := g_bd h
      obtain ⟨i9, hi9, h⟩ := h
      obtain ⟨rfl, ki9⟩ := g_gO hi9
      replace h := g_bd h
      obtain ⟨v10, hv10, h⟩ := h
      refine GW_callV (X := X_X11_falls) (pc := 88) (bc0 := 0) (bs0 := 0) (r := some (vi v10)) (M2 := M) (c0 := 8) (T_X8_holdersOf (some i9) v8 l3 M v10 hv10) (Nat.le_of_ble_eq_true rfl) (Nat.le_of_ble_eq_true rfl) rfl g_cok8 ki9 yc_X8_holdersOf ⟨m_798, m_782, m_783, m_119, m_784⟩ d_X11_falls_88 rfl (st := []) rfl (Nat.le_of_ble_eq_true rfl) (Nat.le_of_ble_eq_true rfl) (Nat.le_of_ble_eq_true rfl) (st2 := [vi v10]) rfl ?_
      refine GW_if_ne (X := X_X11_falls) (pc := 91) 100 d_X11_falls_91 (by decide) (fun c => ?_) (fun c => ?_)
      · replace h := g_ie c h
        exact T_X11_falls_b100 k53 r hk53 l0 l2 l3 M h
      · replace h := g_ip c h
        refine GW_iload_n (X := X_X11_falls) (pc := 94) d_X11_falls_94 rfl 1 rfl ?_
        refine GW_iconst (X := X_X11_falls) (pc := 95) (v := 1) d_X11_falls_95 (by decide) ?_
        refine GW_iload_n (X := X_X11_falls) (pc := 96) d_X11_falls_96 rfl 2 rfl ?_
        refine GW_ishl (X := X_X11_falls) (pc := 97) d_X11_falls_97 ?_
        refine GW_ior (X := X_X11_falls) (pc := 98) d_X11_falls_98 ?_
        refine GW_istore_n (X := X_X11_falls) (pc := 99) d_X11_falls_99 rfl (Nat.le_of_ble_eq_true rfl) (lv2 := [(2, vi (l2 ||| ((1 : Int32) <<< (l3 &&& 31)))), (0, vr l0), (3, vi l3)]) rfl ?_
        refine GW_sub [1, 0, 2] rfl ?_
        exact T_X11_falls_b100 k53 r hk53 l0 (l2 ||| ((1 : Int32) <<< (l3 &&& 31))) l3 M h
def F_X11_falls_L53 : Nat → Option Nat → Int32 → Int32 → gM → Option (Int32 × gM)
  | 0 => fun _ _ _ _ => none
  | n + 1 => F_X11_falls_b53 (F_X11_falls_L53 n)
theorem T_X11_falls_L53 (r : (Int32 × gM)) : ∀ (n : Nat) (l0 : Option Nat) (l2 : Int32) (l3 : Int32) (M : gM), F_X11_falls_L53 n l0 l2 l3 M = some r → GW 2 0 0 X_X11_falls 53 [(0, vr l0), (2, vi l2), (3, vi l3)] [] M (some (vi r.1), r.2) := by
  intro n
  induction n with
  | zero => intro l0 l2 l3 M h; exact g_no h
  | succ n ih => intro l0 l2 l3 M h; exact T_X11_falls_b53 (F_X11_falls_L53 n) r ih l0 l2 l3 M h
def F_X11_falls_b23 (k23 : Option Nat → Int32 → Int32 → gM → Option (Int32 × gM)) (l0 : Option Nat) (l1 : Int32) (l2 : Int32) (M : gM) : Option (Int32 × gM) :=
  (gR 11 M l0 11).bind fun v1 => (gI 1 M v1 6).bind fun v2 => if v2 ≤ l2 then (F_X11_falls_L53 g_fuel l0 (0 : Int32) (0 : Int32) M) else ((gR 11 M l0 6).bind fun v3 => (gO 8 M v3).bind fun i4 => (F_X8_forget (some i4) l1 l2 M).bind fun M5 => k23 l0 l1 (l2 + 1) M5)
theorem T_X11_falls_b23 (k23 : Option Nat → Int32 → Int32 → gM → Option (Int32 × gM)) (r : (Int32 × gM)) (hk23 : ∀ (l0 : Option Nat) (l1 : Int32) (l2 : Int32) (M : gM), k23 l0 l1 l2 M = some r → GW 2 0 0 X_X11_falls 23 [(0, vr l0), (1, vi l1), (2, vi l2)] [] M (some (vi r.1), r.2)) (l0 : Option Nat) (l1 : Int32) (l2 : Int32) (M : gM) (h : F_X11_falls_b23 k23 l0 l1 l2 M = some r) : GW 2 0 0 X_X11_falls 23 [(0, vr l0), (1, vi l1), (2, vi l2)] [] M (some (vi r.1), r.2) := by
  delta F_X11_falls_b23 at h
  refine GW_iload_n (X := X_X11_falls) (pc := 23) d_X11_falls_23 rfl 2 rfl ?_
  refine GW_aload_n (X := X_X11_falls) (pc := 24) d_X11_falls_24 rfl 0 rfl ?_
  replace h := g_bd h
  obtain ⟨v1, hv1, h⟩ := h
  refine GW_getR (X := X_X11_falls) (pc := 25) f_X11_59 d_X11_falls_25 hv1 (Or.inl ⟨_, ty_11_11⟩) ?_
  replace h := g_bd h
  obtain ⟨v2, hv2, h⟩ := h
  refine GW_getI (X := X_X11_falls) (pc := 28) f_X11_184 d_X11_falls_28 hv2 (Or.inl ty_1_6) ?_
  refine GW_icmp_ge (X := X_X11_falls) (pc := 31) 49 d_X11_falls_31 (by decide) (fun c => ?_) (fun c => ?_)
  · replace h := g_ip c h
    refine GW_iconst (X := X_X11_falls) (pc := 49) (v := 0) d_X11_falls_49 (by decide) ?_
    refine GW_istore_n (X := X_X11_falls) (pc := 50) d_X11_falls_50 rfl (Nat.le_of_ble_eq_true rfl) (lv2 := [(2, vi (0 : Int32)), (0, vr l0), (1, vi l1)]) rfl ?_
    refine GW_iconst (X := X_X11_falls) (pc := 51) (v := 0) d_X11_falls_51 (by decide) ?_
    refine GW_istore_n (X := X_X11_falls) (pc := 52) d_X11_falls_52 rfl (Nat.le_of_ble_eq_true rfl) (lv2 := [(3, vi (0 : Int32)), (2, vi (0 : Int32)), (0, vr l0), (1, vi l1)]) rfl ?_
    refine GW_sub [2, 1, 0] rfl ?_
    exact T_X11_falls_L53 r g_fuel l0 (0 : Int32) (0 : Int32) M h
  · replace h := g_ie c h
    refine GW_aload_n (X := X_X11_falls) (pc := 34) d_X11_falls_34 rfl 0 rfl ?_
    replace h := g_bd h
    obtain ⟨v3, hv3, h⟩ := h
    refine GW_getR (X := X_X11_falls) (pc := 35) f_X11_29 d_X11_falls_35 hv3 (Or.inl ⟨_, ty_11_6⟩) ?_
    refine GW_iload_n (X := X_X11_falls) (pc := 38) d_X11_falls_38 rfl 1 rfl ?_
    refine GW_iload_n (X := X_X11_falls) (pc := 39) d_X11_falls_39 rfl 2 rfl ?_
    replace h := g_bd h
    obtain ⟨i4, hi4, h⟩ := h
    obtain ⟨rfl, ki4⟩ := g_gO hi4
    replace h := g_bd h
    obtain ⟨M5, hM5, h⟩ := h
    refine GW_callV (X := X_X11_falls) (pc := 40) (bc0 := 0) (bs0 := 0) (r := none) (M2 := M5) (c0 := 8) (T_X8_forget (some i4) l1 l2 M M5 hM5) (Nat.le_of_ble_eq_true rfl) (Nat.le_of_ble_eq_true rfl) rfl g_cok8 ki4 yc_X8_forget ⟨m_1007, m_890, m_891, m_119, m_892⟩ d_X11_falls_40 rfl (st := []) rfl (Nat.le_of_ble_eq_true rfl) (Nat.le_of_ble_eq_true rfl) (Nat.le_of_ble_eq_true rfl) (st2 := []) rfl ?_
    refine GW_iinc (j := 2) (X := X_X11_falls) (pc := 43) d_X11_falls_43 rfl (congrArg (fun z => _ + z) (by decide : Int32.ofInt 1 = (1 : Int32))) (Nat.le_of_ble_eq_true rfl) (lv2 := [(2, vi (l2 + 1)), (0, vr l0), (1, vi l1)]) rfl ?_
    refine GW_goto (X := X_X11_falls) (pc := 46) 23 d_X11_falls_46 (by decide) ?_
    refine GW_sub [1, 2, 0] rfl ?_
    exact hk23 l0 l1 (l2 + 1) M5 h
def F_X11_falls_L23 : Nat → Option Nat → Int32 → Int32 → gM → Option (Int32 × gM)
  | 0 => fun _ _ _ _ => none
  | n + 1 => F_X11_falls_b23 (F_X11_falls_L23 n)
theorem T_X11_falls_L23 (r : (Int32 × gM)) : ∀ (n : Nat) (l0 : Option Nat) (l1 : Int32) (l2 : Int32) (M : gM), F_X11_falls_L23 n l0 l1 l2 M = some r → GW 2 0 0 X_X11_falls 23 [(0, vr l0), (1, vi l1), (2, vi l2)] [] M (some (vi r.1), r.2) := by
  intro n
  induction n with
  | zero => intro l0 l1 l2 M h; exact g_no h
  | succ n ih => intro l0 l1 l2 M h; exact T_X11_falls_b23 (F_X11_falls_L23 n) r ih l0 l1 l2 M h
def F_X11_falls_b0 (l0 : Option Nat) (l1 : Int32) (M : gM) : Option (Int32 × gM) :=
  (gO 11 M l0).bind fun i1 => (F_X11_isHeir (some i1) l1 M).bind fun v2 => if v2 = 0 then (some ((-1 : Int32), M)) else ((gR 11 M (some i1) 6).bind fun v3 => (gR 11 M (some i1) 5).bind fun v4 => (gO 8 M v3).bind fun i5 => (F_X8_copy (some i5) v4 M).bind fun M6 => F_X11_falls_L23 g_fuel (some i1) l1 (0 : Int32) M6)
theorem T_X11_falls_b0 (r : (Int32 × gM)) (l0 : Option Nat) (l1 : Int32) (M : gM) (h : F_X11_falls_b0 l0 l1 M = some r) : GW 2 0 0 X_X11_falls 0 [(0, vr l0), (1, vi l1)] [] M (some (vi r.1), r.2) := by
  delta F_X11_falls_b0 at h
  refine GW_aload_n (X := X_X11_falls) (pc := 0) d_X11_falls_0 rfl 0 rfl ?_
  refine GW_iload_n (X := X_X11_falls) (pc := 1) d_X11_falls_1 rfl 1 rfl ?_
  replace h := g_bd h
  obtain ⟨i1, hi1, h⟩ := h
  obtain ⟨rfl, ki1⟩ := g_gO hi1
  replace h := g_bd h
  obtain ⟨v2, hv2, h⟩ := h
  refine GW_callV (X := X_X11_falls) (pc := 2) (bc0 := 0) (bs0 := 0) (r := some (vi v2)) (M2 := M) (c0 := 11) (T_X11_isHeir (some i1) l1 M v2 hv2) (Nat.le_of_ble_eq_true rfl) (Nat.le_of_ble_eq_true rfl) rfl g_cok11 ki1 yc_X11_isHeir ⟨m_768, m_770, m_20, m_116, m_771⟩ d_X11_falls_2 rfl (st := []) rfl (Nat.le_of_ble_eq_true rfl) (Nat.le_of_ble_eq_true rfl) (Nat.le_of_ble_eq_true rfl) (st2 := [vi v2]) rfl ?_
  refine GW_if_ne (X := X_X11_falls) (pc := 5) 10 d_X11_falls_5 (by decide) (fun c => ?_) (fun c => ?_)
  · replace h := g_ie c h
    refine GW_aload_n (X := X_X11_falls) (pc := 10) d_X11_falls_10 rfl 0 rfl ?_
    replace h := g_bd h
    obtain ⟨v3, hv3, h⟩ := h
    refine GW_getR (X := X_X11_falls) (pc := 11) f_X11_29 d_X11_falls_11 hv3 (Or.inl ⟨_, ty_11_6⟩) ?_
    refine GW_aload_n (X := X_X11_falls) (pc := 14) d_X11_falls_14 rfl 0 rfl ?_
    replace h := g_bd h
    obtain ⟨v4, hv4, h⟩ := h
    refine GW_getR (X := X_X11_falls) (pc := 15) f_X11_25 d_X11_falls_15 hv4 (Or.inl ⟨_, ty_11_5⟩) ?_
    replace h := g_bd h
    obtain ⟨i5, hi5, h⟩ := h
    obtain ⟨rfl, ki5⟩ := g_gO hi5
    replace h := g_bd h
    obtain ⟨M6, hM6, h⟩ := h
    refine GW_callV (X := X_X11_falls) (pc := 18) (bc0 := 0) (bs0 := 0) (r := none) (M2 := M6) (c0 := 8) (T_X8_copy (some i5) v4 M M6 hM6) (Nat.le_of_ble_eq_true rfl) (Nat.le_of_ble_eq_true rfl) rfl g_cok8 ki5 yc_X8_copy ⟨m_664, m_665, m_666, m_119, m_667⟩ d_X11_falls_18 rfl (st := []) rfl (Nat.le_of_ble_eq_true rfl) (Nat.le_of_ble_eq_true rfl) (Nat.le_of_ble_eq_true rfl) (st2 := []) rfl ?_
    refine GW_iconst (X := X_X11_falls) (pc := 21) (v := 0) d_X11_falls_21 (by decide) ?_
    refine GW_istore_n (X := X_X11_falls) (pc := 22) d_X11_falls_22 rfl (Nat.le_of_ble_eq_true rfl) (lv2 := [(2, vi (0 : Int32)), (0, vr (some i1)), (1, vi l1)]) rfl ?_
    refine GW_sub [1, 2, 0] rfl ?_
    exact T_X11_falls_L23 r g_fuel (some i1) l1 (0 : Int32) M6 h
  · replace h := g_ip c h
    refine GW_iconst (X := X_X11_falls) (pc := 8) (v := -1) d_X11_falls_8 (by decide) ?_
    replace h := Option.some.inj h
    subst h
    exact GW_ret (X := X_X11_falls) (pc := 9) d_X11_falls_9 rfl trivial
def F_X11_falls (l0 : Option Nat) (l1 : Int32) (M : gM) : Option (Int32 × gM) := F_X11_falls_b0 l0 l1 M
theorem T_X11_falls (l0 : Option Nat) (l1 : Int32) (M : gM) (r : (Int32 × gM)) (h : F_X11_falls l0 l1 M = some r) : g_Met 2 0 0 yX11_falls X_X11_falls [vr l0, vi l1] M (some (vi r.1), r.2) :=
  g_Met_of pn_RX11 rfl (Nat.le_of_ble_eq_true rfl) (fun h => by cases h) (GW_sub [0, 1] rfl (T_X11_falls_b0 r l0 l1 M h))
/-! ForgetHeirsModel.falls(I)I -/
theorem d_X12_falls_0 : decode cX12_falls 0 = .ok (.aload_n 0, 1) := by decide +kernel
theorem d_X12_falls_1 : decode cX12_falls 1 = .ok (.iload_n 1, 1) := by decide +kernel
theorem d_X12_falls_2 : decode cX12_falls 2 = .ok (.invokevirtual 322, 3) := by decide +kernel
theorem d_X12_falls_5 : decode cX12_falls 5 = .ok (.ifCond .ne 5, 3) := by decide +kernel
theorem d_X12_falls_8 : decode cX12_falls 8 = .ok (.iconst (-1), 1) := by decide +kernel
theorem d_X12_falls_9 : decode cX12_falls 9 = .ok (.ireturn, 1) := by decide +kernel
theorem d_X12_falls_10 : decode cX12_falls 10 = .ok (.iconst 0, 1) := by decide +kernel
theorem d_X12_falls_11 : decode cX12_falls 11 = .ok (.istore_n 2, 1) := by decide +kernel
theorem d_X12_falls_12 : decode cX12_falls 12 = .ok (.iconst 0, 1) := by decide +kernel
theorem d_X12_falls_13 : decode cX12_falls 13 = .ok (.istore_n 3, 1) := by decide +kernel
theorem d_X12_falls_14 : decode cX12_falls 14 = .ok (.aload_n 0, 1) := by decide +kernel
theorem d_X12_falls_15 : decode cX12_falls 15 = .ok (.invokevirtual 383, 3) := by decide +kernel
theorem d_X12_falls_18 : decode cX12_falls 18 = .ok (.iconst 0, 1) := by decide +kernel
theorem d_X12_falls_19 : decode cX12_falls 19 = .ok (.istore 4, 2) := by decide +kernel
theorem d_X12_falls_21 : decode cX12_falls 21 = .ok (.iload 4, 2) := by decide +kernel
theorem d_X12_falls_23 : decode cX12_falls 23 = .ok (.aload_n 0, 1) := by decide +kernel
theorem d_X12_falls_24 : decode cX12_falls 24 = .ok (.getfield 39, 3) := by decide +kernel
theorem d_X12_falls_27 : decode cX12_falls 27 = .ok (.iconst 1, 1) := by decide +kernel
theorem d_X12_falls_28 : decode cX12_falls 28 = .ok (.iaload, 1) := by decide +kernel
theorem d_X12_falls_29 : decode cX12_falls 29 = .ok (.if_icmp .ge 29, 3) := by decide +kernel
theorem d_X12_falls_32 : decode cX12_falls 32 = .ok (.iload_n 2, 1) := by decide +kernel
theorem d_X12_falls_33 : decode cX12_falls 33 = .ok (.aload_n 0, 1) := by decide +kernel
theorem d_X12_falls_34 : decode cX12_falls 34 = .ok (.iload 4, 2) := by decide +kernel
theorem d_X12_falls_36 : decode cX12_falls 36 = .ok (.invokevirtual 332, 3) := by decide +kernel
theorem d_X12_falls_39 : decode cX12_falls 39 = .ok (.ifCond .eq 10, 3) := by decide +kernel
theorem d_X12_falls_42 : decode cX12_falls 42 = .ok (.iconst 1, 1) := by decide +kernel
theorem d_X12_falls_43 : decode cX12_falls 43 = .ok (.iload 4, 2) := by decide +kernel
theorem d_X12_falls_45 : decode cX12_falls 45 = .ok (.ishl, 1) := by decide +kernel
theorem d_X12_falls_46 : decode cX12_falls 46 = .ok (.goto 4, 3) := by decide +kernel
theorem d_X12_falls_49 : decode cX12_falls 49 = .ok (.iconst 0, 1) := by decide +kernel
theorem d_X12_falls_50 : decode cX12_falls 50 = .ok (.ior, 1) := by decide +kernel
theorem d_X12_falls_51 : decode cX12_falls 51 = .ok (.istore_n 2, 1) := by decide +kernel
theorem d_X12_falls_52 : decode cX12_falls 52 = .ok (.iinc 4 1, 3) := by decide +kernel
theorem d_X12_falls_55 : decode cX12_falls 55 = .ok (.goto (-34), 3) := by decide +kernel
theorem d_X12_falls_58 : decode cX12_falls 58 = .ok (.iconst 0, 1) := by decide +kernel
theorem d_X12_falls_59 : decode cX12_falls 59 = .ok (.istore 4, 2) := by decide +kernel
theorem d_X12_falls_61 : decode cX12_falls 61 = .ok (.iload 4, 2) := by decide +kernel
theorem d_X12_falls_63 : decode cX12_falls 63 = .ok (.aload_n 0, 1) := by decide +kernel
theorem d_X12_falls_64 : decode cX12_falls 64 = .ok (.getfield 39, 3) := by decide +kernel
theorem d_X12_falls_67 : decode cX12_falls 67 = .ok (.iconst 1, 1) := by decide +kernel
theorem d_X12_falls_68 : decode cX12_falls 68 = .ok (.iaload, 1) := by decide +kernel
theorem d_X12_falls_69 : decode cX12_falls 69 = .ok (.if_icmp .ge 18, 3) := by decide +kernel
theorem d_X12_falls_72 : decode cX12_falls 72 = .ok (.aload_n 0, 1) := by decide +kernel
theorem d_X12_falls_73 : decode cX12_falls 73 = .ok (.iload_n 1, 1) := by decide +kernel
theorem d_X12_falls_74 : decode cX12_falls 74 = .ok (.iload 4, 2) := by decide +kernel
theorem d_X12_falls_76 : decode cX12_falls 76 = .ok (.iconst (-1), 1) := by decide +kernel
theorem d_X12_falls_77 : decode cX12_falls 77 = .ok (.iconst 0, 1) := by decide +kernel
theorem d_X12_falls_78 : decode cX12_falls 78 = .ok (.invokevirtual 358, 3) := by decide +kernel
theorem d_X12_falls_81 : decode cX12_falls 81 = .ok (.iinc 4 1, 3) := by decide +kernel
theorem d_X12_falls_84 : decode cX12_falls 84 = .ok (.goto (-23), 3) := by decide +kernel
theorem d_X12_falls_87 : decode cX12_falls 87 = .ok (.iconst 0, 1) := by decide +kernel
theorem d_X12_falls_88 : decode cX12_falls 88 = .ok (.istore 4, 2) := by decide +kernel
theorem d_X12_falls_90 : decode cX12_falls 90 = .ok (.iload 4, 2) := by decide +kernel
theorem d_X12_falls_92 : decode cX12_falls 92 = .ok (.aload_n 0, 1) := by decide +kernel
theorem d_X12_falls_93 : decode cX12_falls 93 = .ok (.getfield 39, 3) := by decide +kernel
theorem d_X12_falls_96 : decode cX12_falls 96 = .ok (.iconst 1, 1) := by decide +kernel
theorem d_X12_falls_97 : decode cX12_falls 97 = .ok (.iaload, 1) := by decide +kernel
theorem d_X12_falls_98 : decode cX12_falls 98 = .ok (.if_icmp .ge 29, 3) := by decide +kernel
theorem d_X12_falls_101 : decode cX12_falls 101 = .ok (.iload_n 3, 1) := by decide +kernel
theorem d_X12_falls_102 : decode cX12_falls 102 = .ok (.aload_n 0, 1) := by decide +kernel
theorem d_X12_falls_103 : decode cX12_falls 103 = .ok (.iload 4, 2) := by decide +kernel
theorem d_X12_falls_105 : decode cX12_falls 105 = .ok (.invokevirtual 332, 3) := by decide +kernel
theorem d_X12_falls_108 : decode cX12_falls 108 = .ok (.ifCond .eq 10, 3) := by decide +kernel
theorem d_X12_falls_111 : decode cX12_falls 111 = .ok (.iconst 1, 1) := by decide +kernel
theorem d_X12_falls_112 : decode cX12_falls 112 = .ok (.iload 4, 2) := by decide +kernel
theorem d_X12_falls_114 : decode cX12_falls 114 = .ok (.ishl, 1) := by decide +kernel
theorem d_X12_falls_115 : decode cX12_falls 115 = .ok (.goto 4, 3) := by decide +kernel
theorem d_X12_falls_118 : decode cX12_falls 118 = .ok (.iconst 0, 1) := by decide +kernel
theorem d_X12_falls_119 : decode cX12_falls 119 = .ok (.ior, 1) := by decide +kernel
theorem d_X12_falls_120 : decode cX12_falls 120 = .ok (.istore_n 3, 1) := by decide +kernel
theorem d_X12_falls_121 : decode cX12_falls 121 = .ok (.iinc 4 1, 3) := by decide +kernel
theorem d_X12_falls_124 : decode cX12_falls 124 = .ok (.goto (-34), 3) := by decide +kernel
theorem d_X12_falls_127 : decode cX12_falls 127 = .ok (.aload_n 0, 1) := by decide +kernel
theorem d_X12_falls_128 : decode cX12_falls 128 = .ok (.invokevirtual 386, 3) := by decide +kernel
theorem d_X12_falls_131 : decode cX12_falls 131 = .ok (.iload_n 2, 1) := by decide +kernel
theorem d_X12_falls_132 : decode cX12_falls 132 = .ok (.iload_n 3, 1) := by decide +kernel
theorem d_X12_falls_133 : decode cX12_falls 133 = .ok (.iconst (-1), 1) := by decide +kernel
theorem d_X12_falls_134 : decode cX12_falls 134 = .ok (.ixor, 1) := by decide +kernel
theorem d_X12_falls_135 : decode cX12_falls 135 = .ok (.iand, 1) := by decide +kernel
theorem d_X12_falls_136 : decode cX12_falls 136 = .ok (.ireturn, 1) := by decide +kernel
abbrev X_X12_falls : gX := (RX12, cX12_falls, 5, (some .int), false)
def F_X12_falls_b119 (k90 : Option Nat → Int32 → Int32 → Int32 → gM → Option (Int32 × gM)) (l0 : Option Nat) (l2 : Int32) (l4 : Int32) (s0 : Int32) (s1 : Int32) (M : gM) : Option (Int32 × gM) :=
  k90 l0 l2 (s0 ||| s1) (l4 + 1) M
theorem T_X12_falls_b119 (k90 : Option Nat → Int32 → Int32 → Int32 → gM → Option (Int32 × gM)) (r : (Int32 × gM)) (hk90 : ∀ (l0 : Option Nat) (l2 : Int32) (l3 : Int32) (l4 : Int32) (M : gM), k90 l0 l2 l3 l4 M = some r → GW 4 0 0 X_X12_falls 90 [(0, vr l0), (2, vi l2), (3, vi l3), (4, vi l4)] [] M (some (vi r.1), r.2)) (l0 : Option Nat) (l2 : Int32) (l4 : Int32) (s0 : Int32) (s1 : Int32) (M : gM) (h : F_X12_falls_b119 k90 l0 l2 l4 s0 s1 M = some r) : GW 4 0 0 X_X12_falls 119 [(0, vr l0), (2, vi l2), (4, vi l4)] [vi s1, vi s0] M (some (vi r.1), r.2) := by
  delta F_X12_falls_b119 at h
  refine GW_ior (X := X_X12_falls) (pc := 119) d_X12_falls_119 ?_
  refine GW_istore_n (X := X_X12_falls) (pc := 120) d_X12_falls_120 rfl (Nat.le_of_ble_eq_true rfl) (lv2 := [(3, vi (s0 ||| s1)), (0, vr l0), (2, vi l2), (4, vi l4)]) rfl ?_
  refine GW_iinc (j := 3) (X := X_X12_falls) (pc := 121) d_X12_falls_121 rfl (congrArg (fun z => _ + z) (by decide : Int32.ofInt 1 = (1 : Int32))) (Nat.le_of_ble_eq_true rfl) (lv2 := [(4, vi (l4 + 1)), (3, vi (s0 ||| s1)), (0, vr l0), (2, vi l2)]) rfl ?_
  refine GW_goto (X := X_X12_falls) (pc := 124) 90 d_X12_falls_124 (by decide) ?_
  refine GW_sub [2, 3, 1, 0] rfl ?_
  exact hk90 l0 l2 (s0 ||| s1) (l4 + 1) M h
def F_X12_falls_b90 (k90 : Option Nat → Int32 → Int32 → Int32 → gM → Option (Int32 × gM)) (l0 : Option Nat) (l2 : Int32) (l3 : Int32) (l4 : Int32) (M : gM) : Option (Int32 × gM) :=
  (gR 12 M l0 20).bind fun v1 => (aI 20 M v1 (1 : Int32)).bind fun v2 => if v2 ≤ l4 then ((gO 12 M l0).bind fun i3 => (F_X12_laysBack (some i3) M).bind fun M4 => some ((l2 &&& (l3 ^^^ (-1 : Int32))), M4)) else ((gO 12 M l0).bind fun i5 => (F_X12_holdersOf (some i5) l4 M).bind fun v6 => if v6 = 0 then (F_X12_falls_b119 k90 (some i5) l2 l4 l3 (0 : Int32) M) else (F_X12_falls_b119 k90 (some i5) l2 l4 l3 ((1 : Int32) <<< (l4 &&& 31)) M))
set_option maxHeartbeats 1000000 in
theorem T_X12_falls_b90 (k90 : Option Nat → Int32 → Int32 → Int32 → gM → Option (Int32 × gM)) (r : (Int32 × gM)) (hk90 : ∀ (l0 : Option Nat) (l2 : Int32) (l3 : Int32) (l4 : Int32) (M : gM), k90 l0 l2 l3 l4 M = some r → GW 4 0 0 X_X12_falls 90 [(0, vr l0), (2, vi l2), (3, vi l3), (4, vi l4)] [] M (some (vi r.1), r.2)) (l0 : Option Nat) (l2 : Int32) (l3 : Int32) (l4 : Int32) (M : gM) (h : F_X12_falls_b90 k90 l0 l2 l3 l4 M = some r) : GW 4 0 0 X_X12_falls 90 [(0, vr l0), (2, vi l2), (3, vi l3), (4, vi l4)] [] M (some (vi r.1), r.2) := by
  delta F_X12_falls_b90 at h
  refine GW_iload (X := X_X12_falls) (pc := 90) d_X12_falls_90 3 rfl ?_
  refine GW_aload_n (X := X_X12_falls) (pc := 92) d_X12_falls_92 rfl 0 rfl ?_
  replace h := g_bd h
  obtain ⟨v1, hv1, h⟩ := h
  refine GW_getR (X := X_X12_falls) (pc := 93) f_X12_39 d_X12_falls_93 hv1 (Or.inr ⟨_, ty_12_20⟩) ?_
  refine GW_iconst (X := X_X12_falls) (pc := 96) (v := 1) d_X12_falls_96 (by decide) ?_
  replace h := g_bd h
  obtain ⟨v2, hv2, h⟩ := h
  refine GW_iald (X := X_X12_falls) (pc := 97) d_X12_falls_97 hv2 ?_
  refine GW_icmp_ge (X := X_X12_falls) (pc := 98) 127 d_X12_falls_98 (by decide) (fun c => ?_) (fun c => ?_)
  · replace h := g_ip c h
    refine GW_aload_n (X := X_X12_falls) (pc := 127) d_X12_falls_127 rfl 0 rfl ?_
    replace h := g_bd h
    obtain ⟨i3, hi3, h⟩ := h
    obtain ⟨rfl, ki3⟩ := g_gO hi3
    replace h := g_bd h
    obtain ⟨M4, hM4, h⟩ := h
    refine GW_callV (X := X_X12_falls) (pc := 128) (bc0 := 0) (bs0 := 0) (r := none) (M2 := M4) (c0 := 12) (T_X12_laysBack (some i3) M M4 hM4) (Nat.le_of_ble_eq_true rfl) (Nat.le_of_ble_eq_true rfl) rfl g_cok12 ki3 yc_X12_laysBack ⟨m_1558, m_1560, m_101, m_127, m_1561⟩ d_X12_falls_128 rfl (st := []) rfl (Nat.le_of_ble_eq_true rfl) (Nat.le_of_ble_eq_true rfl) (Nat.le_of_ble_eq_true rfl) (st2 := []) rfl ?_
    refine GW_iload_n (X := X_X12_falls) (pc := 131) d_X12_falls_131 rfl 1 rfl ?_
    refine GW_iload_n (X := X_X12_falls) (pc := 132) d_X12_falls_132 rfl 2 rfl ?_
    refine GW_iconst (X := X_X12_falls) (pc := 133) (v := -1) d_X12_falls_133 (by decide) ?_
    refine GW_ixor (X := X_X12_falls) (pc := 134) d_X12_falls_134 ?_
    refine GW_iand (X := X_X12_falls) (pc := 135) d_X12_falls_135 ?_
    replace h := Option.some.inj h
    subst h
    exact GW_ret (X := X_X12_falls) (pc := 136) d_X12_falls_136 rfl trivial
  · replace h := g_ie c h
    refine GW_iload_n (X := X_X12_falls) (pc := 101) d_X12_falls_101 rfl 2 rfl ?_
    refine GW_aload_n (X := X_X12_falls) (pc := 102) d_X12_falls_102 rfl 0 rfl ?_
    refine GW_iload (X := X_X12_falls) (pc := 103) d_X12_falls_103 3 rfl ?_
    replace h := g_bd h
    obtain ⟨i5, hi5, h⟩ := h
    obtain ⟨rfl, ki5⟩ := g_gO hi5
    replace h := g_bd h
    obtain ⟨v6, hv6, h⟩ := h
    refine GW_callV (X := X_X12_falls) (pc := 105) (bc0 := 0) (bs0 := 0) (r := some (vi v6)) (M2 := M) (c0 := 12) (T_X12_holdersOf (some i5) l4 M v6 hv6) (Nat.le_of_ble_eq_true rfl) (Nat.le_of_ble_eq_true rfl) rfl g_cok12 ki5 yc_X12_holdersOf ⟨m_1453, m_1455, m_84, m_127, m_1456⟩ d_X12_falls_105 rfl (st := [vi l3]) rfl (Nat.le_of_ble_eq_true rfl) (Nat.le_of_ble_eq_true rfl) (Nat.le_of_ble_eq_true rfl) (st2 := [vi v6, vi l3]) rfl ?_
    refine GW_if_eq (X := X_X12_falls) (pc := 108) 118 d_X12_falls_108 (by decide) (fun c => ?_) (fun c => ?_)
    · replace h := g_ip c h
      refine GW_iconst (X := X_X12_falls) (pc := 118) (v := 0) d_X12_falls_118 (by decide) ?_
      refine GW_sub [0, 1, 3] rfl ?_
      exact T_X12_falls_b119 k90 r hk90 (some i5) l2 l4 l3 (0 : Int32) M h
    · replace h := g_ie c h
      refine GW_iconst (X := X_X12_falls) (pc := 111) (v := 1) d_X12_falls_111 (by decide) ?_
      refine GW_iload (X := X_X12_falls) (pc := 112) d_X12_falls_112 3 rfl ?_
      refine GW_ishl (X := X_X12_falls) (pc := 114) d_X12_falls_114 ?_
      refine GW_goto (X := X_X12_falls) (pc := 115) 119 d_X12_falls_115 (by decide) ?_
      refine GW_sub [0, 1, 3] rfl ?_
      exact T_X12_falls_b119 k90 r hk90 (some i5) l2 l4 l3 ((1 : Int32) <<< (l4 &&& 31)) M h
def F_X12_falls_L90 : Nat → Option Nat → Int32 → Int32 → Int32 → gM → Option (Int32 × gM)
  | 0 => fun _ _ _ _ _ => none
  | n + 1 => F_X12_falls_b90 (F_X12_falls_L90 n)
theorem T_X12_falls_L90 (r : (Int32 × gM)) : ∀ (n : Nat) (l0 : Option Nat) (l2 : Int32) (l3 : Int32) (l4 : Int32) (M : gM), F_X12_falls_L90 n l0 l2 l3 l4 M = some r → GW 4 0 0 X_X12_falls 90 [(0, vr l0), (2, vi l2), (3, vi l3), (4, vi l4)] [] M (some (vi r.1), r.2) := by
  intro n
  induction n with
  | zero => intro l0 l2 l3 l4 M h; exact g_no h
  | succ n ih => intro l0 l2 l3 l4 M h; exact T_X12_falls_b90 (F_X12_falls_L90 n) r ih l0 l2 l3 l4 M h
def F_X12_falls_b61 (k61 : Option Nat → Int32 → Int32 → Int32 → Int32 → gM → Option (Int32 × gM)) (l0 : Option Nat) (l1 : Int32) (l2 : Int32) (l3 : Int32) (l4 : Int32) (M : gM) : Option (Int32 × gM) :=
  (gR 12 M l0 20).bind fun v1 => (aI 20 M v1 (1 : Int32)).bind fun v2 => if v2 ≤ l4 then (F_X12_falls_L90 g_fuel l0 l2 l3 (0 : Int32) M) else ((gO 12 M l0).bind fun i3 => (F_X12_knowsNow (some i3) l1 l4 (-1 : Int32) (0 : Int32) M).bind fun M4 => k61 (some i3) l1 l2 l3 (l4 + 1) M4)
theorem T_X12_falls_b61 (k61 : Option Nat → Int32 → Int32 → Int32 → Int32 → gM → Option (Int32 × gM)) (r : (Int32 × gM)) (hk61 : ∀ (l0 : Option Nat) (l1 : Int32) (l2 : Int32) (l3 : Int32) (l4 : Int32) (M : gM), k61 l0 l1 l2 l3 l4 M = some r → GW 4 0 0 X_X12_falls 61 [(0, vr l0), (1, vi l1), (2, vi l2), (3, vi l3), (4, vi l4)] [] M (some (vi r.1), r.2)) (l0 : Option Nat) (l1 : Int32) (l2 : Int32) (l3 : Int32) (l4 : Int32) (M : gM) (h : F_X12_falls_b61 k61 l0 l1 l2 l3 l4 M = some r) : GW 4 0 0 X_X12_falls 61 [(0, vr l0), (1, vi l1), (2, vi l2), (3, vi l3), (4, vi l4)] [] M (some (vi r.1), r.2) := by
  delta F_X12_falls_b61 at h
  refine GW_iload (X := X_X12_falls) (pc := 61) d_X12_falls_61 4 rfl ?_
  refine GW_aload_n (X := X_X12_falls) (pc := 63) d_X12_falls_63 rfl 0 rfl ?_
  replace h := g_bd h
  obtain ⟨v1, hv1, h⟩ := h
  refine GW_getR (X := X_X12_falls) (pc := 64) f_X12_39 d_X12_falls_64 hv1 (Or.inr ⟨_, ty_12_20⟩) ?_
  refine GW_iconst (X := X_X12_falls) (pc := 67) (v := 1) d_X12_falls_67 (by decide) ?_
  replace h := g_bd h
  obtain ⟨v2, hv2, h⟩ := h
  refine GW_iald (X := X_X12_falls) (pc := 68) d_X12_falls_68 hv2 ?_
  refine GW_icmp_ge (X := X_X12_falls) (pc := 69) 87 d_X12_falls_69 (by decide) (fun c => ?_) (fun c => ?_)
  · replace h := g_ip c h
    refine GW_iconst (X := X_X12_falls) (pc := 87) (v := 0) d_X12_falls_87 (by decide) ?_
    refine GW_istore (X := X_X12_falls) (pc := 88) d_X12_falls_88 (Nat.le_of_ble_eq_true rfl) (lv2 := [(4, vi (0 : Int32)), (0, vr l0), (1, vi l1), (2, vi l2), (3, vi l3)]) rfl ?_
    refine GW_sub [1, 3, 4, 0] rfl ?_
    exact T_X12_falls_L90 r g_fuel l0 l2 l3 (0 : Int32) M h
  · replace h := g_ie c h
    refine GW_aload_n (X := X_X12_falls) (pc := 72) d_X12_falls_72 rfl 0 rfl ?_
    refine GW_iload_n (X := X_X12_falls) (pc := 73) d_X12_falls_73 rfl 1 rfl ?_
    refine GW_iload (X := X_X12_falls) (pc := 74) d_X12_falls_74 4 rfl ?_
    refine GW_iconst (X := X_X12_falls) (pc := 76) (v := -1) d_X12_falls_76 (by decide) ?_
    refine GW_iconst (X := X_X12_falls) (pc := 77) (v := 0) d_X12_falls_77 (by decide) ?_
    replace h := g_bd h
    obtain ⟨i3, hi3, h⟩ := h
    obtain ⟨rfl, ki3⟩ := g_gO hi3
    replace h := g_bd h
    obtain ⟨M4, hM4, h⟩ := h
    refine GW_callV (X := X_X12_falls) (pc := 78) (bc0 := 0) (bs0 := 0) (r := none) (M2 := M4) (c0 := 12) (T_X12_knowsNow (some i3) l1 l4 (-1 : Int32) (0 : Int32) M M4 hM4) (Nat.le_of_ble_eq_true rfl) (Nat.le_of_ble_eq_true rfl) rfl g_cok12 ki3 yc_X12_knowsNow ⟨m_1517, m_1519, m_96, m_127, m_1520⟩ d_X12_falls_78 rfl (st := []) rfl (Nat.le_of_ble_eq_true rfl) (Nat.le_of_ble_eq_true rfl) (Nat.le_of_ble_eq_true rfl) (st2 := []) rfl ?_
    refine GW_iinc (j := 4) (X := X_X12_falls) (pc := 81) d_X12_falls_81 rfl (congrArg (fun z => _ + z) (by decide : Int32.ofInt 1 = (1 : Int32))) (Nat.le_of_ble_eq_true rfl) (lv2 := [(4, vi (l4 + 1)), (0, vr (some i3)), (1, vi l1), (2, vi l2), (3, vi l3)]) rfl ?_
    refine GW_goto (X := X_X12_falls) (pc := 84) 61 d_X12_falls_84 (by decide) ?_
    refine GW_sub [1, 2, 3, 4, 0] rfl ?_
    exact hk61 (some i3) l1 l2 l3 (l4 + 1) M4 h
def F_X12_falls_L61 : Nat → Option Nat → Int32 → Int32 → Int32 → Int32 → gM → Option (Int32 × gM)
  | 0 => fun _ _ _ _ _ _ => none
  | n + 1 => F_X12_falls_b61 (F_X12_falls_L61 n)
theorem T_X12_falls_L61 (r : (Int32 × gM)) : ∀ (n : Nat) (l0 : Option Nat) (l1 : Int32) (l2 : Int32) (l3 : Int32) (l4 : Int32) (M : gM), F_X12_falls_L61 n l0 l1 l2 l3 l4 M = some r → GW 4 0 0 X_X12_falls 61 [(0, vr l0), (1, vi l1), (2, vi l2), (3, vi l3), (4, vi l4)] [] M (some (vi r.1), r.2) := by
  intro n
  induction n with
  | zero => intro l0 l1 l2 l3 l4 M h; exact g_no h
  | succ n ih => intro l0 l1 l2 l3 l4 M h; exact T_X12_falls_b61 (F_X12_falls_L61 n) r ih l0 l1 l2 l3 l4 M h
def F_X12_falls_b50 (k21 : Option Nat → Int32 → Int32 → Int32 → Int32 → gM → Option (Int32 × gM)) (l0 : Option Nat) (l1 : Int32) (l3 : Int32) (l4 : Int32) (s0 : Int32) (s1 : Int32) (M : gM) : Option (Int32 × gM) :=
  k21 l0 l1 (s0 ||| s1) l3 (l4 + 1) M
theorem T_X12_falls_b50 (k21 : Option Nat → Int32 → Int32 → Int32 → Int32 → gM → Option (Int32 × gM)) (r : (Int32 × gM)) (hk21 : ∀ (l0 : Option Nat) (l1 : Int32) (l2 : Int32) (l3 : Int32) (l4 : Int32) (M : gM), k21 l0 l1 l2 l3 l4 M = some r → GW 4 0 0 X_X12_falls 21 [(0, vr l0), (1, vi l1), (2, vi l2), (3, vi l3), (4, vi l4)] [] M (some (vi r.1), r.2)) (l0 : Option Nat) (l1 : Int32) (l3 : Int32) (l4 : Int32) (s0 : Int32) (s1 : Int32) (M : gM) (h : F_X12_falls_b50 k21 l0 l1 l3 l4 s0 s1 M = some r) : GW 4 0 0 X_X12_falls 50 [(0, vr l0), (1, vi l1), (3, vi l3), (4, vi l4)] [vi s1, vi s0] M (some (vi r.1), r.2) := by
  delta F_X12_falls_b50 at h
  refine GW_ior (X := X_X12_falls) (pc := 50) d_X12_falls_50 ?_
  refine GW_istore_n (X := X_X12_falls) (pc := 51) d_X12_falls_51 rfl (Nat.le_of_ble_eq_true rfl) (lv2 := [(2, vi (s0 ||| s1)), (0, vr l0), (1, vi l1), (3, vi l3), (4, vi l4)]) rfl ?_
  refine GW_iinc (j := 4) (X := X_X12_falls) (pc := 52) d_X12_falls_52 rfl (congrArg (fun z => _ + z) (by decide : Int32.ofInt 1 = (1 : Int32))) (Nat.le_of_ble_eq_true rfl) (lv2 := [(4, vi (l4 + 1)), (2, vi (s0 ||| s1)), (0, vr l0), (1, vi l1), (3, vi l3)]) rfl ?_
  refine GW_goto (X := X_X12_falls) (pc := 55) 21 d_X12_falls_55 (by decide) ?_
  refine GW_sub [2, 3, 1, 4, 0] rfl ?_
  exact hk21 l0 l1 (s0 ||| s1) l3 (l4 + 1) M h
def F_X12_falls_b21 (k21 : Option Nat → Int32 → Int32 → Int32 → Int32 → gM → Option (Int32 × gM)) (l0 : Option Nat) (l1 : Int32) (l2 : Int32) (l3 : Int32) (l4 : Int32) (M : gM) : Option (Int32 × gM) :=
  (gR 12 M l0 20).bind fun v1 => (aI 20 M v1 (1 : Int32)).bind fun v2 => if v2 ≤ l4 then (F_X12_falls_L61 g_fuel l0 l1 l2 l3 (0 : Int32) M) else ((gO 12 M l0).bind fun i3 => (F_X12_holdersOf (some i3) l4 M).bind fun v4 => if v4 = 0 then (F_X12_falls_b50 k21 (some i3) l1 l3 l4 l2 (0 : Int32) M) else (F_X12_falls_b50 k21 (some i3) l1 l3 l4 l2 ((1 : Int32) <<< (l4 &&& 31)) M))
theorem T_X12_falls_b21 (k21 : Option Nat → Int32 → Int32 → Int32 → Int32 → gM → Option (Int32 × gM)) (r : (Int32 × gM)) (hk21 : ∀ (l0 : Option Nat) (l1 : Int32) (l2 : Int32) (l3 : Int32) (l4 : Int32) (M : gM), k21 l0 l1 l2 l3 l4 M = some r → GW 4 0 0 X_X12_falls 21 [(0, vr l0), (1, vi l1), (2, vi l2), (3, vi l3), (4, vi l4)] [] M (some (vi r.1), r.2)) (l0 : Option Nat) (l1 : Int32) (l2 : Int32) (l3 : Int32) (l4 : Int32) (M : gM) (h : F_X12_falls_b21 k21 l0 l1 l2 l3 l4 M = some r) : GW 4 0 0 X_X12_falls 21 [(0, vr l0), (1, vi l1), (2, vi l2), (3, vi l3), (4, vi l4)] [] M (some (vi r.1), r.2) := by
  delta F_X12_falls_b21 at h
  refine GW_iload (X := X_X12_falls) (pc := 21) d_X12_falls_21 4 rfl ?_
  refine GW_aload_n (X := X_X12_falls) (pc := 23) d_X12_falls_23 rfl 0 rfl ?_
  replace h := g_bd h
  obtain ⟨v1, hv1, h⟩ := h
  refine GW_getR (X := X_X12_falls) (pc := 24) f_X12_39 d_X12_falls_24 hv1 (Or.inr ⟨_, ty_12_20⟩) ?_
  refine GW_iconst (X := X_X12_falls) (pc := 27) (v := 1) d_X12_falls_27 (by decide) ?_
  replace h := g_bd h
  obtain ⟨v2, hv2, h⟩ := h
  refine GW_iald (X := X_X12_falls) (pc := 28) d_X12_falls_28 hv2 ?_
  refine GW_icmp_ge (X := X_X12_falls) (pc := 29) 58 d_X12_falls_29 (by decide) (fun c => ?_) (fun c => ?_)
  · replace h := g_ip c h
    refine GW_iconst (X := X_X12_falls) (pc := 58) (v := 0) d_X12_falls_58 (by decide) ?_
    refine GW_istore (X := X_X12_falls) (pc := 59) d_X12_falls_59 (Nat.le_of_ble_eq_true rfl) (lv2 := [(4, vi (0 : Int32)), (0, vr l0), (1, vi l1), (2, vi l2), (3, vi l3)]) rfl ?_
    refine GW_sub [1, 2, 3, 4, 0] rfl ?_
    exact T_X12_falls_L61 r g_fuel l0 l1 l2 l3 (0 : Int32) M h
  · replace h := g_ie c h
    refine GW_iload_n (X := X_X12_falls) (pc := 32) d_X12_falls_32 rfl 2 rfl ?_
    refine GW_aload_n (X := X_X12_falls) (pc := 33) d_X12_falls_33 rfl 0 rfl ?_
    refine GW_iload (X := X_X12_falls) (pc := 34) d_X12_falls_34 4 rfl ?_
    replace h := g_bd h
    obtain ⟨i3, hi3, h⟩ := h
    obtain ⟨rfl, ki3⟩ := g_gO hi3
    replace h := g_bd h
    obtain ⟨v4, hv4, h⟩ := h
    refine GW_callV (X := X_X12_falls) (pc := 36) (bc0 := 0) (bs0 := 0) (r := some (vi v4)) (M2 := M) (c0 := 12) (T_X12_holdersOf (some i3) l4 M v4 hv4) (Nat.le_of_ble_eq_true rfl) (Nat.le_of_ble_eq_true rfl) rfl g_cok12 ki3 yc_X12_holdersOf ⟨m_1453, m_1455, m_84, m_127, m_1456⟩ d_X12_falls_36 rfl (st := [vi l2]) rfl (Nat.le_of_ble_eq_true rfl) (Nat.le_of_ble_eq_true rfl) (Nat.le_of_ble_eq_true rfl) (st2 := [vi v4, vi l2]) rfl ?_
    refine GW_if_eq (X := X_X12_falls) (pc := 39) 49 d_X12_falls_39 (by decide) (fun c => ?_) (fun c => ?_)
    · replace h := g_ip c h
      refine GW_iconst (X := X_X12_falls) (pc := 49) (v := 0) d_X12_falls_49 (by decide) ?_
      refine GW_sub [0, 1, 3, 4] rfl ?_
      exact T_X12_falls_b50 k21 r hk21 (some i3) l1 l3 l4 l2 (0 : Int32) M h
    · replace h := g_ie c h
      refine GW_iconst (X := X_X12_falls) (pc := 42) (v := 1) d_X12_falls_42 (by decide) ?_
      refine GW_iload (X := X_X12_falls) (pc := 43) d_X12_falls_43 4 rfl ?_
      refine GW_ishl (X := X_X12_falls) (pc := 45) d_X12_falls_45 ?_
      refine GW_goto (X := X_X12_falls) (pc := 46) 50 d_X12_falls_46 (by decide) ?_
      refine GW_sub [0, 1, 3, 4] rfl ?_
      exact T_X12_falls_b50 k21 r hk21 (some i3) l1 l3 l4 l2 ((1 : Int32) <<< (l4 &&& 31)) M h
def F_X12_falls_L21 : Nat → Option Nat → Int32 → Int32 → Int32 → Int32 → gM → Option (Int32 × gM)
  | 0 => fun _ _ _ _ _ _ => none
  | n + 1 => F_X12_falls_b21 (F_X12_falls_L21 n)
theorem T_X12_falls_L21 (r : (Int32 × gM)) : ∀ (n : Nat) (l0 : Option Nat) (l1 : Int32) (l2 : Int32) (l3 : Int32) (l4 : Int32) (M : gM), F_X12_falls_L21 n l0 l1 l2 l3 l4 M = some r → GW 4 0 0 X_X12_falls 21 [(0, vr l0), (1, vi l1), (2, vi l2), (3, vi l3), (4, vi l4)] [] M (some (vi r.1), r.2) := by
  intro n
  induction n with
  | zero => intro l0 l1 l2 l3 l4 M h; exact g_no h
  | succ n ih => intro l0 l1 l2 l3 l4 M h; exact T_X12_falls_b21 (F_X12_falls_L21 n) r ih l0 l1 l2 l3 l4 M h
def F_X12_falls_b0 (l0 : Option Nat) (l1 : Int32) (M : gM) : Option (Int32 × gM) :=
  (gO 12 M l0).bind fun i1 => (F_X12_isHeir (some i1) l1 M).bind fun v2 => if v2 = 0 then (some ((-1 : Int32), M)) else ((F_X12_keeps (some i1) M).bind fun M3 => F_X12_falls_L21 g_fuel (some i1) l1 (0 : Int32) (0 : Int32) (0 : Int32) M3)
theorem T_X12_falls_b0 (r : (Int32 × gM)) (l0 : Option Nat) (l1 : Int32) (M : gM) (h : F_X12_falls_b0 l0 l1 M = some r) : GW 4 0 0 X_X12_falls 0 [(0, vr l0), (1, vi l1)] [] M (some (vi r.1), r.2) := by
  delta F_X12_falls_b0 at h
  refine GW_aload_n (X := X_X12_falls) (pc := 0) d_X12_falls_0 rfl 0 rfl ?_
  refine GW_iload_n (X := X_X12_falls) (pc := 1) d_X12_falls_1 rfl 1 rfl ?_
  replace h := g_bd h
  obtain ⟨i1, hi1, h⟩ := h
  obtain ⟨rfl, ki1⟩ := g_gO hi1
  replace h := g_bd h
  obtain ⟨v2, hv2, h⟩ := h
  refine GW_callV (X := X_X12_falls) (pc := 2) (bc0 := 0) (bs0 := 0) (r := some (vi v2)) (M2 := M) (c0 := 12) (T_X12_isHeir (some i1) l1 M v2 hv2) (Nat.le_of_ble_eq_true rfl) (Nat.le_of_ble_eq_true rfl) rfl g_cok12 ki1 yc_X12_isHeir ⟨m_1415, m_1417, m_76, m_127, m_1418⟩ d_X12_falls_2 rfl (st := []) rfl (Nat.le_of_ble_eq_true rfl) (Nat.le_of_ble_eq_true rfl) (Nat.le_of_ble_eq_true rfl) (st2 := [vi v2]) rfl ?_
  refine GW_if_ne (X := X_X12_falls) (pc := 5) 10 d_X12_falls_5 (by decide) (fun c => ?_) (fun c => ?_)
  · replace h := g_ie c h
    refine GW_iconst (X := X_X12_falls) (pc := 10) (v := 0) d_X12_falls_10 (by decide) ?_
    refine GW_istore_n (X := X_X12_falls) (pc := 11) d_X12_falls_11 rfl (Nat.le_of_ble_eq_true rfl) (lv2 := [(2, vi (0 : Int32)), (0, vr (some i1)), (1, vi l1)]) rfl ?_
    refine GW_iconst (X := X_X12_falls) (pc := 12) (v := 0) d_X12_falls_12 (by decide) ?_
    refine GW_istore_n (X := X_X12_falls) (pc := 13) d_X12_falls_13 rfl (Nat.le_of_ble_eq_true rfl) (lv2 := [(3, vi (0 : Int32)), (2, vi (0 : Int32)), (0, vr (some i1)), (1, vi l1)]) rfl ?_
    refine GW_aload_n (X := X_X12_falls) (pc := 14) d_X12_falls_14 rfl 2 rfl ?_
    replace h := g_bd h
    obtain ⟨M3, hM3, h⟩ := h
    refine GW_callV (X := X_X12_falls) (pc := 15) (bc0 := 0) (bs0 := 0) (r := none) (M2 := M3) (c0 := 12) (T_X12_keeps (some i1) M M3 hM3) (Nat.le_of_ble_eq_true rfl) (Nat.le_of_ble_eq_true rfl) rfl g_cok12 ki1 yc_X12_keeps ⟨m_1554, m_1556, m_100, m_127, m_1557⟩ d_X12_falls_15 rfl (st := []) rfl (Nat.le_of_ble_eq_true rfl) (Nat.le_of_ble_eq_true rfl) (Nat.le_of_ble_eq_true rfl) (st2 := []) rfl ?_
    refine GW_iconst (X := X_X12_falls) (pc := 18) (v := 0) d_X12_falls_18 (by decide) ?_
    refine GW_istore (X := X_X12_falls) (pc := 19) d_X12_falls_19 (Nat.le_of_ble_eq_true rfl) (lv2 := [(4, vi (0 : Int32)), (3, vi (0 : Int32)), (2, vi (0 : Int32)), (0, vr (some i1)), (1, vi l1)]) rfl ?_
    refine GW_sub [3, 4, 2, 1, 0] rfl ?_
    exact T_X12_falls_L21 r g_fuel (some i1) l1 (0 : Int32) (0 : Int32) (0 : Int32) M3 h
  · replace h := g_ip c h
    refine GW_iconst (X := X_X12_falls) (pc := 8) (v := -1) d_X12_falls_8 (by decide) ?_
    replace h := Option.some.inj h
    subst h
    exact GW_ret (X := X_X12_falls) (pc := 9) d_X12_falls_9 rfl trivial
def F_X12_falls (l0 : Option Nat) (l1 : Int32) (M : gM) : Option (Int32 × gM) := F_X12_falls_b0 l0 l1 M
theorem T_X12_falls (l0 : Option Nat) (l1 : Int32) (M : gM) (r : (Int32 × gM)) (h : F_X12_falls l0 l1 M = some r) : g_Met 4 0 0 yX12_falls X_X12_falls [vr l0, vi l1] M (some (vi r.1), r.2) :=
  g_Met_of pn_RX12 rfl (Nat.le_of_ble_eq_true rfl) (fun h => by cases h) (GW_sub [0, 1] rfl (T_X12_falls_b0 r l0 l1 M h))
/-! ForgetHeirs$State.heldTogether(LForgetHeirs$House;)I -/
theorem d_X8_heldTogether_0 : decode cX8_heldTogether 0 = .ok (.iconst 0, 1) := by decide +kernel
theorem d_X8_heldTogether_1 : decode cX8_heldTogether 1 = .ok (.istore_n 2, 1) := by decide +kernel
theorem d_X8_heldTogether_2 : decode cX8_heldTogether 2 = .ok (.iconst 0, 1) := by decide +kernel
theorem d_X8_heldTogether_3 : decode cX8_heldTogether 3 = .ok (.istore_n 3, 1) := by decide +kernel
theorem d_X8_heldTogether_4 : decode cX8_heldTogether 4 = .ok (.iload_n 3, 1) := by decide +kernel
theorem d_X8_heldTogether_5 : decode cX8_heldTogether 5 = .ok (.aload_n 1, 1) := by decide +kernel
theorem d_X8_heldTogether_6 : decode cX8_heldTogether 6 = .ok (.getfield 63, 3) := by decide +kernel
theorem d_X8_heldTogether_9 : decode cX8_heldTogether 9 = .ok (.if_icmp .ge 21, 3) := by decide +kernel
theorem d_X8_heldTogether_12 : decode cX8_heldTogether 12 = .ok (.iload_n 2, 1) := by decide +kernel
theorem d_X8_heldTogether_13 : decode cX8_heldTogether 13 = .ok (.aload_n 0, 1) := by decide +kernel
theorem d_X8_heldTogether_14 : decode cX8_heldTogether 14 = .ok (.aload_n 1, 1) := by decide +kernel
theorem d_X8_heldTogether_15 : decode cX8_heldTogether 15 = .ok (.iload_n 3, 1) := by decide +kernel
theorem d_X8_heldTogether_16 : decode cX8_heldTogether 16 = .ok (.invokevirtual 76, 3) := by decide +kernel
theorem d_X8_heldTogether_19 : decode cX8_heldTogether 19 = .ok (.invokestatic 79, 3) := by decide +kernel
theorem d_X8_heldTogether_22 : decode cX8_heldTogether 22 = .ok (.iadd, 1) := by decide +kernel
theorem d_X8_heldTogether_23 : decode cX8_heldTogether 23 = .ok (.istore_n 2, 1) := by decide +kernel
theorem d_X8_heldTogether_24 : decode cX8_heldTogether 24 = .ok (.iinc 3 1, 3) := by decide +kernel
theorem d_X8_heldTogether_27 : decode cX8_heldTogether 27 = .ok (.goto (-23), 3) := by decide +kernel
theorem d_X8_heldTogether_30 : decode cX8_heldTogether 30 = .ok (.iload_n 2, 1) := by decide +kernel
theorem d_X8_heldTogether_31 : decode cX8_heldTogether 31 = .ok (.ireturn, 1) := by decide +kernel
abbrev X_X8_heldTogether : gX := (RX8, cX8_heldTogether, 4, (some .int), false)
def F_X8_heldTogether_b4 (k4 : Option Nat → Option Nat → Int32 → Int32 → Option Int32) (M : gM) (l0 : Option Nat) (l1 : Option Nat) (l2 : Int32) (l3 : Int32) : Option Int32 :=
  (gI 1 M l1 6).bind fun v1 => if v1 ≤ l3 then (some l2) else ((gO 8 M l0).bind fun i2 => (F_X8_holdersOf (some i2) l1 l3 M).bind fun v3 => (F_J6_bitCount_0f7a4 v3 M).bind fun v4 => k4 (some i2) l1 (l2 + v4) (l3 + 1))
theorem T_X8_heldTogether_b4 (k4 : Option Nat → Option Nat → Int32 → Int32 → Option Int32) (M : gM) (r : Int32) (hk4 : ∀ (l0 : Option Nat) (l1 : Option Nat) (l2 : Int32) (l3 : Int32), k4 l0 l1 l2 l3 = some r → GW 2 0 0 X_X8_heldTogether 4 [(0, vr l0), (1, vr l1), (2, vi l2), (3, vi l3)] [] M (some (vi r), M)) (l0 : Option Nat) (l1 : Option Nat) (l2 : Int32) (l3 : Int32) (h : F_X8_heldTogether_b4 k4 M l0 l1 l2 l3 = some r) : GW 2 0 0 X_X8_heldTogether 4 [(0, vr l0), (1, vr l1), (2, vi l2), (3, vi l3)] [] M (some (vi r), M) := by
  delta F_X8_heldTogether_b4 at h
  refine GW_iload_n (X := X_X8_heldTogether) (pc := 4) d_X8_heldTogether_4 rfl 3 rfl ?_
  refine GW_aload_n (X := X_X8_heldTogether) (pc := 5) d_X8_heldTogether_5 rfl 1 rfl ?_
  replace h := g_bd h
  obtain ⟨v1, hv1, h⟩ := h
  refine GW_getI (X := X_X8_heldTogether) (pc := 6) f_X8_63 d_X8_heldTogether_6 hv1 (Or.inl ty_1_6) ?_
  refine GW_icmp_ge (X := X_X8_heldTogether) (pc := 9) 30 d_X8_heldTogether_9 (by decide) (fun c => ?_) (fun c => ?_)
  · replace h := g_ip c h
    refine GW_iload_n (X := X_X8_heldTogether) (pc := 30) d_X8_heldTogether_30 rfl 2 rfl ?_
    replace h := Option.some.inj h
    subst h
    exact GW_ret (X := X_X8_heldTogether) (pc := 31) d_X8_heldTogether_31 rfl trivial
  · replace h := g_ie c h
    refine GW_iload_n (X := X_X8_heldTogether) (pc := 12) d_X8_heldTogether_12 rfl 2 rfl ?_
    refine GW_aload_n (X := X_X8_heldTogether) (pc := 13) d_X8_heldTogether_13 rfl 0 rfl ?_
    refine GW_aload_n (X := X_X8_heldTogether) (pc := 14) d_X8_heldTogether_14 rfl 1 rfl ?_
    refine GW_iload_n (X := X_X8_heldTogether) (pc := 15) d_X8_heldTogether_15 rfl 3 rfl ?_
    replace h := g_bd h
    obtain ⟨i2, hi2, h⟩ := h
    obtain ⟨rfl, ki2⟩ := g_gO hi2
    replace h := g_bd h
    obtain ⟨v3, hv3, h⟩ := h
    refine GW_callV (X := X_X8_heldTogether) (pc := 16) (bc0 := 0) (bs0 := 0) (r := some (vi v3)) (M2 := M) (c0 := 8) (T_X8_holdersOf (some i2) l1 l3 M v3 hv3) (Nat.le_of_ble_eq_true rfl) (Nat.le_of_ble_eq_true rfl) rfl g_cok8 ki2 yc_X8_holdersOf ⟨m_781, m_782, m_783, m_119, m_784⟩ d_X8_heldTogether_16 rfl (st := [vi l2]) rfl (Nat.le_of_ble_eq_true rfl) (Nat.le_of_ble_eq_true rfl) (Nat.le_of_ble_eq_true rfl) (st2 := [vi v3, vi l2]) rfl ?_
    replace h := g_bd h
    obtain ⟨v4, hv4, h⟩ := h
    refine GW_callS (X := X_X8_heldTogether) (pc := 19) (bc0 := 0) (bs0 := 0) (r := some (vi v4)) (M2 := M) (T_J6_bitCount_0f7a4 v3 M v4 hv4) (Nat.le_of_ble_eq_true rfl) (Nat.le_of_ble_eq_true rfl) yc_J6_bitCount_0f7a4 ⟨m_815, m_816, m_136, m_817⟩ d_X8_heldTogether_19 rfl (st := [vi l2]) rfl (Nat.le_of_ble_eq_true rfl) (Nat.le_of_ble_eq_true rfl) (Nat.le_of_ble_eq_true rfl) (st2 := [vi v4, vi l2]) rfl ?_
    refine GW_iadd (X := X_X8_heldTogether) (pc := 22) d_X8_heldTogether_22 ?_
    refine GW_istore_n (X := X_X8_heldTogether) (pc := 23) d_X8_heldTogether_23 rfl (Nat.le_of_ble_eq_true rfl) (lv2 := [(2, vi (l2 + v4)), (0, vr (some i2)), (1, vr l1), (3, vi l3)]) rfl ?_
    refine GW_iinc (j := 3) (X := X_X8_heldTogether) (pc := 24) d_X8_heldTogether_24 rfl (congrArg (fun z => _ + z) (by decide : Int32.ofInt 1 = (1 : Int32))) (Nat.le_of_ble_eq_true rfl) (lv2 := [(3, vi (l3 + 1)), (2, vi (l2 + v4)), (0, vr (some i2)), (1, vr l1)]) rfl ?_
    refine GW_goto (X := X_X8_heldTogether) (pc := 27) 4 d_X8_heldTogether_27 (by decide) ?_
    refine GW_sub [2, 3, 1, 0] rfl ?_
    exact hk4 (some i2) l1 (l2 + v4) (l3 + 1) h
def F_X8_heldTogether_L4 (M : gM) : Nat → Option Nat → Option Nat → Int32 → Int32 → Option Int32
  | 0 => fun _ _ _ _ => none
  | n + 1 => F_X8_heldTogether_b4 (F_X8_heldTogether_L4 M n) M
theorem T_X8_heldTogether_L4 (M : gM) (r : Int32) : ∀ (n : Nat) (l0 : Option Nat) (l1 : Option Nat) (l2 : Int32) (l3 : Int32), F_X8_heldTogether_L4 M n l0 l1 l2 l3 = some r → GW 2 0 0 X_X8_heldTogether 4 [(0, vr l0), (1, vr l1), (2, vi l2), (3, vi l3)] [] M (some (vi r), M) := by
  intro n
  induction n with
  | zero => intro l0 l1 l2 l3 h; exact g_no h
  | succ n ih => intro l0 l1 l2 l3 h; exact T_X8_heldTogether_b4 (F_X8_heldTogether_L4 M n) M r ih l0 l1 l2 l3 h
def F_X8_heldTogether_b0 (M : gM) (l0 : Option Nat) (l1 : Option Nat) : Option Int32 :=
  F_X8_heldTogether_L4 M g_fuel l0 l1 (0 : Int32) (0 : Int32)
theorem T_X8_heldTogether_b0 (M : gM) (r : Int32) (l0 : Option Nat) (l1 : Option Nat) (h : F_X8_heldTogether_b0 M l0 l1 = some r) : GW 2 0 0 X_X8_heldTogether 0 [(0, vr l0), (1, vr l1)] [] M (some (vi r), M) := by
  delta F_X8_heldTogether_b0 at h
  refine GW_iconst (X := X_X8_heldTogether) (pc := 0) (v := 0) d_X8_heldTogether_0 (by decide) ?_
  refine GW_istore_n (X := X_X8_heldTogether) (pc := 1) d_X8_heldTogether_1 rfl (Nat.le_of_ble_eq_true rfl) (lv2 := [(2, vi (0 : Int32)), (0, vr l0), (1, vr l1)]) rfl ?_
  refine GW_iconst (X := X_X8_heldTogether) (pc := 2) (v := 0) d_X8_heldTogether_2 (by decide) ?_
  refine GW_istore_n (X := X_X8_heldTogether) (pc := 3) d_X8_heldTogether_3 rfl (Nat.le_of_ble_eq_true rfl) (lv2 := [(3, vi (0 : Int32)), (2, vi (0 : Int32)), (0, vr l0), (1, vr l1)]) rfl ?_
  refine GW_sub [2, 3, 1, 0] rfl ?_
  exact T_X8_heldTogether_L4 M r g_fuel l0 l1 (0 : Int32) (0 : Int32) h
def F_X8_heldTogether (l0 : Option Nat) (l1 : Option Nat) (M : gM) : Option Int32 := F_X8_heldTogether_b0 M l0 l1
theorem T_X8_heldTogether (l0 : Option Nat) (l1 : Option Nat) (M : gM) (r : Int32) (h : F_X8_heldTogether l0 l1 M = some r) : g_Met 2 0 0 yX8_heldTogether X_X8_heldTogether [vr l0, vr l1] M (some (vi r), M) :=
  g_Met_of pn_RX8 rfl (Nat.le_of_ble_eq_true rfl) (fun h => by cases h) (GW_sub [0, 1] rfl (T_X8_heldTogether_b0 M r l0 l1 h))
/-! ForgetHeirs.heldBehindAsk(I)I -/
theorem d_X11_heldBehindAsk_0 : decode cX11_heldBehindAsk 0 = .ok (.aload_n 0, 1) := by decide +kernel
theorem d_X11_heldBehindAsk_1 : decode cX11_heldBehindAsk 1 = .ok (.getfield 29, 3) := by decide +kernel
theorem d_X11_heldBehindAsk_4 : decode cX11_heldBehindAsk 4 = .ok (.aload_n 0, 1) := by decide +kernel
theorem d_X11_heldBehindAsk_5 : decode cX11_heldBehindAsk 5 = .ok (.getfield 25, 3) := by decide +kernel
theorem d_X11_heldBehindAsk_8 : decode cX11_heldBehindAsk 8 = .ok (.invokevirtual 114, 3) := by decide +kernel
theorem d_X11_heldBehindAsk_11 : decode cX11_heldBehindAsk 11 = .ok (.aload_n 0, 1) := by decide +kernel
theorem d_X11_heldBehindAsk_12 : decode cX11_heldBehindAsk 12 = .ok (.getfield 29, 3) := by decide +kernel
theorem d_X11_heldBehindAsk_15 : decode cX11_heldBehindAsk 15 = .ok (.aload_n 0, 1) := by decide +kernel
theorem d_X11_heldBehindAsk_16 : decode cX11_heldBehindAsk 16 = .ok (.getfield 59, 3) := by decide +kernel
theorem d_X11_heldBehindAsk_19 : decode cX11_heldBehindAsk 19 = .ok (.iload_n 1, 1) := by decide +kernel
theorem d_X11_heldBehindAsk_20 : decode cX11_heldBehindAsk 20 = .ok (.bipush 7, 2) := by decide +kernel
theorem d_X11_heldBehindAsk_22 : decode cX11_heldBehindAsk 22 = .ok (.idiv, 1) := by decide +kernel
theorem d_X11_heldBehindAsk_23 : decode cX11_heldBehindAsk 23 = .ok (.iload_n 1, 1) := by decide +kernel
theorem d_X11_heldBehindAsk_24 : decode cX11_heldBehindAsk 24 = .ok (.bipush 7, 2) := by decide +kernel
theorem d_X11_heldBehindAsk_26 : decode cX11_heldBehindAsk 26 = .ok (.irem, 1) := by decide +kernel
theorem d_X11_heldBehindAsk_27 : decode cX11_heldBehindAsk 27 = .ok (.invokevirtual 234, 3) := by decide +kernel
theorem d_X11_heldBehindAsk_30 : decode cX11_heldBehindAsk 30 = .ok (.aload_n 0, 1) := by decide +kernel
theorem d_X11_heldBehindAsk_31 : decode cX11_heldBehindAsk 31 = .ok (.getfield 29, 3) := by decide +kernel
theorem d_X11_heldBehindAsk_34 : decode cX11_heldBehindAsk 34 = .ok (.aload_n 0, 1) := by decide +kernel
theorem d_X11_heldBehindAsk_35 : decode cX11_heldBehindAsk 35 = .ok (.getfield 59, 3) := by decide +kernel
theorem d_X11_heldBehindAsk_38 : decode cX11_heldBehindAsk 38 = .ok (.invokevirtual 200, 3) := by decide +kernel
theorem d_X11_heldBehindAsk_41 : decode cX11_heldBehindAsk 41 = .ok (.ireturn, 1) := by decide +kernel
abbrev X_X11_heldBehindAsk : gX := (RX11, cX11_heldBehindAsk, 2, (some .int), false)
def F_X11_heldBehindAsk_b0 (l0 : Option Nat) (l1 : Int32) (M : gM) : Option (Int32 × gM) :=
  (gR 11 M l0 6).bind fun v1 => (gR 11 M l0 5).bind fun v2 => (gO 8 M v1).bind fun i3 => (F_X8_copy (some i3) v2 M).bind fun M4 => (gR 11 M4 l0 6).bind fun v5 => (gR 11 M4 l0 11).bind fun v6 => (gO 8 M4 v5).bind fun i7 => (F_X8_isAsked (some i7) v6 (l1 / (7 : Int32)) (l1 - l1 / (7 : Int32) * (7 : Int32)) M4).bind fun M8 => (gR 11 M8 l0 6).bind fun v9 => (gR 11 M8 l0 11).bind fun v10 => (gO 8 M8 v9).bind fun i11 => (F_X8_heldTogether (some i11) v10 M8).bind fun v12 => some (v12, M8)
set_option maxHeartbeats 1000000 in
theorem T_X11_heldBehindAsk_b0 (r : (Int32 × gM)) (l0 : Option Nat) (l1 : Int32) (M : gM) (h : F_X11_heldBehindAsk_b0 l0 l1 M = some r) : GW 3 0 0 X_X11_heldBehindAsk 0 [(0, vr l0), (1, vi l1)] [] M (some (vi r.1), r.2) := by
  delta F_X11_heldBehindAsk_b0 at h
  refine GW_aload_n (X := X_X11_heldBehindAsk) (pc := 0) d_X11_heldBehindAsk_0 rfl 0 rfl ?_
  replace h := g_bd h
  obtain ⟨v1, hv1, h⟩ := h
  refine GW_getR (X := X_X11_heldBehindAsk) (pc := 1) f_X11_29 d_X11_heldBehindAsk_1 hv1 (Or.inl ⟨_, ty_11_6⟩) ?_
  refine GW_aload_n (X := X_X11_heldBehindAsk) (pc := 4) d_X11_heldBehindAsk_4 rfl 0 rfl ?_
  replace h := g_bd h
  obtain ⟨v2, hv2, h⟩ := h
  refine GW_getR (X := X_X11_heldBehindAsk) (pc := 5) f_X11_25 d_X11_heldBehindAsk_5 hv2 (Or.inl ⟨_, ty_11_5⟩) ?_
  replace h := g_bd h
  obtain ⟨i3, hi3, h⟩ := h
  obtain ⟨rfl, ki3⟩ := g_gO hi3
  replace h := g_bd h
  obtain ⟨M4, hM4, h⟩ := h
  refine GW_callV (X := X_X11_heldBehindAsk) (pc := 8) (bc0 := 0) (bs0 := 0) (r := none) (M2 := M4) (c0 := 8) (T_X8_copy (some i3) v2 M M4 hM4) (Nat.le_of_ble_eq_true rfl) (Nat.le_of_ble_eq_true rfl) rfl g_cok8 ki3 yc_X8_copy ⟨m_664, m_665, m_666, m_119, m_667⟩ d_X11_heldBehindAsk_8 rfl (st := []) rfl (Nat.le_of_ble_eq_true rfl) (Nat.le_of_ble_eq_true rfl) (Nat.le_of_ble_eq_true rfl) (st2 := []) rfl ?_
  refine GW_aload_n (X := X_X11_heldBehindAsk) (pc := 11) d_X11_heldBehindAsk_11 rfl 0 rfl ?_
  replace h := g_bd h
  obtain ⟨v5, hv5, h⟩ := h
  refine GW_getR (X := X_X11_heldBehindAsk) (pc := 12) f_X11_29 d_X11_heldBehindAsk_12 hv5 (Or.inl ⟨_, ty_11_6⟩) ?_
  refine GW_aload_n (X := X_X11_heldBehindAsk) (pc := 15) d_X11_heldBehindAsk_15 rfl 0 rfl ?_
  replace h := g_bd h
  obtain ⟨v6, hv6, h⟩ := h
  refine GW_getR (X := X_X11_heldBehindAsk) (pc := 16) f_X11_59 d_X11_heldBehindAsk_16 hv6 (Or.inl ⟨_, ty_11_11⟩) ?_
  refine GW_iload_n (X := X_X11_heldBehindAsk) (pc := 19) d_X11_heldBehindAsk_19 rfl 1 rfl ?_
  refine GW_bipush (X := X_X11_heldBehindAsk) (pc := 20) (v := 7) d_X11_heldBehindAsk_20 (by decide) ?_
  refine GW_idiv (X := X_X11_heldBehindAsk) (pc := 22) d_X11_heldBehindAsk_22 (by decide) ?_
  refine GW_iload_n (X := X_X11_heldBehindAsk) (pc := 23) d_X11_heldBehindAsk_23 rfl 1 rfl ?_
  refine GW_bipush (X := X_X11_heldBehindAsk) (pc := 24) (v := 7) d_X11_heldBehindAsk_24 (by decide) ?_
  refine GW_irem (X := X_X11_heldBehindAsk) (pc := 26) d_X11_heldBehindAsk_26 (by decide) ?_
  replace h := g_bd h
  obtain ⟨i7, hi7, h⟩ := h
  obtain ⟨rfl, ki7⟩ := g_gO hi7
  replace h := g_bd h
  obtain ⟨M8, hM8, h⟩ := h
  refine GW_callV (X := X_X11_heldBehindAsk) (pc := 27) (bc0 := 0) (bs0 := 0) (r := none) (M2 := M8) (c0 := 8) (T_X8_isAsked (some i7) v6 (l1 / (7 : Int32)) (l1 - l1 / (7 : Int32) * (7 : Int32)) M4 M8 hM8) (Nat.le_of_ble_eq_true rfl) (Nat.le_of_ble_eq_true rfl) rfl g_cok8 ki7 yc_X8_isAsked ⟨m_931, m_932, m_933, m_119, m_934⟩ d_X11_heldBehindAsk_27 rfl (st := []) rfl (Nat.le_of_ble_eq_true rfl) (Nat.le_of_ble_eq_true rfl) (Nat.le_of_ble_eq_true rfl) (st2 := []) rfl ?_
  refine GW_aload_n (X := X_X11_heldBehindAsk) (pc := 30) d_X11_heldBehindAsk_30 rfl 0 rfl ?_
  replace h := g_bd h
  obtain ⟨v9, hv9, h⟩ := h
  refine GW_getR (X := X_X11_heldBehindAsk) (pc := 31) f_X11_29 d_X11_heldBehindAsk_31 hv9 (Or.inl ⟨_, ty_11_6⟩) ?_
  refine GW_aload_n (X := X_X11_heldBehindAsk) (pc := 34) d_X11_heldBehindAsk_34 rfl 0 rfl ?_
  replace h := g_bd h
  obtain ⟨v10, hv10, h⟩ := h
  refine GW_getR (X := X_X11_heldBehindAsk) (pc := 35) f_X11_59 d_X11_heldBehindAsk_35 hv10 (Or.inl ⟨_, ty_11_11⟩) ?_
  replace h := g_bd h
  obtain ⟨i11, hi11, h⟩ := h
  obtain ⟨rfl, ki11⟩ := g_gO hi11
  replace h := g_bd h
  obtain ⟨v12, hv12, h⟩ := h
  refine GW_callV (X := X_X11_heldBehindAsk) (pc := 38) (bc0 := 0) (bs0 := 0) (r := some (vi v12)) (M2 := M8) (c0 := 8) (T_X8_heldTogether (some i11) v10 M8 v12 hv12) (Nat.le_of_ble_eq_true rfl) (Nat.le_of_ble_eq_true rfl) rfl g_cok8 ki11 yc_X8_heldTogether ⟨m_811, m_812, m_813, m_119, m_814⟩ d_X11_heldBehindAsk_38 rfl (st := []) rfl (Nat.le_of_ble_eq_true rfl) (Nat.le_of_ble_eq_true rfl) (Nat.le_of_ble_eq_true rfl) (st2 := [vi v12]) rfl ?_
  replace h := Option.some.inj h
  subst h
  exact GW_ret (X := X_X11_heldBehindAsk) (pc := 41) d_X11_heldBehindAsk_41 rfl trivial
def F_X11_heldBehindAsk (l0 : Option Nat) (l1 : Int32) (M : gM) : Option (Int32 × gM) := F_X11_heldBehindAsk_b0 l0 l1 M
theorem T_X11_heldBehindAsk (l0 : Option Nat) (l1 : Int32) (M : gM) (r : (Int32 × gM)) (h : F_X11_heldBehindAsk l0 l1 M = some r) : g_Met 3 0 0 yX11_heldBehindAsk X_X11_heldBehindAsk [vr l0, vi l1] M (some (vi r.1), r.2) :=
  g_Met_of pn_RX11 rfl (Nat.le_of_ble_eq_true rfl) (fun h => by cases h) (GW_sub [0, 1] rfl (T_X11_heldBehindAsk_b0 r l0 l1 M h))
/-! ForgetHeirs.examine(I)I -/
theorem d_X11_examine_0 : decode cX11_examine 0 = .ok (.iload_n 1, 1) := by decide +kernel
theorem d_X11_examine_1 : decode cX11_examine 1 = .ok (.ifCond .lt 18, 3) := by decide +kernel
theorem d_X11_examine_4 : decode cX11_examine 4 = .ok (.iload_n 1, 1) := by decide +kernel
theorem d_X11_examine_5 : decode cX11_examine 5 = .ok (.iconst 2, 1) := by decide +kernel
theorem d_X11_examine_6 : decode cX11_examine 6 = .ok (.if_icmp .gt 13, 3) := by decide +kernel
theorem d_X11_examine_9 : decode cX11_examine 9 = .ok (.aload_n 0, 1) := by decide +kernel
theorem d_X11_examine_10 : decode cX11_examine 10 = .ok (.getfield 59, 3) := by decide +kernel
theorem d_X11_examine_13 : decode cX11_examine 13 = .ok (.getfield 204, 3) := by decide +kernel
theorem d_X11_examine_16 : decode cX11_examine 16 = .ok (.ifCond .ne 5, 3) := by decide +kernel
theorem d_X11_examine_19 : decode cX11_examine 19 = .ok (.iconst (-1), 1) := by decide +kernel
theorem d_X11_examine_20 : decode cX11_examine 20 = .ok (.ireturn, 1) := by decide +kernel
theorem d_X11_examine_21 : decode cX11_examine 21 = .ok (.aload_n 0, 1) := by decide +kernel
theorem d_X11_examine_22 : decode cX11_examine 22 = .ok (.getfield 59, 3) := by decide +kernel
theorem d_X11_examine_25 : decode cX11_examine 25 = .ok (.getfield 121, 3) := by decide +kernel
theorem d_X11_examine_28 : decode cX11_examine 28 = .ok (.ifCond .eq 13, 3) := by decide +kernel
theorem d_X11_examine_31 : decode cX11_examine 31 = .ok (.aload_n 0, 1) := by decide +kernel
theorem d_X11_examine_32 : decode cX11_examine 32 = .ok (.getfield 59, 3) := by decide +kernel
theorem d_X11_examine_35 : decode cX11_examine 35 = .ok (.getfield 184, 3) := by decide +kernel
theorem d_X11_examine_38 : decode cX11_examine 38 = .ok (.ifCond .ne 6, 3) := by decide +kernel
theorem d_X11_examine_41 : decode cX11_examine 41 = .ok (.bipush (-2), 2) := by decide +kernel
theorem d_X11_examine_43 : decode cX11_examine 43 = .ok (.ireturn, 1) := by decide +kernel
theorem d_X11_examine_44 : decode cX11_examine 44 = .ok (.iconst 0, 1) := by decide +kernel
theorem d_X11_examine_45 : decode cX11_examine 45 = .ok (.istore_n 2, 1) := by decide +kernel
theorem d_X11_examine_46 : decode cX11_examine 46 = .ok (.aload_n 0, 1) := by decide +kernel
theorem d_X11_examine_47 : decode cX11_examine 47 = .ok (.iconst 0, 1) := by decide +kernel
theorem d_X11_examine_48 : decode cX11_examine 48 = .ok (.invokevirtual 271, 3) := by decide +kernel
theorem d_X11_examine_51 : decode cX11_examine 51 = .ok (.istore_n 3, 1) := by decide +kernel
theorem d_X11_examine_52 : decode cX11_examine 52 = .ok (.iconst 1, 1) := by decide +kernel
theorem d_X11_examine_53 : decode cX11_examine 53 = .ok (.istore 4, 2) := by decide +kernel
theorem d_X11_examine_55 : decode cX11_examine 55 = .ok (.iload 4, 2) := by decide +kernel
theorem d_X11_examine_57 : decode cX11_examine 57 = .ok (.aload_n 0, 1) := by decide +kernel
theorem d_X11_examine_58 : decode cX11_examine 58 = .ok (.getfield 59, 3) := by decide +kernel
theorem d_X11_examine_61 : decode cX11_examine 61 = .ok (.getfield 121, 3) := by decide +kernel
theorem d_X11_examine_64 : decode cX11_examine 64 = .ok (.bipush 7, 2) := by decide +kernel
theorem d_X11_examine_66 : decode cX11_examine 66 = .ok (.imul, 1) := by decide +kernel
theorem d_X11_examine_67 : decode cX11_examine 67 = .ok (.if_icmp .ge 44, 3) := by decide +kernel
theorem d_X11_examine_70 : decode cX11_examine 70 = .ok (.iload 4, 2) := by decide +kernel
theorem d_X11_examine_72 : decode cX11_examine 72 = .ok (.bipush 7, 2) := by decide +kernel
theorem d_X11_examine_74 : decode cX11_examine 74 = .ok (.irem, 1) := by decide +kernel
theorem d_X11_examine_75 : decode cX11_examine 75 = .ok (.aload_n 0, 1) := by decide +kernel
theorem d_X11_examine_76 : decode cX11_examine 76 = .ok (.getfield 59, 3) := by decide +kernel
theorem d_X11_examine_79 : decode cX11_examine 79 = .ok (.getfield 184, 3) := by decide +kernel
theorem d_X11_examine_82 : decode cX11_examine 82 = .ok (.if_icmp .ge 23, 3) := by decide +kernel
theorem d_X11_examine_85 : decode cX11_examine 85 = .ok (.aload_n 0, 1) := by decide +kernel
theorem d_X11_examine_86 : decode cX11_examine 86 = .ok (.iload 4, 2) := by decide +kernel
theorem d_X11_examine_88 : decode cX11_examine 88 = .ok (.invokevirtual 271, 3) := by decide +kernel
theorem d_X11_examine_91 : decode cX11_examine 91 = .ok (.istore 5, 2) := by decide +kernel
theorem d_X11_examine_93 : decode cX11_examine 93 = .ok (.iload 5, 2) := by decide +kernel
theorem d_X11_examine_95 : decode cX11_examine 95 = .ok (.iload_n 3, 1) := by decide +kernel
theorem d_X11_examine_96 : decode cX11_examine 96 = .ok (.if_icmp .ge 9, 3) := by decide +kernel
theorem d_X11_examine_99 : decode cX11_examine 99 = .ok (.iload 4, 2) := by decide +kernel
theorem d_X11_examine_101 : decode cX11_examine 101 = .ok (.istore_n 2, 1) := by decide +kernel
theorem d_X11_examine_102 : decode cX11_examine 102 = .ok (.iload 5, 2) := by decide +kernel
theorem d_X11_examine_104 : decode cX11_examine 104 = .ok (.istore_n 3, 1) := by decide +kernel
theorem d_X11_examine_105 : decode cX11_examine 105 = .ok (.iinc 4 1, 3) := by decide +kernel
theorem d_X11_examine_108 : decode cX11_examine 108 = .ok (.goto (-53), 3) := by decide +kernel
theorem d_X11_examine_111 : decode cX11_examine 111 = .ok (.iload_n 1, 1) := by decide +kernel
theorem d_X11_examine_112 : decode cX11_examine 112 = .ok (.iconst 2, 1) := by decide +kernel
theorem d_X11_examine_113 : decode cX11_examine 113 = .ok (.if_icmp .ne 5, 3) := by decide +kernel
theorem d_X11_examine_116 : decode cX11_examine 116 = .ok (.iload_n 3, 1) := by decide +kernel
theorem d_X11_examine_117 : decode cX11_examine 117 = .ok (.ireturn, 1) := by decide +kernel
theorem d_X11_examine_118 : decode cX11_examine 118 = .ok (.iload_n 1, 1) := by decide +kernel
theorem d_X11_examine_119 : decode cX11_examine 119 = .ok (.ifCond .ne 10, 3) := by decide +kernel
theorem d_X11_examine_122 : decode cX11_examine 122 = .ok (.iload_n 2, 1) := by decide +kernel
theorem d_X11_examine_123 : decode cX11_examine 123 = .ok (.bipush 7, 2) := by decide +kernel
theorem d_X11_examine_125 : decode cX11_examine 125 = .ok (.idiv, 1) := by decide +kernel
theorem d_X11_examine_126 : decode cX11_examine 126 = .ok (.goto 7, 3) := by decide +kernel
theorem d_X11_examine_129 : decode cX11_examine 129 = .ok (.iload_n 2, 1) := by decide +kernel
theorem d_X11_examine_130 : decode cX11_examine 130 = .ok (.bipush 7, 2) := by decide +kernel
theorem d_X11_examine_132 : decode cX11_examine 132 = .ok (.irem, 1) := by decide +kernel
theorem d_X11_examine_133 : decode cX11_examine 133 = .ok (.ireturn, 1) := by decide +kernel
abbrev X_X11_examine : gX := (RX11, cX11_examine, 6, (some .int), false)
def F_X11_examine_b19 (M : gM) : Option (Int32 × gM) :=
  some ((-1 : Int32), M)
theorem T_X11_examine_b19 (r : (Int32 × gM)) (M : gM) (h : F_X11_examine_b19 M = some r) : GW 4 0 0 X_X11_examine 19 [] [] M (some (vi r.1), r.2) := by
  delta F_X11_examine_b19 at h
  refine GW_iconst (X := X_X11_examine) (pc := 19) (v := -1) d_X11_examine_19 (by decide) ?_
  replace h := Option.some.inj h
  subst h
  exact GW_ret (X := X_X11_examine) (pc := 20) d_X11_examine_20 rfl trivial
def F_X11_examine_b41 (M : gM) : Option (Int32 × gM) :=
  some ((-2 : Int32), M)
theorem T_X11_examine_b41 (r : (Int32 × gM)) (M : gM) (h : F_X11_examine_b41 M = some r) : GW 4 0 0 X_X11_examine 41 [] [] M (some (vi r.1), r.2) := by
  delta F_X11_examine_b41 at h
  refine GW_bipush (X := X_X11_examine) (pc := 41) (v := -2) d_X11_examine_41 (by decide) ?_
  replace h := Option.some.inj h
  subst h
  exact GW_ret (X := X_X11_examine) (pc := 43) d_X11_examine_43 rfl trivial
def F_X11_examine_b105 (k55 : Option Nat → Int32 → Int32 → Int32 → Int32 → gM → Option (Int32 × gM)) (l0 : Option Nat) (l1 : Int32) (l2 : Int32) (l3 : Int32) (l4 : Int32) (M : gM) : Option (Int32 × gM) :=
  k55 l0 l1 l2 l3 (l4 + 1) M
theorem T_X11_examine_b105 (k55 : Option Nat → Int32 → Int32 → Int32 → Int32 → gM → Option (Int32 × gM)) (r : (Int32 × gM)) (hk55 : ∀ (l0 : Option Nat) (l1 : Int32) (l2 : Int32) (l3 : Int32) (l4 : Int32) (M : gM), k55 l0 l1 l2 l3 l4 M = some r → GW 4 0 0 X_X11_examine 55 [(0, vr l0), (1, vi l1), (2, vi l2), (3, vi l3), (4, vi l4)] [] M (some (vi r.1), r.2)) (l0 : Option Nat) (l1 : Int32) (l2 : Int32) (l3 : Int32) (l4 : Int32) (M : gM) (h : F_X11_examine_b105 k55 l0 l1 l2 l3 l4 M = some r) : GW 4 0 0 X_X11_examine 105 [(0, vr l0), (1, vi l1), (2, vi l2), (3, vi l3), (4, vi l4)] [] M (some (vi r.1), r.2) := by
  delta F_X11_examine_b105 at h
  refine GW_iinc (j := 4) (X := X_X11_examine) (pc := 105) d_X11_examine_105 rfl (congrArg (fun z => _ + z) (by decide : Int32.ofInt 1 = (1 : Int32))) (Nat.le_of_ble_eq_true rfl) (lv2 := [(4, vi (l4 + 1)), (0, vr l0), (1, vi l1), (2, vi l2), (3, vi l3)]) rfl ?_
  refine GW_goto (X := X_X11_examine) (pc := 108) 55 d_X11_examine_108 (by decide) ?_
  refine GW_sub [1, 2, 3, 4, 0] rfl ?_
  exact hk55 l0 l1 l2 l3 (l4 + 1) M h
def F_X11_examine_b55 (k55 : Option Nat → Int32 → Int32 → Int32 → Int32 → gM → Option (Int32 × gM)) (l0 : Option Nat) (l1 : Int32) (l2 : Int32) (l3 : Int32) (l4 : Int32) (M : gM) : Option (Int32 × gM) :=
  (gR 11 M l0 11).bind fun v1 => (gI 1 M v1 7).bind fun v2 => if (v2 * (7 : Int32)) ≤ l4 then (if l1 = (2 : Int32) then (some (l3, M)) else (if l1 = 0 then (some ((l2 / (7 : Int32)), M)) else (some ((l2 - l2 / (7 : Int32) * (7 : Int32)), M)))) else ((gR 11 M l0 11).bind fun v3 => (gI 1 M v3 6).bind fun v4 => if v4 ≤ (l4 - l4 / (7 : Int32) * (7 : Int32)) then (F_X11_examine_b105 k55 l0 l1 l2 l3 l4 M) else ((gO 11 M l0).bind fun i5 => (F_X11_heldBehindAsk (some i5) l4 M).bind fun (v6, M7) => if l3 ≤ v6 then (F_X11_examine_b105 k55 (some i5) l1 l2 l3 l4 M7) else (F_X11_examine_b105 k55 (some i5) l1 l4 v6 l4 M7)))
set_option maxHeartbeats 1000000 in
theorem T_X11_examine_b55 (k55 : Option Nat → Int32 → Int32 → Int32 → Int32 → gM → Option (Int32 × gM)) (r : (Int32 × gM)) (hk55 : ∀ (l0 : Option Nat) (l1 : Int32) (l2 : Int32) (l3 : Int32) (l4 : Int32) (M : gM), k55 l0 l1 l2 l3 l4 M = some r → GW 4 0 0 X_X11_examine 55 [(0, vr l0), (1, vi l1), (2, vi l2), (3, vi l3), (4, vi l4)] [] M (some (vi r.1), r.2)) (l0 : Option Nat) (l1 : Int32) (l2 : Int32) (l3 : Int32) (l4 : Int32) (M : gM) (h : F_X11_examine_b55 k55 l0 l1 l2 l3 l4 M = some r) : GW 4 0 0 X_X11_examine 55 [(0, vr l0), (1, vi l1), (2, vi l2), (3, vi l3), (4, vi l4)] [] M (some (vi r.1), r.2) := by
  delta F_X11_examine_b55 at h
  refine GW_iload (X := X_X11_examine) (pc := 55) d_X11_examine_55 4 rfl ?_
  refine GW_aload_n (X := X_X11_examine) (pc := 57) d_X11_examine_57 rfl 0 rfl ?_
  replace h := g_bd h
  obtain ⟨v1, hv1, h⟩ := h
  refine GW_getR (X := X_X11_examine) (pc := 58) f_X11_59 d_X11_examine_58 hv1 (Or.inl ⟨_, ty_11_11⟩) ?_
  replace h := g_bd h
  obtain ⟨v2, hv2, h⟩ := h
  refine GW_getI (X := X_X11_examine) (pc := 61) f_X11_121 d_X11_examine_61 hv2 (Or.inl ty_1_7) ?_
  refine GW_bipush (X := X_X11_examine) (pc := 64) (v := 7) d_X11_examine_64 (by decide) ?_
  refine GW_imul (X := X_X11_examine) (pc := 66) d_X11_examine_66 ?_
  refine GW_icmp_ge (X := X_X11_examine) (pc := 67) 111 d_X11_examine_67 (by decide) (fun c => ?_) (fun c => ?_)
  · replace h := g_ip c h
    refine GW_iload_n (X := X_X11_examine) (pc := 111) d_X11_examine_111 rfl 1 rfl ?_
    refine GW_iconst (X := X_X11_examine) (pc := 112) (v := 2) d_X11_examine_112 (by decide) ?_
    refine GW_icmp_ne (X := X_X11_examine) (pc := 113) 118 d_X11_examine_113 (by decide) (fun c => ?_) (fun c => ?_)
    · replace h := g_ie c h
      refine GW_iload_n (X := X_X11_examine) (pc := 118) d_X11_examine_118 rfl 1 rfl ?_
      refine GW_if_ne (X := X_X11_examine) (pc := 119) 129 d_X11_examine_119 (by decide) (fun c => ?_) (fun c => ?_)
      · replace h := g_ie c h
        refine GW_iload_n (X := X_X11_examine) (pc := 129) d_X11_examine_129 rfl 2 rfl ?_
        refine GW_bipush (X := X_X11_examine) (pc := 130) (v := 7) d_X11_examine_130 (by decide) ?_
        refine GW_irem (X := X_X11_examine) (pc := 132) d_X11_examine_132 (by decide) ?_
        replace h := Option.some.inj h
        subst h
        exact GW_ret (X := X_X11_examine) (pc := 133) d_X11_examine_133 rfl trivial
      · replace h := g_ip c h
        refine GW_iload_n (X := X_X11_examine) (pc := 122) d_X11_examine_122 rfl 2 rfl ?_
        refine GW_bipush (X := X_X11_examine) (pc := 123) (v := 7) d_X11_examine_123 (by decide) ?_
        refine GW_idiv (X := X_X11_examine) (pc := 125) d_X11_examine_125 (by decide) ?_
        refine GW_goto (X := X_X11_examine) (pc := 126) 133 d_X11_examine_126 (by decide) ?_
        replace h := Option.some.inj h
        subst h
        exact GW_ret (X := X_X11_examine) (pc := 133) d_X11_examine_133 rfl trivial
    · replace h := g_ip c h
      refine GW_iload_n (X := X_X11_examine) (pc := 116) d_X11_examine_116 rfl 3 rfl ?_
      replace h := Option.some.inj h
      subst h
      exact GW_ret (X := X_X11_examine) (pc := 117) d_X11_examine_117 rfl trivial
  · replace h := g_ie c h
    refine GW_iload (X := X_X11_examine) (pc := 70) d_X11_examine_70 4 rfl ?_
    refine GW_bipush (X := X_X11_examine) (pc := 72) (v := 7) d_X11_examine_72 (by decide) ?_
    refine GW_irem (X := X_X11_examine) (pc := 74) d_X11_examine_74 (by decide) ?_
    refine GW_aload_n (X := X_X11_examine) (pc := 75) d_X11_examine_75 rfl 0 rfl ?_
    replace h := g_bd h
    obtain ⟨v3, hv3, h⟩ := h
    refine GW_getR (X := X_X11_examine) (pc := 76) f_X11_59 d_X11_examine_76 hv3 (Or.inl ⟨_, ty_11_11⟩) ?_
    replace h := g_bd h
    obtain ⟨v4, hv4, h⟩ := h
    refine GW_getI (X := X_X11_examine) (pc := 79) f_X11_184 d_X11_examine_79 hv4 (Or.inl ty_1_6) ?_
    refine GW_icmp_ge (X := X_X11_examine) (pc := 82) 105 d_X11_examine_82 (by decide) (fun c => ?_) (fun c => ?_)
    · replace h := g_ip c h
      exact T_X11_examine_b105 k55 r hk55 l0 l1 l2 l3 l4 M h
    · replace h := g_ie c h
      refine GW_aload_n (X := X_X11_examine) (pc := 85) d_X11_examine_85 rfl 0 rfl ?_
      refine GW_iload (X := X_X11_examine) (pc := 86) d_X11_examine_86 4 rfl ?_
      replace h := g_bd h
      obtain ⟨i5, hi5, h⟩ := h
      obtain ⟨rfl, ki5⟩ := g_gO hi5
      replace h := g_bd h
      obtain ⟨⟨v6, M7⟩, hv6, h⟩ := h
      dsimp only at h
      refine GW_callV (X := X_X11_examine) (pc := 88) (bc0 := 0) (bs0 := 0) (r := some (vi v6)) (M2 := M7) (c0 := 11) (T_X11_heldBehindAsk (some i5) l4 M (v6, M7) hv6) (Nat.le_of_ble_eq_true rfl) (Nat.le_of_ble_eq_true rfl) rfl g_cok11 ki5 yc_X11_heldBehindAsk ⟨m_1012, m_1014, m_34, m_116, m_1015⟩ d_X11_examine_88 rfl (st := []) rfl (Nat.le_of_ble_eq_true rfl) (Nat.le_of_ble_eq_true rfl) (Nat.le_of_ble_eq_true rfl) (st2 := [vi v6]) rfl ?_
      refine GW_istore (X := X_X11_examine) (pc := 91) d_X11_examine_91 (Nat.le_of_ble_eq_true rfl) (lv2 := [(5, vi v6), (0, vr (some i5)), (1, vi l1), (2, vi l2), (3, vi l3), (4, vi l4)]) rfl ?_
      refine GW_iload (X := X_X11_examine) (pc := 93) d_X11_examine_93 0 rfl ?_
      refine GW_iload_n (X := X_X11_examine) (pc := 95) d_X11_examine_95 rfl 4 rfl ?_
      refine GW_icmp_ge (X := X_X11_examine) (pc := 96) 105 d_X11_examine_96 (by decide) (fun c => ?_) (fun c => ?_)
      · replace h := g_ip c h
        refine GW_sub [1, 2, 3, 4, 5] rfl ?_
        exact T_X11_examine_b105 k55 r hk55 (some i5) l1 l2 l3 l4 M7 h
      · replace h := g_ie c h
        refine GW_iload (X := X_X11_examine) (pc := 99) d_X11_examine_99 5 rfl ?_
        refine GW_istore_n (X := X_X11_examine) (pc := 101) d_X11_examine_101 rfl (Nat.le_of_ble_eq_true rfl) (lv2 := [(2, vi l4), (5, vi v6), (0, vr (some i5)), (1, vi l1), (3, vi l3), (4, vi l4)]) rfl ?_
        refine GW_iload (X := X_X11_examine) (pc := 102) d_X11_examine_102 1 rfl ?_
        refine GW_istore_n (X := X_X11_examine) (pc := 104) d_X11_examine_104 rfl (Nat.le_of_ble_eq_true rfl) (lv2 := [(3, vi v6), (2, vi l4), (5, vi v6), (0, vr (some i5)), (1, vi l1), (4, vi l4)]) rfl ?_
        refine GW_sub [3, 4, 1, 0, 5] rfl ?_
        exact T_X11_examine_b105 k55 r hk55 (some i5) l1 l4 v6 l4 M7 h
def F_X11_examine_L55 : Nat → Option Nat → Int32 → Int32 → Int32 → Int32 → gM → Option (Int32 × gM)
  | 0 => fun _ _ _ _ _ _ => none
  | n + 1 => F_X11_examine_b55 (F_X11_examine_L55 n)
theorem T_X11_examine_L55 (r : (Int32 × gM)) : ∀ (n : Nat) (l0 : Option Nat) (l1 : Int32) (l2 : Int32) (l3 : Int32) (l4 : Int32) (M : gM), F_X11_examine_L55 n l0 l1 l2 l3 l4 M = some r → GW 4 0 0 X_X11_examine 55 [(0, vr l0), (1, vi l1), (2, vi l2), (3, vi l3), (4, vi l4)] [] M (some (vi r.1), r.2) := by
  intro n
  induction n with
  | zero => intro l0 l1 l2 l3 l4 M h; exact g_no h
  | succ n ih => intro l0 l1 l2 l3 l4 M h; exact T_X11_examine_b55 (F_X11_examine_L55 n) r ih l0 l1 l2 l3 l4 M h
def F_X11_examine_b0 (l0 : Option Nat) (l1 : Int32) (M : gM) : Option (Int32 × gM) :=
  if l1 < 0 then (F_X11_examine_b19 M) else (if (2 : Int32) < l1 then (F_X11_examine_b19 M) else ((gR 11 M l0 11).bind fun v1 => (gI 1 M v1 5).bind fun v2 => if v2 = 0 then (F_X11_examine_b19 M) else ((gR 11 M l0 11).bind fun v3 => (gI 1 M v3 7).bind fun v4 => if v4 = 0 then (F_X11_examine_b41 M) else ((gR 11 M l0 11).bind fun v5 => (gI 1 M v5 6).bind fun v6 => if v6 = 0 then (F_X11_examine_b41 M) else ((gO 11 M l0).bind fun i7 => (F_X11_heldBehindAsk (some i7) (0 : Int32) M).bind fun (v8, M9) => F_X11_examine_L55 g_fuel (some i7) l1 (0 : Int32) v8 (1 : Int32) M9)))))
set_option maxHeartbeats 1000000 in
theorem T_X11_examine_b0 (r : (Int32 × gM)) (l0 : Option Nat) (l1 : Int32) (M : gM) (h : F_X11_examine_b0 l0 l1 M = some r) : GW 4 0 0 X_X11_examine 0 [(0, vr l0), (1, vi l1)] [] M (some (vi r.1), r.2) := by
  delta F_X11_examine_b0 at h
  refine GW_iload_n (X := X_X11_examine) (pc := 0) d_X11_examine_0 rfl 1 rfl ?_
  refine GW_if_lt (X := X_X11_examine) (pc := 1) 19 d_X11_examine_1 (by decide) (fun c => ?_) (fun c => ?_)
  · replace h := g_ip c h
    refine GW_sub [] rfl ?_
    exact T_X11_examine_b19 r M h
  · replace h := g_ie c h
    refine GW_iload_n (X := X_X11_examine) (pc := 4) d_X11_examine_4 rfl 1 rfl ?_
    refine GW_iconst (X := X_X11_examine) (pc := 5) (v := 2) d_X11_examine_5 (by decide) ?_
    refine GW_icmp_gt (X := X_X11_examine) (pc := 6) 19 d_X11_examine_6 (by decide) (fun c => ?_) (fun c => ?_)
    · replace h := g_ip c h
      refine GW_sub [] rfl ?_
      exact T_X11_examine_b19 r M h
    · replace h := g_ie c h
      refine GW_aload_n (X := X_X11_examine) (pc := 9) d_X11_examine_9 rfl 0 rfl ?_
      replace h := g_bd h
      obtain ⟨v1, hv1, h⟩ := h
      refine GW_getR (X := X_X11_examine) (pc := 10) f_X11_59 d_X11_examine_10 hv1 (Or.inl ⟨_, ty_11_11⟩) ?_
      replace h := g_bd h
      obtain ⟨v2, hv2, h⟩ := h
      refine GW_getI (X := X_X11_examine) (pc := 13) f_X11_204 d_X11_examine_13 hv2 (Or.inr ty_1_5) ?_
      refine GW_if_ne (X := X_X11_examine) (pc := 16) 21 d_X11_examine_16 (by decide) (fun c => ?_) (fun c => ?_)
      · replace h := g_ie c h
        refine GW_aload_n (X := X_X11_examine) (pc := 21) d_X11_examine_21 rfl 0 rfl ?_
        replace h := g_bd h
        obtain ⟨v3, hv3, h⟩ := h
        refine GW_getR (X := X_X11_examine) (pc := 22) f_X11_59 d_X11_examine_22 hv3 (Or.inl ⟨_, ty_11_11⟩) ?_
        replace h := g_bd h
        obtain ⟨v4, hv4, h⟩ := h
        refine GW_getI (X := X_X11_examine) (pc := 25) f_X11_121 d_X11_examine_25 hv4 (Or.inl ty_1_7) ?_
        refine GW_if_eq (X := X_X11_examine) (pc := 28) 41 d_X11_examine_28 (by decide) (fun c => ?_) (fun c => ?_)
        · replace h := g_ip c h
          refine GW_sub [] rfl ?_
          exact T_X11_examine_b41 r M h
        · replace h := g_ie c h
          refine GW_aload_n (X := X_X11_examine) (pc := 31) d_X11_examine_31 rfl 0 rfl ?_
          replace h := g_bd h
          obtain ⟨v5, hv5, h⟩ := h
          refine GW_getR (X := X_X11_examine) (pc := 32) f_X11_59 d_X11_examine_32 hv5 (Or.inl ⟨_, ty_11_11⟩) ?_
          replace h := g_bd h
          obtain ⟨v6, hv6, h⟩ := h
          refine GW_getI (X := X_X11_examine) (pc := 35) f_X11_184 d_X11_examine_35 hv6 (Or.inl ty_1_6) ?_
          refine GW_if_ne (X := X_X11_examine) (pc := 38) 44 d_X11_examine_38 (by decide) (fun c => ?_) (fun c => ?_)
          · replace h := g_ie c h
            refine GW_iconst (X := X_X11_examine) (pc := 44) (v := 0) d_X11_examine_44 (by decide) ?_
            refine GW_istore_n (X := X_X11_examine) (pc := 45) d_X11_examine_45 rfl (Nat.le_of_ble_eq_true rfl) (lv2 := [(2, vi (0 : Int32)), (0, vr l0), (1, vi l1)]) rfl ?_
            refine GW_aload_n (X := X_X11_examine) (pc := 46) d_X11_examine_46 rfl 1 rfl ?_
            refine GW_iconst (X := X_X11_examine) (pc := 47) (v := 0) d_X11_examine_47 (by decide) ?_
            replace h := g_bd h
            obtain ⟨i7, hi7, h⟩ := h
            obtain ⟨rfl, ki7⟩ := g_gO hi7
            replace h := g_bd h
            obtain ⟨⟨v8, M9⟩, hv8, h⟩ := h
            dsimp only at h
            refine GW_callV (X := X_X11_examine) (pc := 48) (bc0 := 0) (bs0 := 0) (r := some (vi v8)) (M2 := M9) (c0 := 11) (T_X11_heldBehindAsk (some i7) (0 : Int32) M (v8, M9) hv8) (Nat.le_of_ble_eq_true rfl) (Nat.le_of_ble_eq_true rfl) rfl g_cok11 ki7 yc_X11_heldBehindAsk ⟨m_1012, m_1014, m_34, m_116, m_1015⟩ d_X11_examine_48 rfl (st := []) rfl (Nat.le_of_ble_eq_true rfl) (Nat.le_of_ble_eq_true rfl) (Nat.le_of_ble_eq_true rfl) (st2 := [vi v8]) rfl ?_
            refine GW_istore_n (X := X_X11_examine) (pc := 51) d_X11_examine_51 rfl (Nat.le_of_ble_eq_true rfl) (lv2 := [(3, vi v8), (2, vi (0 : Int32)), (0, vr (some i7)), (1, vi l1)]) rfl ?_
            refine GW_iconst (X := X_X11_examine) (pc := 52) (v := 1) d_X11_examine_52 (by decide) ?_
            refine GW_istore (X := X_X11_examine) (pc := 53) d_X11_examine_53 (Nat.le_of_ble_eq_true rfl) (lv2 := [(4, vi (1 : Int32)), (3, vi v8), (2, vi (0 : Int32)), (0, vr (some i7)), (1, vi l1)]) rfl ?_
            refine GW_sub [3, 4, 2, 1, 0] rfl ?_
            exact T_X11_examine_L55 r g_fuel (some i7) l1 (0 : Int32) v8 (1 : Int32) M9 h
          · replace h := g_ip c h
            refine GW_sub [] rfl ?_
            exact T_X11_examine_b41 r M h
      · replace h := g_ip c h
        refine GW_sub [] rfl ?_
        exact T_X11_examine_b19 r M h
def F_X11_examine (l0 : Option Nat) (l1 : Int32) (M : gM) : Option (Int32 × gM) := F_X11_examine_b0 l0 l1 M
theorem T_X11_examine (l0 : Option Nat) (l1 : Int32) (M : gM) (r : (Int32 × gM)) (h : F_X11_examine l0 l1 M = some r) : g_Met 4 0 0 yX11_examine X_X11_examine [vr l0, vi l1] M (some (vi r.1), r.2) :=
  g_Met_of pn_RX11 rfl (Nat.le_of_ble_eq_true rfl) (fun h => by cases h) (GW_sub [0, 1] rfl (T_X11_examine_b0 r l0 l1 M h))
/-! ForgetHeirsModel.allHolds()I -/
theorem d_X12_allHolds_0 : decode cX12_allHolds 0 = .ok (.iconst 0, 1) := by decide +kernel
theorem d_X12_allHolds_1 : decode cX12_allHolds 1 = .ok (.istore_n 1, 1) := by decide +kernel
theorem d_X12_allHolds_2 : decode cX12_allHolds 2 = .ok (.iconst 0, 1) := by decide +kernel
theorem d_X12_allHolds_3 : decode cX12_allHolds 3 = .ok (.istore_n 2, 1) := by decide +kernel
theorem d_X12_allHolds_4 : decode cX12_allHolds 4 = .ok (.iload_n 2, 1) := by decide +kernel
theorem d_X12_allHolds_5 : decode cX12_allHolds 5 = .ok (.aload_n 0, 1) := by decide +kernel
theorem d_X12_allHolds_6 : decode cX12_allHolds 6 = .ok (.getfield 39, 3) := by decide +kernel
theorem d_X12_allHolds_9 : decode cX12_allHolds 9 = .ok (.iconst 2, 1) := by decide +kernel
theorem d_X12_allHolds_10 : decode cX12_allHolds 10 = .ok (.iaload, 1) := by decide +kernel
theorem d_X12_allHolds_11 : decode cX12_allHolds 11 = .ok (.if_icmp .ge 20, 3) := by decide +kernel
theorem d_X12_allHolds_14 : decode cX12_allHolds 14 = .ok (.iload_n 1, 1) := by decide +kernel
theorem d_X12_allHolds_15 : decode cX12_allHolds 15 = .ok (.aload_n 0, 1) := by decide +kernel
theorem d_X12_allHolds_16 : decode cX12_allHolds 16 = .ok (.iload_n 2, 1) := by decide +kernel
theorem d_X12_allHolds_17 : decode cX12_allHolds 17 = .ok (.invokevirtual 313, 3) := by decide +kernel
theorem d_X12_allHolds_20 : decode cX12_allHolds 20 = .ok (.invokestatic 316, 3) := by decide +kernel
theorem d_X12_allHolds_23 : decode cX12_allHolds 23 = .ok (.iadd, 1) := by decide +kernel
theorem d_X12_allHolds_24 : decode cX12_allHolds 24 = .ok (.istore_n 1, 1) := by decide +kernel
theorem d_X12_allHolds_25 : decode cX12_allHolds 25 = .ok (.iinc 2 1, 3) := by decide +kernel
theorem d_X12_allHolds_28 : decode cX12_allHolds 28 = .ok (.goto (-24), 3) := by decide +kernel
theorem d_X12_allHolds_31 : decode cX12_allHolds 31 = .ok (.iload_n 1, 1) := by decide +kernel
theorem d_X12_allHolds_32 : decode cX12_allHolds 32 = .ok (.ireturn, 1) := by decide +kernel
abbrev X_X12_allHolds : gX := (RX12, cX12_allHolds, 3, (some .int), false)
def F_X12_allHolds_b4 (k4 : Option Nat → Int32 → Int32 → Option Int32) (M : gM) (l0 : Option Nat) (l1 : Int32) (l2 : Int32) : Option Int32 :=
  (gR 12 M l0 20).bind fun v1 => (aI 20 M v1 (2 : Int32)).bind fun v2 => if v2 ≤ l2 then (some l1) else ((gO 12 M l0).bind fun i3 => (F_X12_holdsOf (some i3) l2 M).bind fun v4 => (F_X12_bits v4 M).bind fun v5 => k4 (some i3) (l1 + v5) (l2 + 1))
theorem T_X12_allHolds_b4 (k4 : Option Nat → Int32 → Int32 → Option Int32) (M : gM) (r : Int32) (hk4 : ∀ (l0 : Option Nat) (l1 : Int32) (l2 : Int32), k4 l0 l1 l2 = some r → GW 4 0 0 X_X12_allHolds 4 [(0, vr l0), (1, vi l1), (2, vi l2)] [] M (some (vi r), M)) (l0 : Option Nat) (l1 : Int32) (l2 : Int32) (h : F_X12_allHolds_b4 k4 M l0 l1 l2 = some r) : GW 4 0 0 X_X12_allHolds 4 [(0, vr l0), (1, vi l1), (2, vi l2)] [] M (some (vi r), M) := by
  delta F_X12_allHolds_b4 at h
  refine GW_iload_n (X := X_X12_allHolds) (pc := 4) d_X12_allHolds_4 rfl 2 rfl ?_
  refine GW_aload_n (X := X_X12_allHolds) (pc := 5) d_X12_allHolds_5 rfl 0 rfl ?_
  replace h := g_bd h
  obtain ⟨v1, hv1, h⟩ := h
  refine GW_getR (X := X_X12_allHolds) (pc := 6) f_X12_39 d_X12_allHolds_6 hv1 (Or.inr ⟨_, ty_12_20⟩) ?_
  refine GW_iconst (X := X_X12_allHolds) (pc := 9) (v := 2) d_X12_allHolds_9 (by decide) ?_
  replace h := g_bd h
  obtain ⟨v2, hv2, h⟩ := h
  refine GW_iald (X := X_X12_allHolds) (pc := 10) d_X12_allHolds_10 hv2 ?_
  refine GW_icmp_ge (X := X_X12_allHolds) (pc := 11) 31 d_X12_allHolds_11 (by decide) (fun c => ?_) (fun c => ?_)
  · replace h := g_ip c h
    refine GW_iload_n (X := X_X12_allHolds) (pc := 31) d_X12_allHolds_31 rfl 1 rfl ?_
    replace h := Option.some.inj h
    subst h
    exact GW_ret (X := X_X12_allHolds) (pc := 32) d_X12_allHolds_32 rfl trivial
  · replace h := g_ie c h
    refine GW_iload_n (X := X_X12_allHolds) (pc := 14) d_X12_allHolds_14 rfl 1 rfl ?_
    refine GW_aload_n (X := X_X12_allHolds) (pc := 15) d_X12_allHolds_15 rfl 0 rfl ?_
    refine GW_iload_n (X := X_X12_allHolds) (pc := 16) d_X12_allHolds_16 rfl 2 rfl ?_
    replace h := g_bd h
    obtain ⟨i3, hi3, h⟩ := h
    obtain ⟨rfl, ki3⟩ := g_gO hi3
    replace h := g_bd h
    obtain ⟨v4, hv4, h⟩ := h
    refine GW_callV (X := X_X12_allHolds) (pc := 17) (bc0 := 0) (bs0 := 0) (r := some (vi v4)) (M2 := M) (c0 := 12) (T_X12_holdsOf (some i3) l2 M v4 hv4) (Nat.le_of_ble_eq_true rfl) (Nat.le_of_ble_eq_true rfl) rfl g_cok12 ki3 yc_X12_holdsOf ⟨m_1420, m_1422, m_77, m_127, m_1423⟩ d_X12_allHolds_17 rfl (st := [vi l1]) rfl (Nat.le_of_ble_eq_true rfl) (Nat.le_of_ble_eq_true rfl) (Nat.le_of_ble_eq_true rfl) (st2 := [vi v4, vi l1]) rfl ?_
    replace h := g_bd h
    obtain ⟨v5, hv5, h⟩ := h
    refine GW_callS (X := X_X12_allHolds) (pc := 20) (bc0 := 0) (bs0 := 0) (r := some (vi v5)) (M2 := M) (T_X12_bits v4 M v5 hv5) (Nat.le_of_ble_eq_true rfl) (Nat.le_of_ble_eq_true rfl) yc_X12_bits ⟨m_1578, m_1579, m_127, m_1580⟩ d_X12_allHolds_20 rfl (st := [vi l1]) rfl (Nat.le_of_ble_eq_true rfl) (Nat.le_of_ble_eq_true rfl) (Nat.le_of_ble_eq_true rfl) (st2 := [vi v5, vi l1]) rfl ?_
    refine GW_iadd (X := X_X12_allHolds) (pc := 23) d_X12_allHolds_23 ?_
    refine GW_istore_n (X := X_X12_allHolds) (pc := 24) d_X12_allHolds_24 rfl (Nat.le_of_ble_eq_true rfl) (lv2 := [(1, vi (l1 + v5)), (0, vr (some i3)), (2, vi l2)]) rfl ?_
    refine GW_iinc (j := 2) (X := X_X12_allHolds) (pc := 25) d_X12_allHolds_25 rfl (congrArg (fun z => _ + z) (by decide : Int32.ofInt 1 = (1 : Int32))) (Nat.le_of_ble_eq_true rfl) (lv2 := [(2, vi (l2 + 1)), (1, vi (l1 + v5)), (0, vr (some i3))]) rfl ?_
    refine GW_goto (X := X_X12_allHolds) (pc := 28) 4 d_X12_allHolds_28 (by decide) ?_
    refine GW_sub [2, 1, 0] rfl ?_
    exact hk4 (some i3) (l1 + v5) (l2 + 1) h
def F_X12_allHolds_L4 (M : gM) : Nat → Option Nat → Int32 → Int32 → Option Int32
  | 0 => fun _ _ _ => none
  | n + 1 => F_X12_allHolds_b4 (F_X12_allHolds_L4 M n) M
theorem T_X12_allHolds_L4 (M : gM) (r : Int32) : ∀ (n : Nat) (l0 : Option Nat) (l1 : Int32) (l2 : Int32), F_X12_allHolds_L4 M n l0 l1 l2 = some r → GW 4 0 0 X_X12_allHolds 4 [(0, vr l0), (1, vi l1), (2, vi l2)] [] M (some (vi r), M) := by
  intro n
  induction n with
  | zero => intro l0 l1 l2 h; exact g_no h
  | succ n ih => intro l0 l1 l2 h; exact T_X12_allHolds_b4 (F_X12_allHolds_L4 M n) M r ih l0 l1 l2 h
def F_X12_allHolds_b0 (M : gM) (l0 : Option Nat) : Option Int32 :=
  F_X12_allHolds_L4 M g_fuel l0 (0 : Int32) (0 : Int32)
theorem T_X12_allHolds_b0 (M : gM) (r : Int32) (l0 : Option Nat) (h : F_X12_allHolds_b0 M l0 = some r) : GW 4 0 0 X_X12_allHolds 0 [(0, vr l0)] [] M (some (vi r), M) := by
  delta F_X12_allHolds_b0 at h
  refine GW_iconst (X := X_X12_allHolds) (pc := 0) (v := 0) d_X12_allHolds_0 (by decide) ?_
  refine GW_istore_n (X := X_X12_allHolds) (pc := 1) d_X12_allHolds_1 rfl (Nat.le_of_ble_eq_true rfl) (lv2 := [(1, vi (0 : Int32)), (0, vr l0)]) rfl ?_
  refine GW_iconst (X := X_X12_allHolds) (pc := 2) (v := 0) d_X12_allHolds_2 (by decide) ?_
  refine GW_istore_n (X := X_X12_allHolds) (pc := 3) d_X12_allHolds_3 rfl (Nat.le_of_ble_eq_true rfl) (lv2 := [(2, vi (0 : Int32)), (1, vi (0 : Int32)), (0, vr l0)]) rfl ?_
  refine GW_sub [2, 1, 0] rfl ?_
  exact T_X12_allHolds_L4 M r g_fuel l0 (0 : Int32) (0 : Int32) h
def F_X12_allHolds (l0 : Option Nat) (M : gM) : Option Int32 := F_X12_allHolds_b0 M l0
theorem T_X12_allHolds (l0 : Option Nat) (M : gM) (r : Int32) (h : F_X12_allHolds l0 M = some r) : g_Met 4 0 0 yX12_allHolds X_X12_allHolds [vr l0] M (some (vi r), M) :=
  g_Met_of pn_RX12 rfl (Nat.le_of_ble_eq_true rfl) (fun h => by cases h) (GW_sub [0] rfl (T_X12_allHolds_b0 M r l0 h))
