/-! ForgetHeirsModel.isWrong(II)Z -/
theorem d_X12_isWrong_0 : decode cX12_isWrong 0 = .ok (.aload_n 0, 1) := by decide +kernel
theorem d_X12_isWrong_1 : decode cX12_isWrong 1 = .ok (.iload_n 1, 1) := by decide +kernel
theorem d_X12_isWrong_2 : decode cX12_isWrong 2 = .ok (.iload_n 2, 1) := by decide +kernel
theorem d_X12_isWrong_3 : decode cX12_isWrong 3 = .ok (.invokevirtual 304, 3) := by decide +kernel
theorem d_X12_isWrong_6 : decode cX12_isWrong 6 = .ok (.ifCond .eq 22, 3) := by decide +kernel
theorem d_X12_isWrong_9 : decode cX12_isWrong 9 = .ok (.aload_n 0, 1) := by decide +kernel
theorem d_X12_isWrong_10 : decode cX12_isWrong 10 = .ok (.iload_n 1, 1) := by decide +kernel
theorem d_X12_isWrong_11 : decode cX12_isWrong 11 = .ok (.iload_n 2, 1) := by decide +kernel
theorem d_X12_isWrong_12 : decode cX12_isWrong 12 = .ok (.invokevirtual 297, 3) := by decide +kernel
theorem d_X12_isWrong_15 : decode cX12_isWrong 15 = .ok (.aload_n 0, 1) := by decide +kernel
theorem d_X12_isWrong_16 : decode cX12_isWrong 16 = .ok (.iload_n 2, 1) := by decide +kernel
theorem d_X12_isWrong_17 : decode cX12_isWrong 17 = .ok (.iconst 0, 1) := by decide +kernel
theorem d_X12_isWrong_18 : decode cX12_isWrong 18 = .ok (.invokevirtual 301, 3) := by decide +kernel
theorem d_X12_isWrong_21 : decode cX12_isWrong 21 = .ok (.if_icmp .eq 7, 3) := by decide +kernel
theorem d_X12_isWrong_24 : decode cX12_isWrong 24 = .ok (.iconst 1, 1) := by decide +kernel
theorem d_X12_isWrong_25 : decode cX12_isWrong 25 = .ok (.goto 4, 3) := by decide +kernel
theorem d_X12_isWrong_28 : decode cX12_isWrong 28 = .ok (.iconst 0, 1) := by decide +kernel
theorem d_X12_isWrong_29 : decode cX12_isWrong 29 = .ok (.ireturn, 1) := by decide +kernel
abbrev X_X12_isWrong : gX := (RX12, cX12_isWrong, 3, (some .boolean), false)
def F_X12_isWrong_b28 (M : gM) : Option Int32 :=
  some (0 : Int32)
theorem T_X12_isWrong_b28 (M : gM) (r : Int32) (h : F_X12_isWrong_b28 M = some r) : GW 2 0 0 X_X12_isWrong 28 [] [] M (some (vi r), M) := by
  delta F_X12_isWrong_b28 at h
  refine GW_iconst (X := X_X12_isWrong) (pc := 28) (v := 0) d_X12_isWrong_28 (by decide) ?_
  replace h := Option.some.inj h
  subst h
  exact GW_ret (X := X_X12_isWrong) (pc := 29) d_X12_isWrong_29 rfl g_rok0
def F_X12_isWrong_b0 (M : gM) (l0 : Option Nat) (l1 : Int32) (l2 : Int32) : Option Int32 :=
  (gO 12 M l0).bind fun i1 => (F_X12_knowsOf (some i1) l1 l2 M).bind fun v2 => if v2 = 0 then (F_X12_isWrong_b28 M ) else ((F_X12_valueOf (some i1) l1 l2 M).bind fun v3 => (F_X12_thingOf (some i1) l2 (0 : Int32) M).bind fun v4 => if v3 = v4 then (F_X12_isWrong_b28 M ) else (some (1 : Int32)))
theorem T_X12_isWrong_b0 (M : gM) (r : Int32) (l0 : Option Nat) (l1 : Int32) (l2 : Int32) (h : F_X12_isWrong_b0 M l0 l1 l2 = some r) : GW 2 0 0 X_X12_isWrong 0 [(0, vr l0), (1, vi l1), (2, vi l2)] [] M (some (vi r), M) := by
  delta F_X12_isWrong_b0 at h
  refine GW_aload_n (X := X_X12_isWrong) (pc := 0) d_X12_isWrong_0 rfl 0 rfl ?_
  refine GW_iload_n (X := X_X12_isWrong) (pc := 1) d_X12_isWrong_1 rfl 1 rfl ?_
  refine GW_iload_n (X := X_X12_isWrong) (pc := 2) d_X12_isWrong_2 rfl 2 rfl ?_
  replace h := g_bd h
  obtain ⟨i1, hi1, h⟩ := h
  obtain ⟨rfl, ki1⟩ := g_gO hi1
  replace h := g_bd h
  obtain ⟨v2, hv2, h⟩ := h
  refine GW_callV (X := X_X12_isWrong) (pc := 3) (bc0 := 0) (bs0 := 0) (r := some (vi v2)) (M2 := M) (c0 := 12) (T_X12_knowsOf (some i1) l1 l2 M v2 hv2) (Nat.le_of_ble_eq_true rfl) (Nat.le_of_ble_eq_true rfl) rfl g_cok12 ki1 yc_X12_knowsOf ⟨m_1432, m_1434, m_80, m_127, m_1435⟩ d_X12_isWrong_3 rfl (st := []) rfl (Nat.le_of_ble_eq_true rfl) (Nat.le_of_ble_eq_true rfl) (Nat.le_of_ble_eq_true rfl) (st2 := [vi v2]) rfl ?_
  refine GW_if_eq (X := X_X12_isWrong) (pc := 6) 28 d_X12_isWrong_6 (by decide) (fun c => ?_) (fun c => ?_)
  · replace h := g_ip c h
    refine GW_sub [] rfl ?_
    exact T_X12_isWrong_b28 M r  h
  · replace h := g_ie c h
    refine GW_aload_n (X := X_X12_isWrong) (pc := 9) d_X12_isWrong_9 rfl 0 rfl ?_
    refine GW_iload_n (X := X_X12_isWrong) (pc := 10) d_X12_isWrong_10 rfl 1 rfl ?_
    refine GW_iload_n (X := X_X12_isWrong) (pc := 11) d_X12_isWrong_11 rfl 2 rfl ?_
    replace h := g_bd h
    obtain ⟨v3, hv3, h⟩ := h
    refine GW_callV (X := X_X12_isWrong) (pc := 12) (bc0 := 0) (bs0 := 0) (r := some (vi v3)) (M2 := M) (c0 := 12) (T_X12_valueOf (some i1) l1 l2 M v3 hv3) (Nat.le_of_ble_eq_true rfl) (Nat.le_of_ble_eq_true rfl) rfl g_cok12 ki1 yc_X12_valueOf ⟨m_1436, m_1438, m_81, m_127, m_1439⟩ d_X12_isWrong_12 rfl (st := []) rfl (Nat.le_of_ble_eq_true rfl) (Nat.le_of_ble_eq_true rfl) (Nat.le_of_ble_eq_true rfl) (st2 := [vi v3]) rfl ?_
    refine GW_aload_n (X := X_X12_isWrong) (pc := 15) d_X12_isWrong_15 rfl 0 rfl ?_
    refine GW_iload_n (X := X_X12_isWrong) (pc := 16) d_X12_isWrong_16 rfl 2 rfl ?_
    refine GW_iconst (X := X_X12_isWrong) (pc := 17) (v := 0) d_X12_isWrong_17 (by decide) ?_
    replace h := g_bd h
    obtain ⟨v4, hv4, h⟩ := h
    refine GW_callV (X := X_X12_isWrong) (pc := 18) (bc0 := 0) (bs0 := 0) (r := some (vi v4)) (M2 := M) (c0 := 12) (T_X12_thingOf (some i1) l2 (0 : Int32) M v4 hv4) (Nat.le_of_ble_eq_true rfl) (Nat.le_of_ble_eq_true rfl) rfl g_cok12 ki1 yc_X12_thingOf ⟨m_1428, m_1430, m_79, m_127, m_1431⟩ d_X12_isWrong_18 rfl (st := [vi v3]) rfl (Nat.le_of_ble_eq_true rfl) (Nat.le_of_ble_eq_true rfl) (Nat.le_of_ble_eq_true rfl) (st2 := [vi v4, vi v3]) rfl ?_
    refine GW_icmp_eq (X := X_X12_isWrong) (pc := 21) 28 d_X12_isWrong_21 (by decide) (fun c => ?_) (fun c => ?_)
    · replace h := g_ip c h
      refine GW_sub [] rfl ?_
      exact T_X12_isWrong_b28 M r  h
    · replace h := g_ie c h
      refine GW_iconst (X := X_X12_isWrong) (pc := 24) (v := 1) d_X12_isWrong_24 (by decide) ?_
      refine GW_goto (X := X_X12_isWrong) (pc := 25) 29 d_X12_isWrong_25 (by decide) ?_
      replace h := Option.some.inj h
      subst h
      exact GW_ret (X := X_X12_isWrong) (pc := 29) d_X12_isWrong_29 rfl g_rok1
def F_X12_isWrong (l0 : Option Nat) (l1 : Int32) (l2 : Int32) (M : gM) : Option Int32 := F_X12_isWrong_b0 M l0 l1 l2
theorem T_X12_isWrong (l0 : Option Nat) (l1 : Int32) (l2 : Int32) (M : gM) (r : Int32) (h : F_X12_isWrong l0 l1 l2 M = some r) : g_Met 2 0 0 yX12_isWrong X_X12_isWrong [vr l0, vi l1, vi l2] M (some (vi r), M) :=
  g_Met_of pn_RX12 rfl (Nat.le_of_ble_eq_true rfl) (fun h => by cases h) (GW_sub [0, 1, 2] rfl (T_X12_isWrong_b0 M r l0 l1 l2 h))
/-! ForgetHeirsModel.canHave(III)Z -/
theorem d_X12_canHave_0 : decode cX12_canHave 0 = .ok (.iload_n 2, 1) := by decide +kernel
theorem d_X12_canHave_1 : decode cX12_canHave 1 = .ok (.bipush 7, 2) := by decide +kernel
theorem d_X12_canHave_3 : decode cX12_canHave 3 = .ok (.if_icmp .ne 5, 3) := by decide +kernel
theorem d_X12_canHave_6 : decode cX12_canHave 6 = .ok (.iconst 1, 1) := by decide +kernel
theorem d_X12_canHave_7 : decode cX12_canHave 7 = .ok (.ireturn, 1) := by decide +kernel
theorem d_X12_canHave_8 : decode cX12_canHave 8 = .ok (.iload_n 2, 1) := by decide +kernel
theorem d_X12_canHave_9 : decode cX12_canHave 9 = .ok (.aload_n 0, 1) := by decide +kernel
theorem d_X12_canHave_10 : decode cX12_canHave 10 = .ok (.getfield 39, 3) := by decide +kernel
theorem d_X12_canHave_13 : decode cX12_canHave 13 = .ok (.iconst 2, 1) := by decide +kernel
theorem d_X12_canHave_14 : decode cX12_canHave 14 = .ok (.iaload, 1) := by decide +kernel
theorem d_X12_canHave_15 : decode cX12_canHave 15 = .ok (.if_icmp .ge 38, 3) := by decide +kernel
theorem d_X12_canHave_18 : decode cX12_canHave 18 = .ok (.aload_n 0, 1) := by decide +kernel
theorem d_X12_canHave_19 : decode cX12_canHave 19 = .ok (.getfield 39, 3) := by decide +kernel
theorem d_X12_canHave_22 : decode cX12_canHave 22 = .ok (.bipush 52, 2) := by decide +kernel
theorem d_X12_canHave_24 : decode cX12_canHave 24 = .ok (.iload_n 1, 1) := by decide +kernel
theorem d_X12_canHave_25 : decode cX12_canHave 25 = .ok (.iadd, 1) := by decide +kernel
theorem d_X12_canHave_26 : decode cX12_canHave 26 = .ok (.iaload, 1) := by decide +kernel
theorem d_X12_canHave_27 : decode cX12_canHave 27 = .ok (.iload_n 2, 1) := by decide +kernel
theorem d_X12_canHave_28 : decode cX12_canHave 28 = .ok (.invokestatic 226, 3) := by decide +kernel
theorem d_X12_canHave_31 : decode cX12_canHave 31 = .ok (.ifCond .eq 22, 3) := by decide +kernel
theorem d_X12_canHave_34 : decode cX12_canHave 34 = .ok (.aload_n 0, 1) := by decide +kernel
theorem d_X12_canHave_35 : decode cX12_canHave 35 = .ok (.iload_n 2, 1) := by decide +kernel
theorem d_X12_canHave_36 : decode cX12_canHave 36 = .ok (.iload_n 3, 1) := by decide +kernel
theorem d_X12_canHave_37 : decode cX12_canHave 37 = .ok (.invokevirtual 297, 3) := by decide +kernel
theorem d_X12_canHave_40 : decode cX12_canHave 40 = .ok (.aload_n 0, 1) := by decide +kernel
theorem d_X12_canHave_41 : decode cX12_canHave 41 = .ok (.iload_n 1, 1) := by decide +kernel
theorem d_X12_canHave_42 : decode cX12_canHave 42 = .ok (.iload_n 3, 1) := by decide +kernel
theorem d_X12_canHave_43 : decode cX12_canHave 43 = .ok (.invokevirtual 297, 3) := by decide +kernel
theorem d_X12_canHave_46 : decode cX12_canHave 46 = .ok (.if_icmp .ne 7, 3) := by decide +kernel
theorem d_X12_canHave_49 : decode cX12_canHave 49 = .ok (.iconst 1, 1) := by decide +kernel
theorem d_X12_canHave_50 : decode cX12_canHave 50 = .ok (.goto 4, 3) := by decide +kernel
theorem d_X12_canHave_53 : decode cX12_canHave 53 = .ok (.iconst 0, 1) := by decide +kernel
theorem d_X12_canHave_54 : decode cX12_canHave 54 = .ok (.ireturn, 1) := by decide +kernel
abbrev X_X12_canHave : gX := (RX12, cX12_canHave, 4, (some .boolean), false)
def F_X12_canHave_b53 (M : gM) : Option Int32 :=
  some (0 : Int32)
theorem T_X12_canHave_b53 (M : gM) (r : Int32) (h : F_X12_canHave_b53 M = some r) : GW 1 0 0 X_X12_canHave 53 [] [] M (some (vi r), M) := by
  delta F_X12_canHave_b53 at h
  refine GW_iconst (X := X_X12_canHave) (pc := 53) (v := 0) d_X12_canHave_53 (by decide) ?_
  replace h := Option.some.inj h
  subst h
  exact GW_ret (X := X_X12_canHave) (pc := 54) d_X12_canHave_54 rfl g_rok0
def F_X12_canHave_b0 (M : gM) (l0 : Option Nat) (l1 : Int32) (l2 : Int32) (l3 : Int32) : Option Int32 :=
  if l2 = (7 : Int32) then (some (1 : Int32)) else ((gR 12 M l0 20).bind fun v1 => (aI 20 M v1 (2 : Int32)).bind fun v2 => if v2 ≤ l2 then (F_X12_canHave_b53 M ) else ((gR 12 M l0 20).bind fun v3 => (aI 20 M v3 ((52 : Int32) + l1)).bind fun v4 => (F_X12_isOf v4 l2 M).bind fun v5 => if v5 = 0 then (F_X12_canHave_b53 M ) else ((gO 12 M l0).bind fun i6 => (F_X12_valueOf (some i6) l2 l3 M).bind fun v7 => (F_X12_valueOf (some i6) l1 l3 M).bind fun v8 => if v7 = v8 then (some (1 : Int32)) else (F_X12_canHave_b53 M ))))
set_option maxHeartbeats 1000000 in
theorem T_X12_canHave_b0 (M : gM) (r : Int32) (l0 : Option Nat) (l1 : Int32) (l2 : Int32) (l3 : Int32) (h : F_X12_canHave_b0 M l0 l1 l2 l3 = some r) : GW 1 0 0 X_X12_canHave 0 [(0, vr l0), (1, vi l1), (2, vi l2), (3, vi l3)] [] M (some (vi r), M) := by
  delta F_X12_canHave_b0 at h
  refine GW_iload_n (X := X_X12_canHave) (pc := 0) d_X12_canHave_0 rfl 2 rfl ?_
  refine GW_bipush (X := X_X12_canHave) (pc := 1) (v := 7) d_X12_canHave_1 (by decide) ?_
  refine GW_icmp_ne (X := X_X12_canHave) (pc := 3) 8 d_X12_canHave_3 (by decide) (fun c => ?_) (fun c => ?_)
  · replace h := g_ie c h
    refine GW_iload_n (X := X_X12_canHave) (pc := 8) d_X12_canHave_8 rfl 2 rfl ?_
    refine GW_aload_n (X := X_X12_canHave) (pc := 9) d_X12_canHave_9 rfl 0 rfl ?_
    replace h := g_bd h
    obtain ⟨v1, hv1, h⟩ := h
    refine GW_getR (X := X_X12_canHave) (pc := 10) f_X12_39 d_X12_canHave_10 hv1 (Or.inr ⟨_, ty_12_20⟩) ?_
    refine GW_iconst (X := X_X12_canHave) (pc := 13) (v := 2) d_X12_canHave_13 (by decide) ?_
    replace h := g_bd h
    obtain ⟨v2, hv2, h⟩ := h
    refine GW_iald (X := X_X12_canHave) (pc := 14) d_X12_canHave_14 hv2 ?_
    refine GW_icmp_ge (X := X_X12_canHave) (pc := 15) 53 d_X12_canHave_15 (by decide) (fun c => ?_) (fun c => ?_)
    · replace h := g_ip c h
      refine GW_sub [] rfl ?_
      exact T_X12_canHave_b53 M r  h
    · replace h := g_ie c h
      refine GW_aload_n (X := X_X12_canHave) (pc := 18) d_X12_canHave_18 rfl 0 rfl ?_
      replace h := g_bd h
      obtain ⟨v3, hv3, h⟩ := h
      refine GW_getR (X := X_X12_canHave) (pc := 19) f_X12_39 d_X12_canHave_19 hv3 (Or.inr ⟨_, ty_12_20⟩) ?_
      refine GW_bipush (X := X_X12_canHave) (pc := 22) (v := 52) d_X12_canHave_22 (by decide) ?_
      refine GW_iload_n (X := X_X12_canHave) (pc := 24) d_X12_canHave_24 rfl 1 rfl ?_
      refine GW_iadd (X := X_X12_canHave) (pc := 25) d_X12_canHave_25 ?_
      replace h := g_bd h
      obtain ⟨v4, hv4, h⟩ := h
      refine GW_iald (X := X_X12_canHave) (pc := 26) d_X12_canHave_26 hv4 ?_
      refine GW_iload_n (X := X_X12_canHave) (pc := 27) d_X12_canHave_27 rfl 2 rfl ?_
      replace h := g_bd h
      obtain ⟨v5, hv5, h⟩ := h
      refine GW_callS (X := X_X12_canHave) (pc := 28) (bc0 := 0) (bs0 := 0) (r := some (vi v5)) (M2 := M) (T_X12_isOf v4 l2 M v5 hv5) (Nat.le_of_ble_eq_true rfl) (Nat.le_of_ble_eq_true rfl) yc_X12_isOf ⟨m_1314, m_1315, m_127, m_1316⟩ d_X12_canHave_28 rfl (st := []) rfl (Nat.le_of_ble_eq_true rfl) (Nat.le_of_ble_eq_true rfl) (Nat.le_of_ble_eq_true rfl) (st2 := [vi v5]) rfl ?_
      refine GW_if_eq (X := X_X12_canHave) (pc := 31) 53 d_X12_canHave_31 (by decide) (fun c => ?_) (fun c => ?_)
      · replace h := g_ip c h
        refine GW_sub [] rfl ?_
        exact T_X12_canHave_b53 M r  h
      · replace h := g_ie c h
        refine GW_aload_n (X := X_X12_canHave) (pc := 34) d_X12_canHave_34 rfl 0 rfl ?_
        refine GW_iload_n (X := X_X12_canHave) (pc := 35) d_X12_canHave_35 rfl 2 rfl ?_
        refine GW_iload_n (X := X_X12_canHave) (pc := 36) d_X12_canHave_36 rfl 3 rfl ?_
        replace h := g_bd h
        obtain ⟨i6, hi6, h⟩ := h
        obtain ⟨rfl, ki6⟩ := g_gO hi6
        replace h := g_bd h
        obtain ⟨v7, hv7, h⟩ := h
        refine GW_callV (X := X_X12_canHave) (pc := 37) (bc0 := 0) (bs0 := 0) (r := some (vi v7)) (M2 := M) (c0 := 12) (T_X12_valueOf (some i6) l2 l3 M v7 hv7) (Nat.le_of_ble_eq_true rfl) (Nat.le_of_ble_eq_true rfl) rfl g_cok12 ki6 yc_X12_valueOf ⟨m_1436, m_1438, m_81, m_127, m_1439⟩ d_X12_canHave_37 rfl (st := []) rfl (Nat.le_of_ble_eq_true rfl) (Nat.le_of_ble_eq_true rfl) (Nat.le_of_ble_eq_true rfl) (st2 := [vi v7]) rfl ?_
        refine GW_aload_n (X := X_X12_canHave) (pc := 40) d_X12_canHave_40 rfl 0 rfl ?_
        refine GW_iload_n (X := X_X12_canHave) (pc := 41) d_X12_canHave_41 rfl 1 rfl ?_
        refine GW_iload_n (X := X_X12_canHave) (pc := 42) d_X12_canHave_42 rfl 3 rfl ?_
        replace h := g_bd h
        obtain ⟨v8, hv8, h⟩ := h
        refine GW_callV (X := X_X12_canHave) (pc := 43) (bc0 := 0) (bs0 := 0) (r := some (vi v8)) (M2 := M) (c0 := 12) (T_X12_valueOf (some i6) l1 l3 M v8 hv8) (Nat.le_of_ble_eq_true rfl) (Nat.le_of_ble_eq_true rfl) rfl g_cok12 ki6 yc_X12_valueOf ⟨m_1436, m_1438, m_81, m_127, m_1439⟩ d_X12_canHave_43 rfl (st := [vi v7]) rfl (Nat.le_of_ble_eq_true rfl) (Nat.le_of_ble_eq_true rfl) (Nat.le_of_ble_eq_true rfl) (st2 := [vi v8, vi v7]) rfl ?_
        refine GW_icmp_ne (X := X_X12_canHave) (pc := 46) 53 d_X12_canHave_46 (by decide) (fun c => ?_) (fun c => ?_)
        · replace h := g_ie c h
          refine GW_sub [] rfl ?_
          exact T_X12_canHave_b53 M r  h
        · replace h := g_ip c h
          refine GW_iconst (X := X_X12_canHave) (pc := 49) (v := 1) d_X12_canHave_49 (by decide) ?_
          refine GW_goto (X := X_X12_canHave) (pc := 50) 54 d_X12_canHave_50 (by decide) ?_
          replace h := Option.some.inj h
          subst h
          exact GW_ret (X := X_X12_canHave) (pc := 54) d_X12_canHave_54 rfl g_rok1
  · replace h := g_ip c h
    refine GW_iconst (X := X_X12_canHave) (pc := 6) (v := 1) d_X12_canHave_6 (by decide) ?_
    replace h := Option.some.inj h
    subst h
    exact GW_ret (X := X_X12_canHave) (pc := 7) d_X12_canHave_7 rfl g_rok1
def F_X12_canHave (l0 : Option Nat) (l1 : Int32) (l2 : Int32) (l3 : Int32) (M : gM) : Option Int32 := F_X12_canHave_b0 M l0 l1 l2 l3
theorem T_X12_canHave (l0 : Option Nat) (l1 : Int32) (l2 : Int32) (l3 : Int32) (M : gM) (r : Int32) (h : F_X12_canHave l0 l1 l2 l3 M = some r) : g_Met 1 0 0 yX12_canHave X_X12_canHave [vr l0, vi l1, vi l2, vi l3] M (some (vi r), M) :=
  g_Met_of pn_RX12 rfl (Nat.le_of_ble_eq_true rfl) (fun h => by cases h) (GW_sub [0, 1, 2, 3] rfl (T_X12_canHave_b0 M r l0 l1 l2 l3 h))
/-! ForgetHeirsModel.isRound(II)Z -/
theorem d_X12_isRound_0 : decode cX12_isRound 0 = .ok (.aload_n 0, 1) := by decide +kernel
theorem d_X12_isRound_1 : decode cX12_isRound 1 = .ok (.getfield 55, 3) := by decide +kernel
theorem d_X12_isRound_4 : decode cX12_isRound 4 = .ok (.iload_n 1, 1) := by decide +kernel
theorem d_X12_isRound_5 : decode cX12_isRound 5 = .ok (.iaload, 1) := by decide +kernel
theorem d_X12_isRound_6 : decode cX12_isRound 6 = .ok (.istore_n 3, 1) := by decide +kernel
theorem d_X12_isRound_7 : decode cX12_isRound 7 = .ok (.iconst 0, 1) := by decide +kernel
theorem d_X12_isRound_8 : decode cX12_isRound 8 = .ok (.istore 4, 2) := by decide +kernel
theorem d_X12_isRound_10 : decode cX12_isRound 10 = .ok (.iload 4, 2) := by decide +kernel
theorem d_X12_isRound_12 : decode cX12_isRound 12 = .ok (.bipush 7, 2) := by decide +kernel
theorem d_X12_isRound_14 : decode cX12_isRound 14 = .ok (.if_icmp .ge 28, 3) := by decide +kernel
theorem d_X12_isRound_17 : decode cX12_isRound 17 = .ok (.iload_n 3, 1) := by decide +kernel
theorem d_X12_isRound_18 : decode cX12_isRound 18 = .ok (.iload_n 2, 1) := by decide +kernel
theorem d_X12_isRound_19 : decode cX12_isRound 19 = .ok (.if_icmp .gt 23, 3) := by decide +kernel
theorem d_X12_isRound_22 : decode cX12_isRound 22 = .ok (.iload_n 3, 1) := by decide +kernel
theorem d_X12_isRound_23 : decode cX12_isRound 23 = .ok (.iload_n 1, 1) := by decide +kernel
theorem d_X12_isRound_24 : decode cX12_isRound 24 = .ok (.if_icmp .ne 5, 3) := by decide +kernel
theorem d_X12_isRound_27 : decode cX12_isRound 27 = .ok (.iconst 1, 1) := by decide +kernel
theorem d_X12_isRound_28 : decode cX12_isRound 28 = .ok (.ireturn, 1) := by decide +kernel
theorem d_X12_isRound_29 : decode cX12_isRound 29 = .ok (.aload_n 0, 1) := by decide +kernel
theorem d_X12_isRound_30 : decode cX12_isRound 30 = .ok (.getfield 55, 3) := by decide +kernel
theorem d_X12_isRound_33 : decode cX12_isRound 33 = .ok (.iload_n 3, 1) := by decide +kernel
theorem d_X12_isRound_34 : decode cX12_isRound 34 = .ok (.iaload, 1) := by decide +kernel
theorem d_X12_isRound_35 : decode cX12_isRound 35 = .ok (.istore_n 3, 1) := by decide +kernel
theorem d_X12_isRound_36 : decode cX12_isRound 36 = .ok (.iinc 4 1, 3) := by decide +kernel
theorem d_X12_isRound_39 : decode cX12_isRound 39 = .ok (.goto (-29), 3) := by decide +kernel
theorem d_X12_isRound_42 : decode cX12_isRound 42 = .ok (.iconst 0, 1) := by decide +kernel
theorem d_X12_isRound_43 : decode cX12_isRound 43 = .ok (.ireturn, 1) := by decide +kernel
abbrev X_X12_isRound : gX := (RX12, cX12_isRound, 5, (some .boolean), false)
def F_X12_isRound_b42 (M : gM) : Option Int32 :=
  some (0 : Int32)
theorem T_X12_isRound_b42 (M : gM) (r : Int32) (h : F_X12_isRound_b42 M = some r) : GW 0 0 0 X_X12_isRound 42 [] [] M (some (vi r), M) := by
  delta F_X12_isRound_b42 at h
  refine GW_iconst (X := X_X12_isRound) (pc := 42) (v := 0) d_X12_isRound_42 (by decide) ?_
  replace h := Option.some.inj h
  subst h
  exact GW_ret (X := X_X12_isRound) (pc := 43) d_X12_isRound_43 rfl g_rok0
def F_X12_isRound_b10 (k10 : Option Nat → Int32 → Int32 → Int32 → Int32 → Option Int32) (M : gM) (l0 : Option Nat) (l1 : Int32) (l2 : Int32) (l3 : Int32) (l4 : Int32) : Option Int32 :=
  if (7 : Int32) ≤ l4 then (F_X12_isRound_b42 M ) else (if l2 < l3 then (F_X12_isRound_b42 M ) else (if l3 = l1 then (some (1 : Int32)) else ((gR 12 M l0 27).bind fun v1 => (aI 20 M v1 l3).bind fun v2 => k10 l0 l1 l2 v2 (l4 + 1))))
theorem T_X12_isRound_b10 (k10 : Option Nat → Int32 → Int32 → Int32 → Int32 → Option Int32) (M : gM) (r : Int32) (hk10 : ∀ (l0 : Option Nat) (l1 : Int32) (l2 : Int32) (l3 : Int32) (l4 : Int32), k10 l0 l1 l2 l3 l4 = some r → GW 0 0 0 X_X12_isRound 10 [(0, vr l0), (1, vi l1), (2, vi l2), (3, vi l3), (4, vi l4)] [] M (some (vi r), M)) (l0 : Option Nat) (l1 : Int32) (l2 : Int32) (l3 : Int32) (l4 : Int32) (h : F_X12_isRound_b10 k10 M l0 l1 l2 l3 l4 = some r) : GW 0 0 0 X_X12_isRound 10 [(0, vr l0), (1, vi l1), (2, vi l2), (3, vi l3), (4, vi l4)] [] M (some (vi r), M) := by
  delta F_X12_isRound_b10 at h
  refine GW_iload (X := X_X12_isRound) (pc := 10) d_X12_isRound_10 4 rfl ?_
  refine GW_bipush (X := X_X12_isRound) (pc := 12) (v := 7) d_X12_isRound_12 (by decide) ?_
  refine GW_icmp_ge (X := X_X12_isRound) (pc := 14) 42 d_X12_isRound_14 (by decide) (fun c => ?_) (fun c => ?_)
  · replace h := g_ip c h
    refine GW_sub [] rfl ?_
    exact T_X12_isRound_b42 M r  h
  · replace h := g_ie c h
    refine GW_iload_n (X := X_X12_isRound) (pc := 17) d_X12_isRound_17 rfl 3 rfl ?_
    refine GW_iload_n (X := X_X12_isRound) (pc := 18) d_X12_isRound_18 rfl 2 rfl ?_
    refine GW_icmp_gt (X := X_X12_isRound) (pc := 19) 42 d_X12_isRound_19 (by decide) (fun c => ?_) (fun c => ?_)
    · replace h := g_ip c h
      refine GW_sub [] rfl ?_
      exact T_X12_isRound_b42 M r  h
    · replace h := g_ie c h
      refine GW_iload_n (X := X_X12_isRound) (pc := 22) d_X12_isRound_22 rfl 3 rfl ?_
      refine GW_iload_n (X := X_X12_isRound) (pc := 23) d_X12_isRound_23 rfl 1 rfl ?_
      refine GW_icmp_ne (X := X_X12_isRound) (pc := 24) 29 d_X12_isRound_24 (by decide) (fun c => ?_) (fun c => ?_)
      · replace h := g_ie c h
        refine GW_aload_n (X := X_X12_isRound) (pc := 29) d_X12_isRound_29 rfl 0 rfl ?_
        replace h := g_bd h
        obtain ⟨v1, hv1, h⟩ := h
        refine GW_getR (X := X_X12_isRound) (pc := 30) f_X12_55 d_X12_isRound_30 hv1 (Or.inr ⟨_, ty_12_27⟩) ?_
        refine GW_iload_n (X := X_X12_isRound) (pc := 33) d_X12_isRound_33 rfl 3 rfl ?_
        replace h := g_bd h
        obtain ⟨v2, hv2, h⟩ := h
        refine GW_iald (X := X_X12_isRound) (pc := 34) d_X12_isRound_34 hv2 ?_
        refine GW_istore_n (X := X_X12_isRound) (pc := 35) d_X12_isRound_35 rfl (Nat.le_of_ble_eq_true rfl) (lv2 := [(3, vi v2), (0, vr l0), (1, vi l1), (2, vi l2), (4, vi l4)]) rfl ?_
        refine GW_iinc (j := 4) (X := X_X12_isRound) (pc := 36) d_X12_isRound_36 rfl (congrArg (fun z => _ + z) (by decide : Int32.ofInt 1 = (1 : Int32))) (Nat.le_of_ble_eq_true rfl) (lv2 := [(4, vi (l4 + 1)), (3, vi v2), (0, vr l0), (1, vi l1), (2, vi l2)]) rfl ?_
        refine GW_goto (X := X_X12_isRound) (pc := 39) 10 d_X12_isRound_39 (by decide) ?_
        refine GW_sub [2, 3, 4, 1, 0] rfl ?_
        exact hk10 l0 l1 l2 v2 (l4 + 1) h
      · replace h := g_ip c h
        refine GW_iconst (X := X_X12_isRound) (pc := 27) (v := 1) d_X12_isRound_27 (by decide) ?_
        replace h := Option.some.inj h
        subst h
        exact GW_ret (X := X_X12_isRound) (pc := 28) d_X12_isRound_28 rfl g_rok1
def F_X12_isRound_L10 (M : gM) : Nat → Option Nat → Int32 → Int32 → Int32 → Int32 → Option Int32
  | 0 => fun _ _ _ _ _ => none
  | n + 1 => F_X12_isRound_b10 (F_X12_isRound_L10 M n) M
theorem T_X12_isRound_L10 (M : gM) (r : Int32) : ∀ (n : Nat) (l0 : Option Nat) (l1 : Int32) (l2 : Int32) (l3 : Int32) (l4 : Int32), F_X12_isRound_L10 M n l0 l1 l2 l3 l4 = some r → GW 0 0 0 X_X12_isRound 10 [(0, vr l0), (1, vi l1), (2, vi l2), (3, vi l3), (4, vi l4)] [] M (some (vi r), M) := by
  intro n
  induction n with
  | zero => intro l0 l1 l2 l3 l4 h; exact g_no h
  | succ n ih => intro l0 l1 l2 l3 l4 h; exact T_X12_isRound_b10 (F_X12_isRound_L10 M n) M r ih l0 l1 l2 l3 l4 h
def F_X12_isRound_b0 (M : gM) (l0 : Option Nat) (l1 : Int32) (l2 : Int32) : Option Int32 :=
  (gR 12 M l0 27).bind fun v1 => (aI 20 M v1 l1).bind fun v2 => F_X12_isRound_L10 M g_fuel l0 l1 l2 v2 (0 : Int32)
theorem T_X12_isRound_b0 (M : gM) (r : Int32) (l0 : Option Nat) (l1 : Int32) (l2 : Int32) (h : F_X12_isRound_b0 M l0 l1 l2 = some r) : GW 0 0 0 X_X12_isRound 0 [(0, vr l0), (1, vi l1), (2, vi l2)] [] M (some (vi r), M) := by
  delta F_X12_isRound_b0 at h
  refine GW_aload_n (X := X_X12_isRound) (pc := 0) d_X12_isRound_0 rfl 0 rfl ?_
  replace h := g_bd h
  obtain ⟨v1, hv1, h⟩ := h
  refine GW_getR (X := X_X12_isRound) (pc := 1) f_X12_55 d_X12_isRound_1 hv1 (Or.inr ⟨_, ty_12_27⟩) ?_
  refine GW_iload_n (X := X_X12_isRound) (pc := 4) d_X12_isRound_4 rfl 1 rfl ?_
  replace h := g_bd h
  obtain ⟨v2, hv2, h⟩ := h
  refine GW_iald (X := X_X12_isRound) (pc := 5) d_X12_isRound_5 hv2 ?_
  refine GW_istore_n (X := X_X12_isRound) (pc := 6) d_X12_isRound_6 rfl (Nat.le_of_ble_eq_true rfl) (lv2 := [(3, vi v2), (0, vr l0), (1, vi l1), (2, vi l2)]) rfl ?_
  refine GW_iconst (X := X_X12_isRound) (pc := 7) (v := 0) d_X12_isRound_7 (by decide) ?_
  refine GW_istore (X := X_X12_isRound) (pc := 8) d_X12_isRound_8 (Nat.le_of_ble_eq_true rfl) (lv2 := [(4, vi (0 : Int32)), (3, vi v2), (0, vr l0), (1, vi l1), (2, vi l2)]) rfl ?_
  refine GW_sub [2, 3, 4, 1, 0] rfl ?_
  exact T_X12_isRound_L10 M r g_fuel l0 l1 l2 v2 (0 : Int32) h
def F_X12_isRound (l0 : Option Nat) (l1 : Int32) (l2 : Int32) (M : gM) : Option Int32 := F_X12_isRound_b0 M l0 l1 l2
theorem T_X12_isRound (l0 : Option Nat) (l1 : Int32) (l2 : Int32) (M : gM) (r : Int32) (h : F_X12_isRound l0 l1 l2 M = some r) : g_Met 0 0 0 yX12_isRound X_X12_isRound [vr l0, vi l1, vi l2] M (some (vi r), M) :=
  g_Met_of pn_RX12 rfl (Nat.le_of_ble_eq_true rfl) (fun h => by cases h) (GW_sub [0, 1, 2] rfl (T_X12_isRound_b0 M r l0 l1 l2 h))
/-! ForgetHeirsModel.gathersWays(I)V -/
theorem d_X12_gathersWays_0 : decode cX12_gathersWays 0 = .ok (.iconst 0, 1) := by decide +kernel
theorem d_X12_gathersWays_1 : decode cX12_gathersWays 1 = .ok (.istore_n 2, 1) := by decide +kernel
theorem d_X12_gathersWays_2 : decode cX12_gathersWays 2 = .ok (.iload_n 2, 1) := by decide +kernel
theorem d_X12_gathersWays_3 : decode cX12_gathersWays 3 = .ok (.bipush 56, 2) := by decide +kernel
theorem d_X12_gathersWays_5 : decode cX12_gathersWays 5 = .ok (.if_icmp .ge 16, 3) := by decide +kernel
theorem d_X12_gathersWays_8 : decode cX12_gathersWays 8 = .ok (.aload_n 0, 1) := by decide +kernel
theorem d_X12_gathersWays_9 : decode cX12_gathersWays 9 = .ok (.getfield 58, 3) := by decide +kernel
theorem d_X12_gathersWays_12 : decode cX12_gathersWays 12 = .ok (.iload_n 2, 1) := by decide +kernel
theorem d_X12_gathersWays_13 : decode cX12_gathersWays 13 = .ok (.iconst 0, 1) := by decide +kernel
theorem d_X12_gathersWays_14 : decode cX12_gathersWays 14 = .ok (.iastore, 1) := by decide +kernel
theorem d_X12_gathersWays_15 : decode cX12_gathersWays 15 = .ok (.iinc 2 1, 3) := by decide +kernel
theorem d_X12_gathersWays_18 : decode cX12_gathersWays 18 = .ok (.goto (-16), 3) := by decide +kernel
theorem d_X12_gathersWays_21 : decode cX12_gathersWays 21 = .ok (.aload_n 0, 1) := by decide +kernel
theorem d_X12_gathersWays_22 : decode cX12_gathersWays 22 = .ok (.iconst 0, 1) := by decide +kernel
theorem d_X12_gathersWays_23 : decode cX12_gathersWays 23 = .ok (.putfield 404, 3) := by decide +kernel
theorem d_X12_gathersWays_26 : decode cX12_gathersWays 26 = .ok (.iconst 0, 1) := by decide +kernel
theorem d_X12_gathersWays_27 : decode cX12_gathersWays 27 = .ok (.istore_n 2, 1) := by decide +kernel
theorem d_X12_gathersWays_28 : decode cX12_gathersWays 28 = .ok (.aload_n 0, 1) := by decide +kernel
theorem d_X12_gathersWays_29 : decode cX12_gathersWays 29 = .ok (.getfield 55, 3) := by decide +kernel
theorem d_X12_gathersWays_32 : decode cX12_gathersWays 32 = .ok (.iconst 0, 1) := by decide +kernel
theorem d_X12_gathersWays_33 : decode cX12_gathersWays 33 = .ok (.iconst (-1), 1) := by decide +kernel
theorem d_X12_gathersWays_34 : decode cX12_gathersWays 34 = .ok (.iastore, 1) := by decide +kernel
theorem d_X12_gathersWays_35 : decode cX12_gathersWays 35 = .ok (.iload_n 2, 1) := by decide +kernel
theorem d_X12_gathersWays_36 : decode cX12_gathersWays 36 = .ok (.ifCond .lt 172, 3) := by decide +kernel
theorem d_X12_gathersWays_39 : decode cX12_gathersWays 39 = .ok (.iload_n 2, 1) := by decide +kernel
theorem d_X12_gathersWays_40 : decode cX12_gathersWays 40 = .ok (.aload_n 0, 1) := by decide +kernel
theorem d_X12_gathersWays_41 : decode cX12_gathersWays 41 = .ok (.getfield 39, 3) := by decide +kernel
theorem d_X12_gathersWays_44 : decode cX12_gathersWays 44 = .ok (.iconst 2, 1) := by decide +kernel
theorem d_X12_gathersWays_45 : decode cX12_gathersWays 45 = .ok (.iaload, 1) := by decide +kernel
theorem d_X12_gathersWays_46 : decode cX12_gathersWays 46 = .ok (.if_icmp .ne 13, 3) := by decide +kernel
theorem d_X12_gathersWays_49 : decode cX12_gathersWays 49 = .ok (.aload_n 0, 1) := by decide +kernel
theorem d_X12_gathersWays_50 : decode cX12_gathersWays 50 = .ok (.invokevirtual 407, 3) := by decide +kernel
theorem d_X12_gathersWays_53 : decode cX12_gathersWays 53 = .ok (.iinc 2 (-1), 3) := by decide +kernel
theorem d_X12_gathersWays_56 : decode cX12_gathersWays 56 = .ok (.goto (-21), 3) := by decide +kernel
theorem d_X12_gathersWays_59 : decode cX12_gathersWays 59 = .ok (.aload_n 0, 1) := by decide +kernel
theorem d_X12_gathersWays_60 : decode cX12_gathersWays 60 = .ok (.getfield 55, 3) := by decide +kernel
theorem d_X12_gathersWays_63 : decode cX12_gathersWays 63 = .ok (.iload_n 2, 1) := by decide +kernel
theorem d_X12_gathersWays_64 : decode cX12_gathersWays 64 = .ok (.iaload, 1) := by decide +kernel
theorem d_X12_gathersWays_65 : decode cX12_gathersWays 65 = .ok (.iconst 1, 1) := by decide +kernel
theorem d_X12_gathersWays_66 : decode cX12_gathersWays 66 = .ok (.iadd, 1) := by decide +kernel
theorem d_X12_gathersWays_67 : decode cX12_gathersWays 67 = .ok (.istore_n 3, 1) := by decide +kernel
theorem d_X12_gathersWays_68 : decode cX12_gathersWays 68 = .ok (.aload_n 0, 1) := by decide +kernel
theorem d_X12_gathersWays_69 : decode cX12_gathersWays 69 = .ok (.iload_n 2, 1) := by decide +kernel
theorem d_X12_gathersWays_70 : decode cX12_gathersWays 70 = .ok (.iload_n 1, 1) := by decide +kernel
theorem d_X12_gathersWays_71 : decode cX12_gathersWays 71 = .ok (.invokevirtual 410, 3) := by decide +kernel
theorem d_X12_gathersWays_74 : decode cX12_gathersWays 74 = .ok (.ifCond .ne 23, 3) := by decide +kernel
theorem d_X12_gathersWays_77 : decode cX12_gathersWays 77 = .ok (.aload_n 0, 1) := by decide +kernel
theorem d_X12_gathersWays_78 : decode cX12_gathersWays 78 = .ok (.getfield 55, 3) := by decide +kernel
theorem d_X12_gathersWays_81 : decode cX12_gathersWays 81 = .ok (.iload_n 2, 1) := by decide +kernel
theorem d_X12_gathersWays_82 : decode cX12_gathersWays 82 = .ok (.iaload, 1) := by decide +kernel
theorem d_X12_gathersWays_83 : decode cX12_gathersWays 83 = .ok (.ifCond .ge 8, 3) := by decide +kernel
theorem d_X12_gathersWays_86 : decode cX12_gathersWays 86 = .ok (.bipush 8, 2) := by decide +kernel
theorem d_X12_gathersWays_88 : decode cX12_gathersWays 88 = .ok (.goto 5, 3) := by decide +kernel
theorem d_X12_gathersWays_91 : decode cX12_gathersWays 91 = .ok (.bipush 9, 2) := by decide +kernel
theorem d_X12_gathersWays_93 : decode cX12_gathersWays 93 = .ok (.istore_n 3, 1) := by decide +kernel
theorem d_X12_gathersWays_94 : decode cX12_gathersWays 94 = .ok (.goto 25, 3) := by decide +kernel
theorem d_X12_gathersWays_97 : decode cX12_gathersWays 97 = .ok (.iload_n 3, 1) := by decide +kernel
theorem d_X12_gathersWays_98 : decode cX12_gathersWays 98 = .ok (.bipush 7, 2) := by decide +kernel
theorem d_X12_gathersWays_100 : decode cX12_gathersWays 100 = .ok (.if_icmp .ge 19, 3) := by decide +kernel
theorem d_X12_gathersWays_103 : decode cX12_gathersWays 103 = .ok (.aload_n 0, 1) := by decide +kernel
theorem d_X12_gathersWays_104 : decode cX12_gathersWays 104 = .ok (.iload_n 2, 1) := by decide +kernel
theorem d_X12_gathersWays_105 : decode cX12_gathersWays 105 = .ok (.iload_n 3, 1) := by decide +kernel
theorem d_X12_gathersWays_106 : decode cX12_gathersWays 106 = .ok (.iload_n 1, 1) := by decide +kernel
theorem d_X12_gathersWays_107 : decode cX12_gathersWays 107 = .ok (.invokevirtual 413, 3) := by decide +kernel
theorem d_X12_gathersWays_110 : decode cX12_gathersWays 110 = .ok (.ifCond .ne 9, 3) := by decide +kernel
theorem d_X12_gathersWays_113 : decode cX12_gathersWays 113 = .ok (.iinc 3 1, 3) := by decide +kernel
theorem d_X12_gathersWays_116 : decode cX12_gathersWays 116 = .ok (.goto (-19), 3) := by decide +kernel
theorem d_X12_gathersWays_119 : decode cX12_gathersWays 119 = .ok (.aload_n 0, 1) := by decide +kernel
theorem d_X12_gathersWays_120 : decode cX12_gathersWays 120 = .ok (.iload_n 2, 1) := by decide +kernel
theorem d_X12_gathersWays_121 : decode cX12_gathersWays 121 = .ok (.iload_n 1, 1) := by decide +kernel
theorem d_X12_gathersWays_122 : decode cX12_gathersWays 122 = .ok (.invokevirtual 410, 3) := by decide +kernel
theorem d_X12_gathersWays_125 : decode cX12_gathersWays 125 = .ok (.ifCond .eq 17, 3) := by decide +kernel
theorem d_X12_gathersWays_128 : decode cX12_gathersWays 128 = .ok (.iload_n 3, 1) := by decide +kernel
theorem d_X12_gathersWays_129 : decode cX12_gathersWays 129 = .ok (.bipush 7, 2) := by decide +kernel
theorem d_X12_gathersWays_131 : decode cX12_gathersWays 131 = .ok (.if_icmp .le 7, 3) := by decide +kernel
theorem d_X12_gathersWays_134 : decode cX12_gathersWays 134 = .ok (.iconst 1, 1) := by decide +kernel
theorem d_X12_gathersWays_135 : decode cX12_gathersWays 135 = .ok (.goto 18, 3) := by decide +kernel
theorem d_X12_gathersWays_138 : decode cX12_gathersWays 138 = .ok (.iconst 0, 1) := by decide +kernel
theorem d_X12_gathersWays_139 : decode cX12_gathersWays 139 = .ok (.goto 14, 3) := by decide +kernel
theorem d_X12_gathersWays_142 : decode cX12_gathersWays 142 = .ok (.iload_n 3, 1) := by decide +kernel
theorem d_X12_gathersWays_143 : decode cX12_gathersWays 143 = .ok (.bipush 8, 2) := by decide +kernel
theorem d_X12_gathersWays_145 : decode cX12_gathersWays 145 = .ok (.if_icmp .le 7, 3) := by decide +kernel
theorem d_X12_gathersWays_148 : decode cX12_gathersWays 148 = .ok (.iconst 1, 1) := by decide +kernel
theorem d_X12_gathersWays_149 : decode cX12_gathersWays 149 = .ok (.goto 4, 3) := by decide +kernel
theorem d_X12_gathersWays_152 : decode cX12_gathersWays 152 = .ok (.iconst 0, 1) := by decide +kernel
theorem d_X12_gathersWays_153 : decode cX12_gathersWays 153 = .ok (.istore 4, 2) := by decide +kernel
theorem d_X12_gathersWays_155 : decode cX12_gathersWays 155 = .ok (.iload 4, 2) := by decide +kernel
theorem d_X12_gathersWays_157 : decode cX12_gathersWays 157 = .ok (.ifCond .eq 9, 3) := by decide +kernel
theorem d_X12_gathersWays_160 : decode cX12_gathersWays 160 = .ok (.iinc 2 (-1), 3) := by decide +kernel
theorem d_X12_gathersWays_163 : decode cX12_gathersWays 163 = .ok (.goto (-128), 3) := by decide +kernel
theorem d_X12_gathersWays_166 : decode cX12_gathersWays 166 = .ok (.aload_n 0, 1) := by decide +kernel
theorem d_X12_gathersWays_167 : decode cX12_gathersWays 167 = .ok (.getfield 55, 3) := by decide +kernel
theorem d_X12_gathersWays_170 : decode cX12_gathersWays 170 = .ok (.iload_n 2, 1) := by decide +kernel
theorem d_X12_gathersWays_171 : decode cX12_gathersWays 171 = .ok (.iload_n 3, 1) := by decide +kernel
theorem d_X12_gathersWays_172 : decode cX12_gathersWays 172 = .ok (.iastore, 1) := by decide +kernel
theorem d_X12_gathersWays_173 : decode cX12_gathersWays 173 = .ok (.aload_n 0, 1) := by decide +kernel
theorem d_X12_gathersWays_174 : decode cX12_gathersWays 174 = .ok (.iload_n 2, 1) := by decide +kernel
theorem d_X12_gathersWays_175 : decode cX12_gathersWays 175 = .ok (.iload_n 2, 1) := by decide +kernel
theorem d_X12_gathersWays_176 : decode cX12_gathersWays 176 = .ok (.invokevirtual 416, 3) := by decide +kernel
theorem d_X12_gathersWays_179 : decode cX12_gathersWays 179 = .ok (.ifCond .eq 6, 3) := by decide +kernel
theorem d_X12_gathersWays_182 : decode cX12_gathersWays 182 = .ok (.goto (-147), 3) := by decide +kernel
theorem d_X12_gathersWays_185 : decode cX12_gathersWays 185 = .ok (.iinc 2 1, 3) := by decide +kernel
theorem d_X12_gathersWays_188 : decode cX12_gathersWays 188 = .ok (.iload_n 2, 1) := by decide +kernel
theorem d_X12_gathersWays_189 : decode cX12_gathersWays 189 = .ok (.aload_n 0, 1) := by decide +kernel
theorem d_X12_gathersWays_190 : decode cX12_gathersWays 190 = .ok (.getfield 39, 3) := by decide +kernel
theorem d_X12_gathersWays_193 : decode cX12_gathersWays 193 = .ok (.iconst 2, 1) := by decide +kernel
theorem d_X12_gathersWays_194 : decode cX12_gathersWays 194 = .ok (.iaload, 1) := by decide +kernel
theorem d_X12_gathersWays_195 : decode cX12_gathersWays 195 = .ok (.if_icmp .ge 10, 3) := by decide +kernel
theorem d_X12_gathersWays_198 : decode cX12_gathersWays 198 = .ok (.aload_n 0, 1) := by decide +kernel
theorem d_X12_gathersWays_199 : decode cX12_gathersWays 199 = .ok (.getfield 55, 3) := by decide +kernel
theorem d_X12_gathersWays_202 : decode cX12_gathersWays 202 = .ok (.iload_n 2, 1) := by decide +kernel
theorem d_X12_gathersWays_203 : decode cX12_gathersWays 203 = .ok (.iconst (-1), 1) := by decide +kernel
theorem d_X12_gathersWays_204 : decode cX12_gathersWays 204 = .ok (.iastore, 1) := by decide +kernel
theorem d_X12_gathersWays_205 : decode cX12_gathersWays 205 = .ok (.goto (-170), 3) := by decide +kernel
theorem d_X12_gathersWays_208 : decode cX12_gathersWays 208 = .ok (.return_, 1) := by decide +kernel
abbrev X_X12_gathersWays : gX := (RX12, cX12_gathersWays, 5, none, false)
def F_X12_gathersWays_b205 (k35 : Option Nat → Int32 → Int32 → gM → Option gM) (l0 : Option Nat) (l1 : Int32) (l2 : Int32) (M : gM) : Option gM :=
  k35 l0 l1 l2 M
theorem T_X12_gathersWays_b205 (k35 : Option Nat → Int32 → Int32 → gM → Option gM) (r : gM) (hk35 : ∀ (l0 : Option Nat) (l1 : Int32) (l2 : Int32) (M : gM), k35 l0 l1 l2 M = some r → GW 3 0 0 X_X12_gathersWays 35 [(0, vr l0), (1, vi l1), (2, vi l2)] [] M (none, r)) (l0 : Option Nat) (l1 : Int32) (l2 : Int32) (M : gM) (h : F_X12_gathersWays_b205 k35 l0 l1 l2 M = some r) : GW 3 0 0 X_X12_gathersWays 205 [(0, vr l0), (1, vi l1), (2, vi l2)] [] M (none, r) := by
  delta F_X12_gathersWays_b205 at h
  refine GW_goto (X := X_X12_gathersWays) (pc := 205) 35 d_X12_gathersWays_205 (by decide) ?_
  exact hk35 l0 l1 l2 M h
def F_X12_gathersWays_b153 (k35 : Option Nat → Int32 → Int32 → gM → Option gM) (l0 : Option Nat) (l1 : Int32) (l2 : Int32) (l3 : Int32) (s0 : Int32) (M : gM) : Option gM :=
  if s0 = 0 then ((gR 12 M l0 27).bind fun v1 => (sI M v1 l2 l3).bind fun M2 => (gO 12 M2 l0).bind fun i3 => (F_X12_isRound (some i3) l2 l2 M2).bind fun v4 => if v4 = 0 then ((gR 12 M2 (some i3) 20).bind fun v5 => (aI 20 M2 v5 (2 : Int32)).bind fun v6 => if v6 ≤ (l2 + 1) then (F_X12_gathersWays_b205 k35 (some i3) l1 (l2 + 1) M2) else ((gR 12 M2 (some i3) 27).bind fun v7 => (sI M2 v7 (l2 + 1) (-1 : Int32)).bind fun M8 => F_X12_gathersWays_b205 k35 (some i3) l1 (l2 + 1) M8)) else (k35 (some i3) l1 l2 M2)) else (k35 l0 l1 (l2 + (-1)) M)
set_option maxHeartbeats 1000000 in
theorem T_X12_gathersWays_b153 (k35 : Option Nat → Int32 → Int32 → gM → Option gM) (r : gM) (hk35 : ∀ (l0 : Option Nat) (l1 : Int32) (l2 : Int32) (M : gM), k35 l0 l1 l2 M = some r → GW 3 0 0 X_X12_gathersWays 35 [(0, vr l0), (1, vi l1), (2, vi l2)] [] M (none, r)) (l0 : Option Nat) (l1 : Int32) (l2 : Int32) (l3 : Int32) (s0 : Int32) (M : gM) (h : F_X12_gathersWays_b153 k35 l0 l1 l2 l3 s0 M = some r) : GW 3 0 0 X_X12_gathersWays 153 [(0, vr l0), (1, vi l1), (2, vi l2), (3, vi l3)] [vi s0] M (none, r) := by
  delta F_X12_gathersWays_b153 at h
  refine GW_istore (X := X_X12_gathersWays) (pc := 153) d_X12_gathersWays_153 (Nat.le_of_ble_eq_true rfl) (lv2 := [(4, vi s0), (0, vr l0), (1, vi l1), (2, vi l2), (3, vi l3)]) rfl ?_
  refine GW_iload (X := X_X12_gathersWays) (pc := 155) d_X12_gathersWays_155 0 rfl ?_
  refine GW_if_eq (X := X_X12_gathersWays) (pc := 157) 166 d_X12_gathersWays_157 (by decide) (fun c => ?_) (fun c => ?_)
  · replace h := g_ip c h
    refine GW_aload_n (X := X_X12_gathersWays) (pc := 166) d_X12_gathersWays_166 rfl 1 rfl ?_
    replace h := g_bd h
    obtain ⟨v1, hv1, h⟩ := h
    refine GW_getR (X := X_X12_gathersWays) (pc := 167) f_X12_55 d_X12_gathersWays_167 hv1 (Or.inr ⟨_, ty_12_27⟩) ?_
    refine GW_iload_n (X := X_X12_gathersWays) (pc := 170) d_X12_gathersWays_170 rfl 3 rfl ?_
    refine GW_iload_n (X := X_X12_gathersWays) (pc := 171) d_X12_gathersWays_171 rfl 4 rfl ?_
    replace h := g_bd h
    obtain ⟨M2, hM2, h⟩ := h
    refine GW_iast (X := X_X12_gathersWays) (pc := 172) d_X12_gathersWays_172 hM2 ?_
    refine GW_aload_n (X := X_X12_gathersWays) (pc := 173) d_X12_gathersWays_173 rfl 1 rfl ?_
    refine GW_iload_n (X := X_X12_gathersWays) (pc := 174) d_X12_gathersWays_174 rfl 3 rfl ?_
    refine GW_iload_n (X := X_X12_gathersWays) (pc := 175) d_X12_gathersWays_175 rfl 3 rfl ?_
    replace h := g_bd h
    obtain ⟨i3, hi3, h⟩ := h
    obtain ⟨rfl, ki3⟩ := g_gO hi3
    replace h := g_bd h
    obtain ⟨v4, hv4, h⟩ := h
    refine GW_callV (X := X_X12_gathersWays) (pc := 176) (bc0 := 0) (bs0 := 0) (r := some (vi v4)) (M2 := M2) (c0 := 12) (T_X12_isRound (some i3) l2 l2 M2 v4 hv4) (Nat.le_of_ble_eq_true rfl) (Nat.le_of_ble_eq_true rfl) rfl g_cok12 ki3 yc_X12_isRound ⟨m_1635, m_1637, m_110, m_127, m_1638⟩ d_X12_gathersWays_176 rfl (st := []) rfl (Nat.le_of_ble_eq_true rfl) (Nat.le_of_ble_eq_true rfl) (Nat.le_of_ble_eq_true rfl) (st2 := [vi v4]) rfl ?_
    refine GW_if_eq (X := X_X12_gathersWays) (pc := 179) 185 d_X12_gathersWays_179 (by decide) (fun c => ?_) (fun c => ?_)
    · replace h := g_ip c h
      refine GW_iinc (j := 3) (X := X_X12_gathersWays) (pc := 185) d_X12_gathersWays_185 rfl (congrArg (fun z => _ + z) (by decide : Int32.ofInt 1 = (1 : Int32))) (Nat.le_of_ble_eq_true rfl) (lv2 := [(2, vi (l2 + 1)), (4, vi s0), (0, vr (some i3)), (1, vi l1), (3, vi l3)]) rfl ?_
      refine GW_iload_n (X := X_X12_gathersWays) (pc := 188) d_X12_gathersWays_188 rfl 0 rfl ?_
      refine GW_aload_n (X := X_X12_gathersWays) (pc := 189) d_X12_gathersWays_189 rfl 2 rfl ?_
      replace h := g_bd h
      obtain ⟨v5, hv5, h⟩ := h
      refine GW_getR (X := X_X12_gathersWays) (pc := 190) f_X12_39 d_X12_gathersWays_190 hv5 (Or.inr ⟨_, ty_12_20⟩) ?_
      refine GW_iconst (X := X_X12_gathersWays) (pc := 193) (v := 2) d_X12_gathersWays_193 (by decide) ?_
      replace h := g_bd h
      obtain ⟨v6, hv6, h⟩ := h
      refine GW_iald (X := X_X12_gathersWays) (pc := 194) d_X12_gathersWays_194 hv6 ?_
      refine GW_icmp_ge (X := X_X12_gathersWays) (pc := 195) 205 d_X12_gathersWays_195 (by decide) (fun c => ?_) (fun c => ?_)
      · replace h := g_ip c h
        refine GW_sub [2, 3, 0] rfl ?_
        exact T_X12_gathersWays_b205 k35 r hk35 (some i3) l1 (l2 + 1) M2 h
      · replace h := g_ie c h
        refine GW_aload_n (X := X_X12_gathersWays) (pc := 198) d_X12_gathersWays_198 rfl 2 rfl ?_
        replace h := g_bd h
        obtain ⟨v7, hv7, h⟩ := h
        refine GW_getR (X := X_X12_gathersWays) (pc := 199) f_X12_55 d_X12_gathersWays_199 hv7 (Or.inr ⟨_, ty_12_27⟩) ?_
        refine GW_iload_n (X := X_X12_gathersWays) (pc := 202) d_X12_gathersWays_202 rfl 0 rfl ?_
        refine GW_iconst (X := X_X12_gathersWays) (pc := 203) (v := -1) d_X12_gathersWays_203 (by decide) ?_
        replace h := g_bd h
        obtain ⟨M8, hM8, h⟩ := h
        refine GW_iast (X := X_X12_gathersWays) (pc := 204) d_X12_gathersWays_204 hM8 ?_
        refine GW_sub [2, 3, 0] rfl ?_
        exact T_X12_gathersWays_b205 k35 r hk35 (some i3) l1 (l2 + 1) M8 h
    · replace h := g_ie c h
      refine GW_goto (X := X_X12_gathersWays) (pc := 182) 35 d_X12_gathersWays_182 (by decide) ?_
      refine GW_sub [1, 2, 3] rfl ?_
      exact hk35 (some i3) l1 l2 M2 h
  · replace h := g_ie c h
    refine GW_iinc (j := 3) (X := X_X12_gathersWays) (pc := 160) d_X12_gathersWays_160 rfl (congrArg (fun z => _ + z) (by decide : Int32.ofInt (-1) = (-1 : Int32))) (Nat.le_of_ble_eq_true rfl) (lv2 := [(2, vi (l2 + (-1))), (4, vi s0), (0, vr l0), (1, vi l1), (3, vi l3)]) rfl ?_
    refine GW_goto (X := X_X12_gathersWays) (pc := 163) 35 d_X12_gathersWays_163 (by decide) ?_
    refine GW_sub [2, 3, 0] rfl ?_
    exact hk35 l0 l1 (l2 + (-1)) M h
def F_X12_gathersWays_b119 (k35 : Option Nat → Int32 → Int32 → gM → Option gM) (l0 : Option Nat) (l1 : Int32) (l2 : Int32) (l3 : Int32) (M : gM) : Option gM :=
  (gO 12 M l0).bind fun i1 => (F_X12_isWrong (some i1) l2 l1 M).bind fun v2 => if v2 = 0 then (if l3 ≤ (8 : Int32) then (F_X12_gathersWays_b153 k35 (some i1) l1 l2 l3 (0 : Int32) M) else (F_X12_gathersWays_b153 k35 (some i1) l1 l2 l3 (1 : Int32) M)) else (if l3 ≤ (7 : Int32) then (F_X12_gathersWays_b153 k35 (some i1) l1 l2 l3 (0 : Int32) M) else (F_X12_gathersWays_b153 k35 (some i1) l1 l2 l3 (1 : Int32) M))
theorem T_X12_gathersWays_b119 (k35 : Option Nat → Int32 → Int32 → gM → Option gM) (r : gM) (hk35 : ∀ (l0 : Option Nat) (l1 : Int32) (l2 : Int32) (M : gM), k35 l0 l1 l2 M = some r → GW 3 0 0 X_X12_gathersWays 35 [(0, vr l0), (1, vi l1), (2, vi l2)] [] M (none, r)) (l0 : Option Nat) (l1 : Int32) (l2 : Int32) (l3 : Int32) (M : gM) (h : F_X12_gathersWays_b119 k35 l0 l1 l2 l3 M = some r) : GW 3 0 0 X_X12_gathersWays 119 [(0, vr l0), (1, vi l1), (2, vi l2), (3, vi l3)] [] M (none, r) := by
  delta F_X12_gathersWays_b119 at h
  refine GW_aload_n (X := X_X12_gathersWays) (pc := 119) d_X12_gathersWays_119 rfl 0 rfl ?_
  refine GW_iload_n (X := X_X12_gathersWays) (pc := 120) d_X12_gathersWays_120 rfl 2 rfl ?_
  refine GW_iload_n (X := X_X12_gathersWays) (pc := 121) d_X12_gathersWays_121 rfl 1 rfl ?_
  replace h := g_bd h
  obtain ⟨i1, hi1, h⟩ := h
  obtain ⟨rfl, ki1⟩ := g_gO hi1
  replace h := g_bd h
  obtain ⟨v2, hv2, h⟩ := h
  refine GW_callV (X := X_X12_gathersWays) (pc := 122) (bc0 := 0) (bs0 := 0) (r := some (vi v2)) (M2 := M) (c0 := 12) (T_X12_isWrong (some i1) l2 l1 M v2 hv2) (Nat.le_of_ble_eq_true rfl) (Nat.le_of_ble_eq_true rfl) rfl g_cok12 ki1 yc_X12_isWrong ⟨m_1627, m_1629, m_108, m_127, m_1630⟩ d_X12_gathersWays_122 rfl (st := []) rfl (Nat.le_of_ble_eq_true rfl) (Nat.le_of_ble_eq_true rfl) (Nat.le_of_ble_eq_true rfl) (st2 := [vi v2]) rfl ?_
  refine GW_if_eq (X := X_X12_gathersWays) (pc := 125) 142 d_X12_gathersWays_125 (by decide) (fun c => ?_) (fun c => ?_)
  · replace h := g_ip c h
    refine GW_iload_n (X := X_X12_gathersWays) (pc := 142) d_X12_gathersWays_142 rfl 3 rfl ?_
    refine GW_bipush (X := X_X12_gathersWays) (pc := 143) (v := 8) d_X12_gathersWays_143 (by decide) ?_
    refine GW_icmp_le (X := X_X12_gathersWays) (pc := 145) 152 d_X12_gathersWays_145 (by decide) (fun c => ?_) (fun c => ?_)
    · replace h := g_ip c h
      refine GW_iconst (X := X_X12_gathersWays) (pc := 152) (v := 0) d_X12_gathersWays_152 (by decide) ?_
      exact T_X12_gathersWays_b153 k35 r hk35 (some i1) l1 l2 l3 (0 : Int32) M h
    · replace h := g_ie c h
      refine GW_iconst (X := X_X12_gathersWays) (pc := 148) (v := 1) d_X12_gathersWays_148 (by decide) ?_
      refine GW_goto (X := X_X12_gathersWays) (pc := 149) 153 d_X12_gathersWays_149 (by decide) ?_
      exact T_X12_gathersWays_b153 k35 r hk35 (some i1) l1 l2 l3 (1 : Int32) M h
  · replace h := g_ie c h
    refine GW_iload_n (X := X_X12_gathersWays) (pc := 128) d_X12_gathersWays_128 rfl 3 rfl ?_
    refine GW_bipush (X := X_X12_gathersWays) (pc := 129) (v := 7) d_X12_gathersWays_129 (by decide) ?_
    refine GW_icmp_le (X := X_X12_gathersWays) (pc := 131) 138 d_X12_gathersWays_131 (by decide) (fun c => ?_) (fun c => ?_)
    · replace h := g_ip c h
      refine GW_iconst (X := X_X12_gathersWays) (pc := 138) (v := 0) d_X12_gathersWays_138 (by decide) ?_
      refine GW_goto (X := X_X12_gathersWays) (pc := 139) 153 d_X12_gathersWays_139 (by decide) ?_
      exact T_X12_gathersWays_b153 k35 r hk35 (some i1) l1 l2 l3 (0 : Int32) M h
    · replace h := g_ie c h
      refine GW_iconst (X := X_X12_gathersWays) (pc := 134) (v := 1) d_X12_gathersWays_134 (by decide) ?_
      refine GW_goto (X := X_X12_gathersWays) (pc := 135) 153 d_X12_gathersWays_135 (by decide) ?_
      exact T_X12_gathersWays_b153 k35 r hk35 (some i1) l1 l2 l3 (1 : Int32) M h
def F_X12_gathersWays_b97 (k35 : Option Nat → Int32 → Int32 → gM → Option gM) (k97 : Option Nat → Int32 → Int32 → Int32 → gM → Option gM) (l0 : Option Nat) (l1 : Int32) (l2 : Int32) (l3 : Int32) (M : gM) : Option gM :=
  if (7 : Int32) ≤ l3 then (F_X12_gathersWays_b119 k35 l0 l1 l2 l3 M) else ((gO 12 M l0).bind fun i1 => (F_X12_canHave (some i1) l2 l3 l1 M).bind fun v2 => if v2 = 0 then (k97 (some i1) l1 l2 (l3 + 1) M) else (F_X12_gathersWays_b119 k35 (some i1) l1 l2 l3 M))
theorem T_X12_gathersWays_b97 (k35 : Option Nat → Int32 → Int32 → gM → Option gM) (k97 : Option Nat → Int32 → Int32 → Int32 → gM → Option gM) (r : gM) (hk35 : ∀ (l0 : Option Nat) (l1 : Int32) (l2 : Int32) (M : gM), k35 l0 l1 l2 M = some r → GW 3 0 0 X_X12_gathersWays 35 [(0, vr l0), (1, vi l1), (2, vi l2)] [] M (none, r)) (hk97 : ∀ (l0 : Option Nat) (l1 : Int32) (l2 : Int32) (l3 : Int32) (M : gM), k97 l0 l1 l2 l3 M = some r → GW 3 0 0 X_X12_gathersWays 97 [(0, vr l0), (1, vi l1), (2, vi l2), (3, vi l3)] [] M (none, r)) (l0 : Option Nat) (l1 : Int32) (l2 : Int32) (l3 : Int32) (M : gM) (h : F_X12_gathersWays_b97 k35 k97 l0 l1 l2 l3 M = some r) : GW 3 0 0 X_X12_gathersWays 97 [(0, vr l0), (1, vi l1), (2, vi l2), (3, vi l3)] [] M (none, r) := by
  delta F_X12_gathersWays_b97 at h
  refine GW_iload_n (X := X_X12_gathersWays) (pc := 97) d_X12_gathersWays_97 rfl 3 rfl ?_
  refine GW_bipush (X := X_X12_gathersWays) (pc := 98) (v := 7) d_X12_gathersWays_98 (by decide) ?_
  refine GW_icmp_ge (X := X_X12_gathersWays) (pc := 100) 119 d_X12_gathersWays_100 (by decide) (fun c => ?_) (fun c => ?_)
  · replace h := g_ip c h
    exact T_X12_gathersWays_b119 k35 r hk35 l0 l1 l2 l3 M h
  · replace h := g_ie c h
    refine GW_aload_n (X := X_X12_gathersWays) (pc := 103) d_X12_gathersWays_103 rfl 0 rfl ?_
    refine GW_iload_n (X := X_X12_gathersWays) (pc := 104) d_X12_gathersWays_104 rfl 2 rfl ?_
    refine GW_iload_n (X := X_X12_gathersWays) (pc := 105) d_X12_gathersWays_105 rfl 3 rfl ?_
    refine GW_iload_n (X := X_X12_gathersWays) (pc := 106) d_X12_gathersWays_106 rfl 1 rfl ?_
    replace h := g_bd h
    obtain ⟨i1, hi1, h⟩ := h
    obtain ⟨rfl, ki1⟩ := g_gO hi1
    replace h := g_bd h
    obtain ⟨v2, hv2, h⟩ := h
    refine GW_callV (X := X_X12_gathersWays) (pc := 107) (bc0 := 0) (bs0 := 0) (r := some (vi v2)) (M2 := M) (c0 := 12) (T_X12_canHave (some i1) l2 l3 l1 M v2 hv2) (Nat.le_of_ble_eq_true rfl) (Nat.le_of_ble_eq_true rfl) rfl g_cok12 ki1 yc_X12_canHave ⟨m_1631, m_1633, m_109, m_127, m_1634⟩ d_X12_gathersWays_107 rfl (st := []) rfl (Nat.le_of_ble_eq_true rfl) (Nat.le_of_ble_eq_true rfl) (Nat.le_of_ble_eq_true rfl) (st2 := [vi v2]) rfl ?_
    refine GW_if_ne (X := X_X12_gathersWays) (pc := 110) 119 d_X12_gathersWays_110 (by decide) (fun c => ?_) (fun c => ?_)
    · replace h := g_ie c h
      exact T_X12_gathersWays_b119 k35 r hk35 (some i1) l1 l2 l3 M h
    · replace h := g_ip c h
      refine GW_iinc (j := 3) (X := X_X12_gathersWays) (pc := 113) d_X12_gathersWays_113 rfl (congrArg (fun z => _ + z) (by decide : Int32.ofInt 1 = (1 : Int32))) (Nat.le_of_ble_eq_true rfl) (lv2 := [(3, vi (l3 + 1)), (0, vr (some i1)), (1, vi l1), (2, vi l2)]) rfl ?_
      refine GW_goto (X := X_X12_gathersWays) (pc := 116) 97 d_X12_gathersWays_116 (by decide) ?_
      refine GW_sub [1, 2, 3, 0] rfl ?_
      exact hk97 (some i1) l1 l2 (l3 + 1) M h
def F_X12_gathersWays_L97 (k35 : Option Nat → Int32 → Int32 → gM → Option gM) : Nat → Option Nat → Int32 → Int32 → Int32 → gM → Option gM
  | 0 => fun _ _ _ _ _ => none
  | n + 1 => F_X12_gathersWays_b97 k35 (F_X12_gathersWays_L97 k35 n)
theorem T_X12_gathersWays_L97 (k35 : Option Nat → Int32 → Int32 → gM → Option gM) (r : gM) (hk35 : ∀ (l0 : Option Nat) (l1 : Int32) (l2 : Int32) (M : gM), k35 l0 l1 l2 M = some r → GW 3 0 0 X_X12_gathersWays 35 [(0, vr l0), (1, vi l1), (2, vi l2)] [] M (none, r)) : ∀ (n : Nat) (l0 : Option Nat) (l1 : Int32) (l2 : Int32) (l3 : Int32) (M : gM), F_X12_gathersWays_L97 k35 n l0 l1 l2 l3 M = some r → GW 3 0 0 X_X12_gathersWays 97 [(0, vr l0), (1, vi l1), (2, vi l2), (3, vi l3)] [] M (none, r) := by
  intro n
  induction n with
  | zero => intro l0 l1 l2 l3 M h; exact g_no h
  | succ n ih => intro l0 l1 l2 l3 M h; exact T_X12_gathersWays_b97 k35 (F_X12_gathersWays_L97 k35 n) r hk35 ih l0 l1 l2 l3 M h
def F_X12_gathersWays_b93 (k35 : Option Nat → Int32 → Int32 → gM → Option gM) (l0 : Option Nat) (l1 : Int32) (l2 : Int32) (s0 : Int32) (M : gM) : Option gM :=
  F_X12_gathersWays_b119 k35 l0 l1 l2 s0 M
theorem T_X12_gathersWays_b93 (k35 : Option Nat → Int32 → Int32 → gM → Option gM) (r : gM) (hk35 : ∀ (l0 : Option Nat) (l1 : Int32) (l2 : Int32) (M : gM), k35 l0 l1 l2 M = some r → GW 3 0 0 X_X12_gathersWays 35 [(0, vr l0), (1, vi l1), (2, vi l2)] [] M (none, r)) (l0 : Option Nat) (l1 : Int32) (l2 : Int32) (s0 : Int32) (M : gM) (h : F_X12_gathersWays_b93 k35 l0 l1 l2 s0 M = some r) : GW 3 0 0 X_X12_gathersWays 93 [(0, vr l0), (1, vi l1), (2, vi l2)] [vi s0] M (none, r) := by
  delta F_X12_gathersWays_b93 at h
  refine GW_istore_n (X := X_X12_gathersWays) (pc := 93) d_X12_gathersWays_93 rfl (Nat.le_of_ble_eq_true rfl) (lv2 := [(3, vi s0), (0, vr l0), (1, vi l1), (2, vi l2)]) rfl ?_
  refine GW_goto (X := X_X12_gathersWays) (pc := 94) 119 d_X12_gathersWays_94 (by decide) ?_
  refine GW_sub [1, 2, 3, 0] rfl ?_
  exact T_X12_gathersWays_b119 k35 r hk35 l0 l1 l2 s0 M h
def F_X12_gathersWays_b35 (k35 : Option Nat → Int32 → Int32 → gM → Option gM) (l0 : Option Nat) (l1 : Int32) (l2 : Int32) (M : gM) : Option gM :=
  if l2 < 0 then (some M) else ((gR 12 M l0 20).bind fun v1 => (aI 20 M v1 (2 : Int32)).bind fun v2 => if l2 = v2 then ((gO 12 M l0).bind fun i9 => (F_X12_countsWay (some i9) M).bind fun M10 => k35 (some i9) l1 (l2 + (-1)) M10) else ((gR 12 M l0 27).bind fun v3 => (aI 20 M v3 l2).bind fun v4 => (gO 12 M l0).bind fun i5 => (F_X12_isWrong (some i5) l2 l1 M).bind fun v6 => if v6 = 0 then ((gR 12 M (some i5) 27).bind fun v7 => (aI 20 M v7 l2).bind fun v8 => if 0 ≤ v8 then (F_X12_gathersWays_b93 k35 (some i5) l1 l2 (9 : Int32) M) else (F_X12_gathersWays_b93 k35 (some i5) l1 l2 (8 : Int32) M)) else (F_X12_gathersWays_L97 k35 g_fuel (some i5) l1 l2 (v4 + (1 : Int32)) M)))
set_option maxHeartbeats 1000000 in
theorem T_X12_gathersWays_b35 (k35 : Option Nat → Int32 → Int32 → gM → Option gM) (r : gM) (hk35 : ∀ (l0 : Option Nat) (l1 : Int32) (l2 : Int32) (M : gM), k35 l0 l1 l2 M = some r → GW 3 0 0 X_X12_gathersWays 35 [(0, vr l0), (1, vi l1), (2, vi l2)] [] M (none, r)) (l0 : Option Nat) (l1 : Int32) (l2 : Int32) (M : gM) (h : F_X12_gathersWays_b35 k35 l0 l1 l2 M = some r) : GW 3 0 0 X_X12_gathersWays 35 [(0, vr l0), (1, vi l1), (2, vi l2)] [] M (none, r) := by
  delta F_X12_gathersWays_b35 at h
  refine GW_iload_n (X := X_X12_gathersWays) (pc := 35) d_X12_gathersWays_35 rfl 2 rfl ?_
  refine GW_if_lt (X := X_X12_gathersWays) (pc := 36) 208 d_X12_gathersWays_36 (by decide) (fun c => ?_) (fun c => ?_)
  · replace h := g_ip c h
    replace h := Option.some.inj h
    subst h
    exact GW_ret (X := X_X12_gathersWays) (pc := 208) d_X12_gathersWays_208 rfl trivial
  · replace h := g_ie c h
    refine GW_iload_n (X := X_X12_gathersWays) (pc := 39) d_X12_gathersWays_39 rfl 2 rfl ?_
    refine GW_aload_n (X := X_X12_gathersWays) (pc := 40) d_X12_gathersWays_40 rfl 0 rfl ?_
    replace h := g_bd h
    obtain ⟨v1, hv1, h⟩ := h
    refine GW_getR (X := X_X12_gathersWays) (pc := 41) f_X12_39 d_X12_gathersWays_41 hv1 (Or.inr ⟨_, ty_12_20⟩) ?_
    refine GW_iconst (X := X_X12_gathersWays) (pc := 44) (v := 2) d_X12_gathersWays_44 (by decide) ?_
    replace h := g_bd h
    obtain ⟨v2, hv2, h⟩ := h
    refine GW_iald (X := X_X12_gathersWays) (pc := 45) d_X12_gathersWays_45 hv2 ?_
    refine GW_icmp_ne (X := X_X12_gathersWays) (pc := 46) 59 d_X12_gathersWays_46 (by decide) (fun c => ?_) (fun c => ?_)
    · replace h := g_ie c h
      refine GW_aload_n (X := X_X12_gathersWays) (pc := 59) d_X12_gathersWays_59 rfl 0 rfl ?_
      replace h := g_bd h
      obtain ⟨v3, hv3, h⟩ := h
      refine GW_getR (X := X_X12_gathersWays) (pc := 60) f_X12_55 d_X12_gathersWays_60 hv3 (Or.inr ⟨_, ty_12_27⟩) ?_
      refine GW_iload_n (X := X_X12_gathersWays) (pc := 63) d_X12_gathersWays_63 rfl 2 rfl ?_
      replace h := g_bd h
      obtain ⟨v4, hv4, h⟩ := h
      refine GW_iald (X := X_X12_gathersWays) (pc := 64) d_X12_gathersWays_64 hv4 ?_
      refine GW_iconst (X := X_X12_gathersWays) (pc := 65) (v := 1) d_X12_gathersWays_65 (by decide) ?_
      refine GW_iadd (X := X_X12_gathersWays) (pc := 66) d_X12_gathersWays_66 ?_
      refine GW_istore_n (X := X_X12_gathersWays) (pc := 67) d_X12_gathersWays_67 rfl (Nat.le_of_ble_eq_true rfl) (lv2 := [(3, vi (v4 + (1 : Int32))), (0, vr l0), (1, vi l1), (2, vi l2)]) rfl ?_
      refine GW_aload_n (X := X_X12_gathersWays) (pc := 68) d_X12_gathersWays_68 rfl 1 rfl ?_
      refine GW_iload_n (X := X_X12_gathersWays) (pc := 69) d_X12_gathersWays_69 rfl 3 rfl ?_
      refine GW_iload_n (X := X_X12_gathersWays) (pc := 70) d_X12_gathersWays_70 rfl 2 rfl ?_
      replace h := g_bd h
      obtain ⟨i5, hi5, h⟩ := h
      obtain ⟨rfl, ki5⟩ := g_gO hi5
      replace h := g_bd h
      obtain ⟨v6, hv6, h⟩ := h
      refine GW_callV (X := X_X12_gathersWays) (pc := 71) (bc0 := 0) (bs0 := 0) (r := some (vi v6)) (M2 := M) (c0 := 12) (T_X12_isWrong (some i5) l2 l1 M v6 hv6) (Nat.le_of_ble_eq_true rfl) (Nat.le_of_ble_eq_true rfl) rfl g_cok12 ki5 yc_X12_isWrong ⟨m_1627, m_1629, m_108, m_127, m_1630⟩ d_X12_gathersWays_71 rfl (st := []) rfl (Nat.le_of_ble_eq_true rfl) (Nat.le_of_ble_eq_true rfl) (Nat.le_of_ble_eq_true rfl) (st2 := [vi v6]) rfl ?_
      refine GW_if_ne (X := X_X12_gathersWays) (pc := 74) 97 d_X12_gathersWays_74 (by decide) (fun c => ?_) (fun c => ?_)
      · replace h := g_ie c h
        refine GW_sub [1, 2, 3, 0] rfl ?_
        exact T_X12_gathersWays_L97 k35 r hk35 g_fuel (some i5) l1 l2 (v4 + (1 : Int32)) M h
      · replace h := g_ip c h
        refine GW_aload_n (X := X_X12_gathersWays) (pc := 77) d_X12_gathersWays_77 rfl 1 rfl ?_
        replace h := g_bd h
        obtain ⟨v7, hv7, h⟩ := h
        refine GW_getR (X := X_X12_gathersWays) (pc := 78) f_X12_55 d_X12_gathersWays_78 hv7 (Or.inr ⟨_, ty_12_27⟩) ?_
        refine GW_iload_n (X := X_X12_gathersWays) (pc := 81) d_X12_gathersWays_81 rfl 3 rfl ?_
        replace h := g_bd h
        obtain ⟨v8, hv8, h⟩ := h
        refine GW_iald (X := X_X12_gathersWays) (pc := 82) d_X12_gathersWays_82 hv8 ?_
        refine GW_if_ge (X := X_X12_gathersWays) (pc := 83) 91 d_X12_gathersWays_83 (by decide) (fun c => ?_) (fun c => ?_)
        · replace h := g_ip c h
          refine GW_bipush (X := X_X12_gathersWays) (pc := 91) (v := 9) d_X12_gathersWays_91 (by decide) ?_
          refine GW_sub [1, 2, 3] rfl ?_
          exact T_X12_gathersWays_b93 k35 r hk35 (some i5) l1 l2 (9 : Int32) M h
        · replace h := g_ie c h
          refine GW_bipush (X := X_X12_gathersWays) (pc := 86) (v := 8) d_X12_gathersWays_86 (by decide) ?_
          refine GW_goto (X := X_X12_gathersWays) (pc := 88) 93 d_X12_gathersWays_88 (by decide) ?_
          refine GW_sub [1, 2, 3] rfl ?_
          exact T_X12_gathersWays_b93 k35 r hk35 (some i5) l1 l2 (8 : Int32) M h
    · replace h := g_ip c h
      refine GW_aload_n (X := X_X12_gathersWays) (pc := 49) d_X12_gathersWays_49 rfl 0 rfl ?_
      replace h := g_bd h
      obtain ⟨i9, hi9, h⟩ := h
      obtain ⟨rfl, ki9⟩ := g_gO hi9
      replace h := g_bd h
      obtain ⟨M10, hM10, h⟩ := h
      refine GW_callV (X := X_X12_gathersWays) (pc := 50) (bc0 := 0) (bs0 := 0) (r := none) (M2 := M10) (c0 := 12) (T_X12_countsWay (some i9) M M10 hM10) (Nat.le_of_ble_eq_true rfl) (Nat.le_of_ble_eq_true rfl) rfl g_cok12 ki9 yc_X12_countsWay ⟨m_1623, m_1625, m_107, m_127, m_1626⟩ d_X12_gathersWays_50 rfl (st := []) rfl (Nat.le_of_ble_eq_true rfl) (Nat.le_of_ble_eq_true rfl) (Nat.le_of_ble_eq_true rfl) (st2 := []) rfl ?_
      refine GW_iinc (j := 2) (X := X_X12_gathersWays) (pc := 53) d_X12_gathersWays_53 rfl (congrArg (fun z => _ + z) (by decide : Int32.ofInt (-1) = (-1 : Int32))) (Nat.le_of_ble_eq_true rfl) (lv2 := [(2, vi (l2 + (-1))), (0, vr (some i9)), (1, vi l1)]) rfl ?_
      refine GW_goto (X := X_X12_gathersWays) (pc := 56) 35 d_X12_gathersWays_56 (by decide) ?_
      refine GW_sub [1, 2, 0] rfl ?_
      exact hk35 (some i9) l1 (l2 + (-1)) M10 h
def F_X12_gathersWays_L35 : Nat → Option Nat → Int32 → Int32 → gM → Option gM
  | 0 => fun _ _ _ _ => none
  | n + 1 => F_X12_gathersWays_b35 (F_X12_gathersWays_L35 n)
theorem T_X12_gathersWays_L35 (r : gM) : ∀ (n : Nat) (l0 : Option Nat) (l1 : Int32) (l2 : Int32) (M : gM), F_X12_gathersWays_L35 n l0 l1 l2 M = some r → GW 3 0 0 X_X12_gathersWays 35 [(0, vr l0), (1, vi l1), (2, vi l2)] [] M (none, r) := by
  intro n
  induction n with
  | zero => intro l0 l1 l2 M h; exact g_no h
  | succ n ih => intro l0 l1 l2 M h; exact T_X12_gathersWays_b35 (F_X12_gathersWays_L35 n) r ih l0 l1 l2 M h
def F_X12_gathersWays_b2 (k2 : Option Nat → Int32 → Int32 → gM → Option gM) (l0 : Option Nat) (l1 : Int32) (l2 : Int32) (M : gM) : Option gM :=
  if (56 : Int32) ≤ l2 then ((pI 12 M l0 29 (0 : Int32)).bind fun M1 => (gR 12 M1 l0 27).bind fun v2 => (sI M1 v2 (0 : Int32) (-1 : Int32)).bind fun M3 => F_X12_gathersWays_L35 g_fuel l0 l1 (0 : Int32) M3) else ((gR 12 M l0 28).bind fun v4 => (sI M v4 l2 (0 : Int32)).bind fun M5 => k2 l0 l1 (l2 + 1) M5)
theorem T_X12_gathersWays_b2 (k2 : Option Nat → Int32 → Int32 → gM → Option gM) (r : gM) (hk2 : ∀ (l0 : Option Nat) (l1 : Int32) (l2 : Int32) (M : gM), k2 l0 l1 l2 M = some r → GW 3 0 0 X_X12_gathersWays 2 [(0, vr l0), (1, vi l1), (2, vi l2)] [] M (none, r)) (l0 : Option Nat) (l1 : Int32) (l2 : Int32) (M : gM) (h : F_X12_gathersWays_b2 k2 l0 l1 l2 M = some r) : GW 3 0 0 X_X12_gathersWays 2 [(0, vr l0), (1, vi l1), (2, vi l2)] [] M (none, r) := by
  delta F_X12_gathersWays_b2 at h
  refine GW_iload_n (X := X_X12_gathersWays) (pc := 2) d_X12_gathersWays_2 rfl 2 rfl ?_
  refine GW_bipush (X := X_X12_gathersWays) (pc := 3) (v := 56) d_X12_gathersWays_3 (by decide) ?_
  refine GW_icmp_ge (X := X_X12_gathersWays) (pc := 5) 21 d_X12_gathersWays_5 (by decide) (fun c => ?_) (fun c => ?_)
  · replace h := g_ip c h
    refine GW_aload_n (X := X_X12_gathersWays) (pc := 21) d_X12_gathersWays_21 rfl 0 rfl ?_
    refine GW_iconst (X := X_X12_gathersWays) (pc := 22) (v := 0) d_X12_gathersWays_22 (by decide) ?_
    replace h := g_bd h
    obtain ⟨M1, hM1, h⟩ := h
    refine GW_putI (X := X_X12_gathersWays) (pc := 23) f_X12_404 d_X12_gathersWays_23 hM1 (Or.inl fi_12_29) (Or.inl ty_12_29) ?_
    refine GW_iconst (X := X_X12_gathersWays) (pc := 26) (v := 0) d_X12_gathersWays_26 (by decide) ?_
    refine GW_istore_n (X := X_X12_gathersWays) (pc := 27) d_X12_gathersWays_27 rfl (Nat.le_of_ble_eq_true rfl) (lv2 := [(2, vi (0 : Int32)), (0, vr l0), (1, vi l1)]) rfl ?_
    refine GW_aload_n (X := X_X12_gathersWays) (pc := 28) d_X12_gathersWays_28 rfl 1 rfl ?_
    replace h := g_bd h
    obtain ⟨v2, hv2, h⟩ := h
    refine GW_getR (X := X_X12_gathersWays) (pc := 29) f_X12_55 d_X12_gathersWays_29 hv2 (Or.inr ⟨_, ty_12_27⟩) ?_
    refine GW_iconst (X := X_X12_gathersWays) (pc := 32) (v := 0) d_X12_gathersWays_32 (by decide) ?_
    refine GW_iconst (X := X_X12_gathersWays) (pc := 33) (v := -1) d_X12_gathersWays_33 (by decide) ?_
    replace h := g_bd h
    obtain ⟨M3, hM3, h⟩ := h
    refine GW_iast (X := X_X12_gathersWays) (pc := 34) d_X12_gathersWays_34 hM3 ?_
    refine GW_sub [1, 2, 0] rfl ?_
    exact T_X12_gathersWays_L35 r g_fuel l0 l1 (0 : Int32) M3 h
  · replace h := g_ie c h
    refine GW_aload_n (X := X_X12_gathersWays) (pc := 8) d_X12_gathersWays_8 rfl 0 rfl ?_
    replace h := g_bd h
    obtain ⟨v4, hv4, h⟩ := h
    refine GW_getR (X := X_X12_gathersWays) (pc := 9) f_X12_58 d_X12_gathersWays_9 hv4 (Or.inr ⟨_, ty_12_28⟩) ?_
    refine GW_iload_n (X := X_X12_gathersWays) (pc := 12) d_X12_gathersWays_12 rfl 2 rfl ?_
    refine GW_iconst (X := X_X12_gathersWays) (pc := 13) (v := 0) d_X12_gathersWays_13 (by decide) ?_
    replace h := g_bd h
    obtain ⟨M5, hM5, h⟩ := h
    refine GW_iast (X := X_X12_gathersWays) (pc := 14) d_X12_gathersWays_14 hM5 ?_
    refine GW_iinc (j := 2) (X := X_X12_gathersWays) (pc := 15) d_X12_gathersWays_15 rfl (congrArg (fun z => _ + z) (by decide : Int32.ofInt 1 = (1 : Int32))) (Nat.le_of_ble_eq_true rfl) (lv2 := [(2, vi (l2 + 1)), (0, vr l0), (1, vi l1)]) rfl ?_
    refine GW_goto (X := X_X12_gathersWays) (pc := 18) 2 d_X12_gathersWays_18 (by decide) ?_
    refine GW_sub [1, 2, 0] rfl ?_
    exact hk2 l0 l1 (l2 + 1) M5 h
def F_X12_gathersWays_L2 : Nat → Option Nat → Int32 → Int32 → gM → Option gM
  | 0 => fun _ _ _ _ => none
  | n + 1 => F_X12_gathersWays_b2 (F_X12_gathersWays_L2 n)
theorem T_X12_gathersWays_L2 (r : gM) : ∀ (n : Nat) (l0 : Option Nat) (l1 : Int32) (l2 : Int32) (M : gM), F_X12_gathersWays_L2 n l0 l1 l2 M = some r → GW 3 0 0 X_X12_gathersWays 2 [(0, vr l0), (1, vi l1), (2, vi l2)] [] M (none, r) := by
  intro n
  induction n with
  | zero => intro l0 l1 l2 M h; exact g_no h
  | succ n ih => intro l0 l1 l2 M h; exact T_X12_gathersWays_b2 (F_X12_gathersWays_L2 n) r ih l0 l1 l2 M h
def F_X12_gathersWays_b0 (l0 : Option Nat) (l1 : Int32) (M : gM) : Option gM :=
  F_X12_gathersWays_L2 g_fuel l0 l1 (0 : Int32) M
theorem T_X12_gathersWays_b0 (r : gM) (l0 : Option Nat) (l1 : Int32) (M : gM) (h : F_X12_gathersWays_b0 l0 l1 M = some r) : GW 3 0 0 X_X12_gathersWays 0 [(0, vr l0), (1, vi l1)] [] M (none, r) := by
  delta F_X12_gathersWays_b0 at h
  refine GW_iconst (X := X_X12_gathersWays) (pc := 0) (v := 0) d_X12_gathersWays_0 (by decide) ?_
  refine GW_istore_n (X := X_X12_gathersWays) (pc := 1) d_X12_gathersWays_1 rfl (Nat.le_of_ble_eq_true rfl) (lv2 := [(2, vi (0 : Int32)), (0, vr l0), (1, vi l1)]) rfl ?_
  refine GW_sub [1, 2, 0] rfl ?_
  exact T_X12_gathersWays_L2 r g_fuel l0 l1 (0 : Int32) M h
def F_X12_gathersWays (l0 : Option Nat) (l1 : Int32) (M : gM) : Option gM := F_X12_gathersWays_b0 l0 l1 M
theorem T_X12_gathersWays (l0 : Option Nat) (l1 : Int32) (M : gM) (r : gM) (h : F_X12_gathersWays l0 l1 M = some r) : g_Met 3 0 0 yX12_gathersWays X_X12_gathersWays [vr l0, vi l1] M (none, r) :=
  g_Met_of pn_RX12 rfl (Nat.le_of_ble_eq_true rfl) (fun h => by cases h) (GW_sub [0, 1] rfl (T_X12_gathersWays_b0 r l0 l1 M h))
/-! ForgetHeirsModel.ways(I)I -/
theorem d_X12_ways_0 : decode cX12_ways 0 = .ok (.aload_n 0, 1) := by decide +kernel
theorem d_X12_ways_1 : decode cX12_ways 1 = .ok (.iload_n 1, 1) := by decide +kernel
theorem d_X12_ways_2 : decode cX12_ways 2 = .ok (.invokevirtual 327, 3) := by decide +kernel
theorem d_X12_ways_5 : decode cX12_ways 5 = .ok (.ifCond .ne 5, 3) := by decide +kernel
theorem d_X12_ways_8 : decode cX12_ways 8 = .ok (.iconst (-1), 1) := by decide +kernel
theorem d_X12_ways_9 : decode cX12_ways 9 = .ok (.ireturn, 1) := by decide +kernel
theorem d_X12_ways_10 : decode cX12_ways 10 = .ok (.aload_n 0, 1) := by decide +kernel
theorem d_X12_ways_11 : decode cX12_ways 11 = .ok (.iload_n 1, 1) := by decide +kernel
theorem d_X12_ways_12 : decode cX12_ways 12 = .ok (.invokevirtual 419, 3) := by decide +kernel
theorem d_X12_ways_15 : decode cX12_ways 15 = .ok (.aload_n 0, 1) := by decide +kernel
theorem d_X12_ways_16 : decode cX12_ways 16 = .ok (.getfield 404, 3) := by decide +kernel
theorem d_X12_ways_19 : decode cX12_ways 19 = .ok (.ireturn, 1) := by decide +kernel
abbrev X_X12_ways : gX := (RX12, cX12_ways, 2, (some .int), false)
def F_X12_ways_b0 (l0 : Option Nat) (l1 : Int32) (M : gM) : Option (Int32 × gM) :=
  (gO 12 M l0).bind fun i1 => (F_X12_isThing (some i1) l1 M).bind fun v2 => if v2 = 0 then (some ((-1 : Int32), M)) else ((F_X12_gathersWays (some i1) l1 M).bind fun M3 => (gI 12 M3 (some i1) 29).bind fun v4 => some (v4, M3))
theorem T_X12_ways_b0 (r : (Int32 × gM)) (l0 : Option Nat) (l1 : Int32) (M : gM) (h : F_X12_ways_b0 l0 l1 M = some r) : GW 4 0 0 X_X12_ways 0 [(0, vr l0), (1, vi l1)] [] M (some (vi r.1), r.2) := by
  delta F_X12_ways_b0 at h
  refine GW_aload_n (X := X_X12_ways) (pc := 0) d_X12_ways_0 rfl 0 rfl ?_
  refine GW_iload_n (X := X_X12_ways) (pc := 1) d_X12_ways_1 rfl 1 rfl ?_
  replace h := g_bd h
  obtain ⟨i1, hi1, h⟩ := h
  obtain ⟨rfl, ki1⟩ := g_gO hi1
  replace h := g_bd h
  obtain ⟨v2, hv2, h⟩ := h
  refine GW_callV (X := X_X12_ways) (pc := 2) (bc0 := 0) (bs0 := 0) (r := some (vi v2)) (M2 := M) (c0 := 12) (T_X12_isThing (some i1) l1 M v2 hv2) (Nat.le_of_ble_eq_true rfl) (Nat.le_of_ble_eq_true rfl) rfl g_cok12 ki1 yc_X12_isThing ⟨m_1448, m_1450, m_83, m_127, m_1451⟩ d_X12_ways_2 rfl (st := []) rfl (Nat.le_of_ble_eq_true rfl) (Nat.le_of_ble_eq_true rfl) (Nat.le_of_ble_eq_true rfl) (st2 := [vi v2]) rfl ?_
  refine GW_if_ne (X := X_X12_ways) (pc := 5) 10 d_X12_ways_5 (by decide) (fun c => ?_) (fun c => ?_)
  · replace h := g_ie c h
    refine GW_aload_n (X := X_X12_ways) (pc := 10) d_X12_ways_10 rfl 0 rfl ?_
    refine GW_iload_n (X := X_X12_ways) (pc := 11) d_X12_ways_11 rfl 1 rfl ?_
    replace h := g_bd h
    obtain ⟨M3, hM3, h⟩ := h
    refine GW_callV (X := X_X12_ways) (pc := 12) (bc0 := 0) (bs0 := 0) (r := none) (M2 := M3) (c0 := 12) (T_X12_gathersWays (some i1) l1 M M3 hM3) (Nat.le_of_ble_eq_true rfl) (Nat.le_of_ble_eq_true rfl) rfl g_cok12 ki1 yc_X12_gathersWays ⟨m_1619, m_1621, m_106, m_127, m_1622⟩ d_X12_ways_12 rfl (st := []) rfl (Nat.le_of_ble_eq_true rfl) (Nat.le_of_ble_eq_true rfl) (Nat.le_of_ble_eq_true rfl) (st2 := []) rfl ?_
    refine GW_aload_n (X := X_X12_ways) (pc := 15) d_X12_ways_15 rfl 0 rfl ?_
    replace h := g_bd h
    obtain ⟨v4, hv4, h⟩ := h
    refine GW_getI (X := X_X12_ways) (pc := 16) f_X12_404 d_X12_ways_16 hv4 (Or.inl ty_12_29) ?_
    replace h := Option.some.inj h
    subst h
    exact GW_ret (X := X_X12_ways) (pc := 19) d_X12_ways_19 rfl trivial
  · replace h := g_ip c h
    refine GW_iconst (X := X_X12_ways) (pc := 8) (v := -1) d_X12_ways_8 (by decide) ?_
    replace h := Option.some.inj h
    subst h
    exact GW_ret (X := X_X12_ways) (pc := 9) d_X12_ways_9 rfl trivial
def F_X12_ways (l0 : Option Nat) (l1 : Int32) (M : gM) : Option (Int32 × gM) := F_X12_ways_b0 l0 l1 M
theorem T_X12_ways (l0 : Option Nat) (l1 : Int32) (M : gM) (r : (Int32 × gM)) (h : F_X12_ways l0 l1 M = some r) : g_Met 4 0 0 yX12_ways X_X12_ways [vr l0, vi l1] M (some (vi r.1), r.2) :=
  g_Met_of pn_RX12 rfl (Nat.le_of_ble_eq_true rfl) (fun h => by cases h) (GW_sub [0, 1] rfl (T_X12_ways_b0 r l0 l1 M h))
/-! ForgetHeirs.taught(II)I -/
theorem d_X11_taught_0 : decode cX11_taught 0 = .ok (.aload_n 0, 1) := by decide +kernel
theorem d_X11_taught_1 : decode cX11_taught 1 = .ok (.iload_n 1, 1) := by decide +kernel
theorem d_X11_taught_2 : decode cX11_taught 2 = .ok (.invokevirtual 127, 3) := by decide +kernel
theorem d_X11_taught_5 : decode cX11_taught 5 = .ok (.ifCond .eq 11, 3) := by decide +kernel
theorem d_X11_taught_8 : decode cX11_taught 8 = .ok (.aload_n 0, 1) := by decide +kernel
theorem d_X11_taught_9 : decode cX11_taught 9 = .ok (.iload_n 2, 1) := by decide +kernel
theorem d_X11_taught_10 : decode cX11_taught 10 = .ok (.invokevirtual 154, 3) := by decide +kernel
theorem d_X11_taught_13 : decode cX11_taught 13 = .ok (.ifCond .ne 6, 3) := by decide +kernel
theorem d_X11_taught_16 : decode cX11_taught 16 = .ok (.bipush (-4), 2) := by decide +kernel
theorem d_X11_taught_18 : decode cX11_taught 18 = .ok (.ireturn, 1) := by decide +kernel
theorem d_X11_taught_19 : decode cX11_taught 19 = .ok (.aload_n 0, 1) := by decide +kernel
theorem d_X11_taught_20 : decode cX11_taught 20 = .ok (.getfield 25, 3) := by decide +kernel
theorem d_X11_taught_23 : decode cX11_taught 23 = .ok (.aload_n 0, 1) := by decide +kernel
theorem d_X11_taught_24 : decode cX11_taught 24 = .ok (.getfield 59, 3) := by decide +kernel
theorem d_X11_taught_27 : decode cX11_taught 27 = .ok (.iload_n 1, 1) := by decide +kernel
theorem d_X11_taught_28 : decode cX11_taught 28 = .ok (.iload_n 2, 1) := by decide +kernel
theorem d_X11_taught_29 : decode cX11_taught 29 = .ok (.invokevirtual 304, 3) := by decide +kernel
theorem d_X11_taught_32 : decode cX11_taught 32 = .ok (.ifCond .ne 6, 3) := by decide +kernel
theorem d_X11_taught_35 : decode cX11_taught 35 = .ok (.bipush (-3), 2) := by decide +kernel
theorem d_X11_taught_37 : decode cX11_taught 37 = .ok (.ireturn, 1) := by decide +kernel
theorem d_X11_taught_38 : decode cX11_taught 38 = .ok (.aload_n 0, 1) := by decide +kernel
theorem d_X11_taught_39 : decode cX11_taught 39 = .ok (.iload_n 1, 1) := by decide +kernel
theorem d_X11_taught_40 : decode cX11_taught 40 = .ok (.iload_n 2, 1) := by decide +kernel
theorem d_X11_taught_41 : decode cX11_taught 41 = .ok (.invokevirtual 294, 3) := by decide +kernel
theorem d_X11_taught_44 : decode cX11_taught 44 = .ok (.ifCond .ne 7, 3) := by decide +kernel
theorem d_X11_taught_47 : decode cX11_taught 47 = .ok (.iconst (-1), 1) := by decide +kernel
theorem d_X11_taught_48 : decode cX11_taught 48 = .ok (.goto 5, 3) := by decide +kernel
theorem d_X11_taught_51 : decode cX11_taught 51 = .ok (.bipush (-2), 2) := by decide +kernel
theorem d_X11_taught_53 : decode cX11_taught 53 = .ok (.ireturn, 1) := by decide +kernel
abbrev X_X11_taught : gX := (RX11, cX11_taught, 3, (some .int), false)
def F_X11_taught_b16 (M : gM) : Option Int32 :=
  some (-4 : Int32)
theorem T_X11_taught_b16 (M : gM) (r : Int32) (h : F_X11_taught_b16 M = some r) : GW 2 0 0 X_X11_taught 16 [] [] M (some (vi r), M) := by
  delta F_X11_taught_b16 at h
  refine GW_bipush (X := X_X11_taught) (pc := 16) (v := -4) d_X11_taught_16 (by decide) ?_
  replace h := Option.some.inj h
  subst h
  exact GW_ret (X := X_X11_taught) (pc := 18) d_X11_taught_18 rfl trivial
def F_X11_taught_b0 (M : gM) (l0 : Option Nat) (l1 : Int32) (l2 : Int32) : Option Int32 :=
  (gO 11 M l0).bind fun i1 => (F_X11_isHeir (some i1) l1 M).bind fun v2 => if v2 = 0 then (F_X11_taught_b16 M ) else ((F_X11_isThing (some i1) l2 M).bind fun v3 => if v3 = 0 then (F_X11_taught_b16 M ) else ((gR 11 M (some i1) 5).bind fun v4 => (gR 11 M (some i1) 11).bind fun v5 => (gO 8 M v4).bind fun i6 => (F_X8_errs (some i6) v5 l1 l2 M).bind fun v7 => if v7 = 0 then (some (-3 : Int32)) else ((F_X11_sharers (some i1) l1 l2 M).bind fun v8 => if v8 = 0 then (some (-1 : Int32)) else (some (-2 : Int32)))))
set_option maxHeartbeats 1000000 in
theorem T_X11_taught_b0 (M : gM) (r : Int32) (l0 : Option Nat) (l1 : Int32) (l2 : Int32) (h : F_X11_taught_b0 M l0 l1 l2 = some r) : GW 2 0 0 X_X11_taught 0 [(0, vr l0), (1, vi l1), (2, vi l2)] [] M (some (vi r), M) := by
  delta F_X11_taught_b0 at h
  refine GW_aload_n (X := X_X11_taught) (pc := 0) d_X11_taught_0 rfl 0 rfl ?_
  refine GW_iload_n (X := X_X11_taught) (pc := 1) d_X11_taught_1 rfl 1 rfl ?_
  replace h := g_bd h
  obtain ⟨i1, hi1, h⟩ := h
  obtain ⟨rfl, ki1⟩ := g_gO hi1
  replace h := g_bd h
  obtain ⟨v2, hv2, h⟩ := h
  refine GW_callV (X := X_X11_taught) (pc := 2) (bc0 := 0) (bs0 := 0) (r := some (vi v2)) (M2 := M) (c0 := 11) (T_X11_isHeir (some i1) l1 M v2 hv2) (Nat.le_of_ble_eq_true rfl) (Nat.le_of_ble_eq_true rfl) rfl g_cok11 ki1 yc_X11_isHeir ⟨m_768, m_770, m_20, m_116, m_771⟩ d_X11_taught_2 rfl (st := []) rfl (Nat.le_of_ble_eq_true rfl) (Nat.le_of_ble_eq_true rfl) (Nat.le_of_ble_eq_true rfl) (st2 := [vi v2]) rfl ?_
  refine GW_if_eq (X := X_X11_taught) (pc := 5) 16 d_X11_taught_5 (by decide) (fun c => ?_) (fun c => ?_)
  · replace h := g_ip c h
    refine GW_sub [] rfl ?_
    exact T_X11_taught_b16 M r  h
  · replace h := g_ie c h
    refine GW_aload_n (X := X_X11_taught) (pc := 8) d_X11_taught_8 rfl 0 rfl ?_
    refine GW_iload_n (X := X_X11_taught) (pc := 9) d_X11_taught_9 rfl 2 rfl ?_
    replace h := g_bd h
    obtain ⟨v3, hv3, h⟩ := h
    refine GW_callV (X := X_X11_taught) (pc := 10) (bc0 := 0) (bs0 := 0) (r := some (vi v3)) (M2 := M) (c0 := 11) (T_X11_isThing (some i1) l2 M v3 hv3) (Nat.le_of_ble_eq_true rfl) (Nat.le_of_ble_eq_true rfl) rfl g_cok11 ki1 yc_X11_isThing ⟨m_794, m_796, m_22, m_116, m_797⟩ d_X11_taught_10 rfl (st := []) rfl (Nat.le_of_ble_eq_true rfl) (Nat.le_of_ble_eq_true rfl) (Nat.le_of_ble_eq_true rfl) (st2 := [vi v3]) rfl ?_
    refine GW_if_ne (X := X_X11_taught) (pc := 13) 19 d_X11_taught_13 (by decide) (fun c => ?_) (fun c => ?_)
    · replace h := g_ie c h
      refine GW_aload_n (X := X_X11_taught) (pc := 19) d_X11_taught_19 rfl 0 rfl ?_
      replace h := g_bd h
      obtain ⟨v4, hv4, h⟩ := h
      refine GW_getR (X := X_X11_taught) (pc := 20) f_X11_25 d_X11_taught_20 hv4 (Or.inl ⟨_, ty_11_5⟩) ?_
      refine GW_aload_n (X := X_X11_taught) (pc := 23) d_X11_taught_23 rfl 0 rfl ?_
      replace h := g_bd h
      obtain ⟨v5, hv5, h⟩ := h
      refine GW_getR (X := X_X11_taught) (pc := 24) f_X11_59 d_X11_taught_24 hv5 (Or.inl ⟨_, ty_11_11⟩) ?_
      refine GW_iload_n (X := X_X11_taught) (pc := 27) d_X11_taught_27 rfl 1 rfl ?_
      refine GW_iload_n (X := X_X11_taught) (pc := 28) d_X11_taught_28 rfl 2 rfl ?_
      replace h := g_bd h
      obtain ⟨i6, hi6, h⟩ := h
      obtain ⟨rfl, ki6⟩ := g_gO hi6
      replace h := g_bd h
      obtain ⟨v7, hv7, h⟩ := h
      refine GW_callV (X := X_X11_taught) (pc := 29) (bc0 := 0) (bs0 := 0) (r := some (vi v7)) (M2 := M) (c0 := 8) (T_X8_errs (some i6) v5 l1 l2 M v7 hv7) (Nat.le_of_ble_eq_true rfl) (Nat.le_of_ble_eq_true rfl) rfl g_cok8 ki6 yc_X8_errs ⟨m_1054, m_936, m_937, m_119, m_938⟩ d_X11_taught_29 rfl (st := []) rfl (Nat.le_of_ble_eq_true rfl) (Nat.le_of_ble_eq_true rfl) (Nat.le_of_ble_eq_true rfl) (st2 := [vi v7]) rfl ?_
      refine GW_if_ne (X := X_X11_taught) (pc := 32) 38 d_X11_taught_32 (by decide) (fun c => ?_) (fun c => ?_)
      · replace h := g_ie c h
        refine GW_aload_n (X := X_X11_taught) (pc := 38) d_X11_taught_38 rfl 0 rfl ?_
        refine GW_iload_n (X := X_X11_taught) (pc := 39) d_X11_taught_39 rfl 1 rfl ?_
        refine GW_iload_n (X := X_X11_taught) (pc := 40) d_X11_taught_40 rfl 2 rfl ?_
        replace h := g_bd h
        obtain ⟨v8, hv8, h⟩ := h
        refine GW_callV (X := X_X11_taught) (pc := 41) (bc0 := 0) (bs0 := 0) (r := some (vi v8)) (M2 := M) (c0 := 11) (T_X11_sharers (some i1) l1 l2 M v8 hv8) (Nat.le_of_ble_eq_true rfl) (Nat.le_of_ble_eq_true rfl) rfl g_cok11 ki1 yc_X11_sharers ⟨m_1050, m_1052, m_37, m_116, m_1053⟩ d_X11_taught_41 rfl (st := []) rfl (Nat.le_of_ble_eq_true rfl) (Nat.le_of_ble_eq_true rfl) (Nat.le_of_ble_eq_true rfl) (st2 := [vi v8]) rfl ?_
        refine GW_if_ne (X := X_X11_taught) (pc := 44) 51 d_X11_taught_44 (by decide) (fun c => ?_) (fun c => ?_)
        · replace h := g_ie c h
          refine GW_bipush (X := X_X11_taught) (pc := 51) (v := -2) d_X11_taught_51 (by decide) ?_
          replace h := Option.some.inj h
          subst h
          exact GW_ret (X := X_X11_taught) (pc := 53) d_X11_taught_53 rfl trivial
        · replace h := g_ip c h
          refine GW_iconst (X := X_X11_taught) (pc := 47) (v := -1) d_X11_taught_47 (by decide) ?_
          refine GW_goto (X := X_X11_taught) (pc := 48) 53 d_X11_taught_48 (by decide) ?_
          replace h := Option.some.inj h
          subst h
          exact GW_ret (X := X_X11_taught) (pc := 53) d_X11_taught_53 rfl trivial
      · replace h := g_ip c h
        refine GW_bipush (X := X_X11_taught) (pc := 35) (v := -3) d_X11_taught_35 (by decide) ?_
        replace h := Option.some.inj h
        subst h
        exact GW_ret (X := X_X11_taught) (pc := 37) d_X11_taught_37 rfl trivial
    · replace h := g_ip c h
      refine GW_sub [] rfl ?_
      exact T_X11_taught_b16 M r  h
def F_X11_taught (l0 : Option Nat) (l1 : Int32) (l2 : Int32) (M : gM) : Option Int32 := F_X11_taught_b0 M l0 l1 l2
theorem T_X11_taught (l0 : Option Nat) (l1 : Int32) (l2 : Int32) (M : gM) (r : Int32) (h : F_X11_taught l0 l1 l2 M = some r) : g_Met 2 0 0 yX11_taught X_X11_taught [vr l0, vi l1, vi l2] M (some (vi r), M) :=
  g_Met_of pn_RX11 rfl (Nat.le_of_ble_eq_true rfl) (fun h => by cases h) (GW_sub [0, 1, 2] rfl (T_X11_taught_b0 M r l0 l1 l2 h))
/-! ForgetHeirsModel.taught(II)I -/
theorem d_X12_taught_0 : decode cX12_taught 0 = .ok (.aload_n 0, 1) := by decide +kernel
theorem d_X12_taught_1 : decode cX12_taught 1 = .ok (.iload_n 1, 1) := by decide +kernel
theorem d_X12_taught_2 : decode cX12_taught 2 = .ok (.invokevirtual 322, 3) := by decide +kernel
theorem d_X12_taught_5 : decode cX12_taught 5 = .ok (.ifCond .eq 11, 3) := by decide +kernel
theorem d_X12_taught_8 : decode cX12_taught 8 = .ok (.aload_n 0, 1) := by decide +kernel
theorem d_X12_taught_9 : decode cX12_taught 9 = .ok (.iload_n 2, 1) := by decide +kernel
theorem d_X12_taught_10 : decode cX12_taught 10 = .ok (.invokevirtual 327, 3) := by decide +kernel
theorem d_X12_taught_13 : decode cX12_taught 13 = .ok (.ifCond .ne 6, 3) := by decide +kernel
theorem d_X12_taught_16 : decode cX12_taught 16 = .ok (.bipush (-4), 2) := by decide +kernel
theorem d_X12_taught_18 : decode cX12_taught 18 = .ok (.ireturn, 1) := by decide +kernel
theorem d_X12_taught_19 : decode cX12_taught 19 = .ok (.aload_n 0, 1) := by decide +kernel
theorem d_X12_taught_20 : decode cX12_taught 20 = .ok (.iload_n 1, 1) := by decide +kernel
theorem d_X12_taught_21 : decode cX12_taught 21 = .ok (.iload_n 2, 1) := by decide +kernel
theorem d_X12_taught_22 : decode cX12_taught 22 = .ok (.invokevirtual 410, 3) := by decide +kernel
theorem d_X12_taught_25 : decode cX12_taught 25 = .ok (.ifCond .ne 6, 3) := by decide +kernel
theorem d_X12_taught_28 : decode cX12_taught 28 = .ok (.bipush (-3), 2) := by decide +kernel
theorem d_X12_taught_30 : decode cX12_taught 30 = .ok (.ireturn, 1) := by decide +kernel
theorem d_X12_taught_31 : decode cX12_taught 31 = .ok (.aload_n 0, 1) := by decide +kernel
theorem d_X12_taught_32 : decode cX12_taught 32 = .ok (.iload_n 2, 1) := by decide +kernel
theorem d_X12_taught_33 : decode cX12_taught 33 = .ok (.invokevirtual 419, 3) := by decide +kernel
theorem d_X12_taught_36 : decode cX12_taught 36 = .ok (.iconst 0, 1) := by decide +kernel
theorem d_X12_taught_37 : decode cX12_taught 37 = .ok (.istore_n 3, 1) := by decide +kernel
theorem d_X12_taught_38 : decode cX12_taught 38 = .ok (.iload_n 3, 1) := by decide +kernel
theorem d_X12_taught_39 : decode cX12_taught 39 = .ok (.bipush 7, 2) := by decide +kernel
theorem d_X12_taught_41 : decode cX12_taught 41 = .ok (.if_icmp .gt 39, 3) := by decide +kernel
theorem d_X12_taught_44 : decode cX12_taught 44 = .ok (.aload_n 0, 1) := by decide +kernel
theorem d_X12_taught_45 : decode cX12_taught 45 = .ok (.getfield 58, 3) := by decide +kernel
theorem d_X12_taught_48 : decode cX12_taught 48 = .ok (.bipush 8, 2) := by decide +kernel
theorem d_X12_taught_50 : decode cX12_taught 50 = .ok (.iload_n 1, 1) := by decide +kernel
theorem d_X12_taught_51 : decode cX12_taught 51 = .ok (.imul, 1) := by decide +kernel
theorem d_X12_taught_52 : decode cX12_taught 52 = .ok (.iload_n 3, 1) := by decide +kernel
theorem d_X12_taught_53 : decode cX12_taught 53 = .ok (.iadd, 1) := by decide +kernel
theorem d_X12_taught_54 : decode cX12_taught 54 = .ok (.iaload, 1) := by decide +kernel
theorem d_X12_taught_55 : decode cX12_taught 55 = .ok (.aload_n 0, 1) := by decide +kernel
theorem d_X12_taught_56 : decode cX12_taught 56 = .ok (.getfield 404, 3) := by decide +kernel
theorem d_X12_taught_59 : decode cX12_taught 59 = .ok (.if_icmp .ne 15, 3) := by decide +kernel
theorem d_X12_taught_62 : decode cX12_taught 62 = .ok (.iload_n 3, 1) := by decide +kernel
theorem d_X12_taught_63 : decode cX12_taught 63 = .ok (.bipush 7, 2) := by decide +kernel
theorem d_X12_taught_65 : decode cX12_taught 65 = .ok (.if_icmp .ne 7, 3) := by decide +kernel
theorem d_X12_taught_68 : decode cX12_taught 68 = .ok (.iconst (-1), 1) := by decide +kernel
theorem d_X12_taught_69 : decode cX12_taught 69 = .ok (.goto 4, 3) := by decide +kernel
theorem d_X12_taught_72 : decode cX12_taught 72 = .ok (.iload_n 3, 1) := by decide +kernel
theorem d_X12_taught_73 : decode cX12_taught 73 = .ok (.ireturn, 1) := by decide +kernel
theorem d_X12_taught_74 : decode cX12_taught 74 = .ok (.iinc 3 1, 3) := by decide +kernel
theorem d_X12_taught_77 : decode cX12_taught 77 = .ok (.goto (-39), 3) := by decide +kernel
theorem d_X12_taught_80 : decode cX12_taught 80 = .ok (.bipush (-2), 2) := by decide +kernel
theorem d_X12_taught_82 : decode cX12_taught 82 = .ok (.ireturn, 1) := by decide +kernel
abbrev X_X12_taught : gX := (RX12, cX12_taught, 4, (some .int), false)
def F_X12_taught_b16 (M : gM) : Option (Int32 × gM) :=
  some ((-4 : Int32), M)
theorem T_X12_taught_b16 (r : (Int32 × gM)) (M : gM) (h : F_X12_taught_b16 M = some r) : GW 4 0 0 X_X12_taught 16 [] [] M (some (vi r.1), r.2) := by
  delta F_X12_taught_b16 at h
  refine GW_bipush (X := X_X12_taught) (pc := 16) (v := -4) d_X12_taught_16 (by decide) ?_
  replace h := Option.some.inj h
  subst h
  exact GW_ret (X := X_X12_taught) (pc := 18) d_X12_taught_18 rfl trivial
def F_X12_taught_b38 (k38 : Option Nat → Int32 → Int32 → gM → Option (Int32 × gM)) (l0 : Option Nat) (l1 : Int32) (l3 : Int32) (M : gM) : Option (Int32 × gM) :=
  if (7 : Int32) < l3 then (some ((-2 : Int32), M)) else ((gR 12 M l0 28).bind fun v1 => (aI 20 M v1 (((8 : Int32) * l1) + l3)).bind fun v2 => (gI 12 M l0 29).bind fun v3 => if v2 = v3 then (if l3 = (7 : Int32) then (some ((-1 : Int32), M)) else (some (l3, M))) else (k38 l0 l1 (l3 + 1) M))
set_option maxHeartbeats 1000000 in
theorem T_X12_taught_b38 (k38 : Option Nat → Int32 → Int32 → gM → Option (Int32 × gM)) (r : (Int32 × gM)) (hk38 : ∀ (l0 : Option Nat) (l1 : Int32) (l3 : Int32) (M : gM), k38 l0 l1 l3 M = some r → GW 4 0 0 X_X12_taught 38 [(0, vr l0), (1, vi l1), (3, vi l3)] [] M (some (vi r.1), r.2)) (l0 : Option Nat) (l1 : Int32) (l3 : Int32) (M : gM) (h : F_X12_taught_b38 k38 l0 l1 l3 M = some r) : GW 4 0 0 X_X12_taught 38 [(0, vr l0), (1, vi l1), (3, vi l3)] [] M (some (vi r.1), r.2) := by
  delta F_X12_taught_b38 at h
  refine GW_iload_n (X := X_X12_taught) (pc := 38) d_X12_taught_38 rfl 2 rfl ?_
  refine GW_bipush (X := X_X12_taught) (pc := 39) (v := 7) d_X12_taught_39 (by decide) ?_
  refine GW_icmp_gt (X := X_X12_taught) (pc := 41) 80 d_X12_taught_41 (by decide) (fun c => ?_) (fun c => ?_)
  · replace h := g_ip c h
    refine GW_bipush (X := X_X12_taught) (pc := 80) (v := -2) d_X12_taught_80 (by decide) ?_
    replace h := Option.some.inj h
    subst h
    exact GW_ret (X := X_X12_taught) (pc := 82) d_X12_taught_82 rfl trivial
  · replace h := g_ie c h
    refine GW_aload_n (X := X_X12_taught) (pc := 44) d_X12_taught_44 rfl 0 rfl ?_
    replace h := g_bd h
    obtain ⟨v1, hv1, h⟩ := h
    refine GW_getR (X := X_X12_taught) (pc := 45) f_X12_58 d_X12_taught_45 hv1 (Or.inr ⟨_, ty_12_28⟩) ?_
    refine GW_bipush (X := X_X12_taught) (pc := 48) (v := 8) d_X12_taught_48 (by decide) ?_
    refine GW_iload_n (X := X_X12_taught) (pc := 50) d_X12_taught_50 rfl 1 rfl ?_
    refine GW_imul (X := X_X12_taught) (pc := 51) d_X12_taught_51 ?_
    refine GW_iload_n (X := X_X12_taught) (pc := 52) d_X12_taught_52 rfl 2 rfl ?_
    refine GW_iadd (X := X_X12_taught) (pc := 53) d_X12_taught_53 ?_
    replace h := g_bd h
    obtain ⟨v2, hv2, h⟩ := h
    refine GW_iald (X := X_X12_taught) (pc := 54) d_X12_taught_54 hv2 ?_
    refine GW_aload_n (X := X_X12_taught) (pc := 55) d_X12_taught_55 rfl 0 rfl ?_
    replace h := g_bd h
    obtain ⟨v3, hv3, h⟩ := h
    refine GW_getI (X := X_X12_taught) (pc := 56) f_X12_404 d_X12_taught_56 hv3 (Or.inl ty_12_29) ?_
    refine GW_icmp_ne (X := X_X12_taught) (pc := 59) 74 d_X12_taught_59 (by decide) (fun c => ?_) (fun c => ?_)
    · replace h := g_ie c h
      refine GW_iinc (j := 2) (X := X_X12_taught) (pc := 74) d_X12_taught_74 rfl (congrArg (fun z => _ + z) (by decide : Int32.ofInt 1 = (1 : Int32))) (Nat.le_of_ble_eq_true rfl) (lv2 := [(3, vi (l3 + 1)), (0, vr l0), (1, vi l1)]) rfl ?_
      refine GW_goto (X := X_X12_taught) (pc := 77) 38 d_X12_taught_77 (by decide) ?_
      refine GW_sub [1, 2, 0] rfl ?_
      exact hk38 l0 l1 (l3 + 1) M h
    · replace h := g_ip c h
      refine GW_iload_n (X := X_X12_taught) (pc := 62) d_X12_taught_62 rfl 2 rfl ?_
      refine GW_bipush (X := X_X12_taught) (pc := 63) (v := 7) d_X12_taught_63 (by decide) ?_
      refine GW_icmp_ne (X := X_X12_taught) (pc := 65) 72 d_X12_taught_65 (by decide) (fun c => ?_) (fun c => ?_)
      · replace h := g_ie c h
        refine GW_iload_n (X := X_X12_taught) (pc := 72) d_X12_taught_72 rfl 2 rfl ?_
        replace h := Option.some.inj h
        subst h
        exact GW_ret (X := X_X12_taught) (pc := 73) d_X12_taught_73 rfl trivial
      · replace h := g_ip c h
        refine GW_iconst (X := X_X12_taught) (pc := 68) (v := -1) d_X12_taught_68 (by decide) ?_
        refine GW_goto (X := X_X12_taught) (pc := 69) 73 d_X12_taught_69 (by decide) ?_
        replace h := Option.some.inj h
        subst h
        exact GW_ret (X := X_X12_taught) (pc := 73) d_X12_taught_73 rfl trivial
def F_X12_taught_L38 : Nat → Option Nat → Int32 → Int32 → gM → Option (Int32 × gM)
  | 0 => fun _ _ _ _ => none
  | n + 1 => F_X12_taught_b38 (F_X12_taught_L38 n)
theorem T_X12_taught_L38 (r : (Int32 × gM)) : ∀ (n : Nat) (l0 : Option Nat) (l1 : Int32) (l3 : Int32) (M : gM), F_X12_taught_L38 n l0 l1 l3 M = some r → GW 4 0 0 X_X12_taught 38 [(0, vr l0), (1, vi l1), (3, vi l3)] [] M (some (vi r.1), r.2) := by
  intro n
  induction n with
  | zero => intro l0 l1 l3 M h; exact g_no h
  | succ n ih => intro l0 l1 l3 M h; exact T_X12_taught_b38 (F_X12_taught_L38 n) r ih l0 l1 l3 M h
def F_X12_taught_b0 (l0 : Option Nat) (l1 : Int32) (l2 : Int32) (M : gM) : Option (Int32 × gM) :=
  (gO 12 M l0).bind fun i1 => (F_X12_isHeir (some i1) l1 M).bind fun v2 => if v2 = 0 then (F_X12_taught_b16 M) else ((F_X12_isThing (some i1) l2 M).bind fun v3 => if v3 = 0 then (F_X12_taught_b16 M) else ((F_X12_isWrong (some i1) l1 l2 M).bind fun v4 => if v4 = 0 then (some ((-3 : Int32), M)) else ((F_X12_gathersWays (some i1) l2 M).bind fun M5 => F_X12_taught_L38 g_fuel (some i1) l1 (0 : Int32) M5)))
set_option maxHeartbeats 1000000 in
theorem T_X12_taught_b0 (r : (Int32 × gM)) (l0 : Option Nat) (l1 : Int32) (l2 : Int32) (M : gM) (h : F_X12_taught_b0 l0 l1 l2 M = some r) : GW 4 0 0 X_X12_taught 0 [(0, vr l0), (1, vi l1), (2, vi l2)] [] M (some (vi r.1), r.2) := by
  delta F_X12_taught_b0 at h
  refine GW_aload_n (X := X_X12_taught) (pc := 0) d_X12_taught_0 rfl 0 rfl ?_
  refine GW_iload_n (X := X_X12_taught) (pc := 1) d_X12_taught_1 rfl 1 rfl ?_
  replace h := g_bd h
  obtain ⟨i1, hi1, h⟩ := h
  obtain ⟨rfl, ki1⟩ := g_gO hi1
  replace h := g_bd h
  obtain ⟨v2, hv2, h⟩ := h
  refine GW_callV (X := X_X12_taught) (pc := 2) (bc0 := 0) (bs0 := 0) (r := some (vi v2)) (M2 := M) (c0 := 12) (T_X12_isHeir (some i1) l1 M v2 hv2) (Nat.le_of_ble_eq_true rfl) (Nat.le_of_ble_eq_true rfl) rfl g_cok12 ki1 yc_X12_isHeir ⟨m_1415, m_1417, m_76, m_127, m_1418⟩ d_X12_taught_2 rfl (st := []) rfl (Nat.le_of_ble_eq_true rfl) (Nat.le_of_ble_eq_true rfl) (Nat.le_of_ble_eq_true rfl) (st2 := [vi v2]) rfl ?_
  refine GW_if_eq (X := X_X12_taught) (pc := 5) 16 d_X12_taught_5 (by decide) (fun c => ?_) (fun c => ?_)
  · replace h := g_ip c h
    refine GW_sub [] rfl ?_
    exact T_X12_taught_b16 r M h
  · replace h := g_ie c h
    refine GW_aload_n (X := X_X12_taught) (pc := 8) d_X12_taught_8 rfl 0 rfl ?_
    refine GW_iload_n (X := X_X12_taught) (pc := 9) d_X12_taught_9 rfl 2 rfl ?_
    replace h := g_bd h
    obtain ⟨v3, hv3, h⟩ := h
    refine GW_callV (X := X_X12_taught) (pc := 10) (bc0 := 0) (bs0 := 0) (r := some (vi v3)) (M2 := M) (c0 := 12) (T_X12_isThing (some i1) l2 M v3 hv3) (Nat.le_of_ble_eq_true rfl) (Nat.le_of_ble_eq_true rfl) rfl g_cok12 ki1 yc_X12_isThing ⟨m_1448, m_1450, m_83, m_127, m_1451⟩ d_X12_taught_10 rfl (st := []) rfl (Nat.le_of_ble_eq_true rfl) (Nat.le_of_ble_eq_true rfl) (Nat.le_of_ble_eq_true rfl) (st2 := [vi v3]) rfl ?_
    refine GW_if_ne (X := X_X12_taught) (pc := 13) 19 d_X12_taught_13 (by decide) (fun c => ?_) (fun c => ?_)
    · replace h := g_ie c h
      refine GW_aload_n (X := X_X12_taught) (pc := 19) d_X12_taught_19 rfl 0 rfl ?_
      refine GW_iload_n (X := X_X12_taught) (pc := 20) d_X12_taught_20 rfl 1 rfl ?_
      refine GW_iload_n (X := X_X12_taught) (pc := 21) d_X12_taught_21 rfl 2 rfl ?_
      replace h := g_bd h
      obtain ⟨v4, hv4, h⟩ := h
      refine GW_callV (X := X_X12_taught) (pc := 22) (bc0 := 0) (bs0 := 0) (r := some (vi v4)) (M2 := M) (c0 := 12) (T_X12_isWrong (some i1) l1 l2 M v4 hv4) (Nat.le_of_ble_eq_true rfl) (Nat.le_of_ble_eq_true rfl) rfl g_cok12 ki1 yc_X12_isWrong ⟨m_1627, m_1629, m_108, m_127, m_1630⟩ d_X12_taught_22 rfl (st := []) rfl (Nat.le_of_ble_eq_true rfl) (Nat.le_of_ble_eq_true rfl) (Nat.le_of_ble_eq_true rfl) (st2 := [vi v4]) rfl ?_
      refine GW_if_ne (X := X_X12_taught) (pc := 25) 31 d_X12_taught_25 (by decide) (fun c => ?_) (fun c => ?_)
      · replace h := g_ie c h
        refine GW_aload_n (X := X_X12_taught) (pc := 31) d_X12_taught_31 rfl 0 rfl ?_
        refine GW_iload_n (X := X_X12_taught) (pc := 32) d_X12_taught_32 rfl 2 rfl ?_
        replace h := g_bd h
        obtain ⟨M5, hM5, h⟩ := h
        refine GW_callV (X := X_X12_taught) (pc := 33) (bc0 := 0) (bs0 := 0) (r := none) (M2 := M5) (c0 := 12) (T_X12_gathersWays (some i1) l2 M M5 hM5) (Nat.le_of_ble_eq_true rfl) (Nat.le_of_ble_eq_true rfl) rfl g_cok12 ki1 yc_X12_gathersWays ⟨m_1619, m_1621, m_106, m_127, m_1622⟩ d_X12_taught_33 rfl (st := []) rfl (Nat.le_of_ble_eq_true rfl) (Nat.le_of_ble_eq_true rfl) (Nat.le_of_ble_eq_true rfl) (st2 := []) rfl ?_
        refine GW_iconst (X := X_X12_taught) (pc := 36) (v := 0) d_X12_taught_36 (by decide) ?_
        refine GW_istore_n (X := X_X12_taught) (pc := 37) d_X12_taught_37 rfl (Nat.le_of_ble_eq_true rfl) (lv2 := [(3, vi (0 : Int32)), (0, vr (some i1)), (1, vi l1), (2, vi l2)]) rfl ?_
        refine GW_sub [1, 2, 0] rfl ?_
        exact T_X12_taught_L38 r g_fuel (some i1) l1 (0 : Int32) M5 h
      · replace h := g_ip c h
        refine GW_bipush (X := X_X12_taught) (pc := 28) (v := -3) d_X12_taught_28 (by decide) ?_
        replace h := Option.some.inj h
        subst h
        exact GW_ret (X := X_X12_taught) (pc := 30) d_X12_taught_30 rfl trivial
    · replace h := g_ip c h
      refine GW_sub [] rfl ?_
      exact T_X12_taught_b16 r M h
def F_X12_taught (l0 : Option Nat) (l1 : Int32) (l2 : Int32) (M : gM) : Option (Int32 × gM) := F_X12_taught_b0 l0 l1 l2 M
theorem T_X12_taught (l0 : Option Nat) (l1 : Int32) (l2 : Int32) (M : gM) (r : (Int32 × gM)) (h : F_X12_taught l0 l1 l2 M = some r) : g_Met 4 0 0 yX12_taught X_X12_taught [vr l0, vi l1, vi l2] M (some (vi r.1), r.2) :=
  g_Met_of pn_RX12 rfl (Nat.le_of_ble_eq_true rfl) (fun h => by cases h) (GW_sub [0, 1, 2] rfl (T_X12_taught_b0 r l0 l1 l2 M h))
/-! ForgetHeirs.prompts(III)I -/
theorem d_X11_prompts_0 : decode cX11_prompts 0 = .ok (.aload_n 0, 1) := by decide +kernel
theorem d_X11_prompts_1 : decode cX11_prompts 1 = .ok (.iload_n 1, 1) := by decide +kernel
theorem d_X11_prompts_2 : decode cX11_prompts 2 = .ok (.iload_n 2, 1) := by decide +kernel
theorem d_X11_prompts_3 : decode cX11_prompts 3 = .ok (.invokevirtual 218, 3) := by decide +kernel
theorem d_X11_prompts_6 : decode cX11_prompts 6 = .ok (.ifCond .eq 14, 3) := by decide +kernel
theorem d_X11_prompts_9 : decode cX11_prompts 9 = .ok (.iload_n 3, 1) := by decide +kernel
theorem d_X11_prompts_10 : decode cX11_prompts 10 = .ok (.iconst 1, 1) := by decide +kernel
theorem d_X11_prompts_11 : decode cX11_prompts 11 = .ok (.if_icmp .lt 9, 3) := by decide +kernel
theorem d_X11_prompts_14 : decode cX11_prompts 14 = .ok (.iload_n 3, 1) := by decide +kernel
theorem d_X11_prompts_15 : decode cX11_prompts 15 = .ok (.bipush 40, 2) := by decide +kernel
theorem d_X11_prompts_17 : decode cX11_prompts 17 = .ok (.if_icmp .le 5, 3) := by decide +kernel
theorem d_X11_prompts_20 : decode cX11_prompts 20 = .ok (.iconst (-1), 1) := by decide +kernel
theorem d_X11_prompts_21 : decode cX11_prompts 21 = .ok (.ireturn, 1) := by decide +kernel
theorem d_X11_prompts_22 : decode cX11_prompts 22 = .ok (.aload_n 0, 1) := by decide +kernel
theorem d_X11_prompts_23 : decode cX11_prompts 23 = .ok (.invokevirtual 211, 3) := by decide +kernel
theorem d_X11_prompts_26 : decode cX11_prompts 26 = .ok (.ifnull 6, 3) := by decide +kernel
theorem d_X11_prompts_29 : decode cX11_prompts 29 = .ok (.bipush (-3), 2) := by decide +kernel
theorem d_X11_prompts_31 : decode cX11_prompts 31 = .ok (.ireturn, 1) := by decide +kernel
theorem d_X11_prompts_32 : decode cX11_prompts 32 = .ok (.aload_n 0, 1) := by decide +kernel
theorem d_X11_prompts_33 : decode cX11_prompts 33 = .ok (.getfield 25, 3) := by decide +kernel
theorem d_X11_prompts_36 : decode cX11_prompts 36 = .ok (.getfield 178, 3) := by decide +kernel
theorem d_X11_prompts_39 : decode cX11_prompts 39 = .ok (.iload_n 1, 1) := by decide +kernel
theorem d_X11_prompts_40 : decode cX11_prompts 40 = .ok (.bipush 7, 2) := by decide +kernel
theorem d_X11_prompts_42 : decode cX11_prompts 42 = .ok (.imul, 1) := by decide +kernel
theorem d_X11_prompts_43 : decode cX11_prompts 43 = .ok (.iload_n 2, 1) := by decide +kernel
theorem d_X11_prompts_44 : decode cX11_prompts 44 = .ok (.iadd, 1) := by decide +kernel
theorem d_X11_prompts_45 : decode cX11_prompts 45 = .ok (.iaload, 1) := by decide +kernel
theorem d_X11_prompts_46 : decode cX11_prompts 46 = .ok (.istore 4, 2) := by decide +kernel
theorem d_X11_prompts_48 : decode cX11_prompts 48 = .ok (.iconst 0, 1) := by decide +kernel
theorem d_X11_prompts_49 : decode cX11_prompts 49 = .ok (.istore 5, 2) := by decide +kernel
theorem d_X11_prompts_51 : decode cX11_prompts 51 = .ok (.iconst 0, 1) := by decide +kernel
theorem d_X11_prompts_52 : decode cX11_prompts 52 = .ok (.istore 6, 2) := by decide +kernel
theorem d_X11_prompts_54 : decode cX11_prompts 54 = .ok (.iload 6, 2) := by decide +kernel
theorem d_X11_prompts_56 : decode cX11_prompts 56 = .ok (.iload_n 3, 1) := by decide +kernel
theorem d_X11_prompts_57 : decode cX11_prompts 57 = .ok (.if_icmp .ge 98, 3) := by decide +kernel
theorem d_X11_prompts_60 : decode cX11_prompts 60 = .ok (.bipush 99, 2) := by decide +kernel
theorem d_X11_prompts_62 : decode cX11_prompts 62 = .ok (.aload_n 0, 1) := by decide +kernel
theorem d_X11_prompts_63 : decode cX11_prompts 63 = .ok (.getfield 25, 3) := by decide +kernel
theorem d_X11_prompts_66 : decode cX11_prompts 66 = .ok (.getfield 131, 3) := by decide +kernel
theorem d_X11_prompts_69 : decode cX11_prompts 69 = .ok (.iload_n 1, 1) := by decide +kernel
theorem d_X11_prompts_70 : decode cX11_prompts 70 = .ok (.iaload, 1) := by decide +kernel
theorem d_X11_prompts_71 : decode cX11_prompts 71 = .ok (.iload 6, 2) := by decide +kernel
theorem d_X11_prompts_73 : decode cX11_prompts 73 = .ok (.iadd, 1) := by decide +kernel
theorem d_X11_prompts_74 : decode cX11_prompts 74 = .ok (.invokestatic 258, 3) := by decide +kernel
theorem d_X11_prompts_77 : decode cX11_prompts 77 = .ok (.istore 7, 2) := by decide +kernel
theorem d_X11_prompts_79 : decode cX11_prompts 79 = .ok (.aload_n 0, 1) := by decide +kernel
theorem d_X11_prompts_80 : decode cX11_prompts 80 = .ok (.getfield 59, 3) := by decide +kernel
theorem d_X11_prompts_83 : decode cX11_prompts 83 = .ok (.iload_n 1, 1) := by decide +kernel
theorem d_X11_prompts_84 : decode cX11_prompts 84 = .ok (.iload_n 2, 1) := by decide +kernel
theorem d_X11_prompts_85 : decode cX11_prompts 85 = .ok (.iload 7, 2) := by decide +kernel
theorem d_X11_prompts_87 : decode cX11_prompts 87 = .ok (.aload_n 0, 1) := by decide +kernel
theorem d_X11_prompts_88 : decode cX11_prompts 88 = .ok (.getfield 25, 3) := by decide +kernel
theorem d_X11_prompts_91 : decode cX11_prompts 91 = .ok (.getfield 169, 3) := by decide +kernel
theorem d_X11_prompts_94 : decode cX11_prompts 94 = .ok (.invokevirtual 263, 3) := by decide +kernel
theorem d_X11_prompts_97 : decode cX11_prompts 97 = .ok (.istore 8, 2) := by decide +kernel
theorem d_X11_prompts_99 : decode cX11_prompts 99 = .ok (.iconst 0, 1) := by decide +kernel
theorem d_X11_prompts_100 : decode cX11_prompts 100 = .ok (.istore 9, 2) := by decide +kernel
theorem d_X11_prompts_102 : decode cX11_prompts 102 = .ok (.iload 9, 2) := by decide +kernel
theorem d_X11_prompts_104 : decode cX11_prompts 104 = .ok (.bipush 10, 2) := by decide +kernel
theorem d_X11_prompts_106 : decode cX11_prompts 106 = .ok (.if_icmp .ge 26, 3) := by decide +kernel
theorem d_X11_prompts_109 : decode cX11_prompts 109 = .ok (.iload 4, 2) := by decide +kernel
theorem d_X11_prompts_111 : decode cX11_prompts 111 = .ok (.iload 8, 2) := by decide +kernel
theorem d_X11_prompts_113 : decode cX11_prompts 113 = .ok (.if_icmp .gt 19, 3) := by decide +kernel
theorem d_X11_prompts_116 : decode cX11_prompts 116 = .ok (.iload 4, 2) := by decide +kernel
theorem d_X11_prompts_118 : decode cX11_prompts 118 = .ok (.invokestatic 230, 3) := by decide +kernel
theorem d_X11_prompts_121 : decode cX11_prompts 121 = .ok (.istore 4, 2) := by decide +kernel
theorem d_X11_prompts_123 : decode cX11_prompts 123 = .ok (.iinc 5 1, 3) := by decide +kernel
theorem d_X11_prompts_126 : decode cX11_prompts 126 = .ok (.iinc 9 1, 3) := by decide +kernel
theorem d_X11_prompts_129 : decode cX11_prompts 129 = .ok (.goto (-27), 3) := by decide +kernel
theorem d_X11_prompts_132 : decode cX11_prompts 132 = .ok (.iload 4, 2) := by decide +kernel
theorem d_X11_prompts_134 : decode cX11_prompts 134 = .ok (.iload 8, 2) := by decide +kernel
theorem d_X11_prompts_136 : decode cX11_prompts 136 = .ok (.if_icmp .gt 6, 3) := by decide +kernel
theorem d_X11_prompts_139 : decode cX11_prompts 139 = .ok (.bipush (-2), 2) := by decide +kernel
theorem d_X11_prompts_141 : decode cX11_prompts 141 = .ok (.ireturn, 1) := by decide +kernel
theorem d_X11_prompts_142 : decode cX11_prompts 142 = .ok (.iload 4, 2) := by decide +kernel
theorem d_X11_prompts_144 : decode cX11_prompts 144 = .ok (.iload 8, 2) := by decide +kernel
theorem d_X11_prompts_146 : decode cX11_prompts 146 = .ok (.isub, 1) := by decide +kernel
theorem d_X11_prompts_147 : decode cX11_prompts 147 = .ok (.istore 4, 2) := by decide +kernel
theorem d_X11_prompts_149 : decode cX11_prompts 149 = .ok (.iinc 6 1, 3) := by decide +kernel
theorem d_X11_prompts_152 : decode cX11_prompts 152 = .ok (.goto (-98), 3) := by decide +kernel
theorem d_X11_prompts_155 : decode cX11_prompts 155 = .ok (.iload 5, 2) := by decide +kernel
theorem d_X11_prompts_157 : decode cX11_prompts 157 = .ok (.ireturn, 1) := by decide +kernel
abbrev X_X11_prompts : gX := (RX11, cX11_prompts, 10, (some .int), false)
def F_X11_prompts_b20 (M : gM) : Option Int32 :=
  some (-1 : Int32)
theorem T_X11_prompts_b20 (M : gM) (r : Int32) (h : F_X11_prompts_b20 M = some r) : GW 2 0 0 X_X11_prompts 20 [] [] M (some (vi r), M) := by
  delta F_X11_prompts_b20 at h
  refine GW_iconst (X := X_X11_prompts) (pc := 20) (v := -1) d_X11_prompts_20 (by decide) ?_
  replace h := Option.some.inj h
  subst h
  exact GW_ret (X := X_X11_prompts) (pc := 21) d_X11_prompts_21 rfl trivial
def F_X11_prompts_b132 (k54 : Option Nat → Int32 → Int32 → Int32 → Int32 → Int32 → Int32 → Option Int32) (M : gM) (l0 : Option Nat) (l1 : Int32) (l2 : Int32) (l3 : Int32) (l4 : Int32) (l5 : Int32) (l6 : Int32) (l8 : Int32) : Option Int32 :=
  if l8 < l4 then (k54 l0 l1 l2 l3 (l4 - l8) l5 (l6 + 1)) else (some (-2 : Int32))
theorem T_X11_prompts_b132 (k54 : Option Nat → Int32 → Int32 → Int32 → Int32 → Int32 → Int32 → Option Int32) (M : gM) (r : Int32) (hk54 : ∀ (l0 : Option Nat) (l1 : Int32) (l2 : Int32) (l3 : Int32) (l4 : Int32) (l5 : Int32) (l6 : Int32), k54 l0 l1 l2 l3 l4 l5 l6 = some r → GW 2 0 0 X_X11_prompts 54 [(0, vr l0), (1, vi l1), (2, vi l2), (3, vi l3), (4, vi l4), (5, vi l5), (6, vi l6)] [] M (some (vi r), M)) (l0 : Option Nat) (l1 : Int32) (l2 : Int32) (l3 : Int32) (l4 : Int32) (l5 : Int32) (l6 : Int32) (l8 : Int32) (h : F_X11_prompts_b132 k54 M l0 l1 l2 l3 l4 l5 l6 l8 = some r) : GW 2 0 0 X_X11_prompts 132 [(0, vr l0), (1, vi l1), (2, vi l2), (3, vi l3), (4, vi l4), (5, vi l5), (6, vi l6), (8, vi l8)] [] M (some (vi r), M) := by
  delta F_X11_prompts_b132 at h
  refine GW_iload (X := X_X11_prompts) (pc := 132) d_X11_prompts_132 4 rfl ?_
  refine GW_iload (X := X_X11_prompts) (pc := 134) d_X11_prompts_134 7 rfl ?_
  refine GW_icmp_gt (X := X_X11_prompts) (pc := 136) 142 d_X11_prompts_136 (by decide) (fun c => ?_) (fun c => ?_)
  · replace h := g_ip c h
    refine GW_iload (X := X_X11_prompts) (pc := 142) d_X11_prompts_142 4 rfl ?_
    refine GW_iload (X := X_X11_prompts) (pc := 144) d_X11_prompts_144 7 rfl ?_
    refine GW_isub (X := X_X11_prompts) (pc := 146) d_X11_prompts_146 ?_
    refine GW_istore (X := X_X11_prompts) (pc := 147) d_X11_prompts_147 (Nat.le_of_ble_eq_true rfl) (lv2 := [(4, vi (l4 - l8)), (0, vr l0), (1, vi l1), (2, vi l2), (3, vi l3), (5, vi l5), (6, vi l6), (8, vi l8)]) rfl ?_
    refine GW_iinc (j := 6) (X := X_X11_prompts) (pc := 149) d_X11_prompts_149 rfl (congrArg (fun z => _ + z) (by decide : Int32.ofInt 1 = (1 : Int32))) (Nat.le_of_ble_eq_true rfl) (lv2 := [(6, vi (l6 + 1)), (4, vi (l4 - l8)), (0, vr l0), (1, vi l1), (2, vi l2), (3, vi l3), (5, vi l5), (8, vi l8)]) rfl ?_
    refine GW_goto (X := X_X11_prompts) (pc := 152) 54 d_X11_prompts_152 (by decide) ?_
    refine GW_sub [2, 3, 4, 5, 1, 6, 0] rfl ?_
    exact hk54 l0 l1 l2 l3 (l4 - l8) l5 (l6 + 1) h
  · replace h := g_ie c h
    refine GW_bipush (X := X_X11_prompts) (pc := 139) (v := -2) d_X11_prompts_139 (by decide) ?_
    replace h := Option.some.inj h
    subst h
    exact GW_ret (X := X_X11_prompts) (pc := 141) d_X11_prompts_141 rfl trivial
def F_X11_prompts_b102 (k54 : Option Nat → Int32 → Int32 → Int32 → Int32 → Int32 → Int32 → Option Int32) (k102 : Option Nat → Int32 → Int32 → Int32 → Int32 → Int32 → Int32 → Int32 → Int32 → Option Int32) (M : gM) (l0 : Option Nat) (l1 : Int32) (l2 : Int32) (l3 : Int32) (l4 : Int32) (l5 : Int32) (l6 : Int32) (l8 : Int32) (l9 : Int32) : Option Int32 :=
  if (10 : Int32) ≤ l9 then (F_X11_prompts_b132 k54 M l0 l1 l2 l3 l4 l5 l6 l8) else (if l8 < l4 then (F_X11_prompts_b132 k54 M l0 l1 l2 l3 l4 l5 l6 l8) else ((F_X11_prompted l4 M).bind fun v1 => k102 l0 l1 l2 l3 v1 (l5 + 1) l6 l8 (l9 + 1)))
theorem T_X11_prompts_b102 (k54 : Option Nat → Int32 → Int32 → Int32 → Int32 → Int32 → Int32 → Option Int32) (k102 : Option Nat → Int32 → Int32 → Int32 → Int32 → Int32 → Int32 → Int32 → Int32 → Option Int32) (M : gM) (r : Int32) (hk54 : ∀ (l0 : Option Nat) (l1 : Int32) (l2 : Int32) (l3 : Int32) (l4 : Int32) (l5 : Int32) (l6 : Int32), k54 l0 l1 l2 l3 l4 l5 l6 = some r → GW 2 0 0 X_X11_prompts 54 [(0, vr l0), (1, vi l1), (2, vi l2), (3, vi l3), (4, vi l4), (5, vi l5), (6, vi l6)] [] M (some (vi r), M)) (hk102 : ∀ (l0 : Option Nat) (l1 : Int32) (l2 : Int32) (l3 : Int32) (l4 : Int32) (l5 : Int32) (l6 : Int32) (l8 : Int32) (l9 : Int32), k102 l0 l1 l2 l3 l4 l5 l6 l8 l9 = some r → GW 2 0 0 X_X11_prompts 102 [(0, vr l0), (1, vi l1), (2, vi l2), (3, vi l3), (4, vi l4), (5, vi l5), (6, vi l6), (8, vi l8), (9, vi l9)] [] M (some (vi r), M)) (l0 : Option Nat) (l1 : Int32) (l2 : Int32) (l3 : Int32) (l4 : Int32) (l5 : Int32) (l6 : Int32) (l8 : Int32) (l9 : Int32) (h : F_X11_prompts_b102 k54 k102 M l0 l1 l2 l3 l4 l5 l6 l8 l9 = some r) : GW 2 0 0 X_X11_prompts 102 [(0, vr l0), (1, vi l1), (2, vi l2), (3, vi l3), (4, vi l4), (5, vi l5), (6, vi l6), (8, vi l8), (9, vi l9)] [] M (some (vi r), M) := by
  delta F_X11_prompts_b102 at h
  refine GW_iload (X := X_X11_prompts) (pc := 102) d_X11_prompts_102 8 rfl ?_
  refine GW_bipush (X := X_X11_prompts) (pc := 104) (v := 10) d_X11_prompts_104 (by decide) ?_
  refine GW_icmp_ge (X := X_X11_prompts) (pc := 106) 132 d_X11_prompts_106 (by decide) (fun c => ?_) (fun c => ?_)
  · replace h := g_ip c h
    refine GW_sub [0, 1, 2, 3, 4, 5, 6, 7] rfl ?_
    exact T_X11_prompts_b132 k54 M r hk54 l0 l1 l2 l3 l4 l5 l6 l8 h
  · replace h := g_ie c h
    refine GW_iload (X := X_X11_prompts) (pc := 109) d_X11_prompts_109 4 rfl ?_
    refine GW_iload (X := X_X11_prompts) (pc := 111) d_X11_prompts_111 7 rfl ?_
    refine GW_icmp_gt (X := X_X11_prompts) (pc := 113) 132 d_X11_prompts_113 (by decide) (fun c => ?_) (fun c => ?_)
    · replace h := g_ip c h
      refine GW_sub [0, 1, 2, 3, 4, 5, 6, 7] rfl ?_
      exact T_X11_prompts_b132 k54 M r hk54 l0 l1 l2 l3 l4 l5 l6 l8 h
    · replace h := g_ie c h
      refine GW_iload (X := X_X11_prompts) (pc := 116) d_X11_prompts_116 4 rfl ?_
      replace h := g_bd h
      obtain ⟨v1, hv1, h⟩ := h
      refine GW_callS (X := X_X11_prompts) (pc := 118) (bc0 := 0) (bs0 := 0) (r := some (vi v1)) (M2 := M) (T_X11_prompted l4 M v1 hv1) (Nat.le_of_ble_eq_true rfl) (Nat.le_of_ble_eq_true rfl) yc_X11_prompted ⟨m_923, m_924, m_116, m_925⟩ d_X11_prompts_118 rfl (st := []) rfl (Nat.le_of_ble_eq_true rfl) (Nat.le_of_ble_eq_true rfl) (Nat.le_of_ble_eq_true rfl) (st2 := [vi v1]) rfl ?_
      refine GW_istore (X := X_X11_prompts) (pc := 121) d_X11_prompts_121 (Nat.le_of_ble_eq_true rfl) (lv2 := [(4, vi v1), (0, vr l0), (1, vi l1), (2, vi l2), (3, vi l3), (5, vi l5), (6, vi l6), (8, vi l8), (9, vi l9)]) rfl ?_
      refine GW_iinc (j := 5) (X := X_X11_prompts) (pc := 123) d_X11_prompts_123 rfl (congrArg (fun z => _ + z) (by decide : Int32.ofInt 1 = (1 : Int32))) (Nat.le_of_ble_eq_true rfl) (lv2 := [(5, vi (l5 + 1)), (4, vi v1), (0, vr l0), (1, vi l1), (2, vi l2), (3, vi l3), (6, vi l6), (8, vi l8), (9, vi l9)]) rfl ?_
      refine GW_iinc (j := 8) (X := X_X11_prompts) (pc := 126) d_X11_prompts_126 rfl (congrArg (fun z => _ + z) (by decide : Int32.ofInt 1 = (1 : Int32))) (Nat.le_of_ble_eq_true rfl) (lv2 := [(9, vi (l9 + 1)), (5, vi (l5 + 1)), (4, vi v1), (0, vr l0), (1, vi l1), (2, vi l2), (3, vi l3), (6, vi l6), (8, vi l8)]) rfl ?_
      refine GW_goto (X := X_X11_prompts) (pc := 129) 102 d_X11_prompts_129 (by decide) ?_
      refine GW_sub [3, 4, 5, 6, 2, 1, 7, 8, 0] rfl ?_
      exact hk102 l0 l1 l2 l3 v1 (l5 + 1) l6 l8 (l9 + 1) h
def F_X11_prompts_L102 (k54 : Option Nat → Int32 → Int32 → Int32 → Int32 → Int32 → Int32 → Option Int32) (M : gM) : Nat → Option Nat → Int32 → Int32 → Int32 → Int32 → Int32 → Int32 → Int32 → Int32 → Option Int32
  | 0 => fun _ _ _ _ _ _ _ _ _ => none
  | n + 1 => F_X11_prompts_b102 k54 (F_X11_prompts_L102 k54 M n) M
theorem T_X11_prompts_L102 (k54 : Option Nat → Int32 → Int32 → Int32 → Int32 → Int32 → Int32 → Option Int32) (M : gM) (r : Int32) (hk54 : ∀ (l0 : Option Nat) (l1 : Int32) (l2 : Int32) (l3 : Int32) (l4 : Int32) (l5 : Int32) (l6 : Int32), k54 l0 l1 l2 l3 l4 l5 l6 = some r → GW 2 0 0 X_X11_prompts 54 [(0, vr l0), (1, vi l1), (2, vi l2), (3, vi l3), (4, vi l4), (5, vi l5), (6, vi l6)] [] M (some (vi r), M)) : ∀ (n : Nat) (l0 : Option Nat) (l1 : Int32) (l2 : Int32) (l3 : Int32) (l4 : Int32) (l5 : Int32) (l6 : Int32) (l8 : Int32) (l9 : Int32), F_X11_prompts_L102 k54 M n l0 l1 l2 l3 l4 l5 l6 l8 l9 = some r → GW 2 0 0 X_X11_prompts 102 [(0, vr l0), (1, vi l1), (2, vi l2), (3, vi l3), (4, vi l4), (5, vi l5), (6, vi l6), (8, vi l8), (9, vi l9)] [] M (some (vi r), M) := by
  intro n
  induction n with
  | zero => intro l0 l1 l2 l3 l4 l5 l6 l8 l9 h; exact g_no h
  | succ n ih => intro l0 l1 l2 l3 l4 l5 l6 l8 l9 h; exact T_X11_prompts_b102 k54 (F_X11_prompts_L102 k54 M n) M r hk54 ih l0 l1 l2 l3 l4 l5 l6 l8 l9 h
def F_X11_prompts_b54 (k54 : Option Nat → Int32 → Int32 → Int32 → Int32 → Int32 → Int32 → Option Int32) (M : gM) (l0 : Option Nat) (l1 : Int32) (l2 : Int32) (l3 : Int32) (l4 : Int32) (l5 : Int32) (l6 : Int32) : Option Int32 :=
  if l3 ≤ l6 then (some l5) else ((gR 11 M l0 5).bind fun v1 => (gR 8 M v1 2).bind fun v2 => (aI 20 M v2 l1).bind fun v3 => (gR 11 M l0 11).bind fun v4 => (gR 11 M l0 5).bind fun v5 => (gI 8 M v5 4).bind fun v6 => (gO 1 M v4).bind fun i7 => (F_X1_plainLoss (some i7) l1 l2 (if (v3 + l6) < (99 : Int32) then (v3 + l6) else (99 : Int32)) v6 M).bind fun v8 => F_X11_prompts_L102 k54 M g_fuel l0 l1 l2 l3 l4 l5 l6 v8 (0 : Int32))
set_option maxHeartbeats 1000000 in
theorem T_X11_prompts_b54 (k54 : Option Nat → Int32 → Int32 → Int32 → Int32 → Int32 → Int32 → Option Int32) (M : gM) (r : Int32) (hk54 : ∀ (l0 : Option Nat) (l1 : Int32) (l2 : Int32) (l3 : Int32) (l4 : Int32) (l5 : Int32) (l6 : Int32), k54 l0 l1 l2 l3 l4 l5 l6 = some r → GW 2 0 0 X_X11_prompts 54 [(0, vr l0), (1, vi l1), (2, vi l2), (3, vi l3), (4, vi l4), (5, vi l5), (6, vi l6)] [] M (some (vi r), M)) (l0 : Option Nat) (l1 : Int32) (l2 : Int32) (l3 : Int32) (l4 : Int32) (l5 : Int32) (l6 : Int32) (h : F_X11_prompts_b54 k54 M l0 l1 l2 l3 l4 l5 l6 = some r) : GW 2 0 0 X_X11_prompts 54 [(0, vr l0), (1, vi l1), (2, vi l2), (3, vi l3), (4, vi l4), (5, vi l5), (6, vi l6)] [] M (some (vi r), M) := by
  delta F_X11_prompts_b54 at h
  refine GW_iload (X := X_X11_prompts) (pc := 54) d_X11_prompts_54 6 rfl ?_
  refine GW_iload_n (X := X_X11_prompts) (pc := 56) d_X11_prompts_56 rfl 3 rfl ?_
  refine GW_icmp_ge (X := X_X11_prompts) (pc := 57) 155 d_X11_prompts_57 (by decide) (fun c => ?_) (fun c => ?_)
  · replace h := g_ip c h
    refine GW_iload (X := X_X11_prompts) (pc := 155) d_X11_prompts_155 5 rfl ?_
    replace h := Option.some.inj h
    subst h
    exact GW_ret (X := X_X11_prompts) (pc := 157) d_X11_prompts_157 rfl trivial
  · replace h := g_ie c h
    refine GW_bipush (X := X_X11_prompts) (pc := 60) (v := 99) d_X11_prompts_60 (by decide) ?_
    refine GW_aload_n (X := X_X11_prompts) (pc := 62) d_X11_prompts_62 rfl 0 rfl ?_
    replace h := g_bd h
    obtain ⟨v1, hv1, h⟩ := h
    refine GW_getR (X := X_X11_prompts) (pc := 63) f_X11_25 d_X11_prompts_63 hv1 (Or.inl ⟨_, ty_11_5⟩) ?_
    replace h := g_bd h
    obtain ⟨v2, hv2, h⟩ := h
    refine GW_getR (X := X_X11_prompts) (pc := 66) f_X11_131 d_X11_prompts_66 hv2 (Or.inr ⟨_, ty_8_2⟩) ?_
    refine GW_iload_n (X := X_X11_prompts) (pc := 69) d_X11_prompts_69 rfl 1 rfl ?_
    replace h := g_bd h
    obtain ⟨v3, hv3, h⟩ := h
    refine GW_iald (X := X_X11_prompts) (pc := 70) d_X11_prompts_70 hv3 ?_
    refine GW_iload (X := X_X11_prompts) (pc := 71) d_X11_prompts_71 6 rfl ?_
    refine GW_iadd (X := X_X11_prompts) (pc := 73) d_X11_prompts_73 ?_
    refine GW_mmin (X := X_X11_prompts) (pc := 74) m_926 d_X11_prompts_74 (Nat.le_of_ble_eq_true rfl) (Nat.le_of_ble_eq_true rfl) ?_
    refine GW_istore (X := X_X11_prompts) (pc := 77) d_X11_prompts_77 (Nat.le_of_ble_eq_true rfl) (lv2 := [(7, vi (if (v3 + l6) < (99 : Int32) then (v3 + l6) else (99 : Int32))), (0, vr l0), (1, vi l1), (2, vi l2), (3, vi l3), (4, vi l4), (5, vi l5), (6, vi l6)]) rfl ?_
    refine GW_aload_n (X := X_X11_prompts) (pc := 79) d_X11_prompts_79 rfl 1 rfl ?_
    replace h := g_bd h
    obtain ⟨v4, hv4, h⟩ := h
    refine GW_getR (X := X_X11_prompts) (pc := 80) f_X11_59 d_X11_prompts_80 hv4 (Or.inl ⟨_, ty_11_11⟩) ?_
    refine GW_iload_n (X := X_X11_prompts) (pc := 83) d_X11_prompts_83 rfl 2 rfl ?_
    refine GW_iload_n (X := X_X11_prompts) (pc := 84) d_X11_prompts_84 rfl 3 rfl ?_
    refine GW_iload (X := X_X11_prompts) (pc := 85) d_X11_prompts_85 0 rfl ?_
    refine GW_aload_n (X := X_X11_prompts) (pc := 87) d_X11_prompts_87 rfl 1 rfl ?_
    replace h := g_bd h
    obtain ⟨v5, hv5, h⟩ := h
    refine GW_getR (X := X_X11_prompts) (pc := 88) f_X11_25 d_X11_prompts_88 hv5 (Or.inl ⟨_, ty_11_5⟩) ?_
    replace h := g_bd h
    obtain ⟨v6, hv6, h⟩ := h
    refine GW_getI (X := X_X11_prompts) (pc := 91) f_X11_169 d_X11_prompts_91 hv6 (Or.inl ty_8_4) ?_
    replace h := g_bd h
    obtain ⟨i7, hi7, h⟩ := h
    obtain ⟨rfl, ki7⟩ := g_gO hi7
    replace h := g_bd h
    obtain ⟨v8, hv8, h⟩ := h
    refine GW_callV (X := X_X11_prompts) (pc := 94) (bc0 := 0) (bs0 := 0) (r := some (vi v8)) (M2 := M) (c0 := 1) (T_X1_plainLoss (some i7) l1 l2 (if (v3 + l6) < (99 : Int32) then (v3 + l6) else (99 : Int32)) v6 M v8 hv8) (Nat.le_of_ble_eq_true rfl) (Nat.le_of_ble_eq_true rfl) rfl g_cok1 ki7 yc_X1_plainLoss ⟨m_1002, m_844, m_845, m_122, m_846⟩ d_X11_prompts_94 rfl (st := []) rfl (Nat.le_of_ble_eq_true rfl) (Nat.le_of_ble_eq_true rfl) (Nat.le_of_ble_eq_true rfl) (st2 := [vi v8]) rfl ?_
    refine GW_istore (X := X_X11_prompts) (pc := 97) d_X11_prompts_97 (Nat.le_of_ble_eq_true rfl) (lv2 := [(8, vi v8), (7, vi (if (v3 + l6) < (99 : Int32) then (v3 + l6) else (99 : Int32))), (0, vr l0), (1, vi l1), (2, vi l2), (3, vi l3), (4, vi l4), (5, vi l5), (6, vi l6)]) rfl ?_
    refine GW_iconst (X := X_X11_prompts) (pc := 99) (v := 0) d_X11_prompts_99 (by decide) ?_
    refine GW_istore (X := X_X11_prompts) (pc := 100) d_X11_prompts_100 (Nat.le_of_ble_eq_true rfl) (lv2 := [(9, vi (0 : Int32)), (8, vi v8), (7, vi (if (v3 + l6) < (99 : Int32) then (v3 + l6) else (99 : Int32))), (0, vr l0), (1, vi l1), (2, vi l2), (3, vi l3), (4, vi l4), (5, vi l5), (6, vi l6)]) rfl ?_
    refine GW_sub [3, 4, 5, 6, 7, 8, 9, 1, 0] rfl ?_
    exact T_X11_prompts_L102 k54 M r hk54 g_fuel l0 l1 l2 l3 l4 l5 l6 v8 (0 : Int32) h
def F_X11_prompts_L54 (M : gM) : Nat → Option Nat → Int32 → Int32 → Int32 → Int32 → Int32 → Int32 → Option Int32
  | 0 => fun _ _ _ _ _ _ _ => none
  | n + 1 => F_X11_prompts_b54 (F_X11_prompts_L54 M n) M
theorem T_X11_prompts_L54 (M : gM) (r : Int32) : ∀ (n : Nat) (l0 : Option Nat) (l1 : Int32) (l2 : Int32) (l3 : Int32) (l4 : Int32) (l5 : Int32) (l6 : Int32), F_X11_prompts_L54 M n l0 l1 l2 l3 l4 l5 l6 = some r → GW 2 0 0 X_X11_prompts 54 [(0, vr l0), (1, vi l1), (2, vi l2), (3, vi l3), (4, vi l4), (5, vi l5), (6, vi l6)] [] M (some (vi r), M) := by
  intro n
  induction n with
  | zero => intro l0 l1 l2 l3 l4 l5 l6 h; exact g_no h
  | succ n ih => intro l0 l1 l2 l3 l4 l5 l6 h; exact T_X11_prompts_b54 (F_X11_prompts_L54 M n) M r ih l0 l1 l2 l3 l4 l5 l6 h
def F_X11_prompts_b0 (M : gM) (l0 : Option Nat) (l1 : Int32) (l2 : Int32) (l3 : Int32) : Option Int32 :=
  (gO 11 M l0).bind fun i1 => (F_X11_isKnown (some i1) l1 l2 M).bind fun v2 => if v2 = 0 then (F_X11_prompts_b20 M ) else (if l3 < (1 : Int32) then (F_X11_prompts_b20 M ) else (if l3 ≤ (40 : Int32) then ((F_X11_ruleInForce (some i1) M).bind fun v3 => if v3 = none then ((gR 11 M (some i1) 5).bind fun v4 => (gR 8 M v4 1).bind fun v5 => (aI 20 M v5 ((l1 * (7 : Int32)) + l2)).bind fun v6 => F_X11_prompts_L54 M g_fuel (some i1) l1 l2 l3 v6 (0 : Int32) (0 : Int32)) else (some (-3 : Int32))) else (F_X11_prompts_b20 M )))
set_option maxHeartbeats 1000000 in
theorem T_X11_prompts_b0 (M : gM) (r : Int32) (l0 : Option Nat) (l1 : Int32) (l2 : Int32) (l3 : Int32) (h : F_X11_prompts_b0 M l0 l1 l2 l3 = some r) : GW 2 0 0 X_X11_prompts 0 [(0, vr l0), (1, vi l1), (2, vi l2), (3, vi l3)] [] M (some (vi r), M) := by
  delta F_X11_prompts_b0 at h
  refine GW_aload_n (X := X_X11_prompts) (pc := 0) d_X11_prompts_0 rfl 0 rfl ?_
  refine GW_iload_n (X := X_X11_prompts) (pc := 1) d_X11_prompts_1 rfl 1 rfl ?_
  refine GW_iload_n (X := X_X11_prompts) (pc := 2) d_X11_prompts_2 rfl 2 rfl ?_
  replace h := g_bd h
  obtain ⟨i1, hi1, h⟩ := h
  obtain ⟨rfl, ki1⟩ := g_gO hi1
  replace h := g_bd h
  obtain ⟨v2, hv2, h⟩ := h
  refine GW_callV (X := X_X11_prompts) (pc := 3) (bc0 := 0) (bs0 := 0) (r := some (vi v2)) (M2 := M) (c0 := 11) (T_X11_isKnown (some i1) l1 l2 M v2 hv2) (Nat.le_of_ble_eq_true rfl) (Nat.le_of_ble_eq_true rfl) rfl g_cok11 ki1 yc_X11_isKnown ⟨m_904, m_906, m_30, m_116, m_907⟩ d_X11_prompts_3 rfl (st := []) rfl (Nat.le_of_ble_eq_true rfl) (Nat.le_of_ble_eq_true rfl) (Nat.le_of_ble_eq_true rfl) (st2 := [vi v2]) rfl ?_
  refine GW_if_eq (X := X_X11_prompts) (pc := 6) 20 d_X11_prompts_6 (by decide) (fun c => ?_) (fun c => ?_)
  · replace h := g_ip c h
    refine GW_sub [] rfl ?_
    exact T_X11_prompts_b20 M r  h
  · replace h := g_ie c h
    refine GW_iload_n (X := X_X11_prompts) (pc := 9) d_X11_prompts_9 rfl 3 rfl ?_
    refine GW_iconst (X := X_X11_prompts) (pc := 10) (v := 1) d_X11_prompts_10 (by decide) ?_
    refine GW_icmp_lt (X := X_X11_prompts) (pc := 11) 20 d_X11_prompts_11 (by decide) (fun c => ?_) (fun c => ?_)
    · replace h := g_ip c h
      refine GW_sub [] rfl ?_
      exact T_X11_prompts_b20 M r  h
    · replace h := g_ie c h
      refine GW_iload_n (X := X_X11_prompts) (pc := 14) d_X11_prompts_14 rfl 3 rfl ?_
      refine GW_bipush (X := X_X11_prompts) (pc := 15) (v := 40) d_X11_prompts_15 (by decide) ?_
      refine GW_icmp_le (X := X_X11_prompts) (pc := 17) 22 d_X11_prompts_17 (by decide) (fun c => ?_) (fun c => ?_)
      · replace h := g_ip c h
        refine GW_aload_n (X := X_X11_prompts) (pc := 22) d_X11_prompts_22 rfl 0 rfl ?_
        replace h := g_bd h
        obtain ⟨v3, hv3, h⟩ := h
        refine GW_callV (X := X_X11_prompts) (pc := 23) (bc0 := 0) (bs0 := 0) (r := some (vr v3)) (M2 := M) (c0 := 11) (T_X11_ruleInForce (some i1) M v3 hv3) (Nat.le_of_ble_eq_true rfl) (Nat.le_of_ble_eq_true rfl) rfl g_cok11 ki1 yc_X11_ruleInForce ⟨m_831, m_833, m_23, m_116, m_834⟩ d_X11_prompts_23 rfl (st := []) rfl (Nat.le_of_ble_eq_true rfl) (Nat.le_of_ble_eq_true rfl) (Nat.le_of_ble_eq_true rfl) (st2 := [vr v3]) rfl ?_
        refine GW_ifnull (X := X_X11_prompts) (pc := 26) 32 d_X11_prompts_26 (by decide) (fun c => ?_) (fun c => ?_)
        · replace h := g_ip c h
          refine GW_aload_n (X := X_X11_prompts) (pc := 32) d_X11_prompts_32 rfl 0 rfl ?_
          replace h := g_bd h
          obtain ⟨v4, hv4, h⟩ := h
          refine GW_getR (X := X_X11_prompts) (pc := 33) f_X11_25 d_X11_prompts_33 hv4 (Or.inl ⟨_, ty_11_5⟩) ?_
          replace h := g_bd h
          obtain ⟨v5, hv5, h⟩ := h
          refine GW_getR (X := X_X11_prompts) (pc := 36) f_X11_178 d_X11_prompts_36 hv5 (Or.inr ⟨_, ty_8_1⟩) ?_
          refine GW_iload_n (X := X_X11_prompts) (pc := 39) d_X11_prompts_39 rfl 1 rfl ?_
          refine GW_bipush (X := X_X11_prompts) (pc := 40) (v := 7) d_X11_prompts_40 (by decide) ?_
          refine GW_imul (X := X_X11_prompts) (pc := 42) d_X11_prompts_42 ?_
          refine GW_iload_n (X := X_X11_prompts) (pc := 43) d_X11_prompts_43 rfl 2 rfl ?_
          refine GW_iadd (X := X_X11_prompts) (pc := 44) d_X11_prompts_44 ?_
          replace h := g_bd h
          obtain ⟨v6, hv6, h⟩ := h
          refine GW_iald (X := X_X11_prompts) (pc := 45) d_X11_prompts_45 hv6 ?_
          refine GW_istore (X := X_X11_prompts) (pc := 46) d_X11_prompts_46 (Nat.le_of_ble_eq_true rfl) (lv2 := [(4, vi v6), (0, vr (some i1)), (1, vi l1), (2, vi l2), (3, vi l3)]) rfl ?_
          refine GW_iconst (X := X_X11_prompts) (pc := 48) (v := 0) d_X11_prompts_48 (by decide) ?_
          refine GW_istore (X := X_X11_prompts) (pc := 49) d_X11_prompts_49 (Nat.le_of_ble_eq_true rfl) (lv2 := [(5, vi (0 : Int32)), (4, vi v6), (0, vr (some i1)), (1, vi l1), (2, vi l2), (3, vi l3)]) rfl ?_
          refine GW_iconst (X := X_X11_prompts) (pc := 51) (v := 0) d_X11_prompts_51 (by decide) ?_
          refine GW_istore (X := X_X11_prompts) (pc := 52) d_X11_prompts_52 (Nat.le_of_ble_eq_true rfl) (lv2 := [(6, vi (0 : Int32)), (5, vi (0 : Int32)), (4, vi v6), (0, vr (some i1)), (1, vi l1), (2, vi l2), (3, vi l3)]) rfl ?_
          refine GW_sub [3, 4, 5, 6, 2, 1, 0] rfl ?_
          exact T_X11_prompts_L54 M r g_fuel (some i1) l1 l2 l3 v6 (0 : Int32) (0 : Int32) h
        · replace h := g_ie c h
          refine GW_bipush (X := X_X11_prompts) (pc := 29) (v := -3) d_X11_prompts_29 (by decide) ?_
          replace h := Option.some.inj h
          subst h
          exact GW_ret (X := X_X11_prompts) (pc := 31) d_X11_prompts_31 rfl trivial
      · replace h := g_ie c h
        refine GW_sub [] rfl ?_
        exact T_X11_prompts_b20 M r  h
def F_X11_prompts (l0 : Option Nat) (l1 : Int32) (l2 : Int32) (l3 : Int32) (M : gM) : Option Int32 := F_X11_prompts_b0 M l0 l1 l2 l3
theorem T_X11_prompts (l0 : Option Nat) (l1 : Int32) (l2 : Int32) (l3 : Int32) (M : gM) (r : Int32) (h : F_X11_prompts l0 l1 l2 l3 M = some r) : g_Met 2 0 0 yX11_prompts X_X11_prompts [vr l0, vi l1, vi l2, vi l3] M (some (vi r), M) :=
  g_Met_of pn_RX11 rfl (Nat.le_of_ble_eq_true rfl) (fun h => by cases h) (GW_sub [0, 1, 2, 3] rfl (T_X11_prompts_b0 M r l0 l1 l2 l3 h))
/-! ForgetHeirsModel.promptsYear(I)V -/
theorem d_X12_promptsYear_0 : decode cX12_promptsYear 0 = .ok (.iconst 0, 1) := by decide +kernel
theorem d_X12_promptsYear_1 : decode cX12_promptsYear 1 = .ok (.istore_n 2, 1) := by decide +kernel
theorem d_X12_promptsYear_2 : decode cX12_promptsYear 2 = .ok (.iload_n 2, 1) := by decide +kernel
theorem d_X12_promptsYear_3 : decode cX12_promptsYear 3 = .ok (.bipush 99, 2) := by decide +kernel
theorem d_X12_promptsYear_5 : decode cX12_promptsYear 5 = .ok (.if_icmp .gt 16, 3) := by decide +kernel
theorem d_X12_promptsYear_8 : decode cX12_promptsYear 8 = .ok (.aload_n 0, 1) := by decide +kernel
theorem d_X12_promptsYear_9 : decode cX12_promptsYear 9 = .ok (.getfield 64, 3) := by decide +kernel
theorem d_X12_promptsYear_12 : decode cX12_promptsYear 12 = .ok (.iload_n 2, 1) := by decide +kernel
theorem d_X12_promptsYear_13 : decode cX12_promptsYear 13 = .ok (.iconst (-1), 1) := by decide +kernel
theorem d_X12_promptsYear_14 : decode cX12_promptsYear 14 = .ok (.iastore, 1) := by decide +kernel
theorem d_X12_promptsYear_15 : decode cX12_promptsYear 15 = .ok (.iinc 2 1, 3) := by decide +kernel
theorem d_X12_promptsYear_18 : decode cX12_promptsYear 18 = .ok (.goto (-16), 3) := by decide +kernel
theorem d_X12_promptsYear_21 : decode cX12_promptsYear 21 = .ok (.iconst 1, 1) := by decide +kernel
theorem d_X12_promptsYear_22 : decode cX12_promptsYear 22 = .ok (.istore_n 2, 1) := by decide +kernel
theorem d_X12_promptsYear_23 : decode cX12_promptsYear 23 = .ok (.iload_n 2, 1) := by decide +kernel
theorem d_X12_promptsYear_24 : decode cX12_promptsYear 24 = .ok (.bipush 99, 2) := by decide +kernel
theorem d_X12_promptsYear_26 : decode cX12_promptsYear 26 = .ok (.if_icmp .gt 106, 3) := by decide +kernel
theorem d_X12_promptsYear_29 : decode cX12_promptsYear 29 = .ok (.iconst 0, 1) := by decide +kernel
theorem d_X12_promptsYear_30 : decode cX12_promptsYear 30 = .ok (.istore_n 3, 1) := by decide +kernel
theorem d_X12_promptsYear_31 : decode cX12_promptsYear 31 = .ok (.iload_n 3, 1) := by decide +kernel
theorem d_X12_promptsYear_32 : decode cX12_promptsYear 32 = .ok (.bipush 10, 2) := by decide +kernel
theorem d_X12_promptsYear_34 : decode cX12_promptsYear 34 = .ok (.if_icmp .gt 92, 3) := by decide +kernel
theorem d_X12_promptsYear_37 : decode cX12_promptsYear 37 = .ok (.aload_n 0, 1) := by decide +kernel
theorem d_X12_promptsYear_38 : decode cX12_promptsYear 38 = .ok (.getfield 61, 3) := by decide +kernel
theorem d_X12_promptsYear_41 : decode cX12_promptsYear 41 = .ok (.iload_n 2, 1) := by decide +kernel
theorem d_X12_promptsYear_42 : decode cX12_promptsYear 42 = .ok (.iaload, 1) := by decide +kernel
theorem d_X12_promptsYear_43 : decode cX12_promptsYear 43 = .ok (.ifCond .lt 83, 3) := by decide +kernel
theorem d_X12_promptsYear_46 : decode cX12_promptsYear 46 = .ok (.iload_n 2, 1) := by decide +kernel
theorem d_X12_promptsYear_47 : decode cX12_promptsYear 47 = .ok (.bipush 10, 2) := by decide +kernel
theorem d_X12_promptsYear_49 : decode cX12_promptsYear 49 = .ok (.iload_n 3, 1) := by decide +kernel
theorem d_X12_promptsYear_50 : decode cX12_promptsYear 50 = .ok (.imul, 1) := by decide +kernel
theorem d_X12_promptsYear_51 : decode cX12_promptsYear 51 = .ok (.iadd, 1) := by decide +kernel
theorem d_X12_promptsYear_52 : decode cX12_promptsYear 52 = .ok (.bipush 99, 2) := by decide +kernel
theorem d_X12_promptsYear_54 : decode cX12_promptsYear 54 = .ok (.if_icmp .le 8, 3) := by decide +kernel
theorem d_X12_promptsYear_57 : decode cX12_promptsYear 57 = .ok (.bipush 99, 2) := by decide +kernel
theorem d_X12_promptsYear_59 : decode cX12_promptsYear 59 = .ok (.goto 9, 3) := by decide +kernel
theorem d_X12_promptsYear_62 : decode cX12_promptsYear 62 = .ok (.iload_n 2, 1) := by decide +kernel
theorem d_X12_promptsYear_63 : decode cX12_promptsYear 63 = .ok (.bipush 10, 2) := by decide +kernel
theorem d_X12_promptsYear_65 : decode cX12_promptsYear 65 = .ok (.iload_n 3, 1) := by decide +kernel
theorem d_X12_promptsYear_66 : decode cX12_promptsYear 66 = .ok (.imul, 1) := by decide +kernel
theorem d_X12_promptsYear_67 : decode cX12_promptsYear 67 = .ok (.iadd, 1) := by decide +kernel
theorem d_X12_promptsYear_68 : decode cX12_promptsYear 68 = .ok (.iload_n 1, 1) := by decide +kernel
theorem d_X12_promptsYear_69 : decode cX12_promptsYear 69 = .ok (.isub, 1) := by decide +kernel
theorem d_X12_promptsYear_70 : decode cX12_promptsYear 70 = .ok (.istore 4, 2) := by decide +kernel
theorem d_X12_promptsYear_72 : decode cX12_promptsYear 72 = .ok (.iload 4, 2) := by decide +kernel
theorem d_X12_promptsYear_74 : decode cX12_promptsYear 74 = .ok (.ifCond .le 46, 3) := by decide +kernel
theorem d_X12_promptsYear_77 : decode cX12_promptsYear 77 = .ok (.aload_n 0, 1) := by decide +kernel
theorem d_X12_promptsYear_78 : decode cX12_promptsYear 78 = .ok (.getfield 64, 3) := by decide +kernel
theorem d_X12_promptsYear_81 : decode cX12_promptsYear 81 = .ok (.iload 4, 2) := by decide +kernel
theorem d_X12_promptsYear_83 : decode cX12_promptsYear 83 = .ok (.iaload, 1) := by decide +kernel
theorem d_X12_promptsYear_84 : decode cX12_promptsYear 84 = .ok (.ifCond .lt 21, 3) := by decide +kernel
theorem d_X12_promptsYear_87 : decode cX12_promptsYear 87 = .ok (.aload_n 0, 1) := by decide +kernel
theorem d_X12_promptsYear_88 : decode cX12_promptsYear 88 = .ok (.getfield 61, 3) := by decide +kernel
theorem d_X12_promptsYear_91 : decode cX12_promptsYear 91 = .ok (.iload_n 2, 1) := by decide +kernel
theorem d_X12_promptsYear_92 : decode cX12_promptsYear 92 = .ok (.iaload, 1) := by decide +kernel
theorem d_X12_promptsYear_93 : decode cX12_promptsYear 93 = .ok (.iload_n 3, 1) := by decide +kernel
theorem d_X12_promptsYear_94 : decode cX12_promptsYear 94 = .ok (.iadd, 1) := by decide +kernel
theorem d_X12_promptsYear_95 : decode cX12_promptsYear 95 = .ok (.aload_n 0, 1) := by decide +kernel
theorem d_X12_promptsYear_96 : decode cX12_promptsYear 96 = .ok (.getfield 64, 3) := by decide +kernel
theorem d_X12_promptsYear_99 : decode cX12_promptsYear 99 = .ok (.iload 4, 2) := by decide +kernel
theorem d_X12_promptsYear_101 : decode cX12_promptsYear 101 = .ok (.iaload, 1) := by decide +kernel
theorem d_X12_promptsYear_102 : decode cX12_promptsYear 102 = .ok (.if_icmp .ge 18, 3) := by decide +kernel
theorem d_X12_promptsYear_105 : decode cX12_promptsYear 105 = .ok (.aload_n 0, 1) := by decide +kernel
theorem d_X12_promptsYear_106 : decode cX12_promptsYear 106 = .ok (.getfield 64, 3) := by decide +kernel
theorem d_X12_promptsYear_109 : decode cX12_promptsYear 109 = .ok (.iload 4, 2) := by decide +kernel
theorem d_X12_promptsYear_111 : decode cX12_promptsYear 111 = .ok (.aload_n 0, 1) := by decide +kernel
theorem d_X12_promptsYear_112 : decode cX12_promptsYear 112 = .ok (.getfield 61, 3) := by decide +kernel
theorem d_X12_promptsYear_115 : decode cX12_promptsYear 115 = .ok (.iload_n 2, 1) := by decide +kernel
theorem d_X12_promptsYear_116 : decode cX12_promptsYear 116 = .ok (.iaload, 1) := by decide +kernel
theorem d_X12_promptsYear_117 : decode cX12_promptsYear 117 = .ok (.iload_n 3, 1) := by decide +kernel
theorem d_X12_promptsYear_118 : decode cX12_promptsYear 118 = .ok (.iadd, 1) := by decide +kernel
theorem d_X12_promptsYear_119 : decode cX12_promptsYear 119 = .ok (.iastore, 1) := by decide +kernel
theorem d_X12_promptsYear_120 : decode cX12_promptsYear 120 = .ok (.iinc 3 1, 3) := by decide +kernel
theorem d_X12_promptsYear_123 : decode cX12_promptsYear 123 = .ok (.goto (-92), 3) := by decide +kernel
theorem d_X12_promptsYear_126 : decode cX12_promptsYear 126 = .ok (.iinc 2 1, 3) := by decide +kernel
theorem d_X12_promptsYear_129 : decode cX12_promptsYear 129 = .ok (.goto (-106), 3) := by decide +kernel
theorem d_X12_promptsYear_132 : decode cX12_promptsYear 132 = .ok (.iconst 0, 1) := by decide +kernel
theorem d_X12_promptsYear_133 : decode cX12_promptsYear 133 = .ok (.istore_n 2, 1) := by decide +kernel
theorem d_X12_promptsYear_134 : decode cX12_promptsYear 134 = .ok (.iload_n 2, 1) := by decide +kernel
theorem d_X12_promptsYear_135 : decode cX12_promptsYear 135 = .ok (.bipush 99, 2) := by decide +kernel
theorem d_X12_promptsYear_137 : decode cX12_promptsYear 137 = .ok (.if_icmp .gt 21, 3) := by decide +kernel
theorem d_X12_promptsYear_140 : decode cX12_promptsYear 140 = .ok (.aload_n 0, 1) := by decide +kernel
theorem d_X12_promptsYear_141 : decode cX12_promptsYear 141 = .ok (.getfield 61, 3) := by decide +kernel
theorem d_X12_promptsYear_144 : decode cX12_promptsYear 144 = .ok (.iload_n 2, 1) := by decide +kernel
theorem d_X12_promptsYear_145 : decode cX12_promptsYear 145 = .ok (.aload_n 0, 1) := by decide +kernel
theorem d_X12_promptsYear_146 : decode cX12_promptsYear 146 = .ok (.getfield 64, 3) := by decide +kernel
theorem d_X12_promptsYear_149 : decode cX12_promptsYear 149 = .ok (.iload_n 2, 1) := by decide +kernel
theorem d_X12_promptsYear_150 : decode cX12_promptsYear 150 = .ok (.iaload, 1) := by decide +kernel
theorem d_X12_promptsYear_151 : decode cX12_promptsYear 151 = .ok (.iastore, 1) := by decide +kernel
theorem d_X12_promptsYear_152 : decode cX12_promptsYear 152 = .ok (.iinc 2 1, 3) := by decide +kernel
theorem d_X12_promptsYear_155 : decode cX12_promptsYear 155 = .ok (.goto (-21), 3) := by decide +kernel
theorem d_X12_promptsYear_158 : decode cX12_promptsYear 158 = .ok (.return_, 1) := by decide +kernel
abbrev X_X12_promptsYear : gX := (RX12, cX12_promptsYear, 5, none, false)
def F_X12_promptsYear_b134 (k134 : Option Nat → Int32 → gM → Option gM) (l0 : Option Nat) (l2 : Int32) (M : gM) : Option gM :=
  if (99 : Int32) < l2 then (some M) else ((gR 12 M l0 30).bind fun v1 => (gR 12 M l0 31).bind fun v2 => (aI 20 M v2 l2).bind fun v3 => (sI M v1 l2 v3).bind fun M4 => k134 l0 (l2 + 1) M4)
theorem T_X12_promptsYear_b134 (k134 : Option Nat → Int32 → gM → Option gM) (r : gM) (hk134 : ∀ (l0 : Option Nat) (l2 : Int32) (M : gM), k134 l0 l2 M = some r → GW 0 0 0 X_X12_promptsYear 134 [(0, vr l0), (2, vi l2)] [] M (none, r)) (l0 : Option Nat) (l2 : Int32) (M : gM) (h : F_X12_promptsYear_b134 k134 l0 l2 M = some r) : GW 0 0 0 X_X12_promptsYear 134 [(0, vr l0), (2, vi l2)] [] M (none, r) := by
  delta F_X12_promptsYear_b134 at h
  refine GW_iload_n (X := X_X12_promptsYear) (pc := 134) d_X12_promptsYear_134 rfl 1 rfl ?_
  refine GW_bipush (X := X_X12_promptsYear) (pc := 135) (v := 99) d_X12_promptsYear_135 (by decide) ?_
  refine GW_icmp_gt (X := X_X12_promptsYear) (pc := 137) 158 d_X12_promptsYear_137 (by decide) (fun c => ?_) (fun c => ?_)
  · replace h := g_ip c h
    replace h := Option.some.inj h
    subst h
    exact GW_ret (X := X_X12_promptsYear) (pc := 158) d_X12_promptsYear_158 rfl trivial
  · replace h := g_ie c h
    refine GW_aload_n (X := X_X12_promptsYear) (pc := 140) d_X12_promptsYear_140 rfl 0 rfl ?_
    replace h := g_bd h
    obtain ⟨v1, hv1, h⟩ := h
    refine GW_getR (X := X_X12_promptsYear) (pc := 141) f_X12_61 d_X12_promptsYear_141 hv1 (Or.inr ⟨_, ty_12_30⟩) ?_
    refine GW_iload_n (X := X_X12_promptsYear) (pc := 144) d_X12_promptsYear_144 rfl 1 rfl ?_
    refine GW_aload_n (X := X_X12_promptsYear) (pc := 145) d_X12_promptsYear_145 rfl 0 rfl ?_
    replace h := g_bd h
    obtain ⟨v2, hv2, h⟩ := h
    refine GW_getR (X := X_X12_promptsYear) (pc := 146) f_X12_64 d_X12_promptsYear_146 hv2 (Or.inr ⟨_, ty_12_31⟩) ?_
    refine GW_iload_n (X := X_X12_promptsYear) (pc := 149) d_X12_promptsYear_149 rfl 1 rfl ?_
    replace h := g_bd h
    obtain ⟨v3, hv3, h⟩ := h
    refine GW_iald (X := X_X12_promptsYear) (pc := 150) d_X12_promptsYear_150 hv3 ?_
    replace h := g_bd h
    obtain ⟨M4, hM4, h⟩ := h
    refine GW_iast (X := X_X12_promptsYear) (pc := 151) d_X12_promptsYear_151 hM4 ?_
    refine GW_iinc (j := 1) (X := X_X12_promptsYear) (pc := 152) d_X12_promptsYear_152 rfl (congrArg (fun z => _ + z) (by decide : Int32.ofInt 1 = (1 : Int32))) (Nat.le_of_ble_eq_true rfl) (lv2 := [(2, vi (l2 + 1)), (0, vr l0)]) rfl ?_
    refine GW_goto (X := X_X12_promptsYear) (pc := 155) 134 d_X12_promptsYear_155 (by decide) ?_
    refine GW_sub [1, 0] rfl ?_
    exact hk134 l0 (l2 + 1) M4 h
def F_X12_promptsYear_L134 : Nat → Option Nat → Int32 → gM → Option gM
  | 0 => fun _ _ _ => none
  | n + 1 => F_X12_promptsYear_b134 (F_X12_promptsYear_L134 n)
theorem T_X12_promptsYear_L134 (r : gM) : ∀ (n : Nat) (l0 : Option Nat) (l2 : Int32) (M : gM), F_X12_promptsYear_L134 n l0 l2 M = some r → GW 0 0 0 X_X12_promptsYear 134 [(0, vr l0), (2, vi l2)] [] M (none, r) := by
  intro n
  induction n with
  | zero => intro l0 l2 M h; exact g_no h
  | succ n ih => intro l0 l2 M h; exact T_X12_promptsYear_b134 (F_X12_promptsYear_L134 n) r ih l0 l2 M h
def F_X12_promptsYear_b126 (k23 : Option Nat → Int32 → Int32 → gM → Option gM) (l0 : Option Nat) (l1 : Int32) (l2 : Int32) (M : gM) : Option gM :=
  k23 l0 l1 (l2 + 1) M
theorem T_X12_promptsYear_b126 (k23 : Option Nat → Int32 → Int32 → gM → Option gM) (r : gM) (hk23 : ∀ (l0 : Option Nat) (l1 : Int32) (l2 : Int32) (M : gM), k23 l0 l1 l2 M = some r → GW 0 0 0 X_X12_promptsYear 23 [(0, vr l0), (1, vi l1), (2, vi l2)] [] M (none, r)) (l0 : Option Nat) (l1 : Int32) (l2 : Int32) (M : gM) (h : F_X12_promptsYear_b126 k23 l0 l1 l2 M = some r) : GW 0 0 0 X_X12_promptsYear 126 [(0, vr l0), (1, vi l1), (2, vi l2)] [] M (none, r) := by
  delta F_X12_promptsYear_b126 at h
  refine GW_iinc (j := 2) (X := X_X12_promptsYear) (pc := 126) d_X12_promptsYear_126 rfl (congrArg (fun z => _ + z) (by decide : Int32.ofInt 1 = (1 : Int32))) (Nat.le_of_ble_eq_true rfl) (lv2 := [(2, vi (l2 + 1)), (0, vr l0), (1, vi l1)]) rfl ?_
  refine GW_goto (X := X_X12_promptsYear) (pc := 129) 23 d_X12_promptsYear_129 (by decide) ?_
  refine GW_sub [1, 2, 0] rfl ?_
  exact hk23 l0 l1 (l2 + 1) M h
def F_X12_promptsYear_b120 (k23 : Option Nat → Int32 → Int32 → gM → Option gM) (k31 : Option Nat → Int32 → Int32 → Int32 → gM → Option gM) (l0 : Option Nat) (l1 : Int32) (l2 : Int32) (l3 : Int32) (M : gM) : Option gM :=
  k31 l0 l1 l2 (l3 + 1) M
theorem T_X12_promptsYear_b120 (k23 : Option Nat → Int32 → Int32 → gM → Option gM) (k31 : Option Nat → Int32 → Int32 → Int32 → gM → Option gM) (r : gM) (hk23 : ∀ (l0 : Option Nat) (l1 : Int32) (l2 : Int32) (M : gM), k23 l0 l1 l2 M = some r → GW 0 0 0 X_X12_promptsYear 23 [(0, vr l0), (1, vi l1), (2, vi l2)] [] M (none, r)) (hk31 : ∀ (l0 : Option Nat) (l1 : Int32) (l2 : Int32) (l3 : Int32) (M : gM), k31 l0 l1 l2 l3 M = some r → GW 0 0 0 X_X12_promptsYear 31 [(0, vr l0), (1, vi l1), (2, vi l2), (3, vi l3)] [] M (none, r)) (l0 : Option Nat) (l1 : Int32) (l2 : Int32) (l3 : Int32) (M : gM) (h : F_X12_promptsYear_b120 k23 k31 l0 l1 l2 l3 M = some r) : GW 0 0 0 X_X12_promptsYear 120 [(0, vr l0), (1, vi l1), (2, vi l2), (3, vi l3)] [] M (none, r) := by
  delta F_X12_promptsYear_b120 at h
  refine GW_iinc (j := 3) (X := X_X12_promptsYear) (pc := 120) d_X12_promptsYear_120 rfl (congrArg (fun z => _ + z) (by decide : Int32.ofInt 1 = (1 : Int32))) (Nat.le_of_ble_eq_true rfl) (lv2 := [(3, vi (l3 + 1)), (0, vr l0), (1, vi l1), (2, vi l2)]) rfl ?_
  refine GW_goto (X := X_X12_promptsYear) (pc := 123) 31 d_X12_promptsYear_123 (by decide) ?_
  refine GW_sub [1, 2, 3, 0] rfl ?_
  exact hk31 l0 l1 l2 (l3 + 1) M h
def F_X12_promptsYear_b105 (k23 : Option Nat → Int32 → Int32 → gM → Option gM) (k31 : Option Nat → Int32 → Int32 → Int32 → gM → Option gM) (l0 : Option Nat) (l1 : Int32) (l2 : Int32) (l3 : Int32) (l4 : Int32) (M : gM) : Option gM :=
  (gR 12 M l0 31).bind fun v1 => (gR 12 M l0 30).bind fun v2 => (aI 20 M v2 l2).bind fun v3 => (sI M v1 l4 (v3 + l3)).bind fun M4 => F_X12_promptsYear_b120 k23 k31 l0 l1 l2 l3 M4
theorem T_X12_promptsYear_b105 (k23 : Option Nat → Int32 → Int32 → gM → Option gM) (k31 : Option Nat → Int32 → Int32 → Int32 → gM → Option gM) (r : gM) (hk23 : ∀ (l0 : Option Nat) (l1 : Int32) (l2 : Int32) (M : gM), k23 l0 l1 l2 M = some r → GW 0 0 0 X_X12_promptsYear 23 [(0, vr l0), (1, vi l1), (2, vi l2)] [] M (none, r)) (hk31 : ∀ (l0 : Option Nat) (l1 : Int32) (l2 : Int32) (l3 : Int32) (M : gM), k31 l0 l1 l2 l3 M = some r → GW 0 0 0 X_X12_promptsYear 31 [(0, vr l0), (1, vi l1), (2, vi l2), (3, vi l3)] [] M (none, r)) (l0 : Option Nat) (l1 : Int32) (l2 : Int32) (l3 : Int32) (l4 : Int32) (M : gM) (h : F_X12_promptsYear_b105 k23 k31 l0 l1 l2 l3 l4 M = some r) : GW 0 0 0 X_X12_promptsYear 105 [(0, vr l0), (1, vi l1), (2, vi l2), (3, vi l3), (4, vi l4)] [] M (none, r) := by
  delta F_X12_promptsYear_b105 at h
  refine GW_aload_n (X := X_X12_promptsYear) (pc := 105) d_X12_promptsYear_105 rfl 0 rfl ?_
  replace h := g_bd h
  obtain ⟨v1, hv1, h⟩ := h
  refine GW_getR (X := X_X12_promptsYear) (pc := 106) f_X12_64 d_X12_promptsYear_106 hv1 (Or.inr ⟨_, ty_12_31⟩) ?_
  refine GW_iload (X := X_X12_promptsYear) (pc := 109) d_X12_promptsYear_109 4 rfl ?_
  refine GW_aload_n (X := X_X12_promptsYear) (pc := 111) d_X12_promptsYear_111 rfl 0 rfl ?_
  replace h := g_bd h
  obtain ⟨v2, hv2, h⟩ := h
  refine GW_getR (X := X_X12_promptsYear) (pc := 112) f_X12_61 d_X12_promptsYear_112 hv2 (Or.inr ⟨_, ty_12_30⟩) ?_
  refine GW_iload_n (X := X_X12_promptsYear) (pc := 115) d_X12_promptsYear_115 rfl 2 rfl ?_
  replace h := g_bd h
  obtain ⟨v3, hv3, h⟩ := h
  refine GW_iald (X := X_X12_promptsYear) (pc := 116) d_X12_promptsYear_116 hv3 ?_
  refine GW_iload_n (X := X_X12_promptsYear) (pc := 117) d_X12_promptsYear_117 rfl 3 rfl ?_
  refine GW_iadd (X := X_X12_promptsYear) (pc := 118) d_X12_promptsYear_118 ?_
  replace h := g_bd h
  obtain ⟨M4, hM4, h⟩ := h
  refine GW_iast (X := X_X12_promptsYear) (pc := 119) d_X12_promptsYear_119 hM4 ?_
  refine GW_sub [0, 1, 2, 3] rfl ?_
  exact T_X12_promptsYear_b120 k23 k31 r hk23 hk31 l0 l1 l2 l3 M4 h
def F_X12_promptsYear_b68 (k23 : Option Nat → Int32 → Int32 → gM → Option gM) (k31 : Option Nat → Int32 → Int32 → Int32 → gM → Option gM) (l0 : Option Nat) (l1 : Int32) (l2 : Int32) (l3 : Int32) (s0 : Int32) (M : gM) : Option gM :=
  if (s0 - l1) ≤ 0 then (F_X12_promptsYear_b120 k23 k31 l0 l1 l2 l3 M) else ((gR 12 M l0 31).bind fun v1 => (aI 20 M v1 (s0 - l1)).bind fun v2 => if v2 < 0 then (F_X12_promptsYear_b105 k23 k31 l0 l1 l2 l3 (s0 - l1) M) else ((gR 12 M l0 30).bind fun v3 => (aI 20 M v3 l2).bind fun v4 => (gR 12 M l0 31).bind fun v5 => (aI 20 M v5 (s0 - l1)).bind fun v6 => if v6 ≤ (v4 + l3) then (F_X12_promptsYear_b120 k23 k31 l0 l1 l2 l3 M) else (F_X12_promptsYear_b105 k23 k31 l0 l1 l2 l3 (s0 - l1) M)))
set_option maxHeartbeats 1000000 in
theorem T_X12_promptsYear_b68 (k23 : Option Nat → Int32 → Int32 → gM → Option gM) (k31 : Option Nat → Int32 → Int32 → Int32 → gM → Option gM) (r : gM) (hk23 : ∀ (l0 : Option Nat) (l1 : Int32) (l2 : Int32) (M : gM), k23 l0 l1 l2 M = some r → GW 0 0 0 X_X12_promptsYear 23 [(0, vr l0), (1, vi l1), (2, vi l2)] [] M (none, r)) (hk31 : ∀ (l0 : Option Nat) (l1 : Int32) (l2 : Int32) (l3 : Int32) (M : gM), k31 l0 l1 l2 l3 M = some r → GW 0 0 0 X_X12_promptsYear 31 [(0, vr l0), (1, vi l1), (2, vi l2), (3, vi l3)] [] M (none, r)) (l0 : Option Nat) (l1 : Int32) (l2 : Int32) (l3 : Int32) (s0 : Int32) (M : gM) (h : F_X12_promptsYear_b68 k23 k31 l0 l1 l2 l3 s0 M = some r) : GW 0 0 0 X_X12_promptsYear 68 [(0, vr l0), (1, vi l1), (2, vi l2), (3, vi l3)] [vi s0] M (none, r) := by
  delta F_X12_promptsYear_b68 at h
  refine GW_iload_n (X := X_X12_promptsYear) (pc := 68) d_X12_promptsYear_68 rfl 1 rfl ?_
  refine GW_isub (X := X_X12_promptsYear) (pc := 69) d_X12_promptsYear_69 ?_
  refine GW_istore (X := X_X12_promptsYear) (pc := 70) d_X12_promptsYear_70 (Nat.le_of_ble_eq_true rfl) (lv2 := [(4, vi (s0 - l1)), (0, vr l0), (1, vi l1), (2, vi l2), (3, vi l3)]) rfl ?_
  refine GW_iload (X := X_X12_promptsYear) (pc := 72) d_X12_promptsYear_72 0 rfl ?_
  refine GW_if_le (X := X_X12_promptsYear) (pc := 74) 120 d_X12_promptsYear_74 (by decide) (fun c => ?_) (fun c => ?_)
  · replace h := g_ip c h
    refine GW_sub [1, 2, 3, 4] rfl ?_
    exact T_X12_promptsYear_b120 k23 k31 r hk23 hk31 l0 l1 l2 l3 M h
  · replace h := g_ie c h
    refine GW_aload_n (X := X_X12_promptsYear) (pc := 77) d_X12_promptsYear_77 rfl 1 rfl ?_
    replace h := g_bd h
    obtain ⟨v1, hv1, h⟩ := h
    refine GW_getR (X := X_X12_promptsYear) (pc := 78) f_X12_64 d_X12_promptsYear_78 hv1 (Or.inr ⟨_, ty_12_31⟩) ?_
    refine GW_iload (X := X_X12_promptsYear) (pc := 81) d_X12_promptsYear_81 0 rfl ?_
    replace h := g_bd h
    obtain ⟨v2, hv2, h⟩ := h
    refine GW_iald (X := X_X12_promptsYear) (pc := 83) d_X12_promptsYear_83 hv2 ?_
    refine GW_if_lt (X := X_X12_promptsYear) (pc := 84) 105 d_X12_promptsYear_84 (by decide) (fun c => ?_) (fun c => ?_)
    · replace h := g_ip c h
      refine GW_sub [1, 2, 3, 4, 0] rfl ?_
      exact T_X12_promptsYear_b105 k23 k31 r hk23 hk31 l0 l1 l2 l3 (s0 - l1) M h
    · replace h := g_ie c h
      refine GW_aload_n (X := X_X12_promptsYear) (pc := 87) d_X12_promptsYear_87 rfl 1 rfl ?_
      replace h := g_bd h
      obtain ⟨v3, hv3, h⟩ := h
      refine GW_getR (X := X_X12_promptsYear) (pc := 88) f_X12_61 d_X12_promptsYear_88 hv3 (Or.inr ⟨_, ty_12_30⟩) ?_
      refine GW_iload_n (X := X_X12_promptsYear) (pc := 91) d_X12_promptsYear_91 rfl 3 rfl ?_
      replace h := g_bd h
      obtain ⟨v4, hv4, h⟩ := h
      refine GW_iald (X := X_X12_promptsYear) (pc := 92) d_X12_promptsYear_92 hv4 ?_
      refine GW_iload_n (X := X_X12_promptsYear) (pc := 93) d_X12_promptsYear_93 rfl 4 rfl ?_
      refine GW_iadd (X := X_X12_promptsYear) (pc := 94) d_X12_promptsYear_94 ?_
      refine GW_aload_n (X := X_X12_promptsYear) (pc := 95) d_X12_promptsYear_95 rfl 1 rfl ?_
      replace h := g_bd h
      obtain ⟨v5, hv5, h⟩ := h
      refine GW_getR (X := X_X12_promptsYear) (pc := 96) f_X12_64 d_X12_promptsYear_96 hv5 (Or.inr ⟨_, ty_12_31⟩) ?_
      refine GW_iload (X := X_X12_promptsYear) (pc := 99) d_X12_promptsYear_99 0 rfl ?_
      replace h := g_bd h
      obtain ⟨v6, hv6, h⟩ := h
      refine GW_iald (X := X_X12_promptsYear) (pc := 101) d_X12_promptsYear_101 hv6 ?_
      refine GW_icmp_ge (X := X_X12_promptsYear) (pc := 102) 120 d_X12_promptsYear_102 (by decide) (fun c => ?_) (fun c => ?_)
      · replace h := g_ip c h
        refine GW_sub [1, 2, 3, 4] rfl ?_
        exact T_X12_promptsYear_b120 k23 k31 r hk23 hk31 l0 l1 l2 l3 M h
      · replace h := g_ie c h
        refine GW_sub [1, 2, 3, 4, 0] rfl ?_
        exact T_X12_promptsYear_b105 k23 k31 r hk23 hk31 l0 l1 l2 l3 (s0 - l1) M h
def F_X12_promptsYear_b31 (k23 : Option Nat → Int32 → Int32 → gM → Option gM) (k31 : Option Nat → Int32 → Int32 → Int32 → gM → Option gM) (l0 : Option Nat) (l1 : Int32) (l2 : Int32) (l3 : Int32) (M : gM) : Option gM :=
  if (10 : Int32) < l3 then (F_X12_promptsYear_b126 k23 l0 l1 l2 M) else ((gR 12 M l0 30).bind fun v1 => (aI 20 M v1 l2).bind fun v2 => if v2 < 0 then (F_X12_promptsYear_b126 k23 l0 l1 l2 M) else (if (l2 + ((10 : Int32) * l3)) ≤ (99 : Int32) then (F_X12_promptsYear_b68 k23 k31 l0 l1 l2 l3 (l2 + ((10 : Int32) * l3)) M) else (F_X12_promptsYear_b68 k23 k31 l0 l1 l2 l3 (99 : Int32) M)))
theorem T_X12_promptsYear_b31 (k23 : Option Nat → Int32 → Int32 → gM → Option gM) (k31 : Option Nat → Int32 → Int32 → Int32 → gM → Option gM) (r : gM) (hk23 : ∀ (l0 : Option Nat) (l1 : Int32) (l2 : Int32) (M : gM), k23 l0 l1 l2 M = some r → GW 0 0 0 X_X12_promptsYear 23 [(0, vr l0), (1, vi l1), (2, vi l2)] [] M (none, r)) (hk31 : ∀ (l0 : Option Nat) (l1 : Int32) (l2 : Int32) (l3 : Int32) (M : gM), k31 l0 l1 l2 l3 M = some r → GW 0 0 0 X_X12_promptsYear 31 [(0, vr l0), (1, vi l1), (2, vi l2), (3, vi l3)] [] M (none, r)) (l0 : Option Nat) (l1 : Int32) (l2 : Int32) (l3 : Int32) (M : gM) (h : F_X12_promptsYear_b31 k23 k31 l0 l1 l2 l3 M = some r) : GW 0 0 0 X_X12_promptsYear 31 [(0, vr l0), (1, vi l1), (2, vi l2), (3, vi l3)] [] M (none, r) := by
  delta F_X12_promptsYear_b31 at h
  refine GW_iload_n (X := X_X12_promptsYear) (pc := 31) d_X12_promptsYear_31 rfl 3 rfl ?_
  refine GW_bipush (X := X_X12_promptsYear) (pc := 32) (v := 10) d_X12_promptsYear_32 (by decide) ?_
  refine GW_icmp_gt (X := X_X12_promptsYear) (pc := 34) 126 d_X12_promptsYear_34 (by decide) (fun c => ?_) (fun c => ?_)
  · replace h := g_ip c h
    refine GW_sub [0, 1, 2] rfl ?_
    exact T_X12_promptsYear_b126 k23 r hk23 l0 l1 l2 M h
  · replace h := g_ie c h
    refine GW_aload_n (X := X_X12_promptsYear) (pc := 37) d_X12_promptsYear_37 rfl 0 rfl ?_
    replace h := g_bd h
    obtain ⟨v1, hv1, h⟩ := h
    refine GW_getR (X := X_X12_promptsYear) (pc := 38) f_X12_61 d_X12_promptsYear_38 hv1 (Or.inr ⟨_, ty_12_30⟩) ?_
    refine GW_iload_n (X := X_X12_promptsYear) (pc := 41) d_X12_promptsYear_41 rfl 2 rfl ?_
    replace h := g_bd h
    obtain ⟨v2, hv2, h⟩ := h
    refine GW_iald (X := X_X12_promptsYear) (pc := 42) d_X12_promptsYear_42 hv2 ?_
    refine GW_if_lt (X := X_X12_promptsYear) (pc := 43) 126 d_X12_promptsYear_43 (by decide) (fun c => ?_) (fun c => ?_)
    · replace h := g_ip c h
      refine GW_sub [0, 1, 2] rfl ?_
      exact T_X12_promptsYear_b126 k23 r hk23 l0 l1 l2 M h
    · replace h := g_ie c h
      refine GW_iload_n (X := X_X12_promptsYear) (pc := 46) d_X12_promptsYear_46 rfl 2 rfl ?_
      refine GW_bipush (X := X_X12_promptsYear) (pc := 47) (v := 10) d_X12_promptsYear_47 (by decide) ?_
      refine GW_iload_n (X := X_X12_promptsYear) (pc := 49) d_X12_promptsYear_49 rfl 3 rfl ?_
      refine GW_imul (X := X_X12_promptsYear) (pc := 50) d_X12_promptsYear_50 ?_
      refine GW_iadd (X := X_X12_promptsYear) (pc := 51) d_X12_promptsYear_51 ?_
      refine GW_bipush (X := X_X12_promptsYear) (pc := 52) (v := 99) d_X12_promptsYear_52 (by decide) ?_
      refine GW_icmp_le (X := X_X12_promptsYear) (pc := 54) 62 d_X12_promptsYear_54 (by decide) (fun c => ?_) (fun c => ?_)
      · replace h := g_ip c h
        refine GW_iload_n (X := X_X12_promptsYear) (pc := 62) d_X12_promptsYear_62 rfl 2 rfl ?_
        refine GW_bipush (X := X_X12_promptsYear) (pc := 63) (v := 10) d_X12_promptsYear_63 (by decide) ?_
        refine GW_iload_n (X := X_X12_promptsYear) (pc := 65) d_X12_promptsYear_65 rfl 3 rfl ?_
        refine GW_imul (X := X_X12_promptsYear) (pc := 66) d_X12_promptsYear_66 ?_
        refine GW_iadd (X := X_X12_promptsYear) (pc := 67) d_X12_promptsYear_67 ?_
        exact T_X12_promptsYear_b68 k23 k31 r hk23 hk31 l0 l1 l2 l3 (l2 + ((10 : Int32) * l3)) M h
      · replace h := g_ie c h
        refine GW_bipush (X := X_X12_promptsYear) (pc := 57) (v := 99) d_X12_promptsYear_57 (by decide) ?_
        refine GW_goto (X := X_X12_promptsYear) (pc := 59) 68 d_X12_promptsYear_59 (by decide) ?_
        exact T_X12_promptsYear_b68 k23 k31 r hk23 hk31 l0 l1 l2 l3 (99 : Int32) M h
def F_X12_promptsYear_L31 (k23 : Option Nat → Int32 → Int32 → gM → Option gM) : Nat → Option Nat → Int32 → Int32 → Int32 → gM → Option gM
  | 0 => fun _ _ _ _ _ => none
  | n + 1 => F_X12_promptsYear_b31 k23 (F_X12_promptsYear_L31 k23 n)
theorem T_X12_promptsYear_L31 (k23 : Option Nat → Int32 → Int32 → gM → Option gM) (r : gM) (hk23 : ∀ (l0 : Option Nat) (l1 : Int32) (l2 : Int32) (M : gM), k23 l0 l1 l2 M = some r → GW 0 0 0 X_X12_promptsYear 23 [(0, vr l0), (1, vi l1), (2, vi l2)] [] M (none, r)) : ∀ (n : Nat) (l0 : Option Nat) (l1 : Int32) (l2 : Int32) (l3 : Int32) (M : gM), F_X12_promptsYear_L31 k23 n l0 l1 l2 l3 M = some r → GW 0 0 0 X_X12_promptsYear 31 [(0, vr l0), (1, vi l1), (2, vi l2), (3, vi l3)] [] M (none, r) := by
  intro n
  induction n with
  | zero => intro l0 l1 l2 l3 M h; exact g_no h
  | succ n ih => intro l0 l1 l2 l3 M h; exact T_X12_promptsYear_b31 k23 (F_X12_promptsYear_L31 k23 n) r hk23 ih l0 l1 l2 l3 M h
def F_X12_promptsYear_b23 (k23 : Option Nat → Int32 → Int32 → gM → Option gM) (l0 : Option Nat) (l1 : Int32) (l2 : Int32) (M : gM) : Option gM :=
  if (99 : Int32) < l2 then (F_X12_promptsYear_L134 g_fuel l0 (0 : Int32) M) else (F_X12_promptsYear_L31 k23 g_fuel l0 l1 l2 (0 : Int32) M)
theorem T_X12_promptsYear_b23 (k23 : Option Nat → Int32 → Int32 → gM → Option gM) (r : gM) (hk23 : ∀ (l0 : Option Nat) (l1 : Int32) (l2 : Int32) (M : gM), k23 l0 l1 l2 M = some r → GW 0 0 0 X_X12_promptsYear 23 [(0, vr l0), (1, vi l1), (2, vi l2)] [] M (none, r)) (l0 : Option Nat) (l1 : Int32) (l2 : Int32) (M : gM) (h : F_X12_promptsYear_b23 k23 l0 l1 l2 M = some r) : GW 0 0 0 X_X12_promptsYear 23 [(0, vr l0), (1, vi l1), (2, vi l2)] [] M (none, r) := by
  delta F_X12_promptsYear_b23 at h
  refine GW_iload_n (X := X_X12_promptsYear) (pc := 23) d_X12_promptsYear_23 rfl 2 rfl ?_
  refine GW_bipush (X := X_X12_promptsYear) (pc := 24) (v := 99) d_X12_promptsYear_24 (by decide) ?_
  refine GW_icmp_gt (X := X_X12_promptsYear) (pc := 26) 132 d_X12_promptsYear_26 (by decide) (fun c => ?_) (fun c => ?_)
  · replace h := g_ip c h
    refine GW_iconst (X := X_X12_promptsYear) (pc := 132) (v := 0) d_X12_promptsYear_132 (by decide) ?_
    refine GW_istore_n (X := X_X12_promptsYear) (pc := 133) d_X12_promptsYear_133 rfl (Nat.le_of_ble_eq_true rfl) (lv2 := [(2, vi (0 : Int32)), (0, vr l0), (1, vi l1)]) rfl ?_
    refine GW_sub [1, 0] rfl ?_
    exact T_X12_promptsYear_L134 r g_fuel l0 (0 : Int32) M h
  · replace h := g_ie c h
    refine GW_iconst (X := X_X12_promptsYear) (pc := 29) (v := 0) d_X12_promptsYear_29 (by decide) ?_
    refine GW_istore_n (X := X_X12_promptsYear) (pc := 30) d_X12_promptsYear_30 rfl (Nat.le_of_ble_eq_true rfl) (lv2 := [(3, vi (0 : Int32)), (0, vr l0), (1, vi l1), (2, vi l2)]) rfl ?_
    refine GW_sub [1, 2, 3, 0] rfl ?_
    exact T_X12_promptsYear_L31 k23 r hk23 g_fuel l0 l1 l2 (0 : Int32) M h
def F_X12_promptsYear_L23 : Nat → Option Nat → Int32 → Int32 → gM → Option gM
  | 0 => fun _ _ _ _ => none
  | n + 1 => F_X12_promptsYear_b23 (F_X12_promptsYear_L23 n)
theorem T_X12_promptsYear_L23 (r : gM) : ∀ (n : Nat) (l0 : Option Nat) (l1 : Int32) (l2 : Int32) (M : gM), F_X12_promptsYear_L23 n l0 l1 l2 M = some r → GW 0 0 0 X_X12_promptsYear 23 [(0, vr l0), (1, vi l1), (2, vi l2)] [] M (none, r) := by
  intro n
  induction n with
  | zero => intro l0 l1 l2 M h; exact g_no h
  | succ n ih => intro l0 l1 l2 M h; exact T_X12_promptsYear_b23 (F_X12_promptsYear_L23 n) r ih l0 l1 l2 M h
def F_X12_promptsYear_b2 (k2 : Option Nat → Int32 → Int32 → gM → Option gM) (l0 : Option Nat) (l1 : Int32) (l2 : Int32) (M : gM) : Option gM :=
  if (99 : Int32) < l2 then (F_X12_promptsYear_L23 g_fuel l0 l1 (1 : Int32) M) else ((gR 12 M l0 31).bind fun v1 => (sI M v1 l2 (-1 : Int32)).bind fun M2 => k2 l0 l1 (l2 + 1) M2)
theorem T_X12_promptsYear_b2 (k2 : Option Nat → Int32 → Int32 → gM → Option gM) (r : gM) (hk2 : ∀ (l0 : Option Nat) (l1 : Int32) (l2 : Int32) (M : gM), k2 l0 l1 l2 M = some r → GW 0 0 0 X_X12_promptsYear 2 [(0, vr l0), (1, vi l1), (2, vi l2)] [] M (none, r)) (l0 : Option Nat) (l1 : Int32) (l2 : Int32) (M : gM) (h : F_X12_promptsYear_b2 k2 l0 l1 l2 M = some r) : GW 0 0 0 X_X12_promptsYear 2 [(0, vr l0), (1, vi l1), (2, vi l2)] [] M (none, r) := by
  delta F_X12_promptsYear_b2 at h
  refine GW_iload_n (X := X_X12_promptsYear) (pc := 2) d_X12_promptsYear_2 rfl 2 rfl ?_
  refine GW_bipush (X := X_X12_promptsYear) (pc := 3) (v := 99) d_X12_promptsYear_3 (by decide) ?_
  refine GW_icmp_gt (X := X_X12_promptsYear) (pc := 5) 21 d_X12_promptsYear_5 (by decide) (fun c => ?_) (fun c => ?_)
  · replace h := g_ip c h
    refine GW_iconst (X := X_X12_promptsYear) (pc := 21) (v := 1) d_X12_promptsYear_21 (by decide) ?_
    refine GW_istore_n (X := X_X12_promptsYear) (pc := 22) d_X12_promptsYear_22 rfl (Nat.le_of_ble_eq_true rfl) (lv2 := [(2, vi (1 : Int32)), (0, vr l0), (1, vi l1)]) rfl ?_
    refine GW_sub [1, 2, 0] rfl ?_
    exact T_X12_promptsYear_L23 r g_fuel l0 l1 (1 : Int32) M h
  · replace h := g_ie c h
    refine GW_aload_n (X := X_X12_promptsYear) (pc := 8) d_X12_promptsYear_8 rfl 0 rfl ?_
    replace h := g_bd h
    obtain ⟨v1, hv1, h⟩ := h
    refine GW_getR (X := X_X12_promptsYear) (pc := 9) f_X12_64 d_X12_promptsYear_9 hv1 (Or.inr ⟨_, ty_12_31⟩) ?_
    refine GW_iload_n (X := X_X12_promptsYear) (pc := 12) d_X12_promptsYear_12 rfl 2 rfl ?_
    refine GW_iconst (X := X_X12_promptsYear) (pc := 13) (v := -1) d_X12_promptsYear_13 (by decide) ?_
    replace h := g_bd h
    obtain ⟨M2, hM2, h⟩ := h
    refine GW_iast (X := X_X12_promptsYear) (pc := 14) d_X12_promptsYear_14 hM2 ?_
    refine GW_iinc (j := 2) (X := X_X12_promptsYear) (pc := 15) d_X12_promptsYear_15 rfl (congrArg (fun z => _ + z) (by decide : Int32.ofInt 1 = (1 : Int32))) (Nat.le_of_ble_eq_true rfl) (lv2 := [(2, vi (l2 + 1)), (0, vr l0), (1, vi l1)]) rfl ?_
    refine GW_goto (X := X_X12_promptsYear) (pc := 18) 2 d_X12_promptsYear_18 (by decide) ?_
    refine GW_sub [1, 2, 0] rfl ?_
    exact hk2 l0 l1 (l2 + 1) M2 h
def F_X12_promptsYear_L2 : Nat → Option Nat → Int32 → Int32 → gM → Option gM
  | 0 => fun _ _ _ _ => none
  | n + 1 => F_X12_promptsYear_b2 (F_X12_promptsYear_L2 n)
theorem T_X12_promptsYear_L2 (r : gM) : ∀ (n : Nat) (l0 : Option Nat) (l1 : Int32) (l2 : Int32) (M : gM), F_X12_promptsYear_L2 n l0 l1 l2 M = some r → GW 0 0 0 X_X12_promptsYear 2 [(0, vr l0), (1, vi l1), (2, vi l2)] [] M (none, r) := by
  intro n
  induction n with
  | zero => intro l0 l1 l2 M h; exact g_no h
  | succ n ih => intro l0 l1 l2 M h; exact T_X12_promptsYear_b2 (F_X12_promptsYear_L2 n) r ih l0 l1 l2 M h
def F_X12_promptsYear_b0 (l0 : Option Nat) (l1 : Int32) (M : gM) : Option gM :=
  F_X12_promptsYear_L2 g_fuel l0 l1 (0 : Int32) M
theorem T_X12_promptsYear_b0 (r : gM) (l0 : Option Nat) (l1 : Int32) (M : gM) (h : F_X12_promptsYear_b0 l0 l1 M = some r) : GW 0 0 0 X_X12_promptsYear 0 [(0, vr l0), (1, vi l1)] [] M (none, r) := by
  delta F_X12_promptsYear_b0 at h
  refine GW_iconst (X := X_X12_promptsYear) (pc := 0) (v := 0) d_X12_promptsYear_0 (by decide) ?_
  refine GW_istore_n (X := X_X12_promptsYear) (pc := 1) d_X12_promptsYear_1 rfl (Nat.le_of_ble_eq_true rfl) (lv2 := [(2, vi (0 : Int32)), (0, vr l0), (1, vi l1)]) rfl ?_
  refine GW_sub [1, 2, 0] rfl ?_
  exact T_X12_promptsYear_L2 r g_fuel l0 l1 (0 : Int32) M h
def F_X12_promptsYear (l0 : Option Nat) (l1 : Int32) (M : gM) : Option gM := F_X12_promptsYear_b0 l0 l1 M
theorem T_X12_promptsYear (l0 : Option Nat) (l1 : Int32) (M : gM) (r : gM) (h : F_X12_promptsYear l0 l1 M = some r) : g_Met 0 0 0 yX12_promptsYear X_X12_promptsYear [vr l0, vi l1] M (none, r) :=
  g_Met_of pn_RX12 rfl (Nat.le_of_ble_eq_true rfl) (fun h => by cases h) (GW_sub [0, 1] rfl (T_X12_promptsYear_b0 r l0 l1 M h))
/-! ForgetHeirsModel.prompts(III)I -/
theorem d_X12_prompts_0 : decode cX12_prompts 0 = .ok (.aload_n 0, 1) := by decide +kernel
theorem d_X12_prompts_1 : decode cX12_prompts 1 = .ok (.iload_n 1, 1) := by decide +kernel
theorem d_X12_prompts_2 : decode cX12_prompts 2 = .ok (.invokevirtual 322, 3) := by decide +kernel
theorem d_X12_prompts_5 : decode cX12_prompts 5 = .ok (.ifCond .eq 32, 3) := by decide +kernel
theorem d_X12_prompts_8 : decode cX12_prompts 8 = .ok (.aload_n 0, 1) := by decide +kernel
theorem d_X12_prompts_9 : decode cX12_prompts 9 = .ok (.iload_n 2, 1) := by decide +kernel
theorem d_X12_prompts_10 : decode cX12_prompts 10 = .ok (.invokevirtual 327, 3) := by decide +kernel
theorem d_X12_prompts_13 : decode cX12_prompts 13 = .ok (.ifCond .eq 24, 3) := by decide +kernel
theorem d_X12_prompts_16 : decode cX12_prompts 16 = .ok (.aload_n 0, 1) := by decide +kernel
theorem d_X12_prompts_17 : decode cX12_prompts 17 = .ok (.iload_n 1, 1) := by decide +kernel
theorem d_X12_prompts_18 : decode cX12_prompts 18 = .ok (.iload_n 2, 1) := by decide +kernel
theorem d_X12_prompts_19 : decode cX12_prompts 19 = .ok (.invokevirtual 304, 3) := by decide +kernel
theorem d_X12_prompts_22 : decode cX12_prompts 22 = .ok (.ifCond .eq 15, 3) := by decide +kernel
theorem d_X12_prompts_25 : decode cX12_prompts 25 = .ok (.iload_n 3, 1) := by decide +kernel
theorem d_X12_prompts_26 : decode cX12_prompts 26 = .ok (.i2l, 1) := by decide +kernel
theorem d_X12_prompts_27 : decode cX12_prompts 27 = .ok (.lconst 1, 1) := by decide +kernel
theorem d_X12_prompts_28 : decode cX12_prompts 28 = .ok (.ldc2_w 422, 3) := by decide +kernel
theorem d_X12_prompts_31 : decode cX12_prompts 31 = .ok (.invokestatic 118, 3) := by decide +kernel
theorem d_X12_prompts_34 : decode cX12_prompts 34 = .ok (.ifCond .ne 5, 3) := by decide +kernel
theorem d_X12_prompts_37 : decode cX12_prompts 37 = .ok (.iconst (-1), 1) := by decide +kernel
theorem d_X12_prompts_38 : decode cX12_prompts 38 = .ok (.ireturn, 1) := by decide +kernel
theorem d_X12_prompts_39 : decode cX12_prompts 39 = .ok (.aload_n 0, 1) := by decide +kernel
theorem d_X12_prompts_40 : decode cX12_prompts 40 = .ok (.getfield 42, 3) := by decide +kernel
theorem d_X12_prompts_43 : decode cX12_prompts 43 = .ok (.ifCond .lt 6, 3) := by decide +kernel
theorem d_X12_prompts_46 : decode cX12_prompts 46 = .ok (.bipush (-3), 2) := by decide +kernel
theorem d_X12_prompts_48 : decode cX12_prompts 48 = .ok (.ireturn, 1) := by decide +kernel
theorem d_X12_prompts_49 : decode cX12_prompts 49 = .ok (.iconst 0, 1) := by decide +kernel
theorem d_X12_prompts_50 : decode cX12_prompts 50 = .ok (.istore 4, 2) := by decide +kernel
theorem d_X12_prompts_52 : decode cX12_prompts 52 = .ok (.iload 4, 2) := by decide +kernel
theorem d_X12_prompts_54 : decode cX12_prompts 54 = .ok (.bipush 99, 2) := by decide +kernel
theorem d_X12_prompts_56 : decode cX12_prompts 56 = .ok (.if_icmp .gt 32, 3) := by decide +kernel
theorem d_X12_prompts_59 : decode cX12_prompts 59 = .ok (.aload_n 0, 1) := by decide +kernel
theorem d_X12_prompts_60 : decode cX12_prompts 60 = .ok (.getfield 61, 3) := by decide +kernel
theorem d_X12_prompts_63 : decode cX12_prompts 63 = .ok (.iload 4, 2) := by decide +kernel
theorem d_X12_prompts_65 : decode cX12_prompts 65 = .ok (.iload 4, 2) := by decide +kernel
theorem d_X12_prompts_67 : decode cX12_prompts 67 = .ok (.aload_n 0, 1) := by decide +kernel
theorem d_X12_prompts_68 : decode cX12_prompts 68 = .ok (.iload_n 1, 1) := by decide +kernel
theorem d_X12_prompts_69 : decode cX12_prompts 69 = .ok (.iload_n 2, 1) := by decide +kernel
theorem d_X12_prompts_70 : decode cX12_prompts 70 = .ok (.invokevirtual 335, 3) := by decide +kernel
theorem d_X12_prompts_73 : decode cX12_prompts 73 = .ok (.if_icmp .ne 7, 3) := by decide +kernel
theorem d_X12_prompts_76 : decode cX12_prompts 76 = .ok (.iconst 0, 1) := by decide +kernel
theorem d_X12_prompts_77 : decode cX12_prompts 77 = .ok (.goto 4, 3) := by decide +kernel
theorem d_X12_prompts_80 : decode cX12_prompts 80 = .ok (.iconst (-1), 1) := by decide +kernel
theorem d_X12_prompts_81 : decode cX12_prompts 81 = .ok (.iastore, 1) := by decide +kernel
theorem d_X12_prompts_82 : decode cX12_prompts 82 = .ok (.iinc 4 1, 3) := by decide +kernel
theorem d_X12_prompts_85 : decode cX12_prompts 85 = .ok (.goto (-33), 3) := by decide +kernel
theorem d_X12_prompts_88 : decode cX12_prompts 88 = .ok (.aload_n 0, 1) := by decide +kernel
theorem d_X12_prompts_89 : decode cX12_prompts 89 = .ok (.getfield 39, 3) := by decide +kernel
theorem d_X12_prompts_92 : decode cX12_prompts 92 = .ok (.bipush 38, 2) := by decide +kernel
theorem d_X12_prompts_94 : decode cX12_prompts 94 = .ok (.iconst 2, 1) := by decide +kernel
theorem d_X12_prompts_95 : decode cX12_prompts 95 = .ok (.iload_n 1, 1) := by decide +kernel
theorem d_X12_prompts_96 : decode cX12_prompts 96 = .ok (.imul, 1) := by decide +kernel
theorem d_X12_prompts_97 : decode cX12_prompts 97 = .ok (.iadd, 1) := by decide +kernel
theorem d_X12_prompts_98 : decode cX12_prompts 98 = .ok (.iaload, 1) := by decide +kernel
theorem d_X12_prompts_99 : decode cX12_prompts 99 = .ok (.istore 4, 2) := by decide +kernel
theorem d_X12_prompts_101 : decode cX12_prompts 101 = .ok (.iconst 0, 1) := by decide +kernel
theorem d_X12_prompts_102 : decode cX12_prompts 102 = .ok (.istore 5, 2) := by decide +kernel
theorem d_X12_prompts_104 : decode cX12_prompts 104 = .ok (.iload 5, 2) := by decide +kernel
theorem d_X12_prompts_106 : decode cX12_prompts 106 = .ok (.iload_n 3, 1) := by decide +kernel
theorem d_X12_prompts_107 : decode cX12_prompts 107 = .ok (.if_icmp .ge 39, 3) := by decide +kernel
theorem d_X12_prompts_110 : decode cX12_prompts 110 = .ok (.aload_n 0, 1) := by decide +kernel
theorem d_X12_prompts_111 : decode cX12_prompts 111 = .ok (.aload_n 0, 1) := by decide +kernel
theorem d_X12_prompts_112 : decode cX12_prompts 112 = .ok (.iload_n 1, 1) := by decide +kernel
theorem d_X12_prompts_113 : decode cX12_prompts 113 = .ok (.iload_n 2, 1) := by decide +kernel
theorem d_X12_prompts_114 : decode cX12_prompts 114 = .ok (.iload 4, 2) := by decide +kernel
theorem d_X12_prompts_116 : decode cX12_prompts 116 = .ok (.invokevirtual 342, 3) := by decide +kernel
theorem d_X12_prompts_119 : decode cX12_prompts 119 = .ok (.invokevirtual 424, 3) := by decide +kernel
theorem d_X12_prompts_122 : decode cX12_prompts 122 = .ok (.iload 4, 2) := by decide +kernel
theorem d_X12_prompts_124 : decode cX12_prompts 124 = .ok (.bipush 99, 2) := by decide +kernel
theorem d_X12_prompts_126 : decode cX12_prompts 126 = .ok (.if_icmp .ge 10, 3) := by decide +kernel
theorem d_X12_prompts_129 : decode cX12_prompts 129 = .ok (.iload 4, 2) := by decide +kernel
theorem d_X12_prompts_131 : decode cX12_prompts 131 = .ok (.iconst 1, 1) := by decide +kernel
theorem d_X12_prompts_132 : decode cX12_prompts 132 = .ok (.iadd, 1) := by decide +kernel
theorem d_X12_prompts_133 : decode cX12_prompts 133 = .ok (.goto 5, 3) := by decide +kernel
theorem d_X12_prompts_136 : decode cX12_prompts 136 = .ok (.bipush 99, 2) := by decide +kernel
theorem d_X12_prompts_138 : decode cX12_prompts 138 = .ok (.istore 4, 2) := by decide +kernel
theorem d_X12_prompts_140 : decode cX12_prompts 140 = .ok (.iinc 5 1, 3) := by decide +kernel
theorem d_X12_prompts_143 : decode cX12_prompts 143 = .ok (.goto (-39), 3) := by decide +kernel
theorem d_X12_prompts_146 : decode cX12_prompts 146 = .ok (.bipush (-2), 2) := by decide +kernel
theorem d_X12_prompts_148 : decode cX12_prompts 148 = .ok (.istore 5, 2) := by decide +kernel
theorem d_X12_prompts_150 : decode cX12_prompts 150 = .ok (.iconst 1, 1) := by decide +kernel
theorem d_X12_prompts_151 : decode cX12_prompts 151 = .ok (.istore 6, 2) := by decide +kernel
theorem d_X12_prompts_153 : decode cX12_prompts 153 = .ok (.iload 6, 2) := by decide +kernel
theorem d_X12_prompts_155 : decode cX12_prompts 155 = .ok (.bipush 99, 2) := by decide +kernel
theorem d_X12_prompts_157 : decode cX12_prompts 157 = .ok (.if_icmp .gt 45, 3) := by decide +kernel
theorem d_X12_prompts_160 : decode cX12_prompts 160 = .ok (.aload_n 0, 1) := by decide +kernel
theorem d_X12_prompts_161 : decode cX12_prompts 161 = .ok (.getfield 61, 3) := by decide +kernel
theorem d_X12_prompts_164 : decode cX12_prompts 164 = .ok (.iload 6, 2) := by decide +kernel
theorem d_X12_prompts_166 : decode cX12_prompts 166 = .ok (.iaload, 1) := by decide +kernel
theorem d_X12_prompts_167 : decode cX12_prompts 167 = .ok (.ifCond .lt 29, 3) := by decide +kernel
theorem d_X12_prompts_170 : decode cX12_prompts 170 = .ok (.iload 5, 2) := by decide +kernel
theorem d_X12_prompts_172 : decode cX12_prompts 172 = .ok (.ifCond .lt 15, 3) := by decide +kernel
theorem d_X12_prompts_175 : decode cX12_prompts 175 = .ok (.aload_n 0, 1) := by decide +kernel
theorem d_X12_prompts_176 : decode cX12_prompts 176 = .ok (.getfield 61, 3) := by decide +kernel
theorem d_X12_prompts_179 : decode cX12_prompts 179 = .ok (.iload 6, 2) := by decide +kernel
theorem d_X12_prompts_181 : decode cX12_prompts 181 = .ok (.iaload, 1) := by decide +kernel
theorem d_X12_prompts_182 : decode cX12_prompts 182 = .ok (.iload 5, 2) := by decide +kernel
theorem d_X12_prompts_184 : decode cX12_prompts 184 = .ok (.if_icmp .ge 12, 3) := by decide +kernel
theorem d_X12_prompts_187 : decode cX12_prompts 187 = .ok (.aload_n 0, 1) := by decide +kernel
theorem d_X12_prompts_188 : decode cX12_prompts 188 = .ok (.getfield 61, 3) := by decide +kernel
theorem d_X12_prompts_191 : decode cX12_prompts 191 = .ok (.iload 6, 2) := by decide +kernel
theorem d_X12_prompts_193 : decode cX12_prompts 193 = .ok (.iaload, 1) := by decide +kernel
theorem d_X12_prompts_194 : decode cX12_prompts 194 = .ok (.istore 5, 2) := by decide +kernel
theorem d_X12_prompts_196 : decode cX12_prompts 196 = .ok (.iinc 6 1, 3) := by decide +kernel
theorem d_X12_prompts_199 : decode cX12_prompts 199 = .ok (.goto (-46), 3) := by decide +kernel
theorem d_X12_prompts_202 : decode cX12_prompts 202 = .ok (.iload 5, 2) := by decide +kernel
theorem d_X12_prompts_204 : decode cX12_prompts 204 = .ok (.ireturn, 1) := by decide +kernel
abbrev X_X12_prompts : gX := (RX12, cX12_prompts, 7, (some .int), false)
def F_X12_prompts_b37 (M : gM) : Option (Int32 × gM) :=
  some ((-1 : Int32), M)
theorem T_X12_prompts_b37 (r : (Int32 × gM)) (M : gM) (h : F_X12_prompts_b37 M = some r) : GW 2 0 0 X_X12_prompts 37 [] [] M (some (vi r.1), r.2) := by
  delta F_X12_prompts_b37 at h
  refine GW_iconst (X := X_X12_prompts) (pc := 37) (v := -1) d_X12_prompts_37 (by decide) ?_
  replace h := Option.some.inj h
  subst h
  exact GW_ret (X := X_X12_prompts) (pc := 38) d_X12_prompts_38 rfl trivial
def F_X12_prompts_b196 (k153 : Option Nat → Int32 → Int32 → gM → Option (Int32 × gM)) (l0 : Option Nat) (l5 : Int32) (l6 : Int32) (M : gM) : Option (Int32 × gM) :=
  k153 l0 l5 (l6 + 1) M
theorem T_X12_prompts_b196 (k153 : Option Nat → Int32 → Int32 → gM → Option (Int32 × gM)) (r : (Int32 × gM)) (hk153 : ∀ (l0 : Option Nat) (l5 : Int32) (l6 : Int32) (M : gM), k153 l0 l5 l6 M = some r → GW 2 0 0 X_X12_prompts 153 [(0, vr l0), (5, vi l5), (6, vi l6)] [] M (some (vi r.1), r.2)) (l0 : Option Nat) (l5 : Int32) (l6 : Int32) (M : gM) (h : F_X12_prompts_b196 k153 l0 l5 l6 M = some r) : GW 2 0 0 X_X12_prompts 196 [(0, vr l0), (5, vi l5), (6, vi l6)] [] M (some (vi r.1), r.2) := by
  delta F_X12_prompts_b196 at h
  refine GW_iinc (j := 2) (X := X_X12_prompts) (pc := 196) d_X12_prompts_196 rfl (congrArg (fun z => _ + z) (by decide : Int32.ofInt 1 = (1 : Int32))) (Nat.le_of_ble_eq_true rfl) (lv2 := [(6, vi (l6 + 1)), (0, vr l0), (5, vi l5)]) rfl ?_
  refine GW_goto (X := X_X12_prompts) (pc := 199) 153 d_X12_prompts_199 (by decide) ?_
  refine GW_sub [1, 2, 0] rfl ?_
  exact hk153 l0 l5 (l6 + 1) M h
def F_X12_prompts_b187 (k153 : Option Nat → Int32 → Int32 → gM → Option (Int32 × gM)) (l0 : Option Nat) (l6 : Int32) (M : gM) : Option (Int32 × gM) :=
  (gR 12 M l0 30).bind fun v1 => (aI 20 M v1 l6).bind fun v2 => F_X12_prompts_b196 k153 l0 v2 l6 M
theorem T_X12_prompts_b187 (k153 : Option Nat → Int32 → Int32 → gM → Option (Int32 × gM)) (r : (Int32 × gM)) (hk153 : ∀ (l0 : Option Nat) (l5 : Int32) (l6 : Int32) (M : gM), k153 l0 l5 l6 M = some r → GW 2 0 0 X_X12_prompts 153 [(0, vr l0), (5, vi l5), (6, vi l6)] [] M (some (vi r.1), r.2)) (l0 : Option Nat) (l6 : Int32) (M : gM) (h : F_X12_prompts_b187 k153 l0 l6 M = some r) : GW 2 0 0 X_X12_prompts 187 [(0, vr l0), (6, vi l6)] [] M (some (vi r.1), r.2) := by
  delta F_X12_prompts_b187 at h
  refine GW_aload_n (X := X_X12_prompts) (pc := 187) d_X12_prompts_187 rfl 0 rfl ?_
  replace h := g_bd h
  obtain ⟨v1, hv1, h⟩ := h
  refine GW_getR (X := X_X12_prompts) (pc := 188) f_X12_61 d_X12_prompts_188 hv1 (Or.inr ⟨_, ty_12_30⟩) ?_
  refine GW_iload (X := X_X12_prompts) (pc := 191) d_X12_prompts_191 1 rfl ?_
  replace h := g_bd h
  obtain ⟨v2, hv2, h⟩ := h
  refine GW_iald (X := X_X12_prompts) (pc := 193) d_X12_prompts_193 hv2 ?_
  refine GW_istore (X := X_X12_prompts) (pc := 194) d_X12_prompts_194 (Nat.le_of_ble_eq_true rfl) (lv2 := [(5, vi v2), (0, vr l0), (6, vi l6)]) rfl ?_
  refine GW_sub [1, 0, 2] rfl ?_
  exact T_X12_prompts_b196 k153 r hk153 l0 v2 l6 M h
def F_X12_prompts_b153 (k153 : Option Nat → Int32 → Int32 → gM → Option (Int32 × gM)) (l0 : Option Nat) (l5 : Int32) (l6 : Int32) (M : gM) : Option (Int32 × gM) :=
  if (99 : Int32) < l6 then (some (l5, M)) else ((gR 12 M l0 30).bind fun v1 => (aI 20 M v1 l6).bind fun v2 => if v2 < 0 then (F_X12_prompts_b196 k153 l0 l5 l6 M) else (if l5 < 0 then (F_X12_prompts_b187 k153 l0 l6 M) else ((gR 12 M l0 30).bind fun v3 => (aI 20 M v3 l6).bind fun v4 => if l5 ≤ v4 then (F_X12_prompts_b196 k153 l0 l5 l6 M) else (F_X12_prompts_b187 k153 l0 l6 M))))
set_option maxHeartbeats 1000000 in
theorem T_X12_prompts_b153 (k153 : Option Nat → Int32 → Int32 → gM → Option (Int32 × gM)) (r : (Int32 × gM)) (hk153 : ∀ (l0 : Option Nat) (l5 : Int32) (l6 : Int32) (M : gM), k153 l0 l5 l6 M = some r → GW 2 0 0 X_X12_prompts 153 [(0, vr l0), (5, vi l5), (6, vi l6)] [] M (some (vi r.1), r.2)) (l0 : Option Nat) (l5 : Int32) (l6 : Int32) (M : gM) (h : F_X12_prompts_b153 k153 l0 l5 l6 M = some r) : GW 2 0 0 X_X12_prompts 153 [(0, vr l0), (5, vi l5), (6, vi l6)] [] M (some (vi r.1), r.2) := by
  delta F_X12_prompts_b153 at h
  refine GW_iload (X := X_X12_prompts) (pc := 153) d_X12_prompts_153 2 rfl ?_
  refine GW_bipush (X := X_X12_prompts) (pc := 155) (v := 99) d_X12_prompts_155 (by decide) ?_
  refine GW_icmp_gt (X := X_X12_prompts) (pc := 157) 202 d_X12_prompts_157 (by decide) (fun c => ?_) (fun c => ?_)
  · replace h := g_ip c h
    refine GW_iload (X := X_X12_prompts) (pc := 202) d_X12_prompts_202 1 rfl ?_
    replace h := Option.some.inj h
    subst h
    exact GW_ret (X := X_X12_prompts) (pc := 204) d_X12_prompts_204 rfl trivial
  · replace h := g_ie c h
    refine GW_aload_n (X := X_X12_prompts) (pc := 160) d_X12_prompts_160 rfl 0 rfl ?_
    replace h := g_bd h
    obtain ⟨v1, hv1, h⟩ := h
    refine GW_getR (X := X_X12_prompts) (pc := 161) f_X12_61 d_X12_prompts_161 hv1 (Or.inr ⟨_, ty_12_30⟩) ?_
    refine GW_iload (X := X_X12_prompts) (pc := 164) d_X12_prompts_164 2 rfl ?_
    replace h := g_bd h
    obtain ⟨v2, hv2, h⟩ := h
    refine GW_iald (X := X_X12_prompts) (pc := 166) d_X12_prompts_166 hv2 ?_
    refine GW_if_lt (X := X_X12_prompts) (pc := 167) 196 d_X12_prompts_167 (by decide) (fun c => ?_) (fun c => ?_)
    · replace h := g_ip c h
      exact T_X12_prompts_b196 k153 r hk153 l0 l5 l6 M h
    · replace h := g_ie c h
      refine GW_iload (X := X_X12_prompts) (pc := 170) d_X12_prompts_170 1 rfl ?_
      refine GW_if_lt (X := X_X12_prompts) (pc := 172) 187 d_X12_prompts_172 (by decide) (fun c => ?_) (fun c => ?_)
      · replace h := g_ip c h
        refine GW_sub [0, 2] rfl ?_
        exact T_X12_prompts_b187 k153 r hk153 l0 l6 M h
      · replace h := g_ie c h
        refine GW_aload_n (X := X_X12_prompts) (pc := 175) d_X12_prompts_175 rfl 0 rfl ?_
        replace h := g_bd h
        obtain ⟨v3, hv3, h⟩ := h
        refine GW_getR (X := X_X12_prompts) (pc := 176) f_X12_61 d_X12_prompts_176 hv3 (Or.inr ⟨_, ty_12_30⟩) ?_
        refine GW_iload (X := X_X12_prompts) (pc := 179) d_X12_prompts_179 2 rfl ?_
        replace h := g_bd h
        obtain ⟨v4, hv4, h⟩ := h
        refine GW_iald (X := X_X12_prompts) (pc := 181) d_X12_prompts_181 hv4 ?_
        refine GW_iload (X := X_X12_prompts) (pc := 182) d_X12_prompts_182 1 rfl ?_
        refine GW_icmp_ge (X := X_X12_prompts) (pc := 184) 196 d_X12_prompts_184 (by decide) (fun c => ?_) (fun c => ?_)
        · replace h := g_ip c h
          exact T_X12_prompts_b196 k153 r hk153 l0 l5 l6 M h
        · replace h := g_ie c h
          refine GW_sub [0, 2] rfl ?_
          exact T_X12_prompts_b187 k153 r hk153 l0 l6 M h
def F_X12_prompts_L153 : Nat → Option Nat → Int32 → Int32 → gM → Option (Int32 × gM)
  | 0 => fun _ _ _ _ => none
  | n + 1 => F_X12_prompts_b153 (F_X12_prompts_L153 n)
theorem T_X12_prompts_L153 (r : (Int32 × gM)) : ∀ (n : Nat) (l0 : Option Nat) (l5 : Int32) (l6 : Int32) (M : gM), F_X12_prompts_L153 n l0 l5 l6 M = some r → GW 2 0 0 X_X12_prompts 153 [(0, vr l0), (5, vi l5), (6, vi l6)] [] M (some (vi r.1), r.2) := by
  intro n
  induction n with
  | zero => intro l0 l5 l6 M h; exact g_no h
  | succ n ih => intro l0 l5 l6 M h; exact T_X12_prompts_b153 (F_X12_prompts_L153 n) r ih l0 l5 l6 M h
def F_X12_prompts_b138 (k104 : Option Nat → Int32 → Int32 → Int32 → Int32 → Int32 → gM → Option (Int32 × gM)) (l0 : Option Nat) (l1 : Int32) (l2 : Int32) (l3 : Int32) (l5 : Int32) (s0 : Int32) (M : gM) : Option (Int32 × gM) :=
  k104 l0 l1 l2 l3 s0 (l5 + 1) M
theorem T_X12_prompts_b138 (k104 : Option Nat → Int32 → Int32 → Int32 → Int32 → Int32 → gM → Option (Int32 × gM)) (r : (Int32 × gM)) (hk104 : ∀ (l0 : Option Nat) (l1 : Int32) (l2 : Int32) (l3 : Int32) (l4 : Int32) (l5 : Int32) (M : gM), k104 l0 l1 l2 l3 l4 l5 M = some r → GW 2 0 0 X_X12_prompts 104 [(0, vr l0), (1, vi l1), (2, vi l2), (3, vi l3), (4, vi l4), (5, vi l5)] [] M (some (vi r.1), r.2)) (l0 : Option Nat) (l1 : Int32) (l2 : Int32) (l3 : Int32) (l5 : Int32) (s0 : Int32) (M : gM) (h : F_X12_prompts_b138 k104 l0 l1 l2 l3 l5 s0 M = some r) : GW 2 0 0 X_X12_prompts 138 [(0, vr l0), (1, vi l1), (2, vi l2), (3, vi l3), (5, vi l5)] [vi s0] M (some (vi r.1), r.2) := by
  delta F_X12_prompts_b138 at h
  refine GW_istore (X := X_X12_prompts) (pc := 138) d_X12_prompts_138 (Nat.le_of_ble_eq_true rfl) (lv2 := [(4, vi s0), (0, vr l0), (1, vi l1), (2, vi l2), (3, vi l3), (5, vi l5)]) rfl ?_
  refine GW_iinc (j := 5) (X := X_X12_prompts) (pc := 140) d_X12_prompts_140 rfl (congrArg (fun z => _ + z) (by decide : Int32.ofInt 1 = (1 : Int32))) (Nat.le_of_ble_eq_true rfl) (lv2 := [(5, vi (l5 + 1)), (4, vi s0), (0, vr l0), (1, vi l1), (2, vi l2), (3, vi l3)]) rfl ?_
  refine GW_goto (X := X_X12_prompts) (pc := 143) 104 d_X12_prompts_143 (by decide) ?_
  refine GW_sub [2, 3, 4, 5, 1, 0] rfl ?_
  exact hk104 l0 l1 l2 l3 s0 (l5 + 1) M h
def F_X12_prompts_b104 (k104 : Option Nat → Int32 → Int32 → Int32 → Int32 → Int32 → gM → Option (Int32 × gM)) (l0 : Option Nat) (l1 : Int32) (l2 : Int32) (l3 : Int32) (l4 : Int32) (l5 : Int32) (M : gM) : Option (Int32 × gM) :=
  if l3 ≤ l5 then (F_X12_prompts_L153 g_fuel l0 (-2 : Int32) (1 : Int32) M) else ((gO 12 M l0).bind fun i1 => (F_X12_fades (some i1) l1 l2 l4 M).bind fun v2 => (F_X12_promptsYear (some i1) v2 M).bind fun M3 => if (99 : Int32) ≤ l4 then (F_X12_prompts_b138 k104 (some i1) l1 l2 l3 l5 (99 : Int32) M3) else (F_X12_prompts_b138 k104 (some i1) l1 l2 l3 l5 (l4 + (1 : Int32)) M3))
theorem T_X12_prompts_b104 (k104 : Option Nat → Int32 → Int32 → Int32 → Int32 → Int32 → gM → Option (Int32 × gM)) (r : (Int32 × gM)) (hk104 : ∀ (l0 : Option Nat) (l1 : Int32) (l2 : Int32) (l3 : Int32) (l4 : Int32) (l5 : Int32) (M : gM), k104 l0 l1 l2 l3 l4 l5 M = some r → GW 2 0 0 X_X12_prompts 104 [(0, vr l0), (1, vi l1), (2, vi l2), (3, vi l3), (4, vi l4), (5, vi l5)] [] M (some (vi r.1), r.2)) (l0 : Option Nat) (l1 : Int32) (l2 : Int32) (l3 : Int32) (l4 : Int32) (l5 : Int32) (M : gM) (h : F_X12_prompts_b104 k104 l0 l1 l2 l3 l4 l5 M = some r) : GW 2 0 0 X_X12_prompts 104 [(0, vr l0), (1, vi l1), (2, vi l2), (3, vi l3), (4, vi l4), (5, vi l5)] [] M (some (vi r.1), r.2) := by
  delta F_X12_prompts_b104 at h
  refine GW_iload (X := X_X12_prompts) (pc := 104) d_X12_prompts_104 5 rfl ?_
  refine GW_iload_n (X := X_X12_prompts) (pc := 106) d_X12_prompts_106 rfl 3 rfl ?_
  refine GW_icmp_ge (X := X_X12_prompts) (pc := 107) 146 d_X12_prompts_107 (by decide) (fun c => ?_) (fun c => ?_)
  · replace h := g_ip c h
    refine GW_bipush (X := X_X12_prompts) (pc := 146) (v := -2) d_X12_prompts_146 (by decide) ?_
    refine GW_istore (X := X_X12_prompts) (pc := 148) d_X12_prompts_148 (Nat.le_of_ble_eq_true rfl) (lv2 := [(5, vi (-2 : Int32)), (0, vr l0), (1, vi l1), (2, vi l2), (3, vi l3), (4, vi l4)]) rfl ?_
    refine GW_iconst (X := X_X12_prompts) (pc := 150) (v := 1) d_X12_prompts_150 (by decide) ?_
    refine GW_istore (X := X_X12_prompts) (pc := 151) d_X12_prompts_151 (Nat.le_of_ble_eq_true rfl) (lv2 := [(6, vi (1 : Int32)), (5, vi (-2 : Int32)), (0, vr l0), (1, vi l1), (2, vi l2), (3, vi l3), (4, vi l4)]) rfl ?_
    refine GW_sub [2, 1, 0] rfl ?_
    exact T_X12_prompts_L153 r g_fuel l0 (-2 : Int32) (1 : Int32) M h
  · replace h := g_ie c h
    refine GW_aload_n (X := X_X12_prompts) (pc := 110) d_X12_prompts_110 rfl 0 rfl ?_
    refine GW_aload_n (X := X_X12_prompts) (pc := 111) d_X12_prompts_111 rfl 0 rfl ?_
    refine GW_iload_n (X := X_X12_prompts) (pc := 112) d_X12_prompts_112 rfl 1 rfl ?_
    refine GW_iload_n (X := X_X12_prompts) (pc := 113) d_X12_prompts_113 rfl 2 rfl ?_
    refine GW_iload (X := X_X12_prompts) (pc := 114) d_X12_prompts_114 4 rfl ?_
    replace h := g_bd h
    obtain ⟨i1, hi1, h⟩ := h
    obtain ⟨rfl, ki1⟩ := g_gO hi1
    replace h := g_bd h
    obtain ⟨v2, hv2, h⟩ := h
    refine GW_callV (X := X_X12_prompts) (pc := 116) (bc0 := 0) (bs0 := 0) (r := some (vi v2)) (M2 := M) (c0 := 12) (T_X12_fades (some i1) l1 l2 l4 M v2 hv2) (Nat.le_of_ble_eq_true rfl) (Nat.le_of_ble_eq_true rfl) rfl g_cok12 ki1 yc_X12_fades ⟨m_1485, m_1487, m_89, m_127, m_1488⟩ d_X12_prompts_116 rfl (st := [vr (some i1)]) rfl (Nat.le_of_ble_eq_true rfl) (Nat.le_of_ble_eq_true rfl) (Nat.le_of_ble_eq_true rfl) (st2 := [vi v2, vr (some i1)]) rfl ?_
    replace h := g_bd h
    obtain ⟨M3, hM3, h⟩ := h
    refine GW_callV (X := X_X12_prompts) (pc := 119) (bc0 := 0) (bs0 := 0) (r := none) (M2 := M3) (c0 := 12) (T_X12_promptsYear (some i1) v2 M M3 hM3) (Nat.le_of_ble_eq_true rfl) (Nat.le_of_ble_eq_true rfl) rfl g_cok12 ki1 yc_X12_promptsYear ⟨m_1648, m_1650, m_111, m_127, m_1651⟩ d_X12_prompts_119 rfl (st := []) rfl (Nat.le_of_ble_eq_true rfl) (Nat.le_of_ble_eq_true rfl) (Nat.le_of_ble_eq_true rfl) (st2 := []) rfl ?_
    refine GW_iload (X := X_X12_prompts) (pc := 122) d_X12_prompts_122 4 rfl ?_
    refine GW_bipush (X := X_X12_prompts) (pc := 124) (v := 99) d_X12_prompts_124 (by decide) ?_
    refine GW_icmp_ge (X := X_X12_prompts) (pc := 126) 136 d_X12_prompts_126 (by decide) (fun c => ?_) (fun c => ?_)
    · replace h := g_ip c h
      refine GW_bipush (X := X_X12_prompts) (pc := 136) (v := 99) d_X12_prompts_136 (by decide) ?_
      refine GW_sub [0, 1, 2, 3, 5] rfl ?_
      exact T_X12_prompts_b138 k104 r hk104 (some i1) l1 l2 l3 l5 (99 : Int32) M3 h
    · replace h := g_ie c h
      refine GW_iload (X := X_X12_prompts) (pc := 129) d_X12_prompts_129 4 rfl ?_
      refine GW_iconst (X := X_X12_prompts) (pc := 131) (v := 1) d_X12_prompts_131 (by decide) ?_
      refine GW_iadd (X := X_X12_prompts) (pc := 132) d_X12_prompts_132 ?_
      refine GW_goto (X := X_X12_prompts) (pc := 133) 138 d_X12_prompts_133 (by decide) ?_
      refine GW_sub [0, 1, 2, 3, 5] rfl ?_
      exact T_X12_prompts_b138 k104 r hk104 (some i1) l1 l2 l3 l5 (l4 + (1 : Int32)) M3 h
def F_X12_prompts_L104 : Nat → Option Nat → Int32 → Int32 → Int32 → Int32 → Int32 → gM → Option (Int32 × gM)
  | 0 => fun _ _ _ _ _ _ _ => none
  | n + 1 => F_X12_prompts_b104 (F_X12_prompts_L104 n)
theorem T_X12_prompts_L104 (r : (Int32 × gM)) : ∀ (n : Nat) (l0 : Option Nat) (l1 : Int32) (l2 : Int32) (l3 : Int32) (l4 : Int32) (l5 : Int32) (M : gM), F_X12_prompts_L104 n l0 l1 l2 l3 l4 l5 M = some r → GW 2 0 0 X_X12_prompts 104 [(0, vr l0), (1, vi l1), (2, vi l2), (3, vi l3), (4, vi l4), (5, vi l5)] [] M (some (vi r.1), r.2) := by
  intro n
  induction n with
  | zero => intro l0 l1 l2 l3 l4 l5 M h; exact g_no h
  | succ n ih => intro l0 l1 l2 l3 l4 l5 M h; exact T_X12_prompts_b104 (F_X12_prompts_L104 n) r ih l0 l1 l2 l3 l4 l5 M h
def F_X12_prompts_b81 (k52 : Option Nat → Int32 → Int32 → Int32 → Int32 → gM → Option (Int32 × gM)) (l0 : Option Nat) (l1 : Int32) (l2 : Int32) (l3 : Int32) (l4 : Int32) (s0 : Option Nat) (s1 : Int32) (s2 : Int32) (M : gM) : Option (Int32 × gM) :=
  (sI M s0 s1 s2).bind fun M1 => k52 l0 l1 l2 l3 (l4 + 1) M1
theorem T_X12_prompts_b81 (k52 : Option Nat → Int32 → Int32 → Int32 → Int32 → gM → Option (Int32 × gM)) (r : (Int32 × gM)) (hk52 : ∀ (l0 : Option Nat) (l1 : Int32) (l2 : Int32) (l3 : Int32) (l4 : Int32) (M : gM), k52 l0 l1 l2 l3 l4 M = some r → GW 2 0 0 X_X12_prompts 52 [(0, vr l0), (1, vi l1), (2, vi l2), (3, vi l3), (4, vi l4)] [] M (some (vi r.1), r.2)) (l0 : Option Nat) (l1 : Int32) (l2 : Int32) (l3 : Int32) (l4 : Int32) (s0 : Option Nat) (s1 : Int32) (s2 : Int32) (M : gM) (h : F_X12_prompts_b81 k52 l0 l1 l2 l3 l4 s0 s1 s2 M = some r) : GW 2 0 0 X_X12_prompts 81 [(0, vr l0), (1, vi l1), (2, vi l2), (3, vi l3), (4, vi l4)] [vi s2, vi s1, vr s0] M (some (vi r.1), r.2) := by
  delta F_X12_prompts_b81 at h
  replace h := g_bd h
  obtain ⟨M1, hM1, h⟩ := h
  refine GW_iast (X := X_X12_prompts) (pc := 81) d_X12_prompts_81 hM1 ?_
  refine GW_iinc (j := 4) (X := X_X12_prompts) (pc := 82) d_X12_prompts_82 rfl (congrArg (fun z => _ + z) (by decide : Int32.ofInt 1 = (1 : Int32))) (Nat.le_of_ble_eq_true rfl) (lv2 := [(4, vi (l4 + 1)), (0, vr l0), (1, vi l1), (2, vi l2), (3, vi l3)]) rfl ?_
  refine GW_goto (X := X_X12_prompts) (pc := 85) 52 d_X12_prompts_85 (by decide) ?_
  refine GW_sub [1, 2, 3, 4, 0] rfl ?_
  exact hk52 l0 l1 l2 l3 (l4 + 1) M1 h
def F_X12_prompts_b52 (k52 : Option Nat → Int32 → Int32 → Int32 → Int32 → gM → Option (Int32 × gM)) (l0 : Option Nat) (l1 : Int32) (l2 : Int32) (l3 : Int32) (l4 : Int32) (M : gM) : Option (Int32 × gM) :=
  if (99 : Int32) < l4 then ((gR 12 M l0 20).bind fun v1 => (aI 20 M v1 ((38 : Int32) + ((2 : Int32) * l1))).bind fun v2 => F_X12_prompts_L104 g_fuel l0 l1 l2 l3 v2 (0 : Int32) M) else ((gR 12 M l0 30).bind fun v3 => (gO 12 M l0).bind fun i4 => (F_X12_strengthOf (some i4) l1 l2 M).bind fun v5 => if l4 = v5 then (F_X12_prompts_b81 k52 (some i4) l1 l2 l3 l4 v3 l4 (0 : Int32) M) else (F_X12_prompts_b81 k52 (some i4) l1 l2 l3 l4 v3 l4 (-1 : Int32) M))
set_option maxHeartbeats 1000000 in
theorem T_X12_prompts_b52 (k52 : Option Nat → Int32 → Int32 → Int32 → Int32 → gM → Option (Int32 × gM)) (r : (Int32 × gM)) (hk52 : ∀ (l0 : Option Nat) (l1 : Int32) (l2 : Int32) (l3 : Int32) (l4 : Int32) (M : gM), k52 l0 l1 l2 l3 l4 M = some r → GW 2 0 0 X_X12_prompts 52 [(0, vr l0), (1, vi l1), (2, vi l2), (3, vi l3), (4, vi l4)] [] M (some (vi r.1), r.2)) (l0 : Option Nat) (l1 : Int32) (l2 : Int32) (l3 : Int32) (l4 : Int32) (M : gM) (h : F_X12_prompts_b52 k52 l0 l1 l2 l3 l4 M = some r) : GW 2 0 0 X_X12_prompts 52 [(0, vr l0), (1, vi l1), (2, vi l2), (3, vi l3), (4, vi l4)] [] M (some (vi r.1), r.2) := by
  delta F_X12_prompts_b52 at h
  refine GW_iload (X := X_X12_prompts) (pc := 52) d_X12_prompts_52 4 rfl ?_
  refine GW_bipush (X := X_X12_prompts) (pc := 54) (v := 99) d_X12_prompts_54 (by decide) ?_
  refine GW_icmp_gt (X := X_X12_prompts) (pc := 56) 88 d_X12_prompts_56 (by decide) (fun c => ?_) (fun c => ?_)
  · replace h := g_ip c h
    refine GW_aload_n (X := X_X12_prompts) (pc := 88) d_X12_prompts_88 rfl 0 rfl ?_
    replace h := g_bd h
    obtain ⟨v1, hv1, h⟩ := h
    refine GW_getR (X := X_X12_prompts) (pc := 89) f_X12_39 d_X12_prompts_89 hv1 (Or.inr ⟨_, ty_12_20⟩) ?_
    refine GW_bipush (X := X_X12_prompts) (pc := 92) (v := 38) d_X12_prompts_92 (by decide) ?_
    refine GW_iconst (X := X_X12_prompts) (pc := 94) (v := 2) d_X12_prompts_94 (by decide) ?_
    refine GW_iload_n (X := X_X12_prompts) (pc := 95) d_X12_prompts_95 rfl 1 rfl ?_
    refine GW_imul (X := X_X12_prompts) (pc := 96) d_X12_prompts_96 ?_
    refine GW_iadd (X := X_X12_prompts) (pc := 97) d_X12_prompts_97 ?_
    replace h := g_bd h
    obtain ⟨v2, hv2, h⟩ := h
    refine GW_iald (X := X_X12_prompts) (pc := 98) d_X12_prompts_98 hv2 ?_
    refine GW_istore (X := X_X12_prompts) (pc := 99) d_X12_prompts_99 (Nat.le_of_ble_eq_true rfl) (lv2 := [(4, vi v2), (0, vr l0), (1, vi l1), (2, vi l2), (3, vi l3)]) rfl ?_
    refine GW_iconst (X := X_X12_prompts) (pc := 101) (v := 0) d_X12_prompts_101 (by decide) ?_
    refine GW_istore (X := X_X12_prompts) (pc := 102) d_X12_prompts_102 (Nat.le_of_ble_eq_true rfl) (lv2 := [(5, vi (0 : Int32)), (4, vi v2), (0, vr l0), (1, vi l1), (2, vi l2), (3, vi l3)]) rfl ?_
    refine GW_sub [2, 3, 4, 5, 1, 0] rfl ?_
    exact T_X12_prompts_L104 r g_fuel l0 l1 l2 l3 v2 (0 : Int32) M h
  · replace h := g_ie c h
    refine GW_aload_n (X := X_X12_prompts) (pc := 59) d_X12_prompts_59 rfl 0 rfl ?_
    replace h := g_bd h
    obtain ⟨v3, hv3, h⟩ := h
    refine GW_getR (X := X_X12_prompts) (pc := 60) f_X12_61 d_X12_prompts_60 hv3 (Or.inr ⟨_, ty_12_30⟩) ?_
    refine GW_iload (X := X_X12_prompts) (pc := 63) d_X12_prompts_63 4 rfl ?_
    refine GW_iload (X := X_X12_prompts) (pc := 65) d_X12_prompts_65 4 rfl ?_
    refine GW_aload_n (X := X_X12_prompts) (pc := 67) d_X12_prompts_67 rfl 0 rfl ?_
    refine GW_iload_n (X := X_X12_prompts) (pc := 68) d_X12_prompts_68 rfl 1 rfl ?_
    refine GW_iload_n (X := X_X12_prompts) (pc := 69) d_X12_prompts_69 rfl 2 rfl ?_
    replace h := g_bd h
    obtain ⟨i4, hi4, h⟩ := h
    obtain ⟨rfl, ki4⟩ := g_gO hi4
    replace h := g_bd h
    obtain ⟨v5, hv5, h⟩ := h
    refine GW_callV (X := X_X12_prompts) (pc := 70) (bc0 := 0) (bs0 := 0) (r := some (vi v5)) (M2 := M) (c0 := 12) (T_X12_strengthOf (some i4) l1 l2 M v5 hv5) (Nat.le_of_ble_eq_true rfl) (Nat.le_of_ble_eq_true rfl) rfl g_cok12 ki4 yc_X12_strengthOf ⟨m_1493, m_1495, m_91, m_127, m_1496⟩ d_X12_prompts_70 rfl (st := [vi l4, vi l4, vr v3]) rfl (Nat.le_of_ble_eq_true rfl) (Nat.le_of_ble_eq_true rfl) (Nat.le_of_ble_eq_true rfl) (st2 := [vi v5, vi l4, vi l4, vr v3]) rfl ?_
    refine GW_icmp_ne (X := X_X12_prompts) (pc := 73) 80 d_X12_prompts_73 (by decide) (fun c => ?_) (fun c => ?_)
    · replace h := g_ie c h
      refine GW_iconst (X := X_X12_prompts) (pc := 80) (v := -1) d_X12_prompts_80 (by decide) ?_
      exact T_X12_prompts_b81 k52 r hk52 (some i4) l1 l2 l3 l4 v3 l4 (-1 : Int32) M h
    · replace h := g_ip c h
      refine GW_iconst (X := X_X12_prompts) (pc := 76) (v := 0) d_X12_prompts_76 (by decide) ?_
      refine GW_goto (X := X_X12_prompts) (pc := 77) 81 d_X12_prompts_77 (by decide) ?_
      exact T_X12_prompts_b81 k52 r hk52 (some i4) l1 l2 l3 l4 v3 l4 (0 : Int32) M h
def F_X12_prompts_L52 : Nat → Option Nat → Int32 → Int32 → Int32 → Int32 → gM → Option (Int32 × gM)
  | 0 => fun _ _ _ _ _ _ => none
  | n + 1 => F_X12_prompts_b52 (F_X12_prompts_L52 n)
theorem T_X12_prompts_L52 (r : (Int32 × gM)) : ∀ (n : Nat) (l0 : Option Nat) (l1 : Int32) (l2 : Int32) (l3 : Int32) (l4 : Int32) (M : gM), F_X12_prompts_L52 n l0 l1 l2 l3 l4 M = some r → GW 2 0 0 X_X12_prompts 52 [(0, vr l0), (1, vi l1), (2, vi l2), (3, vi l3), (4, vi l4)] [] M (some (vi r.1), r.2) := by
  intro n
  induction n with
  | zero => intro l0 l1 l2 l3 l4 M h; exact g_no h
  | succ n ih => intro l0 l1 l2 l3 l4 M h; exact T_X12_prompts_b52 (F_X12_prompts_L52 n) r ih l0 l1 l2 l3 l4 M h
def F_X12_prompts_b0 (l0 : Option Nat) (l1 : Int32) (l2 : Int32) (l3 : Int32) (M : gM) : Option (Int32 × gM) :=
  (gO 12 M l0).bind fun i1 => (F_X12_isHeir (some i1) l1 M).bind fun v2 => if v2 = 0 then (F_X12_prompts_b37 M) else ((F_X12_isThing (some i1) l2 M).bind fun v3 => if v3 = 0 then (F_X12_prompts_b37 M) else ((F_X12_knowsOf (some i1) l1 l2 M).bind fun v4 => if v4 = 0 then (F_X12_prompts_b37 M) else ((F_X12_in (l3).toInt64 (1 : Int64) (40 : Int64) M).bind fun v5 => if v5 = 0 then (F_X12_prompts_b37 M) else ((gI 12 M (some i1) 21).bind fun v6 => if v6 < 0 then (F_X12_prompts_L52 g_fuel (some i1) l1 l2 l3 (0 : Int32) M) else (some ((-3 : Int32), M))))))
set_option maxHeartbeats 1000000 in
theorem T_X12_prompts_b0 (r : (Int32 × gM)) (l0 : Option Nat) (l1 : Int32) (l2 : Int32) (l3 : Int32) (M : gM) (h : F_X12_prompts_b0 l0 l1 l2 l3 M = some r) : GW 2 0 0 X_X12_prompts 0 [(0, vr l0), (1, vi l1), (2, vi l2), (3, vi l3)] [] M (some (vi r.1), r.2) := by
  delta F_X12_prompts_b0 at h
  refine GW_aload_n (X := X_X12_prompts) (pc := 0) d_X12_prompts_0 rfl 0 rfl ?_
  refine GW_iload_n (X := X_X12_prompts) (pc := 1) d_X12_prompts_1 rfl 1 rfl ?_
  replace h := g_bd h
  obtain ⟨i1, hi1, h⟩ := h
  obtain ⟨rfl, ki1⟩ := g_gO hi1
  replace h := g_bd h
  obtain ⟨v2, hv2, h⟩ := h
  refine GW_callV (X := X_X12_prompts) (pc := 2) (bc0 := 0) (bs0 := 0) (r := some (vi v2)) (M2 := M) (c0 := 12) (T_X12_isHeir (some i1) l1 M v2 hv2) (Nat.le_of_ble_eq_true rfl) (Nat.le_of_ble_eq_true rfl) rfl g_cok12 ki1 yc_X12_isHeir ⟨m_1415, m_1417, m_76, m_127, m_1418⟩ d_X12_prompts_2 rfl (st := []) rfl (Nat.le_of_ble_eq_true rfl) (Nat.le_of_ble_eq_true rfl) (Nat.le_of_ble_eq_true rfl) (st2 := [vi v2]) rfl ?_
  refine GW_if_eq (X := X_X12_prompts) (pc := 5) 37 d_X12_prompts_5 (by decide) (fun c => ?_) (fun c => ?_)
  · replace h := g_ip c h
    refine GW_sub [] rfl ?_
    exact T_X12_prompts_b37 r M h
  · replace h := g_ie c h
    refine GW_aload_n (X := X_X12_prompts) (pc := 8) d_X12_prompts_8 rfl 0 rfl ?_
    refine GW_iload_n (X := X_X12_prompts) (pc := 9) d_X12_prompts_9 rfl 2 rfl ?_
    replace h := g_bd h
    obtain ⟨v3, hv3, h⟩ := h
    refine GW_callV (X := X_X12_prompts) (pc := 10) (bc0 := 0) (bs0 := 0) (r := some (vi v3)) (M2 := M) (c0 := 12) (T_X12_isThing (some i1) l2 M v3 hv3) (Nat.le_of_ble_eq_true rfl) (Nat.le_of_ble_eq_true rfl) rfl g_cok12 ki1 yc_X12_isThing ⟨m_1448, m_1450, m_83, m_127, m_1451⟩ d_X12_prompts_10 rfl (st := []) rfl (Nat.le_of_ble_eq_true rfl) (Nat.le_of_ble_eq_true rfl) (Nat.le_of_ble_eq_true rfl) (st2 := [vi v3]) rfl ?_
    refine GW_if_eq (X := X_X12_prompts) (pc := 13) 37 d_X12_prompts_13 (by decide) (fun c => ?_) (fun c => ?_)
    · replace h := g_ip c h
      refine GW_sub [] rfl ?_
      exact T_X12_prompts_b37 r M h
    · replace h := g_ie c h
      refine GW_aload_n (X := X_X12_prompts) (pc := 16) d_X12_prompts_16 rfl 0 rfl ?_
      refine GW_iload_n (X := X_X12_prompts) (pc := 17) d_X12_prompts_17 rfl 1 rfl ?_
      refine GW_iload_n (X := X_X12_prompts) (pc := 18) d_X12_prompts_18 rfl 2 rfl ?_
      replace h := g_bd h
      obtain ⟨v4, hv4, h⟩ := h
      refine GW_callV (X := X_X12_prompts) (pc := 19) (bc0 := 0) (bs0 := 0) (r := some (vi v4)) (M2 := M) (c0 := 12) (T_X12_knowsOf (some i1) l1 l2 M v4 hv4) (Nat.le_of_ble_eq_true rfl) (Nat.le_of_ble_eq_true rfl) rfl g_cok12 ki1 yc_X12_knowsOf ⟨m_1432, m_1434, m_80, m_127, m_1435⟩ d_X12_prompts_19 rfl (st := []) rfl (Nat.le_of_ble_eq_true rfl) (Nat.le_of_ble_eq_true rfl) (Nat.le_of_ble_eq_true rfl) (st2 := [vi v4]) rfl ?_
      refine GW_if_eq (X := X_X12_prompts) (pc := 22) 37 d_X12_prompts_22 (by decide) (fun c => ?_) (fun c => ?_)
      · replace h := g_ip c h
        refine GW_sub [] rfl ?_
        exact T_X12_prompts_b37 r M h
      · replace h := g_ie c h
        refine GW_iload_n (X := X_X12_prompts) (pc := 25) d_X12_prompts_25 rfl 3 rfl ?_
        refine GW_i2l (X := X_X12_prompts) (pc := 26) d_X12_prompts_26 ?_
        refine GW_lconst (X := X_X12_prompts) (pc := 27) (v := 1) d_X12_prompts_27 (by decide) ?_
        refine GW_ldc2 (X := X_X12_prompts) (pc := 28) d_X12_prompts_28 m_1647 ?_
        replace h := g_bd h
        obtain ⟨v5, hv5, h⟩ := h
        refine GW_callS (X := X_X12_prompts) (pc := 31) (bc0 := 0) (bs0 := 0) (r := some (vi v5)) (M2 := M) (T_X12_in (l3).toInt64 (1 : Int64) (40 : Int64) M v5 hv5) (Nat.le_of_ble_eq_true rfl) (Nat.le_of_ble_eq_true rfl) yc_X12_in ⟨m_1291, m_1292, m_127, m_1293⟩ d_X12_prompts_31 rfl (st := []) rfl (Nat.le_of_ble_eq_true rfl) (Nat.le_of_ble_eq_true rfl) (Nat.le_of_ble_eq_true rfl) (st2 := [vi v5]) rfl ?_
        refine GW_if_ne (X := X_X12_prompts) (pc := 34) 39 d_X12_prompts_34 (by decide) (fun c => ?_) (fun c => ?_)
        · replace h := g_ie c h
          refine GW_aload_n (X := X_X12_prompts) (pc := 39) d_X12_prompts_39 rfl 0 rfl ?_
          replace h := g_bd h
          obtain ⟨v6, hv6, h⟩ := h
          refine GW_getI (X := X_X12_prompts) (pc := 40) f_X12_42 d_X12_prompts_40 hv6 (Or.inl ty_12_21) ?_
          refine GW_if_lt (X := X_X12_prompts) (pc := 43) 49 d_X12_prompts_43 (by decide) (fun c => ?_) (fun c => ?_)
          · replace h := g_ip c h
            refine GW_iconst (X := X_X12_prompts) (pc := 49) (v := 0) d_X12_prompts_49 (by decide) ?_
            refine GW_istore (X := X_X12_prompts) (pc := 50) d_X12_prompts_50 (Nat.le_of_ble_eq_true rfl) (lv2 := [(4, vi (0 : Int32)), (0, vr (some i1)), (1, vi l1), (2, vi l2), (3, vi l3)]) rfl ?_
            refine GW_sub [1, 2, 3, 4, 0] rfl ?_
            exact T_X12_prompts_L52 r g_fuel (some i1) l1 l2 l3 (0 : Int32) M h
          · replace h := g_ie c h
            refine GW_bipush (X := X_X12_prompts) (pc := 46) (v := -3) d_X12_prompts_46 (by decide) ?_
            replace h := Option.some.inj h
            subst h
            exact GW_ret (X := X_X12_prompts) (pc := 48) d_X12_prompts_48 rfl trivial
        · replace h := g_ip c h
          refine GW_sub [] rfl ?_
          exact T_X12_prompts_b37 r M h
def F_X12_prompts (l0 : Option Nat) (l1 : Int32) (l2 : Int32) (l3 : Int32) (M : gM) : Option (Int32 × gM) := F_X12_prompts_b0 l0 l1 l2 l3 M
theorem T_X12_prompts (l0 : Option Nat) (l1 : Int32) (l2 : Int32) (l3 : Int32) (M : gM) (r : (Int32 × gM)) (h : F_X12_prompts l0 l1 l2 l3 M = some r) : g_Met 2 0 0 yX12_prompts X_X12_prompts [vr l0, vi l1, vi l2, vi l3] M (some (vi r.1), r.2) :=
  g_Met_of pn_RX12 rfl (Nat.le_of_ble_eq_true rfl) (fun h => by cases h) (GW_sub [0, 1, 2, 3] rfl (T_X12_prompts_b0 r l0 l1 l2 l3 M h))
/-! ForgetHeirs.cost(I)I -/
theorem d_X11_cost_0 : decode cX11_cost 0 = .ok (.aload_n 0, 1) := by decide +kernel
theorem d_X11_cost_1 : decode cX11_cost 1 = .ok (.iload_n 1, 1) := by decide +kernel
theorem d_X11_cost_2 : decode cX11_cost 2 = .ok (.invokevirtual 154, 3) := by decide +kernel
theorem d_X11_cost_5 : decode cX11_cost 5 = .ok (.ifCond .ne 7, 3) := by decide +kernel
theorem d_X11_cost_8 : decode cX11_cost 8 = .ok (.sipush (-2000), 3) := by decide +kernel
theorem d_X11_cost_11 : decode cX11_cost 11 = .ok (.ireturn, 1) := by decide +kernel
theorem d_X11_cost_12 : decode cX11_cost 12 = .ok (.aload_n 0, 1) := by decide +kernel
theorem d_X11_cost_13 : decode cX11_cost 13 = .ok (.getfield 25, 3) := by decide +kernel
theorem d_X11_cost_16 : decode cX11_cost 16 = .ok (.getfield 169, 3) := by decide +kernel
theorem d_X11_cost_19 : decode cX11_cost 19 = .ok (.iload_n 1, 1) := by decide +kernel
theorem d_X11_cost_20 : decode cX11_cost 20 = .ok (.invokestatic 140, 3) := by decide +kernel
theorem d_X11_cost_23 : decode cX11_cost 23 = .ok (.iconst 1, 1) := by decide +kernel
theorem d_X11_cost_24 : decode cX11_cost 24 = .ok (.if_icmp .eq 16, 3) := by decide +kernel
theorem d_X11_cost_27 : decode cX11_cost 27 = .ok (.aload_n 0, 1) := by decide +kernel
theorem d_X11_cost_28 : decode cX11_cost 28 = .ok (.getfield 25, 3) := by decide +kernel
theorem d_X11_cost_31 : decode cX11_cost 31 = .ok (.getfield 172, 3) := by decide +kernel
theorem d_X11_cost_34 : decode cX11_cost 34 = .ok (.iload_n 1, 1) := by decide +kernel
theorem d_X11_cost_35 : decode cX11_cost 35 = .ok (.iaload, 1) := by decide +kernel
theorem d_X11_cost_36 : decode cX11_cost 36 = .ok (.iconst (-1), 1) := by decide +kernel
theorem d_X11_cost_37 : decode cX11_cost 37 = .ok (.if_icmp .eq 5, 3) := by decide +kernel
theorem d_X11_cost_40 : decode cX11_cost 40 = .ok (.iconst 0, 1) := by decide +kernel
theorem d_X11_cost_41 : decode cX11_cost 41 = .ok (.ireturn, 1) := by decide +kernel
theorem d_X11_cost_42 : decode cX11_cost 42 = .ok (.aload_n 0, 1) := by decide +kernel
theorem d_X11_cost_43 : decode cX11_cost 43 = .ok (.getfield 29, 3) := by decide +kernel
theorem d_X11_cost_46 : decode cX11_cost 46 = .ok (.aload_n 0, 1) := by decide +kernel
theorem d_X11_cost_47 : decode cX11_cost 47 = .ok (.getfield 25, 3) := by decide +kernel
theorem d_X11_cost_50 : decode cX11_cost 50 = .ok (.invokevirtual 114, 3) := by decide +kernel
theorem d_X11_cost_53 : decode cX11_cost 53 = .ok (.aload_n 0, 1) := by decide +kernel
theorem d_X11_cost_54 : decode cX11_cost 54 = .ok (.iload_n 1, 1) := by decide +kernel
theorem d_X11_cost_55 : decode cX11_cost 55 = .ok (.invokevirtual 245, 3) := by decide +kernel
theorem d_X11_cost_58 : decode cX11_cost 58 = .ok (.istore_n 2, 1) := by decide +kernel
theorem d_X11_cost_59 : decode cX11_cost 59 = .ok (.aload_n 0, 1) := by decide +kernel
theorem d_X11_cost_60 : decode cX11_cost 60 = .ok (.getfield 29, 3) := by decide +kernel
theorem d_X11_cost_63 : decode cX11_cost 63 = .ok (.aload_n 0, 1) := by decide +kernel
theorem d_X11_cost_64 : decode cX11_cost 64 = .ok (.getfield 25, 3) := by decide +kernel
theorem d_X11_cost_67 : decode cX11_cost 67 = .ok (.invokevirtual 114, 3) := by decide +kernel
theorem d_X11_cost_70 : decode cX11_cost 70 = .ok (.aload_n 0, 1) := by decide +kernel
theorem d_X11_cost_71 : decode cX11_cost 71 = .ok (.getfield 29, 3) := by decide +kernel
theorem d_X11_cost_74 : decode cX11_cost 74 = .ok (.dup, 1) := by decide +kernel
theorem d_X11_cost_75 : decode cX11_cost 75 = .ok (.getfield 169, 3) := by decide +kernel
theorem d_X11_cost_78 : decode cX11_cost 78 = .ok (.iconst 1, 1) := by decide +kernel
theorem d_X11_cost_79 : decode cX11_cost 79 = .ok (.iload_n 1, 1) := by decide +kernel
theorem d_X11_cost_80 : decode cX11_cost 80 = .ok (.ishl, 1) := by decide +kernel
theorem d_X11_cost_81 : decode cX11_cost 81 = .ok (.ior, 1) := by decide +kernel
theorem d_X11_cost_82 : decode cX11_cost 82 = .ok (.putfield 169, 3) := by decide +kernel
theorem d_X11_cost_85 : decode cX11_cost 85 = .ok (.aload_n 0, 1) := by decide +kernel
theorem d_X11_cost_86 : decode cX11_cost 86 = .ok (.iload_n 1, 1) := by decide +kernel
theorem d_X11_cost_87 : decode cX11_cost 87 = .ok (.invokevirtual 245, 3) := by decide +kernel
theorem d_X11_cost_90 : decode cX11_cost 90 = .ok (.istore_n 3, 1) := by decide +kernel
theorem d_X11_cost_91 : decode cX11_cost 91 = .ok (.iload_n 2, 1) := by decide +kernel
theorem d_X11_cost_92 : decode cX11_cost 92 = .ok (.iconst (-1), 1) := by decide +kernel
theorem d_X11_cost_93 : decode cX11_cost 93 = .ok (.if_icmp .eq 8, 3) := by decide +kernel
theorem d_X11_cost_96 : decode cX11_cost 96 = .ok (.iload_n 3, 1) := by decide +kernel
theorem d_X11_cost_97 : decode cX11_cost 97 = .ok (.iconst (-1), 1) := by decide +kernel
theorem d_X11_cost_98 : decode cX11_cost 98 = .ok (.if_icmp .ne 9, 3) := by decide +kernel
theorem d_X11_cost_101 : decode cX11_cost 101 = .ok (.sipush (-1000), 3) := by decide +kernel
theorem d_X11_cost_104 : decode cX11_cost 104 = .ok (.goto 6, 3) := by decide +kernel
theorem d_X11_cost_107 : decode cX11_cost 107 = .ok (.iload_n 2, 1) := by decide +kernel
theorem d_X11_cost_108 : decode cX11_cost 108 = .ok (.iload_n 3, 1) := by decide +kernel
theorem d_X11_cost_109 : decode cX11_cost 109 = .ok (.isub, 1) := by decide +kernel
theorem d_X11_cost_110 : decode cX11_cost 110 = .ok (.ireturn, 1) := by decide +kernel
abbrev X_X11_cost : gX := (RX11, cX11_cost, 4, (some .int), false)
def F_X11_cost_b40 (M : gM) : Option (Int32 × gM) :=
  some ((0 : Int32), M)
theorem T_X11_cost_b40 (r : (Int32 × gM)) (M : gM) (h : F_X11_cost_b40 M = some r) : GW 6 0 0 X_X11_cost 40 [] [] M (some (vi r.1), r.2) := by
  delta F_X11_cost_b40 at h
  refine GW_iconst (X := X_X11_cost) (pc := 40) (v := 0) d_X11_cost_40 (by decide) ?_
  replace h := Option.some.inj h
  subst h
  exact GW_ret (X := X_X11_cost) (pc := 41) d_X11_cost_41 rfl trivial
def F_X11_cost_b101 (M : gM) : Option (Int32 × gM) :=
  some ((-1000 : Int32), M)
theorem T_X11_cost_b101 (r : (Int32 × gM)) (M : gM) (h : F_X11_cost_b101 M = some r) : GW 6 0 0 X_X11_cost 101 [] [] M (some (vi r.1), r.2) := by
  delta F_X11_cost_b101 at h
  refine GW_sipush (X := X_X11_cost) (pc := 101) (v := -1000) d_X11_cost_101 (by decide) ?_
  refine GW_goto (X := X_X11_cost) (pc := 104) 110 d_X11_cost_104 (by decide) ?_
  replace h := Option.some.inj h
  subst h
  exact GW_ret (X := X_X11_cost) (pc := 110) d_X11_cost_110 rfl trivial
def F_X11_cost_b0 (l0 : Option Nat) (l1 : Int32) (M : gM) : Option (Int32 × gM) :=
  (gO 11 M l0).bind fun i1 => (F_X11_isThing (some i1) l1 M).bind fun v2 => if v2 = 0 then (some ((-2000 : Int32), M)) else ((gR 11 M (some i1) 5).bind fun v3 => (gI 8 M v3 4).bind fun v4 => (F_X11_bit v4 l1 M).bind fun v5 => if v5 = (1 : Int32) then (F_X11_cost_b40 M) else ((gR 11 M (some i1) 5).bind fun v6 => (gR 8 M v6 3).bind fun v7 => (aI 20 M v7 l1).bind fun v8 => if v8 = (-1 : Int32) then ((gR 11 M (some i1) 6).bind fun v9 => (gR 11 M (some i1) 5).bind fun v10 => (gO 8 M v9).bind fun i11 => (F_X8_copy (some i11) v10 M).bind fun M12 => (gC 11 M12 i1).bind fun _ => (F_X11_strikeLater (some i1) l1 M12).bind fun (v14, M15) => (gR 11 M15 (some i1) 6).bind fun v16 => (gR 11 M15 (some i1) 5).bind fun v17 => (gO 8 M15 v16).bind fun i18 => (F_X8_copy (some i18) v17 M15).bind fun M19 => (gR 11 M19 (some i1) 6).bind fun v20 => (gI 8 M19 v20 4).bind fun v21 => (pI 8 M19 v20 4 (v21 ||| ((1 : Int32) <<< (l1 &&& 31)))).bind fun M22 => (gC 11 M22 i1).bind fun _ => (F_X11_strikeLater (some i1) l1 M22).bind fun (v24, M25) => if v14 = (-1 : Int32) then (F_X11_cost_b101 M25) else (if v24 = (-1 : Int32) then (F_X11_cost_b101 M25) else (some ((v14 - v24), M25)))) else (F_X11_cost_b40 M)))
set_option maxHeartbeats 1000000 in
theorem T_X11_cost_b0 (r : (Int32 × gM)) (l0 : Option Nat) (l1 : Int32) (M : gM) (h : F_X11_cost_b0 l0 l1 M = some r) : GW 6 0 0 X_X11_cost 0 [(0, vr l0), (1, vi l1)] [] M (some (vi r.1), r.2) := by
  delta F_X11_cost_b0 at h
  refine GW_aload_n (X := X_X11_cost) (pc := 0) d_X11_cost_0 rfl 0 rfl ?_
  refine GW_iload_n (X := X_X11_cost) (pc := 1) d_X11_cost_1 rfl 1 rfl ?_
  replace h := g_bd h
  obtain ⟨i1, hi1, h⟩ := h
  obtain ⟨rfl, ki1⟩ := g_gO hi1
  replace h := g_bd h
  obtain ⟨v2, hv2, h⟩ := h
  refine GW_callV (X := X_X11_cost) (pc := 2) (bc0 := 0) (bs0 := 0) (r := some (vi v2)) (M2 := M) (c0 := 11) (T_X11_isThing (some i1) l1 M v2 hv2) (Nat.le_of_ble_eq_true rfl) (Nat.le_of_ble_eq_true rfl) rfl g_cok11 ki1 yc_X11_isThing ⟨m_794, m_796, m_22, m_116, m_797⟩ d_X11_cost_2 rfl (st := []) rfl (Nat.le_of_ble_eq_true rfl) (Nat.le_of_ble_eq_true rfl) (Nat.le_of_ble_eq_true rfl) (st2 := [vi v2]) rfl ?_
  refine GW_if_ne (X := X_X11_cost) (pc := 5) 12 d_X11_cost_5 (by decide) (fun c => ?_) (fun c => ?_)
  · replace h := g_ie c h
    refine GW_aload_n (X := X_X11_cost) (pc := 12) d_X11_cost_12 rfl 0 rfl ?_
    replace h := g_bd h
    obtain ⟨v3, hv3, h⟩ := h
    refine GW_getR (X := X_X11_cost) (pc := 13) f_X11_25 d_X11_cost_13 hv3 (Or.inl ⟨_, ty_11_5⟩) ?_
    replace h := g_bd h
    obtain ⟨v4, hv4, h⟩ := h
    refine GW_getI (X := X_X11_cost) (pc := 16) f_X11_169 d_X11_cost_16 hv4 (Or.inl ty_8_4) ?_
    refine GW_iload_n (X := X_X11_cost) (pc := 19) d_X11_cost_19 rfl 1 rfl ?_
    replace h := g_bd h
    obtain ⟨v5, hv5, h⟩ := h
    refine GW_callS (X := X_X11_cost) (pc := 20) (bc0 := 0) (bs0 := 0) (r := some (vi v5)) (M2 := M) (T_X11_bit v4 l1 M v5 hv5) (Nat.le_of_ble_eq_true rfl) (Nat.le_of_ble_eq_true rfl) yc_X11_bit ⟨m_772, m_646, m_116, m_647⟩ d_X11_cost_20 rfl (st := []) rfl (Nat.le_of_ble_eq_true rfl) (Nat.le_of_ble_eq_true rfl) (Nat.le_of_ble_eq_true rfl) (st2 := [vi v5]) rfl ?_
    refine GW_iconst (X := X_X11_cost) (pc := 23) (v := 1) d_X11_cost_23 (by decide) ?_
    refine GW_icmp_eq (X := X_X11_cost) (pc := 24) 40 d_X11_cost_24 (by decide) (fun c => ?_) (fun c => ?_)
    · replace h := g_ip c h
      refine GW_sub [] rfl ?_
      exact T_X11_cost_b40 r M h
    · replace h := g_ie c h
      refine GW_aload_n (X := X_X11_cost) (pc := 27) d_X11_cost_27 rfl 0 rfl ?_
      replace h := g_bd h
      obtain ⟨v6, hv6, h⟩ := h
      refine GW_getR (X := X_X11_cost) (pc := 28) f_X11_25 d_X11_cost_28 hv6 (Or.inl ⟨_, ty_11_5⟩) ?_
      replace h := g_bd h
      obtain ⟨v7, hv7, h⟩ := h
      refine GW_getR (X := X_X11_cost) (pc := 31) f_X11_172 d_X11_cost_31 hv7 (Or.inr ⟨_, ty_8_3⟩) ?_
      refine GW_iload_n (X := X_X11_cost) (pc := 34) d_X11_cost_34 rfl 1 rfl ?_
      replace h := g_bd h
      obtain ⟨v8, hv8, h⟩ := h
      refine GW_iald (X := X_X11_cost) (pc := 35) d_X11_cost_35 hv8 ?_
      refine GW_iconst (X := X_X11_cost) (pc := 36) (v := -1) d_X11_cost_36 (by decide) ?_
      refine GW_icmp_eq (X := X_X11_cost) (pc := 37) 42 d_X11_cost_37 (by decide) (fun c => ?_) (fun c => ?_)
      · replace h := g_ip c h
        refine GW_aload_n (X := X_X11_cost) (pc := 42) d_X11_cost_42 rfl 0 rfl ?_
        replace h := g_bd h
        obtain ⟨v9, hv9, h⟩ := h
        refine GW_getR (X := X_X11_cost) (pc := 43) f_X11_29 d_X11_cost_43 hv9 (Or.inl ⟨_, ty_11_6⟩) ?_
        refine GW_aload_n (X := X_X11_cost) (pc := 46) d_X11_cost_46 rfl 0 rfl ?_
        replace h := g_bd h
        obtain ⟨v10, hv10, h⟩ := h
        refine GW_getR (X := X_X11_cost) (pc := 47) f_X11_25 d_X11_cost_47 hv10 (Or.inl ⟨_, ty_11_5⟩) ?_
        replace h := g_bd h
        obtain ⟨i11, hi11, h⟩ := h
        obtain ⟨rfl, ki11⟩ := g_gO hi11
        replace h := g_bd h
        obtain ⟨M12, hM12, h⟩ := h
        refine GW_callV (X := X_X11_cost) (pc := 50) (bc0 := 0) (bs0 := 0) (r := none) (M2 := M12) (c0 := 8) (T_X8_copy (some i11) v10 M M12 hM12) (Nat.le_of_ble_eq_true rfl) (Nat.le_of_ble_eq_true rfl) rfl g_cok8 ki11 yc_X8_copy ⟨m_664, m_665, m_666, m_119, m_667⟩ d_X11_cost_50 rfl (st := []) rfl (Nat.le_of_ble_eq_true rfl) (Nat.le_of_ble_eq_true rfl) (Nat.le_of_ble_eq_true rfl) (st2 := []) rfl ?_
        refine GW_aload_n (X := X_X11_cost) (pc := 53) d_X11_cost_53 rfl 0 rfl ?_
        refine GW_iload_n (X := X_X11_cost) (pc := 54) d_X11_cost_54 rfl 1 rfl ?_
        replace h := g_bd h
        obtain ⟨_, kk13, h⟩ := h
        replace kk13 := g_gC kk13
        replace h := g_bd h
        obtain ⟨⟨v14, M15⟩, hv14, h⟩ := h
        dsimp only at h
        refine GW_callV (X := X_X11_cost) (pc := 55) (bc0 := 0) (bs0 := 0) (r := some (vi v14)) (M2 := M15) (c0 := 11) (T_X11_strikeLater (some i1) l1 M12 (v14, M15) hv14) (Nat.le_of_ble_eq_true rfl) (Nat.le_of_ble_eq_true rfl) rfl g_cok11 kk13 yc_X11_strikeLater ⟨m_964, m_966, m_33, m_116, m_967⟩ d_X11_cost_55 rfl (st := []) rfl (Nat.le_of_ble_eq_true rfl) (Nat.le_of_ble_eq_true rfl) (Nat.le_of_ble_eq_true rfl) (st2 := [vi v14]) rfl ?_
        refine GW_istore_n (X := X_X11_cost) (pc := 58) d_X11_cost_58 rfl (Nat.le_of_ble_eq_true rfl) (lv2 := [(2, vi v14), (0, vr (some i1)), (1, vi l1)]) rfl ?_
        refine GW_aload_n (X := X_X11_cost) (pc := 59) d_X11_cost_59 rfl 1 rfl ?_
        replace h := g_bd h
        obtain ⟨v16, hv16, h⟩ := h
        refine GW_getR (X := X_X11_cost) (pc := 60) f_X11_29 d_X11_cost_60 hv16 (Or.inl ⟨_, ty_11_6⟩) ?_
        refine GW_aload_n (X := X_X11_cost) (pc := 63) d_X11_cost_63 rfl 1 rfl ?_
        replace h := g_bd h
        obtain ⟨v17, hv17, h⟩ := h
        refine GW_getR (X := X_X11_cost) (pc := 64) f_X11_25 d_X11_cost_64 hv17 (Or.inl ⟨_, ty_11_5⟩) ?_
        replace h := g_bd h
        obtain ⟨i18, hi18, h⟩ := h
        obtain ⟨rfl, ki18⟩ := g_gO hi18
        replace h := g_bd h
        obtain ⟨M19, hM19, h⟩ := h
        refine GW_callV (X := X_X11_cost) (pc := 67) (bc0 := 0) (bs0 := 0) (r := none) (M2 := M19) (c0 := 8) (T_X8_copy (some i18) v17 M15 M19 hM19) (Nat.le_of_ble_eq_true rfl) (Nat.le_of_ble_eq_true rfl) rfl g_cok8 ki18 yc_X8_copy ⟨m_664, m_665, m_666, m_119, m_667⟩ d_X11_cost_67 rfl (st := []) rfl (Nat.le_of_ble_eq_true rfl) (Nat.le_of_ble_eq_true rfl) (Nat.le_of_ble_eq_true rfl) (st2 := []) rfl ?_
        refine GW_aload_n (X := X_X11_cost) (pc := 70) d_X11_cost_70 rfl 1 rfl ?_
        replace h := g_bd h
        obtain ⟨v20, hv20, h⟩ := h
        refine GW_getR (X := X_X11_cost) (pc := 71) f_X11_29 d_X11_cost_71 hv20 (Or.inl ⟨_, ty_11_6⟩) ?_
        refine GW_dup (X := X_X11_cost) (pc := 74) d_X11_cost_74 rfl ?_
        replace h := g_bd h
        obtain ⟨v21, hv21, h⟩ := h
        refine GW_getI (X := X_X11_cost) (pc := 75) f_X11_169 d_X11_cost_75 hv21 (Or.inl ty_8_4) ?_
        refine GW_iconst (X := X_X11_cost) (pc := 78) (v := 1) d_X11_cost_78 (by decide) ?_
        refine GW_iload_n (X := X_X11_cost) (pc := 79) d_X11_cost_79 rfl 2 rfl ?_
        refine GW_ishl (X := X_X11_cost) (pc := 80) d_X11_cost_80 ?_
        refine GW_ior (X := X_X11_cost) (pc := 81) d_X11_cost_81 ?_
        replace h := g_bd h
        obtain ⟨M22, hM22, h⟩ := h
        refine GW_putI (X := X_X11_cost) (pc := 82) f_X11_169 d_X11_cost_82 hM22 (Or.inl fi_8_4) (Or.inl ty_8_4) ?_
        refine GW_aload_n (X := X_X11_cost) (pc := 85) d_X11_cost_85 rfl 1 rfl ?_
        refine GW_iload_n (X := X_X11_cost) (pc := 86) d_X11_cost_86 rfl 2 rfl ?_
        replace h := g_bd h
        obtain ⟨_, kk23, h⟩ := h
        replace kk23 := g_gC kk23
        replace h := g_bd h
        obtain ⟨⟨v24, M25⟩, hv24, h⟩ := h
        dsimp only at h
        refine GW_callV (X := X_X11_cost) (pc := 87) (bc0 := 0) (bs0 := 0) (r := some (vi v24)) (M2 := M25) (c0 := 11) (T_X11_strikeLater (some i1) l1 M22 (v24, M25) hv24) (Nat.le_of_ble_eq_true rfl) (Nat.le_of_ble_eq_true rfl) rfl g_cok11 kk23 yc_X11_strikeLater ⟨m_964, m_966, m_33, m_116, m_967⟩ d_X11_cost_87 rfl (st := []) rfl (Nat.le_of_ble_eq_true rfl) (Nat.le_of_ble_eq_true rfl) (Nat.le_of_ble_eq_true rfl) (st2 := [vi v24]) rfl ?_
        refine GW_istore_n (X := X_X11_cost) (pc := 90) d_X11_cost_90 rfl (Nat.le_of_ble_eq_true rfl) (lv2 := [(3, vi v24), (2, vi v14), (0, vr (some i1)), (1, vi l1)]) rfl ?_
        refine GW_iload_n (X := X_X11_cost) (pc := 91) d_X11_cost_91 rfl 1 rfl ?_
        refine GW_iconst (X := X_X11_cost) (pc := 92) (v := -1) d_X11_cost_92 (by decide) ?_
        refine GW_icmp_eq (X := X_X11_cost) (pc := 93) 101 d_X11_cost_93 (by decide) (fun c => ?_) (fun c => ?_)
        · replace h := g_ip c h
          refine GW_sub [] rfl ?_
          exact T_X11_cost_b101 r M25 h
        · replace h := g_ie c h
          refine GW_iload_n (X := X_X11_cost) (pc := 96) d_X11_cost_96 rfl 0 rfl ?_
          refine GW_iconst (X := X_X11_cost) (pc := 97) (v := -1) d_X11_cost_97 (by decide) ?_
          refine GW_icmp_ne (X := X_X11_cost) (pc := 98) 107 d_X11_cost_98 (by decide) (fun c => ?_) (fun c => ?_)
          · replace h := g_ie c h
            refine GW_iload_n (X := X_X11_cost) (pc := 107) d_X11_cost_107 rfl 1 rfl ?_
            refine GW_iload_n (X := X_X11_cost) (pc := 108) d_X11_cost_108 rfl 0 rfl ?_
            refine GW_isub (X := X_X11_cost) (pc := 109) d_X11_cost_109 ?_
            replace h := Option.some.inj h
            subst h
            exact GW_ret (X := X_X11_cost) (pc := 110) d_X11_cost_110 rfl trivial
          · replace h := g_ip c h
            refine GW_sub [] rfl ?_
            exact T_X11_cost_b101 r M25 h
      · replace h := g_ie c h
        refine GW_sub [] rfl ?_
        exact T_X11_cost_b40 r M h
  · replace h := g_ip c h
    refine GW_sipush (X := X_X11_cost) (pc := 8) (v := -2000) d_X11_cost_8 (by decide) ?_
    replace h := Option.some.inj h
    subst h
    exact GW_ret (X := X_X11_cost) (pc := 11) d_X11_cost_11 rfl trivial
def F_X11_cost (l0 : Option Nat) (l1 : Int32) (M : gM) : Option (Int32 × gM) := F_X11_cost_b0 l0 l1 M
theorem T_X11_cost (l0 : Option Nat) (l1 : Int32) (M : gM) (r : (Int32 × gM)) (h : F_X11_cost l0 l1 M = some r) : g_Met 6 0 0 yX11_cost X_X11_cost [vr l0, vi l1] M (some (vi r.1), r.2) :=
  g_Met_of pn_RX11 rfl (Nat.le_of_ble_eq_true rfl) (fun h => by cases h) (GW_sub [0, 1] rfl (T_X11_cost_b0 r l0 l1 M h))
/-! ForgetHeirsModel.cost(I)I -/
theorem d_X12_cost_0 : decode cX12_cost 0 = .ok (.aload_n 0, 1) := by decide +kernel
theorem d_X12_cost_1 : decode cX12_cost 1 = .ok (.iload_n 1, 1) := by decide +kernel
theorem d_X12_cost_2 : decode cX12_cost 2 = .ok (.invokevirtual 327, 3) := by decide +kernel
theorem d_X12_cost_5 : decode cX12_cost 5 = .ok (.ifCond .ne 7, 3) := by decide +kernel
theorem d_X12_cost_8 : decode cX12_cost 8 = .ok (.sipush (-2000), 3) := by decide +kernel
theorem d_X12_cost_11 : decode cX12_cost 11 = .ok (.ireturn, 1) := by decide +kernel
theorem d_X12_cost_12 : decode cX12_cost 12 = .ok (.aload_n 0, 1) := by decide +kernel
theorem d_X12_cost_13 : decode cX12_cost 13 = .ok (.getfield 39, 3) := by decide +kernel
theorem d_X12_cost_16 : decode cX12_cost 16 = .ok (.bipush 8, 2) := by decide +kernel
theorem d_X12_cost_18 : decode cX12_cost 18 = .ok (.iaload, 1) := by decide +kernel
theorem d_X12_cost_19 : decode cX12_cost 19 = .ok (.iload_n 1, 1) := by decide +kernel
theorem d_X12_cost_20 : decode cX12_cost 20 = .ok (.invokestatic 226, 3) := by decide +kernel
theorem d_X12_cost_23 : decode cX12_cost 23 = .ok (.ifCond .ne 12, 3) := by decide +kernel
theorem d_X12_cost_26 : decode cX12_cost 26 = .ok (.aload_n 0, 1) := by decide +kernel
theorem d_X12_cost_27 : decode cX12_cost 27 = .ok (.iload_n 1, 1) := by decide +kernel
theorem d_X12_cost_28 : decode cX12_cost 28 = .ok (.iconst 3, 1) := by decide +kernel
theorem d_X12_cost_29 : decode cX12_cost 29 = .ok (.invokevirtual 301, 3) := by decide +kernel
theorem d_X12_cost_32 : decode cX12_cost 32 = .ok (.ifCond .lt 5, 3) := by decide +kernel
theorem d_X12_cost_35 : decode cX12_cost 35 = .ok (.iconst 0, 1) := by decide +kernel
theorem d_X12_cost_36 : decode cX12_cost 36 = .ok (.ireturn, 1) := by decide +kernel
theorem d_X12_cost_37 : decode cX12_cost 37 = .ok (.aload_n 0, 1) := by decide +kernel
theorem d_X12_cost_38 : decode cX12_cost 38 = .ok (.invokevirtual 383, 3) := by decide +kernel
theorem d_X12_cost_41 : decode cX12_cost 41 = .ok (.aload_n 0, 1) := by decide +kernel
theorem d_X12_cost_42 : decode cX12_cost 42 = .ok (.iload_n 1, 1) := by decide +kernel
theorem d_X12_cost_43 : decode cX12_cost 43 = .ok (.invokevirtual 389, 3) := by decide +kernel
theorem d_X12_cost_46 : decode cX12_cost 46 = .ok (.istore_n 2, 1) := by decide +kernel
theorem d_X12_cost_47 : decode cX12_cost 47 = .ok (.aload_n 0, 1) := by decide +kernel
theorem d_X12_cost_48 : decode cX12_cost 48 = .ok (.getfield 39, 3) := by decide +kernel
theorem d_X12_cost_51 : decode cX12_cost 51 = .ok (.bipush 8, 2) := by decide +kernel
theorem d_X12_cost_53 : decode cX12_cost 53 = .ok (.dup2, 1) := by decide +kernel
theorem d_X12_cost_54 : decode cX12_cost 54 = .ok (.iaload, 1) := by decide +kernel
theorem d_X12_cost_55 : decode cX12_cost 55 = .ok (.iconst 1, 1) := by decide +kernel
theorem d_X12_cost_56 : decode cX12_cost 56 = .ok (.iload_n 1, 1) := by decide +kernel
theorem d_X12_cost_57 : decode cX12_cost 57 = .ok (.ishl, 1) := by decide +kernel
theorem d_X12_cost_58 : decode cX12_cost 58 = .ok (.ior, 1) := by decide +kernel
theorem d_X12_cost_59 : decode cX12_cost 59 = .ok (.iastore, 1) := by decide +kernel
theorem d_X12_cost_60 : decode cX12_cost 60 = .ok (.aload_n 0, 1) := by decide +kernel
theorem d_X12_cost_61 : decode cX12_cost 61 = .ok (.iload_n 1, 1) := by decide +kernel
theorem d_X12_cost_62 : decode cX12_cost 62 = .ok (.invokevirtual 389, 3) := by decide +kernel
theorem d_X12_cost_65 : decode cX12_cost 65 = .ok (.istore_n 3, 1) := by decide +kernel
theorem d_X12_cost_66 : decode cX12_cost 66 = .ok (.iload_n 2, 1) := by decide +kernel
theorem d_X12_cost_67 : decode cX12_cost 67 = .ok (.ifCond .lt 7, 3) := by decide +kernel
theorem d_X12_cost_70 : decode cX12_cost 70 = .ok (.iload_n 3, 1) := by decide +kernel
theorem d_X12_cost_71 : decode cX12_cost 71 = .ok (.ifCond .ge 9, 3) := by decide +kernel
theorem d_X12_cost_74 : decode cX12_cost 74 = .ok (.sipush (-1000), 3) := by decide +kernel
theorem d_X12_cost_77 : decode cX12_cost 77 = .ok (.goto 6, 3) := by decide +kernel
theorem d_X12_cost_80 : decode cX12_cost 80 = .ok (.iload_n 2, 1) := by decide +kernel
theorem d_X12_cost_81 : decode cX12_cost 81 = .ok (.iload_n 3, 1) := by decide +kernel
theorem d_X12_cost_82 : decode cX12_cost 82 = .ok (.isub, 1) := by decide +kernel
theorem d_X12_cost_83 : decode cX12_cost 83 = .ok (.ireturn, 1) := by decide +kernel
abbrev X_X12_cost : gX := (RX12, cX12_cost, 4, (some .int), false)
def F_X12_cost_b35 (M : gM) : Option (Int32 × gM) :=
  some ((0 : Int32), M)
theorem T_X12_cost_b35 (r : (Int32 × gM)) (M : gM) (h : F_X12_cost_b35 M = some r) : GW 6 0 0 X_X12_cost 35 [] [] M (some (vi r.1), r.2) := by
  delta F_X12_cost_b35 at h
  refine GW_iconst (X := X_X12_cost) (pc := 35) (v := 0) d_X12_cost_35 (by decide) ?_
  replace h := Option.some.inj h
  subst h
  exact GW_ret (X := X_X12_cost) (pc := 36) d_X12_cost_36 rfl trivial
def F_X12_cost_b74 (M : gM) : Option (Int32 × gM) :=
  some ((-1000 : Int32), M)
theorem T_X12_cost_b74 (r : (Int32 × gM)) (M : gM) (h : F_X12_cost_b74 M = some r) : GW 6 0 0 X_X12_cost 74 [] [] M (some (vi r.1), r.2) := by
  delta F_X12_cost_b74 at h
  refine GW_sipush (X := X_X12_cost) (pc := 74) (v := -1000) d_X12_cost_74 (by decide) ?_
  refine GW_goto (X := X_X12_cost) (pc := 77) 83 d_X12_cost_77 (by decide) ?_
  replace h := Option.some.inj h
  subst h
  exact GW_ret (X := X_X12_cost) (pc := 83) d_X12_cost_83 rfl trivial
def F_X12_cost_b0 (l0 : Option Nat) (l1 : Int32) (M : gM) : Option (Int32 × gM) :=
  (gO 12 M l0).bind fun i1 => (F_X12_isThing (some i1) l1 M).bind fun v2 => if v2 = 0 then (some ((-2000 : Int32), M)) else ((gR 12 M (some i1) 20).bind fun v3 => (aI 20 M v3 (8 : Int32)).bind fun v4 => (F_X12_isOf v4 l1 M).bind fun v5 => if v5 = 0 then ((F_X12_thingOf (some i1) l1 (3 : Int32) M).bind fun v6 => if v6 < 0 then ((F_X12_keeps (some i1) M).bind fun M7 => (gC 12 M7 i1).bind fun _ => (F_X12_strikeOf (some i1) l1 M7).bind fun (v9, M10) => (gR 12 M10 (some i1) 20).bind fun v11 => (aI 20 M10 v11 (8 : Int32)).bind fun v12 => (sI M10 v11 (8 : Int32) (v12 ||| ((1 : Int32) <<< (l1 &&& 31)))).bind fun M13 => (gC 12 M13 i1).bind fun _ => (F_X12_strikeOf (some i1) l1 M13).bind fun (v15, M16) => if v9 < 0 then (F_X12_cost_b74 M16) else (if 0 ≤ v15 then (some ((v9 - v15), M16)) else (F_X12_cost_b74 M16))) else (F_X12_cost_b35 M)) else (F_X12_cost_b35 M))
set_option maxHeartbeats 1000000 in
theorem T_X12_cost_b0 (r : (Int32 × gM)) (l0 : Option Nat) (l1 : Int32) (M : gM) (h : F_X12_cost_b0 l0 l1 M = some r) : GW 6 0 0 X_X12_cost 0 [(0, vr l0), (1, vi l1)] [] M (some (vi r.1), r.2) := by
  delta F_X12_cost_b0 at h
  refine GW_aload_n (X := X_X12_cost) (pc := 0) d_X12_cost_0 rfl 0 rfl ?_
  refine GW_iload_n (X := X_X12_cost) (pc := 1) d_X12_cost_1 rfl 1 rfl ?_
  replace h := g_bd h
  obtain ⟨i1, hi1, h⟩ := h
  obtain ⟨rfl, ki1⟩ := g_gO hi1
  replace h := g_bd h
  obtain ⟨v2, hv2, h⟩ := h
  refine GW_callV (X := X_X12_cost) (pc := 2) (bc0 := 0) (bs0 := 0) (r := some (vi v2)) (M2 := M) (c0 := 12) (T_X12_isThing (some i1) l1 M v2 hv2) (Nat.le_of_ble_eq_true rfl) (Nat.le_of_ble_eq_true rfl) rfl g_cok12 ki1 yc_X12_isThing ⟨m_1448, m_1450, m_83, m_127, m_1451⟩ d_X12_cost_2 rfl (st := []) rfl (Nat.le_of_ble_eq_true rfl) (Nat.le_of_ble_eq_true rfl) (Nat.le_of_ble_eq_true rfl) (st2 := [vi v2]) rfl ?_
  refine GW_if_ne (X := X_X12_cost) (pc := 5) 12 d_X12_cost_5 (by decide) (fun c => ?_) (fun c => ?_)
  · replace h := g_ie c h
    refine GW_aload_n (X := X_X12_cost) (pc := 12) d_X12_cost_12 rfl 0 rfl ?_
    replace h := g_bd h
    obtain ⟨v3, hv3, h⟩ := h
    refine GW_getR (X := X_X12_cost) (pc := 13) f_X12_39 d_X12_cost_13 hv3 (Or.inr ⟨_, ty_12_20⟩) ?_
    refine GW_bipush (X := X_X12_cost) (pc := 16) (v := 8) d_X12_cost_16 (by decide) ?_
    replace h := g_bd h
    obtain ⟨v4, hv4, h⟩ := h
    refine GW_iald (X := X_X12_cost) (pc := 18) d_X12_cost_18 hv4 ?_
    refine GW_iload_n (X := X_X12_cost) (pc := 19) d_X12_cost_19 rfl 1 rfl ?_
    replace h := g_bd h
    obtain ⟨v5, hv5, h⟩ := h
    refine GW_callS (X := X_X12_cost) (pc := 20) (bc0 := 0) (bs0 := 0) (r := some (vi v5)) (M2 := M) (T_X12_isOf v4 l1 M v5 hv5) (Nat.le_of_ble_eq_true rfl) (Nat.le_of_ble_eq_true rfl) yc_X12_isOf ⟨m_1314, m_1315, m_127, m_1316⟩ d_X12_cost_20 rfl (st := []) rfl (Nat.le_of_ble_eq_true rfl) (Nat.le_of_ble_eq_true rfl) (Nat.le_of_ble_eq_true rfl) (st2 := [vi v5]) rfl ?_
    refine GW_if_ne (X := X_X12_cost) (pc := 23) 35 d_X12_cost_23 (by decide) (fun c => ?_) (fun c => ?_)
    · replace h := g_ie c h
      refine GW_sub [] rfl ?_
      exact T_X12_cost_b35 r M h
    · replace h := g_ip c h
      refine GW_aload_n (X := X_X12_cost) (pc := 26) d_X12_cost_26 rfl 0 rfl ?_
      refine GW_iload_n (X := X_X12_cost) (pc := 27) d_X12_cost_27 rfl 1 rfl ?_
      refine GW_iconst (X := X_X12_cost) (pc := 28) (v := 3) d_X12_cost_28 (by decide) ?_
      replace h := g_bd h
      obtain ⟨v6, hv6, h⟩ := h
      refine GW_callV (X := X_X12_cost) (pc := 29) (bc0 := 0) (bs0 := 0) (r := some (vi v6)) (M2 := M) (c0 := 12) (T_X12_thingOf (some i1) l1 (3 : Int32) M v6 hv6) (Nat.le_of_ble_eq_true rfl) (Nat.le_of_ble_eq_true rfl) rfl g_cok12 ki1 yc_X12_thingOf ⟨m_1428, m_1430, m_79, m_127, m_1431⟩ d_X12_cost_29 rfl (st := []) rfl (Nat.le_of_ble_eq_true rfl) (Nat.le_of_ble_eq_true rfl) (Nat.le_of_ble_eq_true rfl) (st2 := [vi v6]) rfl ?_
      refine GW_if_lt (X := X_X12_cost) (pc := 32) 37 d_X12_cost_32 (by decide) (fun c => ?_) (fun c => ?_)
      · replace h := g_ip c h
        refine GW_aload_n (X := X_X12_cost) (pc := 37) d_X12_cost_37 rfl 0 rfl ?_
        replace h := g_bd h
        obtain ⟨M7, hM7, h⟩ := h
        refine GW_callV (X := X_X12_cost) (pc := 38) (bc0 := 0) (bs0 := 0) (r := none) (M2 := M7) (c0 := 12) (T_X12_keeps (some i1) M M7 hM7) (Nat.le_of_ble_eq_true rfl) (Nat.le_of_ble_eq_true rfl) rfl g_cok12 ki1 yc_X12_keeps ⟨m_1554, m_1556, m_100, m_127, m_1557⟩ d_X12_cost_38 rfl (st := []) rfl (Nat.le_of_ble_eq_true rfl) (Nat.le_of_ble_eq_true rfl) (Nat.le_of_ble_eq_true rfl) (st2 := []) rfl ?_
        refine GW_aload_n (X := X_X12_cost) (pc := 41) d_X12_cost_41 rfl 0 rfl ?_
        refine GW_iload_n (X := X_X12_cost) (pc := 42) d_X12_cost_42 rfl 1 rfl ?_
        replace h := g_bd h
        obtain ⟨_, kk8, h⟩ := h
        replace kk8 := g_gC kk8
        replace h := g_bd h
        obtain ⟨⟨v9, M10⟩, hv9, h⟩ := h
        dsimp only at h
        refine GW_callV (X := X_X12_cost) (pc := 43) (bc0 := 0) (bs0 := 0) (r := some (vi v9)) (M2 := M10) (c0 := 12) (T_X12_strikeOf (some i1) l1 M7 (v9, M10) hv9) (Nat.le_of_ble_eq_true rfl) (Nat.le_of_ble_eq_true rfl) rfl g_cok12 kk8 yc_X12_strikeOf ⟨m_1566, m_1568, m_102, m_127, m_1569⟩ d_X12_cost_43 rfl (st := []) rfl (Nat.le_of_ble_eq_true rfl) (Nat.le_of_ble_eq_true rfl) (Nat.le_of_ble_eq_true rfl) (st2 := [vi v9]) rfl ?_
        refine GW_istore_n (X := X_X12_cost) (pc := 46) d_X12_cost_46 rfl (Nat.le_of_ble_eq_true rfl) (lv2 := [(2, vi v9), (0, vr (some i1)), (1, vi l1)]) rfl ?_
        refine GW_aload_n (X := X_X12_cost) (pc := 47) d_X12_cost_47 rfl 1 rfl ?_
        replace h := g_bd h
        obtain ⟨v11, hv11, h⟩ := h
        refine GW_getR (X := X_X12_cost) (pc := 48) f_X12_39 d_X12_cost_48 hv11 (Or.inr ⟨_, ty_12_20⟩) ?_
        refine GW_bipush (X := X_X12_cost) (pc := 51) (v := 8) d_X12_cost_51 (by decide) ?_
        refine GW_dup2 (X := X_X12_cost) (pc := 53) d_X12_cost_53 rfl rfl ?_
        replace h := g_bd h
        obtain ⟨v12, hv12, h⟩ := h
        refine GW_iald (X := X_X12_cost) (pc := 54) d_X12_cost_54 hv12 ?_
        refine GW_iconst (X := X_X12_cost) (pc := 55) (v := 1) d_X12_cost_55 (by decide) ?_
        refine GW_iload_n (X := X_X12_cost) (pc := 56) d_X12_cost_56 rfl 2 rfl ?_
        refine GW_ishl (X := X_X12_cost) (pc := 57) d_X12_cost_57 ?_
        refine GW_ior (X := X_X12_cost) (pc := 58) d_X12_cost_58 ?_
        replace h := g_bd h
        obtain ⟨M13, hM13, h⟩ := h
        refine GW_iast (X := X_X12_cost) (pc := 59) d_X12_cost_59 hM13 ?_
        refine GW_aload_n (X := X_X12_cost) (pc := 60) d_X12_cost_60 rfl 1 rfl ?_
        refine GW_iload_n (X := X_X12_cost) (pc := 61) d_X12_cost_61 rfl 2 rfl ?_
        replace h := g_bd h
        obtain ⟨_, kk14, h⟩ := h
        replace kk14 := g_gC kk14
        replace h := g_bd h
        obtain ⟨⟨v15, M16⟩, hv15, h⟩ := h
        dsimp only at h
        refine GW_callV (X := X_X12_cost) (pc := 62) (bc0 := 0) (bs0 := 0) (r := some (vi v15)) (M2 := M16) (c0 := 12) (T_X12_strikeOf (some i1) l1 M13 (v15, M16) hv15) (Nat.le_of_ble_eq_true rfl) (Nat.le_of_ble_eq_true rfl) rfl g_cok12 kk14 yc_X12_strikeOf ⟨m_1566, m_1568, m_102, m_127, m_1569⟩ d_X12_cost_62 rfl (st := []) rfl (Nat.le_of_ble_eq_true rfl) (Nat.le_of_ble_eq_true rfl) (Nat.le_of_ble_eq_true rfl) (st2 := [vi v15]) rfl ?_
        refine GW_istore_n (X := X_X12_cost) (pc := 65) d_X12_cost_65 rfl (Nat.le_of_ble_eq_true rfl) (lv2 := [(3, vi v15), (2, vi v9), (0, vr (some i1)), (1, vi l1)]) rfl ?_
        refine GW_iload_n (X := X_X12_cost) (pc := 66) d_X12_cost_66 rfl 1 rfl ?_
        refine GW_if_lt (X := X_X12_cost) (pc := 67) 74 d_X12_cost_67 (by decide) (fun c => ?_) (fun c => ?_)
        · replace h := g_ip c h
          refine GW_sub [] rfl ?_
          exact T_X12_cost_b74 r M16 h
        · replace h := g_ie c h
          refine GW_iload_n (X := X_X12_cost) (pc := 70) d_X12_cost_70 rfl 0 rfl ?_
          refine GW_if_ge (X := X_X12_cost) (pc := 71) 80 d_X12_cost_71 (by decide) (fun c => ?_) (fun c => ?_)
          · replace h := g_ip c h
            refine GW_iload_n (X := X_X12_cost) (pc := 80) d_X12_cost_80 rfl 1 rfl ?_
            refine GW_iload_n (X := X_X12_cost) (pc := 81) d_X12_cost_81 rfl 0 rfl ?_
            refine GW_isub (X := X_X12_cost) (pc := 82) d_X12_cost_82 ?_
            replace h := Option.some.inj h
            subst h
            exact GW_ret (X := X_X12_cost) (pc := 83) d_X12_cost_83 rfl trivial
          · replace h := g_ie c h
            refine GW_sub [] rfl ?_
            exact T_X12_cost_b74 r M16 h
      · replace h := g_ie c h
        refine GW_sub [] rfl ?_
        exact T_X12_cost_b35 r M h
  · replace h := g_ip c h
    refine GW_sipush (X := X_X12_cost) (pc := 8) (v := -2000) d_X12_cost_8 (by decide) ?_
    replace h := Option.some.inj h
    subst h
    exact GW_ret (X := X_X12_cost) (pc := 11) d_X12_cost_11 rfl trivial
def F_X12_cost (l0 : Option Nat) (l1 : Int32) (M : gM) : Option (Int32 × gM) := F_X12_cost_b0 l0 l1 M
theorem T_X12_cost (l0 : Option Nat) (l1 : Int32) (M : gM) (r : (Int32 × gM)) (h : F_X12_cost l0 l1 M = some r) : g_Met 6 0 0 yX12_cost X_X12_cost [vr l0, vi l1] M (some (vi r.1), r.2) :=
  g_Met_of pn_RX12 rfl (Nat.le_of_ble_eq_true rfl) (fun h => by cases h) (GW_sub [0, 1] rfl (T_X12_cost_b0 r l0 l1 M h))
/-! ForgetHeirs.seed(I)I -/
theorem d_X11_seed_0 : decode cX11_seed 0 = .ok (.iload_n 1, 1) := by decide +kernel
theorem d_X11_seed_1 : decode cX11_seed 1 = .ok (.ifCond .ge 5, 3) := by decide +kernel
theorem d_X11_seed_4 : decode cX11_seed 4 = .ok (.iconst (-1), 1) := by decide +kernel
theorem d_X11_seed_5 : decode cX11_seed 5 = .ok (.ireturn, 1) := by decide +kernel
theorem d_X11_seed_6 : decode cX11_seed 6 = .ok (.aload_n 0, 1) := by decide +kernel
theorem d_X11_seed_7 : decode cX11_seed 7 = .ok (.getfield 70, 3) := by decide +kernel
theorem d_X11_seed_10 : decode cX11_seed 10 = .ok (.istore_n 2, 1) := by decide +kernel
theorem d_X11_seed_11 : decode cX11_seed 11 = .ok (.aload_n 0, 1) := by decide +kernel
theorem d_X11_seed_12 : decode cX11_seed 12 = .ok (.iload_n 1, 1) := by decide +kernel
theorem d_X11_seed_13 : decode cX11_seed 13 = .ok (.putfield 70, 3) := by decide +kernel
theorem d_X11_seed_16 : decode cX11_seed 16 = .ok (.iload_n 2, 1) := by decide +kernel
theorem d_X11_seed_17 : decode cX11_seed 17 = .ok (.ireturn, 1) := by decide +kernel
abbrev X_X11_seed : gX := (RX11, cX11_seed, 3, (some .int), false)
def F_X11_seed_b0 (l0 : Option Nat) (l1 : Int32) (M : gM) : Option (Int32 × gM) :=
  if 0 ≤ l1 then ((gI 11 M l0 14).bind fun v1 => (pI 11 M l0 14 l1).bind fun M2 => some (v1, M2)) else (some ((-1 : Int32), M))
theorem T_X11_seed_b0 (r : (Int32 × gM)) (l0 : Option Nat) (l1 : Int32) (M : gM) (h : F_X11_seed_b0 l0 l1 M = some r) : GW 0 0 0 X_X11_seed 0 [(0, vr l0), (1, vi l1)] [] M (some (vi r.1), r.2) := by
  delta F_X11_seed_b0 at h
  refine GW_iload_n (X := X_X11_seed) (pc := 0) d_X11_seed_0 rfl 1 rfl ?_
  refine GW_if_ge (X := X_X11_seed) (pc := 1) 6 d_X11_seed_1 (by decide) (fun c => ?_) (fun c => ?_)
  · replace h := g_ip c h
    refine GW_aload_n (X := X_X11_seed) (pc := 6) d_X11_seed_6 rfl 0 rfl ?_
    replace h := g_bd h
    obtain ⟨v1, hv1, h⟩ := h
    refine GW_getI (X := X_X11_seed) (pc := 7) f_X11_70 d_X11_seed_7 hv1 (Or.inl ty_11_14) ?_
    refine GW_istore_n (X := X_X11_seed) (pc := 10) d_X11_seed_10 rfl (Nat.le_of_ble_eq_true rfl) (lv2 := [(2, vi v1), (0, vr l0), (1, vi l1)]) rfl ?_
    refine GW_aload_n (X := X_X11_seed) (pc := 11) d_X11_seed_11 rfl 1 rfl ?_
    refine GW_iload_n (X := X_X11_seed) (pc := 12) d_X11_seed_12 rfl 2 rfl ?_
    replace h := g_bd h
    obtain ⟨M2, hM2, h⟩ := h
    refine GW_putI (X := X_X11_seed) (pc := 13) f_X11_70 d_X11_seed_13 hM2 (Or.inl fi_11_14) (Or.inl ty_11_14) ?_
    refine GW_iload_n (X := X_X11_seed) (pc := 16) d_X11_seed_16 rfl 0 rfl ?_
    replace h := Option.some.inj h
    subst h
    exact GW_ret (X := X_X11_seed) (pc := 17) d_X11_seed_17 rfl trivial
  · replace h := g_ie c h
    refine GW_iconst (X := X_X11_seed) (pc := 4) (v := -1) d_X11_seed_4 (by decide) ?_
    replace h := Option.some.inj h
    subst h
    exact GW_ret (X := X_X11_seed) (pc := 5) d_X11_seed_5 rfl trivial
def F_X11_seed (l0 : Option Nat) (l1 : Int32) (M : gM) : Option (Int32 × gM) := F_X11_seed_b0 l0 l1 M
theorem T_X11_seed (l0 : Option Nat) (l1 : Int32) (M : gM) (r : (Int32 × gM)) (h : F_X11_seed l0 l1 M = some r) : g_Met 0 0 0 yX11_seed X_X11_seed [vr l0, vi l1] M (some (vi r.1), r.2) :=
  g_Met_of pn_RX11 rfl (Nat.le_of_ble_eq_true rfl) (fun h => by cases h) (GW_sub [0, 1] rfl (T_X11_seed_b0 r l0 l1 M h))
/-! ForgetHeirsModel.seed(I)I -/
theorem d_X12_seed_0 : decode cX12_seed 0 = .ok (.iload_n 1, 1) := by decide +kernel
theorem d_X12_seed_1 : decode cX12_seed 1 = .ok (.ifCond .ge 5, 3) := by decide +kernel
theorem d_X12_seed_4 : decode cX12_seed 4 = .ok (.iconst (-1), 1) := by decide +kernel
theorem d_X12_seed_5 : decode cX12_seed 5 = .ok (.ireturn, 1) := by decide +kernel
theorem d_X12_seed_6 : decode cX12_seed 6 = .ok (.aload_n 0, 1) := by decide +kernel
theorem d_X12_seed_7 : decode cX12_seed 7 = .ok (.getfield 427, 3) := by decide +kernel
theorem d_X12_seed_10 : decode cX12_seed 10 = .ok (.istore_n 2, 1) := by decide +kernel
theorem d_X12_seed_11 : decode cX12_seed 11 = .ok (.aload_n 0, 1) := by decide +kernel
theorem d_X12_seed_12 : decode cX12_seed 12 = .ok (.iload_n 1, 1) := by decide +kernel
theorem d_X12_seed_13 : decode cX12_seed 13 = .ok (.putfield 427, 3) := by decide +kernel
theorem d_X12_seed_16 : decode cX12_seed 16 = .ok (.iload_n 2, 1) := by decide +kernel
theorem d_X12_seed_17 : decode cX12_seed 17 = .ok (.ireturn, 1) := by decide +kernel
abbrev X_X12_seed : gX := (RX12, cX12_seed, 3, (some .int), false)
def F_X12_seed_b0 (l0 : Option Nat) (l1 : Int32) (M : gM) : Option (Int32 × gM) :=
  if 0 ≤ l1 then ((gI 12 M l0 22).bind fun v1 => (pI 12 M l0 22 l1).bind fun M2 => some (v1, M2)) else (some ((-1 : Int32), M))
theorem T_X12_seed_b0 (r : (Int32 × gM)) (l0 : Option Nat) (l1 : Int32) (M : gM) (h : F_X12_seed_b0 l0 l1 M = some r) : GW 0 0 0 X_X12_seed 0 [(0, vr l0), (1, vi l1)] [] M (some (vi r.1), r.2) := by
  delta F_X12_seed_b0 at h
  refine GW_iload_n (X := X_X12_seed) (pc := 0) d_X12_seed_0 rfl 1 rfl ?_
  refine GW_if_ge (X := X_X12_seed) (pc := 1) 6 d_X12_seed_1 (by decide) (fun c => ?_) (fun c => ?_)
  · replace h := g_ip c h
    refine GW_aload_n (X := X_X12_seed) (pc := 6) d_X12_seed_6 rfl 0 rfl ?_
    replace h := g_bd h
    obtain ⟨v1, hv1, h⟩ := h
    refine GW_getI (X := X_X12_seed) (pc := 7) f_X12_427 d_X12_seed_7 hv1 (Or.inl ty_12_22) ?_
    refine GW_istore_n (X := X_X12_seed) (pc := 10) d_X12_seed_10 rfl (Nat.le_of_ble_eq_true rfl) (lv2 := [(2, vi v1), (0, vr l0), (1, vi l1)]) rfl ?_
    refine GW_aload_n (X := X_X12_seed) (pc := 11) d_X12_seed_11 rfl 1 rfl ?_
    refine GW_iload_n (X := X_X12_seed) (pc := 12) d_X12_seed_12 rfl 2 rfl ?_
    replace h := g_bd h
    obtain ⟨M2, hM2, h⟩ := h
    refine GW_putI (X := X_X12_seed) (pc := 13) f_X12_427 d_X12_seed_13 hM2 (Or.inl fi_12_22) (Or.inl ty_12_22) ?_
    refine GW_iload_n (X := X_X12_seed) (pc := 16) d_X12_seed_16 rfl 0 rfl ?_
    replace h := Option.some.inj h
    subst h
    exact GW_ret (X := X_X12_seed) (pc := 17) d_X12_seed_17 rfl trivial
  · replace h := g_ie c h
    refine GW_iconst (X := X_X12_seed) (pc := 4) (v := -1) d_X12_seed_4 (by decide) ?_
    replace h := Option.some.inj h
    subst h
    exact GW_ret (X := X_X12_seed) (pc := 5) d_X12_seed_5 rfl trivial
def F_X12_seed (l0 : Option Nat) (l1 : Int32) (M : gM) : Option (Int32 × gM) := F_X12_seed_b0 l0 l1 M
theorem T_X12_seed (l0 : Option Nat) (l1 : Int32) (M : gM) (r : (Int32 × gM)) (h : F_X12_seed l0 l1 M = some r) : g_Met 0 0 0 yX12_seed X_X12_seed [vr l0, vi l1] M (some (vi r.1), r.2) :=
  g_Met_of pn_RX12 rfl (Nat.le_of_ble_eq_true rfl) (fun h => by cases h) (GW_sub [0, 1] rfl (T_X12_seed_b0 r l0 l1 M h))
/-! ForgetHeirs.draw()I -/
theorem d_X11_draw_0 : decode cX11_draw 0 = .ok (.aload_n 0, 1) := by decide +kernel
theorem d_X11_draw_1 : decode cX11_draw 1 = .ok (.aload_n 0, 1) := by decide +kernel
theorem d_X11_draw_2 : decode cX11_draw 2 = .ok (.getfield 70, 3) := by decide +kernel
theorem d_X11_draw_5 : decode cX11_draw 5 = .ok (.i2l, 1) := by decide +kernel
theorem d_X11_draw_6 : decode cX11_draw 6 = .ok (.ldc2_w 317, 3) := by decide +kernel
theorem d_X11_draw_9 : decode cX11_draw 9 = .ok (.lmul, 1) := by decide +kernel
theorem d_X11_draw_10 : decode cX11_draw 10 = .ok (.ldc2_w 319, 3) := by decide +kernel
theorem d_X11_draw_13 : decode cX11_draw 13 = .ok (.ladd, 1) := by decide +kernel
theorem d_X11_draw_14 : decode cX11_draw 14 = .ok (.ldc2_w 321, 3) := by decide +kernel
theorem d_X11_draw_17 : decode cX11_draw 17 = .ok (.lrem, 1) := by decide +kernel
theorem d_X11_draw_18 : decode cX11_draw 18 = .ok (.l2i, 1) := by decide +kernel
theorem d_X11_draw_19 : decode cX11_draw 19 = .ok (.putfield 70, 3) := by decide +kernel
theorem d_X11_draw_22 : decode cX11_draw 22 = .ok (.aload_n 0, 1) := by decide +kernel
theorem d_X11_draw_23 : decode cX11_draw 23 = .ok (.getfield 70, 3) := by decide +kernel
theorem d_X11_draw_26 : decode cX11_draw 26 = .ok (.ldc_w 323, 3) := by decide +kernel
theorem d_X11_draw_29 : decode cX11_draw 29 = .ok (.idiv, 1) := by decide +kernel
theorem d_X11_draw_30 : decode cX11_draw 30 = .ok (.ireturn, 1) := by decide +kernel
abbrev X_X11_draw : gX := (RX11, cX11_draw, 1, (some .int), false)
def F_X11_draw_b0 (l0 : Option Nat) (M : gM) : Option (Int32 × gM) :=
  (gI 11 M l0 14).bind fun v1 => (pI 11 M l0 14 (((((v1).toInt64 * (1103515245 : Int64)) + (12345 : Int64)) - (((v1).toInt64 * (1103515245 : Int64)) + (12345 : Int64)) / (2147483648 : Int64) * (2147483648 : Int64))).toInt32).bind fun M2 => (gI 11 M2 l0 14).bind fun v3 => some ((v3 / (65536 : Int32)), M2)
theorem T_X11_draw_b0 (r : (Int32 × gM)) (l0 : Option Nat) (M : gM) (h : F_X11_draw_b0 l0 M = some r) : GW 0 0 0 X_X11_draw 0 [(0, vr l0)] [] M (some (vi r.1), r.2) := by
  delta F_X11_draw_b0 at h
  refine GW_aload_n (X := X_X11_draw) (pc := 0) d_X11_draw_0 rfl 0 rfl ?_
  refine GW_aload_n (X := X_X11_draw) (pc := 1) d_X11_draw_1 rfl 0 rfl ?_
  replace h := g_bd h
  obtain ⟨v1, hv1, h⟩ := h
  refine GW_getI (X := X_X11_draw) (pc := 2) f_X11_70 d_X11_draw_2 hv1 (Or.inl ty_11_14) ?_
  refine GW_i2l (X := X_X11_draw) (pc := 5) d_X11_draw_5 ?_
  refine GW_ldc2 (X := X_X11_draw) (pc := 6) d_X11_draw_6 m_1084 ?_
  refine GW_lmul (X := X_X11_draw) (pc := 9) d_X11_draw_9 ?_
  refine GW_ldc2 (X := X_X11_draw) (pc := 10) d_X11_draw_10 m_1085 ?_
  refine GW_ladd (X := X_X11_draw) (pc := 13) d_X11_draw_13 ?_
  refine GW_ldc2 (X := X_X11_draw) (pc := 14) d_X11_draw_14 m_1086 ?_
  refine GW_lrem (X := X_X11_draw) (pc := 17) d_X11_draw_17 (by decide) ?_
  refine GW_l2i (X := X_X11_draw) (pc := 18) d_X11_draw_18 ?_
  replace h := g_bd h
  obtain ⟨M2, hM2, h⟩ := h
  refine GW_putI (X := X_X11_draw) (pc := 19) f_X11_70 d_X11_draw_19 hM2 (Or.inl fi_11_14) (Or.inl ty_11_14) ?_
  refine GW_aload_n (X := X_X11_draw) (pc := 22) d_X11_draw_22 rfl 0 rfl ?_
  replace h := g_bd h
  obtain ⟨v3, hv3, h⟩ := h
  refine GW_getI (X := X_X11_draw) (pc := 23) f_X11_70 d_X11_draw_23 hv3 (Or.inl ty_11_14) ?_
  refine GW_ldcw (X := X_X11_draw) (pc := 26) d_X11_draw_26 m_1087 ?_
  refine GW_idiv (X := X_X11_draw) (pc := 29) d_X11_draw_29 (by decide) ?_
  replace h := Option.some.inj h
  subst h
  exact GW_ret (X := X_X11_draw) (pc := 30) d_X11_draw_30 rfl trivial
def F_X11_draw (l0 : Option Nat) (M : gM) : Option (Int32 × gM) := F_X11_draw_b0 l0 M
theorem T_X11_draw (l0 : Option Nat) (M : gM) (r : (Int32 × gM)) (h : F_X11_draw l0 M = some r) : g_Met 0 0 0 yX11_draw X_X11_draw [vr l0] M (some (vi r.1), r.2) :=
  g_Met_of pn_RX11 rfl (Nat.le_of_ble_eq_true rfl) (fun h => by cases h) (GW_sub [0] rfl (T_X11_draw_b0 r l0 M h))
/-! ForgetHeirs.drinkLater()V -/
theorem d_X11_drinkLater_0 : decode cX11_drinkLater 0 = .ok (.iconst 0, 1) := by decide +kernel
theorem d_X11_drinkLater_1 : decode cX11_drinkLater 1 = .ok (.istore_n 1, 1) := by decide +kernel
theorem d_X11_drinkLater_2 : decode cX11_drinkLater 2 = .ok (.iload_n 1, 1) := by decide +kernel
theorem d_X11_drinkLater_3 : decode cX11_drinkLater 3 = .ok (.aload_n 0, 1) := by decide +kernel
theorem d_X11_drinkLater_4 : decode cX11_drinkLater 4 = .ok (.getfield 59, 3) := by decide +kernel
theorem d_X11_drinkLater_7 : decode cX11_drinkLater 7 = .ok (.getfield 121, 3) := by decide +kernel
theorem d_X11_drinkLater_10 : decode cX11_drinkLater 10 = .ok (.if_icmp .ge 68, 3) := by decide +kernel
theorem d_X11_drinkLater_13 : decode cX11_drinkLater 13 = .ok (.aload_n 0, 1) := by decide +kernel
theorem d_X11_drinkLater_14 : decode cX11_drinkLater 14 = .ok (.invokevirtual 314, 3) := by decide +kernel
theorem d_X11_drinkLater_17 : decode cX11_drinkLater 17 = .ok (.bipush 100, 2) := by decide +kernel
theorem d_X11_drinkLater_19 : decode cX11_drinkLater 19 = .ok (.irem, 1) := by decide +kernel
theorem d_X11_drinkLater_20 : decode cX11_drinkLater 20 = .ok (.aload_n 0, 1) := by decide +kernel
theorem d_X11_drinkLater_21 : decode cX11_drinkLater 21 = .ok (.getfield 59, 3) := by decide +kernel
theorem d_X11_drinkLater_24 : decode cX11_drinkLater 24 = .ok (.getfield 134, 3) := by decide +kernel
theorem d_X11_drinkLater_27 : decode cX11_drinkLater 27 = .ok (.iload_n 1, 1) := by decide +kernel
theorem d_X11_drinkLater_28 : decode cX11_drinkLater 28 = .ok (.iaload, 1) := by decide +kernel
theorem d_X11_drinkLater_29 : decode cX11_drinkLater 29 = .ok (.if_icmp .ge 7, 3) := by decide +kernel
theorem d_X11_drinkLater_32 : decode cX11_drinkLater 32 = .ok (.iconst 1, 1) := by decide +kernel
theorem d_X11_drinkLater_33 : decode cX11_drinkLater 33 = .ok (.goto 4, 3) := by decide +kernel
theorem d_X11_drinkLater_36 : decode cX11_drinkLater 36 = .ok (.iconst 0, 1) := by decide +kernel
theorem d_X11_drinkLater_37 : decode cX11_drinkLater 37 = .ok (.istore_n 2, 1) := by decide +kernel
theorem d_X11_drinkLater_38 : decode cX11_drinkLater 38 = .ok (.iload_n 2, 1) := by decide +kernel
theorem d_X11_drinkLater_39 : decode cX11_drinkLater 39 = .ok (.ifCond .eq 33, 3) := by decide +kernel
theorem d_X11_drinkLater_42 : decode cX11_drinkLater 42 = .ok (.aload_n 0, 1) := by decide +kernel
theorem d_X11_drinkLater_43 : decode cX11_drinkLater 43 = .ok (.getfield 59, 3) := by decide +kernel
theorem d_X11_drinkLater_46 : decode cX11_drinkLater 46 = .ok (.getfield 184, 3) := by decide +kernel
theorem d_X11_drinkLater_49 : decode cX11_drinkLater 49 = .ok (.ifCond .le 23, 3) := by decide +kernel
theorem d_X11_drinkLater_52 : decode cX11_drinkLater 52 = .ok (.aload_n 0, 1) := by decide +kernel
theorem d_X11_drinkLater_53 : decode cX11_drinkLater 53 = .ok (.getfield 29, 3) := by decide +kernel
theorem d_X11_drinkLater_56 : decode cX11_drinkLater 56 = .ok (.iload_n 1, 1) := by decide +kernel
theorem d_X11_drinkLater_57 : decode cX11_drinkLater 57 = .ok (.aload_n 0, 1) := by decide +kernel
theorem d_X11_drinkLater_58 : decode cX11_drinkLater 58 = .ok (.invokevirtual 314, 3) := by decide +kernel
theorem d_X11_drinkLater_61 : decode cX11_drinkLater 61 = .ok (.aload_n 0, 1) := by decide +kernel
theorem d_X11_drinkLater_62 : decode cX11_drinkLater 62 = .ok (.getfield 59, 3) := by decide +kernel
theorem d_X11_drinkLater_65 : decode cX11_drinkLater 65 = .ok (.getfield 184, 3) := by decide +kernel
theorem d_X11_drinkLater_68 : decode cX11_drinkLater 68 = .ok (.irem, 1) := by decide +kernel
theorem d_X11_drinkLater_69 : decode cX11_drinkLater 69 = .ok (.invokevirtual 267, 3) := by decide +kernel
theorem d_X11_drinkLater_72 : decode cX11_drinkLater 72 = .ok (.iinc 1 1, 3) := by decide +kernel
theorem d_X11_drinkLater_75 : decode cX11_drinkLater 75 = .ok (.goto (-73), 3) := by decide +kernel
theorem d_X11_drinkLater_78 : decode cX11_drinkLater 78 = .ok (.return_, 1) := by decide +kernel
abbrev X_X11_drinkLater : gX := (RX11, cX11_drinkLater, 3, none, false)
def F_X11_drinkLater_b72 (k2 : Option Nat → Int32 → gM → Option gM) (l0 : Option Nat) (l1 : Int32) (M : gM) : Option gM :=
  k2 l0 (l1 + 1) M
theorem T_X11_drinkLater_b72 (k2 : Option Nat → Int32 → gM → Option gM) (r : gM) (hk2 : ∀ (l0 : Option Nat) (l1 : Int32) (M : gM), k2 l0 l1 M = some r → GW 2 0 0 X_X11_drinkLater 2 [(0, vr l0), (1, vi l1)] [] M (none, r)) (l0 : Option Nat) (l1 : Int32) (M : gM) (h : F_X11_drinkLater_b72 k2 l0 l1 M = some r) : GW 2 0 0 X_X11_drinkLater 72 [(0, vr l0), (1, vi l1)] [] M (none, r) := by
  delta F_X11_drinkLater_b72 at h
  refine GW_iinc (j := 1) (X := X_X11_drinkLater) (pc := 72) d_X11_drinkLater_72 rfl (congrArg (fun z => _ + z) (by decide : Int32.ofInt 1 = (1 : Int32))) (Nat.le_of_ble_eq_true rfl) (lv2 := [(1, vi (l1 + 1)), (0, vr l0)]) rfl ?_
  refine GW_goto (X := X_X11_drinkLater) (pc := 75) 2 d_X11_drinkLater_75 (by decide) ?_
  refine GW_sub [1, 0] rfl ?_
  exact hk2 l0 (l1 + 1) M h
def F_X11_drinkLater_b37 (k2 : Option Nat → Int32 → gM → Option gM) (l0 : Option Nat) (l1 : Int32) (s0 : Int32) (M : gM) : Option gM :=
  if s0 = 0 then (F_X11_drinkLater_b72 k2 l0 l1 M) else ((gR 11 M l0 11).bind fun v1 => (gI 1 M v1 6).bind fun v2 => if v2 ≤ 0 then (F_X11_drinkLater_b72 k2 l0 l1 M) else ((gR 11 M l0 6).bind fun v3 => (gO 11 M l0).bind fun i4 => (F_X11_draw (some i4) M).bind fun (v5, M6) => (gR 11 M6 (some i4) 11).bind fun v7 => (gI 1 M6 v7 6).bind fun v8 => if v8 = 0 then none else (gO 8 M6 v3).bind fun i10 => (F_X8_forget (some i10) l1 (v5 - v5 / v8 * v8) M6).bind fun M11 => F_X11_drinkLater_b72 k2 (some i4) l1 M11))
set_option maxHeartbeats 1000000 in
theorem T_X11_drinkLater_b37 (k2 : Option Nat → Int32 → gM → Option gM) (r : gM) (hk2 : ∀ (l0 : Option Nat) (l1 : Int32) (M : gM), k2 l0 l1 M = some r → GW 2 0 0 X_X11_drinkLater 2 [(0, vr l0), (1, vi l1)] [] M (none, r)) (l0 : Option Nat) (l1 : Int32) (s0 : Int32) (M : gM) (h : F_X11_drinkLater_b37 k2 l0 l1 s0 M = some r) : GW 2 0 0 X_X11_drinkLater 37 [(0, vr l0), (1, vi l1)] [vi s0] M (none, r) := by
  delta F_X11_drinkLater_b37 at h
  refine GW_istore_n (X := X_X11_drinkLater) (pc := 37) d_X11_drinkLater_37 rfl (Nat.le_of_ble_eq_true rfl) (lv2 := [(2, vi s0), (0, vr l0), (1, vi l1)]) rfl ?_
  refine GW_iload_n (X := X_X11_drinkLater) (pc := 38) d_X11_drinkLater_38 rfl 0 rfl ?_
  refine GW_if_eq (X := X_X11_drinkLater) (pc := 39) 72 d_X11_drinkLater_39 (by decide) (fun c => ?_) (fun c => ?_)
  · replace h := g_ip c h
    refine GW_sub [1, 2] rfl ?_
    exact T_X11_drinkLater_b72 k2 r hk2 l0 l1 M h
  · replace h := g_ie c h
    refine GW_aload_n (X := X_X11_drinkLater) (pc := 42) d_X11_drinkLater_42 rfl 1 rfl ?_
    replace h := g_bd h
    obtain ⟨v1, hv1, h⟩ := h
    refine GW_getR (X := X_X11_drinkLater) (pc := 43) f_X11_59 d_X11_drinkLater_43 hv1 (Or.inl ⟨_, ty_11_11⟩) ?_
    replace h := g_bd h
    obtain ⟨v2, hv2, h⟩ := h
    refine GW_getI (X := X_X11_drinkLater) (pc := 46) f_X11_184 d_X11_drinkLater_46 hv2 (Or.inl ty_1_6) ?_
    refine GW_if_le (X := X_X11_drinkLater) (pc := 49) 72 d_X11_drinkLater_49 (by decide) (fun c => ?_) (fun c => ?_)
    · replace h := g_ip c h
      refine GW_sub [1, 2] rfl ?_
      exact T_X11_drinkLater_b72 k2 r hk2 l0 l1 M h
    · replace h := g_ie c h
      refine GW_aload_n (X := X_X11_drinkLater) (pc := 52) d_X11_drinkLater_52 rfl 1 rfl ?_
      replace h := g_bd h
      obtain ⟨v3, hv3, h⟩ := h
      refine GW_getR (X := X_X11_drinkLater) (pc := 53) f_X11_29 d_X11_drinkLater_53 hv3 (Or.inl ⟨_, ty_11_6⟩) ?_
      refine GW_iload_n (X := X_X11_drinkLater) (pc := 56) d_X11_drinkLater_56 rfl 2 rfl ?_
      refine GW_aload_n (X := X_X11_drinkLater) (pc := 57) d_X11_drinkLater_57 rfl 1 rfl ?_
      replace h := g_bd h
      obtain ⟨i4, hi4, h⟩ := h
      obtain ⟨rfl, ki4⟩ := g_gO hi4
      replace h := g_bd h
      obtain ⟨⟨v5, M6⟩, hv5, h⟩ := h
      dsimp only at h
      refine GW_callV (X := X_X11_drinkLater) (pc := 58) (bc0 := 0) (bs0 := 0) (r := some (vi v5)) (M2 := M6) (c0 := 11) (T_X11_draw (some i4) M (v5, M6) hv5) (Nat.le_of_ble_eq_true rfl) (Nat.le_of_ble_eq_true rfl) rfl g_cok11 ki4 yc_X11_draw ⟨m_1080, m_1082, m_39, m_116, m_1083⟩ d_X11_drinkLater_58 rfl (st := [vi l1, vr v3]) rfl (Nat.le_of_ble_eq_true rfl) (Nat.le_of_ble_eq_true rfl) (Nat.le_of_ble_eq_true rfl) (st2 := [vi v5, vi l1, vr v3]) rfl ?_
      refine GW_aload_n (X := X_X11_drinkLater) (pc := 61) d_X11_drinkLater_61 rfl 1 rfl ?_
      replace h := g_bd h
      obtain ⟨v7, hv7, h⟩ := h
      refine GW_getR (X := X_X11_drinkLater) (pc := 62) f_X11_59 d_X11_drinkLater_62 hv7 (Or.inl ⟨_, ty_11_11⟩) ?_
      replace h := g_bd h
      obtain ⟨v8, hv8, h⟩ := h
      refine GW_getI (X := X_X11_drinkLater) (pc := 65) f_X11_184 d_X11_drinkLater_65 hv8 (Or.inl ty_1_6) ?_
      replace h := g_ife h
      obtain ⟨hz9, h⟩ := h
      refine GW_irem (X := X_X11_drinkLater) (pc := 68) d_X11_drinkLater_68 hz9 ?_
      replace h := g_bd h
      obtain ⟨i10, hi10, h⟩ := h
      obtain ⟨rfl, ki10⟩ := g_gO hi10
      replace h := g_bd h
      obtain ⟨M11, hM11, h⟩ := h
      refine GW_callV (X := X_X11_drinkLater) (pc := 69) (bc0 := 0) (bs0 := 0) (r := none) (M2 := M11) (c0 := 8) (T_X8_forget (some i10) l1 (v5 - v5 / v8 * v8) M6 M11 hM11) (Nat.le_of_ble_eq_true rfl) (Nat.le_of_ble_eq_true rfl) rfl g_cok8 ki10 yc_X8_forget ⟨m_1007, m_890, m_891, m_119, m_892⟩ d_X11_drinkLater_69 rfl (st := []) rfl (Nat.le_of_ble_eq_true rfl) (Nat.le_of_ble_eq_true rfl) (Nat.le_of_ble_eq_true rfl) (st2 := []) rfl ?_
      refine GW_sub [1, 2] rfl ?_
      exact T_X11_drinkLater_b72 k2 r hk2 (some i4) l1 M11 h
def F_X11_drinkLater_b2 (k2 : Option Nat → Int32 → gM → Option gM) (l0 : Option Nat) (l1 : Int32) (M : gM) : Option gM :=
  (gR 11 M l0 11).bind fun v1 => (gI 1 M v1 7).bind fun v2 => if v2 ≤ l1 then (some M) else ((gO 11 M l0).bind fun i3 => (F_X11_draw (some i3) M).bind fun (v4, M5) => (gR 11 M5 (some i3) 11).bind fun v6 => (gR 1 M5 v6 3).bind fun v7 => (aI 20 M5 v7 l1).bind fun v8 => if v8 ≤ (v4 - v4 / (100 : Int32) * (100 : Int32)) then (F_X11_drinkLater_b37 k2 (some i3) l1 (0 : Int32) M5) else (F_X11_drinkLater_b37 k2 (some i3) l1 (1 : Int32) M5))
set_option maxHeartbeats 1000000 in
theorem T_X11_drinkLater_b2 (k2 : Option Nat → Int32 → gM → Option gM) (r : gM) (hk2 : ∀ (l0 : Option Nat) (l1 : Int32) (M : gM), k2 l0 l1 M = some r → GW 2 0 0 X_X11_drinkLater 2 [(0, vr l0), (1, vi l1)] [] M (none, r)) (l0 : Option Nat) (l1 : Int32) (M : gM) (h : F_X11_drinkLater_b2 k2 l0 l1 M = some r) : GW 2 0 0 X_X11_drinkLater 2 [(0, vr l0), (1, vi l1)] [] M (none, r) := by
  delta F_X11_drinkLater_b2 at h
  refine GW_iload_n (X := X_X11_drinkLater) (pc := 2) d_X11_drinkLater_2 rfl 1 rfl ?_
  refine GW_aload_n (X := X_X11_drinkLater) (pc := 3) d_X11_drinkLater_3 rfl 0 rfl ?_
  replace h := g_bd h
  obtain ⟨v1, hv1, h⟩ := h
  refine GW_getR (X := X_X11_drinkLater) (pc := 4) f_X11_59 d_X11_drinkLater_4 hv1 (Or.inl ⟨_, ty_11_11⟩) ?_
  replace h := g_bd h
  obtain ⟨v2, hv2, h⟩ := h
  refine GW_getI (X := X_X11_drinkLater) (pc := 7) f_X11_121 d_X11_drinkLater_7 hv2 (Or.inl ty_1_7) ?_
  refine GW_icmp_ge (X := X_X11_drinkLater) (pc := 10) 78 d_X11_drinkLater_10 (by decide) (fun c => ?_) (fun c => ?_)
  · replace h := g_ip c h
    replace h := Option.some.inj h
    subst h
    exact GW_ret (X := X_X11_drinkLater) (pc := 78) d_X11_drinkLater_78 rfl trivial
  · replace h := g_ie c h
    refine GW_aload_n (X := X_X11_drinkLater) (pc := 13) d_X11_drinkLater_13 rfl 0 rfl ?_
    replace h := g_bd h
    obtain ⟨i3, hi3, h⟩ := h
    obtain ⟨rfl, ki3⟩ := g_gO hi3
    replace h := g_bd h
    obtain ⟨⟨v4, M5⟩, hv4, h⟩ := h
    dsimp only at h
    refine GW_callV (X := X_X11_drinkLater) (pc := 14) (bc0 := 0) (bs0 := 0) (r := some (vi v4)) (M2 := M5) (c0 := 11) (T_X11_draw (some i3) M (v4, M5) hv4) (Nat.le_of_ble_eq_true rfl) (Nat.le_of_ble_eq_true rfl) rfl g_cok11 ki3 yc_X11_draw ⟨m_1080, m_1082, m_39, m_116, m_1083⟩ d_X11_drinkLater_14 rfl (st := []) rfl (Nat.le_of_ble_eq_true rfl) (Nat.le_of_ble_eq_true rfl) (Nat.le_of_ble_eq_true rfl) (st2 := [vi v4]) rfl ?_
    refine GW_bipush (X := X_X11_drinkLater) (pc := 17) (v := 100) d_X11_drinkLater_17 (by decide) ?_
    refine GW_irem (X := X_X11_drinkLater) (pc := 19) d_X11_drinkLater_19 (by decide) ?_
    refine GW_aload_n (X := X_X11_drinkLater) (pc := 20) d_X11_drinkLater_20 rfl 0 rfl ?_
    replace h := g_bd h
    obtain ⟨v6, hv6, h⟩ := h
    refine GW_getR (X := X_X11_drinkLater) (pc := 21) f_X11_59 d_X11_drinkLater_21 hv6 (Or.inl ⟨_, ty_11_11⟩) ?_
    replace h := g_bd h
    obtain ⟨v7, hv7, h⟩ := h
    refine GW_getR (X := X_X11_drinkLater) (pc := 24) f_X11_134 d_X11_drinkLater_24 hv7 (Or.inr ⟨_, ty_1_3⟩) ?_
    refine GW_iload_n (X := X_X11_drinkLater) (pc := 27) d_X11_drinkLater_27 rfl 1 rfl ?_
    replace h := g_bd h
    obtain ⟨v8, hv8, h⟩ := h
    refine GW_iald (X := X_X11_drinkLater) (pc := 28) d_X11_drinkLater_28 hv8 ?_
    refine GW_icmp_ge (X := X_X11_drinkLater) (pc := 29) 36 d_X11_drinkLater_29 (by decide) (fun c => ?_) (fun c => ?_)
    · replace h := g_ip c h
      refine GW_iconst (X := X_X11_drinkLater) (pc := 36) (v := 0) d_X11_drinkLater_36 (by decide) ?_
      exact T_X11_drinkLater_b37 k2 r hk2 (some i3) l1 (0 : Int32) M5 h
    · replace h := g_ie c h
      refine GW_iconst (X := X_X11_drinkLater) (pc := 32) (v := 1) d_X11_drinkLater_32 (by decide) ?_
      refine GW_goto (X := X_X11_drinkLater) (pc := 33) 37 d_X11_drinkLater_33 (by decide) ?_
      exact T_X11_drinkLater_b37 k2 r hk2 (some i3) l1 (1 : Int32) M5 h
def F_X11_drinkLater_L2 : Nat → Option Nat → Int32 → gM → Option gM
  | 0 => fun _ _ _ => none
  | n + 1 => F_X11_drinkLater_b2 (F_X11_drinkLater_L2 n)
theorem T_X11_drinkLater_L2 (r : gM) : ∀ (n : Nat) (l0 : Option Nat) (l1 : Int32) (M : gM), F_X11_drinkLater_L2 n l0 l1 M = some r → GW 2 0 0 X_X11_drinkLater 2 [(0, vr l0), (1, vi l1)] [] M (none, r) := by
  intro n
  induction n with
  | zero => intro l0 l1 M h; exact g_no h
  | succ n ih => intro l0 l1 M h; exact T_X11_drinkLater_b2 (F_X11_drinkLater_L2 n) r ih l0 l1 M h
def F_X11_drinkLater_b0 (l0 : Option Nat) (M : gM) : Option gM :=
  F_X11_drinkLater_L2 g_fuel l0 (0 : Int32) M
theorem T_X11_drinkLater_b0 (r : gM) (l0 : Option Nat) (M : gM) (h : F_X11_drinkLater_b0 l0 M = some r) : GW 2 0 0 X_X11_drinkLater 0 [(0, vr l0)] [] M (none, r) := by
  delta F_X11_drinkLater_b0 at h
  refine GW_iconst (X := X_X11_drinkLater) (pc := 0) (v := 0) d_X11_drinkLater_0 (by decide) ?_
  refine GW_istore_n (X := X_X11_drinkLater) (pc := 1) d_X11_drinkLater_1 rfl (Nat.le_of_ble_eq_true rfl) (lv2 := [(1, vi (0 : Int32)), (0, vr l0)]) rfl ?_
  refine GW_sub [1, 0] rfl ?_
  exact T_X11_drinkLater_L2 r g_fuel l0 (0 : Int32) M h
def F_X11_drinkLater (l0 : Option Nat) (M : gM) : Option gM := F_X11_drinkLater_b0 l0 M
theorem T_X11_drinkLater (l0 : Option Nat) (M : gM) (r : gM) (h : F_X11_drinkLater l0 M = some r) : g_Met 2 0 0 yX11_drinkLater X_X11_drinkLater [vr l0] M (none, r) :=
  g_Met_of pn_RX11 rfl (Nat.le_of_ble_eq_true rfl) (fun h => by cases h) (GW_sub [0] rfl (T_X11_drinkLater_b0 r l0 M h))
/-! ForgetHeirs.drawn(III)I -/
theorem d_X11_drawn_0 : decode cX11_drawn 0 = .ok (.iload_n 1, 1) := by decide +kernel
theorem d_X11_drawn_1 : decode cX11_drawn 1 = .ok (.iconst 1, 1) := by decide +kernel
theorem d_X11_drawn_2 : decode cX11_drawn 2 = .ok (.if_icmp .lt 39, 3) := by decide +kernel
theorem d_X11_drawn_5 : decode cX11_drawn 5 = .ok (.iload_n 1, 1) := by decide +kernel
theorem d_X11_drawn_6 : decode cX11_drawn 6 = .ok (.bipush 10, 2) := by decide +kernel
theorem d_X11_drawn_8 : decode cX11_drawn 8 = .ok (.if_icmp .gt 33, 3) := by decide +kernel
theorem d_X11_drawn_11 : decode cX11_drawn 11 = .ok (.iload_n 2, 1) := by decide +kernel
theorem d_X11_drawn_12 : decode cX11_drawn 12 = .ok (.iconst 1, 1) := by decide +kernel
theorem d_X11_drawn_13 : decode cX11_drawn 13 = .ok (.if_icmp .lt 28, 3) := by decide +kernel
theorem d_X11_drawn_16 : decode cX11_drawn 16 = .ok (.iload_n 2, 1) := by decide +kernel
theorem d_X11_drawn_17 : decode cX11_drawn 17 = .ok (.bipush 60, 2) := by decide +kernel
theorem d_X11_drawn_19 : decode cX11_drawn 19 = .ok (.if_icmp .gt 22, 3) := by decide +kernel
theorem d_X11_drawn_22 : decode cX11_drawn 22 = .ok (.iload_n 3, 1) := by decide +kernel
theorem d_X11_drawn_23 : decode cX11_drawn 23 = .ok (.ifCond .lt 18, 3) := by decide +kernel
theorem d_X11_drawn_26 : decode cX11_drawn 26 = .ok (.iload_n 3, 1) := by decide +kernel
theorem d_X11_drawn_27 : decode cX11_drawn 27 = .ok (.iconst 1, 1) := by decide +kernel
theorem d_X11_drawn_28 : decode cX11_drawn 28 = .ok (.if_icmp .gt 13, 3) := by decide +kernel
theorem d_X11_drawn_31 : decode cX11_drawn 31 = .ok (.aload_n 0, 1) := by decide +kernel
theorem d_X11_drawn_32 : decode cX11_drawn 32 = .ok (.getfield 59, 3) := by decide +kernel
theorem d_X11_drawn_35 : decode cX11_drawn 35 = .ok (.getfield 204, 3) := by decide +kernel
theorem d_X11_drawn_38 : decode cX11_drawn 38 = .ok (.ifCond .ne 5, 3) := by decide +kernel
theorem d_X11_drawn_41 : decode cX11_drawn 41 = .ok (.iconst (-1), 1) := by decide +kernel
theorem d_X11_drawn_42 : decode cX11_drawn 42 = .ok (.ireturn, 1) := by decide +kernel
theorem d_X11_drawn_43 : decode cX11_drawn 43 = .ok (.aload_n 0, 1) := by decide +kernel
theorem d_X11_drawn_44 : decode cX11_drawn 44 = .ok (.getfield 70, 3) := by decide +kernel
theorem d_X11_drawn_47 : decode cX11_drawn 47 = .ok (.istore 4, 2) := by decide +kernel
theorem d_X11_drawn_49 : decode cX11_drawn 49 = .ok (.iconst 0, 1) := by decide +kernel
theorem d_X11_drawn_50 : decode cX11_drawn 50 = .ok (.istore 5, 2) := by decide +kernel
theorem d_X11_drawn_52 : decode cX11_drawn 52 = .ok (.iconst 0, 1) := by decide +kernel
theorem d_X11_drawn_53 : decode cX11_drawn 53 = .ok (.istore 6, 2) := by decide +kernel
theorem d_X11_drawn_55 : decode cX11_drawn 55 = .ok (.iload 6, 2) := by decide +kernel
theorem d_X11_drawn_57 : decode cX11_drawn 57 = .ok (.iload_n 1, 1) := by decide +kernel
theorem d_X11_drawn_58 : decode cX11_drawn 58 = .ok (.if_icmp .ge 96, 3) := by decide +kernel
theorem d_X11_drawn_61 : decode cX11_drawn 61 = .ok (.aload_n 0, 1) := by decide +kernel
theorem d_X11_drawn_62 : decode cX11_drawn 62 = .ok (.getfield 29, 3) := by decide +kernel
theorem d_X11_drawn_65 : decode cX11_drawn 65 = .ok (.aload_n 0, 1) := by decide +kernel
theorem d_X11_drawn_66 : decode cX11_drawn 66 = .ok (.getfield 25, 3) := by decide +kernel
theorem d_X11_drawn_69 : decode cX11_drawn 69 = .ok (.invokevirtual 114, 3) := by decide +kernel
theorem d_X11_drawn_72 : decode cX11_drawn 72 = .ok (.iconst 0, 1) := by decide +kernel
theorem d_X11_drawn_73 : decode cX11_drawn 73 = .ok (.istore 7, 2) := by decide +kernel
theorem d_X11_drawn_75 : decode cX11_drawn 75 = .ok (.iload 7, 2) := by decide +kernel
theorem d_X11_drawn_77 : decode cX11_drawn 77 = .ok (.iload_n 2, 1) := by decide +kernel
theorem d_X11_drawn_78 : decode cX11_drawn 78 = .ok (.if_icmp .ge 33, 3) := by decide +kernel
theorem d_X11_drawn_81 : decode cX11_drawn 81 = .ok (.aload_n 0, 1) := by decide +kernel
theorem d_X11_drawn_82 : decode cX11_drawn 82 = .ok (.invokevirtual 311, 3) := by decide +kernel
theorem d_X11_drawn_85 : decode cX11_drawn 85 = .ok (.aload_n 0, 1) := by decide +kernel
theorem d_X11_drawn_86 : decode cX11_drawn 86 = .ok (.getfield 18, 3) := by decide +kernel
theorem d_X11_drawn_89 : decode cX11_drawn 89 = .ok (.aload_n 0, 1) := by decide +kernel
theorem d_X11_drawn_90 : decode cX11_drawn 90 = .ok (.getfield 59, 3) := by decide +kernel
theorem d_X11_drawn_93 : decode cX11_drawn 93 = .ok (.aload_n 0, 1) := by decide +kernel
theorem d_X11_drawn_94 : decode cX11_drawn 94 = .ok (.getfield 29, 3) := by decide +kernel
theorem d_X11_drawn_97 : decode cX11_drawn 97 = .ok (.aload_n 0, 1) := by decide +kernel
theorem d_X11_drawn_98 : decode cX11_drawn 98 = .ok (.invokevirtual 211, 3) := by decide +kernel
theorem d_X11_drawn_101 : decode cX11_drawn 101 = .ok (.invokevirtual 214, 3) := by decide +kernel
theorem d_X11_drawn_104 : decode cX11_drawn 104 = .ok (.pop, 1) := by decide +kernel
theorem d_X11_drawn_105 : decode cX11_drawn 105 = .ok (.iinc 7 1, 3) := by decide +kernel
theorem d_X11_drawn_108 : decode cX11_drawn 108 = .ok (.goto (-33), 3) := by decide +kernel
theorem d_X11_drawn_111 : decode cX11_drawn 111 = .ok (.iload 5, 2) := by decide +kernel
theorem d_X11_drawn_113 : decode cX11_drawn 113 = .ok (.iload_n 3, 1) := by decide +kernel
theorem d_X11_drawn_114 : decode cX11_drawn 114 = .ok (.ifCond .ne 20, 3) := by decide +kernel
theorem d_X11_drawn_117 : decode cX11_drawn 117 = .ok (.aload_n 0, 1) := by decide +kernel
theorem d_X11_drawn_118 : decode cX11_drawn 118 = .ok (.getfield 29, 3) := by decide +kernel
theorem d_X11_drawn_121 : decode cX11_drawn 121 = .ok (.aload_n 0, 1) := by decide +kernel
theorem d_X11_drawn_122 : decode cX11_drawn 122 = .ok (.getfield 59, 3) := by decide +kernel
theorem d_X11_drawn_125 : decode cX11_drawn 125 = .ok (.invokevirtual 196, 3) := by decide +kernel
theorem d_X11_drawn_128 : decode cX11_drawn 128 = .ok (.invokestatic 281, 3) := by decide +kernel
theorem d_X11_drawn_131 : decode cX11_drawn 131 = .ok (.goto 14, 3) := by decide +kernel
theorem d_X11_drawn_134 : decode cX11_drawn 134 = .ok (.aload_n 0, 1) := by decide +kernel
theorem d_X11_drawn_135 : decode cX11_drawn 135 = .ok (.getfield 29, 3) := by decide +kernel
theorem d_X11_drawn_138 : decode cX11_drawn 138 = .ok (.aload_n 0, 1) := by decide +kernel
theorem d_X11_drawn_139 : decode cX11_drawn 139 = .ok (.getfield 59, 3) := by decide +kernel
theorem d_X11_drawn_142 : decode cX11_drawn 142 = .ok (.invokevirtual 200, 3) := by decide +kernel
theorem d_X11_drawn_145 : decode cX11_drawn 145 = .ok (.iadd, 1) := by decide +kernel
theorem d_X11_drawn_146 : decode cX11_drawn 146 = .ok (.istore 5, 2) := by decide +kernel
theorem d_X11_drawn_148 : decode cX11_drawn 148 = .ok (.iinc 6 1, 3) := by decide +kernel
theorem d_X11_drawn_151 : decode cX11_drawn 151 = .ok (.goto (-96), 3) := by decide +kernel
theorem d_X11_drawn_154 : decode cX11_drawn 154 = .ok (.aload_n 0, 1) := by decide +kernel
theorem d_X11_drawn_155 : decode cX11_drawn 155 = .ok (.iload 4, 2) := by decide +kernel
theorem d_X11_drawn_157 : decode cX11_drawn 157 = .ok (.putfield 70, 3) := by decide +kernel
theorem d_X11_drawn_160 : decode cX11_drawn 160 = .ok (.iload 5, 2) := by decide +kernel
theorem d_X11_drawn_162 : decode cX11_drawn 162 = .ok (.ireturn, 1) := by decide +kernel
abbrev X_X11_drawn : gX := (RX11, cX11_drawn, 8, (some .int), false)
def F_X11_drawn_b41 (M : gM) : Option (Int32 × gM) :=
  some ((-1 : Int32), M)
theorem T_X11_drawn_b41 (r : (Int32 × gM)) (M : gM) (h : F_X11_drawn_b41 M = some r) : GW 5 0 0 X_X11_drawn 41 [] [] M (some (vi r.1), r.2) := by
  delta F_X11_drawn_b41 at h
  refine GW_iconst (X := X_X11_drawn) (pc := 41) (v := -1) d_X11_drawn_41 (by decide) ?_
  replace h := Option.some.inj h
  subst h
  exact GW_ret (X := X_X11_drawn) (pc := 42) d_X11_drawn_42 rfl trivial
def F_X11_drawn_b145 (k55 : Option Nat → Int32 → Int32 → Int32 → Int32 → Int32 → Int32 → gM → Option (Int32 × gM)) (l0 : Option Nat) (l1 : Int32) (l2 : Int32) (l3 : Int32) (l4 : Int32) (l6 : Int32) (s0 : Int32) (s1 : Int32) (M : gM) : Option (Int32 × gM) :=
  k55 l0 l1 l2 l3 l4 (s0 + s1) (l6 + 1) M
theorem T_X11_drawn_b145 (k55 : Option Nat → Int32 → Int32 → Int32 → Int32 → Int32 → Int32 → gM → Option (Int32 × gM)) (r : (Int32 × gM)) (hk55 : ∀ (l0 : Option Nat) (l1 : Int32) (l2 : Int32) (l3 : Int32) (l4 : Int32) (l5 : Int32) (l6 : Int32) (M : gM), k55 l0 l1 l2 l3 l4 l5 l6 M = some r → GW 5 0 0 X_X11_drawn 55 [(0, vr l0), (1, vi l1), (2, vi l2), (3, vi l3), (4, vi l4), (5, vi l5), (6, vi l6)] [] M (some (vi r.1), r.2)) (l0 : Option Nat) (l1 : Int32) (l2 : Int32) (l3 : Int32) (l4 : Int32) (l6 : Int32) (s0 : Int32) (s1 : Int32) (M : gM) (h : F_X11_drawn_b145 k55 l0 l1 l2 l3 l4 l6 s0 s1 M = some r) : GW 5 0 0 X_X11_drawn 145 [(0, vr l0), (1, vi l1), (2, vi l2), (3, vi l3), (4, vi l4), (6, vi l6)] [vi s1, vi s0] M (some (vi r.1), r.2) := by
  delta F_X11_drawn_b145 at h
  refine GW_iadd (X := X_X11_drawn) (pc := 145) d_X11_drawn_145 ?_
  refine GW_istore (X := X_X11_drawn) (pc := 146) d_X11_drawn_146 (Nat.le_of_ble_eq_true rfl) (lv2 := [(5, vi (s0 + s1)), (0, vr l0), (1, vi l1), (2, vi l2), (3, vi l3), (4, vi l4), (6, vi l6)]) rfl ?_
  refine GW_iinc (j := 6) (X := X_X11_drawn) (pc := 148) d_X11_drawn_148 rfl (congrArg (fun z => _ + z) (by decide : Int32.ofInt 1 = (1 : Int32))) (Nat.le_of_ble_eq_true rfl) (lv2 := [(6, vi (l6 + 1)), (5, vi (s0 + s1)), (0, vr l0), (1, vi l1), (2, vi l2), (3, vi l3), (4, vi l4)]) rfl ?_
  refine GW_goto (X := X_X11_drawn) (pc := 151) 55 d_X11_drawn_151 (by decide) ?_
  refine GW_sub [2, 3, 4, 5, 6, 1, 0] rfl ?_
  exact hk55 l0 l1 l2 l3 l4 (s0 + s1) (l6 + 1) M h
def F_X11_drawn_b75 (k55 : Option Nat → Int32 → Int32 → Int32 → Int32 → Int32 → Int32 → gM → Option (Int32 × gM)) (k75 : Option Nat → Int32 → Int32 → Int32 → Int32 → Int32 → Int32 → Int32 → gM → Option (Int32 × gM)) (l0 : Option Nat) (l1 : Int32) (l2 : Int32) (l3 : Int32) (l4 : Int32) (l5 : Int32) (l6 : Int32) (l7 : Int32) (M : gM) : Option (Int32 × gM) :=
  if l2 ≤ l7 then (if l3 = 0 then ((gR 11 M l0 6).bind fun v5 => (gR 11 M l0 11).bind fun v6 => (gO 8 M v5).bind fun i7 => (F_X8_standing (some i7) v6 M).bind fun v8 => (F_J6_bitCount_0f7a4 v8 M).bind fun v9 => F_X11_drawn_b145 k55 l0 l1 l2 l3 l4 l6 l5 v9 M) else ((gR 11 M l0 6).bind fun v1 => (gR 11 M l0 11).bind fun v2 => (gO 8 M v1).bind fun i3 => (F_X8_heldTogether (some i3) v2 M).bind fun v4 => F_X11_drawn_b145 k55 l0 l1 l2 l3 l4 l6 l5 v4 M)) else ((gO 11 M l0).bind fun i10 => (F_X11_drinkLater (some i10) M).bind fun M11 => (gR 11 M11 (some i10) 4).bind fun v12 => (gR 11 M11 (some i10) 11).bind fun v13 => (gR 11 M11 (some i10) 6).bind fun v14 => (gC 11 M11 i10).bind fun _ => (F_X11_ruleInForce (some i10) M11).bind fun v16 => (gO 10 M11 v12).bind fun i17 => (F_X10_pass (some i17) v13 v14 v16 M11).bind fun (v18, M19) => k75 (some i10) l1 l2 l3 l4 l5 l6 (l7 + 1) M19)
set_option maxHeartbeats 1000000 in
theorem T_X11_drawn_b75 (k55 : Option Nat → Int32 → Int32 → Int32 → Int32 → Int32 → Int32 → gM → Option (Int32 × gM)) (k75 : Option Nat → Int32 → Int32 → Int32 → Int32 → Int32 → Int32 → Int32 → gM → Option (Int32 × gM)) (r : (Int32 × gM)) (hk55 : ∀ (l0 : Option Nat) (l1 : Int32) (l2 : Int32) (l3 : Int32) (l4 : Int32) (l5 : Int32) (l6 : Int32) (M : gM), k55 l0 l1 l2 l3 l4 l5 l6 M = some r → GW 5 0 0 X_X11_drawn 55 [(0, vr l0), (1, vi l1), (2, vi l2), (3, vi l3), (4, vi l4), (5, vi l5), (6, vi l6)] [] M (some (vi r.1), r.2)) (hk75 : ∀ (l0 : Option Nat) (l1 : Int32) (l2 : Int32) (l3 : Int32) (l4 : Int32) (l5 : Int32) (l6 : Int32) (l7 : Int32) (M : gM), k75 l0 l1 l2 l3 l4 l5 l6 l7 M = some r → GW 5 0 0 X_X11_drawn 75 [(0, vr l0), (1, vi l1), (2, vi l2), (3, vi l3), (4, vi l4), (5, vi l5), (6, vi l6), (7, vi l7)] [] M (some (vi r.1), r.2)) (l0 : Option Nat) (l1 : Int32) (l2 : Int32) (l3 : Int32) (l4 : Int32) (l5 : Int32) (l6 : Int32) (l7 : Int32) (M : gM) (h : F_X11_drawn_b75 k55 k75 l0 l1 l2 l3 l4 l5 l6 l7 M = some r) : GW 5 0 0 X_X11_drawn 75 [(0, vr l0), (1, vi l1), (2, vi l2), (3, vi l3), (4, vi l4), (5, vi l5), (6, vi l6), (7, vi l7)] [] M (some (vi r.1), r.2) := by
  delta F_X11_drawn_b75 at h
  refine GW_iload (X := X_X11_drawn) (pc := 75) d_X11_drawn_75 7 rfl ?_
  refine GW_iload_n (X := X_X11_drawn) (pc := 77) d_X11_drawn_77 rfl 2 rfl ?_
  refine GW_icmp_ge (X := X_X11_drawn) (pc := 78) 111 d_X11_drawn_78 (by decide) (fun c => ?_) (fun c => ?_)
  · replace h := g_ip c h
    refine GW_iload (X := X_X11_drawn) (pc := 111) d_X11_drawn_111 5 rfl ?_
    refine GW_iload_n (X := X_X11_drawn) (pc := 113) d_X11_drawn_113 rfl 3 rfl ?_
    refine GW_if_ne (X := X_X11_drawn) (pc := 114) 134 d_X11_drawn_114 (by decide) (fun c => ?_) (fun c => ?_)
    · replace h := g_ie c h
      refine GW_aload_n (X := X_X11_drawn) (pc := 134) d_X11_drawn_134 rfl 0 rfl ?_
      replace h := g_bd h
      obtain ⟨v1, hv1, h⟩ := h
      refine GW_getR (X := X_X11_drawn) (pc := 135) f_X11_29 d_X11_drawn_135 hv1 (Or.inl ⟨_, ty_11_6⟩) ?_
      refine GW_aload_n (X := X_X11_drawn) (pc := 138) d_X11_drawn_138 rfl 0 rfl ?_
      replace h := g_bd h
      obtain ⟨v2, hv2, h⟩ := h
      refine GW_getR (X := X_X11_drawn) (pc := 139) f_X11_59 d_X11_drawn_139 hv2 (Or.inl ⟨_, ty_11_11⟩) ?_
      replace h := g_bd h
      obtain ⟨i3, hi3, h⟩ := h
      obtain ⟨rfl, ki3⟩ := g_gO hi3
      replace h := g_bd h
      obtain ⟨v4, hv4, h⟩ := h
      refine GW_callV (X := X_X11_drawn) (pc := 142) (bc0 := 0) (bs0 := 0) (r := some (vi v4)) (M2 := M) (c0 := 8) (T_X8_heldTogether (some i3) v2 M v4 hv4) (Nat.le_of_ble_eq_true rfl) (Nat.le_of_ble_eq_true rfl) rfl g_cok8 ki3 yc_X8_heldTogether ⟨m_811, m_812, m_813, m_119, m_814⟩ d_X11_drawn_142 rfl (st := [vi l5]) rfl (Nat.le_of_ble_eq_true rfl) (Nat.le_of_ble_eq_true rfl) (Nat.le_of_ble_eq_true rfl) (st2 := [vi v4, vi l5]) rfl ?_
      refine GW_sub [0, 1, 2, 3, 4, 6] rfl ?_
      exact T_X11_drawn_b145 k55 r hk55 l0 l1 l2 l3 l4 l6 l5 v4 M h
    · replace h := g_ip c h
      refine GW_aload_n (X := X_X11_drawn) (pc := 117) d_X11_drawn_117 rfl 0 rfl ?_
      replace h := g_bd h
      obtain ⟨v5, hv5, h⟩ := h
      refine GW_getR (X := X_X11_drawn) (pc := 118) f_X11_29 d_X11_drawn_118 hv5 (Or.inl ⟨_, ty_11_6⟩) ?_
      refine GW_aload_n (X := X_X11_drawn) (pc := 121) d_X11_drawn_121 rfl 0 rfl ?_
      replace h := g_bd h
      obtain ⟨v6, hv6, h⟩ := h
      refine GW_getR (X := X_X11_drawn) (pc := 122) f_X11_59 d_X11_drawn_122 hv6 (Or.inl ⟨_, ty_11_11⟩) ?_
      replace h := g_bd h
      obtain ⟨i7, hi7, h⟩ := h
      obtain ⟨rfl, ki7⟩ := g_gO hi7
      replace h := g_bd h
      obtain ⟨v8, hv8, h⟩ := h
      refine GW_callV (X := X_X11_drawn) (pc := 125) (bc0 := 0) (bs0 := 0) (r := some (vi v8)) (M2 := M) (c0 := 8) (T_X8_standing (some i7) v6 M v8 hv8) (Nat.le_of_ble_eq_true rfl) (Nat.le_of_ble_eq_true rfl) rfl g_cok8 ki7 yc_X8_standing ⟨m_807, m_808, m_809, m_119, m_810⟩ d_X11_drawn_125 rfl (st := [vi l5]) rfl (Nat.le_of_ble_eq_true rfl) (Nat.le_of_ble_eq_true rfl) (Nat.le_of_ble_eq_true rfl) (st2 := [vi v8, vi l5]) rfl ?_
      replace h := g_bd h
      obtain ⟨v9, hv9, h⟩ := h
      refine GW_callS (X := X_X11_drawn) (pc := 128) (bc0 := 0) (bs0 := 0) (r := some (vi v9)) (M2 := M) (T_J6_bitCount_0f7a4 v8 M v9 hv9) (Nat.le_of_ble_eq_true rfl) (Nat.le_of_ble_eq_true rfl) yc_J6_bitCount_0f7a4 ⟨m_1036, m_816, m_136, m_817⟩ d_X11_drawn_128 rfl (st := [vi l5]) rfl (Nat.le_of_ble_eq_true rfl) (Nat.le_of_ble_eq_true rfl) (Nat.le_of_ble_eq_true rfl) (st2 := [vi v9, vi l5]) rfl ?_
      refine GW_goto (X := X_X11_drawn) (pc := 131) 145 d_X11_drawn_131 (by decide) ?_
      refine GW_sub [0, 1, 2, 3, 4, 6] rfl ?_
      exact T_X11_drawn_b145 k55 r hk55 l0 l1 l2 l3 l4 l6 l5 v9 M h
  · replace h := g_ie c h
    refine GW_aload_n (X := X_X11_drawn) (pc := 81) d_X11_drawn_81 rfl 0 rfl ?_
    replace h := g_bd h
    obtain ⟨i10, hi10, h⟩ := h
    obtain ⟨rfl, ki10⟩ := g_gO hi10
    replace h := g_bd h
    obtain ⟨M11, hM11, h⟩ := h
    refine GW_callV (X := X_X11_drawn) (pc := 82) (bc0 := 0) (bs0 := 0) (r := none) (M2 := M11) (c0 := 11) (T_X11_drinkLater (some i10) M M11 hM11) (Nat.le_of_ble_eq_true rfl) (Nat.le_of_ble_eq_true rfl) rfl g_cok11 ki10 yc_X11_drinkLater ⟨m_1076, m_1078, m_38, m_116, m_1079⟩ d_X11_drawn_82 rfl (st := []) rfl (Nat.le_of_ble_eq_true rfl) (Nat.le_of_ble_eq_true rfl) (Nat.le_of_ble_eq_true rfl) (st2 := []) rfl ?_
    refine GW_aload_n (X := X_X11_drawn) (pc := 85) d_X11_drawn_85 rfl 0 rfl ?_
    replace h := g_bd h
    obtain ⟨v12, hv12, h⟩ := h
    refine GW_getR (X := X_X11_drawn) (pc := 86) f_X11_18 d_X11_drawn_86 hv12 (Or.inl ⟨_, ty_11_4⟩) ?_
    refine GW_aload_n (X := X_X11_drawn) (pc := 89) d_X11_drawn_89 rfl 0 rfl ?_
    replace h := g_bd h
    obtain ⟨v13, hv13, h⟩ := h
    refine GW_getR (X := X_X11_drawn) (pc := 90) f_X11_59 d_X11_drawn_90 hv13 (Or.inl ⟨_, ty_11_11⟩) ?_
    refine GW_aload_n (X := X_X11_drawn) (pc := 93) d_X11_drawn_93 rfl 0 rfl ?_
    replace h := g_bd h
    obtain ⟨v14, hv14, h⟩ := h
    refine GW_getR (X := X_X11_drawn) (pc := 94) f_X11_29 d_X11_drawn_94 hv14 (Or.inl ⟨_, ty_11_6⟩) ?_
    refine GW_aload_n (X := X_X11_drawn) (pc := 97) d_X11_drawn_97 rfl 0 rfl ?_
    replace h := g_bd h
    obtain ⟨_, kk15, h⟩ := h
    replace kk15 := g_gC kk15
    replace h := g_bd h
    obtain ⟨v16, hv16, h⟩ := h
    refine GW_callV (X := X_X11_drawn) (pc := 98) (bc0 := 0) (bs0 := 0) (r := some (vr v16)) (M2 := M11) (c0 := 11) (T_X11_ruleInForce (some i10) M11 v16 hv16) (Nat.le_of_ble_eq_true rfl) (Nat.le_of_ble_eq_true rfl) rfl g_cok11 kk15 yc_X11_ruleInForce ⟨m_831, m_833, m_23, m_116, m_834⟩ d_X11_drawn_98 rfl (st := [vr v14, vr v13, vr v12]) rfl (Nat.le_of_ble_eq_true rfl) (Nat.le_of_ble_eq_true rfl) (Nat.le_of_ble_eq_true rfl) (st2 := [vr v16, vr v14, vr v13, vr v12]) rfl ?_
    replace h := g_bd h
    obtain ⟨i17, hi17, h⟩ := h
    obtain ⟨rfl, ki17⟩ := g_gO hi17
    replace h := g_bd h
    obtain ⟨⟨v18, M19⟩, hv18, h⟩ := h
    dsimp only at h
    refine GW_callV (X := X_X11_drawn) (pc := 101) (bc0 := 0) (bs0 := 0) (r := some (vi v18)) (M2 := M19) (c0 := 10) (T_X10_pass (some i17) v13 v14 v16 M11 (v18, M19) hv18) (Nat.le_of_ble_eq_true rfl) (Nat.le_of_ble_eq_true rfl) rfl g_cok10 ki17 yc_X10_pass ⟨m_835, m_836, m_837, m_117, m_838⟩ d_X11_drawn_101 rfl (st := []) rfl (Nat.le_of_ble_eq_true rfl) (Nat.le_of_ble_eq_true rfl) (Nat.le_of_ble_eq_true rfl) (st2 := [vi v18]) rfl ?_
    refine GW_pop (X := X_X11_drawn) (pc := 104) d_X11_drawn_104 rfl ?_
    refine GW_iinc (j := 7) (X := X_X11_drawn) (pc := 105) d_X11_drawn_105 rfl (congrArg (fun z => _ + z) (by decide : Int32.ofInt 1 = (1 : Int32))) (Nat.le_of_ble_eq_true rfl) (lv2 := [(7, vi (l7 + 1)), (0, vr (some i10)), (1, vi l1), (2, vi l2), (3, vi l3), (4, vi l4), (5, vi l5), (6, vi l6)]) rfl ?_
    refine GW_goto (X := X_X11_drawn) (pc := 108) 75 d_X11_drawn_108 (by decide) ?_
    refine GW_sub [1, 2, 3, 4, 5, 6, 7, 0] rfl ?_
    exact hk75 (some i10) l1 l2 l3 l4 l5 l6 (l7 + 1) M19 h
def F_X11_drawn_L75 (k55 : Option Nat → Int32 → Int32 → Int32 → Int32 → Int32 → Int32 → gM → Option (Int32 × gM)) : Nat → Option Nat → Int32 → Int32 → Int32 → Int32 → Int32 → Int32 → Int32 → gM → Option (Int32 × gM)
  | 0 => fun _ _ _ _ _ _ _ _ _ => none
  | n + 1 => F_X11_drawn_b75 k55 (F_X11_drawn_L75 k55 n)
theorem T_X11_drawn_L75 (k55 : Option Nat → Int32 → Int32 → Int32 → Int32 → Int32 → Int32 → gM → Option (Int32 × gM)) (r : (Int32 × gM)) (hk55 : ∀ (l0 : Option Nat) (l1 : Int32) (l2 : Int32) (l3 : Int32) (l4 : Int32) (l5 : Int32) (l6 : Int32) (M : gM), k55 l0 l1 l2 l3 l4 l5 l6 M = some r → GW 5 0 0 X_X11_drawn 55 [(0, vr l0), (1, vi l1), (2, vi l2), (3, vi l3), (4, vi l4), (5, vi l5), (6, vi l6)] [] M (some (vi r.1), r.2)) : ∀ (n : Nat) (l0 : Option Nat) (l1 : Int32) (l2 : Int32) (l3 : Int32) (l4 : Int32) (l5 : Int32) (l6 : Int32) (l7 : Int32) (M : gM), F_X11_drawn_L75 k55 n l0 l1 l2 l3 l4 l5 l6 l7 M = some r → GW 5 0 0 X_X11_drawn 75 [(0, vr l0), (1, vi l1), (2, vi l2), (3, vi l3), (4, vi l4), (5, vi l5), (6, vi l6), (7, vi l7)] [] M (some (vi r.1), r.2) := by
  intro n
  induction n with
  | zero => intro l0 l1 l2 l3 l4 l5 l6 l7 M h; exact g_no h
  | succ n ih => intro l0 l1 l2 l3 l4 l5 l6 l7 M h; exact T_X11_drawn_b75 k55 (F_X11_drawn_L75 k55 n) r hk55 ih l0 l1 l2 l3 l4 l5 l6 l7 M h
def F_X11_drawn_b55 (k55 : Option Nat → Int32 → Int32 → Int32 → Int32 → Int32 → Int32 → gM → Option (Int32 × gM)) (l0 : Option Nat) (l1 : Int32) (l2 : Int32) (l3 : Int32) (l4 : Int32) (l5 : Int32) (l6 : Int32) (M : gM) : Option (Int32 × gM) :=
  if l1 ≤ l6 then ((pI 11 M l0 14 l4).bind fun M1 => some (l5, M1)) else ((gR 11 M l0 6).bind fun v2 => (gR 11 M l0 5).bind fun v3 => (gO 8 M v2).bind fun i4 => (F_X8_copy (some i4) v3 M).bind fun M5 => F_X11_drawn_L75 k55 g_fuel l0 l1 l2 l3 l4 l5 l6 (0 : Int32) M5)
theorem T_X11_drawn_b55 (k55 : Option Nat → Int32 → Int32 → Int32 → Int32 → Int32 → Int32 → gM → Option (Int32 × gM)) (r : (Int32 × gM)) (hk55 : ∀ (l0 : Option Nat) (l1 : Int32) (l2 : Int32) (l3 : Int32) (l4 : Int32) (l5 : Int32) (l6 : Int32) (M : gM), k55 l0 l1 l2 l3 l4 l5 l6 M = some r → GW 5 0 0 X_X11_drawn 55 [(0, vr l0), (1, vi l1), (2, vi l2), (3, vi l3), (4, vi l4), (5, vi l5), (6, vi l6)] [] M (some (vi r.1), r.2)) (l0 : Option Nat) (l1 : Int32) (l2 : Int32) (l3 : Int32) (l4 : Int32) (l5 : Int32) (l6 : Int32) (M : gM) (h : F_X11_drawn_b55 k55 l0 l1 l2 l3 l4 l5 l6 M = some r) : GW 5 0 0 X_X11_drawn 55 [(0, vr l0), (1, vi l1), (2, vi l2), (3, vi l3), (4, vi l4), (5, vi l5), (6, vi l6)] [] M (some (vi r.1), r.2) := by
  delta F_X11_drawn_b55 at h
  refine GW_iload (X := X_X11_drawn) (pc := 55) d_X11_drawn_55 6 rfl ?_
  refine GW_iload_n (X := X_X11_drawn) (pc := 57) d_X11_drawn_57 rfl 1 rfl ?_
  refine GW_icmp_ge (X := X_X11_drawn) (pc := 58) 154 d_X11_drawn_58 (by decide) (fun c => ?_) (fun c => ?_)
  · replace h := g_ip c h
    refine GW_aload_n (X := X_X11_drawn) (pc := 154) d_X11_drawn_154 rfl 0 rfl ?_
    refine GW_iload (X := X_X11_drawn) (pc := 155) d_X11_drawn_155 4 rfl ?_
    replace h := g_bd h
    obtain ⟨M1, hM1, h⟩ := h
    refine GW_putI (X := X_X11_drawn) (pc := 157) f_X11_70 d_X11_drawn_157 hM1 (Or.inl fi_11_14) (Or.inl ty_11_14) ?_
    refine GW_iload (X := X_X11_drawn) (pc := 160) d_X11_drawn_160 5 rfl ?_
    replace h := Option.some.inj h
    subst h
    exact GW_ret (X := X_X11_drawn) (pc := 162) d_X11_drawn_162 rfl trivial
  · replace h := g_ie c h
    refine GW_aload_n (X := X_X11_drawn) (pc := 61) d_X11_drawn_61 rfl 0 rfl ?_
    replace h := g_bd h
    obtain ⟨v2, hv2, h⟩ := h
    refine GW_getR (X := X_X11_drawn) (pc := 62) f_X11_29 d_X11_drawn_62 hv2 (Or.inl ⟨_, ty_11_6⟩) ?_
    refine GW_aload_n (X := X_X11_drawn) (pc := 65) d_X11_drawn_65 rfl 0 rfl ?_
    replace h := g_bd h
    obtain ⟨v3, hv3, h⟩ := h
    refine GW_getR (X := X_X11_drawn) (pc := 66) f_X11_25 d_X11_drawn_66 hv3 (Or.inl ⟨_, ty_11_5⟩) ?_
    replace h := g_bd h
    obtain ⟨i4, hi4, h⟩ := h
    obtain ⟨rfl, ki4⟩ := g_gO hi4
    replace h := g_bd h
    obtain ⟨M5, hM5, h⟩ := h
    refine GW_callV (X := X_X11_drawn) (pc := 69) (bc0 := 0) (bs0 := 0) (r := none) (M2 := M5) (c0 := 8) (T_X8_copy (some i4) v3 M M5 hM5) (Nat.le_of_ble_eq_true rfl) (Nat.le_of_ble_eq_true rfl) rfl g_cok8 ki4 yc_X8_copy ⟨m_664, m_665, m_666, m_119, m_667⟩ d_X11_drawn_69 rfl (st := []) rfl (Nat.le_of_ble_eq_true rfl) (Nat.le_of_ble_eq_true rfl) (Nat.le_of_ble_eq_true rfl) (st2 := []) rfl ?_
    refine GW_iconst (X := X_X11_drawn) (pc := 72) (v := 0) d_X11_drawn_72 (by decide) ?_
    refine GW_istore (X := X_X11_drawn) (pc := 73) d_X11_drawn_73 (Nat.le_of_ble_eq_true rfl) (lv2 := [(7, vi (0 : Int32)), (0, vr l0), (1, vi l1), (2, vi l2), (3, vi l3), (4, vi l4), (5, vi l5), (6, vi l6)]) rfl ?_
    refine GW_sub [1, 2, 3, 4, 5, 6, 7, 0] rfl ?_
    exact T_X11_drawn_L75 k55 r hk55 g_fuel l0 l1 l2 l3 l4 l5 l6 (0 : Int32) M5 h
def F_X11_drawn_L55 : Nat → Option Nat → Int32 → Int32 → Int32 → Int32 → Int32 → Int32 → gM → Option (Int32 × gM)
  | 0 => fun _ _ _ _ _ _ _ _ => none
  | n + 1 => F_X11_drawn_b55 (F_X11_drawn_L55 n)
theorem T_X11_drawn_L55 (r : (Int32 × gM)) : ∀ (n : Nat) (l0 : Option Nat) (l1 : Int32) (l2 : Int32) (l3 : Int32) (l4 : Int32) (l5 : Int32) (l6 : Int32) (M : gM), F_X11_drawn_L55 n l0 l1 l2 l3 l4 l5 l6 M = some r → GW 5 0 0 X_X11_drawn 55 [(0, vr l0), (1, vi l1), (2, vi l2), (3, vi l3), (4, vi l4), (5, vi l5), (6, vi l6)] [] M (some (vi r.1), r.2) := by
  intro n
  induction n with
  | zero => intro l0 l1 l2 l3 l4 l5 l6 M h; exact g_no h
  | succ n ih => intro l0 l1 l2 l3 l4 l5 l6 M h; exact T_X11_drawn_b55 (F_X11_drawn_L55 n) r ih l0 l1 l2 l3 l4 l5 l6 M h
def F_X11_drawn_b0 (l0 : Option Nat) (l1 : Int32) (l2 : Int32) (l3 : Int32) (M : gM) : Option (Int32 × gM) :=
  if l1 < (1 : Int32) then (F_X11_drawn_b41 M) else (if (10 : Int32) < l1 then (F_X11_drawn_b41 M) else (if l2 < (1 : Int32) then (F_X11_drawn_b41 M) else (if (60 : Int32) < l2 then (F_X11_drawn_b41 M) else (if l3 < 0 then (F_X11_drawn_b41 M) else (if (1 : Int32) < l3 then (F_X11_drawn_b41 M) else ((gR 11 M l0 11).bind fun v1 => (gI 1 M v1 5).bind fun v2 => if v2 = 0 then (F_X11_drawn_b41 M) else ((gI 11 M l0 14).bind fun v3 => F_X11_drawn_L55 g_fuel l0 l1 l2 l3 v3 (0 : Int32) (0 : Int32) M)))))))
set_option maxHeartbeats 1000000 in
theorem T_X11_drawn_b0 (r : (Int32 × gM)) (l0 : Option Nat) (l1 : Int32) (l2 : Int32) (l3 : Int32) (M : gM) (h : F_X11_drawn_b0 l0 l1 l2 l3 M = some r) : GW 5 0 0 X_X11_drawn 0 [(0, vr l0), (1, vi l1), (2, vi l2), (3, vi l3)] [] M (some (vi r.1), r.2) := by
  delta F_X11_drawn_b0 at h
  refine GW_iload_n (X := X_X11_drawn) (pc := 0) d_X11_drawn_0 rfl 1 rfl ?_
  refine GW_iconst (X := X_X11_drawn) (pc := 1) (v := 1) d_X11_drawn_1 (by decide) ?_
  refine GW_icmp_lt (X := X_X11_drawn) (pc := 2) 41 d_X11_drawn_2 (by decide) (fun c => ?_) (fun c => ?_)
  · replace h := g_ip c h
    refine GW_sub [] rfl ?_
    exact T_X11_drawn_b41 r M h
  · replace h := g_ie c h
    refine GW_iload_n (X := X_X11_drawn) (pc := 5) d_X11_drawn_5 rfl 1 rfl ?_
    refine GW_bipush (X := X_X11_drawn) (pc := 6) (v := 10) d_X11_drawn_6 (by decide) ?_
    refine GW_icmp_gt (X := X_X11_drawn) (pc := 8) 41 d_X11_drawn_8 (by decide) (fun c => ?_) (fun c => ?_)
    · replace h := g_ip c h
      refine GW_sub [] rfl ?_
      exact T_X11_drawn_b41 r M h
    · replace h := g_ie c h
      refine GW_iload_n (X := X_X11_drawn) (pc := 11) d_X11_drawn_11 rfl 2 rfl ?_
      refine GW_iconst (X := X_X11_drawn) (pc := 12) (v := 1) d_X11_drawn_12 (by decide) ?_
      refine GW_icmp_lt (X := X_X11_drawn) (pc := 13) 41 d_X11_drawn_13 (by decide) (fun c => ?_) (fun c => ?_)
      · replace h := g_ip c h
        refine GW_sub [] rfl ?_
        exact T_X11_drawn_b41 r M h
      · replace h := g_ie c h
        refine GW_iload_n (X := X_X11_drawn) (pc := 16) d_X11_drawn_16 rfl 2 rfl ?_
        refine GW_bipush (X := X_X11_drawn) (pc := 17) (v := 60) d_X11_drawn_17 (by decide) ?_
        refine GW_icmp_gt (X := X_X11_drawn) (pc := 19) 41 d_X11_drawn_19 (by decide) (fun c => ?_) (fun c => ?_)
        · replace h := g_ip c h
          refine GW_sub [] rfl ?_
          exact T_X11_drawn_b41 r M h
        · replace h := g_ie c h
          refine GW_iload_n (X := X_X11_drawn) (pc := 22) d_X11_drawn_22 rfl 3 rfl ?_
          refine GW_if_lt (X := X_X11_drawn) (pc := 23) 41 d_X11_drawn_23 (by decide) (fun c => ?_) (fun c => ?_)
          · replace h := g_ip c h
            refine GW_sub [] rfl ?_
            exact T_X11_drawn_b41 r M h
          · replace h := g_ie c h
            refine GW_iload_n (X := X_X11_drawn) (pc := 26) d_X11_drawn_26 rfl 3 rfl ?_
            refine GW_iconst (X := X_X11_drawn) (pc := 27) (v := 1) d_X11_drawn_27 (by decide) ?_
            refine GW_icmp_gt (X := X_X11_drawn) (pc := 28) 41 d_X11_drawn_28 (by decide) (fun c => ?_) (fun c => ?_)
            · replace h := g_ip c h
              refine GW_sub [] rfl ?_
              exact T_X11_drawn_b41 r M h
            · replace h := g_ie c h
              refine GW_aload_n (X := X_X11_drawn) (pc := 31) d_X11_drawn_31 rfl 0 rfl ?_
              replace h := g_bd h
              obtain ⟨v1, hv1, h⟩ := h
              refine GW_getR (X := X_X11_drawn) (pc := 32) f_X11_59 d_X11_drawn_32 hv1 (Or.inl ⟨_, ty_11_11⟩) ?_
              replace h := g_bd h
              obtain ⟨v2, hv2, h⟩ := h
              refine GW_getI (X := X_X11_drawn) (pc := 35) f_X11_204 d_X11_drawn_35 hv2 (Or.inr ty_1_5) ?_
              refine GW_if_ne (X := X_X11_drawn) (pc := 38) 43 d_X11_drawn_38 (by decide) (fun c => ?_) (fun c => ?_)
              · replace h := g_ie c h
                refine GW_aload_n (X := X_X11_drawn) (pc := 43) d_X11_drawn_43 rfl 0 rfl ?_
                replace h := g_bd h
                obtain ⟨v3, hv3, h⟩ := h
                refine GW_getI (X := X_X11_drawn) (pc := 44) f_X11_70 d_X11_drawn_44 hv3 (Or.inl ty_11_14) ?_
                refine GW_istore (X := X_X11_drawn) (pc := 47) d_X11_drawn_47 (Nat.le_of_ble_eq_true rfl) (lv2 := [(4, vi v3), (0, vr l0), (1, vi l1), (2, vi l2), (3, vi l3)]) rfl ?_
                refine GW_iconst (X := X_X11_drawn) (pc := 49) (v := 0) d_X11_drawn_49 (by decide) ?_
                refine GW_istore (X := X_X11_drawn) (pc := 50) d_X11_drawn_50 (Nat.le_of_ble_eq_true rfl) (lv2 := [(5, vi (0 : Int32)), (4, vi v3), (0, vr l0), (1, vi l1), (2, vi l2), (3, vi l3)]) rfl ?_
                refine GW_iconst (X := X_X11_drawn) (pc := 52) (v := 0) d_X11_drawn_52 (by decide) ?_
                refine GW_istore (X := X_X11_drawn) (pc := 53) d_X11_drawn_53 (Nat.le_of_ble_eq_true rfl) (lv2 := [(6, vi (0 : Int32)), (5, vi (0 : Int32)), (4, vi v3), (0, vr l0), (1, vi l1), (2, vi l2), (3, vi l3)]) rfl ?_
                refine GW_sub [3, 4, 5, 6, 2, 1, 0] rfl ?_
                exact T_X11_drawn_L55 r g_fuel l0 l1 l2 l3 v3 (0 : Int32) (0 : Int32) M h
              · replace h := g_ip c h
                refine GW_sub [] rfl ?_
                exact T_X11_drawn_b41 r M h
def F_X11_drawn (l0 : Option Nat) (l1 : Int32) (l2 : Int32) (l3 : Int32) (M : gM) : Option (Int32 × gM) := F_X11_drawn_b0 l0 l1 l2 l3 M
theorem T_X11_drawn (l0 : Option Nat) (l1 : Int32) (l2 : Int32) (l3 : Int32) (M : gM) (r : (Int32 × gM)) (h : F_X11_drawn l0 l1 l2 l3 M = some r) : g_Met 5 0 0 yX11_drawn X_X11_drawn [vr l0, vi l1, vi l2, vi l3] M (some (vi r.1), r.2) :=
  g_Met_of pn_RX11 rfl (Nat.le_of_ble_eq_true rfl) (fun h => by cases h) (GW_sub [0, 1, 2, 3] rfl (T_X11_drawn_b0 r l0 l1 l2 l3 M h))
