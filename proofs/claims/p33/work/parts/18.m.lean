/-! ForgetHeirs$RuleReader.comparingOf(I)I -/
theorem d_X7_comparingOf_0 : decode cX7_comparingOf 0 = .ok (.iload_n 0, 1) := by decide +kernel
theorem d_X7_comparingOf_1 : decode cX7_comparingOf 1 = .ok (.lookupswitch 66 #[(60, 51), (61, 57), (62, 63), (258, 54), (259, 60)], 51) := by decide +kernel
theorem d_X7_comparingOf_52 : decode cX7_comparingOf 52 = .ok (.bipush 7, 2) := by decide +kernel
theorem d_X7_comparingOf_54 : decode cX7_comparingOf 54 = .ok (.ireturn, 1) := by decide +kernel
theorem d_X7_comparingOf_55 : decode cX7_comparingOf 55 = .ok (.bipush 8, 2) := by decide +kernel
theorem d_X7_comparingOf_57 : decode cX7_comparingOf 57 = .ok (.ireturn, 1) := by decide +kernel
theorem d_X7_comparingOf_58 : decode cX7_comparingOf 58 = .ok (.bipush 9, 2) := by decide +kernel
theorem d_X7_comparingOf_60 : decode cX7_comparingOf 60 = .ok (.ireturn, 1) := by decide +kernel
theorem d_X7_comparingOf_61 : decode cX7_comparingOf 61 = .ok (.bipush 10, 2) := by decide +kernel
theorem d_X7_comparingOf_63 : decode cX7_comparingOf 63 = .ok (.ireturn, 1) := by decide +kernel
theorem d_X7_comparingOf_64 : decode cX7_comparingOf 64 = .ok (.bipush 11, 2) := by decide +kernel
theorem d_X7_comparingOf_66 : decode cX7_comparingOf 66 = .ok (.ireturn, 1) := by decide +kernel
theorem d_X7_comparingOf_67 : decode cX7_comparingOf 67 = .ok (.iconst (-1), 1) := by decide +kernel
theorem d_X7_comparingOf_68 : decode cX7_comparingOf 68 = .ok (.ireturn, 1) := by decide +kernel
abbrev X_X7_comparingOf : gX := (RX7, cX7_comparingOf, 1, (some .int), false)
def F_X7_comparingOf_b0 (M : gM) (l0 : Int32) : Option Int32 :=
  if l0 = (60 : Int32) then (some (7 : Int32)) else if l0 = (61 : Int32) then (some (9 : Int32)) else if l0 = (62 : Int32) then (some (11 : Int32)) else if l0 = (258 : Int32) then (some (8 : Int32)) else if l0 = (259 : Int32) then (some (10 : Int32)) else (some (-1 : Int32))
set_option maxHeartbeats 1000000 in
theorem T_X7_comparingOf_b0 (M : gM) (r : Int32) (l0 : Int32) (h : F_X7_comparingOf_b0 M l0 = some r) : GW 0 0 0 X_X7_comparingOf 0 [(0, vi l0)] [] M (some (vi r), M) := by
  delta F_X7_comparingOf_b0 at h
  refine GW_iload_n (X := X_X7_comparingOf) (pc := 0) d_X7_comparingOf_0 rfl 0 rfl ?_
  by_cases c0 : l0 = (60 : Int32)
  · replace h := g_ip c0 h
    refine GW_lookup (X := X_X7_comparingOf) (pc := 1) 52 d_X7_comparingOf_1 (by decide) (off := 51) (by rw [c0]; rfl) (by decide) ?_
    refine GW_bipush (X := X_X7_comparingOf) (pc := 52) (v := 7) d_X7_comparingOf_52 (by decide) ?_
    replace h := Option.some.inj h
    subst h
    exact GW_ret (X := X_X7_comparingOf) (pc := 54) d_X7_comparingOf_54 rfl trivial
  · replace h := g_ie c0 h
    by_cases c1 : l0 = (61 : Int32)
    · replace h := g_ip c1 h
      refine GW_lookup (X := X_X7_comparingOf) (pc := 1) 58 d_X7_comparingOf_1 (by decide) (off := 57) (by rw [c1]; rfl) (by decide) ?_
      refine GW_bipush (X := X_X7_comparingOf) (pc := 58) (v := 9) d_X7_comparingOf_58 (by decide) ?_
      replace h := Option.some.inj h
      subst h
      exact GW_ret (X := X_X7_comparingOf) (pc := 60) d_X7_comparingOf_60 rfl trivial
    · replace h := g_ie c1 h
      by_cases c2 : l0 = (62 : Int32)
      · replace h := g_ip c2 h
        refine GW_lookup (X := X_X7_comparingOf) (pc := 1) 64 d_X7_comparingOf_1 (by decide) (off := 63) (by rw [c2]; rfl) (by decide) ?_
        refine GW_bipush (X := X_X7_comparingOf) (pc := 64) (v := 11) d_X7_comparingOf_64 (by decide) ?_
        replace h := Option.some.inj h
        subst h
        exact GW_ret (X := X_X7_comparingOf) (pc := 66) d_X7_comparingOf_66 rfl trivial
      · replace h := g_ie c2 h
        by_cases c3 : l0 = (258 : Int32)
        · replace h := g_ip c3 h
          refine GW_lookup (X := X_X7_comparingOf) (pc := 1) 55 d_X7_comparingOf_1 (by decide) (off := 54) (by rw [c3]; rfl) (by decide) ?_
          refine GW_bipush (X := X_X7_comparingOf) (pc := 55) (v := 8) d_X7_comparingOf_55 (by decide) ?_
          replace h := Option.some.inj h
          subst h
          exact GW_ret (X := X_X7_comparingOf) (pc := 57) d_X7_comparingOf_57 rfl trivial
        · replace h := g_ie c3 h
          by_cases c4 : l0 = (259 : Int32)
          · replace h := g_ip c4 h
            refine GW_lookup (X := X_X7_comparingOf) (pc := 1) 61 d_X7_comparingOf_1 (by decide) (off := 60) (by rw [c4]; rfl) (by decide) ?_
            refine GW_bipush (X := X_X7_comparingOf) (pc := 61) (v := 10) d_X7_comparingOf_61 (by decide) ?_
            replace h := Option.some.inj h
            subst h
            exact GW_ret (X := X_X7_comparingOf) (pc := 63) d_X7_comparingOf_63 rfl trivial
          · replace h := g_ie c4 h
            refine GW_lookup (X := X_X7_comparingOf) (pc := 1) 67 d_X7_comparingOf_1 (by decide) (off := 66) ((lv_osw c0 (by decide)).trans ((lv_osw c1 (by decide)).trans ((lv_osw c2 (by decide)).trans ((lv_osw c3 (by decide)).trans ((lv_osw c4 (by decide)).trans rfl))))) (by decide) ?_
            refine GW_iconst (X := X_X7_comparingOf) (pc := 67) (v := -1) d_X7_comparingOf_67 (by decide) ?_
            replace h := Option.some.inj h
            subst h
            exact GW_ret (X := X_X7_comparingOf) (pc := 68) d_X7_comparingOf_68 rfl trivial
def F_X7_comparingOf (l0 : Int32) (M : gM) : Option Int32 := F_X7_comparingOf_b0 M l0
theorem T_X7_comparingOf (l0 : Int32) (M : gM) (r : Int32) (h : F_X7_comparingOf l0 M = some r) : g_Met 0 0 0 yX7_comparingOf X_X7_comparingOf [vi l0] M (some (vi r), M) :=
  g_Met_of pn_RX7 rfl (Nat.le_of_ble_eq_true rfl) (fun h => by cases h) (GW_sub [0] rfl (T_X7_comparingOf_b0 M r l0 h))
/-! ForgetHeirs$RuleReader.readComparing()I -/
theorem d_X7_readComparing_0 : decode cX7_readComparing 0 = .ok (.aload_n 0, 1) := by decide +kernel
theorem d_X7_readComparing_1 : decode cX7_readComparing 1 = .ok (.getfield 30, 3) := by decide +kernel
theorem d_X7_readComparing_4 : decode cX7_readComparing 4 = .ok (.invokevirtual 59, 3) := by decide +kernel
theorem d_X7_readComparing_7 : decode cX7_readComparing 7 = .ok (.invokestatic 98, 3) := by decide +kernel
theorem d_X7_readComparing_10 : decode cX7_readComparing 10 = .ok (.istore_n 1, 1) := by decide +kernel
theorem d_X7_readComparing_11 : decode cX7_readComparing 11 = .ok (.iload_n 1, 1) := by decide +kernel
theorem d_X7_readComparing_12 : decode cX7_readComparing 12 = .ok (.iconst (-1), 1) := by decide +kernel
theorem d_X7_readComparing_13 : decode cX7_readComparing 13 = .ok (.if_icmp .ne 18, 3) := by decide +kernel
theorem d_X7_readComparing_16 : decode cX7_readComparing 16 = .ok (.aload_n 0, 1) := by decide +kernel
theorem d_X7_readComparing_17 : decode cX7_readComparing 17 = .ok (.getfield 30, 3) := by decide +kernel
theorem d_X7_readComparing_20 : decode cX7_readComparing 20 = .ok (.aload_n 0, 1) := by decide +kernel
theorem d_X7_readComparing_21 : decode cX7_readComparing 21 = .ok (.getfield 30, 3) := by decide +kernel
theorem d_X7_readComparing_24 : decode cX7_readComparing 24 = .ok (.invokevirtual 63, 3) := by decide +kernel
theorem d_X7_readComparing_27 : decode cX7_readComparing 27 = .ok (.iconst 0, 1) := by decide +kernel
theorem d_X7_readComparing_28 : decode cX7_readComparing 28 = .ok (.invokevirtual 66, 3) := by decide +kernel
theorem d_X7_readComparing_31 : decode cX7_readComparing 31 = .ok (.aload_n 0, 1) := by decide +kernel
theorem d_X7_readComparing_32 : decode cX7_readComparing 32 = .ok (.aload_n 0, 1) := by decide +kernel
theorem d_X7_readComparing_33 : decode cX7_readComparing 33 = .ok (.getfield 30, 3) := by decide +kernel
theorem d_X7_readComparing_36 : decode cX7_readComparing 36 = .ok (.invokevirtual 63, 3) := by decide +kernel
theorem d_X7_readComparing_39 : decode cX7_readComparing 39 = .ok (.invokevirtual 102, 3) := by decide +kernel
theorem d_X7_readComparing_42 : decode cX7_readComparing 42 = .ok (.aload_n 0, 1) := by decide +kernel
theorem d_X7_readComparing_43 : decode cX7_readComparing 43 = .ok (.getfield 30, 3) := by decide +kernel
theorem d_X7_readComparing_46 : decode cX7_readComparing 46 = .ok (.invokevirtual 70, 3) := by decide +kernel
theorem d_X7_readComparing_49 : decode cX7_readComparing 49 = .ok (.iload_n 1, 1) := by decide +kernel
theorem d_X7_readComparing_50 : decode cX7_readComparing 50 = .ok (.ireturn, 1) := by decide +kernel
abbrev X_X7_readComparing : gX := (RX7, cX7_readComparing, 2, (some .int), false)
def F_X7_readComparing_b31 (l0 : Option Nat) (l1 : Int32) (M : gM) : Option (Int32 × gM) :=
  (gR 7 M l0 0).bind fun v1 => (gO 9 M v1).bind fun i2 => (F_X9_place (some i2) M).bind fun v3 => (gO 7 M l0).bind fun i4 => (F_X7_countValue (some i4) v3 M).bind fun M5 => (gR 7 M5 (some i4) 0).bind fun v6 => (gO 9 M5 v6).bind fun i7 => (F_X9_next (some i7) M5).bind fun M8 => some (l1, M8)
theorem T_X7_readComparing_b31 (r : (Int32 × gM)) (l0 : Option Nat) (l1 : Int32) (M : gM) (h : F_X7_readComparing_b31 l0 l1 M = some r) : GW 2 0 0 X_X7_readComparing 31 [(0, vr l0), (1, vi l1)] [] M (some (vi r.1), r.2) := by
  delta F_X7_readComparing_b31 at h
  refine GW_aload_n (X := X_X7_readComparing) (pc := 31) d_X7_readComparing_31 rfl 0 rfl ?_
  refine GW_aload_n (X := X_X7_readComparing) (pc := 32) d_X7_readComparing_32 rfl 0 rfl ?_
  replace h := g_bd h
  obtain ⟨v1, hv1, h⟩ := h
  refine GW_getR (X := X_X7_readComparing) (pc := 33) f_X7_30 d_X7_readComparing_33 hv1 (Or.inl ⟨_, ty_7_0⟩) ?_
  replace h := g_bd h
  obtain ⟨i2, hi2, h⟩ := h
  obtain ⟨rfl, ki2⟩ := g_gO hi2
  replace h := g_bd h
  obtain ⟨v3, hv3, h⟩ := h
  refine GW_callV (X := X_X7_readComparing) (pc := 36) (bc0 := 0) (bs0 := 0) (r := some (vi v3)) (M2 := M) (c0 := 9) (T_X9_place (some i2) M v3 hv3) (Nat.le_of_ble_eq_true rfl) (Nat.le_of_ble_eq_true rfl) rfl g_cok9 ki2 yc_X9_place ⟨m_689, m_598, m_599, m_123, m_600⟩ d_X7_readComparing_36 rfl (st := [vr l0]) rfl (Nat.le_of_ble_eq_true rfl) (Nat.le_of_ble_eq_true rfl) (Nat.le_of_ble_eq_true rfl) (st2 := [vi v3, vr l0]) rfl ?_
  replace h := g_bd h
  obtain ⟨i4, hi4, h⟩ := h
  obtain ⟨rfl, ki4⟩ := g_gO hi4
  replace h := g_bd h
  obtain ⟨M5, hM5, h⟩ := h
  refine GW_callV (X := X_X7_readComparing) (pc := 39) (bc0 := 0) (bs0 := 0) (r := none) (M2 := M5) (c0 := 7) (T_X7_countValue (some i4) v3 M M5 hM5) (Nat.le_of_ble_eq_true rfl) (Nat.le_of_ble_eq_true rfl) rfl g_cok7 ki4 yc_X7_countValue ⟨m_711, m_713, m_17, m_125, m_714⟩ d_X7_readComparing_39 rfl (st := []) rfl (Nat.le_of_ble_eq_true rfl) (Nat.le_of_ble_eq_true rfl) (Nat.le_of_ble_eq_true rfl) (st2 := []) rfl ?_
  refine GW_aload_n (X := X_X7_readComparing) (pc := 42) d_X7_readComparing_42 rfl 0 rfl ?_
  replace h := g_bd h
  obtain ⟨v6, hv6, h⟩ := h
  refine GW_getR (X := X_X7_readComparing) (pc := 43) f_X7_30 d_X7_readComparing_43 hv6 (Or.inl ⟨_, ty_7_0⟩) ?_
  replace h := g_bd h
  obtain ⟨i7, hi7, h⟩ := h
  obtain ⟨rfl, ki7⟩ := g_gO hi7
  replace h := g_bd h
  obtain ⟨M8, hM8, h⟩ := h
  refine GW_callV (X := X_X7_readComparing) (pc := 46) (bc0 := 0) (bs0 := 0) (r := none) (M2 := M8) (c0 := 9) (T_X9_next (some i7) M5 M8 hM8) (Nat.le_of_ble_eq_true rfl) (Nat.le_of_ble_eq_true rfl) rfl g_cok9 ki7 yc_X9_next ⟨m_691, m_610, m_611, m_123, m_612⟩ d_X7_readComparing_46 rfl (st := []) rfl (Nat.le_of_ble_eq_true rfl) (Nat.le_of_ble_eq_true rfl) (Nat.le_of_ble_eq_true rfl) (st2 := []) rfl ?_
  refine GW_iload_n (X := X_X7_readComparing) (pc := 49) d_X7_readComparing_49 rfl 1 rfl ?_
  replace h := Option.some.inj h
  subst h
  exact GW_ret (X := X_X7_readComparing) (pc := 50) d_X7_readComparing_50 rfl trivial
def F_X7_readComparing_b0 (l0 : Option Nat) (M : gM) : Option (Int32 × gM) :=
  (gR 7 M l0 0).bind fun v1 => (gO 9 M v1).bind fun i2 => (F_X9_kind (some i2) M).bind fun v3 => (F_X7_comparingOf v3 M).bind fun v4 => if v4 = (-1 : Int32) then ((gR 7 M l0 0).bind fun v5 => (gR 7 M l0 0).bind fun v6 => (gO 9 M v6).bind fun i7 => (F_X9_place (some i7) M).bind fun v8 => (gO 9 M v5).bind fun i9 => (F_X9_blame (some i9) v8 (0 : Int32) M).bind fun M10 => F_X7_readComparing_b31 l0 v4 M10) else (F_X7_readComparing_b31 l0 v4 M)
set_option maxHeartbeats 1000000 in
theorem T_X7_readComparing_b0 (r : (Int32 × gM)) (l0 : Option Nat) (M : gM) (h : F_X7_readComparing_b0 l0 M = some r) : GW 2 0 0 X_X7_readComparing 0 [(0, vr l0)] [] M (some (vi r.1), r.2) := by
  delta F_X7_readComparing_b0 at h
  refine GW_aload_n (X := X_X7_readComparing) (pc := 0) d_X7_readComparing_0 rfl 0 rfl ?_
  replace h := g_bd h
  obtain ⟨v1, hv1, h⟩ := h
  refine GW_getR (X := X_X7_readComparing) (pc := 1) f_X7_30 d_X7_readComparing_1 hv1 (Or.inl ⟨_, ty_7_0⟩) ?_
  replace h := g_bd h
  obtain ⟨i2, hi2, h⟩ := h
  obtain ⟨rfl, ki2⟩ := g_gO hi2
  replace h := g_bd h
  obtain ⟨v3, hv3, h⟩ := h
  refine GW_callV (X := X_X7_readComparing) (pc := 4) (bc0 := 0) (bs0 := 0) (r := some (vi v3)) (M2 := M) (c0 := 9) (T_X9_kind (some i2) M v3 hv3) (Nat.le_of_ble_eq_true rfl) (Nat.le_of_ble_eq_true rfl) rfl g_cok9 ki2 yc_X9_kind ⟨m_688, m_591, m_592, m_123, m_593⟩ d_X7_readComparing_4 rfl (st := []) rfl (Nat.le_of_ble_eq_true rfl) (Nat.le_of_ble_eq_true rfl) (Nat.le_of_ble_eq_true rfl) (st2 := [vi v3]) rfl ?_
  replace h := g_bd h
  obtain ⟨v4, hv4, h⟩ := h
  refine GW_callS (X := X_X7_readComparing) (pc := 7) (bc0 := 0) (bs0 := 0) (r := some (vi v4)) (M2 := M) (T_X7_comparingOf v3 M v4 hv4) (Nat.le_of_ble_eq_true rfl) (Nat.le_of_ble_eq_true rfl) yc_X7_comparingOf ⟨m_724, m_725, m_125, m_726⟩ d_X7_readComparing_7 rfl (st := []) rfl (Nat.le_of_ble_eq_true rfl) (Nat.le_of_ble_eq_true rfl) (Nat.le_of_ble_eq_true rfl) (st2 := [vi v4]) rfl ?_
  refine GW_istore_n (X := X_X7_readComparing) (pc := 10) d_X7_readComparing_10 rfl (Nat.le_of_ble_eq_true rfl) (lv2 := [(1, vi v4), (0, vr l0)]) rfl ?_
  refine GW_iload_n (X := X_X7_readComparing) (pc := 11) d_X7_readComparing_11 rfl 0 rfl ?_
  refine GW_iconst (X := X_X7_readComparing) (pc := 12) (v := -1) d_X7_readComparing_12 (by decide) ?_
  refine GW_icmp_ne (X := X_X7_readComparing) (pc := 13) 31 d_X7_readComparing_13 (by decide) (fun c => ?_) (fun c => ?_)
  · replace h := g_ie c h
    refine GW_sub [1, 0] rfl ?_
    exact T_X7_readComparing_b31 r l0 v4 M h
  · replace h := g_ip c h
    refine GW_aload_n (X := X_X7_readComparing) (pc := 16) d_X7_readComparing_16 rfl 1 rfl ?_
    replace h := g_bd h
    obtain ⟨v5, hv5, h⟩ := h
    refine GW_getR (X := X_X7_readComparing) (pc := 17) f_X7_30 d_X7_readComparing_17 hv5 (Or.inl ⟨_, ty_7_0⟩) ?_
    refine GW_aload_n (X := X_X7_readComparing) (pc := 20) d_X7_readComparing_20 rfl 1 rfl ?_
    replace h := g_bd h
    obtain ⟨v6, hv6, h⟩ := h
    refine GW_getR (X := X_X7_readComparing) (pc := 21) f_X7_30 d_X7_readComparing_21 hv6 (Or.inl ⟨_, ty_7_0⟩) ?_
    replace h := g_bd h
    obtain ⟨i7, hi7, h⟩ := h
    obtain ⟨rfl, ki7⟩ := g_gO hi7
    replace h := g_bd h
    obtain ⟨v8, hv8, h⟩ := h
    refine GW_callV (X := X_X7_readComparing) (pc := 24) (bc0 := 0) (bs0 := 0) (r := some (vi v8)) (M2 := M) (c0 := 9) (T_X9_place (some i7) M v8 hv8) (Nat.le_of_ble_eq_true rfl) (Nat.le_of_ble_eq_true rfl) rfl g_cok9 ki7 yc_X9_place ⟨m_689, m_598, m_599, m_123, m_600⟩ d_X7_readComparing_24 rfl (st := [vr v5]) rfl (Nat.le_of_ble_eq_true rfl) (Nat.le_of_ble_eq_true rfl) (Nat.le_of_ble_eq_true rfl) (st2 := [vi v8, vr v5]) rfl ?_
    refine GW_iconst (X := X_X7_readComparing) (pc := 27) (v := 0) d_X7_readComparing_27 (by decide) ?_
    replace h := g_bd h
    obtain ⟨i9, hi9, h⟩ := h
    obtain ⟨rfl, ki9⟩ := g_gO hi9
    replace h := g_bd h
    obtain ⟨M10, hM10, h⟩ := h
    refine GW_callV (X := X_X7_readComparing) (pc := 28) (bc0 := 0) (bs0 := 0) (r := none) (M2 := M10) (c0 := 9) (T_X9_blame (some i9) v8 (0 : Int32) M M10 hM10) (Nat.le_of_ble_eq_true rfl) (Nat.le_of_ble_eq_true rfl) rfl g_cok9 ki9 yc_X9_blame ⟨m_690, m_602, m_603, m_123, m_604⟩ d_X7_readComparing_28 rfl (st := []) rfl (Nat.le_of_ble_eq_true rfl) (Nat.le_of_ble_eq_true rfl) (Nat.le_of_ble_eq_true rfl) (st2 := []) rfl ?_
    refine GW_sub [1, 0] rfl ?_
    exact T_X7_readComparing_b31 r l0 v4 M10 h
def F_X7_readComparing (l0 : Option Nat) (M : gM) : Option (Int32 × gM) := F_X7_readComparing_b0 l0 M
theorem T_X7_readComparing (l0 : Option Nat) (M : gM) (r : (Int32 × gM)) (h : F_X7_readComparing l0 M = some r) : g_Met 2 0 0 yX7_readComparing X_X7_readComparing [vr l0] M (some (vi r.1), r.2) :=
  g_Met_of pn_RX7 rfl (Nat.le_of_ble_eq_true rfl) (fun h => by cases h) (GW_sub [0] rfl (T_X7_readComparing_b0 r l0 M h))
/-! ForgetHeirs$RuleReader.joinerOf(II)I -/
theorem d_X7_joinerOf_0 : decode cX7_joinerOf 0 = .ok (.iload_n 1, 1) := by decide +kernel
theorem d_X7_joinerOf_1 : decode cX7_joinerOf 1 = .ok (.lookupswitch 146 #[(37, 134), (42, 112), (43, 90), (45, 101), (47, 123), (281, 78), (282, 67)], 67) := by decide +kernel
theorem d_X7_joinerOf_68 : decode cX7_joinerOf 68 = .ok (.iload_n 0, 1) := by decide +kernel
theorem d_X7_joinerOf_69 : decode cX7_joinerOf 69 = .ok (.ifCond .ne 8, 3) := by decide +kernel
theorem d_X7_joinerOf_72 : decode cX7_joinerOf 72 = .ok (.bipush 13, 2) := by decide +kernel
theorem d_X7_joinerOf_74 : decode cX7_joinerOf 74 = .ok (.goto 4, 3) := by decide +kernel
theorem d_X7_joinerOf_77 : decode cX7_joinerOf 77 = .ok (.iconst (-1), 1) := by decide +kernel
theorem d_X7_joinerOf_78 : decode cX7_joinerOf 78 = .ok (.ireturn, 1) := by decide +kernel
theorem d_X7_joinerOf_79 : decode cX7_joinerOf 79 = .ok (.iload_n 0, 1) := by decide +kernel
theorem d_X7_joinerOf_80 : decode cX7_joinerOf 80 = .ok (.iconst 1, 1) := by decide +kernel
theorem d_X7_joinerOf_81 : decode cX7_joinerOf 81 = .ok (.if_icmp .ne 8, 3) := by decide +kernel
theorem d_X7_joinerOf_84 : decode cX7_joinerOf 84 = .ok (.bipush 12, 2) := by decide +kernel
theorem d_X7_joinerOf_86 : decode cX7_joinerOf 86 = .ok (.goto 4, 3) := by decide +kernel
theorem d_X7_joinerOf_89 : decode cX7_joinerOf 89 = .ok (.iconst (-1), 1) := by decide +kernel
theorem d_X7_joinerOf_90 : decode cX7_joinerOf 90 = .ok (.ireturn, 1) := by decide +kernel
theorem d_X7_joinerOf_91 : decode cX7_joinerOf 91 = .ok (.iload_n 0, 1) := by decide +kernel
theorem d_X7_joinerOf_92 : decode cX7_joinerOf 92 = .ok (.iconst 2, 1) := by decide +kernel
theorem d_X7_joinerOf_93 : decode cX7_joinerOf 93 = .ok (.if_icmp .ne 7, 3) := by decide +kernel
theorem d_X7_joinerOf_96 : decode cX7_joinerOf 96 = .ok (.iconst 2, 1) := by decide +kernel
theorem d_X7_joinerOf_97 : decode cX7_joinerOf 97 = .ok (.goto 4, 3) := by decide +kernel
theorem d_X7_joinerOf_100 : decode cX7_joinerOf 100 = .ok (.iconst (-1), 1) := by decide +kernel
theorem d_X7_joinerOf_101 : decode cX7_joinerOf 101 = .ok (.ireturn, 1) := by decide +kernel
theorem d_X7_joinerOf_102 : decode cX7_joinerOf 102 = .ok (.iload_n 0, 1) := by decide +kernel
theorem d_X7_joinerOf_103 : decode cX7_joinerOf 103 = .ok (.iconst 2, 1) := by decide +kernel
theorem d_X7_joinerOf_104 : decode cX7_joinerOf 104 = .ok (.if_icmp .ne 7, 3) := by decide +kernel
theorem d_X7_joinerOf_107 : decode cX7_joinerOf 107 = .ok (.iconst 3, 1) := by decide +kernel
theorem d_X7_joinerOf_108 : decode cX7_joinerOf 108 = .ok (.goto 4, 3) := by decide +kernel
theorem d_X7_joinerOf_111 : decode cX7_joinerOf 111 = .ok (.iconst (-1), 1) := by decide +kernel
theorem d_X7_joinerOf_112 : decode cX7_joinerOf 112 = .ok (.ireturn, 1) := by decide +kernel
theorem d_X7_joinerOf_113 : decode cX7_joinerOf 113 = .ok (.iload_n 0, 1) := by decide +kernel
theorem d_X7_joinerOf_114 : decode cX7_joinerOf 114 = .ok (.iconst 3, 1) := by decide +kernel
theorem d_X7_joinerOf_115 : decode cX7_joinerOf 115 = .ok (.if_icmp .ne 7, 3) := by decide +kernel
theorem d_X7_joinerOf_118 : decode cX7_joinerOf 118 = .ok (.iconst 4, 1) := by decide +kernel
theorem d_X7_joinerOf_119 : decode cX7_joinerOf 119 = .ok (.goto 4, 3) := by decide +kernel
theorem d_X7_joinerOf_122 : decode cX7_joinerOf 122 = .ok (.iconst (-1), 1) := by decide +kernel
theorem d_X7_joinerOf_123 : decode cX7_joinerOf 123 = .ok (.ireturn, 1) := by decide +kernel
theorem d_X7_joinerOf_124 : decode cX7_joinerOf 124 = .ok (.iload_n 0, 1) := by decide +kernel
theorem d_X7_joinerOf_125 : decode cX7_joinerOf 125 = .ok (.iconst 3, 1) := by decide +kernel
theorem d_X7_joinerOf_126 : decode cX7_joinerOf 126 = .ok (.if_icmp .ne 7, 3) := by decide +kernel
theorem d_X7_joinerOf_129 : decode cX7_joinerOf 129 = .ok (.iconst 5, 1) := by decide +kernel
theorem d_X7_joinerOf_130 : decode cX7_joinerOf 130 = .ok (.goto 4, 3) := by decide +kernel
theorem d_X7_joinerOf_133 : decode cX7_joinerOf 133 = .ok (.iconst (-1), 1) := by decide +kernel
theorem d_X7_joinerOf_134 : decode cX7_joinerOf 134 = .ok (.ireturn, 1) := by decide +kernel
theorem d_X7_joinerOf_135 : decode cX7_joinerOf 135 = .ok (.iload_n 0, 1) := by decide +kernel
theorem d_X7_joinerOf_136 : decode cX7_joinerOf 136 = .ok (.iconst 3, 1) := by decide +kernel
theorem d_X7_joinerOf_137 : decode cX7_joinerOf 137 = .ok (.if_icmp .ne 8, 3) := by decide +kernel
theorem d_X7_joinerOf_140 : decode cX7_joinerOf 140 = .ok (.bipush 6, 2) := by decide +kernel
theorem d_X7_joinerOf_142 : decode cX7_joinerOf 142 = .ok (.goto 4, 3) := by decide +kernel
theorem d_X7_joinerOf_145 : decode cX7_joinerOf 145 = .ok (.iconst (-1), 1) := by decide +kernel
theorem d_X7_joinerOf_146 : decode cX7_joinerOf 146 = .ok (.ireturn, 1) := by decide +kernel
theorem d_X7_joinerOf_147 : decode cX7_joinerOf 147 = .ok (.iconst (-1), 1) := by decide +kernel
theorem d_X7_joinerOf_148 : decode cX7_joinerOf 148 = .ok (.ireturn, 1) := by decide +kernel
abbrev X_X7_joinerOf : gX := (RX7, cX7_joinerOf, 2, (some .int), false)
def F_X7_joinerOf_b0 (M : gM) (l0 : Int32) (l1 : Int32) : Option Int32 :=
  if l1 = (37 : Int32) then (if l0 = (3 : Int32) then (some (6 : Int32)) else (some (-1 : Int32))) else if l1 = (42 : Int32) then (if l0 = (3 : Int32) then (some (4 : Int32)) else (some (-1 : Int32))) else if l1 = (43 : Int32) then (if l0 = (2 : Int32) then (some (2 : Int32)) else (some (-1 : Int32))) else if l1 = (45 : Int32) then (if l0 = (2 : Int32) then (some (3 : Int32)) else (some (-1 : Int32))) else if l1 = (47 : Int32) then (if l0 = (3 : Int32) then (some (5 : Int32)) else (some (-1 : Int32))) else if l1 = (281 : Int32) then (if l0 = (1 : Int32) then (some (12 : Int32)) else (some (-1 : Int32))) else if l1 = (282 : Int32) then (if l0 = 0 then (some (13 : Int32)) else (some (-1 : Int32))) else (some (-1 : Int32))
set_option maxHeartbeats 1000000 in
theorem T_X7_joinerOf_b0 (M : gM) (r : Int32) (l0 : Int32) (l1 : Int32) (h : F_X7_joinerOf_b0 M l0 l1 = some r) : GW 0 0 0 X_X7_joinerOf 0 [(0, vi l0), (1, vi l1)] [] M (some (vi r), M) := by
  delta F_X7_joinerOf_b0 at h
  refine GW_iload_n (X := X_X7_joinerOf) (pc := 0) d_X7_joinerOf_0 rfl 1 rfl ?_
  by_cases c0 : l1 = (37 : Int32)
  · replace h := g_ip c0 h
    refine GW_lookup (X := X_X7_joinerOf) (pc := 1) 135 d_X7_joinerOf_1 (by decide) (off := 134) (by rw [c0]; rfl) (by decide) ?_
    refine GW_iload_n (X := X_X7_joinerOf) (pc := 135) d_X7_joinerOf_135 rfl 0 rfl ?_
    refine GW_iconst (X := X_X7_joinerOf) (pc := 136) (v := 3) d_X7_joinerOf_136 (by decide) ?_
    refine GW_icmp_ne (X := X_X7_joinerOf) (pc := 137) 145 d_X7_joinerOf_137 (by decide) (fun c => ?_) (fun c => ?_)
    · replace h := g_ie c h
      refine GW_iconst (X := X_X7_joinerOf) (pc := 145) (v := -1) d_X7_joinerOf_145 (by decide) ?_
      replace h := Option.some.inj h
      subst h
      exact GW_ret (X := X_X7_joinerOf) (pc := 146) d_X7_joinerOf_146 rfl trivial
    · replace h := g_ip c h
      refine GW_bipush (X := X_X7_joinerOf) (pc := 140) (v := 6) d_X7_joinerOf_140 (by decide) ?_
      refine GW_goto (X := X_X7_joinerOf) (pc := 142) 146 d_X7_joinerOf_142 (by decide) ?_
      replace h := Option.some.inj h
      subst h
      exact GW_ret (X := X_X7_joinerOf) (pc := 146) d_X7_joinerOf_146 rfl trivial
  · replace h := g_ie c0 h
    by_cases c1 : l1 = (42 : Int32)
    · replace h := g_ip c1 h
      refine GW_lookup (X := X_X7_joinerOf) (pc := 1) 113 d_X7_joinerOf_1 (by decide) (off := 112) (by rw [c1]; rfl) (by decide) ?_
      refine GW_iload_n (X := X_X7_joinerOf) (pc := 113) d_X7_joinerOf_113 rfl 0 rfl ?_
      refine GW_iconst (X := X_X7_joinerOf) (pc := 114) (v := 3) d_X7_joinerOf_114 (by decide) ?_
      refine GW_icmp_ne (X := X_X7_joinerOf) (pc := 115) 122 d_X7_joinerOf_115 (by decide) (fun c => ?_) (fun c => ?_)
      · replace h := g_ie c h
        refine GW_iconst (X := X_X7_joinerOf) (pc := 122) (v := -1) d_X7_joinerOf_122 (by decide) ?_
        replace h := Option.some.inj h
        subst h
        exact GW_ret (X := X_X7_joinerOf) (pc := 123) d_X7_joinerOf_123 rfl trivial
      · replace h := g_ip c h
        refine GW_iconst (X := X_X7_joinerOf) (pc := 118) (v := 4) d_X7_joinerOf_118 (by decide) ?_
        refine GW_goto (X := X_X7_joinerOf) (pc := 119) 123 d_X7_joinerOf_119 (by decide) ?_
        replace h := Option.some.inj h
        subst h
        exact GW_ret (X := X_X7_joinerOf) (pc := 123) d_X7_joinerOf_123 rfl trivial
    · replace h := g_ie c1 h
      by_cases c2 : l1 = (43 : Int32)
      · replace h := g_ip c2 h
        refine GW_lookup (X := X_X7_joinerOf) (pc := 1) 91 d_X7_joinerOf_1 (by decide) (off := 90) (by rw [c2]; rfl) (by decide) ?_
        refine GW_iload_n (X := X_X7_joinerOf) (pc := 91) d_X7_joinerOf_91 rfl 0 rfl ?_
        refine GW_iconst (X := X_X7_joinerOf) (pc := 92) (v := 2) d_X7_joinerOf_92 (by decide) ?_
        refine GW_icmp_ne (X := X_X7_joinerOf) (pc := 93) 100 d_X7_joinerOf_93 (by decide) (fun c => ?_) (fun c => ?_)
        · replace h := g_ie c h
          refine GW_iconst (X := X_X7_joinerOf) (pc := 100) (v := -1) d_X7_joinerOf_100 (by decide) ?_
          replace h := Option.some.inj h
          subst h
          exact GW_ret (X := X_X7_joinerOf) (pc := 101) d_X7_joinerOf_101 rfl trivial
        · replace h := g_ip c h
          refine GW_iconst (X := X_X7_joinerOf) (pc := 96) (v := 2) d_X7_joinerOf_96 (by decide) ?_
          refine GW_goto (X := X_X7_joinerOf) (pc := 97) 101 d_X7_joinerOf_97 (by decide) ?_
          replace h := Option.some.inj h
          subst h
          exact GW_ret (X := X_X7_joinerOf) (pc := 101) d_X7_joinerOf_101 rfl trivial
      · replace h := g_ie c2 h
        by_cases c3 : l1 = (45 : Int32)
        · replace h := g_ip c3 h
          refine GW_lookup (X := X_X7_joinerOf) (pc := 1) 102 d_X7_joinerOf_1 (by decide) (off := 101) (by rw [c3]; rfl) (by decide) ?_
          refine GW_iload_n (X := X_X7_joinerOf) (pc := 102) d_X7_joinerOf_102 rfl 0 rfl ?_
          refine GW_iconst (X := X_X7_joinerOf) (pc := 103) (v := 2) d_X7_joinerOf_103 (by decide) ?_
          refine GW_icmp_ne (X := X_X7_joinerOf) (pc := 104) 111 d_X7_joinerOf_104 (by decide) (fun c => ?_) (fun c => ?_)
          · replace h := g_ie c h
            refine GW_iconst (X := X_X7_joinerOf) (pc := 111) (v := -1) d_X7_joinerOf_111 (by decide) ?_
            replace h := Option.some.inj h
            subst h
            exact GW_ret (X := X_X7_joinerOf) (pc := 112) d_X7_joinerOf_112 rfl trivial
          · replace h := g_ip c h
            refine GW_iconst (X := X_X7_joinerOf) (pc := 107) (v := 3) d_X7_joinerOf_107 (by decide) ?_
            refine GW_goto (X := X_X7_joinerOf) (pc := 108) 112 d_X7_joinerOf_108 (by decide) ?_
            replace h := Option.some.inj h
            subst h
            exact GW_ret (X := X_X7_joinerOf) (pc := 112) d_X7_joinerOf_112 rfl trivial
        · replace h := g_ie c3 h
          by_cases c4 : l1 = (47 : Int32)
          · replace h := g_ip c4 h
            refine GW_lookup (X := X_X7_joinerOf) (pc := 1) 124 d_X7_joinerOf_1 (by decide) (off := 123) (by rw [c4]; rfl) (by decide) ?_
            refine GW_iload_n (X := X_X7_joinerOf) (pc := 124) d_X7_joinerOf_124 rfl 0 rfl ?_
            refine GW_iconst (X := X_X7_joinerOf) (pc := 125) (v := 3) d_X7_joinerOf_125 (by decide) ?_
            refine GW_icmp_ne (X := X_X7_joinerOf) (pc := 126) 133 d_X7_joinerOf_126 (by decide) (fun c => ?_) (fun c => ?_)
            · replace h := g_ie c h
              refine GW_iconst (X := X_X7_joinerOf) (pc := 133) (v := -1) d_X7_joinerOf_133 (by decide) ?_
              replace h := Option.some.inj h
              subst h
              exact GW_ret (X := X_X7_joinerOf) (pc := 134) d_X7_joinerOf_134 rfl trivial
            · replace h := g_ip c h
              refine GW_iconst (X := X_X7_joinerOf) (pc := 129) (v := 5) d_X7_joinerOf_129 (by decide) ?_
              refine GW_goto (X := X_X7_joinerOf) (pc := 130) 134 d_X7_joinerOf_130 (by decide) ?_
              replace h := Option.some.inj h
              subst h
              exact GW_ret (X := X_X7_joinerOf) (pc := 134) d_X7_joinerOf_134 rfl trivial
          · replace h := g_ie c4 h
            by_cases c5 : l1 = (281 : Int32)
            · replace h := g_ip c5 h
              refine GW_lookup (X := X_X7_joinerOf) (pc := 1) 79 d_X7_joinerOf_1 (by decide) (off := 78) (by rw [c5]; rfl) (by decide) ?_
              refine GW_iload_n (X := X_X7_joinerOf) (pc := 79) d_X7_joinerOf_79 rfl 0 rfl ?_
              refine GW_iconst (X := X_X7_joinerOf) (pc := 80) (v := 1) d_X7_joinerOf_80 (by decide) ?_
              refine GW_icmp_ne (X := X_X7_joinerOf) (pc := 81) 89 d_X7_joinerOf_81 (by decide) (fun c => ?_) (fun c => ?_)
              · replace h := g_ie c h
                refine GW_iconst (X := X_X7_joinerOf) (pc := 89) (v := -1) d_X7_joinerOf_89 (by decide) ?_
                replace h := Option.some.inj h
                subst h
                exact GW_ret (X := X_X7_joinerOf) (pc := 90) d_X7_joinerOf_90 rfl trivial
              · replace h := g_ip c h
                refine GW_bipush (X := X_X7_joinerOf) (pc := 84) (v := 12) d_X7_joinerOf_84 (by decide) ?_
                refine GW_goto (X := X_X7_joinerOf) (pc := 86) 90 d_X7_joinerOf_86 (by decide) ?_
                replace h := Option.some.inj h
                subst h
                exact GW_ret (X := X_X7_joinerOf) (pc := 90) d_X7_joinerOf_90 rfl trivial
            · replace h := g_ie c5 h
              by_cases c6 : l1 = (282 : Int32)
              · replace h := g_ip c6 h
                refine GW_lookup (X := X_X7_joinerOf) (pc := 1) 68 d_X7_joinerOf_1 (by decide) (off := 67) (by rw [c6]; rfl) (by decide) ?_
                refine GW_iload_n (X := X_X7_joinerOf) (pc := 68) d_X7_joinerOf_68 rfl 0 rfl ?_
                refine GW_if_ne (X := X_X7_joinerOf) (pc := 69) 77 d_X7_joinerOf_69 (by decide) (fun c => ?_) (fun c => ?_)
                · replace h := g_ie c h
                  refine GW_iconst (X := X_X7_joinerOf) (pc := 77) (v := -1) d_X7_joinerOf_77 (by decide) ?_
                  replace h := Option.some.inj h
                  subst h
                  exact GW_ret (X := X_X7_joinerOf) (pc := 78) d_X7_joinerOf_78 rfl trivial
                · replace h := g_ip c h
                  refine GW_bipush (X := X_X7_joinerOf) (pc := 72) (v := 13) d_X7_joinerOf_72 (by decide) ?_
                  refine GW_goto (X := X_X7_joinerOf) (pc := 74) 78 d_X7_joinerOf_74 (by decide) ?_
                  replace h := Option.some.inj h
                  subst h
                  exact GW_ret (X := X_X7_joinerOf) (pc := 78) d_X7_joinerOf_78 rfl trivial
              · replace h := g_ie c6 h
                refine GW_lookup (X := X_X7_joinerOf) (pc := 1) 147 d_X7_joinerOf_1 (by decide) (off := 146) ((lv_osw c0 (by decide)).trans ((lv_osw c1 (by decide)).trans ((lv_osw c2 (by decide)).trans ((lv_osw c3 (by decide)).trans ((lv_osw c4 (by decide)).trans ((lv_osw c5 (by decide)).trans ((lv_osw c6 (by decide)).trans rfl))))))) (by decide) ?_
                refine GW_iconst (X := X_X7_joinerOf) (pc := 147) (v := -1) d_X7_joinerOf_147 (by decide) ?_
                replace h := Option.some.inj h
                subst h
                exact GW_ret (X := X_X7_joinerOf) (pc := 148) d_X7_joinerOf_148 rfl trivial
def F_X7_joinerOf (l0 : Int32) (l1 : Int32) (M : gM) : Option Int32 := F_X7_joinerOf_b0 M l0 l1
theorem T_X7_joinerOf (l0 : Int32) (l1 : Int32) (M : gM) (r : Int32) (h : F_X7_joinerOf l0 l1 M = some r) : g_Met 0 0 0 yX7_joinerOf X_X7_joinerOf [vi l0, vi l1] M (some (vi r), M) :=
  g_Met_of pn_RX7 rfl (Nat.le_of_ble_eq_true rfl) (fun h => by cases h) (GW_sub [0, 1] rfl (T_X7_joinerOf_b0 M r l0 l1 h))
/-! ForgetHeirs$RuleReader.readFact(I)V -/
theorem d_X7_readFact_0 : decode cX7_readFact 0 = .ok (.aload_n 0, 1) := by decide +kernel
theorem d_X7_readFact_1 : decode cX7_readFact 1 = .ok (.getfield 30, 3) := by decide +kernel
theorem d_X7_readFact_4 : decode cX7_readFact 4 = .ok (.invokevirtual 59, 3) := by decide +kernel
theorem d_X7_readFact_7 : decode cX7_readFact 7 = .ok (.istore_n 2, 1) := by decide +kernel
theorem d_X7_readFact_8 : decode cX7_readFact 8 = .ok (.iload_n 2, 1) := by decide +kernel
theorem d_X7_readFact_9 : decode cX7_readFact 9 = .ok (.bipush 91, 2) := by decide +kernel
theorem d_X7_readFact_11 : decode cX7_readFact 11 = .ok (.if_icmp .eq 10, 3) := by decide +kernel
theorem d_X7_readFact_14 : decode cX7_readFact 14 = .ok (.iload_n 2, 1) := by decide +kernel
theorem d_X7_readFact_15 : decode cX7_readFact 15 = .ok (.sipush 280, 3) := by decide +kernel
theorem d_X7_readFact_18 : decode cX7_readFact 18 = .ok (.if_icmp .ne 27, 3) := by decide +kernel
theorem d_X7_readFact_21 : decode cX7_readFact 21 = .ok (.iload_n 1, 1) := by decide +kernel
theorem d_X7_readFact_22 : decode cX7_readFact 22 = .ok (.bipush 10, 2) := by decide +kernel
theorem d_X7_readFact_24 : decode cX7_readFact 24 = .ok (.if_icmp .lt 21, 3) := by decide +kernel
theorem d_X7_readFact_27 : decode cX7_readFact 27 = .ok (.aload_n 0, 1) := by decide +kernel
theorem d_X7_readFact_28 : decode cX7_readFact 28 = .ok (.getfield 30, 3) := by decide +kernel
theorem d_X7_readFact_31 : decode cX7_readFact 31 = .ok (.aload_n 0, 1) := by decide +kernel
theorem d_X7_readFact_32 : decode cX7_readFact 32 = .ok (.getfield 30, 3) := by decide +kernel
theorem d_X7_readFact_35 : decode cX7_readFact 35 = .ok (.invokevirtual 63, 3) := by decide +kernel
theorem d_X7_readFact_38 : decode cX7_readFact 38 = .ok (.iconst 2, 1) := by decide +kernel
theorem d_X7_readFact_39 : decode cX7_readFact 39 = .ok (.invokevirtual 66, 3) := by decide +kernel
theorem d_X7_readFact_42 : decode cX7_readFact 42 = .ok (.goto 88, 3) := by decide +kernel
theorem d_X7_readFact_45 : decode cX7_readFact 45 = .ok (.iload_n 2, 1) := by decide +kernel
theorem d_X7_readFact_46 : decode cX7_readFact 46 = .ok (.bipush 91, 2) := by decide +kernel
theorem d_X7_readFact_48 : decode cX7_readFact 48 = .ok (.if_icmp .ne 30, 3) := by decide +kernel
theorem d_X7_readFact_51 : decode cX7_readFact 51 = .ok (.aload_n 0, 1) := by decide +kernel
theorem d_X7_readFact_52 : decode cX7_readFact 52 = .ok (.getfield 30, 3) := by decide +kernel
theorem d_X7_readFact_55 : decode cX7_readFact 55 = .ok (.invokevirtual 70, 3) := by decide +kernel
theorem d_X7_readFact_58 : decode cX7_readFact 58 = .ok (.aload_n 0, 1) := by decide +kernel
theorem d_X7_readFact_59 : decode cX7_readFact 59 = .ok (.iconst 0, 1) := by decide +kernel
theorem d_X7_readFact_60 : decode cX7_readFact 60 = .ok (.iload_n 1, 1) := by decide +kernel
theorem d_X7_readFact_61 : decode cX7_readFact 61 = .ok (.iconst 1, 1) := by decide +kernel
theorem d_X7_readFact_62 : decode cX7_readFact 62 = .ok (.iadd, 1) := by decide +kernel
theorem d_X7_readFact_63 : decode cX7_readFact 63 = .ok (.invokevirtual 76, 3) := by decide +kernel
theorem d_X7_readFact_66 : decode cX7_readFact 66 = .ok (.aload_n 0, 1) := by decide +kernel
theorem d_X7_readFact_67 : decode cX7_readFact 67 = .ok (.getfield 30, 3) := by decide +kernel
theorem d_X7_readFact_70 : decode cX7_readFact 70 = .ok (.bipush 93, 2) := by decide +kernel
theorem d_X7_readFact_72 : decode cX7_readFact 72 = .ok (.invokevirtual 92, 3) := by decide +kernel
theorem d_X7_readFact_75 : decode cX7_readFact 75 = .ok (.goto 55, 3) := by decide +kernel
theorem d_X7_readFact_78 : decode cX7_readFact 78 = .ok (.iload_n 2, 1) := by decide +kernel
theorem d_X7_readFact_79 : decode cX7_readFact 79 = .ok (.sipush 280, 3) := by decide +kernel
theorem d_X7_readFact_82 : decode cX7_readFact 82 = .ok (.if_icmp .ne 26, 3) := by decide +kernel
theorem d_X7_readFact_85 : decode cX7_readFact 85 = .ok (.aload_n 0, 1) := by decide +kernel
theorem d_X7_readFact_86 : decode cX7_readFact 86 = .ok (.getfield 30, 3) := by decide +kernel
theorem d_X7_readFact_89 : decode cX7_readFact 89 = .ok (.invokevirtual 70, 3) := by decide +kernel
theorem d_X7_readFact_92 : decode cX7_readFact 92 = .ok (.aload_n 0, 1) := by decide +kernel
theorem d_X7_readFact_93 : decode cX7_readFact 93 = .ok (.iload_n 1, 1) := by decide +kernel
theorem d_X7_readFact_94 : decode cX7_readFact 94 = .ok (.iconst 1, 1) := by decide +kernel
theorem d_X7_readFact_95 : decode cX7_readFact 95 = .ok (.iadd, 1) := by decide +kernel
theorem d_X7_readFact_96 : decode cX7_readFact 96 = .ok (.invokevirtual 82, 3) := by decide +kernel
theorem d_X7_readFact_99 : decode cX7_readFact 99 = .ok (.aload_n 0, 1) := by decide +kernel
theorem d_X7_readFact_100 : decode cX7_readFact 100 = .ok (.bipush 14, 2) := by decide +kernel
theorem d_X7_readFact_102 : decode cX7_readFact 102 = .ok (.invokevirtual 85, 3) := by decide +kernel
theorem d_X7_readFact_105 : decode cX7_readFact 105 = .ok (.goto 25, 3) := by decide +kernel
theorem d_X7_readFact_108 : decode cX7_readFact 108 = .ok (.aload_n 0, 1) := by decide +kernel
theorem d_X7_readFact_109 : decode cX7_readFact 109 = .ok (.iconst 2, 1) := by decide +kernel
theorem d_X7_readFact_110 : decode cX7_readFact 110 = .ok (.iload_n 1, 1) := by decide +kernel
theorem d_X7_readFact_111 : decode cX7_readFact 111 = .ok (.invokevirtual 76, 3) := by decide +kernel
theorem d_X7_readFact_114 : decode cX7_readFact 114 = .ok (.aload_n 0, 1) := by decide +kernel
theorem d_X7_readFact_115 : decode cX7_readFact 115 = .ok (.invokevirtual 95, 3) := by decide +kernel
theorem d_X7_readFact_118 : decode cX7_readFact 118 = .ok (.istore_n 3, 1) := by decide +kernel
theorem d_X7_readFact_119 : decode cX7_readFact 119 = .ok (.aload_n 0, 1) := by decide +kernel
theorem d_X7_readFact_120 : decode cX7_readFact 120 = .ok (.iconst 2, 1) := by decide +kernel
theorem d_X7_readFact_121 : decode cX7_readFact 121 = .ok (.iload_n 1, 1) := by decide +kernel
theorem d_X7_readFact_122 : decode cX7_readFact 122 = .ok (.invokevirtual 76, 3) := by decide +kernel
theorem d_X7_readFact_125 : decode cX7_readFact 125 = .ok (.aload_n 0, 1) := by decide +kernel
theorem d_X7_readFact_126 : decode cX7_readFact 126 = .ok (.iload_n 3, 1) := by decide +kernel
theorem d_X7_readFact_127 : decode cX7_readFact 127 = .ok (.invokevirtual 85, 3) := by decide +kernel
theorem d_X7_readFact_130 : decode cX7_readFact 130 = .ok (.return_, 1) := by decide +kernel
abbrev X_X7_readFact : gX := (RX7, cX7_readFact, 4, none, false)
def F_X7_readFact_b45 (cJ : Option Nat → Int32 → Int32 → gM → Option gM) (cF : Option Nat → Int32 → gM → Option gM) (l0 : Option Nat) (l1 : Int32) (l2 : Int32) (M : gM) : Option gM :=
  if l2 = (91 : Int32) then ((gR 7 M l0 0).bind fun v17 => (gO 9 M v17).bind fun i18 => (F_X9_next (some i18) M).bind fun M19 => (gO 7 M19 l0).bind fun i20 => (cJ (some i20) (0 : Int32) (l1 + (1 : Int32)) M19).bind fun M21 => (gR 7 M21 (some i20) 0).bind fun v22 => (gO 9 M21 v22).bind fun i23 => (F_X9_expect (some i23) (93 : Int32) M21).bind fun M24 => some M24) else (if l2 = (280 : Int32) then ((gR 7 M l0 0).bind fun v10 => (gO 9 M v10).bind fun i11 => (F_X9_next (some i11) M).bind fun M12 => (gO 7 M12 l0).bind fun i13 => (cF (some i13) (l1 + (1 : Int32)) M12).bind fun M14 => (gC 7 M14 i13).bind fun _ => (F_X7_put (some i13) (14 : Int32) M14).bind fun M16 => some M16) else ((gO 7 M l0).bind fun i1 => (cJ (some i1) (2 : Int32) l1 M).bind fun M2 => (gC 7 M2 i1).bind fun _ => (F_X7_readComparing (some i1) M2).bind fun (v4, M5) => (gC 7 M5 i1).bind fun _ => (cJ (some i1) (2 : Int32) l1 M5).bind fun M7 => (gC 7 M7 i1).bind fun _ => (F_X7_put (some i1) v4 M7).bind fun M9 => some M9))
set_option maxHeartbeats 1000000 in
theorem T_X7_readFact_b45 (cJ : Option Nat → Int32 → Int32 → gM → Option gM) (cF : Option Nat → Int32 → gM → Option gM) (dj dd : Nat) (hdj : dj + 1 ≤ dd) (hdd : 3 ≤ dd) (hcJ : ∀ (a0 : Option Nat) (a1 a2 : Int32) (M : gM) (r : gM), cJ a0 a1 a2 M = some r → g_Met dj 0 0 yX7_readJoined (RX7, cX7_readJoined, 5, none, false) [vr a0, vi a1, vi a2] M (none, r)) (hcF : ∀ (a0 : Option Nat) (a1 : Int32) (M : gM) (r : gM), cF a0 a1 M = some r → g_Met dj 0 0 yX7_readFact (RX7, cX7_readFact, 4, none, false) [vr a0, vi a1] M (none, r)) (r : gM) (l0 : Option Nat) (l1 : Int32) (l2 : Int32) (M : gM) (h : F_X7_readFact_b45 cJ cF l0 l1 l2 M = some r) : GW dd 0 0 X_X7_readFact 45 [(0, vr l0), (1, vi l1), (2, vi l2)] [] M (none, r) := by
  delta F_X7_readFact_b45 at h
  refine GW_iload_n (X := X_X7_readFact) (pc := 45) d_X7_readFact_45 rfl 2 rfl ?_
  refine GW_bipush (X := X_X7_readFact) (pc := 46) (v := 91) d_X7_readFact_46 (by decide) ?_
  refine GW_icmp_ne (X := X_X7_readFact) (pc := 48) 78 d_X7_readFact_48 (by decide) (fun c => ?_) (fun c => ?_)
  · replace h := g_ie c h
    refine GW_iload_n (X := X_X7_readFact) (pc := 78) d_X7_readFact_78 rfl 2 rfl ?_
    refine GW_sipush (X := X_X7_readFact) (pc := 79) (v := 280) d_X7_readFact_79 (by decide) ?_
    refine GW_icmp_ne (X := X_X7_readFact) (pc := 82) 108 d_X7_readFact_82 (by decide) (fun c => ?_) (fun c => ?_)
    · replace h := g_ie c h
      refine GW_aload_n (X := X_X7_readFact) (pc := 108) d_X7_readFact_108 rfl 0 rfl ?_
      refine GW_iconst (X := X_X7_readFact) (pc := 109) (v := 2) d_X7_readFact_109 (by decide) ?_
      refine GW_iload_n (X := X_X7_readFact) (pc := 110) d_X7_readFact_110 rfl 1 rfl ?_
      replace h := g_bd h
      obtain ⟨i1, hi1, h⟩ := h
      obtain ⟨rfl, ki1⟩ := g_gO hi1
      replace h := g_bd h
      obtain ⟨M2, hM2, h⟩ := h
      refine GW_callV (X := X_X7_readFact) (pc := 111) (bc0 := 0) (bs0 := 0) (r := none) (M2 := M2) (c0 := 7) (hcJ (some i1) (2 : Int32) l1 M M2 hM2) hdj (Nat.le_of_ble_eq_true rfl) rfl g_cok7 ki1 yc_X7_readJoined ⟨m_696, m_698, m_14, m_125, m_699⟩ d_X7_readFact_111 rfl (st := []) rfl (Nat.le_of_ble_eq_true rfl) (Nat.le_of_ble_eq_true rfl) (Nat.le_of_ble_eq_true rfl) (st2 := []) rfl ?_
      refine GW_aload_n (X := X_X7_readFact) (pc := 114) d_X7_readFact_114 rfl 0 rfl ?_
      replace h := g_bd h
      obtain ⟨_, kk3, h⟩ := h
      replace kk3 := g_gC kk3
      replace h := g_bd h
      obtain ⟨⟨v4, M5⟩, hv4, h⟩ := h
      dsimp only at h
      refine GW_callV (X := X_X7_readFact) (pc := 115) (bc0 := 0) (bs0 := 0) (r := some (vi v4)) (M2 := M5) (c0 := 7) (T_X7_readComparing (some i1) M2 (v4, M5) hv4) (Nat.le_trans (Nat.le_of_ble_eq_true rfl) hdd) (Nat.le_of_ble_eq_true rfl) rfl g_cok7 kk3 yc_X7_readComparing ⟨m_720, m_722, m_19, m_125, m_723⟩ d_X7_readFact_115 rfl (st := []) rfl (Nat.le_of_ble_eq_true rfl) (Nat.le_of_ble_eq_true rfl) (Nat.le_of_ble_eq_true rfl) (st2 := [vi v4]) rfl ?_
      refine GW_istore_n (X := X_X7_readFact) (pc := 118) d_X7_readFact_118 rfl (Nat.le_of_ble_eq_true rfl) (lv2 := [(3, vi v4), (0, vr (some i1)), (1, vi l1), (2, vi l2)]) rfl ?_
      refine GW_aload_n (X := X_X7_readFact) (pc := 119) d_X7_readFact_119 rfl 1 rfl ?_
      refine GW_iconst (X := X_X7_readFact) (pc := 120) (v := 2) d_X7_readFact_120 (by decide) ?_
      refine GW_iload_n (X := X_X7_readFact) (pc := 121) d_X7_readFact_121 rfl 2 rfl ?_
      replace h := g_bd h
      obtain ⟨_, kk6, h⟩ := h
      replace kk6 := g_gC kk6
      replace h := g_bd h
      obtain ⟨M7, hM7, h⟩ := h
      refine GW_callV (X := X_X7_readFact) (pc := 122) (bc0 := 0) (bs0 := 0) (r := none) (M2 := M7) (c0 := 7) (hcJ (some i1) (2 : Int32) l1 M5 M7 hM7) hdj (Nat.le_of_ble_eq_true rfl) rfl g_cok7 kk6 yc_X7_readJoined ⟨m_696, m_698, m_14, m_125, m_699⟩ d_X7_readFact_122 rfl (st := []) rfl (Nat.le_of_ble_eq_true rfl) (Nat.le_of_ble_eq_true rfl) (Nat.le_of_ble_eq_true rfl) (st2 := []) rfl ?_
      refine GW_aload_n (X := X_X7_readFact) (pc := 125) d_X7_readFact_125 rfl 1 rfl ?_
      refine GW_iload_n (X := X_X7_readFact) (pc := 126) d_X7_readFact_126 rfl 0 rfl ?_
      replace h := g_bd h
      obtain ⟨_, kk8, h⟩ := h
      replace kk8 := g_gC kk8
      replace h := g_bd h
      obtain ⟨M9, hM9, h⟩ := h
      refine GW_callV (X := X_X7_readFact) (pc := 127) (bc0 := 0) (bs0 := 0) (r := none) (M2 := M9) (c0 := 7) (T_X7_put (some i1) v4 M7 M9 hM9) (Nat.le_trans (Nat.le_of_ble_eq_true rfl) hdd) (Nat.le_of_ble_eq_true rfl) rfl g_cok7 kk8 yc_X7_put ⟨m_705, m_707, m_16, m_125, m_708⟩ d_X7_readFact_127 rfl (st := []) rfl (Nat.le_of_ble_eq_true rfl) (Nat.le_of_ble_eq_true rfl) (Nat.le_of_ble_eq_true rfl) (st2 := []) rfl ?_
      replace h := Option.some.inj h
      subst h
      exact GW_ret (X := X_X7_readFact) (pc := 130) d_X7_readFact_130 rfl trivial
    · replace h := g_ip c h
      refine GW_aload_n (X := X_X7_readFact) (pc := 85) d_X7_readFact_85 rfl 0 rfl ?_
      replace h := g_bd h
      obtain ⟨v10, hv10, h⟩ := h
      refine GW_getR (X := X_X7_readFact) (pc := 86) f_X7_30 d_X7_readFact_86 hv10 (Or.inl ⟨_, ty_7_0⟩) ?_
      replace h := g_bd h
      obtain ⟨i11, hi11, h⟩ := h
      obtain ⟨rfl, ki11⟩ := g_gO hi11
      replace h := g_bd h
      obtain ⟨M12, hM12, h⟩ := h
      refine GW_callV (X := X_X7_readFact) (pc := 89) (bc0 := 0) (bs0 := 0) (r := none) (M2 := M12) (c0 := 9) (T_X9_next (some i11) M M12 hM12) (Nat.le_trans (Nat.le_of_ble_eq_true rfl) hdd) (Nat.le_of_ble_eq_true rfl) rfl g_cok9 ki11 yc_X9_next ⟨m_691, m_610, m_611, m_123, m_612⟩ d_X7_readFact_89 rfl (st := []) rfl (Nat.le_of_ble_eq_true rfl) (Nat.le_of_ble_eq_true rfl) (Nat.le_of_ble_eq_true rfl) (st2 := []) rfl ?_
      refine GW_aload_n (X := X_X7_readFact) (pc := 92) d_X7_readFact_92 rfl 0 rfl ?_
      refine GW_iload_n (X := X_X7_readFact) (pc := 93) d_X7_readFact_93 rfl 1 rfl ?_
      refine GW_iconst (X := X_X7_readFact) (pc := 94) (v := 1) d_X7_readFact_94 (by decide) ?_
      refine GW_iadd (X := X_X7_readFact) (pc := 95) d_X7_readFact_95 ?_
      replace h := g_bd h
      obtain ⟨i13, hi13, h⟩ := h
      obtain ⟨rfl, ki13⟩ := g_gO hi13
      replace h := g_bd h
      obtain ⟨M14, hM14, h⟩ := h
      refine GW_callV (X := X_X7_readFact) (pc := 96) (bc0 := 0) (bs0 := 0) (r := none) (M2 := M14) (c0 := 7) (hcF (some i13) (l1 + (1 : Int32)) M12 M14 hM14) hdj (Nat.le_of_ble_eq_true rfl) rfl g_cok7 ki13 yc_X7_readFact ⟨m_715, m_717, m_18, m_125, m_718⟩ d_X7_readFact_96 rfl (st := []) rfl (Nat.le_of_ble_eq_true rfl) (Nat.le_of_ble_eq_true rfl) (Nat.le_of_ble_eq_true rfl) (st2 := []) rfl ?_
      refine GW_aload_n (X := X_X7_readFact) (pc := 99) d_X7_readFact_99 rfl 0 rfl ?_
      refine GW_bipush (X := X_X7_readFact) (pc := 100) (v := 14) d_X7_readFact_100 (by decide) ?_
      replace h := g_bd h
      obtain ⟨_, kk15, h⟩ := h
      replace kk15 := g_gC kk15
      replace h := g_bd h
      obtain ⟨M16, hM16, h⟩ := h
      refine GW_callV (X := X_X7_readFact) (pc := 102) (bc0 := 0) (bs0 := 0) (r := none) (M2 := M16) (c0 := 7) (T_X7_put (some i13) (14 : Int32) M14 M16 hM16) (Nat.le_trans (Nat.le_of_ble_eq_true rfl) hdd) (Nat.le_of_ble_eq_true rfl) rfl g_cok7 kk15 yc_X7_put ⟨m_705, m_707, m_16, m_125, m_708⟩ d_X7_readFact_102 rfl (st := []) rfl (Nat.le_of_ble_eq_true rfl) (Nat.le_of_ble_eq_true rfl) (Nat.le_of_ble_eq_true rfl) (st2 := []) rfl ?_
      refine GW_goto (X := X_X7_readFact) (pc := 105) 130 d_X7_readFact_105 (by decide) ?_
      replace h := Option.some.inj h
      subst h
      exact GW_ret (X := X_X7_readFact) (pc := 130) d_X7_readFact_130 rfl trivial
  · replace h := g_ip c h
    refine GW_aload_n (X := X_X7_readFact) (pc := 51) d_X7_readFact_51 rfl 0 rfl ?_
    replace h := g_bd h
    obtain ⟨v17, hv17, h⟩ := h
    refine GW_getR (X := X_X7_readFact) (pc := 52) f_X7_30 d_X7_readFact_52 hv17 (Or.inl ⟨_, ty_7_0⟩) ?_
    replace h := g_bd h
    obtain ⟨i18, hi18, h⟩ := h
    obtain ⟨rfl, ki18⟩ := g_gO hi18
    replace h := g_bd h
    obtain ⟨M19, hM19, h⟩ := h
    refine GW_callV (X := X_X7_readFact) (pc := 55) (bc0 := 0) (bs0 := 0) (r := none) (M2 := M19) (c0 := 9) (T_X9_next (some i18) M M19 hM19) (Nat.le_trans (Nat.le_of_ble_eq_true rfl) hdd) (Nat.le_of_ble_eq_true rfl) rfl g_cok9 ki18 yc_X9_next ⟨m_691, m_610, m_611, m_123, m_612⟩ d_X7_readFact_55 rfl (st := []) rfl (Nat.le_of_ble_eq_true rfl) (Nat.le_of_ble_eq_true rfl) (Nat.le_of_ble_eq_true rfl) (st2 := []) rfl ?_
    refine GW_aload_n (X := X_X7_readFact) (pc := 58) d_X7_readFact_58 rfl 0 rfl ?_
    refine GW_iconst (X := X_X7_readFact) (pc := 59) (v := 0) d_X7_readFact_59 (by decide) ?_
    refine GW_iload_n (X := X_X7_readFact) (pc := 60) d_X7_readFact_60 rfl 1 rfl ?_
    refine GW_iconst (X := X_X7_readFact) (pc := 61) (v := 1) d_X7_readFact_61 (by decide) ?_
    refine GW_iadd (X := X_X7_readFact) (pc := 62) d_X7_readFact_62 ?_
    replace h := g_bd h
    obtain ⟨i20, hi20, h⟩ := h
    obtain ⟨rfl, ki20⟩ := g_gO hi20
    replace h := g_bd h
    obtain ⟨M21, hM21, h⟩ := h
    refine GW_callV (X := X_X7_readFact) (pc := 63) (bc0 := 0) (bs0 := 0) (r := none) (M2 := M21) (c0 := 7) (hcJ (some i20) (0 : Int32) (l1 + (1 : Int32)) M19 M21 hM21) hdj (Nat.le_of_ble_eq_true rfl) rfl g_cok7 ki20 yc_X7_readJoined ⟨m_696, m_698, m_14, m_125, m_699⟩ d_X7_readFact_63 rfl (st := []) rfl (Nat.le_of_ble_eq_true rfl) (Nat.le_of_ble_eq_true rfl) (Nat.le_of_ble_eq_true rfl) (st2 := []) rfl ?_
    refine GW_aload_n (X := X_X7_readFact) (pc := 66) d_X7_readFact_66 rfl 0 rfl ?_
    replace h := g_bd h
    obtain ⟨v22, hv22, h⟩ := h
    refine GW_getR (X := X_X7_readFact) (pc := 67) f_X7_30 d_X7_readFact_67 hv22 (Or.inl ⟨_, ty_7_0⟩) ?_
    refine GW_bipush (X := X_X7_readFact) (pc := 70) (v := 93) d_X7_readFact_70 (by decide) ?_
    replace h := g_bd h
    obtain ⟨i23, hi23, h⟩ := h
    obtain ⟨rfl, ki23⟩ := g_gO hi23
    replace h := g_bd h
    obtain ⟨M24, hM24, h⟩ := h
    refine GW_callV (X := X_X7_readFact) (pc := 72) (bc0 := 0) (bs0 := 0) (r := none) (M2 := M24) (c0 := 9) (T_X9_expect (some i23) (93 : Int32) M21 M24 hM24) (Nat.le_trans (Nat.le_of_ble_eq_true rfl) hdd) (Nat.le_of_ble_eq_true rfl) rfl g_cok9 ki23 yc_X9_expect ⟨m_719, m_661, m_662, m_123, m_663⟩ d_X7_readFact_72 rfl (st := []) rfl (Nat.le_of_ble_eq_true rfl) (Nat.le_of_ble_eq_true rfl) (Nat.le_of_ble_eq_true rfl) (st2 := []) rfl ?_
    refine GW_goto (X := X_X7_readFact) (pc := 75) 130 d_X7_readFact_75 (by decide) ?_
    replace h := Option.some.inj h
    subst h
    exact GW_ret (X := X_X7_readFact) (pc := 130) d_X7_readFact_130 rfl trivial
def F_X7_readFact_b21 (cJ : Option Nat → Int32 → Int32 → gM → Option gM) (cF : Option Nat → Int32 → gM → Option gM) (l0 : Option Nat) (l1 : Int32) (l2 : Int32) (M : gM) : Option gM :=
  if l1 < (10 : Int32) then (F_X7_readFact_b45 cJ cF l0 l1 l2 M) else ((gR 7 M l0 0).bind fun v1 => (gR 7 M l0 0).bind fun v2 => (gO 9 M v2).bind fun i3 => (F_X9_place (some i3) M).bind fun v4 => (gO 9 M v1).bind fun i5 => (F_X9_blame (some i5) v4 (2 : Int32) M).bind fun M6 => some M6)
theorem T_X7_readFact_b21 (cJ : Option Nat → Int32 → Int32 → gM → Option gM) (cF : Option Nat → Int32 → gM → Option gM) (dj dd : Nat) (hdj : dj + 1 ≤ dd) (hdd : 3 ≤ dd) (hcJ : ∀ (a0 : Option Nat) (a1 a2 : Int32) (M : gM) (r : gM), cJ a0 a1 a2 M = some r → g_Met dj 0 0 yX7_readJoined (RX7, cX7_readJoined, 5, none, false) [vr a0, vi a1, vi a2] M (none, r)) (hcF : ∀ (a0 : Option Nat) (a1 : Int32) (M : gM) (r : gM), cF a0 a1 M = some r → g_Met dj 0 0 yX7_readFact (RX7, cX7_readFact, 4, none, false) [vr a0, vi a1] M (none, r)) (r : gM) (l0 : Option Nat) (l1 : Int32) (l2 : Int32) (M : gM) (h : F_X7_readFact_b21 cJ cF l0 l1 l2 M = some r) : GW dd 0 0 X_X7_readFact 21 [(0, vr l0), (1, vi l1), (2, vi l2)] [] M (none, r) := by
  delta F_X7_readFact_b21 at h
  refine GW_iload_n (X := X_X7_readFact) (pc := 21) d_X7_readFact_21 rfl 1 rfl ?_
  refine GW_bipush (X := X_X7_readFact) (pc := 22) (v := 10) d_X7_readFact_22 (by decide) ?_
  refine GW_icmp_lt (X := X_X7_readFact) (pc := 24) 45 d_X7_readFact_24 (by decide) (fun c => ?_) (fun c => ?_)
  · replace h := g_ip c h
    exact T_X7_readFact_b45 cJ cF dj dd hdj hdd hcJ hcF r l0 l1 l2 M h
  · replace h := g_ie c h
    refine GW_aload_n (X := X_X7_readFact) (pc := 27) d_X7_readFact_27 rfl 0 rfl ?_
    replace h := g_bd h
    obtain ⟨v1, hv1, h⟩ := h
    refine GW_getR (X := X_X7_readFact) (pc := 28) f_X7_30 d_X7_readFact_28 hv1 (Or.inl ⟨_, ty_7_0⟩) ?_
    refine GW_aload_n (X := X_X7_readFact) (pc := 31) d_X7_readFact_31 rfl 0 rfl ?_
    replace h := g_bd h
    obtain ⟨v2, hv2, h⟩ := h
    refine GW_getR (X := X_X7_readFact) (pc := 32) f_X7_30 d_X7_readFact_32 hv2 (Or.inl ⟨_, ty_7_0⟩) ?_
    replace h := g_bd h
    obtain ⟨i3, hi3, h⟩ := h
    obtain ⟨rfl, ki3⟩ := g_gO hi3
    replace h := g_bd h
    obtain ⟨v4, hv4, h⟩ := h
    refine GW_callV (X := X_X7_readFact) (pc := 35) (bc0 := 0) (bs0 := 0) (r := some (vi v4)) (M2 := M) (c0 := 9) (T_X9_place (some i3) M v4 hv4) (Nat.le_trans (Nat.le_of_ble_eq_true rfl) hdd) (Nat.le_of_ble_eq_true rfl) rfl g_cok9 ki3 yc_X9_place ⟨m_689, m_598, m_599, m_123, m_600⟩ d_X7_readFact_35 rfl (st := [vr v1]) rfl (Nat.le_of_ble_eq_true rfl) (Nat.le_of_ble_eq_true rfl) (Nat.le_of_ble_eq_true rfl) (st2 := [vi v4, vr v1]) rfl ?_
    refine GW_iconst (X := X_X7_readFact) (pc := 38) (v := 2) d_X7_readFact_38 (by decide) ?_
    replace h := g_bd h
    obtain ⟨i5, hi5, h⟩ := h
    obtain ⟨rfl, ki5⟩ := g_gO hi5
    replace h := g_bd h
    obtain ⟨M6, hM6, h⟩ := h
    refine GW_callV (X := X_X7_readFact) (pc := 39) (bc0 := 0) (bs0 := 0) (r := none) (M2 := M6) (c0 := 9) (T_X9_blame (some i5) v4 (2 : Int32) M M6 hM6) (Nat.le_trans (Nat.le_of_ble_eq_true rfl) hdd) (Nat.le_of_ble_eq_true rfl) rfl g_cok9 ki5 yc_X9_blame ⟨m_690, m_602, m_603, m_123, m_604⟩ d_X7_readFact_39 rfl (st := []) rfl (Nat.le_of_ble_eq_true rfl) (Nat.le_of_ble_eq_true rfl) (Nat.le_of_ble_eq_true rfl) (st2 := []) rfl ?_
    refine GW_goto (X := X_X7_readFact) (pc := 42) 130 d_X7_readFact_42 (by decide) ?_
    replace h := Option.some.inj h
    subst h
    exact GW_ret (X := X_X7_readFact) (pc := 130) d_X7_readFact_130 rfl trivial
def F_X7_readFact_b0 (cJ : Option Nat → Int32 → Int32 → gM → Option gM) (cF : Option Nat → Int32 → gM → Option gM) (l0 : Option Nat) (l1 : Int32) (M : gM) : Option gM :=
  (gR 7 M l0 0).bind fun v1 => (gO 9 M v1).bind fun i2 => (F_X9_kind (some i2) M).bind fun v3 => if v3 = (91 : Int32) then (F_X7_readFact_b21 cJ cF l0 l1 v3 M) else (if v3 = (280 : Int32) then (F_X7_readFact_b21 cJ cF l0 l1 v3 M) else (F_X7_readFact_b45 cJ cF l0 l1 v3 M))
theorem T_X7_readFact_b0 (cJ : Option Nat → Int32 → Int32 → gM → Option gM) (cF : Option Nat → Int32 → gM → Option gM) (dj dd : Nat) (hdj : dj + 1 ≤ dd) (hdd : 3 ≤ dd) (hcJ : ∀ (a0 : Option Nat) (a1 a2 : Int32) (M : gM) (r : gM), cJ a0 a1 a2 M = some r → g_Met dj 0 0 yX7_readJoined (RX7, cX7_readJoined, 5, none, false) [vr a0, vi a1, vi a2] M (none, r)) (hcF : ∀ (a0 : Option Nat) (a1 : Int32) (M : gM) (r : gM), cF a0 a1 M = some r → g_Met dj 0 0 yX7_readFact (RX7, cX7_readFact, 4, none, false) [vr a0, vi a1] M (none, r)) (r : gM) (l0 : Option Nat) (l1 : Int32) (M : gM) (h : F_X7_readFact_b0 cJ cF l0 l1 M = some r) : GW dd 0 0 X_X7_readFact 0 [(0, vr l0), (1, vi l1)] [] M (none, r) := by
  delta F_X7_readFact_b0 at h
  refine GW_aload_n (X := X_X7_readFact) (pc := 0) d_X7_readFact_0 rfl 0 rfl ?_
  replace h := g_bd h
  obtain ⟨v1, hv1, h⟩ := h
  refine GW_getR (X := X_X7_readFact) (pc := 1) f_X7_30 d_X7_readFact_1 hv1 (Or.inl ⟨_, ty_7_0⟩) ?_
  replace h := g_bd h
  obtain ⟨i2, hi2, h⟩ := h
  obtain ⟨rfl, ki2⟩ := g_gO hi2
  replace h := g_bd h
  obtain ⟨v3, hv3, h⟩ := h
  refine GW_callV (X := X_X7_readFact) (pc := 4) (bc0 := 0) (bs0 := 0) (r := some (vi v3)) (M2 := M) (c0 := 9) (T_X9_kind (some i2) M v3 hv3) (Nat.le_trans (Nat.le_of_ble_eq_true rfl) hdd) (Nat.le_of_ble_eq_true rfl) rfl g_cok9 ki2 yc_X9_kind ⟨m_688, m_591, m_592, m_123, m_593⟩ d_X7_readFact_4 rfl (st := []) rfl (Nat.le_of_ble_eq_true rfl) (Nat.le_of_ble_eq_true rfl) (Nat.le_of_ble_eq_true rfl) (st2 := [vi v3]) rfl ?_
  refine GW_istore_n (X := X_X7_readFact) (pc := 7) d_X7_readFact_7 rfl (Nat.le_of_ble_eq_true rfl) (lv2 := [(2, vi v3), (0, vr l0), (1, vi l1)]) rfl ?_
  refine GW_iload_n (X := X_X7_readFact) (pc := 8) d_X7_readFact_8 rfl 0 rfl ?_
  refine GW_bipush (X := X_X7_readFact) (pc := 9) (v := 91) d_X7_readFact_9 (by decide) ?_
  refine GW_icmp_eq (X := X_X7_readFact) (pc := 11) 21 d_X7_readFact_11 (by decide) (fun c => ?_) (fun c => ?_)
  · replace h := g_ip c h
    refine GW_sub [1, 2, 0] rfl ?_
    exact T_X7_readFact_b21 cJ cF dj dd hdj hdd hcJ hcF r l0 l1 v3 M h
  · replace h := g_ie c h
    refine GW_iload_n (X := X_X7_readFact) (pc := 14) d_X7_readFact_14 rfl 0 rfl ?_
    refine GW_sipush (X := X_X7_readFact) (pc := 15) (v := 280) d_X7_readFact_15 (by decide) ?_
    refine GW_icmp_ne (X := X_X7_readFact) (pc := 18) 45 d_X7_readFact_18 (by decide) (fun c => ?_) (fun c => ?_)
    · replace h := g_ie c h
      refine GW_sub [1, 2, 0] rfl ?_
      exact T_X7_readFact_b45 cJ cF dj dd hdj hdd hcJ hcF r l0 l1 v3 M h
    · replace h := g_ip c h
      refine GW_sub [1, 2, 0] rfl ?_
      exact T_X7_readFact_b21 cJ cF dj dd hdj hdd hcJ hcF r l0 l1 v3 M h
def F_X7_readFact_g (cJ : Option Nat → Int32 → Int32 → gM → Option gM) (cF : Option Nat → Int32 → gM → Option gM) (l0 : Option Nat) (l1 : Int32) (M : gM) : Option gM := F_X7_readFact_b0 cJ cF l0 l1 M
theorem T_X7_readFact_g (cJ : Option Nat → Int32 → Int32 → gM → Option gM) (cF : Option Nat → Int32 → gM → Option gM) (dj dd : Nat) (hdj : dj + 1 ≤ dd) (hdd : 3 ≤ dd) (hcJ : ∀ (a0 : Option Nat) (a1 a2 : Int32) (M : gM) (r : gM), cJ a0 a1 a2 M = some r → g_Met dj 0 0 yX7_readJoined (RX7, cX7_readJoined, 5, none, false) [vr a0, vi a1, vi a2] M (none, r)) (hcF : ∀ (a0 : Option Nat) (a1 : Int32) (M : gM) (r : gM), cF a0 a1 M = some r → g_Met dj 0 0 yX7_readFact (RX7, cX7_readFact, 4, none, false) [vr a0, vi a1] M (none, r)) (l0 : Option Nat) (l1 : Int32) (M : gM) (r : gM) (h : F_X7_readFact_g cJ cF l0 l1 M = some r) : g_Met dd 0 0 yX7_readFact X_X7_readFact [vr l0, vi l1] M (none, r) :=
  g_Met_of pn_RX7 rfl (Nat.le_of_ble_eq_true rfl) (fun h => by cases h) (GW_sub [0, 1] rfl (T_X7_readFact_b0 cJ cF dj dd hdj hdd hcJ hcF r l0 l1 M h))
/-! ForgetHeirs$RuleReader.readJoined(II)V -/
theorem d_X7_readJoined_0 : decode cX7_readJoined 0 = .ok (.iconst (-1), 1) := by decide +kernel
theorem d_X7_readJoined_1 : decode cX7_readJoined 1 = .ok (.istore_n 3, 1) := by decide +kernel
theorem d_X7_readJoined_2 : decode cX7_readJoined 2 = .ok (.iconst 0, 1) := by decide +kernel
theorem d_X7_readJoined_3 : decode cX7_readJoined 3 = .ok (.istore 4, 2) := by decide +kernel
theorem d_X7_readJoined_5 : decode cX7_readJoined 5 = .ok (.iload 4, 2) := by decide +kernel
theorem d_X7_readJoined_7 : decode cX7_readJoined 7 = .ok (.sipush 400, 3) := by decide +kernel
theorem d_X7_readJoined_10 : decode cX7_readJoined 10 = .ok (.if_icmp .gt 87, 3) := by decide +kernel
theorem d_X7_readJoined_13 : decode cX7_readJoined 13 = .ok (.aload_n 0, 1) := by decide +kernel
theorem d_X7_readJoined_14 : decode cX7_readJoined 14 = .ok (.getfield 30, 3) := by decide +kernel
theorem d_X7_readJoined_17 : decode cX7_readJoined 17 = .ok (.invokevirtual 45, 3) := by decide +kernel
theorem d_X7_readJoined_20 : decode cX7_readJoined 20 = .ok (.ifCond .ne 77, 3) := by decide +kernel
theorem d_X7_readJoined_23 : decode cX7_readJoined 23 = .ok (.iload_n 1, 1) := by decide +kernel
theorem d_X7_readJoined_24 : decode cX7_readJoined 24 = .ok (.iconst 3, 1) := by decide +kernel
theorem d_X7_readJoined_25 : decode cX7_readJoined 25 = .ok (.if_icmp .ne 10, 3) := by decide +kernel
theorem d_X7_readJoined_28 : decode cX7_readJoined 28 = .ok (.aload_n 0, 1) := by decide +kernel
theorem d_X7_readJoined_29 : decode cX7_readJoined 29 = .ok (.invokevirtual 79, 3) := by decide +kernel
theorem d_X7_readJoined_32 : decode cX7_readJoined 32 = .ok (.goto 24, 3) := by decide +kernel
theorem d_X7_readJoined_35 : decode cX7_readJoined 35 = .ok (.iload_n 1, 1) := by decide +kernel
theorem d_X7_readJoined_36 : decode cX7_readJoined 36 = .ok (.iconst 1, 1) := by decide +kernel
theorem d_X7_readJoined_37 : decode cX7_readJoined 37 = .ok (.if_icmp .ne 11, 3) := by decide +kernel
theorem d_X7_readJoined_40 : decode cX7_readJoined 40 = .ok (.aload_n 0, 1) := by decide +kernel
theorem d_X7_readJoined_41 : decode cX7_readJoined 41 = .ok (.iload_n 2, 1) := by decide +kernel
theorem d_X7_readJoined_42 : decode cX7_readJoined 42 = .ok (.invokevirtual 82, 3) := by decide +kernel
theorem d_X7_readJoined_45 : decode cX7_readJoined 45 = .ok (.goto 11, 3) := by decide +kernel
theorem d_X7_readJoined_48 : decode cX7_readJoined 48 = .ok (.aload_n 0, 1) := by decide +kernel
theorem d_X7_readJoined_49 : decode cX7_readJoined 49 = .ok (.iload_n 1, 1) := by decide +kernel
theorem d_X7_readJoined_50 : decode cX7_readJoined 50 = .ok (.iconst 1, 1) := by decide +kernel
theorem d_X7_readJoined_51 : decode cX7_readJoined 51 = .ok (.iadd, 1) := by decide +kernel
theorem d_X7_readJoined_52 : decode cX7_readJoined 52 = .ok (.iload_n 2, 1) := by decide +kernel
theorem d_X7_readJoined_53 : decode cX7_readJoined 53 = .ok (.invokevirtual 76, 3) := by decide +kernel
theorem d_X7_readJoined_56 : decode cX7_readJoined 56 = .ok (.iload_n 3, 1) := by decide +kernel
theorem d_X7_readJoined_57 : decode cX7_readJoined 57 = .ok (.iconst (-1), 1) := by decide +kernel
theorem d_X7_readJoined_58 : decode cX7_readJoined 58 = .ok (.if_icmp .eq 8, 3) := by decide +kernel
theorem d_X7_readJoined_61 : decode cX7_readJoined 61 = .ok (.aload_n 0, 1) := by decide +kernel
theorem d_X7_readJoined_62 : decode cX7_readJoined 62 = .ok (.iload_n 3, 1) := by decide +kernel
theorem d_X7_readJoined_63 : decode cX7_readJoined 63 = .ok (.invokevirtual 85, 3) := by decide +kernel
theorem d_X7_readJoined_66 : decode cX7_readJoined 66 = .ok (.iload_n 1, 1) := by decide +kernel
theorem d_X7_readJoined_67 : decode cX7_readJoined 67 = .ok (.aload_n 0, 1) := by decide +kernel
theorem d_X7_readJoined_68 : decode cX7_readJoined 68 = .ok (.getfield 30, 3) := by decide +kernel
theorem d_X7_readJoined_71 : decode cX7_readJoined 71 = .ok (.invokevirtual 59, 3) := by decide +kernel
theorem d_X7_readJoined_74 : decode cX7_readJoined 74 = .ok (.invokestatic 88, 3) := by decide +kernel
theorem d_X7_readJoined_77 : decode cX7_readJoined 77 = .ok (.istore_n 3, 1) := by decide +kernel
theorem d_X7_readJoined_78 : decode cX7_readJoined 78 = .ok (.iload_n 3, 1) := by decide +kernel
theorem d_X7_readJoined_79 : decode cX7_readJoined 79 = .ok (.iconst (-1), 1) := by decide +kernel
theorem d_X7_readJoined_80 : decode cX7_readJoined 80 = .ok (.if_icmp .ne 4, 3) := by decide +kernel
theorem d_X7_readJoined_83 : decode cX7_readJoined 83 = .ok (.return_, 1) := by decide +kernel
theorem d_X7_readJoined_84 : decode cX7_readJoined 84 = .ok (.aload_n 0, 1) := by decide +kernel
theorem d_X7_readJoined_85 : decode cX7_readJoined 85 = .ok (.getfield 30, 3) := by decide +kernel
theorem d_X7_readJoined_88 : decode cX7_readJoined 88 = .ok (.invokevirtual 70, 3) := by decide +kernel
theorem d_X7_readJoined_91 : decode cX7_readJoined 91 = .ok (.iinc 4 1, 3) := by decide +kernel
theorem d_X7_readJoined_94 : decode cX7_readJoined 94 = .ok (.goto (-89), 3) := by decide +kernel
theorem d_X7_readJoined_97 : decode cX7_readJoined 97 = .ok (.return_, 1) := by decide +kernel
abbrev X_X7_readJoined : gX := (RX7, cX7_readJoined, 5, none, false)
def F_X7_readJoined_b66 (cJ : Option Nat → Int32 → Int32 → gM → Option gM) (cF : Option Nat → Int32 → gM → Option gM) (k5 : Option Nat → Int32 → Int32 → Int32 → Int32 → gM → Option gM) (l0 : Option Nat) (l1 : Int32) (l2 : Int32) (l4 : Int32) (M : gM) : Option gM :=
  (gR 7 M l0 0).bind fun v1 => (gO 9 M v1).bind fun i2 => (F_X9_kind (some i2) M).bind fun v3 => (F_X7_joinerOf l1 v3 M).bind fun v4 => if v4 = (-1 : Int32) then (some M) else ((gR 7 M l0 0).bind fun v5 => (gO 9 M v5).bind fun i6 => (F_X9_next (some i6) M).bind fun M7 => k5 l0 l1 l2 v4 (l4 + 1) M7)
theorem T_X7_readJoined_b66 (cJ : Option Nat → Int32 → Int32 → gM → Option gM) (cF : Option Nat → Int32 → gM → Option gM) (dj dd : Nat) (hdj : dj + 1 ≤ dd) (hdd : 3 ≤ dd) (hcJ : ∀ (a0 : Option Nat) (a1 a2 : Int32) (M : gM) (r : gM), cJ a0 a1 a2 M = some r → g_Met dj 0 0 yX7_readJoined (RX7, cX7_readJoined, 5, none, false) [vr a0, vi a1, vi a2] M (none, r)) (hcF : ∀ (a0 : Option Nat) (a1 : Int32) (M : gM) (r : gM), cF a0 a1 M = some r → g_Met dj 0 0 yX7_readFact (RX7, cX7_readFact, 4, none, false) [vr a0, vi a1] M (none, r)) (k5 : Option Nat → Int32 → Int32 → Int32 → Int32 → gM → Option gM) (r : gM) (hk5 : ∀ (l0 : Option Nat) (l1 : Int32) (l2 : Int32) (l3 : Int32) (l4 : Int32) (M : gM), k5 l0 l1 l2 l3 l4 M = some r → GW dd 0 0 X_X7_readJoined 5 [(0, vr l0), (1, vi l1), (2, vi l2), (3, vi l3), (4, vi l4)] [] M (none, r)) (l0 : Option Nat) (l1 : Int32) (l2 : Int32) (l4 : Int32) (M : gM) (h : F_X7_readJoined_b66 cJ cF k5 l0 l1 l2 l4 M = some r) : GW dd 0 0 X_X7_readJoined 66 [(0, vr l0), (1, vi l1), (2, vi l2), (4, vi l4)] [] M (none, r) := by
  delta F_X7_readJoined_b66 at h
  refine GW_iload_n (X := X_X7_readJoined) (pc := 66) d_X7_readJoined_66 rfl 1 rfl ?_
  refine GW_aload_n (X := X_X7_readJoined) (pc := 67) d_X7_readJoined_67 rfl 0 rfl ?_
  replace h := g_bd h
  obtain ⟨v1, hv1, h⟩ := h
  refine GW_getR (X := X_X7_readJoined) (pc := 68) f_X7_30 d_X7_readJoined_68 hv1 (Or.inl ⟨_, ty_7_0⟩) ?_
  replace h := g_bd h
  obtain ⟨i2, hi2, h⟩ := h
  obtain ⟨rfl, ki2⟩ := g_gO hi2
  replace h := g_bd h
  obtain ⟨v3, hv3, h⟩ := h
  refine GW_callV (X := X_X7_readJoined) (pc := 71) (bc0 := 0) (bs0 := 0) (r := some (vi v3)) (M2 := M) (c0 := 9) (T_X9_kind (some i2) M v3 hv3) (Nat.le_trans (Nat.le_of_ble_eq_true rfl) hdd) (Nat.le_of_ble_eq_true rfl) rfl g_cok9 ki2 yc_X9_kind ⟨m_688, m_591, m_592, m_123, m_593⟩ d_X7_readJoined_71 rfl (st := [vi l1]) rfl (Nat.le_of_ble_eq_true rfl) (Nat.le_of_ble_eq_true rfl) (Nat.le_of_ble_eq_true rfl) (st2 := [vi v3, vi l1]) rfl ?_
  replace h := g_bd h
  obtain ⟨v4, hv4, h⟩ := h
  refine GW_callS (X := X_X7_readJoined) (pc := 74) (bc0 := 0) (bs0 := 0) (r := some (vi v4)) (M2 := M) (T_X7_joinerOf l1 v3 M v4 hv4) (Nat.le_trans (Nat.le_of_ble_eq_true rfl) hdd) (Nat.le_of_ble_eq_true rfl) yc_X7_joinerOf ⟨m_727, m_728, m_125, m_729⟩ d_X7_readJoined_74 rfl (st := []) rfl (Nat.le_of_ble_eq_true rfl) (Nat.le_of_ble_eq_true rfl) (Nat.le_of_ble_eq_true rfl) (st2 := [vi v4]) rfl ?_
  refine GW_istore_n (X := X_X7_readJoined) (pc := 77) d_X7_readJoined_77 rfl (Nat.le_of_ble_eq_true rfl) (lv2 := [(3, vi v4), (0, vr l0), (1, vi l1), (2, vi l2), (4, vi l4)]) rfl ?_
  refine GW_iload_n (X := X_X7_readJoined) (pc := 78) d_X7_readJoined_78 rfl 0 rfl ?_
  refine GW_iconst (X := X_X7_readJoined) (pc := 79) (v := -1) d_X7_readJoined_79 (by decide) ?_
  refine GW_icmp_ne (X := X_X7_readJoined) (pc := 80) 84 d_X7_readJoined_80 (by decide) (fun c => ?_) (fun c => ?_)
  · replace h := g_ie c h
    refine GW_aload_n (X := X_X7_readJoined) (pc := 84) d_X7_readJoined_84 rfl 1 rfl ?_
    replace h := g_bd h
    obtain ⟨v5, hv5, h⟩ := h
    refine GW_getR (X := X_X7_readJoined) (pc := 85) f_X7_30 d_X7_readJoined_85 hv5 (Or.inl ⟨_, ty_7_0⟩) ?_
    replace h := g_bd h
    obtain ⟨i6, hi6, h⟩ := h
    obtain ⟨rfl, ki6⟩ := g_gO hi6
    replace h := g_bd h
    obtain ⟨M7, hM7, h⟩ := h
    refine GW_callV (X := X_X7_readJoined) (pc := 88) (bc0 := 0) (bs0 := 0) (r := none) (M2 := M7) (c0 := 9) (T_X9_next (some i6) M M7 hM7) (Nat.le_trans (Nat.le_of_ble_eq_true rfl) hdd) (Nat.le_of_ble_eq_true rfl) rfl g_cok9 ki6 yc_X9_next ⟨m_691, m_610, m_611, m_123, m_612⟩ d_X7_readJoined_88 rfl (st := []) rfl (Nat.le_of_ble_eq_true rfl) (Nat.le_of_ble_eq_true rfl) (Nat.le_of_ble_eq_true rfl) (st2 := []) rfl ?_
    refine GW_iinc (j := 4) (X := X_X7_readJoined) (pc := 91) d_X7_readJoined_91 rfl (congrArg (fun z => _ + z) (by decide : Int32.ofInt 1 = (1 : Int32))) (Nat.le_of_ble_eq_true rfl) (lv2 := [(4, vi (l4 + 1)), (3, vi v4), (0, vr l0), (1, vi l1), (2, vi l2)]) rfl ?_
    refine GW_goto (X := X_X7_readJoined) (pc := 94) 5 d_X7_readJoined_94 (by decide) ?_
    refine GW_sub [2, 3, 4, 1, 0] rfl ?_
    exact hk5 l0 l1 l2 v4 (l4 + 1) M7 h
  · replace h := g_ip c h
    replace h := Option.some.inj h
    subst h
    exact GW_ret (X := X_X7_readJoined) (pc := 83) d_X7_readJoined_83 rfl trivial
def F_X7_readJoined_b56 (cJ : Option Nat → Int32 → Int32 → gM → Option gM) (cF : Option Nat → Int32 → gM → Option gM) (k5 : Option Nat → Int32 → Int32 → Int32 → Int32 → gM → Option gM) (l0 : Option Nat) (l1 : Int32) (l2 : Int32) (l3 : Int32) (l4 : Int32) (M : gM) : Option gM :=
  if l3 = (-1 : Int32) then (F_X7_readJoined_b66 cJ cF k5 l0 l1 l2 l4 M) else ((gO 7 M l0).bind fun i1 => (F_X7_put (some i1) l3 M).bind fun M2 => F_X7_readJoined_b66 cJ cF k5 (some i1) l1 l2 l4 M2)
theorem T_X7_readJoined_b56 (cJ : Option Nat → Int32 → Int32 → gM → Option gM) (cF : Option Nat → Int32 → gM → Option gM) (dj dd : Nat) (hdj : dj + 1 ≤ dd) (hdd : 3 ≤ dd) (hcJ : ∀ (a0 : Option Nat) (a1 a2 : Int32) (M : gM) (r : gM), cJ a0 a1 a2 M = some r → g_Met dj 0 0 yX7_readJoined (RX7, cX7_readJoined, 5, none, false) [vr a0, vi a1, vi a2] M (none, r)) (hcF : ∀ (a0 : Option Nat) (a1 : Int32) (M : gM) (r : gM), cF a0 a1 M = some r → g_Met dj 0 0 yX7_readFact (RX7, cX7_readFact, 4, none, false) [vr a0, vi a1] M (none, r)) (k5 : Option Nat → Int32 → Int32 → Int32 → Int32 → gM → Option gM) (r : gM) (hk5 : ∀ (l0 : Option Nat) (l1 : Int32) (l2 : Int32) (l3 : Int32) (l4 : Int32) (M : gM), k5 l0 l1 l2 l3 l4 M = some r → GW dd 0 0 X_X7_readJoined 5 [(0, vr l0), (1, vi l1), (2, vi l2), (3, vi l3), (4, vi l4)] [] M (none, r)) (l0 : Option Nat) (l1 : Int32) (l2 : Int32) (l3 : Int32) (l4 : Int32) (M : gM) (h : F_X7_readJoined_b56 cJ cF k5 l0 l1 l2 l3 l4 M = some r) : GW dd 0 0 X_X7_readJoined 56 [(0, vr l0), (1, vi l1), (2, vi l2), (3, vi l3), (4, vi l4)] [] M (none, r) := by
  delta F_X7_readJoined_b56 at h
  refine GW_iload_n (X := X_X7_readJoined) (pc := 56) d_X7_readJoined_56 rfl 3 rfl ?_
  refine GW_iconst (X := X_X7_readJoined) (pc := 57) (v := -1) d_X7_readJoined_57 (by decide) ?_
  refine GW_icmp_eq (X := X_X7_readJoined) (pc := 58) 66 d_X7_readJoined_58 (by decide) (fun c => ?_) (fun c => ?_)
  · replace h := g_ip c h
    refine GW_sub [0, 1, 2, 4] rfl ?_
    exact T_X7_readJoined_b66 cJ cF dj dd hdj hdd hcJ hcF k5 r hk5 l0 l1 l2 l4 M h
  · replace h := g_ie c h
    refine GW_aload_n (X := X_X7_readJoined) (pc := 61) d_X7_readJoined_61 rfl 0 rfl ?_
    refine GW_iload_n (X := X_X7_readJoined) (pc := 62) d_X7_readJoined_62 rfl 3 rfl ?_
    replace h := g_bd h
    obtain ⟨i1, hi1, h⟩ := h
    obtain ⟨rfl, ki1⟩ := g_gO hi1
    replace h := g_bd h
    obtain ⟨M2, hM2, h⟩ := h
    refine GW_callV (X := X_X7_readJoined) (pc := 63) (bc0 := 0) (bs0 := 0) (r := none) (M2 := M2) (c0 := 7) (T_X7_put (some i1) l3 M M2 hM2) (Nat.le_trans (Nat.le_of_ble_eq_true rfl) hdd) (Nat.le_of_ble_eq_true rfl) rfl g_cok7 ki1 yc_X7_put ⟨m_705, m_707, m_16, m_125, m_708⟩ d_X7_readJoined_63 rfl (st := []) rfl (Nat.le_of_ble_eq_true rfl) (Nat.le_of_ble_eq_true rfl) (Nat.le_of_ble_eq_true rfl) (st2 := []) rfl ?_
    refine GW_sub [0, 1, 2, 4] rfl ?_
    exact T_X7_readJoined_b66 cJ cF dj dd hdj hdd hcJ hcF k5 r hk5 (some i1) l1 l2 l4 M2 h
def F_X7_readJoined_b5 (cJ : Option Nat → Int32 → Int32 → gM → Option gM) (cF : Option Nat → Int32 → gM → Option gM) (k5 : Option Nat → Int32 → Int32 → Int32 → Int32 → gM → Option gM) (l0 : Option Nat) (l1 : Int32) (l2 : Int32) (l3 : Int32) (l4 : Int32) (M : gM) : Option gM :=
  if (400 : Int32) < l4 then (some M) else ((gR 7 M l0 0).bind fun v1 => (gO 9 M v1).bind fun i2 => (F_X9_isFaulty (some i2) M).bind fun v3 => if v3 = 0 then (if l1 = (3 : Int32) then ((gO 7 M l0).bind fun i8 => (F_X7_readValue (some i8) M).bind fun M9 => F_X7_readJoined_b56 cJ cF k5 (some i8) l1 l2 l3 l4 M9) else (if l1 = (1 : Int32) then ((gO 7 M l0).bind fun i6 => (cF (some i6) l2 M).bind fun M7 => F_X7_readJoined_b56 cJ cF k5 (some i6) l1 l2 l3 l4 M7) else ((gO 7 M l0).bind fun i4 => (cJ (some i4) (l1 + (1 : Int32)) l2 M).bind fun M5 => F_X7_readJoined_b56 cJ cF k5 (some i4) l1 l2 l3 l4 M5))) else (some M))
set_option maxHeartbeats 1000000 in
theorem T_X7_readJoined_b5 (cJ : Option Nat → Int32 → Int32 → gM → Option gM) (cF : Option Nat → Int32 → gM → Option gM) (dj dd : Nat) (hdj : dj + 1 ≤ dd) (hdd : 3 ≤ dd) (hcJ : ∀ (a0 : Option Nat) (a1 a2 : Int32) (M : gM) (r : gM), cJ a0 a1 a2 M = some r → g_Met dj 0 0 yX7_readJoined (RX7, cX7_readJoined, 5, none, false) [vr a0, vi a1, vi a2] M (none, r)) (hcF : ∀ (a0 : Option Nat) (a1 : Int32) (M : gM) (r : gM), cF a0 a1 M = some r → g_Met dj 0 0 yX7_readFact (RX7, cX7_readFact, 4, none, false) [vr a0, vi a1] M (none, r)) (k5 : Option Nat → Int32 → Int32 → Int32 → Int32 → gM → Option gM) (r : gM) (hk5 : ∀ (l0 : Option Nat) (l1 : Int32) (l2 : Int32) (l3 : Int32) (l4 : Int32) (M : gM), k5 l0 l1 l2 l3 l4 M = some r → GW dd 0 0 X_X7_readJoined 5 [(0, vr l0), (1, vi l1), (2, vi l2), (3, vi l3), (4, vi l4)] [] M (none, r)) (l0 : Option Nat) (l1 : Int32) (l2 : Int32) (l3 : Int32) (l4 : Int32) (M : gM) (h : F_X7_readJoined_b5 cJ cF k5 l0 l1 l2 l3 l4 M = some r) : GW dd 0 0 X_X7_readJoined 5 [(0, vr l0), (1, vi l1), (2, vi l2), (3, vi l3), (4, vi l4)] [] M (none, r) := by
  delta F_X7_readJoined_b5 at h
  refine GW_iload (X := X_X7_readJoined) (pc := 5) d_X7_readJoined_5 4 rfl ?_
  refine GW_sipush (X := X_X7_readJoined) (pc := 7) (v := 400) d_X7_readJoined_7 (by decide) ?_
  refine GW_icmp_gt (X := X_X7_readJoined) (pc := 10) 97 d_X7_readJoined_10 (by decide) (fun c => ?_) (fun c => ?_)
  · replace h := g_ip c h
    replace h := Option.some.inj h
    subst h
    exact GW_ret (X := X_X7_readJoined) (pc := 97) d_X7_readJoined_97 rfl trivial
  · replace h := g_ie c h
    refine GW_aload_n (X := X_X7_readJoined) (pc := 13) d_X7_readJoined_13 rfl 0 rfl ?_
    replace h := g_bd h
    obtain ⟨v1, hv1, h⟩ := h
    refine GW_getR (X := X_X7_readJoined) (pc := 14) f_X7_30 d_X7_readJoined_14 hv1 (Or.inl ⟨_, ty_7_0⟩) ?_
    replace h := g_bd h
    obtain ⟨i2, hi2, h⟩ := h
    obtain ⟨rfl, ki2⟩ := g_gO hi2
    replace h := g_bd h
    obtain ⟨v3, hv3, h⟩ := h
    refine GW_callV (X := X_X7_readJoined) (pc := 17) (bc0 := 0) (bs0 := 0) (r := some (vi v3)) (M2 := M) (c0 := 9) (T_X9_isFaulty (some i2) M v3 hv3) (Nat.le_trans (Nat.le_of_ble_eq_true rfl) hdd) (Nat.le_of_ble_eq_true rfl) rfl g_cok9 ki2 yc_X9_isFaulty ⟨m_700, m_622, m_623, m_123, m_624⟩ d_X7_readJoined_17 rfl (st := []) rfl (Nat.le_of_ble_eq_true rfl) (Nat.le_of_ble_eq_true rfl) (Nat.le_of_ble_eq_true rfl) (st2 := [vi v3]) rfl ?_
    refine GW_if_ne (X := X_X7_readJoined) (pc := 20) 97 d_X7_readJoined_20 (by decide) (fun c => ?_) (fun c => ?_)
    · replace h := g_ie c h
      replace h := Option.some.inj h
      subst h
      exact GW_ret (X := X_X7_readJoined) (pc := 97) d_X7_readJoined_97 rfl trivial
    · replace h := g_ip c h
      refine GW_iload_n (X := X_X7_readJoined) (pc := 23) d_X7_readJoined_23 rfl 1 rfl ?_
      refine GW_iconst (X := X_X7_readJoined) (pc := 24) (v := 3) d_X7_readJoined_24 (by decide) ?_
      refine GW_icmp_ne (X := X_X7_readJoined) (pc := 25) 35 d_X7_readJoined_25 (by decide) (fun c => ?_) (fun c => ?_)
      · replace h := g_ie c h
        refine GW_iload_n (X := X_X7_readJoined) (pc := 35) d_X7_readJoined_35 rfl 1 rfl ?_
        refine GW_iconst (X := X_X7_readJoined) (pc := 36) (v := 1) d_X7_readJoined_36 (by decide) ?_
        refine GW_icmp_ne (X := X_X7_readJoined) (pc := 37) 48 d_X7_readJoined_37 (by decide) (fun c => ?_) (fun c => ?_)
        · replace h := g_ie c h
          refine GW_aload_n (X := X_X7_readJoined) (pc := 48) d_X7_readJoined_48 rfl 0 rfl ?_
          refine GW_iload_n (X := X_X7_readJoined) (pc := 49) d_X7_readJoined_49 rfl 1 rfl ?_
          refine GW_iconst (X := X_X7_readJoined) (pc := 50) (v := 1) d_X7_readJoined_50 (by decide) ?_
          refine GW_iadd (X := X_X7_readJoined) (pc := 51) d_X7_readJoined_51 ?_
          refine GW_iload_n (X := X_X7_readJoined) (pc := 52) d_X7_readJoined_52 rfl 2 rfl ?_
          replace h := g_bd h
          obtain ⟨i4, hi4, h⟩ := h
          obtain ⟨rfl, ki4⟩ := g_gO hi4
          replace h := g_bd h
          obtain ⟨M5, hM5, h⟩ := h
          refine GW_callV (X := X_X7_readJoined) (pc := 53) (bc0 := 0) (bs0 := 0) (r := none) (M2 := M5) (c0 := 7) (hcJ (some i4) (l1 + (1 : Int32)) l2 M M5 hM5) hdj (Nat.le_of_ble_eq_true rfl) rfl g_cok7 ki4 yc_X7_readJoined ⟨m_696, m_698, m_14, m_125, m_699⟩ d_X7_readJoined_53 rfl (st := []) rfl (Nat.le_of_ble_eq_true rfl) (Nat.le_of_ble_eq_true rfl) (Nat.le_of_ble_eq_true rfl) (st2 := []) rfl ?_
          exact T_X7_readJoined_b56 cJ cF dj dd hdj hdd hcJ hcF k5 r hk5 (some i4) l1 l2 l3 l4 M5 h
        · replace h := g_ip c h
          refine GW_aload_n (X := X_X7_readJoined) (pc := 40) d_X7_readJoined_40 rfl 0 rfl ?_
          refine GW_iload_n (X := X_X7_readJoined) (pc := 41) d_X7_readJoined_41 rfl 2 rfl ?_
          replace h := g_bd h
          obtain ⟨i6, hi6, h⟩ := h
          obtain ⟨rfl, ki6⟩ := g_gO hi6
          replace h := g_bd h
          obtain ⟨M7, hM7, h⟩ := h
          refine GW_callV (X := X_X7_readJoined) (pc := 42) (bc0 := 0) (bs0 := 0) (r := none) (M2 := M7) (c0 := 7) (hcF (some i6) l2 M M7 hM7) hdj (Nat.le_of_ble_eq_true rfl) rfl g_cok7 ki6 yc_X7_readFact ⟨m_715, m_717, m_18, m_125, m_718⟩ d_X7_readJoined_42 rfl (st := []) rfl (Nat.le_of_ble_eq_true rfl) (Nat.le_of_ble_eq_true rfl) (Nat.le_of_ble_eq_true rfl) (st2 := []) rfl ?_
          refine GW_goto (X := X_X7_readJoined) (pc := 45) 56 d_X7_readJoined_45 (by decide) ?_
          exact T_X7_readJoined_b56 cJ cF dj dd hdj hdd hcJ hcF k5 r hk5 (some i6) l1 l2 l3 l4 M7 h
      · replace h := g_ip c h
        refine GW_aload_n (X := X_X7_readJoined) (pc := 28) d_X7_readJoined_28 rfl 0 rfl ?_
        replace h := g_bd h
        obtain ⟨i8, hi8, h⟩ := h
        obtain ⟨rfl, ki8⟩ := g_gO hi8
        replace h := g_bd h
        obtain ⟨M9, hM9, h⟩ := h
        refine GW_callV (X := X_X7_readJoined) (pc := 29) (bc0 := 0) (bs0 := 0) (r := none) (M2 := M9) (c0 := 7) (T_X7_readValue (some i8) M M9 hM9) (Nat.le_trans (Nat.le_of_ble_eq_true rfl) hdd) (Nat.le_of_ble_eq_true rfl) rfl g_cok7 ki8 yc_X7_readValue ⟨m_701, m_703, m_15, m_125, m_704⟩ d_X7_readJoined_29 rfl (st := []) rfl (Nat.le_of_ble_eq_true rfl) (Nat.le_of_ble_eq_true rfl) (Nat.le_of_ble_eq_true rfl) (st2 := []) rfl ?_
        refine GW_goto (X := X_X7_readJoined) (pc := 32) 56 d_X7_readJoined_32 (by decide) ?_
        exact T_X7_readJoined_b56 cJ cF dj dd hdj hdd hcJ hcF k5 r hk5 (some i8) l1 l2 l3 l4 M9 h
def F_X7_readJoined_L5 (cJ : Option Nat → Int32 → Int32 → gM → Option gM) (cF : Option Nat → Int32 → gM → Option gM) : Nat → Option Nat → Int32 → Int32 → Int32 → Int32 → gM → Option gM
  | 0 => fun _ _ _ _ _ _ => none
  | n + 1 => F_X7_readJoined_b5 cJ cF (F_X7_readJoined_L5 cJ cF n)
theorem T_X7_readJoined_L5 (cJ : Option Nat → Int32 → Int32 → gM → Option gM) (cF : Option Nat → Int32 → gM → Option gM) (dj dd : Nat) (hdj : dj + 1 ≤ dd) (hdd : 3 ≤ dd) (hcJ : ∀ (a0 : Option Nat) (a1 a2 : Int32) (M : gM) (r : gM), cJ a0 a1 a2 M = some r → g_Met dj 0 0 yX7_readJoined (RX7, cX7_readJoined, 5, none, false) [vr a0, vi a1, vi a2] M (none, r)) (hcF : ∀ (a0 : Option Nat) (a1 : Int32) (M : gM) (r : gM), cF a0 a1 M = some r → g_Met dj 0 0 yX7_readFact (RX7, cX7_readFact, 4, none, false) [vr a0, vi a1] M (none, r)) (r : gM) : ∀ (n : Nat) (l0 : Option Nat) (l1 : Int32) (l2 : Int32) (l3 : Int32) (l4 : Int32) (M : gM), F_X7_readJoined_L5 cJ cF n l0 l1 l2 l3 l4 M = some r → GW dd 0 0 X_X7_readJoined 5 [(0, vr l0), (1, vi l1), (2, vi l2), (3, vi l3), (4, vi l4)] [] M (none, r) := by
  intro n
  induction n with
  | zero => intro l0 l1 l2 l3 l4 M h; exact g_no h
  | succ n ih => intro l0 l1 l2 l3 l4 M h; exact T_X7_readJoined_b5 cJ cF dj dd hdj hdd hcJ hcF (F_X7_readJoined_L5 cJ cF n) r ih l0 l1 l2 l3 l4 M h
def F_X7_readJoined_b0 (cJ : Option Nat → Int32 → Int32 → gM → Option gM) (cF : Option Nat → Int32 → gM → Option gM) (l0 : Option Nat) (l1 : Int32) (l2 : Int32) (M : gM) : Option gM :=
  F_X7_readJoined_L5 cJ cF g_fuel l0 l1 l2 (-1 : Int32) (0 : Int32) M
theorem T_X7_readJoined_b0 (cJ : Option Nat → Int32 → Int32 → gM → Option gM) (cF : Option Nat → Int32 → gM → Option gM) (dj dd : Nat) (hdj : dj + 1 ≤ dd) (hdd : 3 ≤ dd) (hcJ : ∀ (a0 : Option Nat) (a1 a2 : Int32) (M : gM) (r : gM), cJ a0 a1 a2 M = some r → g_Met dj 0 0 yX7_readJoined (RX7, cX7_readJoined, 5, none, false) [vr a0, vi a1, vi a2] M (none, r)) (hcF : ∀ (a0 : Option Nat) (a1 : Int32) (M : gM) (r : gM), cF a0 a1 M = some r → g_Met dj 0 0 yX7_readFact (RX7, cX7_readFact, 4, none, false) [vr a0, vi a1] M (none, r)) (r : gM) (l0 : Option Nat) (l1 : Int32) (l2 : Int32) (M : gM) (h : F_X7_readJoined_b0 cJ cF l0 l1 l2 M = some r) : GW dd 0 0 X_X7_readJoined 0 [(0, vr l0), (1, vi l1), (2, vi l2)] [] M (none, r) := by
  delta F_X7_readJoined_b0 at h
  refine GW_iconst (X := X_X7_readJoined) (pc := 0) (v := -1) d_X7_readJoined_0 (by decide) ?_
  refine GW_istore_n (X := X_X7_readJoined) (pc := 1) d_X7_readJoined_1 rfl (Nat.le_of_ble_eq_true rfl) (lv2 := [(3, vi (-1 : Int32)), (0, vr l0), (1, vi l1), (2, vi l2)]) rfl ?_
  refine GW_iconst (X := X_X7_readJoined) (pc := 2) (v := 0) d_X7_readJoined_2 (by decide) ?_
  refine GW_istore (X := X_X7_readJoined) (pc := 3) d_X7_readJoined_3 (Nat.le_of_ble_eq_true rfl) (lv2 := [(4, vi (0 : Int32)), (3, vi (-1 : Int32)), (0, vr l0), (1, vi l1), (2, vi l2)]) rfl ?_
  refine GW_sub [2, 3, 4, 1, 0] rfl ?_
  exact T_X7_readJoined_L5 cJ cF dj dd hdj hdd hcJ hcF r g_fuel l0 l1 l2 (-1 : Int32) (0 : Int32) M h
def F_X7_readJoined_g (cJ : Option Nat → Int32 → Int32 → gM → Option gM) (cF : Option Nat → Int32 → gM → Option gM) (l0 : Option Nat) (l1 : Int32) (l2 : Int32) (M : gM) : Option gM := F_X7_readJoined_b0 cJ cF l0 l1 l2 M
theorem T_X7_readJoined_g (cJ : Option Nat → Int32 → Int32 → gM → Option gM) (cF : Option Nat → Int32 → gM → Option gM) (dj dd : Nat) (hdj : dj + 1 ≤ dd) (hdd : 3 ≤ dd) (hcJ : ∀ (a0 : Option Nat) (a1 a2 : Int32) (M : gM) (r : gM), cJ a0 a1 a2 M = some r → g_Met dj 0 0 yX7_readJoined (RX7, cX7_readJoined, 5, none, false) [vr a0, vi a1, vi a2] M (none, r)) (hcF : ∀ (a0 : Option Nat) (a1 : Int32) (M : gM) (r : gM), cF a0 a1 M = some r → g_Met dj 0 0 yX7_readFact (RX7, cX7_readFact, 4, none, false) [vr a0, vi a1] M (none, r)) (l0 : Option Nat) (l1 : Int32) (l2 : Int32) (M : gM) (r : gM) (h : F_X7_readJoined_g cJ cF l0 l1 l2 M = some r) : g_Met dd 0 0 yX7_readJoined X_X7_readJoined [vr l0, vi l1, vi l2] M (none, r) :=
  g_Met_of pn_RX7 rfl (Nat.le_of_ble_eq_true rfl) (fun h => by cases h) (GW_sub [0, 1, 2] rfl (T_X7_readJoined_b0 cJ cF dj dd hdj hdd hcJ hcF r l0 l1 l2 M h))
def F_rec : Nat → (Option Nat → Int32 → Int32 → gM → Option gM) × (Option Nat → Int32 → gM → Option gM)
  | 0 => (fun _ _ _ _ => none, fun _ _ _ => none)
  | n + 1 => (F_X7_readJoined_g (F_rec n).1 (F_rec n).2, F_X7_readFact_g (F_rec n).1 (F_rec n).2)
theorem T_rec : ∀ (n : Nat), (∀ (a0 : Option Nat) (a1 a2 : Int32) (M : gM) (r : gM), (F_rec n).1 a0 a1 a2 M = some r → g_Met (n + 3) 0 0 yX7_readJoined (RX7, cX7_readJoined, 5, none, false) [vr a0, vi a1, vi a2] M (none, r)) ∧ (∀ (a0 : Option Nat) (a1 : Int32) (M : gM) (r : gM), (F_rec n).2 a0 a1 M = some r → g_Met (n + 3) 0 0 yX7_readFact (RX7, cX7_readFact, 4, none, false) [vr a0, vi a1] M (none, r)) := by
  intro n
  induction n with
  | zero => exact ⟨fun _ _ _ _ _ h => g_no h, fun _ _ _ _ h => g_no h⟩
  | succ n ih =>
    refine ⟨fun a0 a1 a2 M r h => ?_, fun a0 a1 M r h => ?_⟩
    · exact T_X7_readJoined_g (F_rec n).1 (F_rec n).2 (n + 3) (n + 1 + 3) (by omega) (by omega) ih.1 ih.2 a0 a1 a2 M r h
    · exact T_X7_readFact_g (F_rec n).1 (F_rec n).2 (n + 3) (n + 1 + 3) (by omega) (by omega) ih.1 ih.2 a0 a1 M r h
def F_X7_readJoined (a0 : Option Nat) (a1 a2 : Int32) (M : gM) : Option gM := (F_rec 60).1 a0 a1 a2 M
theorem T_X7_readJoined (a0 : Option Nat) (a1 a2 : Int32) (M : gM) (r : gM) (h : F_X7_readJoined a0 a1 a2 M = some r) : g_Met 63 0 0 yX7_readJoined X_X7_readJoined [vr a0, vi a1, vi a2] M (none, r) := (T_rec 60).1 a0 a1 a2 M r h
/-! ForgetHeirs$RuleReader.readClause(I)V -/
theorem d_X7_readClause_0 : decode cX7_readClause 0 = .ok (.aload_n 0, 1) := by decide +kernel
theorem d_X7_readClause_1 : decode cX7_readClause 1 = .ok (.getfield 30, 3) := by decide +kernel
theorem d_X7_readClause_4 : decode cX7_readClause 4 = .ok (.invokevirtual 59, 3) := by decide +kernel
theorem d_X7_readClause_7 : decode cX7_readClause 7 = .ok (.sipush 278, 3) := by decide +kernel
theorem d_X7_readClause_10 : decode cX7_readClause 10 = .ok (.if_icmp .eq 19, 3) := by decide +kernel
theorem d_X7_readClause_13 : decode cX7_readClause 13 = .ok (.aload_n 0, 1) := by decide +kernel
theorem d_X7_readClause_14 : decode cX7_readClause 14 = .ok (.getfield 30, 3) := by decide +kernel
theorem d_X7_readClause_17 : decode cX7_readClause 17 = .ok (.aload_n 0, 1) := by decide +kernel
theorem d_X7_readClause_18 : decode cX7_readClause 18 = .ok (.getfield 30, 3) := by decide +kernel
theorem d_X7_readClause_21 : decode cX7_readClause 21 = .ok (.invokevirtual 63, 3) := by decide +kernel
theorem d_X7_readClause_24 : decode cX7_readClause 24 = .ok (.iconst 0, 1) := by decide +kernel
theorem d_X7_readClause_25 : decode cX7_readClause 25 = .ok (.invokevirtual 66, 3) := by decide +kernel
theorem d_X7_readClause_28 : decode cX7_readClause 28 = .ok (.return_, 1) := by decide +kernel
theorem d_X7_readClause_29 : decode cX7_readClause 29 = .ok (.iload_n 1, 1) := by decide +kernel
theorem d_X7_readClause_30 : decode cX7_readClause 30 = .ok (.bipush 12, 2) := by decide +kernel
theorem d_X7_readClause_32 : decode cX7_readClause 32 = .ok (.if_icmp .le 19, 3) := by decide +kernel
theorem d_X7_readClause_35 : decode cX7_readClause 35 = .ok (.aload_n 0, 1) := by decide +kernel
theorem d_X7_readClause_36 : decode cX7_readClause 36 = .ok (.getfield 30, 3) := by decide +kernel
theorem d_X7_readClause_39 : decode cX7_readClause 39 = .ok (.aload_n 0, 1) := by decide +kernel
theorem d_X7_readClause_40 : decode cX7_readClause 40 = .ok (.getfield 30, 3) := by decide +kernel
theorem d_X7_readClause_43 : decode cX7_readClause 43 = .ok (.invokevirtual 63, 3) := by decide +kernel
theorem d_X7_readClause_46 : decode cX7_readClause 46 = .ok (.iconst 4, 1) := by decide +kernel
theorem d_X7_readClause_47 : decode cX7_readClause 47 = .ok (.invokevirtual 66, 3) := by decide +kernel
theorem d_X7_readClause_50 : decode cX7_readClause 50 = .ok (.return_, 1) := by decide +kernel
theorem d_X7_readClause_51 : decode cX7_readClause 51 = .ok (.aload_n 0, 1) := by decide +kernel
theorem d_X7_readClause_52 : decode cX7_readClause 52 = .ok (.getfield 30, 3) := by decide +kernel
theorem d_X7_readClause_55 : decode cX7_readClause 55 = .ok (.invokevirtual 70, 3) := by decide +kernel
theorem d_X7_readClause_58 : decode cX7_readClause 58 = .ok (.aload_n 0, 1) := by decide +kernel
theorem d_X7_readClause_59 : decode cX7_readClause 59 = .ok (.invokevirtual 73, 3) := by decide +kernel
theorem d_X7_readClause_62 : decode cX7_readClause 62 = .ok (.aload_n 0, 1) := by decide +kernel
theorem d_X7_readClause_63 : decode cX7_readClause 63 = .ok (.iconst 2, 1) := by decide +kernel
theorem d_X7_readClause_64 : decode cX7_readClause 64 = .ok (.iconst 0, 1) := by decide +kernel
theorem d_X7_readClause_65 : decode cX7_readClause 65 = .ok (.invokevirtual 76, 3) := by decide +kernel
theorem d_X7_readClause_68 : decode cX7_readClause 68 = .ok (.aload_n 0, 1) := by decide +kernel
theorem d_X7_readClause_69 : decode cX7_readClause 69 = .ok (.invokevirtual 73, 3) := by decide +kernel
theorem d_X7_readClause_72 : decode cX7_readClause 72 = .ok (.aload_n 0, 1) := by decide +kernel
theorem d_X7_readClause_73 : decode cX7_readClause 73 = .ok (.getfield 30, 3) := by decide +kernel
theorem d_X7_readClause_76 : decode cX7_readClause 76 = .ok (.invokevirtual 45, 3) := by decide +kernel
theorem d_X7_readClause_79 : decode cX7_readClause 79 = .ok (.ifCond .ne 29, 3) := by decide +kernel
theorem d_X7_readClause_82 : decode cX7_readClause 82 = .ok (.aload_n 0, 1) := by decide +kernel
theorem d_X7_readClause_83 : decode cX7_readClause 83 = .ok (.getfield 30, 3) := by decide +kernel
theorem d_X7_readClause_86 : decode cX7_readClause 86 = .ok (.invokevirtual 59, 3) := by decide +kernel
theorem d_X7_readClause_89 : decode cX7_readClause 89 = .ok (.sipush 279, 3) := by decide +kernel
theorem d_X7_readClause_92 : decode cX7_readClause 92 = .ok (.if_icmp .ne 16, 3) := by decide +kernel
theorem d_X7_readClause_95 : decode cX7_readClause 95 = .ok (.aload_n 0, 1) := by decide +kernel
theorem d_X7_readClause_96 : decode cX7_readClause 96 = .ok (.getfield 30, 3) := by decide +kernel
theorem d_X7_readClause_99 : decode cX7_readClause 99 = .ok (.invokevirtual 70, 3) := by decide +kernel
theorem d_X7_readClause_102 : decode cX7_readClause 102 = .ok (.aload_n 0, 1) := by decide +kernel
theorem d_X7_readClause_103 : decode cX7_readClause 103 = .ok (.iconst 0, 1) := by decide +kernel
theorem d_X7_readClause_104 : decode cX7_readClause 104 = .ok (.iconst 0, 1) := by decide +kernel
theorem d_X7_readClause_105 : decode cX7_readClause 105 = .ok (.invokevirtual 76, 3) := by decide +kernel
theorem d_X7_readClause_108 : decode cX7_readClause 108 = .ok (.aload_n 0, 1) := by decide +kernel
theorem d_X7_readClause_109 : decode cX7_readClause 109 = .ok (.invokevirtual 73, 3) := by decide +kernel
theorem d_X7_readClause_112 : decode cX7_readClause 112 = .ok (.return_, 1) := by decide +kernel
abbrev X_X7_readClause : gX := (RX7, cX7_readClause, 2, none, false)
def F_X7_readClause_b108 (l0 : Option Nat) (M : gM) : Option gM :=
  (gO 7 M l0).bind fun i1 => (F_X7_mark (some i1) M).bind fun M2 => some M2
theorem T_X7_readClause_b108 (r : gM) (l0 : Option Nat) (M : gM) (h : F_X7_readClause_b108 l0 M = some r) : GW 64 0 0 X_X7_readClause 108 [(0, vr l0)] [] M (none, r) := by
  delta F_X7_readClause_b108 at h
  refine GW_aload_n (X := X_X7_readClause) (pc := 108) d_X7_readClause_108 rfl 0 rfl ?_
  replace h := g_bd h
  obtain ⟨i1, hi1, h⟩ := h
  obtain ⟨rfl, ki1⟩ := g_gO hi1
  replace h := g_bd h
  obtain ⟨M2, hM2, h⟩ := h
  refine GW_callV (X := X_X7_readClause) (pc := 109) (bc0 := 0) (bs0 := 0) (r := none) (M2 := M2) (c0 := 7) (T_X7_mark (some i1) M M2 hM2) (Nat.le_of_ble_eq_true rfl) (Nat.le_of_ble_eq_true rfl) rfl g_cok7 ki1 yc_X7_mark ⟨m_692, m_694, m_13, m_125, m_695⟩ d_X7_readClause_109 rfl (st := []) rfl (Nat.le_of_ble_eq_true rfl) (Nat.le_of_ble_eq_true rfl) (Nat.le_of_ble_eq_true rfl) (st2 := []) rfl ?_
  replace h := Option.some.inj h
  subst h
  exact GW_ret (X := X_X7_readClause) (pc := 112) d_X7_readClause_112 rfl trivial
def F_X7_readClause_b0 (l0 : Option Nat) (l1 : Int32) (M : gM) : Option gM :=
  (gR 7 M l0 0).bind fun v1 => (gO 9 M v1).bind fun i2 => (F_X9_kind (some i2) M).bind fun v3 => if v3 = (278 : Int32) then (if l1 ≤ (12 : Int32) then ((gR 7 M l0 0).bind fun v4 => (gO 9 M v4).bind fun i5 => (F_X9_next (some i5) M).bind fun M6 => (gO 7 M6 l0).bind fun i7 => (F_X7_mark (some i7) M6).bind fun M8 => (gC 7 M8 i7).bind fun _ => (F_X7_readJoined (some i7) (2 : Int32) (0 : Int32) M8).bind fun M10 => (gC 7 M10 i7).bind fun _ => (F_X7_mark (some i7) M10).bind fun M12 => (gR 7 M12 (some i7) 0).bind fun v13 => (gO 9 M12 v13).bind fun i14 => (F_X9_isFaulty (some i14) M12).bind fun v15 => if v15 = 0 then ((gR 7 M12 (some i7) 0).bind fun v16 => (gO 9 M12 v16).bind fun i17 => (F_X9_kind (some i17) M12).bind fun v18 => if v18 = (279 : Int32) then ((gR 7 M12 (some i7) 0).bind fun v19 => (gO 9 M12 v19).bind fun i20 => (F_X9_next (some i20) M12).bind fun M21 => (gC 7 M21 i7).bind fun _ => (F_X7_readJoined (some i7) (0 : Int32) (0 : Int32) M21).bind fun M23 => F_X7_readClause_b108 (some i7) M23) else (F_X7_readClause_b108 (some i7) M12)) else (F_X7_readClause_b108 (some i7) M12)) else ((gR 7 M l0 0).bind fun v24 => (gR 7 M l0 0).bind fun v25 => (gO 9 M v25).bind fun i26 => (F_X9_place (some i26) M).bind fun v27 => (gO 9 M v24).bind fun i28 => (F_X9_blame (some i28) v27 (4 : Int32) M).bind fun M29 => some M29)) else ((gR 7 M l0 0).bind fun v30 => (gR 7 M l0 0).bind fun v31 => (gO 9 M v31).bind fun i32 => (F_X9_place (some i32) M).bind fun v33 => (gO 9 M v30).bind fun i34 => (F_X9_blame (some i34) v33 (0 : Int32) M).bind fun M35 => some M35)
set_option maxHeartbeats 4000000 in
theorem T_X7_readClause_b0 (r : gM) (l0 : Option Nat) (l1 : Int32) (M : gM) (h : F_X7_readClause_b0 l0 l1 M = some r) : GW 64 0 0 X_X7_readClause 0 [(0, vr l0), (1, vi l1)] [] M (none, r) := by
  delta F_X7_readClause_b0 at h
  refine GW_aload_n (X := X_X7_readClause) (pc := 0) d_X7_readClause_0 rfl 0 rfl ?_
  replace h := g_bd h
  obtain ⟨v1, hv1, h⟩ := h
  refine GW_getR (X := X_X7_readClause) (pc := 1) f_X7_30 d_X7_readClause_1 hv1 (Or.inl ⟨_, ty_7_0⟩) ?_
  replace h := g_bd h
  obtain ⟨i2, hi2, h⟩ := h
  obtain ⟨rfl, ki2⟩ := g_gO hi2
  replace h := g_bd h
  obtain ⟨v3, hv3, h⟩ := h
  refine GW_callV (X := X_X7_readClause) (pc := 4) (bc0 := 0) (bs0 := 0) (r := some (vi v3)) (M2 := M) (c0 := 9) (T_X9_kind (some i2) M v3 hv3) (Nat.le_of_ble_eq_true rfl) (Nat.le_of_ble_eq_true rfl) rfl g_cok9 ki2 yc_X9_kind ⟨m_688, m_591, m_592, m_123, m_593⟩ d_X7_readClause_4 rfl (st := []) rfl (Nat.le_of_ble_eq_true rfl) (Nat.le_of_ble_eq_true rfl) (Nat.le_of_ble_eq_true rfl) (st2 := [vi v3]) rfl ?_
  refine GW_sipush (X := X_X7_readClause) (pc := 7) (v := 278) d_X7_readClause_7 (by decide) ?_
  refine GW_icmp_eq (X := X_X7_readClause) (pc := 10) 29 d_X7_readClause_10 (by decide) (fun c => ?_) (fun c => ?_)
  · replace h := g_ip c h
    refine GW_iload_n (X := X_X7_readClause) (pc := 29) d_X7_readClause_29 rfl 1 rfl ?_
    refine GW_bipush (X := X_X7_readClause) (pc := 30) (v := 12) d_X7_readClause_30 (by decide) ?_
    refine GW_icmp_le (X := X_X7_readClause) (pc := 32) 51 d_X7_readClause_32 (by decide) (fun c => ?_) (fun c => ?_)
    · replace h := g_ip c h
      refine GW_aload_n (X := X_X7_readClause) (pc := 51) d_X7_readClause_51 rfl 0 rfl ?_
      replace h := g_bd h
      obtain ⟨v4, hv4, h⟩ := h
      refine GW_getR (X := X_X7_readClause) (pc := 52) f_X7_30 d_X7_readClause_52 hv4 (Or.inl ⟨_, ty_7_0⟩) ?_
      replace h := g_bd h
      obtain ⟨i5, hi5, h⟩ := h
      obtain ⟨rfl, ki5⟩ := g_gO hi5
      replace h := g_bd h
      obtain ⟨M6, hM6, h⟩ := h
      refine GW_callV (X := X_X7_readClause) (pc := 55) (bc0 := 0) (bs0 := 0) (r := none) (M2 := M6) (c0 := 9) (T_X9_next (some i5) M M6 hM6) (Nat.le_of_ble_eq_true rfl) (Nat.le_of_ble_eq_true rfl) rfl g_cok9 ki5 yc_X9_next ⟨m_691, m_610, m_611, m_123, m_612⟩ d_X7_readClause_55 rfl (st := []) rfl (Nat.le_of_ble_eq_true rfl) (Nat.le_of_ble_eq_true rfl) (Nat.le_of_ble_eq_true rfl) (st2 := []) rfl ?_
      refine GW_aload_n (X := X_X7_readClause) (pc := 58) d_X7_readClause_58 rfl 0 rfl ?_
      replace h := g_bd h
      obtain ⟨i7, hi7, h⟩ := h
      obtain ⟨rfl, ki7⟩ := g_gO hi7
      replace h := g_bd h
      obtain ⟨M8, hM8, h⟩ := h
      refine GW_callV (X := X_X7_readClause) (pc := 59) (bc0 := 0) (bs0 := 0) (r := none) (M2 := M8) (c0 := 7) (T_X7_mark (some i7) M6 M8 hM8) (Nat.le_of_ble_eq_true rfl) (Nat.le_of_ble_eq_true rfl) rfl g_cok7 ki7 yc_X7_mark ⟨m_692, m_694, m_13, m_125, m_695⟩ d_X7_readClause_59 rfl (st := []) rfl (Nat.le_of_ble_eq_true rfl) (Nat.le_of_ble_eq_true rfl) (Nat.le_of_ble_eq_true rfl) (st2 := []) rfl ?_
      refine GW_aload_n (X := X_X7_readClause) (pc := 62) d_X7_readClause_62 rfl 0 rfl ?_
      refine GW_iconst (X := X_X7_readClause) (pc := 63) (v := 2) d_X7_readClause_63 (by decide) ?_
      refine GW_iconst (X := X_X7_readClause) (pc := 64) (v := 0) d_X7_readClause_64 (by decide) ?_
      replace h := g_bd h
      obtain ⟨_, kk9, h⟩ := h
      replace kk9 := g_gC kk9
      replace h := g_bd h
      obtain ⟨M10, hM10, h⟩ := h
      refine GW_callV (X := X_X7_readClause) (pc := 65) (bc0 := 0) (bs0 := 0) (r := none) (M2 := M10) (c0 := 7) (T_X7_readJoined (some i7) (2 : Int32) (0 : Int32) M8 M10 hM10) (Nat.le_of_ble_eq_true rfl) (Nat.le_of_ble_eq_true rfl) rfl g_cok7 kk9 yc_X7_readJoined ⟨m_696, m_698, m_14, m_125, m_699⟩ d_X7_readClause_65 rfl (st := []) rfl (Nat.le_of_ble_eq_true rfl) (Nat.le_of_ble_eq_true rfl) (Nat.le_of_ble_eq_true rfl) (st2 := []) rfl ?_
      refine GW_aload_n (X := X_X7_readClause) (pc := 68) d_X7_readClause_68 rfl 0 rfl ?_
      replace h := g_bd h
      obtain ⟨_, kk11, h⟩ := h
      replace kk11 := g_gC kk11
      replace h := g_bd h
      obtain ⟨M12, hM12, h⟩ := h
      refine GW_callV (X := X_X7_readClause) (pc := 69) (bc0 := 0) (bs0 := 0) (r := none) (M2 := M12) (c0 := 7) (T_X7_mark (some i7) M10 M12 hM12) (Nat.le_of_ble_eq_true rfl) (Nat.le_of_ble_eq_true rfl) rfl g_cok7 kk11 yc_X7_mark ⟨m_692, m_694, m_13, m_125, m_695⟩ d_X7_readClause_69 rfl (st := []) rfl (Nat.le_of_ble_eq_true rfl) (Nat.le_of_ble_eq_true rfl) (Nat.le_of_ble_eq_true rfl) (st2 := []) rfl ?_
      refine GW_aload_n (X := X_X7_readClause) (pc := 72) d_X7_readClause_72 rfl 0 rfl ?_
      replace h := g_bd h
      obtain ⟨v13, hv13, h⟩ := h
      refine GW_getR (X := X_X7_readClause) (pc := 73) f_X7_30 d_X7_readClause_73 hv13 (Or.inl ⟨_, ty_7_0⟩) ?_
      replace h := g_bd h
      obtain ⟨i14, hi14, h⟩ := h
      obtain ⟨rfl, ki14⟩ := g_gO hi14
      replace h := g_bd h
      obtain ⟨v15, hv15, h⟩ := h
      refine GW_callV (X := X_X7_readClause) (pc := 76) (bc0 := 0) (bs0 := 0) (r := some (vi v15)) (M2 := M12) (c0 := 9) (T_X9_isFaulty (some i14) M12 v15 hv15) (Nat.le_of_ble_eq_true rfl) (Nat.le_of_ble_eq_true rfl) rfl g_cok9 ki14 yc_X9_isFaulty ⟨m_700, m_622, m_623, m_123, m_624⟩ d_X7_readClause_76 rfl (st := []) rfl (Nat.le_of_ble_eq_true rfl) (Nat.le_of_ble_eq_true rfl) (Nat.le_of_ble_eq_true rfl) (st2 := [vi v15]) rfl ?_
      refine GW_if_ne (X := X_X7_readClause) (pc := 79) 108 d_X7_readClause_79 (by decide) (fun c => ?_) (fun c => ?_)
      · replace h := g_ie c h
        refine GW_sub [0] rfl ?_
        exact T_X7_readClause_b108 r (some i7) M12 h
      · replace h := g_ip c h
        refine GW_aload_n (X := X_X7_readClause) (pc := 82) d_X7_readClause_82 rfl 0 rfl ?_
        replace h := g_bd h
        obtain ⟨v16, hv16, h⟩ := h
        refine GW_getR (X := X_X7_readClause) (pc := 83) f_X7_30 d_X7_readClause_83 hv16 (Or.inl ⟨_, ty_7_0⟩) ?_
        replace h := g_bd h
        obtain ⟨i17, hi17, h⟩ := h
        obtain ⟨rfl, ki17⟩ := g_gO hi17
        replace h := g_bd h
        obtain ⟨v18, hv18, h⟩ := h
        refine GW_callV (X := X_X7_readClause) (pc := 86) (bc0 := 0) (bs0 := 0) (r := some (vi v18)) (M2 := M12) (c0 := 9) (T_X9_kind (some i17) M12 v18 hv18) (Nat.le_of_ble_eq_true rfl) (Nat.le_of_ble_eq_true rfl) rfl g_cok9 ki17 yc_X9_kind ⟨m_688, m_591, m_592, m_123, m_593⟩ d_X7_readClause_86 rfl (st := []) rfl (Nat.le_of_ble_eq_true rfl) (Nat.le_of_ble_eq_true rfl) (Nat.le_of_ble_eq_true rfl) (st2 := [vi v18]) rfl ?_
        refine GW_sipush (X := X_X7_readClause) (pc := 89) (v := 279) d_X7_readClause_89 (by decide) ?_
        refine GW_icmp_ne (X := X_X7_readClause) (pc := 92) 108 d_X7_readClause_92 (by decide) (fun c => ?_) (fun c => ?_)
        · replace h := g_ie c h
          refine GW_sub [0] rfl ?_
          exact T_X7_readClause_b108 r (some i7) M12 h
        · replace h := g_ip c h
          refine GW_aload_n (X := X_X7_readClause) (pc := 95) d_X7_readClause_95 rfl 0 rfl ?_
          replace h := g_bd h
          obtain ⟨v19, hv19, h⟩ := h
          refine GW_getR (X := X_X7_readClause) (pc := 96) f_X7_30 d_X7_readClause_96 hv19 (Or.inl ⟨_, ty_7_0⟩) ?_
          replace h := g_bd h
          obtain ⟨i20, hi20, h⟩ := h
          obtain ⟨rfl, ki20⟩ := g_gO hi20
          replace h := g_bd h
          obtain ⟨M21, hM21, h⟩ := h
          refine GW_callV (X := X_X7_readClause) (pc := 99) (bc0 := 0) (bs0 := 0) (r := none) (M2 := M21) (c0 := 9) (T_X9_next (some i20) M12 M21 hM21) (Nat.le_of_ble_eq_true rfl) (Nat.le_of_ble_eq_true rfl) rfl g_cok9 ki20 yc_X9_next ⟨m_691, m_610, m_611, m_123, m_612⟩ d_X7_readClause_99 rfl (st := []) rfl (Nat.le_of_ble_eq_true rfl) (Nat.le_of_ble_eq_true rfl) (Nat.le_of_ble_eq_true rfl) (st2 := []) rfl ?_
          refine GW_aload_n (X := X_X7_readClause) (pc := 102) d_X7_readClause_102 rfl 0 rfl ?_
          refine GW_iconst (X := X_X7_readClause) (pc := 103) (v := 0) d_X7_readClause_103 (by decide) ?_
          refine GW_iconst (X := X_X7_readClause) (pc := 104) (v := 0) d_X7_readClause_104 (by decide) ?_
          replace h := g_bd h
          obtain ⟨_, kk22, h⟩ := h
          replace kk22 := g_gC kk22
          replace h := g_bd h
          obtain ⟨M23, hM23, h⟩ := h
          refine GW_callV (X := X_X7_readClause) (pc := 105) (bc0 := 0) (bs0 := 0) (r := none) (M2 := M23) (c0 := 7) (T_X7_readJoined (some i7) (0 : Int32) (0 : Int32) M21 M23 hM23) (Nat.le_of_ble_eq_true rfl) (Nat.le_of_ble_eq_true rfl) rfl g_cok7 kk22 yc_X7_readJoined ⟨m_696, m_698, m_14, m_125, m_699⟩ d_X7_readClause_105 rfl (st := []) rfl (Nat.le_of_ble_eq_true rfl) (Nat.le_of_ble_eq_true rfl) (Nat.le_of_ble_eq_true rfl) (st2 := []) rfl ?_
          refine GW_sub [0] rfl ?_
          exact T_X7_readClause_b108 r (some i7) M23 h
    · replace h := g_ie c h
      refine GW_aload_n (X := X_X7_readClause) (pc := 35) d_X7_readClause_35 rfl 0 rfl ?_
      replace h := g_bd h
      obtain ⟨v24, hv24, h⟩ := h
      refine GW_getR (X := X_X7_readClause) (pc := 36) f_X7_30 d_X7_readClause_36 hv24 (Or.inl ⟨_, ty_7_0⟩) ?_
      refine GW_aload_n (X := X_X7_readClause) (pc := 39) d_X7_readClause_39 rfl 0 rfl ?_
      replace h := g_bd h
      obtain ⟨v25, hv25, h⟩ := h
      refine GW_getR (X := X_X7_readClause) (pc := 40) f_X7_30 d_X7_readClause_40 hv25 (Or.inl ⟨_, ty_7_0⟩) ?_
      replace h := g_bd h
      obtain ⟨i26, hi26, h⟩ := h
      obtain ⟨rfl, ki26⟩ := g_gO hi26
      replace h := g_bd h
      obtain ⟨v27, hv27, h⟩ := h
      refine GW_callV (X := X_X7_readClause) (pc := 43) (bc0 := 0) (bs0 := 0) (r := some (vi v27)) (M2 := M) (c0 := 9) (T_X9_place (some i26) M v27 hv27) (Nat.le_of_ble_eq_true rfl) (Nat.le_of_ble_eq_true rfl) rfl g_cok9 ki26 yc_X9_place ⟨m_689, m_598, m_599, m_123, m_600⟩ d_X7_readClause_43 rfl (st := [vr v24]) rfl (Nat.le_of_ble_eq_true rfl) (Nat.le_of_ble_eq_true rfl) (Nat.le_of_ble_eq_true rfl) (st2 := [vi v27, vr v24]) rfl ?_
      refine GW_iconst (X := X_X7_readClause) (pc := 46) (v := 4) d_X7_readClause_46 (by decide) ?_
      replace h := g_bd h
      obtain ⟨i28, hi28, h⟩ := h
      obtain ⟨rfl, ki28⟩ := g_gO hi28
      replace h := g_bd h
      obtain ⟨M29, hM29, h⟩ := h
      refine GW_callV (X := X_X7_readClause) (pc := 47) (bc0 := 0) (bs0 := 0) (r := none) (M2 := M29) (c0 := 9) (T_X9_blame (some i28) v27 (4 : Int32) M M29 hM29) (Nat.le_of_ble_eq_true rfl) (Nat.le_of_ble_eq_true rfl) rfl g_cok9 ki28 yc_X9_blame ⟨m_690, m_602, m_603, m_123, m_604⟩ d_X7_readClause_47 rfl (st := []) rfl (Nat.le_of_ble_eq_true rfl) (Nat.le_of_ble_eq_true rfl) (Nat.le_of_ble_eq_true rfl) (st2 := []) rfl ?_
      replace h := Option.some.inj h
      subst h
      exact GW_ret (X := X_X7_readClause) (pc := 50) d_X7_readClause_50 rfl trivial
  · replace h := g_ie c h
    refine GW_aload_n (X := X_X7_readClause) (pc := 13) d_X7_readClause_13 rfl 0 rfl ?_
    replace h := g_bd h
    obtain ⟨v30, hv30, h⟩ := h
    refine GW_getR (X := X_X7_readClause) (pc := 14) f_X7_30 d_X7_readClause_14 hv30 (Or.inl ⟨_, ty_7_0⟩) ?_
    refine GW_aload_n (X := X_X7_readClause) (pc := 17) d_X7_readClause_17 rfl 0 rfl ?_
    replace h := g_bd h
    obtain ⟨v31, hv31, h⟩ := h
    refine GW_getR (X := X_X7_readClause) (pc := 18) f_X7_30 d_X7_readClause_18 hv31 (Or.inl ⟨_, ty_7_0⟩) ?_
    replace h := g_bd h
    obtain ⟨i32, hi32, h⟩ := h
    obtain ⟨rfl, ki32⟩ := g_gO hi32
    replace h := g_bd h
    obtain ⟨v33, hv33, h⟩ := h
    refine GW_callV (X := X_X7_readClause) (pc := 21) (bc0 := 0) (bs0 := 0) (r := some (vi v33)) (M2 := M) (c0 := 9) (T_X9_place (some i32) M v33 hv33) (Nat.le_of_ble_eq_true rfl) (Nat.le_of_ble_eq_true rfl) rfl g_cok9 ki32 yc_X9_place ⟨m_689, m_598, m_599, m_123, m_600⟩ d_X7_readClause_21 rfl (st := [vr v30]) rfl (Nat.le_of_ble_eq_true rfl) (Nat.le_of_ble_eq_true rfl) (Nat.le_of_ble_eq_true rfl) (st2 := [vi v33, vr v30]) rfl ?_
    refine GW_iconst (X := X_X7_readClause) (pc := 24) (v := 0) d_X7_readClause_24 (by decide) ?_
    replace h := g_bd h
    obtain ⟨i34, hi34, h⟩ := h
    obtain ⟨rfl, ki34⟩ := g_gO hi34
    replace h := g_bd h
    obtain ⟨M35, hM35, h⟩ := h
    refine GW_callV (X := X_X7_readClause) (pc := 25) (bc0 := 0) (bs0 := 0) (r := none) (M2 := M35) (c0 := 9) (T_X9_blame (some i34) v33 (0 : Int32) M M35 hM35) (Nat.le_of_ble_eq_true rfl) (Nat.le_of_ble_eq_true rfl) rfl g_cok9 ki34 yc_X9_blame ⟨m_690, m_602, m_603, m_123, m_604⟩ d_X7_readClause_25 rfl (st := []) rfl (Nat.le_of_ble_eq_true rfl) (Nat.le_of_ble_eq_true rfl) (Nat.le_of_ble_eq_true rfl) (st2 := []) rfl ?_
    replace h := Option.some.inj h
    subst h
    exact GW_ret (X := X_X7_readClause) (pc := 28) d_X7_readClause_28 rfl trivial
def F_X7_readClause (l0 : Option Nat) (l1 : Int32) (M : gM) : Option gM := F_X7_readClause_b0 l0 l1 M
theorem T_X7_readClause (l0 : Option Nat) (l1 : Int32) (M : gM) (r : gM) (h : F_X7_readClause l0 l1 M = some r) : g_Met 64 0 0 yX7_readClause X_X7_readClause [vr l0, vi l1] M (none, r) :=
  g_Met_of pn_RX7 rfl (Nat.le_of_ble_eq_true rfl) (fun h => by cases h) (GW_sub [0, 1] rfl (T_X7_readClause_b0 r l0 l1 M h))
/-! java/util/Arrays.copyOf([II)[I -/
theorem d_J7_copyOf_59c91_0 : decode cJ7_copyOf_59c91 0 = .ok (.iload_n 1, 1) := by decide +kernel
theorem d_J7_copyOf_59c91_1 : decode cJ7_copyOf_59c91 1 = .ok (.aload_n 0, 1) := by decide +kernel
theorem d_J7_copyOf_59c91_2 : decode cJ7_copyOf_59c91 2 = .ok (.arraylength, 1) := by decide +kernel
theorem d_J7_copyOf_59c91_3 : decode cJ7_copyOf_59c91 3 = .ok (.if_icmp .ne 11, 3) := by decide +kernel
theorem d_J7_copyOf_59c91_6 : decode cJ7_copyOf_59c91 6 = .ok (.aload_n 0, 1) := by decide +kernel
theorem d_J7_copyOf_59c91_7 : decode cJ7_copyOf_59c91 7 = .ok (.invokevirtual 316, 3) := by decide +kernel
theorem d_J7_copyOf_59c91_10 : decode cJ7_copyOf_59c91 10 = .ok (.checkcast 317, 3) := by decide +kernel
theorem d_J7_copyOf_59c91_13 : decode cJ7_copyOf_59c91 13 = .ok (.areturn, 1) := by decide +kernel
theorem d_J7_copyOf_59c91_14 : decode cJ7_copyOf_59c91 14 = .ok (.iload_n 1, 1) := by decide +kernel
theorem d_J7_copyOf_59c91_15 : decode cJ7_copyOf_59c91 15 = .ok (.newarray .int, 2) := by decide +kernel
theorem d_J7_copyOf_59c91_17 : decode cJ7_copyOf_59c91 17 = .ok (.astore_n 2, 1) := by decide +kernel
theorem d_J7_copyOf_59c91_18 : decode cJ7_copyOf_59c91 18 = .ok (.aload_n 0, 1) := by decide +kernel
theorem d_J7_copyOf_59c91_19 : decode cJ7_copyOf_59c91 19 = .ok (.iconst 0, 1) := by decide +kernel
theorem d_J7_copyOf_59c91_20 : decode cJ7_copyOf_59c91 20 = .ok (.aload_n 2, 1) := by decide +kernel
theorem d_J7_copyOf_59c91_21 : decode cJ7_copyOf_59c91 21 = .ok (.iconst 0, 1) := by decide +kernel
theorem d_J7_copyOf_59c91_22 : decode cJ7_copyOf_59c91 22 = .ok (.aload_n 0, 1) := by decide +kernel
theorem d_J7_copyOf_59c91_23 : decode cJ7_copyOf_59c91 23 = .ok (.arraylength, 1) := by decide +kernel
theorem d_J7_copyOf_59c91_24 : decode cJ7_copyOf_59c91 24 = .ok (.iload_n 1, 1) := by decide +kernel
theorem d_J7_copyOf_59c91_25 : decode cJ7_copyOf_59c91 25 = .ok (.invokestatic 304, 3) := by decide +kernel
theorem d_J7_copyOf_59c91_28 : decode cJ7_copyOf_59c91 28 = .ok (.invokestatic 150, 3) := by decide +kernel
theorem d_J7_copyOf_59c91_31 : decode cJ7_copyOf_59c91 31 = .ok (.aload_n 2, 1) := by decide +kernel
theorem d_J7_copyOf_59c91_32 : decode cJ7_copyOf_59c91 32 = .ok (.areturn, 1) := by decide +kernel
abbrev X_J7_copyOf_59c91 : gX := ("java/util/Arrays", cJ7_copyOf_59c91, 3, (some (.array .int)), false)
def F_J7_copyOf_59c91_b0 (l0 : Option Nat) (l1 : Int32) (M : gM) : Option ((Option Nat) × gM) :=
  (aN M l0).bind fun v1 => if l1 = v1 then ((clI 400 M l0).bind fun M5 => some ((some M.1.length), M5)) else ((nwD 20 400 l1 M).bind fun M2 => (aN M2 l0).bind fun v3 => (cpI M2 l0 (0 : Int32) (some M.1.length) (0 : Int32) (if l1 < v3 then l1 else v3)).bind fun M4 => some ((some M.1.length), M4))
theorem T_J7_copyOf_59c91_b0 (r : ((Option Nat) × gM)) (l0 : Option Nat) (l1 : Int32) (M : gM) (h : F_J7_copyOf_59c91_b0 l0 l1 M = some r) : GW 1 1 400 X_J7_copyOf_59c91 0 [(0, vr l0), (1, vi l1)] [] M (some (vr r.1), r.2) := by
  delta F_J7_copyOf_59c91_b0 at h
  refine GW_iload_n (X := X_J7_copyOf_59c91) (pc := 0) d_J7_copyOf_59c91_0 rfl 1 rfl ?_
  refine GW_aload_n (X := X_J7_copyOf_59c91) (pc := 1) d_J7_copyOf_59c91_1 rfl 0 rfl ?_
  replace h := g_bd h
  obtain ⟨v1, hv1, h⟩ := h
  refine GW_alen (X := X_J7_copyOf_59c91) (pc := 2) d_J7_copyOf_59c91_2 hv1 ?_
  refine GW_icmp_ne (X := X_J7_copyOf_59c91) (pc := 3) 14 d_J7_copyOf_59c91_3 (by decide) (fun c => ?_) (fun c => ?_)
  · replace h := g_ie c h
    refine GW_iload_n (X := X_J7_copyOf_59c91) (pc := 14) d_J7_copyOf_59c91_14 rfl 1 rfl ?_
    replace h := g_bd h
    obtain ⟨M2, hM2, h⟩ := h
    refine GW_newaD (X := X_J7_copyOf_59c91) (pc := 15) (b := 400) g_w_arrc.1.1 d_J7_copyOf_59c91_15 hM2 (by decide) 0 0 rfl (Nat.le_of_ble_eq_true rfl) ?_
    refine GW_astore_n (X := X_J7_copyOf_59c91) (pc := 17) d_J7_copyOf_59c91_17 rfl (Nat.le_of_ble_eq_true rfl) (lv2 := [(2, vr (some M.1.length)), (0, vr l0), (1, vi l1)]) rfl ?_
    refine GW_aload_n (X := X_J7_copyOf_59c91) (pc := 18) d_J7_copyOf_59c91_18 rfl 1 rfl ?_
    refine GW_iconst (X := X_J7_copyOf_59c91) (pc := 19) (v := 0) d_J7_copyOf_59c91_19 (by decide) ?_
    refine GW_aload_n (X := X_J7_copyOf_59c91) (pc := 20) d_J7_copyOf_59c91_20 rfl 0 rfl ?_
    refine GW_iconst (X := X_J7_copyOf_59c91) (pc := 21) (v := 0) d_J7_copyOf_59c91_21 (by decide) ?_
    refine GW_aload_n (X := X_J7_copyOf_59c91) (pc := 22) d_J7_copyOf_59c91_22 rfl 1 rfl ?_
    replace h := g_bd h
    obtain ⟨v3, hv3, h⟩ := h
    refine GW_alen (X := X_J7_copyOf_59c91) (pc := 23) d_J7_copyOf_59c91_23 hv3 ?_
    refine GW_iload_n (X := X_J7_copyOf_59c91) (pc := 24) d_J7_copyOf_59c91_24 rfl 2 rfl ?_
    refine GW_mmin (X := X_J7_copyOf_59c91) (pc := 25) m_743 d_J7_copyOf_59c91_25 (Nat.le_of_ble_eq_true rfl) (Nat.le_of_ble_eq_true rfl) ?_
    replace h := g_bd h
    obtain ⟨M4, hM4, h⟩ := h
    refine GW_copy (X := X_J7_copyOf_59c91) (pc := 28) ⟨m_746, g_w_arr.1.2, g_w_arr.1.1, g_w_arr.2⟩ d_J7_copyOf_59c91_28 hM4 (Nat.le_of_ble_eq_true rfl) (Nat.le_of_ble_eq_true rfl) ?_
    refine GW_aload_n (X := X_J7_copyOf_59c91) (pc := 31) d_J7_copyOf_59c91_31 rfl 0 rfl ?_
    replace h := Option.some.inj h
    subst h
    exact GW_ret (X := X_J7_copyOf_59c91) (pc := 32) d_J7_copyOf_59c91_32 rfl trivial
  · replace h := g_ip c h
    refine GW_aload_n (X := X_J7_copyOf_59c91) (pc := 6) d_J7_copyOf_59c91_6 rfl 0 rfl ?_
    replace h := g_bd h
    obtain ⟨M5, hM5, h⟩ := h
    refine GW_clone (X := X_J7_copyOf_59c91) (pc := 7) rfl d_J7_copyOf_59c91_7 hM5 (Nat.le_of_ble_eq_true rfl) (Nat.le_of_ble_eq_true rfl) 0 0 rfl (Nat.le_of_ble_eq_true rfl) ?_
    refine GW_castI (X := X_J7_copyOf_59c91) (pc := 10) rfl d_J7_copyOf_59c91_10 (g_cl_k hM5) ?_
    replace h := Option.some.inj h
    subst h
    exact GW_ret (X := X_J7_copyOf_59c91) (pc := 13) d_J7_copyOf_59c91_13 rfl trivial
def F_J7_copyOf_59c91 (l0 : Option Nat) (l1 : Int32) (M : gM) : Option ((Option Nat) × gM) := F_J7_copyOf_59c91_b0 l0 l1 M
theorem T_J7_copyOf_59c91 (l0 : Option Nat) (l1 : Int32) (M : gM) (r : ((Option Nat) × gM)) (h : F_J7_copyOf_59c91 l0 l1 M = some r) : g_Met 1 1 400 yJ7_copyOf_59c91 X_J7_copyOf_59c91 [vr l0, vi l1] M (some (vr r.1), r.2) :=
  g_Met_of pn__java_util_Arrays_ rfl (Nat.le_of_ble_eq_true rfl) (fun h => by cases h) (GW_sub [0, 1] rfl (T_J7_copyOf_59c91_b0 r l0 l1 M h))
/-! ForgetHeirs$Rule.<init>([I[I)V -/
theorem d_X6_init_0 : decode cX6_init 0 = .ok (.aload_n 0, 1) := by decide +kernel
theorem d_X6_init_1 : decode cX6_init 1 = .ok (.invokespecial 1, 3) := by decide +kernel
theorem d_X6_init_4 : decode cX6_init 4 = .ok (.aload_n 0, 1) := by decide +kernel
theorem d_X6_init_5 : decode cX6_init 5 = .ok (.aload_n 1, 1) := by decide +kernel
theorem d_X6_init_6 : decode cX6_init 6 = .ok (.putfield 7, 3) := by decide +kernel
theorem d_X6_init_9 : decode cX6_init 9 = .ok (.aload_n 0, 1) := by decide +kernel
theorem d_X6_init_10 : decode cX6_init 10 = .ok (.aload_n 2, 1) := by decide +kernel
theorem d_X6_init_11 : decode cX6_init 11 = .ok (.putfield 13, 3) := by decide +kernel
theorem d_X6_init_14 : decode cX6_init 14 = .ok (.return_, 1) := by decide +kernel
abbrev X_X6_init : gX := (RX6, cX6_init, 3, none, true)
def F_X6_init_b0 (l0 : Nat) (l1 : Option Nat) (l2 : Option Nat) (M : gM) : Option gM :=
  (pR 6 M (some l0) 0 l1).bind fun M1 => (pR 6 M1 (some l0) 1 l2).bind fun M2 => some M2
theorem T_X6_init_b0 (r : gM) (l0 : Nat) (l1 : Option Nat) (l2 : Option Nat) (M : gM) (h : F_X6_init_b0 l0 l1 l2 M = some r) : GW 1 0 0 X_X6_init 0 [(0, vr (some l0)), (1, vr l1), (2, vr l2)] [] M (none, r) := by
  delta F_X6_init_b0 at h
  refine GW_aload_n (X := X_X6_init) (pc := 0) d_X6_init_0 rfl 0 rfl ?_
  refine GW_objInit (X := X_X6_init) (pc := 1) ⟨m_750, g_w_objI.1, g_w_objI.2⟩ d_X6_init_1 (Nat.le_of_ble_eq_true rfl) (Nat.le_of_ble_eq_true rfl) ?_
  refine GW_aload_n (X := X_X6_init) (pc := 4) d_X6_init_4 rfl 0 rfl ?_
  refine GW_aload_n (X := X_X6_init) (pc := 5) d_X6_init_5 rfl 1 rfl ?_
  replace h := g_bd h
  obtain ⟨M1, hM1, h⟩ := h
  refine GW_putR (X := X_X6_init) (pc := 6) f_X6_7 d_X6_init_6 hM1 (Or.inr ⟨rfl, fi_6_0⟩) (Or.inr ⟨_, ty_6_0⟩) ?_
  refine GW_aload_n (X := X_X6_init) (pc := 9) d_X6_init_9 rfl 0 rfl ?_
  refine GW_aload_n (X := X_X6_init) (pc := 10) d_X6_init_10 rfl 2 rfl ?_
  replace h := g_bd h
  obtain ⟨M2, hM2, h⟩ := h
  refine GW_putR (X := X_X6_init) (pc := 11) f_X6_13 d_X6_init_11 hM2 (Or.inr ⟨rfl, fi_6_1⟩) (Or.inr ⟨_, ty_6_1⟩) ?_
  replace h := Option.some.inj h
  subst h
  exact GW_ret (X := X_X6_init) (pc := 14) d_X6_init_14 rfl trivial
def F_X6_init (l0 : Nat) (l1 : Option Nat) (l2 : Option Nat) (M : gM) : Option gM := F_X6_init_b0 l0 l1 l2 M
theorem T_X6_init (l0 : Nat) (l1 : Option Nat) (l2 : Option Nat) (M : gM) (r : gM) (h : F_X6_init l0 l1 l2 M = some r) : g_Met 1 0 0 yX6_init X_X6_init [vr (some l0), vr l1, vr l2] M (none, r) :=
  g_Met_of pn_RX6 rfl (Nat.le_of_ble_eq_true rfl) (fun _ => rfl) (GW_sub [0, 1, 2] rfl (T_X6_init_b0 r l0 l1 l2 M h))
/-! ForgetHeirs$RuleReader.read()LForgetHeirs$Rule; -/
theorem d_X7_read_0 : decode cX7_read 0 = .ok (.aload_n 0, 1) := by decide +kernel
theorem d_X7_read_1 : decode cX7_read 1 = .ok (.getfield 30, 3) := by decide +kernel
theorem d_X7_read_4 : decode cX7_read 4 = .ok (.invokevirtual 34, 3) := by decide +kernel
theorem d_X7_read_7 : decode cX7_read 7 = .ok (.aload_n 0, 1) := by decide +kernel
theorem d_X7_read_8 : decode cX7_read 8 = .ok (.iconst 0, 1) := by decide +kernel
theorem d_X7_read_9 : decode cX7_read 9 = .ok (.putfield 20, 3) := by decide +kernel
theorem d_X7_read_12 : decode cX7_read 12 = .ok (.aload_n 0, 1) := by decide +kernel
theorem d_X7_read_13 : decode cX7_read 13 = .ok (.iconst 0, 1) := by decide +kernel
theorem d_X7_read_14 : decode cX7_read 14 = .ok (.putfield 24, 3) := by decide +kernel
theorem d_X7_read_17 : decode cX7_read 17 = .ok (.aload_n 0, 1) := by decide +kernel
theorem d_X7_read_18 : decode cX7_read 18 = .ok (.iconst 0, 1) := by decide +kernel
theorem d_X7_read_19 : decode cX7_read 19 = .ok (.putfield 27, 3) := by decide +kernel
theorem d_X7_read_22 : decode cX7_read 22 = .ok (.iconst 1, 1) := by decide +kernel
theorem d_X7_read_23 : decode cX7_read 23 = .ok (.istore_n 1, 1) := by decide +kernel
theorem d_X7_read_24 : decode cX7_read 24 = .ok (.iconst 1, 1) := by decide +kernel
theorem d_X7_read_25 : decode cX7_read 25 = .ok (.istore_n 2, 1) := by decide +kernel
theorem d_X7_read_26 : decode cX7_read 26 = .ok (.iload_n 2, 1) := by decide +kernel
theorem d_X7_read_27 : decode cX7_read 27 = .ok (.bipush 13, 2) := by decide +kernel
theorem d_X7_read_29 : decode cX7_read 29 = .ok (.if_icmp .gt 26, 3) := by decide +kernel
theorem d_X7_read_32 : decode cX7_read 32 = .ok (.iload_n 1, 1) := by decide +kernel
theorem d_X7_read_33 : decode cX7_read 33 = .ok (.ifCond .eq 22, 3) := by decide +kernel
theorem d_X7_read_36 : decode cX7_read 36 = .ok (.aload_n 0, 1) := by decide +kernel
theorem d_X7_read_37 : decode cX7_read 37 = .ok (.iload_n 2, 1) := by decide +kernel
theorem d_X7_read_38 : decode cX7_read 38 = .ok (.invokevirtual 37, 3) := by decide +kernel
theorem d_X7_read_41 : decode cX7_read 41 = .ok (.aload_n 0, 1) := by decide +kernel
theorem d_X7_read_42 : decode cX7_read 42 = .ok (.getfield 30, 3) := by decide +kernel
theorem d_X7_read_45 : decode cX7_read 45 = .ok (.invokevirtual 41, 3) := by decide +kernel
theorem d_X7_read_48 : decode cX7_read 48 = .ok (.istore_n 1, 1) := by decide +kernel
theorem d_X7_read_49 : decode cX7_read 49 = .ok (.iinc 2 1, 3) := by decide +kernel
theorem d_X7_read_52 : decode cX7_read 52 = .ok (.goto (-26), 3) := by decide +kernel
theorem d_X7_read_55 : decode cX7_read 55 = .ok (.aload_n 0, 1) := by decide +kernel
theorem d_X7_read_56 : decode cX7_read 56 = .ok (.getfield 30, 3) := by decide +kernel
theorem d_X7_read_59 : decode cX7_read 59 = .ok (.invokevirtual 45, 3) := by decide +kernel
theorem d_X7_read_62 : decode cX7_read 62 = .ok (.ifCond .eq 5, 3) := by decide +kernel
theorem d_X7_read_65 : decode cX7_read 65 = .ok (.aconst_null, 1) := by decide +kernel
theorem d_X7_read_66 : decode cX7_read 66 = .ok (.areturn, 1) := by decide +kernel
theorem d_X7_read_67 : decode cX7_read 67 = .ok (.new 48, 3) := by decide +kernel
theorem d_X7_read_70 : decode cX7_read 70 = .ok (.dup, 1) := by decide +kernel
theorem d_X7_read_71 : decode cX7_read 71 = .ok (.aload_n 0, 1) := by decide +kernel
theorem d_X7_read_72 : decode cX7_read 72 = .ok (.getfield 11, 3) := by decide +kernel
theorem d_X7_read_75 : decode cX7_read 75 = .ok (.aload_n 0, 1) := by decide +kernel
theorem d_X7_read_76 : decode cX7_read 76 = .ok (.getfield 20, 3) := by decide +kernel
theorem d_X7_read_79 : decode cX7_read 79 = .ok (.invokestatic 50, 3) := by decide +kernel
theorem d_X7_read_82 : decode cX7_read 82 = .ok (.aload_n 0, 1) := by decide +kernel
theorem d_X7_read_83 : decode cX7_read 83 = .ok (.getfield 17, 3) := by decide +kernel
theorem d_X7_read_86 : decode cX7_read 86 = .ok (.aload_n 0, 1) := by decide +kernel
theorem d_X7_read_87 : decode cX7_read 87 = .ok (.getfield 24, 3) := by decide +kernel
theorem d_X7_read_90 : decode cX7_read 90 = .ok (.invokestatic 50, 3) := by decide +kernel
theorem d_X7_read_93 : decode cX7_read 93 = .ok (.invokespecial 56, 3) := by decide +kernel
theorem d_X7_read_96 : decode cX7_read 96 = .ok (.areturn, 1) := by decide +kernel
abbrev X_X7_read : gX := (RX7, cX7_read, 3, (some (.object "ForgetHeirs$Rule")), false)
def F_X7_read_b55 (l0 : Option Nat) (M : gM) : Option ((Option Nat) × gM) :=
  (gR 7 M l0 0).bind fun v1 => (gO 9 M v1).bind fun i2 => (F_X9_isFaulty (some i2) M).bind fun v3 => if v3 = 0 then ((gR 7 (nw (6, 0) M) l0 1).bind fun v4 => (gI 7 (nw (6, 0) M) l0 3).bind fun v5 => (F_J7_copyOf_59c91 v4 v5 (nw (6, 0) M)).bind fun (v6, M7) => (gR 7 M7 l0 2).bind fun v8 => (gI 7 M7 l0 4).bind fun v9 => (F_J7_copyOf_59c91 v8 v9 M7).bind fun (v10, M11) => (F_X6_init M.1.length v6 v10 M11).bind fun M12 => some ((some M.1.length), M12)) else (some (none, M))
set_option maxHeartbeats 1000000 in
theorem T_X7_read_b55 (r : ((Option Nat) × gM)) (l0 : Option Nat) (M : gM) (h : F_X7_read_b55 l0 M = some r) : GW 65 3 802 X_X7_read 55 [(0, vr l0)] [] M (some (vr r.1), r.2) := by
  delta F_X7_read_b55 at h
  refine GW_aload_n (X := X_X7_read) (pc := 55) d_X7_read_55 rfl 0 rfl ?_
  replace h := g_bd h
  obtain ⟨v1, hv1, h⟩ := h
  refine GW_getR (X := X_X7_read) (pc := 56) f_X7_30 d_X7_read_56 hv1 (Or.inl ⟨_, ty_7_0⟩) ?_
  replace h := g_bd h
  obtain ⟨i2, hi2, h⟩ := h
  obtain ⟨rfl, ki2⟩ := g_gO hi2
  replace h := g_bd h
  obtain ⟨v3, hv3, h⟩ := h
  refine GW_callV (X := X_X7_read) (pc := 59) (bc0 := 3) (bs0 := 802) (r := some (vi v3)) (M2 := M) (c0 := 9) (T_X9_isFaulty (some i2) M v3 hv3) (Nat.le_of_ble_eq_true rfl) (Nat.le_of_ble_eq_true rfl) rfl g_cok9 ki2 yc_X9_isFaulty ⟨m_700, m_622, m_623, m_123, m_624⟩ d_X7_read_59 rfl (st := []) rfl (Nat.le_of_ble_eq_true rfl) (Nat.le_of_ble_eq_true rfl) (Nat.le_of_ble_eq_true rfl) (st2 := [vi v3]) rfl ?_
  refine GW_if_eq (X := X_X7_read) (pc := 62) 67 d_X7_read_62 (by decide) (fun c => ?_) (fun c => ?_)
  · replace h := g_ip c h
    refine GW_new (X := X_X7_read) (pc := 67) (c := 6) g_cok6 nf_6 ⟨m_731, m_732, m_133⟩ d_X7_read_67 2 800 rfl rfl ?_
    refine GW_dup (X := X_X7_read) (pc := 70) d_X7_read_70 rfl ?_
    refine GW_aload_n (X := X_X7_read) (pc := 71) d_X7_read_71 rfl 0 rfl ?_
    replace h := g_bd h
    obtain ⟨v4, hv4, h⟩ := h
    refine GW_getR (X := X_X7_read) (pc := 72) f_X7_11 d_X7_read_72 hv4 (Or.inr ⟨_, ty_7_1⟩) ?_
    refine GW_aload_n (X := X_X7_read) (pc := 75) d_X7_read_75 rfl 0 rfl ?_
    replace h := g_bd h
    obtain ⟨v5, hv5, h⟩ := h
    refine GW_getI (X := X_X7_read) (pc := 76) f_X7_20 d_X7_read_76 hv5 (Or.inl ty_7_3) ?_
    replace h := g_bd h
    obtain ⟨⟨v6, M7⟩, hv6, h⟩ := h
    dsimp only at h
    refine GW_callS (X := X_X7_read) (pc := 79) (bc0 := 1) (bs0 := 400) (r := some (vr v6)) (M2 := M7) (T_J7_copyOf_59c91 v4 v5 (nw (6, 0) M) (v6, M7) hv6) (Nat.le_of_ble_eq_true rfl) (Nat.le_of_ble_eq_true rfl) yc_J7_copyOf_59c91 ⟨m_733, m_734, m_134, m_735⟩ d_X7_read_79 rfl (st := [vr (some M.1.length), vr (some M.1.length)]) rfl (Nat.le_of_ble_eq_true rfl) (Nat.le_of_ble_eq_true rfl) (Nat.le_of_ble_eq_true rfl) (st2 := [vr v6, vr (some M.1.length), vr (some M.1.length)]) rfl ?_
    refine GW_aload_n (X := X_X7_read) (pc := 82) d_X7_read_82 rfl 0 rfl ?_
    replace h := g_bd h
    obtain ⟨v8, hv8, h⟩ := h
    refine GW_getR (X := X_X7_read) (pc := 83) f_X7_17 d_X7_read_83 hv8 (Or.inr ⟨_, ty_7_2⟩) ?_
    refine GW_aload_n (X := X_X7_read) (pc := 86) d_X7_read_86 rfl 0 rfl ?_
    replace h := g_bd h
    obtain ⟨v9, hv9, h⟩ := h
    refine GW_getI (X := X_X7_read) (pc := 87) f_X7_24 d_X7_read_87 hv9 (Or.inl ty_7_4) ?_
    replace h := g_bd h
    obtain ⟨⟨v10, M11⟩, hv10, h⟩ := h
    dsimp only at h
    refine GW_callS (X := X_X7_read) (pc := 90) (bc0 := 0) (bs0 := 0) (r := some (vr v10)) (M2 := M11) (T_J7_copyOf_59c91 v8 v9 M7 (v10, M11) hv10) (Nat.le_of_ble_eq_true rfl) (Nat.le_of_ble_eq_true rfl) yc_J7_copyOf_59c91 ⟨m_733, m_734, m_134, m_735⟩ d_X7_read_90 rfl (st := [vr v6, vr (some M.1.length), vr (some M.1.length)]) rfl (Nat.le_of_ble_eq_true rfl) (Nat.le_of_ble_eq_true rfl) (Nat.le_of_ble_eq_true rfl) (st2 := [vr v10, vr v6, vr (some M.1.length), vr (some M.1.length)]) rfl ?_
    replace h := g_bd h
    obtain ⟨M12, hM12, h⟩ := h
    refine GW_callI (X := X_X7_read) (pc := 93) (bc0 := 0) (bs0 := 0) (M2 := M12) (T_X6_init M.1.length v6 v10 M11 M12 hM12) (Nat.le_of_ble_eq_true rfl) (Nat.le_of_ble_eq_true rfl) rfl rfl yc_X6_init ⟨m_747, m_748, m_133, m_749⟩ d_X7_read_93 rfl (st := [vr (some M.1.length)]) rfl (Nat.le_of_ble_eq_true rfl) (Nat.le_of_ble_eq_true rfl) (Nat.le_of_ble_eq_true rfl) ?_
    replace h := Option.some.inj h
    subst h
    exact GW_ret (X := X_X7_read) (pc := 96) d_X7_read_96 rfl trivial
  · replace h := g_ie c h
    refine GW_null (X := X_X7_read) (pc := 65) d_X7_read_65 ?_
    replace h := Option.some.inj h
    subst h
    exact GW_ret (X := X_X7_read) (pc := 66) d_X7_read_66 rfl trivial
def F_X7_read_b26 (k26 : Option Nat → Int32 → Int32 → gM → Option ((Option Nat) × gM)) (l0 : Option Nat) (l1 : Int32) (l2 : Int32) (M : gM) : Option ((Option Nat) × gM) :=
  if (13 : Int32) < l2 then (F_X7_read_b55 l0 M) else (if l1 = 0 then (F_X7_read_b55 l0 M) else ((gO 7 M l0).bind fun i1 => (F_X7_readClause (some i1) l2 M).bind fun M2 => (gR 7 M2 (some i1) 0).bind fun v3 => (gO 9 M2 v3).bind fun i4 => (F_X9_goesOn (some i4) M2).bind fun (v5, M6) => k26 (some i1) v5 (l2 + 1) M6))
theorem T_X7_read_b26 (k26 : Option Nat → Int32 → Int32 → gM → Option ((Option Nat) × gM)) (r : ((Option Nat) × gM)) (hk26 : ∀ (l0 : Option Nat) (l1 : Int32) (l2 : Int32) (M : gM), k26 l0 l1 l2 M = some r → GW 65 3 802 X_X7_read 26 [(0, vr l0), (1, vi l1), (2, vi l2)] [] M (some (vr r.1), r.2)) (l0 : Option Nat) (l1 : Int32) (l2 : Int32) (M : gM) (h : F_X7_read_b26 k26 l0 l1 l2 M = some r) : GW 65 3 802 X_X7_read 26 [(0, vr l0), (1, vi l1), (2, vi l2)] [] M (some (vr r.1), r.2) := by
  delta F_X7_read_b26 at h
  refine GW_iload_n (X := X_X7_read) (pc := 26) d_X7_read_26 rfl 2 rfl ?_
  refine GW_bipush (X := X_X7_read) (pc := 27) (v := 13) d_X7_read_27 (by decide) ?_
  refine GW_icmp_gt (X := X_X7_read) (pc := 29) 55 d_X7_read_29 (by decide) (fun c => ?_) (fun c => ?_)
  · replace h := g_ip c h
    refine GW_sub [0] rfl ?_
    exact T_X7_read_b55 r l0 M h
  · replace h := g_ie c h
    refine GW_iload_n (X := X_X7_read) (pc := 32) d_X7_read_32 rfl 1 rfl ?_
    refine GW_if_eq (X := X_X7_read) (pc := 33) 55 d_X7_read_33 (by decide) (fun c => ?_) (fun c => ?_)
    · replace h := g_ip c h
      refine GW_sub [0] rfl ?_
      exact T_X7_read_b55 r l0 M h
    · replace h := g_ie c h
      refine GW_aload_n (X := X_X7_read) (pc := 36) d_X7_read_36 rfl 0 rfl ?_
      refine GW_iload_n (X := X_X7_read) (pc := 37) d_X7_read_37 rfl 2 rfl ?_
      replace h := g_bd h
      obtain ⟨i1, hi1, h⟩ := h
      obtain ⟨rfl, ki1⟩ := g_gO hi1
      replace h := g_bd h
      obtain ⟨M2, hM2, h⟩ := h
      refine GW_callV (X := X_X7_read) (pc := 38) (bc0 := 3) (bs0 := 802) (r := none) (M2 := M2) (c0 := 7) (T_X7_readClause (some i1) l2 M M2 hM2) (Nat.le_of_ble_eq_true rfl) (Nat.le_of_ble_eq_true rfl) rfl g_cok7 ki1 yc_X7_readClause ⟨m_684, m_686, m_12, m_125, m_687⟩ d_X7_read_38 rfl (st := []) rfl (Nat.le_of_ble_eq_true rfl) (Nat.le_of_ble_eq_true rfl) (Nat.le_of_ble_eq_true rfl) (st2 := []) rfl ?_
      refine GW_aload_n (X := X_X7_read) (pc := 41) d_X7_read_41 rfl 0 rfl ?_
      replace h := g_bd h
      obtain ⟨v3, hv3, h⟩ := h
      refine GW_getR (X := X_X7_read) (pc := 42) f_X7_30 d_X7_read_42 hv3 (Or.inl ⟨_, ty_7_0⟩) ?_
      replace h := g_bd h
      obtain ⟨i4, hi4, h⟩ := h
      obtain ⟨rfl, ki4⟩ := g_gO hi4
      replace h := g_bd h
      obtain ⟨⟨v5, M6⟩, hv5, h⟩ := h
      dsimp only at h
      refine GW_callV (X := X_X7_read) (pc := 45) (bc0 := 3) (bs0 := 802) (r := some (vi v5)) (M2 := M6) (c0 := 9) (T_X9_goesOn (some i4) M2 (v5, M6) hv5) (Nat.le_of_ble_eq_true rfl) (Nat.le_of_ble_eq_true rfl) rfl g_cok9 ki4 yc_X9_goesOn ⟨m_730, m_657, m_658, m_123, m_659⟩ d_X7_read_45 rfl (st := []) rfl (Nat.le_of_ble_eq_true rfl) (Nat.le_of_ble_eq_true rfl) (Nat.le_of_ble_eq_true rfl) (st2 := [vi v5]) rfl ?_
      refine GW_istore_n (X := X_X7_read) (pc := 48) d_X7_read_48 rfl (Nat.le_of_ble_eq_true rfl) (lv2 := [(1, vi v5), (0, vr (some i1)), (2, vi l2)]) rfl ?_
      refine GW_iinc (j := 2) (X := X_X7_read) (pc := 49) d_X7_read_49 rfl (congrArg (fun z => _ + z) (by decide : Int32.ofInt 1 = (1 : Int32))) (Nat.le_of_ble_eq_true rfl) (lv2 := [(2, vi (l2 + 1)), (1, vi v5), (0, vr (some i1))]) rfl ?_
      refine GW_goto (X := X_X7_read) (pc := 52) 26 d_X7_read_52 (by decide) ?_
      refine GW_sub [2, 1, 0] rfl ?_
      exact hk26 (some i1) v5 (l2 + 1) M6 h
def F_X7_read_L26 : Nat → Option Nat → Int32 → Int32 → gM → Option ((Option Nat) × gM)
  | 0 => fun _ _ _ _ => none
  | n + 1 => F_X7_read_b26 (F_X7_read_L26 n)
theorem T_X7_read_L26 (r : ((Option Nat) × gM)) : ∀ (n : Nat) (l0 : Option Nat) (l1 : Int32) (l2 : Int32) (M : gM), F_X7_read_L26 n l0 l1 l2 M = some r → GW 65 3 802 X_X7_read 26 [(0, vr l0), (1, vi l1), (2, vi l2)] [] M (some (vr r.1), r.2) := by
  intro n
  induction n with
  | zero => intro l0 l1 l2 M h; exact g_no h
  | succ n ih => intro l0 l1 l2 M h; exact T_X7_read_b26 (F_X7_read_L26 n) r ih l0 l1 l2 M h
def F_X7_read_b0 (l0 : Option Nat) (M : gM) : Option ((Option Nat) × gM) :=
  (gR 7 M l0 0).bind fun v1 => (gO 9 M v1).bind fun i2 => (F_X9_split (some i2) M).bind fun M3 => (pI 7 M3 l0 3 (0 : Int32)).bind fun M4 => (pI 7 M4 l0 4 (0 : Int32)).bind fun M5 => (pI 7 M5 l0 5 (0 : Int32)).bind fun M6 => F_X7_read_L26 g_fuel l0 (1 : Int32) (1 : Int32) M6
theorem T_X7_read_b0 (r : ((Option Nat) × gM)) (l0 : Option Nat) (M : gM) (h : F_X7_read_b0 l0 M = some r) : GW 65 3 802 X_X7_read 0 [(0, vr l0)] [] M (some (vr r.1), r.2) := by
  delta F_X7_read_b0 at h
  refine GW_aload_n (X := X_X7_read) (pc := 0) d_X7_read_0 rfl 0 rfl ?_
  replace h := g_bd h
  obtain ⟨v1, hv1, h⟩ := h
  refine GW_getR (X := X_X7_read) (pc := 1) f_X7_30 d_X7_read_1 hv1 (Or.inl ⟨_, ty_7_0⟩) ?_
  replace h := g_bd h
  obtain ⟨i2, hi2, h⟩ := h
  obtain ⟨rfl, ki2⟩ := g_gO hi2
  replace h := g_bd h
  obtain ⟨M3, hM3, h⟩ := h
  refine GW_callV (X := X_X7_read) (pc := 4) (bc0 := 3) (bs0 := 802) (r := none) (M2 := M3) (c0 := 9) (T_X9_split (some i2) M M3 hM3) (Nat.le_of_ble_eq_true rfl) (Nat.le_of_ble_eq_true rfl) rfl g_cok9 ki2 yc_X9_split ⟨m_683, m_503, m_504, m_123, m_505⟩ d_X7_read_4 rfl (st := []) rfl (Nat.le_of_ble_eq_true rfl) (Nat.le_of_ble_eq_true rfl) (Nat.le_of_ble_eq_true rfl) (st2 := []) rfl ?_
  refine GW_aload_n (X := X_X7_read) (pc := 7) d_X7_read_7 rfl 0 rfl ?_
  refine GW_iconst (X := X_X7_read) (pc := 8) (v := 0) d_X7_read_8 (by decide) ?_
  replace h := g_bd h
  obtain ⟨M4, hM4, h⟩ := h
  refine GW_putI (X := X_X7_read) (pc := 9) f_X7_20 d_X7_read_9 hM4 (Or.inl fi_7_3) (Or.inl ty_7_3) ?_
  refine GW_aload_n (X := X_X7_read) (pc := 12) d_X7_read_12 rfl 0 rfl ?_
  refine GW_iconst (X := X_X7_read) (pc := 13) (v := 0) d_X7_read_13 (by decide) ?_
  replace h := g_bd h
  obtain ⟨M5, hM5, h⟩ := h
  refine GW_putI (X := X_X7_read) (pc := 14) f_X7_24 d_X7_read_14 hM5 (Or.inl fi_7_4) (Or.inl ty_7_4) ?_
  refine GW_aload_n (X := X_X7_read) (pc := 17) d_X7_read_17 rfl 0 rfl ?_
  refine GW_iconst (X := X_X7_read) (pc := 18) (v := 0) d_X7_read_18 (by decide) ?_
  replace h := g_bd h
  obtain ⟨M6, hM6, h⟩ := h
  refine GW_putI (X := X_X7_read) (pc := 19) f_X7_27 d_X7_read_19 hM6 (Or.inl fi_7_5) (Or.inl ty_7_5) ?_
  refine GW_iconst (X := X_X7_read) (pc := 22) (v := 1) d_X7_read_22 (by decide) ?_
  refine GW_istore_n (X := X_X7_read) (pc := 23) d_X7_read_23 rfl (Nat.le_of_ble_eq_true rfl) (lv2 := [(1, vi (1 : Int32)), (0, vr l0)]) rfl ?_
  refine GW_iconst (X := X_X7_read) (pc := 24) (v := 1) d_X7_read_24 (by decide) ?_
  refine GW_istore_n (X := X_X7_read) (pc := 25) d_X7_read_25 rfl (Nat.le_of_ble_eq_true rfl) (lv2 := [(2, vi (1 : Int32)), (1, vi (1 : Int32)), (0, vr l0)]) rfl ?_
  refine GW_sub [2, 1, 0] rfl ?_
  exact T_X7_read_L26 r g_fuel l0 (1 : Int32) (1 : Int32) M6 h
def F_X7_read (l0 : Option Nat) (M : gM) : Option ((Option Nat) × gM) := F_X7_read_b0 l0 M
theorem T_X7_read (l0 : Option Nat) (M : gM) (r : ((Option Nat) × gM)) (h : F_X7_read l0 M = some r) : g_Met 65 3 802 yX7_read X_X7_read [vr l0] M (some (vr r.1), r.2) :=
  g_Met_of pn_RX7 rfl (Nat.le_of_ble_eq_true rfl) (fun h => by cases h) (GW_sub [0] rfl (T_X7_read_b0 r l0 M h))
/-! ForgetHeirs.rule()I -/
theorem d_X11_rule_0 : decode cX11_rule 0 = .ok (.aload_n 0, 1) := by decide +kernel
theorem d_X11_rule_1 : decode cX11_rule 1 = .ok (.getfield 63, 3) := by decide +kernel
theorem d_X11_rule_4 : decode cX11_rule 4 = .ok (.aload_n 0, 1) := by decide +kernel
theorem d_X11_rule_5 : decode cX11_rule 5 = .ok (.getfield 11, 3) := by decide +kernel
theorem d_X11_rule_8 : decode cX11_rule 8 = .ok (.arraylength, 1) := by decide +kernel
theorem d_X11_rule_9 : decode cX11_rule 9 = .ok (.if_icmp .lt 5, 3) := by decide +kernel
theorem d_X11_rule_12 : decode cX11_rule 12 = .ok (.iconst (-1), 1) := by decide +kernel
theorem d_X11_rule_13 : decode cX11_rule 13 = .ok (.ireturn, 1) := by decide +kernel
theorem d_X11_rule_14 : decode cX11_rule 14 = .ok (.aload_n 0, 1) := by decide +kernel
theorem d_X11_rule_15 : decode cX11_rule 15 = .ok (.getfield 92, 3) := by decide +kernel
theorem d_X11_rule_18 : decode cX11_rule 18 = .ok (.invokevirtual 124, 3) := by decide +kernel
theorem d_X11_rule_21 : decode cX11_rule 21 = .ok (.astore_n 1, 1) := by decide +kernel
theorem d_X11_rule_22 : decode cX11_rule 22 = .ok (.aload_n 0, 1) := by decide +kernel
theorem d_X11_rule_23 : decode cX11_rule 23 = .ok (.getfield 76, 3) := by decide +kernel
theorem d_X11_rule_26 : decode cX11_rule 26 = .ok (.iconst 0, 1) := by decide +kernel
theorem d_X11_rule_27 : decode cX11_rule 27 = .ok (.putfield 97, 3) := by decide +kernel
theorem d_X11_rule_30 : decode cX11_rule 30 = .ok (.aload_n 1, 1) := by decide +kernel
theorem d_X11_rule_31 : decode cX11_rule 31 = .ok (.ifnonnull 14, 3) := by decide +kernel
theorem d_X11_rule_34 : decode cX11_rule 34 = .ok (.bipush (-2), 2) := by decide +kernel
theorem d_X11_rule_36 : decode cX11_rule 36 = .ok (.aload_n 0, 1) := by decide +kernel
theorem d_X11_rule_37 : decode cX11_rule 37 = .ok (.getfield 76, 3) := by decide +kernel
theorem d_X11_rule_40 : decode cX11_rule 40 = .ok (.getfield 108, 3) := by decide +kernel
theorem d_X11_rule_43 : decode cX11_rule 43 = .ok (.isub, 1) := by decide +kernel
theorem d_X11_rule_44 : decode cX11_rule 44 = .ok (.ireturn, 1) := by decide +kernel
theorem d_X11_rule_45 : decode cX11_rule 45 = .ok (.aload_n 0, 1) := by decide +kernel
theorem d_X11_rule_46 : decode cX11_rule 46 = .ok (.getfield 11, 3) := by decide +kernel
theorem d_X11_rule_49 : decode cX11_rule 49 = .ok (.aload_n 0, 1) := by decide +kernel
theorem d_X11_rule_50 : decode cX11_rule 50 = .ok (.getfield 63, 3) := by decide +kernel
theorem d_X11_rule_53 : decode cX11_rule 53 = .ok (.aload_n 1, 1) := by decide +kernel
theorem d_X11_rule_54 : decode cX11_rule 54 = .ok (.aastore, 1) := by decide +kernel
theorem d_X11_rule_55 : decode cX11_rule 55 = .ok (.aload_n 0, 1) := by decide +kernel
theorem d_X11_rule_56 : decode cX11_rule 56 = .ok (.dup, 1) := by decide +kernel
theorem d_X11_rule_57 : decode cX11_rule 57 = .ok (.getfield 63, 3) := by decide +kernel
theorem d_X11_rule_60 : decode cX11_rule 60 = .ok (.iconst 1, 1) := by decide +kernel
theorem d_X11_rule_61 : decode cX11_rule 61 = .ok (.iadd, 1) := by decide +kernel
theorem d_X11_rule_62 : decode cX11_rule 62 = .ok (.putfield 63, 3) := by decide +kernel
theorem d_X11_rule_65 : decode cX11_rule 65 = .ok (.aload_n 0, 1) := by decide +kernel
theorem d_X11_rule_66 : decode cX11_rule 66 = .ok (.getfield 63, 3) := by decide +kernel
theorem d_X11_rule_69 : decode cX11_rule 69 = .ok (.iconst 1, 1) := by decide +kernel
theorem d_X11_rule_70 : decode cX11_rule 70 = .ok (.isub, 1) := by decide +kernel
theorem d_X11_rule_71 : decode cX11_rule 71 = .ok (.ireturn, 1) := by decide +kernel
abbrev X_X11_rule : gX := (RX11, cX11_rule, 2, (some .int), false)
def F_X11_rule_b0 (l0 : Option Nat) (M : gM) : Option (Int32 × gM) :=
  (gI 11 M l0 12).bind fun v1 => (gR 11 M l0 3).bind fun v2 => (aN M v2).bind fun v3 => if v1 < v3 then ((gR 11 M l0 2).bind fun v4 => (gO 7 M v4).bind fun i5 => (F_X7_read (some i5) M).bind fun (v6, M7) => (gR 11 M7 l0 0).bind fun v8 => (pI 9 M7 v8 6 (0 : Int32)).bind fun M9 => if v6 = none then ((gR 11 M9 l0 0).bind fun v16 => (gI 9 M9 v16 7).bind fun v17 => some (((-2 : Int32) - v17), M9)) else ((gR 11 M9 l0 3).bind fun v10 => (gI 11 M9 l0 12).bind fun v11 => (sR 25 M9 v10 v11 v6).bind fun M12 => (gI 11 M12 l0 12).bind fun v13 => (pI 11 M12 l0 12 (v13 + (1 : Int32))).bind fun M14 => (gI 11 M14 l0 12).bind fun v15 => some ((v15 - (1 : Int32)), M14))) else (some ((-1 : Int32), M))
set_option maxHeartbeats 1000000 in
theorem T_X11_rule_b0 (r : (Int32 × gM)) (l0 : Option Nat) (M : gM) (h : F_X11_rule_b0 l0 M = some r) : GW 66 3 802 X_X11_rule 0 [(0, vr l0)] [] M (some (vi r.1), r.2) := by
  delta F_X11_rule_b0 at h
  refine GW_aload_n (X := X_X11_rule) (pc := 0) d_X11_rule_0 rfl 0 rfl ?_
  replace h := g_bd h
  obtain ⟨v1, hv1, h⟩ := h
  refine GW_getI (X := X_X11_rule) (pc := 1) f_X11_63 d_X11_rule_1 hv1 (Or.inl ty_11_12) ?_
  refine GW_aload_n (X := X_X11_rule) (pc := 4) d_X11_rule_4 rfl 0 rfl ?_
  replace h := g_bd h
  obtain ⟨v2, hv2, h⟩ := h
  refine GW_getR (X := X_X11_rule) (pc := 5) f_X11_11 d_X11_rule_5 hv2 (Or.inr ⟨_, ty_11_3⟩) ?_
  replace h := g_bd h
  obtain ⟨v3, hv3, h⟩ := h
  refine GW_alen (X := X_X11_rule) (pc := 8) d_X11_rule_8 hv3 ?_
  refine GW_icmp_lt (X := X_X11_rule) (pc := 9) 14 d_X11_rule_9 (by decide) (fun c => ?_) (fun c => ?_)
  · replace h := g_ip c h
    refine GW_aload_n (X := X_X11_rule) (pc := 14) d_X11_rule_14 rfl 0 rfl ?_
    replace h := g_bd h
    obtain ⟨v4, hv4, h⟩ := h
    refine GW_getR (X := X_X11_rule) (pc := 15) f_X11_92 d_X11_rule_15 hv4 (Or.inl ⟨_, ty_11_2⟩) ?_
    replace h := g_bd h
    obtain ⟨i5, hi5, h⟩ := h
    obtain ⟨rfl, ki5⟩ := g_gO hi5
    replace h := g_bd h
    obtain ⟨⟨v6, M7⟩, hv6, h⟩ := h
    dsimp only at h
    refine GW_callV (X := X_X11_rule) (pc := 18) (bc0 := 0) (bs0 := 0) (r := some (vr v6)) (M2 := M7) (c0 := 7) (T_X7_read (some i5) M (v6, M7) hv6) (Nat.le_of_ble_eq_true rfl) (Nat.le_of_ble_eq_true rfl) rfl g_cok7 ki5 yc_X7_read ⟨m_679, m_680, m_681, m_125, m_682⟩ d_X11_rule_18 rfl (st := []) rfl (Nat.le_of_ble_eq_true rfl) (Nat.le_of_ble_eq_true rfl) (Nat.le_of_ble_eq_true rfl) (st2 := [vr v6]) rfl ?_
    refine GW_astore_n (X := X_X11_rule) (pc := 21) d_X11_rule_21 rfl (Nat.le_of_ble_eq_true rfl) (lv2 := [(1, vr v6), (0, vr l0)]) rfl ?_
    refine GW_aload_n (X := X_X11_rule) (pc := 22) d_X11_rule_22 rfl 1 rfl ?_
    replace h := g_bd h
    obtain ⟨v8, hv8, h⟩ := h
    refine GW_getR (X := X_X11_rule) (pc := 23) f_X11_76 d_X11_rule_23 hv8 (Or.inl ⟨_, ty_11_0⟩) ?_
    refine GW_iconst (X := X_X11_rule) (pc := 26) (v := 0) d_X11_rule_26 (by decide) ?_
    replace h := g_bd h
    obtain ⟨M9, hM9, h⟩ := h
    refine GW_putI (X := X_X11_rule) (pc := 27) f_X11_97 d_X11_rule_27 hM9 (Or.inl fi_9_6) (Or.inl ty_9_6) ?_
    refine GW_aload_n (X := X_X11_rule) (pc := 30) d_X11_rule_30 rfl 0 rfl ?_
    refine GW_ifnonnull (X := X_X11_rule) (pc := 31) 45 d_X11_rule_31 (by decide) (fun c => ?_) (fun c => ?_)
    · replace h := g_ie c h
      refine GW_aload_n (X := X_X11_rule) (pc := 45) d_X11_rule_45 rfl 1 rfl ?_
      replace h := g_bd h
      obtain ⟨v10, hv10, h⟩ := h
      refine GW_getR (X := X_X11_rule) (pc := 46) f_X11_11 d_X11_rule_46 hv10 (Or.inr ⟨_, ty_11_3⟩) ?_
      refine GW_aload_n (X := X_X11_rule) (pc := 49) d_X11_rule_49 rfl 1 rfl ?_
      replace h := g_bd h
      obtain ⟨v11, hv11, h⟩ := h
      refine GW_getI (X := X_X11_rule) (pc := 50) f_X11_63 d_X11_rule_50 hv11 (Or.inl ty_11_12) ?_
      refine GW_aload_n (X := X_X11_rule) (pc := 53) d_X11_rule_53 rfl 0 rfl ?_
      replace h := g_bd h
      obtain ⟨M12, hM12, h⟩ := h
      refine GW_aast (X := X_X11_rule) (pc := 54) (t := 25) (by decide) d_X11_rule_54 hM12 ?_
      refine GW_aload_n (X := X_X11_rule) (pc := 55) d_X11_rule_55 rfl 1 rfl ?_
      refine GW_dup (X := X_X11_rule) (pc := 56) d_X11_rule_56 rfl ?_
      replace h := g_bd h
      obtain ⟨v13, hv13, h⟩ := h
      refine GW_getI (X := X_X11_rule) (pc := 57) f_X11_63 d_X11_rule_57 hv13 (Or.inl ty_11_12) ?_
      refine GW_iconst (X := X_X11_rule) (pc := 60) (v := 1) d_X11_rule_60 (by decide) ?_
      refine GW_iadd (X := X_X11_rule) (pc := 61) d_X11_rule_61 ?_
      replace h := g_bd h
      obtain ⟨M14, hM14, h⟩ := h
      refine GW_putI (X := X_X11_rule) (pc := 62) f_X11_63 d_X11_rule_62 hM14 (Or.inl fi_11_12) (Or.inl ty_11_12) ?_
      refine GW_aload_n (X := X_X11_rule) (pc := 65) d_X11_rule_65 rfl 1 rfl ?_
      replace h := g_bd h
      obtain ⟨v15, hv15, h⟩ := h
      refine GW_getI (X := X_X11_rule) (pc := 66) f_X11_63 d_X11_rule_66 hv15 (Or.inl ty_11_12) ?_
      refine GW_iconst (X := X_X11_rule) (pc := 69) (v := 1) d_X11_rule_69 (by decide) ?_
      refine GW_isub (X := X_X11_rule) (pc := 70) d_X11_rule_70 ?_
      replace h := Option.some.inj h
      subst h
      exact GW_ret (X := X_X11_rule) (pc := 71) d_X11_rule_71 rfl trivial
    · replace h := g_ip c h
      refine GW_bipush (X := X_X11_rule) (pc := 34) (v := -2) d_X11_rule_34 (by decide) ?_
      refine GW_aload_n (X := X_X11_rule) (pc := 36) d_X11_rule_36 rfl 1 rfl ?_
      replace h := g_bd h
      obtain ⟨v16, hv16, h⟩ := h
      refine GW_getR (X := X_X11_rule) (pc := 37) f_X11_76 d_X11_rule_37 hv16 (Or.inl ⟨_, ty_11_0⟩) ?_
      replace h := g_bd h
      obtain ⟨v17, hv17, h⟩ := h
      refine GW_getI (X := X_X11_rule) (pc := 40) f_X11_108 d_X11_rule_40 hv17 (Or.inl ty_9_7) ?_
      refine GW_isub (X := X_X11_rule) (pc := 43) d_X11_rule_43 ?_
      replace h := Option.some.inj h
      subst h
      exact GW_ret (X := X_X11_rule) (pc := 44) d_X11_rule_44 rfl trivial
  · replace h := g_ie c h
    refine GW_iconst (X := X_X11_rule) (pc := 12) (v := -1) d_X11_rule_12 (by decide) ?_
    replace h := Option.some.inj h
    subst h
    exact GW_ret (X := X_X11_rule) (pc := 13) d_X11_rule_13 rfl trivial
def F_X11_rule (l0 : Option Nat) (M : gM) : Option (Int32 × gM) := F_X11_rule_b0 l0 M
theorem T_X11_rule (l0 : Option Nat) (M : gM) (r : (Int32 × gM)) (h : F_X11_rule l0 M = some r) : g_Met 66 3 802 yX11_rule X_X11_rule [vr l0] M (some (vi r.1), r.2) :=
  g_Met_of pn_RX11 rfl (Nat.le_of_ble_eq_true rfl) (fun h => by cases h) (GW_sub [0] rfl (T_X11_rule_b0 r l0 M h))
/-! ForgetHeirsModel.rule()I -/
theorem d_X12_rule_0 : decode cX12_rule 0 = .ok (.aload_n 0, 1) := by decide +kernel
theorem d_X12_rule_1 : decode cX12_rule 1 = .ok (.getfield 273, 3) := by decide +kernel
theorem d_X12_rule_4 : decode cX12_rule 4 = .ok (.bipush 6, 2) := by decide +kernel
theorem d_X12_rule_6 : decode cX12_rule 6 = .ok (.if_icmp .ne 5, 3) := by decide +kernel
theorem d_X12_rule_9 : decode cX12_rule 9 = .ok (.iconst (-1), 1) := by decide +kernel
theorem d_X12_rule_10 : decode cX12_rule 10 = .ok (.ireturn, 1) := by decide +kernel
theorem d_X12_rule_11 : decode cX12_rule 11 = .ok (.aload_n 0, 1) := by decide +kernel
theorem d_X12_rule_12 : decode cX12_rule 12 = .ok (.aload_n 0, 1) := by decide +kernel
theorem d_X12_rule_13 : decode cX12_rule 13 = .ok (.getfield 273, 3) := by decide +kernel
theorem d_X12_rule_16 : decode cX12_rule 16 = .ok (.putfield 150, 3) := by decide +kernel
theorem d_X12_rule_19 : decode cX12_rule 19 = .ok (.aload_n 0, 1) := by decide +kernel
theorem d_X12_rule_20 : decode cX12_rule 20 = .ok (.getfield 23, 3) := by decide +kernel
theorem d_X12_rule_23 : decode cX12_rule 23 = .ok (.aload_n 0, 1) := by decide +kernel
theorem d_X12_rule_24 : decode cX12_rule 24 = .ok (.getfield 150, 3) := by decide +kernel
theorem d_X12_rule_27 : decode cX12_rule 27 = .ok (.iconst 0, 1) := by decide +kernel
theorem d_X12_rule_28 : decode cX12_rule 28 = .ok (.iastore, 1) := by decide +kernel
theorem d_X12_rule_29 : decode cX12_rule 29 = .ok (.aload_n 0, 1) := by decide +kernel
theorem d_X12_rule_30 : decode cX12_rule 30 = .ok (.invokevirtual 276, 3) := by decide +kernel
theorem d_X12_rule_33 : decode cX12_rule 33 = .ok (.ifCond .ne 11, 3) := by decide +kernel
theorem d_X12_rule_36 : decode cX12_rule 36 = .ok (.bipush (-2), 2) := by decide +kernel
theorem d_X12_rule_38 : decode cX12_rule 38 = .ok (.aload_n 0, 1) := by decide +kernel
theorem d_X12_rule_39 : decode cX12_rule 39 = .ok (.getfield 87, 3) := by decide +kernel
theorem d_X12_rule_42 : decode cX12_rule 42 = .ok (.isub, 1) := by decide +kernel
theorem d_X12_rule_43 : decode cX12_rule 43 = .ok (.ireturn, 1) := by decide +kernel
theorem d_X12_rule_44 : decode cX12_rule 44 = .ok (.aload_n 0, 1) := by decide +kernel
theorem d_X12_rule_45 : decode cX12_rule 45 = .ok (.dup, 1) := by decide +kernel
theorem d_X12_rule_46 : decode cX12_rule 46 = .ok (.getfield 273, 3) := by decide +kernel
theorem d_X12_rule_49 : decode cX12_rule 49 = .ok (.iconst 1, 1) := by decide +kernel
theorem d_X12_rule_50 : decode cX12_rule 50 = .ok (.iadd, 1) := by decide +kernel
theorem d_X12_rule_51 : decode cX12_rule 51 = .ok (.putfield 273, 3) := by decide +kernel
theorem d_X12_rule_54 : decode cX12_rule 54 = .ok (.aload_n 0, 1) := by decide +kernel
theorem d_X12_rule_55 : decode cX12_rule 55 = .ok (.getfield 273, 3) := by decide +kernel
theorem d_X12_rule_58 : decode cX12_rule 58 = .ok (.iconst 1, 1) := by decide +kernel
theorem d_X12_rule_59 : decode cX12_rule 59 = .ok (.isub, 1) := by decide +kernel
theorem d_X12_rule_60 : decode cX12_rule 60 = .ok (.ireturn, 1) := by decide +kernel
abbrev X_X12_rule : gX := (RX12, cX12_rule, 1, (some .int), false)
def F_X12_rule_b0 (l0 : Option Nat) (M : gM) : Option (Int32 × gM) :=
  (gI 12 M l0 2).bind fun v1 => if v1 = (6 : Int32) then (some ((-1 : Int32), M)) else ((gI 12 M l0 2).bind fun v2 => (pI 12 M l0 11 v2).bind fun M3 => (gR 12 M3 l0 6).bind fun v4 => (gI 12 M3 l0 11).bind fun v5 => (sI M3 v4 v5 (0 : Int32)).bind fun M6 => (gO 12 M6 l0).bind fun i7 => (F_X12_readsAll (some i7) M6).bind fun (v8, M9) => if v8 = 0 then ((gI 12 M9 (some i7) 9).bind fun v13 => some (((-2 : Int32) - v13), M9)) else ((gI 12 M9 (some i7) 2).bind fun v10 => (pI 12 M9 (some i7) 2 (v10 + (1 : Int32))).bind fun M11 => (gI 12 M11 (some i7) 2).bind fun v12 => some ((v12 - (1 : Int32)), M11)))
set_option maxHeartbeats 1000000 in
theorem T_X12_rule_b0 (r : (Int32 × gM)) (l0 : Option Nat) (M : gM) (h : F_X12_rule_b0 l0 M = some r) : GW 12 0 0 X_X12_rule 0 [(0, vr l0)] [] M (some (vi r.1), r.2) := by
  delta F_X12_rule_b0 at h
  refine GW_aload_n (X := X_X12_rule) (pc := 0) d_X12_rule_0 rfl 0 rfl ?_
  replace h := g_bd h
  obtain ⟨v1, hv1, h⟩ := h
  refine GW_getI (X := X_X12_rule) (pc := 1) f_X12_273 d_X12_rule_1 hv1 (Or.inl ty_12_2) ?_
  refine GW_bipush (X := X_X12_rule) (pc := 4) (v := 6) d_X12_rule_4 (by decide) ?_
  refine GW_icmp_ne (X := X_X12_rule) (pc := 6) 11 d_X12_rule_6 (by decide) (fun c => ?_) (fun c => ?_)
  · replace h := g_ie c h
    refine GW_aload_n (X := X_X12_rule) (pc := 11) d_X12_rule_11 rfl 0 rfl ?_
    refine GW_aload_n (X := X_X12_rule) (pc := 12) d_X12_rule_12 rfl 0 rfl ?_
    replace h := g_bd h
    obtain ⟨v2, hv2, h⟩ := h
    refine GW_getI (X := X_X12_rule) (pc := 13) f_X12_273 d_X12_rule_13 hv2 (Or.inl ty_12_2) ?_
    replace h := g_bd h
    obtain ⟨M3, hM3, h⟩ := h
    refine GW_putI (X := X_X12_rule) (pc := 16) f_X12_150 d_X12_rule_16 hM3 (Or.inl fi_12_11) (Or.inl ty_12_11) ?_
    refine GW_aload_n (X := X_X12_rule) (pc := 19) d_X12_rule_19 rfl 0 rfl ?_
    replace h := g_bd h
    obtain ⟨v4, hv4, h⟩ := h
    refine GW_getR (X := X_X12_rule) (pc := 20) f_X12_23 d_X12_rule_20 hv4 (Or.inr ⟨_, ty_12_6⟩) ?_
    refine GW_aload_n (X := X_X12_rule) (pc := 23) d_X12_rule_23 rfl 0 rfl ?_
    replace h := g_bd h
    obtain ⟨v5, hv5, h⟩ := h
    refine GW_getI (X := X_X12_rule) (pc := 24) f_X12_150 d_X12_rule_24 hv5 (Or.inl ty_12_11) ?_
    refine GW_iconst (X := X_X12_rule) (pc := 27) (v := 0) d_X12_rule_27 (by decide) ?_
    replace h := g_bd h
    obtain ⟨M6, hM6, h⟩ := h
    refine GW_iast (X := X_X12_rule) (pc := 28) d_X12_rule_28 hM6 ?_
    refine GW_aload_n (X := X_X12_rule) (pc := 29) d_X12_rule_29 rfl 0 rfl ?_
    replace h := g_bd h
    obtain ⟨i7, hi7, h⟩ := h
    obtain ⟨rfl, ki7⟩ := g_gO hi7
    replace h := g_bd h
    obtain ⟨⟨v8, M9⟩, hv8, h⟩ := h
    dsimp only at h
    refine GW_callV (X := X_X12_rule) (pc := 30) (bc0 := 0) (bs0 := 0) (r := some (vi v8)) (M2 := M9) (c0 := 12) (T_X12_readsAll (some i7) M6 (v8, M9) hv8) (Nat.le_of_ble_eq_true rfl) (Nat.le_of_ble_eq_true rfl) rfl g_cok12 ki7 yc_X12_readsAll ⟨m_1231, m_1233, m_41, m_127, m_1234⟩ d_X12_rule_30 rfl (st := []) rfl (Nat.le_of_ble_eq_true rfl) (Nat.le_of_ble_eq_true rfl) (Nat.le_of_ble_eq_true rfl) (st2 := [vi v8]) rfl ?_
    refine GW_if_ne (X := X_X12_rule) (pc := 33) 44 d_X12_rule_33 (by decide) (fun c => ?_) (fun c => ?_)
    · replace h := g_ie c h
      refine GW_aload_n (X := X_X12_rule) (pc := 44) d_X12_rule_44 rfl 0 rfl ?_
      refine GW_dup (X := X_X12_rule) (pc := 45) d_X12_rule_45 rfl ?_
      replace h := g_bd h
      obtain ⟨v10, hv10, h⟩ := h
      refine GW_getI (X := X_X12_rule) (pc := 46) f_X12_273 d_X12_rule_46 hv10 (Or.inl ty_12_2) ?_
      refine GW_iconst (X := X_X12_rule) (pc := 49) (v := 1) d_X12_rule_49 (by decide) ?_
      refine GW_iadd (X := X_X12_rule) (pc := 50) d_X12_rule_50 ?_
      replace h := g_bd h
      obtain ⟨M11, hM11, h⟩ := h
      refine GW_putI (X := X_X12_rule) (pc := 51) f_X12_273 d_X12_rule_51 hM11 (Or.inl fi_12_2) (Or.inl ty_12_2) ?_
      refine GW_aload_n (X := X_X12_rule) (pc := 54) d_X12_rule_54 rfl 0 rfl ?_
      replace h := g_bd h
      obtain ⟨v12, hv12, h⟩ := h
      refine GW_getI (X := X_X12_rule) (pc := 55) f_X12_273 d_X12_rule_55 hv12 (Or.inl ty_12_2) ?_
      refine GW_iconst (X := X_X12_rule) (pc := 58) (v := 1) d_X12_rule_58 (by decide) ?_
      refine GW_isub (X := X_X12_rule) (pc := 59) d_X12_rule_59 ?_
      replace h := Option.some.inj h
      subst h
      exact GW_ret (X := X_X12_rule) (pc := 60) d_X12_rule_60 rfl trivial
    · replace h := g_ip c h
      refine GW_bipush (X := X_X12_rule) (pc := 36) (v := -2) d_X12_rule_36 (by decide) ?_
      refine GW_aload_n (X := X_X12_rule) (pc := 38) d_X12_rule_38 rfl 0 rfl ?_
      replace h := g_bd h
      obtain ⟨v13, hv13, h⟩ := h
      refine GW_getI (X := X_X12_rule) (pc := 39) f_X12_87 d_X12_rule_39 hv13 (Or.inl ty_12_9) ?_
      refine GW_isub (X := X_X12_rule) (pc := 42) d_X12_rule_42 ?_
      replace h := Option.some.inj h
      subst h
      exact GW_ret (X := X_X12_rule) (pc := 43) d_X12_rule_43 rfl trivial
  · replace h := g_ip c h
    refine GW_iconst (X := X_X12_rule) (pc := 9) (v := -1) d_X12_rule_9 (by decide) ?_
    replace h := Option.some.inj h
    subst h
    exact GW_ret (X := X_X12_rule) (pc := 10) d_X12_rule_10 rfl trivial
def F_X12_rule (l0 : Option Nat) (M : gM) : Option (Int32 × gM) := F_X12_rule_b0 l0 M
theorem T_X12_rule (l0 : Option Nat) (M : gM) (r : (Int32 × gM)) (h : F_X12_rule l0 M = some r) : g_Met 12 0 0 yX12_rule X_X12_rule [vr l0] M (some (vi r.1), r.2) :=
  g_Met_of pn_RX12 rfl (Nat.le_of_ble_eq_true rfl) (fun h => by cases h) (GW_sub [0] rfl (T_X12_rule_b0 r l0 M h))
/-! ForgetHeirs.force(I)I -/
theorem d_X11_force_0 : decode cX11_force 0 = .ok (.iload_n 1, 1) := by decide +kernel
theorem d_X11_force_1 : decode cX11_force 1 = .ok (.iconst (-1), 1) := by decide +kernel
theorem d_X11_force_2 : decode cX11_force 2 = .ok (.if_icmp .lt 11, 3) := by decide +kernel
theorem d_X11_force_5 : decode cX11_force 5 = .ok (.iload_n 1, 1) := by decide +kernel
theorem d_X11_force_6 : decode cX11_force 6 = .ok (.aload_n 0, 1) := by decide +kernel
theorem d_X11_force_7 : decode cX11_force 7 = .ok (.getfield 63, 3) := by decide +kernel
theorem d_X11_force_10 : decode cX11_force 10 = .ok (.if_icmp .lt 6, 3) := by decide +kernel
theorem d_X11_force_13 : decode cX11_force 13 = .ok (.bipush (-2), 2) := by decide +kernel
theorem d_X11_force_15 : decode cX11_force 15 = .ok (.ireturn, 1) := by decide +kernel
theorem d_X11_force_16 : decode cX11_force 16 = .ok (.aload_n 0, 1) := by decide +kernel
theorem d_X11_force_17 : decode cX11_force 17 = .ok (.getfield 67, 3) := by decide +kernel
theorem d_X11_force_20 : decode cX11_force 20 = .ok (.istore_n 2, 1) := by decide +kernel
theorem d_X11_force_21 : decode cX11_force 21 = .ok (.aload_n 0, 1) := by decide +kernel
theorem d_X11_force_22 : decode cX11_force 22 = .ok (.iload_n 1, 1) := by decide +kernel
theorem d_X11_force_23 : decode cX11_force 23 = .ok (.putfield 67, 3) := by decide +kernel
theorem d_X11_force_26 : decode cX11_force 26 = .ok (.iload_n 2, 1) := by decide +kernel
theorem d_X11_force_27 : decode cX11_force 27 = .ok (.ireturn, 1) := by decide +kernel
abbrev X_X11_force : gX := (RX11, cX11_force, 3, (some .int), false)
def F_X11_force_b13 (M : gM) : Option (Int32 × gM) :=
  some ((-2 : Int32), M)
theorem T_X11_force_b13 (r : (Int32 × gM)) (M : gM) (h : F_X11_force_b13 M = some r) : GW 0 0 0 X_X11_force 13 [] [] M (some (vi r.1), r.2) := by
  delta F_X11_force_b13 at h
  refine GW_bipush (X := X_X11_force) (pc := 13) (v := -2) d_X11_force_13 (by decide) ?_
  replace h := Option.some.inj h
  subst h
  exact GW_ret (X := X_X11_force) (pc := 15) d_X11_force_15 rfl trivial
def F_X11_force_b0 (l0 : Option Nat) (l1 : Int32) (M : gM) : Option (Int32 × gM) :=
  if l1 < (-1 : Int32) then (F_X11_force_b13 M) else ((gI 11 M l0 12).bind fun v1 => if l1 < v1 then ((gI 11 M l0 13).bind fun v2 => (pI 11 M l0 13 l1).bind fun M3 => some (v2, M3)) else (F_X11_force_b13 M))
theorem T_X11_force_b0 (r : (Int32 × gM)) (l0 : Option Nat) (l1 : Int32) (M : gM) (h : F_X11_force_b0 l0 l1 M = some r) : GW 0 0 0 X_X11_force 0 [(0, vr l0), (1, vi l1)] [] M (some (vi r.1), r.2) := by
  delta F_X11_force_b0 at h
  refine GW_iload_n (X := X_X11_force) (pc := 0) d_X11_force_0 rfl 1 rfl ?_
  refine GW_iconst (X := X_X11_force) (pc := 1) (v := -1) d_X11_force_1 (by decide) ?_
  refine GW_icmp_lt (X := X_X11_force) (pc := 2) 13 d_X11_force_2 (by decide) (fun c => ?_) (fun c => ?_)
  · replace h := g_ip c h
    refine GW_sub [] rfl ?_
    exact T_X11_force_b13 r M h
  · replace h := g_ie c h
    refine GW_iload_n (X := X_X11_force) (pc := 5) d_X11_force_5 rfl 1 rfl ?_
    refine GW_aload_n (X := X_X11_force) (pc := 6) d_X11_force_6 rfl 0 rfl ?_
    replace h := g_bd h
    obtain ⟨v1, hv1, h⟩ := h
    refine GW_getI (X := X_X11_force) (pc := 7) f_X11_63 d_X11_force_7 hv1 (Or.inl ty_11_12) ?_
    refine GW_icmp_lt (X := X_X11_force) (pc := 10) 16 d_X11_force_10 (by decide) (fun c => ?_) (fun c => ?_)
    · replace h := g_ip c h
      refine GW_aload_n (X := X_X11_force) (pc := 16) d_X11_force_16 rfl 0 rfl ?_
      replace h := g_bd h
      obtain ⟨v2, hv2, h⟩ := h
      refine GW_getI (X := X_X11_force) (pc := 17) f_X11_67 d_X11_force_17 hv2 (Or.inl ty_11_13) ?_
      refine GW_istore_n (X := X_X11_force) (pc := 20) d_X11_force_20 rfl (Nat.le_of_ble_eq_true rfl) (lv2 := [(2, vi v2), (0, vr l0), (1, vi l1)]) rfl ?_
      refine GW_aload_n (X := X_X11_force) (pc := 21) d_X11_force_21 rfl 1 rfl ?_
      refine GW_iload_n (X := X_X11_force) (pc := 22) d_X11_force_22 rfl 2 rfl ?_
      replace h := g_bd h
      obtain ⟨M3, hM3, h⟩ := h
      refine GW_putI (X := X_X11_force) (pc := 23) f_X11_67 d_X11_force_23 hM3 (Or.inl fi_11_13) (Or.inl ty_11_13) ?_
      refine GW_iload_n (X := X_X11_force) (pc := 26) d_X11_force_26 rfl 0 rfl ?_
      replace h := Option.some.inj h
      subst h
      exact GW_ret (X := X_X11_force) (pc := 27) d_X11_force_27 rfl trivial
    · replace h := g_ie c h
      refine GW_sub [] rfl ?_
      exact T_X11_force_b13 r M h
def F_X11_force (l0 : Option Nat) (l1 : Int32) (M : gM) : Option (Int32 × gM) := F_X11_force_b0 l0 l1 M
theorem T_X11_force (l0 : Option Nat) (l1 : Int32) (M : gM) (r : (Int32 × gM)) (h : F_X11_force l0 l1 M = some r) : g_Met 0 0 0 yX11_force X_X11_force [vr l0, vi l1] M (some (vi r.1), r.2) :=
  g_Met_of pn_RX11 rfl (Nat.le_of_ble_eq_true rfl) (fun h => by cases h) (GW_sub [0, 1] rfl (T_X11_force_b0 r l0 l1 M h))
/-! ForgetHeirsModel.isRule(I)Z -/
theorem d_X12_isRule_0 : decode cX12_isRule 0 = .ok (.iload_n 1, 1) := by decide +kernel
theorem d_X12_isRule_1 : decode cX12_isRule 1 = .ok (.ifCond .lt 15, 3) := by decide +kernel
theorem d_X12_isRule_4 : decode cX12_isRule 4 = .ok (.iload_n 1, 1) := by decide +kernel
theorem d_X12_isRule_5 : decode cX12_isRule 5 = .ok (.aload_n 0, 1) := by decide +kernel
theorem d_X12_isRule_6 : decode cX12_isRule 6 = .ok (.getfield 273, 3) := by decide +kernel
theorem d_X12_isRule_9 : decode cX12_isRule 9 = .ok (.if_icmp .ge 7, 3) := by decide +kernel
theorem d_X12_isRule_12 : decode cX12_isRule 12 = .ok (.iconst 1, 1) := by decide +kernel
theorem d_X12_isRule_13 : decode cX12_isRule 13 = .ok (.goto 4, 3) := by decide +kernel
theorem d_X12_isRule_16 : decode cX12_isRule 16 = .ok (.iconst 0, 1) := by decide +kernel
theorem d_X12_isRule_17 : decode cX12_isRule 17 = .ok (.ireturn, 1) := by decide +kernel
abbrev X_X12_isRule : gX := (RX12, cX12_isRule, 2, (some .boolean), false)
def F_X12_isRule_b16 (M : gM) : Option Int32 :=
  some (0 : Int32)
theorem T_X12_isRule_b16 (M : gM) (r : Int32) (h : F_X12_isRule_b16 M = some r) : GW 0 0 0 X_X12_isRule 16 [] [] M (some (vi r), M) := by
  delta F_X12_isRule_b16 at h
  refine GW_iconst (X := X_X12_isRule) (pc := 16) (v := 0) d_X12_isRule_16 (by decide) ?_
  replace h := Option.some.inj h
  subst h
  exact GW_ret (X := X_X12_isRule) (pc := 17) d_X12_isRule_17 rfl g_rok0
def F_X12_isRule_b0 (M : gM) (l0 : Option Nat) (l1 : Int32) : Option Int32 :=
  if l1 < 0 then (F_X12_isRule_b16 M ) else ((gI 12 M l0 2).bind fun v1 => if v1 ≤ l1 then (F_X12_isRule_b16 M ) else (some (1 : Int32)))
theorem T_X12_isRule_b0 (M : gM) (r : Int32) (l0 : Option Nat) (l1 : Int32) (h : F_X12_isRule_b0 M l0 l1 = some r) : GW 0 0 0 X_X12_isRule 0 [(0, vr l0), (1, vi l1)] [] M (some (vi r), M) := by
  delta F_X12_isRule_b0 at h
  refine GW_iload_n (X := X_X12_isRule) (pc := 0) d_X12_isRule_0 rfl 1 rfl ?_
  refine GW_if_lt (X := X_X12_isRule) (pc := 1) 16 d_X12_isRule_1 (by decide) (fun c => ?_) (fun c => ?_)
  · replace h := g_ip c h
    refine GW_sub [] rfl ?_
    exact T_X12_isRule_b16 M r  h
  · replace h := g_ie c h
    refine GW_iload_n (X := X_X12_isRule) (pc := 4) d_X12_isRule_4 rfl 1 rfl ?_
    refine GW_aload_n (X := X_X12_isRule) (pc := 5) d_X12_isRule_5 rfl 0 rfl ?_
    replace h := g_bd h
    obtain ⟨v1, hv1, h⟩ := h
    refine GW_getI (X := X_X12_isRule) (pc := 6) f_X12_273 d_X12_isRule_6 hv1 (Or.inl ty_12_2) ?_
    refine GW_icmp_ge (X := X_X12_isRule) (pc := 9) 16 d_X12_isRule_9 (by decide) (fun c => ?_) (fun c => ?_)
    · replace h := g_ip c h
      refine GW_sub [] rfl ?_
      exact T_X12_isRule_b16 M r  h
    · replace h := g_ie c h
      refine GW_iconst (X := X_X12_isRule) (pc := 12) (v := 1) d_X12_isRule_12 (by decide) ?_
      refine GW_goto (X := X_X12_isRule) (pc := 13) 17 d_X12_isRule_13 (by decide) ?_
      replace h := Option.some.inj h
      subst h
      exact GW_ret (X := X_X12_isRule) (pc := 17) d_X12_isRule_17 rfl g_rok1
def F_X12_isRule (l0 : Option Nat) (l1 : Int32) (M : gM) : Option Int32 := F_X12_isRule_b0 M l0 l1
theorem T_X12_isRule (l0 : Option Nat) (l1 : Int32) (M : gM) (r : Int32) (h : F_X12_isRule l0 l1 M = some r) : g_Met 0 0 0 yX12_isRule X_X12_isRule [vr l0, vi l1] M (some (vi r), M) :=
  g_Met_of pn_RX12 rfl (Nat.le_of_ble_eq_true rfl) (fun h => by cases h) (GW_sub [0, 1] rfl (T_X12_isRule_b0 M r l0 l1 h))
/-! ForgetHeirsModel.force(I)I -/
theorem d_X12_force_0 : decode cX12_force 0 = .ok (.iload_n 1, 1) := by decide +kernel
theorem d_X12_force_1 : decode cX12_force 1 = .ok (.iconst (-1), 1) := by decide +kernel
theorem d_X12_force_2 : decode cX12_force 2 = .ok (.if_icmp .eq 14, 3) := by decide +kernel
theorem d_X12_force_5 : decode cX12_force 5 = .ok (.aload_n 0, 1) := by decide +kernel
theorem d_X12_force_6 : decode cX12_force 6 = .ok (.iload_n 1, 1) := by decide +kernel
theorem d_X12_force_7 : decode cX12_force 7 = .ok (.invokevirtual 319, 3) := by decide +kernel
theorem d_X12_force_10 : decode cX12_force 10 = .ok (.ifCond .ne 6, 3) := by decide +kernel
theorem d_X12_force_13 : decode cX12_force 13 = .ok (.bipush (-2), 2) := by decide +kernel
theorem d_X12_force_15 : decode cX12_force 15 = .ok (.ireturn, 1) := by decide +kernel
theorem d_X12_force_16 : decode cX12_force 16 = .ok (.aload_n 0, 1) := by decide +kernel
theorem d_X12_force_17 : decode cX12_force 17 = .ok (.getfield 42, 3) := by decide +kernel
theorem d_X12_force_20 : decode cX12_force 20 = .ok (.istore_n 2, 1) := by decide +kernel
theorem d_X12_force_21 : decode cX12_force 21 = .ok (.aload_n 0, 1) := by decide +kernel
theorem d_X12_force_22 : decode cX12_force 22 = .ok (.iload_n 1, 1) := by decide +kernel
theorem d_X12_force_23 : decode cX12_force 23 = .ok (.putfield 42, 3) := by decide +kernel
theorem d_X12_force_26 : decode cX12_force 26 = .ok (.iload_n 2, 1) := by decide +kernel
theorem d_X12_force_27 : decode cX12_force 27 = .ok (.ireturn, 1) := by decide +kernel
abbrev X_X12_force : gX := (RX12, cX12_force, 3, (some .int), false)
def F_X12_force_b16 (l0 : Option Nat) (l1 : Int32) (M : gM) : Option (Int32 × gM) :=
  (gI 12 M l0 21).bind fun v1 => (pI 12 M l0 21 l1).bind fun M2 => some (v1, M2)
theorem T_X12_force_b16 (r : (Int32 × gM)) (l0 : Option Nat) (l1 : Int32) (M : gM) (h : F_X12_force_b16 l0 l1 M = some r) : GW 1 0 0 X_X12_force 16 [(0, vr l0), (1, vi l1)] [] M (some (vi r.1), r.2) := by
  delta F_X12_force_b16 at h
  refine GW_aload_n (X := X_X12_force) (pc := 16) d_X12_force_16 rfl 0 rfl ?_
  replace h := g_bd h
  obtain ⟨v1, hv1, h⟩ := h
  refine GW_getI (X := X_X12_force) (pc := 17) f_X12_42 d_X12_force_17 hv1 (Or.inl ty_12_21) ?_
  refine GW_istore_n (X := X_X12_force) (pc := 20) d_X12_force_20 rfl (Nat.le_of_ble_eq_true rfl) (lv2 := [(2, vi v1), (0, vr l0), (1, vi l1)]) rfl ?_
  refine GW_aload_n (X := X_X12_force) (pc := 21) d_X12_force_21 rfl 1 rfl ?_
  refine GW_iload_n (X := X_X12_force) (pc := 22) d_X12_force_22 rfl 2 rfl ?_
  replace h := g_bd h
  obtain ⟨M2, hM2, h⟩ := h
  refine GW_putI (X := X_X12_force) (pc := 23) f_X12_42 d_X12_force_23 hM2 (Or.inl fi_12_21) (Or.inl ty_12_21) ?_
  refine GW_iload_n (X := X_X12_force) (pc := 26) d_X12_force_26 rfl 0 rfl ?_
  replace h := Option.some.inj h
  subst h
  exact GW_ret (X := X_X12_force) (pc := 27) d_X12_force_27 rfl trivial
def F_X12_force_b0 (l0 : Option Nat) (l1 : Int32) (M : gM) : Option (Int32 × gM) :=
  if l1 = (-1 : Int32) then (F_X12_force_b16 l0 l1 M) else ((gO 12 M l0).bind fun i1 => (F_X12_isRule (some i1) l1 M).bind fun v2 => if v2 = 0 then (some ((-2 : Int32), M)) else (F_X12_force_b16 (some i1) l1 M))
theorem T_X12_force_b0 (r : (Int32 × gM)) (l0 : Option Nat) (l1 : Int32) (M : gM) (h : F_X12_force_b0 l0 l1 M = some r) : GW 1 0 0 X_X12_force 0 [(0, vr l0), (1, vi l1)] [] M (some (vi r.1), r.2) := by
  delta F_X12_force_b0 at h
  refine GW_iload_n (X := X_X12_force) (pc := 0) d_X12_force_0 rfl 1 rfl ?_
  refine GW_iconst (X := X_X12_force) (pc := 1) (v := -1) d_X12_force_1 (by decide) ?_
  refine GW_icmp_eq (X := X_X12_force) (pc := 2) 16 d_X12_force_2 (by decide) (fun c => ?_) (fun c => ?_)
  · replace h := g_ip c h
    exact T_X12_force_b16 r l0 l1 M h
  · replace h := g_ie c h
    refine GW_aload_n (X := X_X12_force) (pc := 5) d_X12_force_5 rfl 0 rfl ?_
    refine GW_iload_n (X := X_X12_force) (pc := 6) d_X12_force_6 rfl 1 rfl ?_
    replace h := g_bd h
    obtain ⟨i1, hi1, h⟩ := h
    obtain ⟨rfl, ki1⟩ := g_gO hi1
    replace h := g_bd h
    obtain ⟨v2, hv2, h⟩ := h
    refine GW_callV (X := X_X12_force) (pc := 7) (bc0 := 0) (bs0 := 0) (r := some (vi v2)) (M2 := M) (c0 := 12) (T_X12_isRule (some i1) l1 M v2 hv2) (Nat.le_of_ble_eq_true rfl) (Nat.le_of_ble_eq_true rfl) rfl g_cok12 ki1 yc_X12_isRule ⟨m_1407, m_1409, m_75, m_127, m_1410⟩ d_X12_force_7 rfl (st := []) rfl (Nat.le_of_ble_eq_true rfl) (Nat.le_of_ble_eq_true rfl) (Nat.le_of_ble_eq_true rfl) (st2 := [vi v2]) rfl ?_
    refine GW_if_ne (X := X_X12_force) (pc := 10) 16 d_X12_force_10 (by decide) (fun c => ?_) (fun c => ?_)
    · replace h := g_ie c h
      exact T_X12_force_b16 r (some i1) l1 M h
    · replace h := g_ip c h
      refine GW_bipush (X := X_X12_force) (pc := 13) (v := -2) d_X12_force_13 (by decide) ?_
      replace h := Option.some.inj h
      subst h
      exact GW_ret (X := X_X12_force) (pc := 15) d_X12_force_15 rfl trivial
def F_X12_force (l0 : Option Nat) (l1 : Int32) (M : gM) : Option (Int32 × gM) := F_X12_force_b0 l0 l1 M
theorem T_X12_force (l0 : Option Nat) (l1 : Int32) (M : gM) (r : (Int32 × gM)) (h : F_X12_force l0 l1 M = some r) : g_Met 1 0 0 yX12_force X_X12_force [vr l0, vi l1] M (some (vi r.1), r.2) :=
  g_Met_of pn_RX12 rfl (Nat.le_of_ble_eq_true rfl) (fun h => by cases h) (GW_sub [0, 1] rfl (T_X12_force_b0 r l0 l1 M h))
/-! ForgetHeirs.isHeir(I)Z -/
theorem d_X11_isHeir_0 : decode cX11_isHeir 0 = .ok (.iload_n 1, 1) := by decide +kernel
theorem d_X11_isHeir_1 : decode cX11_isHeir 1 = .ok (.ifCond .lt 18, 3) := by decide +kernel
theorem d_X11_isHeir_4 : decode cX11_isHeir 4 = .ok (.iload_n 1, 1) := by decide +kernel
theorem d_X11_isHeir_5 : decode cX11_isHeir 5 = .ok (.aload_n 0, 1) := by decide +kernel
theorem d_X11_isHeir_6 : decode cX11_isHeir 6 = .ok (.getfield 59, 3) := by decide +kernel
theorem d_X11_isHeir_9 : decode cX11_isHeir 9 = .ok (.getfield 121, 3) := by decide +kernel
theorem d_X11_isHeir_12 : decode cX11_isHeir 12 = .ok (.if_icmp .ge 7, 3) := by decide +kernel
theorem d_X11_isHeir_15 : decode cX11_isHeir 15 = .ok (.iconst 1, 1) := by decide +kernel
theorem d_X11_isHeir_16 : decode cX11_isHeir 16 = .ok (.goto 4, 3) := by decide +kernel
theorem d_X11_isHeir_19 : decode cX11_isHeir 19 = .ok (.iconst 0, 1) := by decide +kernel
theorem d_X11_isHeir_20 : decode cX11_isHeir 20 = .ok (.ireturn, 1) := by decide +kernel
abbrev X_X11_isHeir : gX := (RX11, cX11_isHeir, 2, (some .boolean), false)
def F_X11_isHeir_b19 (M : gM) : Option Int32 :=
  some (0 : Int32)
theorem T_X11_isHeir_b19 (M : gM) (r : Int32) (h : F_X11_isHeir_b19 M = some r) : GW 0 0 0 X_X11_isHeir 19 [] [] M (some (vi r), M) := by
  delta F_X11_isHeir_b19 at h
  refine GW_iconst (X := X_X11_isHeir) (pc := 19) (v := 0) d_X11_isHeir_19 (by decide) ?_
  replace h := Option.some.inj h
  subst h
  exact GW_ret (X := X_X11_isHeir) (pc := 20) d_X11_isHeir_20 rfl g_rok0
def F_X11_isHeir_b0 (M : gM) (l0 : Option Nat) (l1 : Int32) : Option Int32 :=
  if l1 < 0 then (F_X11_isHeir_b19 M ) else ((gR 11 M l0 11).bind fun v1 => (gI 1 M v1 7).bind fun v2 => if v2 ≤ l1 then (F_X11_isHeir_b19 M ) else (some (1 : Int32)))
theorem T_X11_isHeir_b0 (M : gM) (r : Int32) (l0 : Option Nat) (l1 : Int32) (h : F_X11_isHeir_b0 M l0 l1 = some r) : GW 0 0 0 X_X11_isHeir 0 [(0, vr l0), (1, vi l1)] [] M (some (vi r), M) := by
  delta F_X11_isHeir_b0 at h
  refine GW_iload_n (X := X_X11_isHeir) (pc := 0) d_X11_isHeir_0 rfl 1 rfl ?_
  refine GW_if_lt (X := X_X11_isHeir) (pc := 1) 19 d_X11_isHeir_1 (by decide) (fun c => ?_) (fun c => ?_)
  · replace h := g_ip c h
    refine GW_sub [] rfl ?_
    exact T_X11_isHeir_b19 M r  h
  · replace h := g_ie c h
    refine GW_iload_n (X := X_X11_isHeir) (pc := 4) d_X11_isHeir_4 rfl 1 rfl ?_
    refine GW_aload_n (X := X_X11_isHeir) (pc := 5) d_X11_isHeir_5 rfl 0 rfl ?_
    replace h := g_bd h
    obtain ⟨v1, hv1, h⟩ := h
    refine GW_getR (X := X_X11_isHeir) (pc := 6) f_X11_59 d_X11_isHeir_6 hv1 (Or.inl ⟨_, ty_11_11⟩) ?_
    replace h := g_bd h
    obtain ⟨v2, hv2, h⟩ := h
    refine GW_getI (X := X_X11_isHeir) (pc := 9) f_X11_121 d_X11_isHeir_9 hv2 (Or.inl ty_1_7) ?_
    refine GW_icmp_ge (X := X_X11_isHeir) (pc := 12) 19 d_X11_isHeir_12 (by decide) (fun c => ?_) (fun c => ?_)
    · replace h := g_ip c h
      refine GW_sub [] rfl ?_
      exact T_X11_isHeir_b19 M r  h
    · replace h := g_ie c h
      refine GW_iconst (X := X_X11_isHeir) (pc := 15) (v := 1) d_X11_isHeir_15 (by decide) ?_
      refine GW_goto (X := X_X11_isHeir) (pc := 16) 20 d_X11_isHeir_16 (by decide) ?_
      replace h := Option.some.inj h
      subst h
      exact GW_ret (X := X_X11_isHeir) (pc := 20) d_X11_isHeir_20 rfl g_rok1
def F_X11_isHeir (l0 : Option Nat) (l1 : Int32) (M : gM) : Option Int32 := F_X11_isHeir_b0 M l0 l1
theorem T_X11_isHeir (l0 : Option Nat) (l1 : Int32) (M : gM) (r : Int32) (h : F_X11_isHeir l0 l1 M = some r) : g_Met 0 0 0 yX11_isHeir X_X11_isHeir [vr l0, vi l1] M (some (vi r), M) :=
  g_Met_of pn_RX11 rfl (Nat.le_of_ble_eq_true rfl) (fun h => by cases h) (GW_sub [0, 1] rfl (T_X11_isHeir_b0 M r l0 l1 h))
/-! ForgetHeirs$State.knownBy(LForgetHeirs$House;I)I -/
theorem d_X8_knownBy_0 : decode cX8_knownBy 0 = .ok (.iconst 0, 1) := by decide +kernel
theorem d_X8_knownBy_1 : decode cX8_knownBy 1 = .ok (.istore_n 3, 1) := by decide +kernel
theorem d_X8_knownBy_2 : decode cX8_knownBy 2 = .ok (.iconst 0, 1) := by decide +kernel
theorem d_X8_knownBy_3 : decode cX8_knownBy 3 = .ok (.istore 4, 2) := by decide +kernel
theorem d_X8_knownBy_5 : decode cX8_knownBy 5 = .ok (.iload 4, 2) := by decide +kernel
theorem d_X8_knownBy_7 : decode cX8_knownBy 7 = .ok (.aload_n 1, 1) := by decide +kernel
theorem d_X8_knownBy_8 : decode cX8_knownBy 8 = .ok (.getfield 63, 3) := by decide +kernel
theorem d_X8_knownBy_11 : decode cX8_knownBy 11 = .ok (.if_icmp .ge 31, 3) := by decide +kernel
theorem d_X8_knownBy_14 : decode cX8_knownBy 14 = .ok (.aload_n 0, 1) := by decide +kernel
theorem d_X8_knownBy_15 : decode cX8_knownBy 15 = .ok (.getfield 15, 3) := by decide +kernel
theorem d_X8_knownBy_18 : decode cX8_knownBy 18 = .ok (.iload_n 2, 1) := by decide +kernel
theorem d_X8_knownBy_19 : decode cX8_knownBy 19 = .ok (.bipush 7, 2) := by decide +kernel
theorem d_X8_knownBy_21 : decode cX8_knownBy 21 = .ok (.imul, 1) := by decide +kernel
theorem d_X8_knownBy_22 : decode cX8_knownBy 22 = .ok (.iload 4, 2) := by decide +kernel
theorem d_X8_knownBy_24 : decode cX8_knownBy 24 = .ok (.iadd, 1) := by decide +kernel
theorem d_X8_knownBy_25 : decode cX8_knownBy 25 = .ok (.iaload, 1) := by decide +kernel
theorem d_X8_knownBy_26 : decode cX8_knownBy 26 = .ok (.ifCond .le 10, 3) := by decide +kernel
theorem d_X8_knownBy_29 : decode cX8_knownBy 29 = .ok (.iload_n 3, 1) := by decide +kernel
theorem d_X8_knownBy_30 : decode cX8_knownBy 30 = .ok (.iconst 1, 1) := by decide +kernel
theorem d_X8_knownBy_31 : decode cX8_knownBy 31 = .ok (.iload 4, 2) := by decide +kernel
theorem d_X8_knownBy_33 : decode cX8_knownBy 33 = .ok (.ishl, 1) := by decide +kernel
theorem d_X8_knownBy_34 : decode cX8_knownBy 34 = .ok (.ior, 1) := by decide +kernel
theorem d_X8_knownBy_35 : decode cX8_knownBy 35 = .ok (.istore_n 3, 1) := by decide +kernel
theorem d_X8_knownBy_36 : decode cX8_knownBy 36 = .ok (.iinc 4 1, 3) := by decide +kernel
theorem d_X8_knownBy_39 : decode cX8_knownBy 39 = .ok (.goto (-34), 3) := by decide +kernel
theorem d_X8_knownBy_42 : decode cX8_knownBy 42 = .ok (.iload_n 3, 1) := by decide +kernel
theorem d_X8_knownBy_43 : decode cX8_knownBy 43 = .ok (.ireturn, 1) := by decide +kernel
abbrev X_X8_knownBy : gX := (RX8, cX8_knownBy, 5, (some .int), false)
def F_X8_knownBy_b36 (k5 : Option Nat → Option Nat → Int32 → Int32 → Int32 → Option Int32) (M : gM) (l0 : Option Nat) (l1 : Option Nat) (l2 : Int32) (l3 : Int32) (l4 : Int32) : Option Int32 :=
  k5 l0 l1 l2 l3 (l4 + 1)
theorem T_X8_knownBy_b36 (k5 : Option Nat → Option Nat → Int32 → Int32 → Int32 → Option Int32) (M : gM) (r : Int32) (hk5 : ∀ (l0 : Option Nat) (l1 : Option Nat) (l2 : Int32) (l3 : Int32) (l4 : Int32), k5 l0 l1 l2 l3 l4 = some r → GW 0 0 0 X_X8_knownBy 5 [(0, vr l0), (1, vr l1), (2, vi l2), (3, vi l3), (4, vi l4)] [] M (some (vi r), M)) (l0 : Option Nat) (l1 : Option Nat) (l2 : Int32) (l3 : Int32) (l4 : Int32) (h : F_X8_knownBy_b36 k5 M l0 l1 l2 l3 l4 = some r) : GW 0 0 0 X_X8_knownBy 36 [(0, vr l0), (1, vr l1), (2, vi l2), (3, vi l3), (4, vi l4)] [] M (some (vi r), M) := by
  delta F_X8_knownBy_b36 at h
  refine GW_iinc (j := 4) (X := X_X8_knownBy) (pc := 36) d_X8_knownBy_36 rfl (congrArg (fun z => _ + z) (by decide : Int32.ofInt 1 = (1 : Int32))) (Nat.le_of_ble_eq_true rfl) (lv2 := [(4, vi (l4 + 1)), (0, vr l0), (1, vr l1), (2, vi l2), (3, vi l3)]) rfl ?_
  refine GW_goto (X := X_X8_knownBy) (pc := 39) 5 d_X8_knownBy_39 (by decide) ?_
  refine GW_sub [1, 2, 3, 4, 0] rfl ?_
  exact hk5 l0 l1 l2 l3 (l4 + 1) h
def F_X8_knownBy_b5 (k5 : Option Nat → Option Nat → Int32 → Int32 → Int32 → Option Int32) (M : gM) (l0 : Option Nat) (l1 : Option Nat) (l2 : Int32) (l3 : Int32) (l4 : Int32) : Option Int32 :=
  (gI 1 M l1 6).bind fun v1 => if v1 ≤ l4 then (some l3) else ((gR 8 M l0 1).bind fun v2 => (aI 20 M v2 ((l2 * (7 : Int32)) + l4)).bind fun v3 => if v3 ≤ 0 then (F_X8_knownBy_b36 k5 M l0 l1 l2 l3 l4) else (F_X8_knownBy_b36 k5 M l0 l1 l2 (l3 ||| ((1 : Int32) <<< (l4 &&& 31))) l4))
theorem T_X8_knownBy_b5 (k5 : Option Nat → Option Nat → Int32 → Int32 → Int32 → Option Int32) (M : gM) (r : Int32) (hk5 : ∀ (l0 : Option Nat) (l1 : Option Nat) (l2 : Int32) (l3 : Int32) (l4 : Int32), k5 l0 l1 l2 l3 l4 = some r → GW 0 0 0 X_X8_knownBy 5 [(0, vr l0), (1, vr l1), (2, vi l2), (3, vi l3), (4, vi l4)] [] M (some (vi r), M)) (l0 : Option Nat) (l1 : Option Nat) (l2 : Int32) (l3 : Int32) (l4 : Int32) (h : F_X8_knownBy_b5 k5 M l0 l1 l2 l3 l4 = some r) : GW 0 0 0 X_X8_knownBy 5 [(0, vr l0), (1, vr l1), (2, vi l2), (3, vi l3), (4, vi l4)] [] M (some (vi r), M) := by
  delta F_X8_knownBy_b5 at h
  refine GW_iload (X := X_X8_knownBy) (pc := 5) d_X8_knownBy_5 4 rfl ?_
  refine GW_aload_n (X := X_X8_knownBy) (pc := 7) d_X8_knownBy_7 rfl 1 rfl ?_
  replace h := g_bd h
  obtain ⟨v1, hv1, h⟩ := h
  refine GW_getI (X := X_X8_knownBy) (pc := 8) f_X8_63 d_X8_knownBy_8 hv1 (Or.inl ty_1_6) ?_
  refine GW_icmp_ge (X := X_X8_knownBy) (pc := 11) 42 d_X8_knownBy_11 (by decide) (fun c => ?_) (fun c => ?_)
  · replace h := g_ip c h
    refine GW_iload_n (X := X_X8_knownBy) (pc := 42) d_X8_knownBy_42 rfl 3 rfl ?_
    replace h := Option.some.inj h
    subst h
    exact GW_ret (X := X_X8_knownBy) (pc := 43) d_X8_knownBy_43 rfl trivial
  · replace h := g_ie c h
    refine GW_aload_n (X := X_X8_knownBy) (pc := 14) d_X8_knownBy_14 rfl 0 rfl ?_
    replace h := g_bd h
    obtain ⟨v2, hv2, h⟩ := h
    refine GW_getR (X := X_X8_knownBy) (pc := 15) f_X8_15 d_X8_knownBy_15 hv2 (Or.inr ⟨_, ty_8_1⟩) ?_
    refine GW_iload_n (X := X_X8_knownBy) (pc := 18) d_X8_knownBy_18 rfl 2 rfl ?_
    refine GW_bipush (X := X_X8_knownBy) (pc := 19) (v := 7) d_X8_knownBy_19 (by decide) ?_
    refine GW_imul (X := X_X8_knownBy) (pc := 21) d_X8_knownBy_21 ?_
    refine GW_iload (X := X_X8_knownBy) (pc := 22) d_X8_knownBy_22 4 rfl ?_
    refine GW_iadd (X := X_X8_knownBy) (pc := 24) d_X8_knownBy_24 ?_
    replace h := g_bd h
    obtain ⟨v3, hv3, h⟩ := h
    refine GW_iald (X := X_X8_knownBy) (pc := 25) d_X8_knownBy_25 hv3 ?_
    refine GW_if_le (X := X_X8_knownBy) (pc := 26) 36 d_X8_knownBy_26 (by decide) (fun c => ?_) (fun c => ?_)
    · replace h := g_ip c h
      exact T_X8_knownBy_b36 k5 M r hk5 l0 l1 l2 l3 l4 h
    · replace h := g_ie c h
      refine GW_iload_n (X := X_X8_knownBy) (pc := 29) d_X8_knownBy_29 rfl 3 rfl ?_
      refine GW_iconst (X := X_X8_knownBy) (pc := 30) (v := 1) d_X8_knownBy_30 (by decide) ?_
      refine GW_iload (X := X_X8_knownBy) (pc := 31) d_X8_knownBy_31 4 rfl ?_
      refine GW_ishl (X := X_X8_knownBy) (pc := 33) d_X8_knownBy_33 ?_
      refine GW_ior (X := X_X8_knownBy) (pc := 34) d_X8_knownBy_34 ?_
      refine GW_istore_n (X := X_X8_knownBy) (pc := 35) d_X8_knownBy_35 rfl (Nat.le_of_ble_eq_true rfl) (lv2 := [(3, vi (l3 ||| ((1 : Int32) <<< (l4 &&& 31)))), (0, vr l0), (1, vr l1), (2, vi l2), (4, vi l4)]) rfl ?_
      refine GW_sub [1, 2, 3, 0, 4] rfl ?_
      exact T_X8_knownBy_b36 k5 M r hk5 l0 l1 l2 (l3 ||| ((1 : Int32) <<< (l4 &&& 31))) l4 h
def F_X8_knownBy_L5 (M : gM) : Nat → Option Nat → Option Nat → Int32 → Int32 → Int32 → Option Int32
  | 0 => fun _ _ _ _ _ => none
  | n + 1 => F_X8_knownBy_b5 (F_X8_knownBy_L5 M n) M
theorem T_X8_knownBy_L5 (M : gM) (r : Int32) : ∀ (n : Nat) (l0 : Option Nat) (l1 : Option Nat) (l2 : Int32) (l3 : Int32) (l4 : Int32), F_X8_knownBy_L5 M n l0 l1 l2 l3 l4 = some r → GW 0 0 0 X_X8_knownBy 5 [(0, vr l0), (1, vr l1), (2, vi l2), (3, vi l3), (4, vi l4)] [] M (some (vi r), M) := by
  intro n
  induction n with
  | zero => intro l0 l1 l2 l3 l4 h; exact g_no h
  | succ n ih => intro l0 l1 l2 l3 l4 h; exact T_X8_knownBy_b5 (F_X8_knownBy_L5 M n) M r ih l0 l1 l2 l3 l4 h
def F_X8_knownBy_b0 (M : gM) (l0 : Option Nat) (l1 : Option Nat) (l2 : Int32) : Option Int32 :=
  F_X8_knownBy_L5 M g_fuel l0 l1 l2 (0 : Int32) (0 : Int32)
theorem T_X8_knownBy_b0 (M : gM) (r : Int32) (l0 : Option Nat) (l1 : Option Nat) (l2 : Int32) (h : F_X8_knownBy_b0 M l0 l1 l2 = some r) : GW 0 0 0 X_X8_knownBy 0 [(0, vr l0), (1, vr l1), (2, vi l2)] [] M (some (vi r), M) := by
  delta F_X8_knownBy_b0 at h
  refine GW_iconst (X := X_X8_knownBy) (pc := 0) (v := 0) d_X8_knownBy_0 (by decide) ?_
  refine GW_istore_n (X := X_X8_knownBy) (pc := 1) d_X8_knownBy_1 rfl (Nat.le_of_ble_eq_true rfl) (lv2 := [(3, vi (0 : Int32)), (0, vr l0), (1, vr l1), (2, vi l2)]) rfl ?_
  refine GW_iconst (X := X_X8_knownBy) (pc := 2) (v := 0) d_X8_knownBy_2 (by decide) ?_
  refine GW_istore (X := X_X8_knownBy) (pc := 3) d_X8_knownBy_3 (Nat.le_of_ble_eq_true rfl) (lv2 := [(4, vi (0 : Int32)), (3, vi (0 : Int32)), (0, vr l0), (1, vr l1), (2, vi l2)]) rfl ?_
  refine GW_sub [2, 3, 4, 1, 0] rfl ?_
  exact T_X8_knownBy_L5 M r g_fuel l0 l1 l2 (0 : Int32) (0 : Int32) h
def F_X8_knownBy (l0 : Option Nat) (l1 : Option Nat) (l2 : Int32) (M : gM) : Option Int32 := F_X8_knownBy_b0 M l0 l1 l2
theorem T_X8_knownBy (l0 : Option Nat) (l1 : Option Nat) (l2 : Int32) (M : gM) (r : Int32) (h : F_X8_knownBy l0 l1 l2 M = some r) : g_Met 0 0 0 yX8_knownBy X_X8_knownBy [vr l0, vr l1, vi l2] M (some (vi r), M) :=
  g_Met_of pn_RX8 rfl (Nat.le_of_ble_eq_true rfl) (fun h => by cases h) (GW_sub [0, 1, 2] rfl (T_X8_knownBy_b0 M r l0 l1 l2 h))
/-! ForgetHeirs$State.heldAs(LForgetHeirs$House;I)I -/
theorem d_X8_heldAs_0 : decode cX8_heldAs 0 = .ok (.iconst 0, 1) := by decide +kernel
theorem d_X8_heldAs_1 : decode cX8_heldAs 1 = .ok (.istore_n 3, 1) := by decide +kernel
theorem d_X8_heldAs_2 : decode cX8_heldAs 2 = .ok (.iconst 0, 1) := by decide +kernel
theorem d_X8_heldAs_3 : decode cX8_heldAs 3 = .ok (.istore 4, 2) := by decide +kernel
theorem d_X8_heldAs_5 : decode cX8_heldAs 5 = .ok (.iconst 0, 1) := by decide +kernel
theorem d_X8_heldAs_6 : decode cX8_heldAs 6 = .ok (.istore 5, 2) := by decide +kernel
theorem d_X8_heldAs_8 : decode cX8_heldAs 8 = .ok (.iload 5, 2) := by decide +kernel
theorem d_X8_heldAs_10 : decode cX8_heldAs 10 = .ok (.aload_n 1, 1) := by decide +kernel
theorem d_X8_heldAs_11 : decode cX8_heldAs 11 = .ok (.getfield 66, 3) := by decide +kernel
theorem d_X8_heldAs_14 : decode cX8_heldAs 14 = .ok (.if_icmp .ge 56, 3) := by decide +kernel
theorem d_X8_heldAs_17 : decode cX8_heldAs 17 = .ok (.iload 5, 2) := by decide +kernel
theorem d_X8_heldAs_19 : decode cX8_heldAs 19 = .ok (.bipush 7, 2) := by decide +kernel
theorem d_X8_heldAs_21 : decode cX8_heldAs 21 = .ok (.imul, 1) := by decide +kernel
theorem d_X8_heldAs_22 : decode cX8_heldAs 22 = .ok (.iload_n 2, 1) := by decide +kernel
theorem d_X8_heldAs_23 : decode cX8_heldAs 23 = .ok (.iadd, 1) := by decide +kernel
theorem d_X8_heldAs_24 : decode cX8_heldAs 24 = .ok (.istore 6, 2) := by decide +kernel
theorem d_X8_heldAs_26 : decode cX8_heldAs 26 = .ok (.aload_n 0, 1) := by decide +kernel
theorem d_X8_heldAs_27 : decode cX8_heldAs 27 = .ok (.getfield 15, 3) := by decide +kernel
theorem d_X8_heldAs_30 : decode cX8_heldAs 30 = .ok (.iload 6, 2) := by decide +kernel
theorem d_X8_heldAs_32 : decode cX8_heldAs 32 = .ok (.iaload, 1) := by decide +kernel
theorem d_X8_heldAs_33 : decode cX8_heldAs 33 = .ok (.ifCond .le 31, 3) := by decide +kernel
theorem d_X8_heldAs_36 : decode cX8_heldAs 36 = .ok (.iload 4, 2) := by decide +kernel
theorem d_X8_heldAs_38 : decode cX8_heldAs 38 = .ok (.iload_n 3, 1) := by decide +kernel
theorem d_X8_heldAs_39 : decode cX8_heldAs 39 = .ok (.iconst 1, 1) := by decide +kernel
theorem d_X8_heldAs_40 : decode cX8_heldAs 40 = .ok (.aload_n 0, 1) := by decide +kernel
theorem d_X8_heldAs_41 : decode cX8_heldAs 41 = .ok (.getfield 9, 3) := by decide +kernel
theorem d_X8_heldAs_44 : decode cX8_heldAs 44 = .ok (.iload 6, 2) := by decide +kernel
theorem d_X8_heldAs_46 : decode cX8_heldAs 46 = .ok (.iaload, 1) := by decide +kernel
theorem d_X8_heldAs_47 : decode cX8_heldAs 47 = .ok (.ishl, 1) := by decide +kernel
theorem d_X8_heldAs_48 : decode cX8_heldAs 48 = .ok (.iand, 1) := by decide +kernel
theorem d_X8_heldAs_49 : decode cX8_heldAs 49 = .ok (.ior, 1) := by decide +kernel
theorem d_X8_heldAs_50 : decode cX8_heldAs 50 = .ok (.istore 4, 2) := by decide +kernel
theorem d_X8_heldAs_52 : decode cX8_heldAs 52 = .ok (.iload_n 3, 1) := by decide +kernel
theorem d_X8_heldAs_53 : decode cX8_heldAs 53 = .ok (.iconst 1, 1) := by decide +kernel
theorem d_X8_heldAs_54 : decode cX8_heldAs 54 = .ok (.aload_n 0, 1) := by decide +kernel
theorem d_X8_heldAs_55 : decode cX8_heldAs 55 = .ok (.getfield 9, 3) := by decide +kernel
theorem d_X8_heldAs_58 : decode cX8_heldAs 58 = .ok (.iload 6, 2) := by decide +kernel
theorem d_X8_heldAs_60 : decode cX8_heldAs 60 = .ok (.iaload, 1) := by decide +kernel
theorem d_X8_heldAs_61 : decode cX8_heldAs 61 = .ok (.ishl, 1) := by decide +kernel
theorem d_X8_heldAs_62 : decode cX8_heldAs 62 = .ok (.ior, 1) := by decide +kernel
theorem d_X8_heldAs_63 : decode cX8_heldAs 63 = .ok (.istore_n 3, 1) := by decide +kernel
theorem d_X8_heldAs_64 : decode cX8_heldAs 64 = .ok (.iinc 5 1, 3) := by decide +kernel
theorem d_X8_heldAs_67 : decode cX8_heldAs 67 = .ok (.goto (-59), 3) := by decide +kernel
theorem d_X8_heldAs_70 : decode cX8_heldAs 70 = .ok (.iload 4, 2) := by decide +kernel
theorem d_X8_heldAs_72 : decode cX8_heldAs 72 = .ok (.iconst 1, 1) := by decide +kernel
theorem d_X8_heldAs_73 : decode cX8_heldAs 73 = .ok (.aload_n 1, 1) := by decide +kernel
theorem d_X8_heldAs_74 : decode cX8_heldAs 74 = .ok (.getfield 58, 3) := by decide +kernel
theorem d_X8_heldAs_77 : decode cX8_heldAs 77 = .ok (.iload_n 2, 1) := by decide +kernel
theorem d_X8_heldAs_78 : decode cX8_heldAs 78 = .ok (.iaload, 1) := by decide +kernel
theorem d_X8_heldAs_79 : decode cX8_heldAs 79 = .ok (.ishl, 1) := by decide +kernel
theorem d_X8_heldAs_80 : decode cX8_heldAs 80 = .ok (.ior, 1) := by decide +kernel
theorem d_X8_heldAs_81 : decode cX8_heldAs 81 = .ok (.ireturn, 1) := by decide +kernel
abbrev X_X8_heldAs : gX := (RX8, cX8_heldAs, 7, (some .int), false)
def F_X8_heldAs_b64 (k8 : Option Nat → Option Nat → Int32 → Int32 → Int32 → Int32 → Option Int32) (M : gM) (l0 : Option Nat) (l1 : Option Nat) (l2 : Int32) (l3 : Int32) (l4 : Int32) (l5 : Int32) : Option Int32 :=
  k8 l0 l1 l2 l3 l4 (l5 + 1)
theorem T_X8_heldAs_b64 (k8 : Option Nat → Option Nat → Int32 → Int32 → Int32 → Int32 → Option Int32) (M : gM) (r : Int32) (hk8 : ∀ (l0 : Option Nat) (l1 : Option Nat) (l2 : Int32) (l3 : Int32) (l4 : Int32) (l5 : Int32), k8 l0 l1 l2 l3 l4 l5 = some r → GW 0 0 0 X_X8_heldAs 8 [(0, vr l0), (1, vr l1), (2, vi l2), (3, vi l3), (4, vi l4), (5, vi l5)] [] M (some (vi r), M)) (l0 : Option Nat) (l1 : Option Nat) (l2 : Int32) (l3 : Int32) (l4 : Int32) (l5 : Int32) (h : F_X8_heldAs_b64 k8 M l0 l1 l2 l3 l4 l5 = some r) : GW 0 0 0 X_X8_heldAs 64 [(0, vr l0), (1, vr l1), (2, vi l2), (3, vi l3), (4, vi l4), (5, vi l5)] [] M (some (vi r), M) := by
  delta F_X8_heldAs_b64 at h
  refine GW_iinc (j := 5) (X := X_X8_heldAs) (pc := 64) d_X8_heldAs_64 rfl (congrArg (fun z => _ + z) (by decide : Int32.ofInt 1 = (1 : Int32))) (Nat.le_of_ble_eq_true rfl) (lv2 := [(5, vi (l5 + 1)), (0, vr l0), (1, vr l1), (2, vi l2), (3, vi l3), (4, vi l4)]) rfl ?_
  refine GW_goto (X := X_X8_heldAs) (pc := 67) 8 d_X8_heldAs_67 (by decide) ?_
  refine GW_sub [1, 2, 3, 4, 5, 0] rfl ?_
  exact hk8 l0 l1 l2 l3 l4 (l5 + 1) h
def F_X8_heldAs_b8 (k8 : Option Nat → Option Nat → Int32 → Int32 → Int32 → Int32 → Option Int32) (M : gM) (l0 : Option Nat) (l1 : Option Nat) (l2 : Int32) (l3 : Int32) (l4 : Int32) (l5 : Int32) : Option Int32 :=
  (gI 1 M l1 7).bind fun v1 => if v1 ≤ l5 then ((gR 1 M l1 0).bind fun v2 => (aI 20 M v2 l2).bind fun v3 => some (l4 ||| ((1 : Int32) <<< (v3 &&& 31)))) else ((gR 8 M l0 1).bind fun v4 => (aI 20 M v4 ((l5 * (7 : Int32)) + l2)).bind fun v5 => if v5 ≤ 0 then (F_X8_heldAs_b64 k8 M l0 l1 l2 l3 l4 l5) else ((gR 8 M l0 0).bind fun v6 => (aI 20 M v6 ((l5 * (7 : Int32)) + l2)).bind fun v7 => (gR 8 M l0 0).bind fun v8 => (aI 20 M v8 ((l5 * (7 : Int32)) + l2)).bind fun v9 => F_X8_heldAs_b64 k8 M l0 l1 l2 (l3 ||| ((1 : Int32) <<< (v9 &&& 31))) (l4 ||| (l3 &&& ((1 : Int32) <<< (v7 &&& 31)))) l5))
set_option maxHeartbeats 1000000 in
theorem T_X8_heldAs_b8 (k8 : Option Nat → Option Nat → Int32 → Int32 → Int32 → Int32 → Option Int32) (M : gM) (r : Int32) (hk8 : ∀ (l0 : Option Nat) (l1 : Option Nat) (l2 : Int32) (l3 : Int32) (l4 : Int32) (l5 : Int32), k8 l0 l1 l2 l3 l4 l5 = some r → GW 0 0 0 X_X8_heldAs 8 [(0, vr l0), (1, vr l1), (2, vi l2), (3, vi l3), (4, vi l4), (5, vi l5)] [] M (some (vi r), M)) (l0 : Option Nat) (l1 : Option Nat) (l2 : Int32) (l3 : Int32) (l4 : Int32) (l5 : Int32) (h : F_X8_heldAs_b8 k8 M l0 l1 l2 l3 l4 l5 = some r) : GW 0 0 0 X_X8_heldAs 8 [(0, vr l0), (1, vr l1), (2, vi l2), (3, vi l3), (4, vi l4), (5, vi l5)] [] M (some (vi r), M) := by
  delta F_X8_heldAs_b8 at h
  refine GW_iload (X := X_X8_heldAs) (pc := 8) d_X8_heldAs_8 5 rfl ?_
  refine GW_aload_n (X := X_X8_heldAs) (pc := 10) d_X8_heldAs_10 rfl 1 rfl ?_
  replace h := g_bd h
  obtain ⟨v1, hv1, h⟩ := h
  refine GW_getI (X := X_X8_heldAs) (pc := 11) f_X8_66 d_X8_heldAs_11 hv1 (Or.inl ty_1_7) ?_
  refine GW_icmp_ge (X := X_X8_heldAs) (pc := 14) 70 d_X8_heldAs_14 (by decide) (fun c => ?_) (fun c => ?_)
  · replace h := g_ip c h
    refine GW_iload (X := X_X8_heldAs) (pc := 70) d_X8_heldAs_70 4 rfl ?_
    refine GW_iconst (X := X_X8_heldAs) (pc := 72) (v := 1) d_X8_heldAs_72 (by decide) ?_
    refine GW_aload_n (X := X_X8_heldAs) (pc := 73) d_X8_heldAs_73 rfl 1 rfl ?_
    replace h := g_bd h
    obtain ⟨v2, hv2, h⟩ := h
    refine GW_getR (X := X_X8_heldAs) (pc := 74) f_X8_58 d_X8_heldAs_74 hv2 (Or.inr ⟨_, ty_1_0⟩) ?_
    refine GW_iload_n (X := X_X8_heldAs) (pc := 77) d_X8_heldAs_77 rfl 2 rfl ?_
    replace h := g_bd h
    obtain ⟨v3, hv3, h⟩ := h
    refine GW_iald (X := X_X8_heldAs) (pc := 78) d_X8_heldAs_78 hv3 ?_
    refine GW_ishl (X := X_X8_heldAs) (pc := 79) d_X8_heldAs_79 ?_
    refine GW_ior (X := X_X8_heldAs) (pc := 80) d_X8_heldAs_80 ?_
    replace h := Option.some.inj h
    subst h
    exact GW_ret (X := X_X8_heldAs) (pc := 81) d_X8_heldAs_81 rfl trivial
  · replace h := g_ie c h
    refine GW_iload (X := X_X8_heldAs) (pc := 17) d_X8_heldAs_17 5 rfl ?_
    refine GW_bipush (X := X_X8_heldAs) (pc := 19) (v := 7) d_X8_heldAs_19 (by decide) ?_
    refine GW_imul (X := X_X8_heldAs) (pc := 21) d_X8_heldAs_21 ?_
    refine GW_iload_n (X := X_X8_heldAs) (pc := 22) d_X8_heldAs_22 rfl 2 rfl ?_
    refine GW_iadd (X := X_X8_heldAs) (pc := 23) d_X8_heldAs_23 ?_
    refine GW_istore (X := X_X8_heldAs) (pc := 24) d_X8_heldAs_24 (Nat.le_of_ble_eq_true rfl) (lv2 := [(6, vi ((l5 * (7 : Int32)) + l2)), (0, vr l0), (1, vr l1), (2, vi l2), (3, vi l3), (4, vi l4), (5, vi l5)]) rfl ?_
    refine GW_aload_n (X := X_X8_heldAs) (pc := 26) d_X8_heldAs_26 rfl 1 rfl ?_
    replace h := g_bd h
    obtain ⟨v4, hv4, h⟩ := h
    refine GW_getR (X := X_X8_heldAs) (pc := 27) f_X8_15 d_X8_heldAs_27 hv4 (Or.inr ⟨_, ty_8_1⟩) ?_
    refine GW_iload (X := X_X8_heldAs) (pc := 30) d_X8_heldAs_30 0 rfl ?_
    replace h := g_bd h
    obtain ⟨v5, hv5, h⟩ := h
    refine GW_iald (X := X_X8_heldAs) (pc := 32) d_X8_heldAs_32 hv5 ?_
    refine GW_if_le (X := X_X8_heldAs) (pc := 33) 64 d_X8_heldAs_33 (by decide) (fun c => ?_) (fun c => ?_)
    · replace h := g_ip c h
      refine GW_sub [1, 2, 3, 4, 5, 6] rfl ?_
      exact T_X8_heldAs_b64 k8 M r hk8 l0 l1 l2 l3 l4 l5 h
    · replace h := g_ie c h
      refine GW_iload (X := X_X8_heldAs) (pc := 36) d_X8_heldAs_36 5 rfl ?_
      refine GW_iload_n (X := X_X8_heldAs) (pc := 38) d_X8_heldAs_38 rfl 4 rfl ?_
      refine GW_iconst (X := X_X8_heldAs) (pc := 39) (v := 1) d_X8_heldAs_39 (by decide) ?_
      refine GW_aload_n (X := X_X8_heldAs) (pc := 40) d_X8_heldAs_40 rfl 1 rfl ?_
      replace h := g_bd h
      obtain ⟨v6, hv6, h⟩ := h
      refine GW_getR (X := X_X8_heldAs) (pc := 41) f_X8_9 d_X8_heldAs_41 hv6 (Or.inr ⟨_, ty_8_0⟩) ?_
      refine GW_iload (X := X_X8_heldAs) (pc := 44) d_X8_heldAs_44 0 rfl ?_
      replace h := g_bd h
      obtain ⟨v7, hv7, h⟩ := h
      refine GW_iald (X := X_X8_heldAs) (pc := 46) d_X8_heldAs_46 hv7 ?_
      refine GW_ishl (X := X_X8_heldAs) (pc := 47) d_X8_heldAs_47 ?_
      refine GW_iand (X := X_X8_heldAs) (pc := 48) d_X8_heldAs_48 ?_
      refine GW_ior (X := X_X8_heldAs) (pc := 49) d_X8_heldAs_49 ?_
      refine GW_istore (X := X_X8_heldAs) (pc := 50) d_X8_heldAs_50 (Nat.le_of_ble_eq_true rfl) (lv2 := [(4, vi (l4 ||| (l3 &&& ((1 : Int32) <<< (v7 &&& 31))))), (6, vi ((l5 * (7 : Int32)) + l2)), (0, vr l0), (1, vr l1), (2, vi l2), (3, vi l3), (5, vi l5)]) rfl ?_
      refine GW_iload_n (X := X_X8_heldAs) (pc := 52) d_X8_heldAs_52 rfl 5 rfl ?_
      refine GW_iconst (X := X_X8_heldAs) (pc := 53) (v := 1) d_X8_heldAs_53 (by decide) ?_
      refine GW_aload_n (X := X_X8_heldAs) (pc := 54) d_X8_heldAs_54 rfl 2 rfl ?_
      replace h := g_bd h
      obtain ⟨v8, hv8, h⟩ := h
      refine GW_getR (X := X_X8_heldAs) (pc := 55) f_X8_9 d_X8_heldAs_55 hv8 (Or.inr ⟨_, ty_8_0⟩) ?_
      refine GW_iload (X := X_X8_heldAs) (pc := 58) d_X8_heldAs_58 1 rfl ?_
      replace h := g_bd h
      obtain ⟨v9, hv9, h⟩ := h
      refine GW_iald (X := X_X8_heldAs) (pc := 60) d_X8_heldAs_60 hv9 ?_
      refine GW_ishl (X := X_X8_heldAs) (pc := 61) d_X8_heldAs_61 ?_
      refine GW_ior (X := X_X8_heldAs) (pc := 62) d_X8_heldAs_62 ?_
      refine GW_istore_n (X := X_X8_heldAs) (pc := 63) d_X8_heldAs_63 rfl (Nat.le_of_ble_eq_true rfl) (lv2 := [(3, vi (l3 ||| ((1 : Int32) <<< (v9 &&& 31)))), (4, vi (l4 ||| (l3 &&& ((1 : Int32) <<< (v7 &&& 31))))), (6, vi ((l5 * (7 : Int32)) + l2)), (0, vr l0), (1, vr l1), (2, vi l2), (5, vi l5)]) rfl ?_
      refine GW_sub [3, 4, 5, 0, 1, 6] rfl ?_
      exact T_X8_heldAs_b64 k8 M r hk8 l0 l1 l2 (l3 ||| ((1 : Int32) <<< (v9 &&& 31))) (l4 ||| (l3 &&& ((1 : Int32) <<< (v7 &&& 31)))) l5 h
def F_X8_heldAs_L8 (M : gM) : Nat → Option Nat → Option Nat → Int32 → Int32 → Int32 → Int32 → Option Int32
  | 0 => fun _ _ _ _ _ _ => none
  | n + 1 => F_X8_heldAs_b8 (F_X8_heldAs_L8 M n) M
theorem T_X8_heldAs_L8 (M : gM) (r : Int32) : ∀ (n : Nat) (l0 : Option Nat) (l1 : Option Nat) (l2 : Int32) (l3 : Int32) (l4 : Int32) (l5 : Int32), F_X8_heldAs_L8 M n l0 l1 l2 l3 l4 l5 = some r → GW 0 0 0 X_X8_heldAs 8 [(0, vr l0), (1, vr l1), (2, vi l2), (3, vi l3), (4, vi l4), (5, vi l5)] [] M (some (vi r), M) := by
  intro n
  induction n with
  | zero => intro l0 l1 l2 l3 l4 l5 h; exact g_no h
  | succ n ih => intro l0 l1 l2 l3 l4 l5 h; exact T_X8_heldAs_b8 (F_X8_heldAs_L8 M n) M r ih l0 l1 l2 l3 l4 l5 h
def F_X8_heldAs_b0 (M : gM) (l0 : Option Nat) (l1 : Option Nat) (l2 : Int32) : Option Int32 :=
  F_X8_heldAs_L8 M g_fuel l0 l1 l2 (0 : Int32) (0 : Int32) (0 : Int32)
theorem T_X8_heldAs_b0 (M : gM) (r : Int32) (l0 : Option Nat) (l1 : Option Nat) (l2 : Int32) (h : F_X8_heldAs_b0 M l0 l1 l2 = some r) : GW 0 0 0 X_X8_heldAs 0 [(0, vr l0), (1, vr l1), (2, vi l2)] [] M (some (vi r), M) := by
  delta F_X8_heldAs_b0 at h
  refine GW_iconst (X := X_X8_heldAs) (pc := 0) (v := 0) d_X8_heldAs_0 (by decide) ?_
  refine GW_istore_n (X := X_X8_heldAs) (pc := 1) d_X8_heldAs_1 rfl (Nat.le_of_ble_eq_true rfl) (lv2 := [(3, vi (0 : Int32)), (0, vr l0), (1, vr l1), (2, vi l2)]) rfl ?_
  refine GW_iconst (X := X_X8_heldAs) (pc := 2) (v := 0) d_X8_heldAs_2 (by decide) ?_
  refine GW_istore (X := X_X8_heldAs) (pc := 3) d_X8_heldAs_3 (Nat.le_of_ble_eq_true rfl) (lv2 := [(4, vi (0 : Int32)), (3, vi (0 : Int32)), (0, vr l0), (1, vr l1), (2, vi l2)]) rfl ?_
  refine GW_iconst (X := X_X8_heldAs) (pc := 5) (v := 0) d_X8_heldAs_5 (by decide) ?_
  refine GW_istore (X := X_X8_heldAs) (pc := 6) d_X8_heldAs_6 (Nat.le_of_ble_eq_true rfl) (lv2 := [(5, vi (0 : Int32)), (4, vi (0 : Int32)), (3, vi (0 : Int32)), (0, vr l0), (1, vr l1), (2, vi l2)]) rfl ?_
  refine GW_sub [3, 4, 5, 2, 1, 0] rfl ?_
  exact T_X8_heldAs_L8 M r g_fuel l0 l1 l2 (0 : Int32) (0 : Int32) (0 : Int32) h
def F_X8_heldAs (l0 : Option Nat) (l1 : Option Nat) (l2 : Int32) (M : gM) : Option Int32 := F_X8_heldAs_b0 M l0 l1 l2
theorem T_X8_heldAs (l0 : Option Nat) (l1 : Option Nat) (l2 : Int32) (M : gM) (r : Int32) (h : F_X8_heldAs l0 l1 l2 M = some r) : g_Met 0 0 0 yX8_heldAs X_X8_heldAs [vr l0, vr l1, vi l2] M (some (vi r), M) :=
  g_Met_of pn_RX8 rfl (Nat.le_of_ble_eq_true rfl) (fun h => by cases h) (GW_sub [0, 1, 2] rfl (T_X8_heldAs_b0 M r l0 l1 l2 h))
/-! ForgetHeirs$State.holdersOf(LForgetHeirs$House;I)I -/
theorem d_X8_holdersOf_0 : decode cX8_holdersOf 0 = .ok (.aload_n 0, 1) := by decide +kernel
theorem d_X8_holdersOf_1 : decode cX8_holdersOf 1 = .ok (.getfield 21, 3) := by decide +kernel
theorem d_X8_holdersOf_4 : decode cX8_holdersOf 4 = .ok (.iload_n 2, 1) := by decide +kernel
theorem d_X8_holdersOf_5 : decode cX8_holdersOf 5 = .ok (.iaload, 1) := by decide +kernel
theorem d_X8_holdersOf_6 : decode cX8_holdersOf 6 = .ok (.iconst (-1), 1) := by decide +kernel
theorem d_X8_holdersOf_7 : decode cX8_holdersOf 7 = .ok (.if_icmp .eq 5, 3) := by decide +kernel
theorem d_X8_holdersOf_10 : decode cX8_holdersOf 10 = .ok (.iconst 0, 1) := by decide +kernel
theorem d_X8_holdersOf_11 : decode cX8_holdersOf 11 = .ok (.ireturn, 1) := by decide +kernel
theorem d_X8_holdersOf_12 : decode cX8_holdersOf 12 = .ok (.aload_n 0, 1) := by decide +kernel
theorem d_X8_holdersOf_13 : decode cX8_holdersOf 13 = .ok (.aload_n 1, 1) := by decide +kernel
theorem d_X8_holdersOf_14 : decode cX8_holdersOf 14 = .ok (.iload_n 2, 1) := by decide +kernel
theorem d_X8_holdersOf_15 : decode cX8_holdersOf 15 = .ok (.invokevirtual 69, 3) := by decide +kernel
theorem d_X8_holdersOf_18 : decode cX8_holdersOf 18 = .ok (.istore_n 3, 1) := by decide +kernel
theorem d_X8_holdersOf_19 : decode cX8_holdersOf 19 = .ok (.iconst 0, 1) := by decide +kernel
theorem d_X8_holdersOf_20 : decode cX8_holdersOf 20 = .ok (.istore 4, 2) := by decide +kernel
theorem d_X8_holdersOf_22 : decode cX8_holdersOf 22 = .ok (.iconst 0, 1) := by decide +kernel
theorem d_X8_holdersOf_23 : decode cX8_holdersOf 23 = .ok (.istore 5, 2) := by decide +kernel
theorem d_X8_holdersOf_25 : decode cX8_holdersOf 25 = .ok (.iload 5, 2) := by decide +kernel
theorem d_X8_holdersOf_27 : decode cX8_holdersOf 27 = .ok (.aload_n 1, 1) := by decide +kernel
theorem d_X8_holdersOf_28 : decode cX8_holdersOf 28 = .ok (.getfield 66, 3) := by decide +kernel
theorem d_X8_holdersOf_31 : decode cX8_holdersOf 31 = .ok (.if_icmp .ge 52, 3) := by decide +kernel
theorem d_X8_holdersOf_34 : decode cX8_holdersOf 34 = .ok (.iload 5, 2) := by decide +kernel
theorem d_X8_holdersOf_36 : decode cX8_holdersOf 36 = .ok (.bipush 7, 2) := by decide +kernel
theorem d_X8_holdersOf_38 : decode cX8_holdersOf 38 = .ok (.imul, 1) := by decide +kernel
theorem d_X8_holdersOf_39 : decode cX8_holdersOf 39 = .ok (.iload_n 2, 1) := by decide +kernel
theorem d_X8_holdersOf_40 : decode cX8_holdersOf 40 = .ok (.iadd, 1) := by decide +kernel
theorem d_X8_holdersOf_41 : decode cX8_holdersOf 41 = .ok (.istore 6, 2) := by decide +kernel
theorem d_X8_holdersOf_43 : decode cX8_holdersOf 43 = .ok (.aload_n 0, 1) := by decide +kernel
theorem d_X8_holdersOf_44 : decode cX8_holdersOf 44 = .ok (.getfield 15, 3) := by decide +kernel
theorem d_X8_holdersOf_47 : decode cX8_holdersOf 47 = .ok (.iload 6, 2) := by decide +kernel
theorem d_X8_holdersOf_49 : decode cX8_holdersOf 49 = .ok (.iaload, 1) := by decide +kernel
theorem d_X8_holdersOf_50 : decode cX8_holdersOf 50 = .ok (.ifCond .le 27, 3) := by decide +kernel
theorem d_X8_holdersOf_53 : decode cX8_holdersOf 53 = .ok (.iload_n 3, 1) := by decide +kernel
theorem d_X8_holdersOf_54 : decode cX8_holdersOf 54 = .ok (.aload_n 0, 1) := by decide +kernel
theorem d_X8_holdersOf_55 : decode cX8_holdersOf 55 = .ok (.getfield 9, 3) := by decide +kernel
theorem d_X8_holdersOf_58 : decode cX8_holdersOf 58 = .ok (.iload 6, 2) := by decide +kernel
theorem d_X8_holdersOf_60 : decode cX8_holdersOf 60 = .ok (.iaload, 1) := by decide +kernel
theorem d_X8_holdersOf_61 : decode cX8_holdersOf 61 = .ok (.invokestatic 73, 3) := by decide +kernel
theorem d_X8_holdersOf_64 : decode cX8_holdersOf 64 = .ok (.iconst 1, 1) := by decide +kernel
theorem d_X8_holdersOf_65 : decode cX8_holdersOf 65 = .ok (.if_icmp .ne 12, 3) := by decide +kernel
theorem d_X8_holdersOf_68 : decode cX8_holdersOf 68 = .ok (.iload 4, 2) := by decide +kernel
theorem d_X8_holdersOf_70 : decode cX8_holdersOf 70 = .ok (.iconst 1, 1) := by decide +kernel
theorem d_X8_holdersOf_71 : decode cX8_holdersOf 71 = .ok (.iload 5, 2) := by decide +kernel
theorem d_X8_holdersOf_73 : decode cX8_holdersOf 73 = .ok (.ishl, 1) := by decide +kernel
theorem d_X8_holdersOf_74 : decode cX8_holdersOf 74 = .ok (.ior, 1) := by decide +kernel
theorem d_X8_holdersOf_75 : decode cX8_holdersOf 75 = .ok (.istore 4, 2) := by decide +kernel
theorem d_X8_holdersOf_77 : decode cX8_holdersOf 77 = .ok (.iinc 5 1, 3) := by decide +kernel
theorem d_X8_holdersOf_80 : decode cX8_holdersOf 80 = .ok (.goto (-55), 3) := by decide +kernel
theorem d_X8_holdersOf_83 : decode cX8_holdersOf 83 = .ok (.iload 4, 2) := by decide +kernel
theorem d_X8_holdersOf_85 : decode cX8_holdersOf 85 = .ok (.ireturn, 1) := by decide +kernel
abbrev X_X8_holdersOf : gX := (RX8, cX8_holdersOf, 7, (some .int), false)
def F_X8_holdersOf_b77 (k25 : Option Nat → Option Nat → Int32 → Int32 → Int32 → Int32 → Option Int32) (M : gM) (l0 : Option Nat) (l1 : Option Nat) (l2 : Int32) (l3 : Int32) (l4 : Int32) (l5 : Int32) : Option Int32 :=
  k25 l0 l1 l2 l3 l4 (l5 + 1)
theorem T_X8_holdersOf_b77 (k25 : Option Nat → Option Nat → Int32 → Int32 → Int32 → Int32 → Option Int32) (M : gM) (r : Int32) (hk25 : ∀ (l0 : Option Nat) (l1 : Option Nat) (l2 : Int32) (l3 : Int32) (l4 : Int32) (l5 : Int32), k25 l0 l1 l2 l3 l4 l5 = some r → GW 1 0 0 X_X8_holdersOf 25 [(0, vr l0), (1, vr l1), (2, vi l2), (3, vi l3), (4, vi l4), (5, vi l5)] [] M (some (vi r), M)) (l0 : Option Nat) (l1 : Option Nat) (l2 : Int32) (l3 : Int32) (l4 : Int32) (l5 : Int32) (h : F_X8_holdersOf_b77 k25 M l0 l1 l2 l3 l4 l5 = some r) : GW 1 0 0 X_X8_holdersOf 77 [(0, vr l0), (1, vr l1), (2, vi l2), (3, vi l3), (4, vi l4), (5, vi l5)] [] M (some (vi r), M) := by
  delta F_X8_holdersOf_b77 at h
  refine GW_iinc (j := 5) (X := X_X8_holdersOf) (pc := 77) d_X8_holdersOf_77 rfl (congrArg (fun z => _ + z) (by decide : Int32.ofInt 1 = (1 : Int32))) (Nat.le_of_ble_eq_true rfl) (lv2 := [(5, vi (l5 + 1)), (0, vr l0), (1, vr l1), (2, vi l2), (3, vi l3), (4, vi l4)]) rfl ?_
  refine GW_goto (X := X_X8_holdersOf) (pc := 80) 25 d_X8_holdersOf_80 (by decide) ?_
  refine GW_sub [1, 2, 3, 4, 5, 0] rfl ?_
  exact hk25 l0 l1 l2 l3 l4 (l5 + 1) h
def F_X8_holdersOf_b25 (k25 : Option Nat → Option Nat → Int32 → Int32 → Int32 → Int32 → Option Int32) (M : gM) (l0 : Option Nat) (l1 : Option Nat) (l2 : Int32) (l3 : Int32) (l4 : Int32) (l5 : Int32) : Option Int32 :=
  (gI 1 M l1 7).bind fun v1 => if v1 ≤ l5 then (some l4) else ((gR 8 M l0 1).bind fun v2 => (aI 20 M v2 ((l5 * (7 : Int32)) + l2)).bind fun v3 => if v3 ≤ 0 then (F_X8_holdersOf_b77 k25 M l0 l1 l2 l3 l4 l5) else ((gR 8 M l0 0).bind fun v4 => (aI 20 M v4 ((l5 * (7 : Int32)) + l2)).bind fun v5 => (F_X11_bit l3 v5 M).bind fun v6 => if v6 = (1 : Int32) then (F_X8_holdersOf_b77 k25 M l0 l1 l2 l3 (l4 ||| ((1 : Int32) <<< (l5 &&& 31))) l5) else (F_X8_holdersOf_b77 k25 M l0 l1 l2 l3 l4 l5)))
set_option maxHeartbeats 1000000 in
theorem T_X8_holdersOf_b25 (k25 : Option Nat → Option Nat → Int32 → Int32 → Int32 → Int32 → Option Int32) (M : gM) (r : Int32) (hk25 : ∀ (l0 : Option Nat) (l1 : Option Nat) (l2 : Int32) (l3 : Int32) (l4 : Int32) (l5 : Int32), k25 l0 l1 l2 l3 l4 l5 = some r → GW 1 0 0 X_X8_holdersOf 25 [(0, vr l0), (1, vr l1), (2, vi l2), (3, vi l3), (4, vi l4), (5, vi l5)] [] M (some (vi r), M)) (l0 : Option Nat) (l1 : Option Nat) (l2 : Int32) (l3 : Int32) (l4 : Int32) (l5 : Int32) (h : F_X8_holdersOf_b25 k25 M l0 l1 l2 l3 l4 l5 = some r) : GW 1 0 0 X_X8_holdersOf 25 [(0, vr l0), (1, vr l1), (2, vi l2), (3, vi l3), (4, vi l4), (5, vi l5)] [] M (some (vi r), M) := by
  delta F_X8_holdersOf_b25 at h
  refine GW_iload (X := X_X8_holdersOf) (pc := 25) d_X8_holdersOf_25 5 rfl ?_
  refine GW_aload_n (X := X_X8_holdersOf) (pc := 27) d_X8_holdersOf_27 rfl 1 rfl ?_
  replace h := g_bd h
  obtain ⟨v1, hv1, h⟩ := h
  refine GW_getI (X := X_X8_holdersOf) (pc := 28) f_X8_66 d_X8_holdersOf_28 hv1 (Or.inl ty_1_7) ?_
  refine GW_icmp_ge (X := X_X8_holdersOf) (pc := 31) 83 d_X8_holdersOf_31 (by decide) (fun c => ?_) (fun c => ?_)
  · replace h := g_ip c h
    refine GW_iload (X := X_X8_holdersOf) (pc := 83) d_X8_holdersOf_83 4 rfl ?_
    replace h := Option.some.inj h
    subst h
    exact GW_ret (X := X_X8_holdersOf) (pc := 85) d_X8_holdersOf_85 rfl trivial
  · replace h := g_ie c h
    refine GW_iload (X := X_X8_holdersOf) (pc := 34) d_X8_holdersOf_34 5 rfl ?_
    refine GW_bipush (X := X_X8_holdersOf) (pc := 36) (v := 7) d_X8_holdersOf_36 (by decide) ?_
    refine GW_imul (X := X_X8_holdersOf) (pc := 38) d_X8_holdersOf_38 ?_
    refine GW_iload_n (X := X_X8_holdersOf) (pc := 39) d_X8_holdersOf_39 rfl 2 rfl ?_
    refine GW_iadd (X := X_X8_holdersOf) (pc := 40) d_X8_holdersOf_40 ?_
    refine GW_istore (X := X_X8_holdersOf) (pc := 41) d_X8_holdersOf_41 (Nat.le_of_ble_eq_true rfl) (lv2 := [(6, vi ((l5 * (7 : Int32)) + l2)), (0, vr l0), (1, vr l1), (2, vi l2), (3, vi l3), (4, vi l4), (5, vi l5)]) rfl ?_
    refine GW_aload_n (X := X_X8_holdersOf) (pc := 43) d_X8_holdersOf_43 rfl 1 rfl ?_
    replace h := g_bd h
    obtain ⟨v2, hv2, h⟩ := h
    refine GW_getR (X := X_X8_holdersOf) (pc := 44) f_X8_15 d_X8_holdersOf_44 hv2 (Or.inr ⟨_, ty_8_1⟩) ?_
    refine GW_iload (X := X_X8_holdersOf) (pc := 47) d_X8_holdersOf_47 0 rfl ?_
    replace h := g_bd h
    obtain ⟨v3, hv3, h⟩ := h
    refine GW_iald (X := X_X8_holdersOf) (pc := 49) d_X8_holdersOf_49 hv3 ?_
    refine GW_if_le (X := X_X8_holdersOf) (pc := 50) 77 d_X8_holdersOf_50 (by decide) (fun c => ?_) (fun c => ?_)
    · replace h := g_ip c h
      refine GW_sub [1, 2, 3, 4, 5, 6] rfl ?_
      exact T_X8_holdersOf_b77 k25 M r hk25 l0 l1 l2 l3 l4 l5 h
    · replace h := g_ie c h
      refine GW_iload_n (X := X_X8_holdersOf) (pc := 53) d_X8_holdersOf_53 rfl 4 rfl ?_
      refine GW_aload_n (X := X_X8_holdersOf) (pc := 54) d_X8_holdersOf_54 rfl 1 rfl ?_
      replace h := g_bd h
      obtain ⟨v4, hv4, h⟩ := h
      refine GW_getR (X := X_X8_holdersOf) (pc := 55) f_X8_9 d_X8_holdersOf_55 hv4 (Or.inr ⟨_, ty_8_0⟩) ?_
      refine GW_iload (X := X_X8_holdersOf) (pc := 58) d_X8_holdersOf_58 0 rfl ?_
      replace h := g_bd h
      obtain ⟨v5, hv5, h⟩ := h
      refine GW_iald (X := X_X8_holdersOf) (pc := 60) d_X8_holdersOf_60 hv5 ?_
      replace h := g_bd h
      obtain ⟨v6, hv6, h⟩ := h
      refine GW_callSN (X := X_X8_holdersOf) (pc := 61) (bc0 := 0) (bs0 := 0) (r := some (vi v6)) (M2 := M) (host := RX11) (T_X11_bit l3 v5 M v6 hv6) (Nat.le_of_ble_eq_true rfl) (Nat.le_of_ble_eq_true rfl) yc_X11_bit (List.mem_of_getElem? (i := 12) rfl) ⟨m_646, m_116, m_647⟩ d_X8_holdersOf_61 rfl (st := []) rfl (Nat.le_of_ble_eq_true rfl) (Nat.le_of_ble_eq_true rfl) (Nat.le_of_ble_eq_true rfl) (st2 := [vi v6]) rfl ?_
      refine GW_iconst (X := X_X8_holdersOf) (pc := 64) (v := 1) d_X8_holdersOf_64 (by decide) ?_
      refine GW_icmp_ne (X := X_X8_holdersOf) (pc := 65) 77 d_X8_holdersOf_65 (by decide) (fun c => ?_) (fun c => ?_)
      · replace h := g_ie c h
        refine GW_sub [1, 2, 3, 4, 5, 6] rfl ?_
        exact T_X8_holdersOf_b77 k25 M r hk25 l0 l1 l2 l3 l4 l5 h
      · replace h := g_ip c h
        refine GW_iload (X := X_X8_holdersOf) (pc := 68) d_X8_holdersOf_68 5 rfl ?_
        refine GW_iconst (X := X_X8_holdersOf) (pc := 70) (v := 1) d_X8_holdersOf_70 (by decide) ?_
        refine GW_iload (X := X_X8_holdersOf) (pc := 71) d_X8_holdersOf_71 6 rfl ?_
        refine GW_ishl (X := X_X8_holdersOf) (pc := 73) d_X8_holdersOf_73 ?_
        refine GW_ior (X := X_X8_holdersOf) (pc := 74) d_X8_holdersOf_74 ?_
        refine GW_istore (X := X_X8_holdersOf) (pc := 75) d_X8_holdersOf_75 (Nat.le_of_ble_eq_true rfl) (lv2 := [(4, vi (l4 ||| ((1 : Int32) <<< (l5 &&& 31)))), (6, vi ((l5 * (7 : Int32)) + l2)), (0, vr l0), (1, vr l1), (2, vi l2), (3, vi l3), (5, vi l5)]) rfl ?_
        refine GW_sub [2, 3, 4, 5, 0, 6] rfl ?_
        exact T_X8_holdersOf_b77 k25 M r hk25 l0 l1 l2 l3 (l4 ||| ((1 : Int32) <<< (l5 &&& 31))) l5 h
def F_X8_holdersOf_L25 (M : gM) : Nat → Option Nat → Option Nat → Int32 → Int32 → Int32 → Int32 → Option Int32
  | 0 => fun _ _ _ _ _ _ => none
  | n + 1 => F_X8_holdersOf_b25 (F_X8_holdersOf_L25 M n) M
theorem T_X8_holdersOf_L25 (M : gM) (r : Int32) : ∀ (n : Nat) (l0 : Option Nat) (l1 : Option Nat) (l2 : Int32) (l3 : Int32) (l4 : Int32) (l5 : Int32), F_X8_holdersOf_L25 M n l0 l1 l2 l3 l4 l5 = some r → GW 1 0 0 X_X8_holdersOf 25 [(0, vr l0), (1, vr l1), (2, vi l2), (3, vi l3), (4, vi l4), (5, vi l5)] [] M (some (vi r), M) := by
  intro n
  induction n with
  | zero => intro l0 l1 l2 l3 l4 l5 h; exact g_no h
  | succ n ih => intro l0 l1 l2 l3 l4 l5 h; exact T_X8_holdersOf_b25 (F_X8_holdersOf_L25 M n) M r ih l0 l1 l2 l3 l4 l5 h
def F_X8_holdersOf_b0 (M : gM) (l0 : Option Nat) (l1 : Option Nat) (l2 : Int32) : Option Int32 :=
  (gR 8 M l0 3).bind fun v1 => (aI 20 M v1 l2).bind fun v2 => if v2 = (-1 : Int32) then ((gO 8 M l0).bind fun i3 => (F_X8_heldAs (some i3) l1 l2 M).bind fun v4 => F_X8_holdersOf_L25 M g_fuel (some i3) l1 l2 v4 (0 : Int32) (0 : Int32)) else (some (0 : Int32))
theorem T_X8_holdersOf_b0 (M : gM) (r : Int32) (l0 : Option Nat) (l1 : Option Nat) (l2 : Int32) (h : F_X8_holdersOf_b0 M l0 l1 l2 = some r) : GW 1 0 0 X_X8_holdersOf 0 [(0, vr l0), (1, vr l1), (2, vi l2)] [] M (some (vi r), M) := by
  delta F_X8_holdersOf_b0 at h
  refine GW_aload_n (X := X_X8_holdersOf) (pc := 0) d_X8_holdersOf_0 rfl 0 rfl ?_
  replace h := g_bd h
  obtain ⟨v1, hv1, h⟩ := h
  refine GW_getR (X := X_X8_holdersOf) (pc := 1) f_X8_21 d_X8_holdersOf_1 hv1 (Or.inr ⟨_, ty_8_3⟩) ?_
  refine GW_iload_n (X := X_X8_holdersOf) (pc := 4) d_X8_holdersOf_4 rfl 2 rfl ?_
  replace h := g_bd h
  obtain ⟨v2, hv2, h⟩ := h
  refine GW_iald (X := X_X8_holdersOf) (pc := 5) d_X8_holdersOf_5 hv2 ?_
  refine GW_iconst (X := X_X8_holdersOf) (pc := 6) (v := -1) d_X8_holdersOf_6 (by decide) ?_
  refine GW_icmp_eq (X := X_X8_holdersOf) (pc := 7) 12 d_X8_holdersOf_7 (by decide) (fun c => ?_) (fun c => ?_)
  · replace h := g_ip c h
    refine GW_aload_n (X := X_X8_holdersOf) (pc := 12) d_X8_holdersOf_12 rfl 0 rfl ?_
    refine GW_aload_n (X := X_X8_holdersOf) (pc := 13) d_X8_holdersOf_13 rfl 1 rfl ?_
    refine GW_iload_n (X := X_X8_holdersOf) (pc := 14) d_X8_holdersOf_14 rfl 2 rfl ?_
    replace h := g_bd h
    obtain ⟨i3, hi3, h⟩ := h
    obtain ⟨rfl, ki3⟩ := g_gO hi3
    replace h := g_bd h
    obtain ⟨v4, hv4, h⟩ := h
    refine GW_callV (X := X_X8_holdersOf) (pc := 15) (bc0 := 0) (bs0 := 0) (r := some (vi v4)) (M2 := M) (c0 := 8) (T_X8_heldAs (some i3) l1 l2 M v4 hv4) (Nat.le_of_ble_eq_true rfl) (Nat.le_of_ble_eq_true rfl) rfl g_cok8 ki3 yc_X8_heldAs ⟨m_785, m_787, m_21, m_119, m_788⟩ d_X8_holdersOf_15 rfl (st := []) rfl (Nat.le_of_ble_eq_true rfl) (Nat.le_of_ble_eq_true rfl) (Nat.le_of_ble_eq_true rfl) (st2 := [vi v4]) rfl ?_
    refine GW_istore_n (X := X_X8_holdersOf) (pc := 18) d_X8_holdersOf_18 rfl (Nat.le_of_ble_eq_true rfl) (lv2 := [(3, vi v4), (0, vr (some i3)), (1, vr l1), (2, vi l2)]) rfl ?_
    refine GW_iconst (X := X_X8_holdersOf) (pc := 19) (v := 0) d_X8_holdersOf_19 (by decide) ?_
    refine GW_istore (X := X_X8_holdersOf) (pc := 20) d_X8_holdersOf_20 (Nat.le_of_ble_eq_true rfl) (lv2 := [(4, vi (0 : Int32)), (3, vi v4), (0, vr (some i3)), (1, vr l1), (2, vi l2)]) rfl ?_
    refine GW_iconst (X := X_X8_holdersOf) (pc := 22) (v := 0) d_X8_holdersOf_22 (by decide) ?_
    refine GW_istore (X := X_X8_holdersOf) (pc := 23) d_X8_holdersOf_23 (Nat.le_of_ble_eq_true rfl) (lv2 := [(5, vi (0 : Int32)), (4, vi (0 : Int32)), (3, vi v4), (0, vr (some i3)), (1, vr l1), (2, vi l2)]) rfl ?_
    refine GW_sub [3, 4, 5, 2, 1, 0] rfl ?_
    exact T_X8_holdersOf_L25 M r g_fuel (some i3) l1 l2 v4 (0 : Int32) (0 : Int32) h
  · replace h := g_ie c h
    refine GW_iconst (X := X_X8_holdersOf) (pc := 10) (v := 0) d_X8_holdersOf_10 (by decide) ?_
    replace h := Option.some.inj h
    subst h
    exact GW_ret (X := X_X8_holdersOf) (pc := 11) d_X8_holdersOf_11 rfl trivial
def F_X8_holdersOf (l0 : Option Nat) (l1 : Option Nat) (l2 : Int32) (M : gM) : Option Int32 := F_X8_holdersOf_b0 M l0 l1 l2
theorem T_X8_holdersOf (l0 : Option Nat) (l1 : Option Nat) (l2 : Int32) (M : gM) (r : Int32) (h : F_X8_holdersOf l0 l1 l2 M = some r) : g_Met 1 0 0 yX8_holdersOf X_X8_holdersOf [vr l0, vr l1, vi l2] M (some (vi r), M) :=
  g_Met_of pn_RX8 rfl (Nat.le_of_ble_eq_true rfl) (fun h => by cases h) (GW_sub [0, 1, 2] rfl (T_X8_holdersOf_b0 M r l0 l1 l2 h))
/-! ForgetHeirs$State.heldBy(LForgetHeirs$House;I)I -/
theorem d_X8_heldBy_0 : decode cX8_heldBy 0 = .ok (.iconst 0, 1) := by decide +kernel
theorem d_X8_heldBy_1 : decode cX8_heldBy 1 = .ok (.istore_n 3, 1) := by decide +kernel
theorem d_X8_heldBy_2 : decode cX8_heldBy 2 = .ok (.iconst 0, 1) := by decide +kernel
theorem d_X8_heldBy_3 : decode cX8_heldBy 3 = .ok (.istore 4, 2) := by decide +kernel
theorem d_X8_heldBy_5 : decode cX8_heldBy 5 = .ok (.iload 4, 2) := by decide +kernel
theorem d_X8_heldBy_7 : decode cX8_heldBy 7 = .ok (.aload_n 1, 1) := by decide +kernel
theorem d_X8_heldBy_8 : decode cX8_heldBy 8 = .ok (.getfield 63, 3) := by decide +kernel
theorem d_X8_heldBy_11 : decode cX8_heldBy 11 = .ok (.if_icmp .ge 31, 3) := by decide +kernel
theorem d_X8_heldBy_14 : decode cX8_heldBy 14 = .ok (.aload_n 0, 1) := by decide +kernel
theorem d_X8_heldBy_15 : decode cX8_heldBy 15 = .ok (.aload_n 1, 1) := by decide +kernel
theorem d_X8_heldBy_16 : decode cX8_heldBy 16 = .ok (.iload 4, 2) := by decide +kernel
theorem d_X8_heldBy_18 : decode cX8_heldBy 18 = .ok (.invokevirtual 76, 3) := by decide +kernel
theorem d_X8_heldBy_21 : decode cX8_heldBy 21 = .ok (.iload_n 2, 1) := by decide +kernel
theorem d_X8_heldBy_22 : decode cX8_heldBy 22 = .ok (.invokestatic 73, 3) := by decide +kernel
theorem d_X8_heldBy_25 : decode cX8_heldBy 25 = .ok (.iconst 1, 1) := by decide +kernel
theorem d_X8_heldBy_26 : decode cX8_heldBy 26 = .ok (.if_icmp .ne 10, 3) := by decide +kernel
theorem d_X8_heldBy_29 : decode cX8_heldBy 29 = .ok (.iload_n 3, 1) := by decide +kernel
theorem d_X8_heldBy_30 : decode cX8_heldBy 30 = .ok (.iconst 1, 1) := by decide +kernel
theorem d_X8_heldBy_31 : decode cX8_heldBy 31 = .ok (.iload 4, 2) := by decide +kernel
theorem d_X8_heldBy_33 : decode cX8_heldBy 33 = .ok (.ishl, 1) := by decide +kernel
theorem d_X8_heldBy_34 : decode cX8_heldBy 34 = .ok (.ior, 1) := by decide +kernel
theorem d_X8_heldBy_35 : decode cX8_heldBy 35 = .ok (.istore_n 3, 1) := by decide +kernel
theorem d_X8_heldBy_36 : decode cX8_heldBy 36 = .ok (.iinc 4 1, 3) := by decide +kernel
theorem d_X8_heldBy_39 : decode cX8_heldBy 39 = .ok (.goto (-34), 3) := by decide +kernel
theorem d_X8_heldBy_42 : decode cX8_heldBy 42 = .ok (.iload_n 3, 1) := by decide +kernel
theorem d_X8_heldBy_43 : decode cX8_heldBy 43 = .ok (.ireturn, 1) := by decide +kernel
abbrev X_X8_heldBy : gX := (RX8, cX8_heldBy, 5, (some .int), false)
def F_X8_heldBy_b36 (k5 : Option Nat → Option Nat → Int32 → Int32 → Int32 → Option Int32) (M : gM) (l0 : Option Nat) (l1 : Option Nat) (l2 : Int32) (l3 : Int32) (l4 : Int32) : Option Int32 :=
  k5 l0 l1 l2 l3 (l4 + 1)
theorem T_X8_heldBy_b36 (k5 : Option Nat → Option Nat → Int32 → Int32 → Int32 → Option Int32) (M : gM) (r : Int32) (hk5 : ∀ (l0 : Option Nat) (l1 : Option Nat) (l2 : Int32) (l3 : Int32) (l4 : Int32), k5 l0 l1 l2 l3 l4 = some r → GW 2 0 0 X_X8_heldBy 5 [(0, vr l0), (1, vr l1), (2, vi l2), (3, vi l3), (4, vi l4)] [] M (some (vi r), M)) (l0 : Option Nat) (l1 : Option Nat) (l2 : Int32) (l3 : Int32) (l4 : Int32) (h : F_X8_heldBy_b36 k5 M l0 l1 l2 l3 l4 = some r) : GW 2 0 0 X_X8_heldBy 36 [(0, vr l0), (1, vr l1), (2, vi l2), (3, vi l3), (4, vi l4)] [] M (some (vi r), M) := by
  delta F_X8_heldBy_b36 at h
  refine GW_iinc (j := 4) (X := X_X8_heldBy) (pc := 36) d_X8_heldBy_36 rfl (congrArg (fun z => _ + z) (by decide : Int32.ofInt 1 = (1 : Int32))) (Nat.le_of_ble_eq_true rfl) (lv2 := [(4, vi (l4 + 1)), (0, vr l0), (1, vr l1), (2, vi l2), (3, vi l3)]) rfl ?_
  refine GW_goto (X := X_X8_heldBy) (pc := 39) 5 d_X8_heldBy_39 (by decide) ?_
  refine GW_sub [1, 2, 3, 4, 0] rfl ?_
  exact hk5 l0 l1 l2 l3 (l4 + 1) h
def F_X8_heldBy_b5 (k5 : Option Nat → Option Nat → Int32 → Int32 → Int32 → Option Int32) (M : gM) (l0 : Option Nat) (l1 : Option Nat) (l2 : Int32) (l3 : Int32) (l4 : Int32) : Option Int32 :=
  (gI 1 M l1 6).bind fun v1 => if v1 ≤ l4 then (some l3) else ((gO 8 M l0).bind fun i2 => (F_X8_holdersOf (some i2) l1 l4 M).bind fun v3 => (F_X11_bit v3 l2 M).bind fun v4 => if v4 = (1 : Int32) then (F_X8_heldBy_b36 k5 M (some i2) l1 l2 (l3 ||| ((1 : Int32) <<< (l4 &&& 31))) l4) else (F_X8_heldBy_b36 k5 M (some i2) l1 l2 l3 l4))
theorem T_X8_heldBy_b5 (k5 : Option Nat → Option Nat → Int32 → Int32 → Int32 → Option Int32) (M : gM) (r : Int32) (hk5 : ∀ (l0 : Option Nat) (l1 : Option Nat) (l2 : Int32) (l3 : Int32) (l4 : Int32), k5 l0 l1 l2 l3 l4 = some r → GW 2 0 0 X_X8_heldBy 5 [(0, vr l0), (1, vr l1), (2, vi l2), (3, vi l3), (4, vi l4)] [] M (some (vi r), M)) (l0 : Option Nat) (l1 : Option Nat) (l2 : Int32) (l3 : Int32) (l4 : Int32) (h : F_X8_heldBy_b5 k5 M l0 l1 l2 l3 l4 = some r) : GW 2 0 0 X_X8_heldBy 5 [(0, vr l0), (1, vr l1), (2, vi l2), (3, vi l3), (4, vi l4)] [] M (some (vi r), M) := by
  delta F_X8_heldBy_b5 at h
  refine GW_iload (X := X_X8_heldBy) (pc := 5) d_X8_heldBy_5 4 rfl ?_
  refine GW_aload_n (X := X_X8_heldBy) (pc := 7) d_X8_heldBy_7 rfl 1 rfl ?_
  replace h := g_bd h
  obtain ⟨v1, hv1, h⟩ := h
  refine GW_getI (X := X_X8_heldBy) (pc := 8) f_X8_63 d_X8_heldBy_8 hv1 (Or.inl ty_1_6) ?_
  refine GW_icmp_ge (X := X_X8_heldBy) (pc := 11) 42 d_X8_heldBy_11 (by decide) (fun c => ?_) (fun c => ?_)
  · replace h := g_ip c h
    refine GW_iload_n (X := X_X8_heldBy) (pc := 42) d_X8_heldBy_42 rfl 3 rfl ?_
    replace h := Option.some.inj h
    subst h
    exact GW_ret (X := X_X8_heldBy) (pc := 43) d_X8_heldBy_43 rfl trivial
  · replace h := g_ie c h
    refine GW_aload_n (X := X_X8_heldBy) (pc := 14) d_X8_heldBy_14 rfl 0 rfl ?_
    refine GW_aload_n (X := X_X8_heldBy) (pc := 15) d_X8_heldBy_15 rfl 1 rfl ?_
    refine GW_iload (X := X_X8_heldBy) (pc := 16) d_X8_heldBy_16 4 rfl ?_
    replace h := g_bd h
    obtain ⟨i2, hi2, h⟩ := h
    obtain ⟨rfl, ki2⟩ := g_gO hi2
    replace h := g_bd h
    obtain ⟨v3, hv3, h⟩ := h
    refine GW_callV (X := X_X8_heldBy) (pc := 18) (bc0 := 0) (bs0 := 0) (r := some (vi v3)) (M2 := M) (c0 := 8) (T_X8_holdersOf (some i2) l1 l4 M v3 hv3) (Nat.le_of_ble_eq_true rfl) (Nat.le_of_ble_eq_true rfl) rfl g_cok8 ki2 yc_X8_holdersOf ⟨m_781, m_782, m_783, m_119, m_784⟩ d_X8_heldBy_18 rfl (st := []) rfl (Nat.le_of_ble_eq_true rfl) (Nat.le_of_ble_eq_true rfl) (Nat.le_of_ble_eq_true rfl) (st2 := [vi v3]) rfl ?_
    refine GW_iload_n (X := X_X8_heldBy) (pc := 21) d_X8_heldBy_21 rfl 2 rfl ?_
    replace h := g_bd h
    obtain ⟨v4, hv4, h⟩ := h
    refine GW_callSN (X := X_X8_heldBy) (pc := 22) (bc0 := 0) (bs0 := 0) (r := some (vi v4)) (M2 := M) (host := RX11) (T_X11_bit v3 l2 M v4 hv4) (Nat.le_of_ble_eq_true rfl) (Nat.le_of_ble_eq_true rfl) yc_X11_bit (List.mem_of_getElem? (i := 12) rfl) ⟨m_646, m_116, m_647⟩ d_X8_heldBy_22 rfl (st := []) rfl (Nat.le_of_ble_eq_true rfl) (Nat.le_of_ble_eq_true rfl) (Nat.le_of_ble_eq_true rfl) (st2 := [vi v4]) rfl ?_
    refine GW_iconst (X := X_X8_heldBy) (pc := 25) (v := 1) d_X8_heldBy_25 (by decide) ?_
    refine GW_icmp_ne (X := X_X8_heldBy) (pc := 26) 36 d_X8_heldBy_26 (by decide) (fun c => ?_) (fun c => ?_)
    · replace h := g_ie c h
      exact T_X8_heldBy_b36 k5 M r hk5 (some i2) l1 l2 l3 l4 h
    · replace h := g_ip c h
      refine GW_iload_n (X := X_X8_heldBy) (pc := 29) d_X8_heldBy_29 rfl 3 rfl ?_
      refine GW_iconst (X := X_X8_heldBy) (pc := 30) (v := 1) d_X8_heldBy_30 (by decide) ?_
      refine GW_iload (X := X_X8_heldBy) (pc := 31) d_X8_heldBy_31 4 rfl ?_
      refine GW_ishl (X := X_X8_heldBy) (pc := 33) d_X8_heldBy_33 ?_
      refine GW_ior (X := X_X8_heldBy) (pc := 34) d_X8_heldBy_34 ?_
      refine GW_istore_n (X := X_X8_heldBy) (pc := 35) d_X8_heldBy_35 rfl (Nat.le_of_ble_eq_true rfl) (lv2 := [(3, vi (l3 ||| ((1 : Int32) <<< (l4 &&& 31)))), (0, vr (some i2)), (1, vr l1), (2, vi l2), (4, vi l4)]) rfl ?_
      refine GW_sub [1, 2, 3, 0, 4] rfl ?_
      exact T_X8_heldBy_b36 k5 M r hk5 (some i2) l1 l2 (l3 ||| ((1 : Int32) <<< (l4 &&& 31))) l4 h
def F_X8_heldBy_L5 (M : gM) : Nat → Option Nat → Option Nat → Int32 → Int32 → Int32 → Option Int32
  | 0 => fun _ _ _ _ _ => none
  | n + 1 => F_X8_heldBy_b5 (F_X8_heldBy_L5 M n) M
theorem T_X8_heldBy_L5 (M : gM) (r : Int32) : ∀ (n : Nat) (l0 : Option Nat) (l1 : Option Nat) (l2 : Int32) (l3 : Int32) (l4 : Int32), F_X8_heldBy_L5 M n l0 l1 l2 l3 l4 = some r → GW 2 0 0 X_X8_heldBy 5 [(0, vr l0), (1, vr l1), (2, vi l2), (3, vi l3), (4, vi l4)] [] M (some (vi r), M) := by
  intro n
  induction n with
  | zero => intro l0 l1 l2 l3 l4 h; exact g_no h
  | succ n ih => intro l0 l1 l2 l3 l4 h; exact T_X8_heldBy_b5 (F_X8_heldBy_L5 M n) M r ih l0 l1 l2 l3 l4 h
def F_X8_heldBy_b0 (M : gM) (l0 : Option Nat) (l1 : Option Nat) (l2 : Int32) : Option Int32 :=
  F_X8_heldBy_L5 M g_fuel l0 l1 l2 (0 : Int32) (0 : Int32)
theorem T_X8_heldBy_b0 (M : gM) (r : Int32) (l0 : Option Nat) (l1 : Option Nat) (l2 : Int32) (h : F_X8_heldBy_b0 M l0 l1 l2 = some r) : GW 2 0 0 X_X8_heldBy 0 [(0, vr l0), (1, vr l1), (2, vi l2)] [] M (some (vi r), M) := by
  delta F_X8_heldBy_b0 at h
  refine GW_iconst (X := X_X8_heldBy) (pc := 0) (v := 0) d_X8_heldBy_0 (by decide) ?_
  refine GW_istore_n (X := X_X8_heldBy) (pc := 1) d_X8_heldBy_1 rfl (Nat.le_of_ble_eq_true rfl) (lv2 := [(3, vi (0 : Int32)), (0, vr l0), (1, vr l1), (2, vi l2)]) rfl ?_
  refine GW_iconst (X := X_X8_heldBy) (pc := 2) (v := 0) d_X8_heldBy_2 (by decide) ?_
  refine GW_istore (X := X_X8_heldBy) (pc := 3) d_X8_heldBy_3 (Nat.le_of_ble_eq_true rfl) (lv2 := [(4, vi (0 : Int32)), (3, vi (0 : Int32)), (0, vr l0), (1, vr l1), (2, vi l2)]) rfl ?_
  refine GW_sub [2, 3, 4, 1, 0] rfl ?_
  exact T_X8_heldBy_L5 M r g_fuel l0 l1 l2 (0 : Int32) (0 : Int32) h
def F_X8_heldBy (l0 : Option Nat) (l1 : Option Nat) (l2 : Int32) (M : gM) : Option Int32 := F_X8_heldBy_b0 M l0 l1 l2
theorem T_X8_heldBy (l0 : Option Nat) (l1 : Option Nat) (l2 : Int32) (M : gM) (r : Int32) (h : F_X8_heldBy l0 l1 l2 M = some r) : g_Met 2 0 0 yX8_heldBy X_X8_heldBy [vr l0, vr l1, vi l2] M (some (vi r), M) :=
  g_Met_of pn_RX8 rfl (Nat.le_of_ble_eq_true rfl) (fun h => by cases h) (GW_sub [0, 1, 2] rfl (T_X8_heldBy_b0 M r l0 l1 l2 h))
/-! ForgetHeirs.heir(II)I -/
theorem d_X11_heir_0 : decode cX11_heir 0 = .ok (.aload_n 0, 1) := by decide +kernel
theorem d_X11_heir_1 : decode cX11_heir 1 = .ok (.iload_n 1, 1) := by decide +kernel
theorem d_X11_heir_2 : decode cX11_heir 2 = .ok (.invokevirtual 127, 3) := by decide +kernel
theorem d_X11_heir_5 : decode cX11_heir 5 = .ok (.ifCond .ne 5, 3) := by decide +kernel
theorem d_X11_heir_8 : decode cX11_heir 8 = .ok (.iconst (-1), 1) := by decide +kernel
theorem d_X11_heir_9 : decode cX11_heir 9 = .ok (.ireturn, 1) := by decide +kernel
theorem d_X11_heir_10 : decode cX11_heir 10 = .ok (.iload_n 2, 1) := by decide +kernel
theorem d_X11_heir_11 : decode cX11_heir 11 = .ok (.tableswitch 105 0 5 #[37, 47, 57, 69, 79, 92], 37) := by decide +kernel
theorem d_X11_heir_48 : decode cX11_heir 48 = .ok (.aload_n 0, 1) := by decide +kernel
theorem d_X11_heir_49 : decode cX11_heir 49 = .ok (.getfield 25, 3) := by decide +kernel
theorem d_X11_heir_52 : decode cX11_heir 52 = .ok (.getfield 131, 3) := by decide +kernel
theorem d_X11_heir_55 : decode cX11_heir 55 = .ok (.iload_n 1, 1) := by decide +kernel
theorem d_X11_heir_56 : decode cX11_heir 56 = .ok (.iaload, 1) := by decide +kernel
theorem d_X11_heir_57 : decode cX11_heir 57 = .ok (.ireturn, 1) := by decide +kernel
theorem d_X11_heir_58 : decode cX11_heir 58 = .ok (.aload_n 0, 1) := by decide +kernel
theorem d_X11_heir_59 : decode cX11_heir 59 = .ok (.getfield 59, 3) := by decide +kernel
theorem d_X11_heir_62 : decode cX11_heir 62 = .ok (.getfield 134, 3) := by decide +kernel
theorem d_X11_heir_65 : decode cX11_heir 65 = .ok (.iload_n 1, 1) := by decide +kernel
theorem d_X11_heir_66 : decode cX11_heir 66 = .ok (.iaload, 1) := by decide +kernel
theorem d_X11_heir_67 : decode cX11_heir 67 = .ok (.ireturn, 1) := by decide +kernel
theorem d_X11_heir_68 : decode cX11_heir 68 = .ok (.aload_n 0, 1) := by decide +kernel
theorem d_X11_heir_69 : decode cX11_heir 69 = .ok (.getfield 59, 3) := by decide +kernel
theorem d_X11_heir_72 : decode cX11_heir 72 = .ok (.getfield 137, 3) := by decide +kernel
theorem d_X11_heir_75 : decode cX11_heir 75 = .ok (.iload_n 1, 1) := by decide +kernel
theorem d_X11_heir_76 : decode cX11_heir 76 = .ok (.invokestatic 140, 3) := by decide +kernel
theorem d_X11_heir_79 : decode cX11_heir 79 = .ok (.ireturn, 1) := by decide +kernel
theorem d_X11_heir_80 : decode cX11_heir 80 = .ok (.aload_n 0, 1) := by decide +kernel
theorem d_X11_heir_81 : decode cX11_heir 81 = .ok (.getfield 59, 3) := by decide +kernel
theorem d_X11_heir_84 : decode cX11_heir 84 = .ok (.getfield 144, 3) := by decide +kernel
theorem d_X11_heir_87 : decode cX11_heir 87 = .ok (.iload_n 1, 1) := by decide +kernel
theorem d_X11_heir_88 : decode cX11_heir 88 = .ok (.iaload, 1) := by decide +kernel
theorem d_X11_heir_89 : decode cX11_heir 89 = .ok (.ireturn, 1) := by decide +kernel
theorem d_X11_heir_90 : decode cX11_heir 90 = .ok (.aload_n 0, 1) := by decide +kernel
theorem d_X11_heir_91 : decode cX11_heir 91 = .ok (.getfield 25, 3) := by decide +kernel
theorem d_X11_heir_94 : decode cX11_heir 94 = .ok (.aload_n 0, 1) := by decide +kernel
theorem d_X11_heir_95 : decode cX11_heir 95 = .ok (.getfield 59, 3) := by decide +kernel
theorem d_X11_heir_98 : decode cX11_heir 98 = .ok (.iload_n 1, 1) := by decide +kernel
theorem d_X11_heir_99 : decode cX11_heir 99 = .ok (.invokevirtual 147, 3) := by decide +kernel
theorem d_X11_heir_102 : decode cX11_heir 102 = .ok (.ireturn, 1) := by decide +kernel
theorem d_X11_heir_103 : decode cX11_heir 103 = .ok (.aload_n 0, 1) := by decide +kernel
theorem d_X11_heir_104 : decode cX11_heir 104 = .ok (.getfield 25, 3) := by decide +kernel
theorem d_X11_heir_107 : decode cX11_heir 107 = .ok (.aload_n 0, 1) := by decide +kernel
theorem d_X11_heir_108 : decode cX11_heir 108 = .ok (.getfield 59, 3) := by decide +kernel
theorem d_X11_heir_111 : decode cX11_heir 111 = .ok (.iload_n 1, 1) := by decide +kernel
theorem d_X11_heir_112 : decode cX11_heir 112 = .ok (.invokevirtual 151, 3) := by decide +kernel
theorem d_X11_heir_115 : decode cX11_heir 115 = .ok (.ireturn, 1) := by decide +kernel
theorem d_X11_heir_116 : decode cX11_heir 116 = .ok (.iconst (-1), 1) := by decide +kernel
theorem d_X11_heir_117 : decode cX11_heir 117 = .ok (.ireturn, 1) := by decide +kernel
abbrev X_X11_heir : gX := (RX11, cX11_heir, 3, (some .int), false)
def F_X11_heir_b0 (M : gM) (l0 : Option Nat) (l1 : Int32) (l2 : Int32) : Option Int32 :=
  (gO 11 M l0).bind fun i1 => (F_X11_isHeir (some i1) l1 M).bind fun v2 => if v2 = 0 then (some (-1 : Int32)) else (if l2 = (0 : Int32) then ((gR 11 M (some i1) 5).bind fun v3 => (gR 8 M v3 2).bind fun v4 => (aI 20 M v4 l1).bind fun v5 => some v5) else if l2 = (1 : Int32) then ((gR 11 M (some i1) 11).bind fun v6 => (gR 1 M v6 3).bind fun v7 => (aI 20 M v7 l1).bind fun v8 => some v8) else if l2 = (2 : Int32) then ((gR 11 M (some i1) 11).bind fun v9 => (gI 1 M v9 10).bind fun v10 => (F_X11_bit v10 l1 M).bind fun v11 => some v11) else if l2 = (3 : Int32) then ((gR 11 M (some i1) 11).bind fun v12 => (gR 1 M v12 4).bind fun v13 => (aI 20 M v13 l1).bind fun v14 => some v14) else if l2 = (4 : Int32) then ((gR 11 M (some i1) 5).bind fun v15 => (gR 11 M (some i1) 11).bind fun v16 => (gO 8 M v15).bind fun i17 => (F_X8_knownBy (some i17) v16 l1 M).bind fun v18 => some v18) else if l2 = (5 : Int32) then ((gR 11 M (some i1) 5).bind fun v19 => (gR 11 M (some i1) 11).bind fun v20 => (gO 8 M v19).bind fun i21 => (F_X8_heldBy (some i21) v20 l1 M).bind fun v22 => some v22) else (some (-1 : Int32)))
set_option maxHeartbeats 1000000 in
theorem T_X11_heir_b0 (M : gM) (r : Int32) (l0 : Option Nat) (l1 : Int32) (l2 : Int32) (h : F_X11_heir_b0 M l0 l1 l2 = some r) : GW 3 0 0 X_X11_heir 0 [(0, vr l0), (1, vi l1), (2, vi l2)] [] M (some (vi r), M) := by
  delta F_X11_heir_b0 at h
  refine GW_aload_n (X := X_X11_heir) (pc := 0) d_X11_heir_0 rfl 0 rfl ?_
  refine GW_iload_n (X := X_X11_heir) (pc := 1) d_X11_heir_1 rfl 1 rfl ?_
  replace h := g_bd h
  obtain ⟨i1, hi1, h⟩ := h
  obtain ⟨rfl, ki1⟩ := g_gO hi1
  replace h := g_bd h
  obtain ⟨v2, hv2, h⟩ := h
  refine GW_callV (X := X_X11_heir) (pc := 2) (bc0 := 0) (bs0 := 0) (r := some (vi v2)) (M2 := M) (c0 := 11) (T_X11_isHeir (some i1) l1 M v2 hv2) (Nat.le_of_ble_eq_true rfl) (Nat.le_of_ble_eq_true rfl) rfl g_cok11 ki1 yc_X11_isHeir ⟨m_768, m_770, m_20, m_116, m_771⟩ d_X11_heir_2 rfl (st := []) rfl (Nat.le_of_ble_eq_true rfl) (Nat.le_of_ble_eq_true rfl) (Nat.le_of_ble_eq_true rfl) (st2 := [vi v2]) rfl ?_
  refine GW_if_ne (X := X_X11_heir) (pc := 5) 10 d_X11_heir_5 (by decide) (fun c => ?_) (fun c => ?_)
  · replace h := g_ie c h
    refine GW_iload_n (X := X_X11_heir) (pc := 10) d_X11_heir_10 rfl 2 rfl ?_
    by_cases c0 : l2 = (0 : Int32)
    · replace h := g_ip c0 h
      refine GW_tableIn (X := X_X11_heir) (pc := 11) 48 d_X11_heir_11 (by rw [c0]; decide) (by rw [c0]; decide) (off := 37) (by rw [c0]; rfl) (by decide) ?_
      refine GW_aload_n (X := X_X11_heir) (pc := 48) d_X11_heir_48 rfl 0 rfl ?_
      replace h := g_bd h
      obtain ⟨v3, hv3, h⟩ := h
      refine GW_getR (X := X_X11_heir) (pc := 49) f_X11_25 d_X11_heir_49 hv3 (Or.inl ⟨_, ty_11_5⟩) ?_
      replace h := g_bd h
      obtain ⟨v4, hv4, h⟩ := h
      refine GW_getR (X := X_X11_heir) (pc := 52) f_X11_131 d_X11_heir_52 hv4 (Or.inr ⟨_, ty_8_2⟩) ?_
      refine GW_iload_n (X := X_X11_heir) (pc := 55) d_X11_heir_55 rfl 1 rfl ?_
      replace h := g_bd h
      obtain ⟨v5, hv5, h⟩ := h
      refine GW_iald (X := X_X11_heir) (pc := 56) d_X11_heir_56 hv5 ?_
      replace h := Option.some.inj h
      subst h
      exact GW_ret (X := X_X11_heir) (pc := 57) d_X11_heir_57 rfl trivial
    · replace h := g_ie c0 h
      by_cases c1 : l2 = (1 : Int32)
      · replace h := g_ip c1 h
        refine GW_tableIn (X := X_X11_heir) (pc := 11) 58 d_X11_heir_11 (by rw [c1]; decide) (by rw [c1]; decide) (off := 47) (by rw [c1]; rfl) (by decide) ?_
        refine GW_aload_n (X := X_X11_heir) (pc := 58) d_X11_heir_58 rfl 0 rfl ?_
        replace h := g_bd h
        obtain ⟨v6, hv6, h⟩ := h
        refine GW_getR (X := X_X11_heir) (pc := 59) f_X11_59 d_X11_heir_59 hv6 (Or.inl ⟨_, ty_11_11⟩) ?_
        replace h := g_bd h
        obtain ⟨v7, hv7, h⟩ := h
        refine GW_getR (X := X_X11_heir) (pc := 62) f_X11_134 d_X11_heir_62 hv7 (Or.inr ⟨_, ty_1_3⟩) ?_
        refine GW_iload_n (X := X_X11_heir) (pc := 65) d_X11_heir_65 rfl 1 rfl ?_
        replace h := g_bd h
        obtain ⟨v8, hv8, h⟩ := h
        refine GW_iald (X := X_X11_heir) (pc := 66) d_X11_heir_66 hv8 ?_
        replace h := Option.some.inj h
        subst h
        exact GW_ret (X := X_X11_heir) (pc := 67) d_X11_heir_67 rfl trivial
      · replace h := g_ie c1 h
        by_cases c2 : l2 = (2 : Int32)
        · replace h := g_ip c2 h
          refine GW_tableIn (X := X_X11_heir) (pc := 11) 68 d_X11_heir_11 (by rw [c2]; decide) (by rw [c2]; decide) (off := 57) (by rw [c2]; rfl) (by decide) ?_
          refine GW_aload_n (X := X_X11_heir) (pc := 68) d_X11_heir_68 rfl 0 rfl ?_
          replace h := g_bd h
          obtain ⟨v9, hv9, h⟩ := h
          refine GW_getR (X := X_X11_heir) (pc := 69) f_X11_59 d_X11_heir_69 hv9 (Or.inl ⟨_, ty_11_11⟩) ?_
          replace h := g_bd h
          obtain ⟨v10, hv10, h⟩ := h
          refine GW_getI (X := X_X11_heir) (pc := 72) f_X11_137 d_X11_heir_72 hv10 (Or.inl ty_1_10) ?_
          refine GW_iload_n (X := X_X11_heir) (pc := 75) d_X11_heir_75 rfl 1 rfl ?_
          replace h := g_bd h
          obtain ⟨v11, hv11, h⟩ := h
          refine GW_callS (X := X_X11_heir) (pc := 76) (bc0 := 0) (bs0 := 0) (r := some (vi v11)) (M2 := M) (T_X11_bit v10 l1 M v11 hv11) (Nat.le_of_ble_eq_true rfl) (Nat.le_of_ble_eq_true rfl) yc_X11_bit ⟨m_772, m_646, m_116, m_647⟩ d_X11_heir_76 rfl (st := []) rfl (Nat.le_of_ble_eq_true rfl) (Nat.le_of_ble_eq_true rfl) (Nat.le_of_ble_eq_true rfl) (st2 := [vi v11]) rfl ?_
          replace h := Option.some.inj h
          subst h
          exact GW_ret (X := X_X11_heir) (pc := 79) d_X11_heir_79 rfl trivial
        · replace h := g_ie c2 h
          by_cases c3 : l2 = (3 : Int32)
          · replace h := g_ip c3 h
            refine GW_tableIn (X := X_X11_heir) (pc := 11) 80 d_X11_heir_11 (by rw [c3]; decide) (by rw [c3]; decide) (off := 69) (by rw [c3]; rfl) (by decide) ?_
            refine GW_aload_n (X := X_X11_heir) (pc := 80) d_X11_heir_80 rfl 0 rfl ?_
            replace h := g_bd h
            obtain ⟨v12, hv12, h⟩ := h
            refine GW_getR (X := X_X11_heir) (pc := 81) f_X11_59 d_X11_heir_81 hv12 (Or.inl ⟨_, ty_11_11⟩) ?_
            replace h := g_bd h
            obtain ⟨v13, hv13, h⟩ := h
            refine GW_getR (X := X_X11_heir) (pc := 84) f_X11_144 d_X11_heir_84 hv13 (Or.inr ⟨_, ty_1_4⟩) ?_
            refine GW_iload_n (X := X_X11_heir) (pc := 87) d_X11_heir_87 rfl 1 rfl ?_
            replace h := g_bd h
            obtain ⟨v14, hv14, h⟩ := h
            refine GW_iald (X := X_X11_heir) (pc := 88) d_X11_heir_88 hv14 ?_
            replace h := Option.some.inj h
            subst h
            exact GW_ret (X := X_X11_heir) (pc := 89) d_X11_heir_89 rfl trivial
          · replace h := g_ie c3 h
            by_cases c4 : l2 = (4 : Int32)
            · replace h := g_ip c4 h
              refine GW_tableIn (X := X_X11_heir) (pc := 11) 90 d_X11_heir_11 (by rw [c4]; decide) (by rw [c4]; decide) (off := 79) (by rw [c4]; rfl) (by decide) ?_
              refine GW_aload_n (X := X_X11_heir) (pc := 90) d_X11_heir_90 rfl 0 rfl ?_
              replace h := g_bd h
              obtain ⟨v15, hv15, h⟩ := h
              refine GW_getR (X := X_X11_heir) (pc := 91) f_X11_25 d_X11_heir_91 hv15 (Or.inl ⟨_, ty_11_5⟩) ?_
              refine GW_aload_n (X := X_X11_heir) (pc := 94) d_X11_heir_94 rfl 0 rfl ?_
              replace h := g_bd h
              obtain ⟨v16, hv16, h⟩ := h
              refine GW_getR (X := X_X11_heir) (pc := 95) f_X11_59 d_X11_heir_95 hv16 (Or.inl ⟨_, ty_11_11⟩) ?_
              refine GW_iload_n (X := X_X11_heir) (pc := 98) d_X11_heir_98 rfl 1 rfl ?_
              replace h := g_bd h
              obtain ⟨i17, hi17, h⟩ := h
              obtain ⟨rfl, ki17⟩ := g_gO hi17
              replace h := g_bd h
              obtain ⟨v18, hv18, h⟩ := h
              refine GW_callV (X := X_X11_heir) (pc := 99) (bc0 := 0) (bs0 := 0) (r := some (vi v18)) (M2 := M) (c0 := 8) (T_X8_knownBy (some i17) v16 l1 M v18 hv18) (Nat.le_of_ble_eq_true rfl) (Nat.le_of_ble_eq_true rfl) rfl g_cok8 ki17 yc_X8_knownBy ⟨m_773, m_774, m_775, m_119, m_776⟩ d_X11_heir_99 rfl (st := []) rfl (Nat.le_of_ble_eq_true rfl) (Nat.le_of_ble_eq_true rfl) (Nat.le_of_ble_eq_true rfl) (st2 := [vi v18]) rfl ?_
              replace h := Option.some.inj h
              subst h
              exact GW_ret (X := X_X11_heir) (pc := 102) d_X11_heir_102 rfl trivial
            · replace h := g_ie c4 h
              by_cases c5 : l2 = (5 : Int32)
              · replace h := g_ip c5 h
                refine GW_tableIn (X := X_X11_heir) (pc := 11) 103 d_X11_heir_11 (by rw [c5]; decide) (by rw [c5]; decide) (off := 92) (by rw [c5]; rfl) (by decide) ?_
                refine GW_aload_n (X := X_X11_heir) (pc := 103) d_X11_heir_103 rfl 0 rfl ?_
                replace h := g_bd h
                obtain ⟨v19, hv19, h⟩ := h
                refine GW_getR (X := X_X11_heir) (pc := 104) f_X11_25 d_X11_heir_104 hv19 (Or.inl ⟨_, ty_11_5⟩) ?_
                refine GW_aload_n (X := X_X11_heir) (pc := 107) d_X11_heir_107 rfl 0 rfl ?_
                replace h := g_bd h
                obtain ⟨v20, hv20, h⟩ := h
                refine GW_getR (X := X_X11_heir) (pc := 108) f_X11_59 d_X11_heir_108 hv20 (Or.inl ⟨_, ty_11_11⟩) ?_
                refine GW_iload_n (X := X_X11_heir) (pc := 111) d_X11_heir_111 rfl 1 rfl ?_
                replace h := g_bd h
                obtain ⟨i21, hi21, h⟩ := h
                obtain ⟨rfl, ki21⟩ := g_gO hi21
                replace h := g_bd h
                obtain ⟨v22, hv22, h⟩ := h
                refine GW_callV (X := X_X11_heir) (pc := 112) (bc0 := 0) (bs0 := 0) (r := some (vi v22)) (M2 := M) (c0 := 8) (T_X8_heldBy (some i21) v20 l1 M v22 hv22) (Nat.le_of_ble_eq_true rfl) (Nat.le_of_ble_eq_true rfl) rfl g_cok8 ki21 yc_X8_heldBy ⟨m_777, m_778, m_779, m_119, m_780⟩ d_X11_heir_112 rfl (st := []) rfl (Nat.le_of_ble_eq_true rfl) (Nat.le_of_ble_eq_true rfl) (Nat.le_of_ble_eq_true rfl) (st2 := [vi v22]) rfl ?_
                replace h := Option.some.inj h
                subst h
                exact GW_ret (X := X_X11_heir) (pc := 115) d_X11_heir_115 rfl trivial
              · replace h := g_ie c5 h
                have n0 := g_nk (k := 0) c0 (by decide)
                have n1 := g_nk (k := 1) c1 (by decide)
                have n2 := g_nk (k := 2) c2 (by decide)
                have n3 := g_nk (k := 3) c3 (by decide)
                have n4 := g_nk (k := 4) c4 (by decide)
                have n5 := g_nk (k := 5) c5 (by decide)
                refine GW_tableOut (X := X_X11_heir) (pc := 11) 116 d_X11_heir_11 (by omega) (by decide) ?_
                refine GW_iconst (X := X_X11_heir) (pc := 116) (v := -1) d_X11_heir_116 (by decide) ?_
                replace h := Option.some.inj h
                subst h
                exact GW_ret (X := X_X11_heir) (pc := 117) d_X11_heir_117 rfl trivial
  · replace h := g_ip c h
    refine GW_iconst (X := X_X11_heir) (pc := 8) (v := -1) d_X11_heir_8 (by decide) ?_
    replace h := Option.some.inj h
    subst h
    exact GW_ret (X := X_X11_heir) (pc := 9) d_X11_heir_9 rfl trivial
def F_X11_heir (l0 : Option Nat) (l1 : Int32) (l2 : Int32) (M : gM) : Option Int32 := F_X11_heir_b0 M l0 l1 l2
theorem T_X11_heir (l0 : Option Nat) (l1 : Int32) (l2 : Int32) (M : gM) (r : Int32) (h : F_X11_heir l0 l1 l2 M = some r) : g_Met 3 0 0 yX11_heir X_X11_heir [vr l0, vi l1, vi l2] M (some (vi r), M) :=
  g_Met_of pn_RX11 rfl (Nat.le_of_ble_eq_true rfl) (fun h => by cases h) (GW_sub [0, 1, 2] rfl (T_X11_heir_b0 M r l0 l1 l2 h))
/-! ForgetHeirsModel.isHeir(I)Z -/
theorem d_X12_isHeir_0 : decode cX12_isHeir 0 = .ok (.iload_n 1, 1) := by decide +kernel
theorem d_X12_isHeir_1 : decode cX12_isHeir 1 = .ok (.ifCond .lt 17, 3) := by decide +kernel
theorem d_X12_isHeir_4 : decode cX12_isHeir 4 = .ok (.iload_n 1, 1) := by decide +kernel
theorem d_X12_isHeir_5 : decode cX12_isHeir 5 = .ok (.aload_n 0, 1) := by decide +kernel
theorem d_X12_isHeir_6 : decode cX12_isHeir 6 = .ok (.getfield 39, 3) := by decide +kernel
theorem d_X12_isHeir_9 : decode cX12_isHeir 9 = .ok (.iconst 2, 1) := by decide +kernel
theorem d_X12_isHeir_10 : decode cX12_isHeir 10 = .ok (.iaload, 1) := by decide +kernel
theorem d_X12_isHeir_11 : decode cX12_isHeir 11 = .ok (.if_icmp .ge 7, 3) := by decide +kernel
theorem d_X12_isHeir_14 : decode cX12_isHeir 14 = .ok (.iconst 1, 1) := by decide +kernel
theorem d_X12_isHeir_15 : decode cX12_isHeir 15 = .ok (.goto 4, 3) := by decide +kernel
theorem d_X12_isHeir_18 : decode cX12_isHeir 18 = .ok (.iconst 0, 1) := by decide +kernel
theorem d_X12_isHeir_19 : decode cX12_isHeir 19 = .ok (.ireturn, 1) := by decide +kernel
abbrev X_X12_isHeir : gX := (RX12, cX12_isHeir, 2, (some .boolean), false)
def F_X12_isHeir_b18 (M : gM) : Option Int32 :=
  some (0 : Int32)
theorem T_X12_isHeir_b18 (M : gM) (r : Int32) (h : F_X12_isHeir_b18 M = some r) : GW 0 0 0 X_X12_isHeir 18 [] [] M (some (vi r), M) := by
  delta F_X12_isHeir_b18 at h
  refine GW_iconst (X := X_X12_isHeir) (pc := 18) (v := 0) d_X12_isHeir_18 (by decide) ?_
  replace h := Option.some.inj h
  subst h
  exact GW_ret (X := X_X12_isHeir) (pc := 19) d_X12_isHeir_19 rfl g_rok0
def F_X12_isHeir_b0 (M : gM) (l0 : Option Nat) (l1 : Int32) : Option Int32 :=
  if l1 < 0 then (F_X12_isHeir_b18 M ) else ((gR 12 M l0 20).bind fun v1 => (aI 20 M v1 (2 : Int32)).bind fun v2 => if v2 ≤ l1 then (F_X12_isHeir_b18 M ) else (some (1 : Int32)))
theorem T_X12_isHeir_b0 (M : gM) (r : Int32) (l0 : Option Nat) (l1 : Int32) (h : F_X12_isHeir_b0 M l0 l1 = some r) : GW 0 0 0 X_X12_isHeir 0 [(0, vr l0), (1, vi l1)] [] M (some (vi r), M) := by
  delta F_X12_isHeir_b0 at h
  refine GW_iload_n (X := X_X12_isHeir) (pc := 0) d_X12_isHeir_0 rfl 1 rfl ?_
  refine GW_if_lt (X := X_X12_isHeir) (pc := 1) 18 d_X12_isHeir_1 (by decide) (fun c => ?_) (fun c => ?_)
  · replace h := g_ip c h
    refine GW_sub [] rfl ?_
    exact T_X12_isHeir_b18 M r  h
  · replace h := g_ie c h
    refine GW_iload_n (X := X_X12_isHeir) (pc := 4) d_X12_isHeir_4 rfl 1 rfl ?_
    refine GW_aload_n (X := X_X12_isHeir) (pc := 5) d_X12_isHeir_5 rfl 0 rfl ?_
    replace h := g_bd h
    obtain ⟨v1, hv1, h⟩ := h
    refine GW_getR (X := X_X12_isHeir) (pc := 6) f_X12_39 d_X12_isHeir_6 hv1 (Or.inr ⟨_, ty_12_20⟩) ?_
    refine GW_iconst (X := X_X12_isHeir) (pc := 9) (v := 2) d_X12_isHeir_9 (by decide) ?_
    replace h := g_bd h
    obtain ⟨v2, hv2, h⟩ := h
    refine GW_iald (X := X_X12_isHeir) (pc := 10) d_X12_isHeir_10 hv2 ?_
    refine GW_icmp_ge (X := X_X12_isHeir) (pc := 11) 18 d_X12_isHeir_11 (by decide) (fun c => ?_) (fun c => ?_)
    · replace h := g_ip c h
      refine GW_sub [] rfl ?_
      exact T_X12_isHeir_b18 M r  h
    · replace h := g_ie c h
      refine GW_iconst (X := X_X12_isHeir) (pc := 14) (v := 1) d_X12_isHeir_14 (by decide) ?_
      refine GW_goto (X := X_X12_isHeir) (pc := 15) 19 d_X12_isHeir_15 (by decide) ?_
      replace h := Option.some.inj h
      subst h
      exact GW_ret (X := X_X12_isHeir) (pc := 19) d_X12_isHeir_19 rfl g_rok1
def F_X12_isHeir (l0 : Option Nat) (l1 : Int32) (M : gM) : Option Int32 := F_X12_isHeir_b0 M l0 l1
theorem T_X12_isHeir (l0 : Option Nat) (l1 : Int32) (M : gM) (r : Int32) (h : F_X12_isHeir l0 l1 M = some r) : g_Met 0 0 0 yX12_isHeir X_X12_isHeir [vr l0, vi l1] M (some (vi r), M) :=
  g_Met_of pn_RX12 rfl (Nat.le_of_ble_eq_true rfl) (fun h => by cases h) (GW_sub [0, 1] rfl (T_X12_isHeir_b0 M r l0 l1 h))
/-! ForgetHeirsModel.thingOf(II)I -/
theorem d_X12_thingOf_0 : decode cX12_thingOf 0 = .ok (.aload_n 0, 1) := by decide +kernel
theorem d_X12_thingOf_1 : decode cX12_thingOf 1 = .ok (.getfield 39, 3) := by decide +kernel
theorem d_X12_thingOf_4 : decode cX12_thingOf 4 = .ok (.bipush 10, 2) := by decide +kernel
theorem d_X12_thingOf_6 : decode cX12_thingOf 6 = .ok (.iconst 4, 1) := by decide +kernel
theorem d_X12_thingOf_7 : decode cX12_thingOf 7 = .ok (.iload_n 1, 1) := by decide +kernel
theorem d_X12_thingOf_8 : decode cX12_thingOf 8 = .ok (.imul, 1) := by decide +kernel
theorem d_X12_thingOf_9 : decode cX12_thingOf 9 = .ok (.iadd, 1) := by decide +kernel
theorem d_X12_thingOf_10 : decode cX12_thingOf 10 = .ok (.iload_n 2, 1) := by decide +kernel
theorem d_X12_thingOf_11 : decode cX12_thingOf 11 = .ok (.iadd, 1) := by decide +kernel
theorem d_X12_thingOf_12 : decode cX12_thingOf 12 = .ok (.iaload, 1) := by decide +kernel
theorem d_X12_thingOf_13 : decode cX12_thingOf 13 = .ok (.ireturn, 1) := by decide +kernel
abbrev X_X12_thingOf : gX := (RX12, cX12_thingOf, 3, (some .int), false)
def F_X12_thingOf_b0 (M : gM) (l0 : Option Nat) (l1 : Int32) (l2 : Int32) : Option Int32 :=
  (gR 12 M l0 20).bind fun v1 => (aI 20 M v1 (((10 : Int32) + ((4 : Int32) * l1)) + l2)).bind fun v2 => some v2
theorem T_X12_thingOf_b0 (M : gM) (r : Int32) (l0 : Option Nat) (l1 : Int32) (l2 : Int32) (h : F_X12_thingOf_b0 M l0 l1 l2 = some r) : GW 0 0 0 X_X12_thingOf 0 [(0, vr l0), (1, vi l1), (2, vi l2)] [] M (some (vi r), M) := by
  delta F_X12_thingOf_b0 at h
  refine GW_aload_n (X := X_X12_thingOf) (pc := 0) d_X12_thingOf_0 rfl 0 rfl ?_
  replace h := g_bd h
  obtain ⟨v1, hv1, h⟩ := h
  refine GW_getR (X := X_X12_thingOf) (pc := 1) f_X12_39 d_X12_thingOf_1 hv1 (Or.inr ⟨_, ty_12_20⟩) ?_
  refine GW_bipush (X := X_X12_thingOf) (pc := 4) (v := 10) d_X12_thingOf_4 (by decide) ?_
  refine GW_iconst (X := X_X12_thingOf) (pc := 6) (v := 4) d_X12_thingOf_6 (by decide) ?_
  refine GW_iload_n (X := X_X12_thingOf) (pc := 7) d_X12_thingOf_7 rfl 1 rfl ?_
  refine GW_imul (X := X_X12_thingOf) (pc := 8) d_X12_thingOf_8 ?_
  refine GW_iadd (X := X_X12_thingOf) (pc := 9) d_X12_thingOf_9 ?_
  refine GW_iload_n (X := X_X12_thingOf) (pc := 10) d_X12_thingOf_10 rfl 2 rfl ?_
  refine GW_iadd (X := X_X12_thingOf) (pc := 11) d_X12_thingOf_11 ?_
  replace h := g_bd h
  obtain ⟨v2, hv2, h⟩ := h
  refine GW_iald (X := X_X12_thingOf) (pc := 12) d_X12_thingOf_12 hv2 ?_
  replace h := Option.some.inj h
  subst h
  exact GW_ret (X := X_X12_thingOf) (pc := 13) d_X12_thingOf_13 rfl trivial
def F_X12_thingOf (l0 : Option Nat) (l1 : Int32) (l2 : Int32) (M : gM) : Option Int32 := F_X12_thingOf_b0 M l0 l1 l2
theorem T_X12_thingOf (l0 : Option Nat) (l1 : Int32) (l2 : Int32) (M : gM) (r : Int32) (h : F_X12_thingOf l0 l1 l2 M = some r) : g_Met 0 0 0 yX12_thingOf X_X12_thingOf [vr l0, vi l1, vi l2] M (some (vi r), M) :=
  g_Met_of pn_RX12 rfl (Nat.le_of_ble_eq_true rfl) (fun h => by cases h) (GW_sub [0, 1, 2] rfl (T_X12_thingOf_b0 M r l0 l1 l2 h))
/-! ForgetHeirsModel.valueOf(II)I -/
theorem d_X12_valueOf_0 : decode cX12_valueOf 0 = .ok (.aload_n 0, 1) := by decide +kernel
theorem d_X12_valueOf_1 : decode cX12_valueOf 1 = .ok (.getfield 39, 3) := by decide +kernel
theorem d_X12_valueOf_4 : decode cX12_valueOf 4 = .ok (.bipush 59, 2) := by decide +kernel
theorem d_X12_valueOf_6 : decode cX12_valueOf 6 = .ok (.bipush 14, 2) := by decide +kernel
theorem d_X12_valueOf_8 : decode cX12_valueOf 8 = .ok (.iload_n 1, 1) := by decide +kernel
theorem d_X12_valueOf_9 : decode cX12_valueOf 9 = .ok (.imul, 1) := by decide +kernel
theorem d_X12_valueOf_10 : decode cX12_valueOf 10 = .ok (.iadd, 1) := by decide +kernel
theorem d_X12_valueOf_11 : decode cX12_valueOf 11 = .ok (.iconst 2, 1) := by decide +kernel
theorem d_X12_valueOf_12 : decode cX12_valueOf 12 = .ok (.iload_n 2, 1) := by decide +kernel
theorem d_X12_valueOf_13 : decode cX12_valueOf 13 = .ok (.imul, 1) := by decide +kernel
theorem d_X12_valueOf_14 : decode cX12_valueOf 14 = .ok (.iadd, 1) := by decide +kernel
theorem d_X12_valueOf_15 : decode cX12_valueOf 15 = .ok (.iaload, 1) := by decide +kernel
theorem d_X12_valueOf_16 : decode cX12_valueOf 16 = .ok (.ireturn, 1) := by decide +kernel
abbrev X_X12_valueOf : gX := (RX12, cX12_valueOf, 3, (some .int), false)
def F_X12_valueOf_b0 (M : gM) (l0 : Option Nat) (l1 : Int32) (l2 : Int32) : Option Int32 :=
  (gR 12 M l0 20).bind fun v1 => (aI 20 M v1 (((59 : Int32) + ((14 : Int32) * l1)) + ((2 : Int32) * l2))).bind fun v2 => some v2
theorem T_X12_valueOf_b0 (M : gM) (r : Int32) (l0 : Option Nat) (l1 : Int32) (l2 : Int32) (h : F_X12_valueOf_b0 M l0 l1 l2 = some r) : GW 0 0 0 X_X12_valueOf 0 [(0, vr l0), (1, vi l1), (2, vi l2)] [] M (some (vi r), M) := by
  delta F_X12_valueOf_b0 at h
  refine GW_aload_n (X := X_X12_valueOf) (pc := 0) d_X12_valueOf_0 rfl 0 rfl ?_
  replace h := g_bd h
  obtain ⟨v1, hv1, h⟩ := h
  refine GW_getR (X := X_X12_valueOf) (pc := 1) f_X12_39 d_X12_valueOf_1 hv1 (Or.inr ⟨_, ty_12_20⟩) ?_
  refine GW_bipush (X := X_X12_valueOf) (pc := 4) (v := 59) d_X12_valueOf_4 (by decide) ?_
  refine GW_bipush (X := X_X12_valueOf) (pc := 6) (v := 14) d_X12_valueOf_6 (by decide) ?_
  refine GW_iload_n (X := X_X12_valueOf) (pc := 8) d_X12_valueOf_8 rfl 1 rfl ?_
  refine GW_imul (X := X_X12_valueOf) (pc := 9) d_X12_valueOf_9 ?_
  refine GW_iadd (X := X_X12_valueOf) (pc := 10) d_X12_valueOf_10 ?_
  refine GW_iconst (X := X_X12_valueOf) (pc := 11) (v := 2) d_X12_valueOf_11 (by decide) ?_
  refine GW_iload_n (X := X_X12_valueOf) (pc := 12) d_X12_valueOf_12 rfl 2 rfl ?_
  refine GW_imul (X := X_X12_valueOf) (pc := 13) d_X12_valueOf_13 ?_
  refine GW_iadd (X := X_X12_valueOf) (pc := 14) d_X12_valueOf_14 ?_
  replace h := g_bd h
  obtain ⟨v2, hv2, h⟩ := h
  refine GW_iald (X := X_X12_valueOf) (pc := 15) d_X12_valueOf_15 hv2 ?_
  replace h := Option.some.inj h
  subst h
  exact GW_ret (X := X_X12_valueOf) (pc := 16) d_X12_valueOf_16 rfl trivial
def F_X12_valueOf (l0 : Option Nat) (l1 : Int32) (l2 : Int32) (M : gM) : Option Int32 := F_X12_valueOf_b0 M l0 l1 l2
theorem T_X12_valueOf (l0 : Option Nat) (l1 : Int32) (l2 : Int32) (M : gM) (r : Int32) (h : F_X12_valueOf l0 l1 l2 M = some r) : g_Met 0 0 0 yX12_valueOf X_X12_valueOf [vr l0, vi l1, vi l2] M (some (vi r), M) :=
  g_Met_of pn_RX12 rfl (Nat.le_of_ble_eq_true rfl) (fun h => by cases h) (GW_sub [0, 1, 2] rfl (T_X12_valueOf_b0 M r l0 l1 l2 h))
/-! ForgetHeirsModel.knowsOf(II)Z -/
theorem d_X12_knowsOf_0 : decode cX12_knowsOf 0 = .ok (.aload_n 0, 1) := by decide +kernel
theorem d_X12_knowsOf_1 : decode cX12_knowsOf 1 = .ok (.iload_n 1, 1) := by decide +kernel
theorem d_X12_knowsOf_2 : decode cX12_knowsOf 2 = .ok (.iload_n 2, 1) := by decide +kernel
theorem d_X12_knowsOf_3 : decode cX12_knowsOf 3 = .ok (.invokevirtual 297, 3) := by decide +kernel
theorem d_X12_knowsOf_6 : decode cX12_knowsOf 6 = .ok (.ifCond .lt 7, 3) := by decide +kernel
theorem d_X12_knowsOf_9 : decode cX12_knowsOf 9 = .ok (.iconst 1, 1) := by decide +kernel
theorem d_X12_knowsOf_10 : decode cX12_knowsOf 10 = .ok (.goto 4, 3) := by decide +kernel
theorem d_X12_knowsOf_13 : decode cX12_knowsOf 13 = .ok (.iconst 0, 1) := by decide +kernel
theorem d_X12_knowsOf_14 : decode cX12_knowsOf 14 = .ok (.ireturn, 1) := by decide +kernel
abbrev X_X12_knowsOf : gX := (RX12, cX12_knowsOf, 3, (some .boolean), false)
def F_X12_knowsOf_b0 (M : gM) (l0 : Option Nat) (l1 : Int32) (l2 : Int32) : Option Int32 :=
  (gO 12 M l0).bind fun i1 => (F_X12_valueOf (some i1) l1 l2 M).bind fun v2 => if v2 < 0 then (some (0 : Int32)) else (some (1 : Int32))
theorem T_X12_knowsOf_b0 (M : gM) (r : Int32) (l0 : Option Nat) (l1 : Int32) (l2 : Int32) (h : F_X12_knowsOf_b0 M l0 l1 l2 = some r) : GW 1 0 0 X_X12_knowsOf 0 [(0, vr l0), (1, vi l1), (2, vi l2)] [] M (some (vi r), M) := by
  delta F_X12_knowsOf_b0 at h
  refine GW_aload_n (X := X_X12_knowsOf) (pc := 0) d_X12_knowsOf_0 rfl 0 rfl ?_
  refine GW_iload_n (X := X_X12_knowsOf) (pc := 1) d_X12_knowsOf_1 rfl 1 rfl ?_
  refine GW_iload_n (X := X_X12_knowsOf) (pc := 2) d_X12_knowsOf_2 rfl 2 rfl ?_
  replace h := g_bd h
  obtain ⟨i1, hi1, h⟩ := h
  obtain ⟨rfl, ki1⟩ := g_gO hi1
  replace h := g_bd h
  obtain ⟨v2, hv2, h⟩ := h
  refine GW_callV (X := X_X12_knowsOf) (pc := 3) (bc0 := 0) (bs0 := 0) (r := some (vi v2)) (M2 := M) (c0 := 12) (T_X12_valueOf (some i1) l1 l2 M v2 hv2) (Nat.le_of_ble_eq_true rfl) (Nat.le_of_ble_eq_true rfl) rfl g_cok12 ki1 yc_X12_valueOf ⟨m_1436, m_1438, m_81, m_127, m_1439⟩ d_X12_knowsOf_3 rfl (st := []) rfl (Nat.le_of_ble_eq_true rfl) (Nat.le_of_ble_eq_true rfl) (Nat.le_of_ble_eq_true rfl) (st2 := [vi v2]) rfl ?_
  refine GW_if_lt (X := X_X12_knowsOf) (pc := 6) 13 d_X12_knowsOf_6 (by decide) (fun c => ?_) (fun c => ?_)
  · replace h := g_ip c h
    refine GW_iconst (X := X_X12_knowsOf) (pc := 13) (v := 0) d_X12_knowsOf_13 (by decide) ?_
    replace h := Option.some.inj h
    subst h
    exact GW_ret (X := X_X12_knowsOf) (pc := 14) d_X12_knowsOf_14 rfl g_rok0
  · replace h := g_ie c h
    refine GW_iconst (X := X_X12_knowsOf) (pc := 9) (v := 1) d_X12_knowsOf_9 (by decide) ?_
    refine GW_goto (X := X_X12_knowsOf) (pc := 10) 14 d_X12_knowsOf_10 (by decide) ?_
    replace h := Option.some.inj h
    subst h
    exact GW_ret (X := X_X12_knowsOf) (pc := 14) d_X12_knowsOf_14 rfl g_rok1
def F_X12_knowsOf (l0 : Option Nat) (l1 : Int32) (l2 : Int32) (M : gM) : Option Int32 := F_X12_knowsOf_b0 M l0 l1 l2
theorem T_X12_knowsOf (l0 : Option Nat) (l1 : Int32) (l2 : Int32) (M : gM) (r : Int32) (h : F_X12_knowsOf l0 l1 l2 M = some r) : g_Met 1 0 0 yX12_knowsOf X_X12_knowsOf [vr l0, vi l1, vi l2] M (some (vi r), M) :=
  g_Met_of pn_RX12 rfl (Nat.le_of_ble_eq_true rfl) (fun h => by cases h) (GW_sub [0, 1, 2] rfl (T_X12_knowsOf_b0 M r l0 l1 l2 h))
/-! ForgetHeirsModel.sameAs(II)I -/
theorem d_X12_sameAs_0 : decode cX12_sameAs 0 = .ok (.iconst 0, 1) := by decide +kernel
theorem d_X12_sameAs_1 : decode cX12_sameAs 1 = .ok (.istore_n 3, 1) := by decide +kernel
theorem d_X12_sameAs_2 : decode cX12_sameAs 2 = .ok (.iconst 0, 1) := by decide +kernel
theorem d_X12_sameAs_3 : decode cX12_sameAs 3 = .ok (.istore 4, 2) := by decide +kernel
theorem d_X12_sameAs_5 : decode cX12_sameAs 5 = .ok (.iload 4, 2) := by decide +kernel
theorem d_X12_sameAs_7 : decode cX12_sameAs 7 = .ok (.aload_n 0, 1) := by decide +kernel
theorem d_X12_sameAs_8 : decode cX12_sameAs 8 = .ok (.getfield 39, 3) := by decide +kernel
theorem d_X12_sameAs_11 : decode cX12_sameAs 11 = .ok (.iconst 2, 1) := by decide +kernel
theorem d_X12_sameAs_12 : decode cX12_sameAs 12 = .ok (.iaload, 1) := by decide +kernel
theorem d_X12_sameAs_13 : decode cX12_sameAs 13 = .ok (.if_icmp .ge 39, 3) := by decide +kernel
theorem d_X12_sameAs_16 : decode cX12_sameAs 16 = .ok (.iload_n 3, 1) := by decide +kernel
theorem d_X12_sameAs_17 : decode cX12_sameAs 17 = .ok (.iload 4, 2) := by decide +kernel
theorem d_X12_sameAs_19 : decode cX12_sameAs 19 = .ok (.iload_n 1, 1) := by decide +kernel
theorem d_X12_sameAs_20 : decode cX12_sameAs 20 = .ok (.if_icmp .eq 23, 3) := by decide +kernel
theorem d_X12_sameAs_23 : decode cX12_sameAs 23 = .ok (.aload_n 0, 1) := by decide +kernel
theorem d_X12_sameAs_24 : decode cX12_sameAs 24 = .ok (.iload 4, 2) := by decide +kernel
theorem d_X12_sameAs_26 : decode cX12_sameAs 26 = .ok (.iload_n 2, 1) := by decide +kernel
theorem d_X12_sameAs_27 : decode cX12_sameAs 27 = .ok (.invokevirtual 297, 3) := by decide +kernel
theorem d_X12_sameAs_30 : decode cX12_sameAs 30 = .ok (.aload_n 0, 1) := by decide +kernel
theorem d_X12_sameAs_31 : decode cX12_sameAs 31 = .ok (.iload_n 1, 1) := by decide +kernel
theorem d_X12_sameAs_32 : decode cX12_sameAs 32 = .ok (.iload_n 2, 1) := by decide +kernel
theorem d_X12_sameAs_33 : decode cX12_sameAs 33 = .ok (.invokevirtual 297, 3) := by decide +kernel
theorem d_X12_sameAs_36 : decode cX12_sameAs 36 = .ok (.if_icmp .ne 7, 3) := by decide +kernel
theorem d_X12_sameAs_39 : decode cX12_sameAs 39 = .ok (.iconst 1, 1) := by decide +kernel
theorem d_X12_sameAs_40 : decode cX12_sameAs 40 = .ok (.goto 4, 3) := by decide +kernel
theorem d_X12_sameAs_43 : decode cX12_sameAs 43 = .ok (.iconst 0, 1) := by decide +kernel
theorem d_X12_sameAs_44 : decode cX12_sameAs 44 = .ok (.iadd, 1) := by decide +kernel
theorem d_X12_sameAs_45 : decode cX12_sameAs 45 = .ok (.istore_n 3, 1) := by decide +kernel
theorem d_X12_sameAs_46 : decode cX12_sameAs 46 = .ok (.iinc 4 1, 3) := by decide +kernel
theorem d_X12_sameAs_49 : decode cX12_sameAs 49 = .ok (.goto (-44), 3) := by decide +kernel
theorem d_X12_sameAs_52 : decode cX12_sameAs 52 = .ok (.iload_n 3, 1) := by decide +kernel
theorem d_X12_sameAs_53 : decode cX12_sameAs 53 = .ok (.ireturn, 1) := by decide +kernel
abbrev X_X12_sameAs : gX := (RX12, cX12_sameAs, 5, (some .int), false)
def F_X12_sameAs_b44 (k5 : Option Nat → Int32 → Int32 → Int32 → Int32 → Option Int32) (M : gM) (l0 : Option Nat) (l1 : Int32) (l2 : Int32) (l4 : Int32) (s0 : Int32) (s1 : Int32) : Option Int32 :=
  k5 l0 l1 l2 (s0 + s1) (l4 + 1)
theorem T_X12_sameAs_b44 (k5 : Option Nat → Int32 → Int32 → Int32 → Int32 → Option Int32) (M : gM) (r : Int32) (hk5 : ∀ (l0 : Option Nat) (l1 : Int32) (l2 : Int32) (l3 : Int32) (l4 : Int32), k5 l0 l1 l2 l3 l4 = some r → GW 1 0 0 X_X12_sameAs 5 [(0, vr l0), (1, vi l1), (2, vi l2), (3, vi l3), (4, vi l4)] [] M (some (vi r), M)) (l0 : Option Nat) (l1 : Int32) (l2 : Int32) (l4 : Int32) (s0 : Int32) (s1 : Int32) (h : F_X12_sameAs_b44 k5 M l0 l1 l2 l4 s0 s1 = some r) : GW 1 0 0 X_X12_sameAs 44 [(0, vr l0), (1, vi l1), (2, vi l2), (4, vi l4)] [vi s1, vi s0] M (some (vi r), M) := by
  delta F_X12_sameAs_b44 at h
  refine GW_iadd (X := X_X12_sameAs) (pc := 44) d_X12_sameAs_44 ?_
  refine GW_istore_n (X := X_X12_sameAs) (pc := 45) d_X12_sameAs_45 rfl (Nat.le_of_ble_eq_true rfl) (lv2 := [(3, vi (s0 + s1)), (0, vr l0), (1, vi l1), (2, vi l2), (4, vi l4)]) rfl ?_
  refine GW_iinc (j := 4) (X := X_X12_sameAs) (pc := 46) d_X12_sameAs_46 rfl (congrArg (fun z => _ + z) (by decide : Int32.ofInt 1 = (1 : Int32))) (Nat.le_of_ble_eq_true rfl) (lv2 := [(4, vi (l4 + 1)), (3, vi (s0 + s1)), (0, vr l0), (1, vi l1), (2, vi l2)]) rfl ?_
  refine GW_goto (X := X_X12_sameAs) (pc := 49) 5 d_X12_sameAs_49 (by decide) ?_
  refine GW_sub [2, 3, 4, 1, 0] rfl ?_
  exact hk5 l0 l1 l2 (s0 + s1) (l4 + 1) h
def F_X12_sameAs_b43 (k5 : Option Nat → Int32 → Int32 → Int32 → Int32 → Option Int32) (M : gM) (l0 : Option Nat) (l1 : Int32) (l2 : Int32) (l4 : Int32) (s0 : Int32) : Option Int32 :=
  F_X12_sameAs_b44 k5 M l0 l1 l2 l4 s0 (0 : Int32)
theorem T_X12_sameAs_b43 (k5 : Option Nat → Int32 → Int32 → Int32 → Int32 → Option Int32) (M : gM) (r : Int32) (hk5 : ∀ (l0 : Option Nat) (l1 : Int32) (l2 : Int32) (l3 : Int32) (l4 : Int32), k5 l0 l1 l2 l3 l4 = some r → GW 1 0 0 X_X12_sameAs 5 [(0, vr l0), (1, vi l1), (2, vi l2), (3, vi l3), (4, vi l4)] [] M (some (vi r), M)) (l0 : Option Nat) (l1 : Int32) (l2 : Int32) (l4 : Int32) (s0 : Int32) (h : F_X12_sameAs_b43 k5 M l0 l1 l2 l4 s0 = some r) : GW 1 0 0 X_X12_sameAs 43 [(0, vr l0), (1, vi l1), (2, vi l2), (4, vi l4)] [vi s0] M (some (vi r), M) := by
  delta F_X12_sameAs_b43 at h
  refine GW_iconst (X := X_X12_sameAs) (pc := 43) (v := 0) d_X12_sameAs_43 (by decide) ?_
  exact T_X12_sameAs_b44 k5 M r hk5 l0 l1 l2 l4 s0 (0 : Int32) h
def F_X12_sameAs_b5 (k5 : Option Nat → Int32 → Int32 → Int32 → Int32 → Option Int32) (M : gM) (l0 : Option Nat) (l1 : Int32) (l2 : Int32) (l3 : Int32) (l4 : Int32) : Option Int32 :=
  (gR 12 M l0 20).bind fun v1 => (aI 20 M v1 (2 : Int32)).bind fun v2 => if v2 ≤ l4 then (some l3) else (if l4 = l1 then (F_X12_sameAs_b43 k5 M l0 l1 l2 l4 l3) else ((gO 12 M l0).bind fun i3 => (F_X12_valueOf (some i3) l4 l2 M).bind fun v4 => (F_X12_valueOf (some i3) l1 l2 M).bind fun v5 => if v4 = v5 then (F_X12_sameAs_b44 k5 M (some i3) l1 l2 l4 l3 (1 : Int32)) else (F_X12_sameAs_b43 k5 M (some i3) l1 l2 l4 l3)))
set_option maxHeartbeats 1000000 in
theorem T_X12_sameAs_b5 (k5 : Option Nat → Int32 → Int32 → Int32 → Int32 → Option Int32) (M : gM) (r : Int32) (hk5 : ∀ (l0 : Option Nat) (l1 : Int32) (l2 : Int32) (l3 : Int32) (l4 : Int32), k5 l0 l1 l2 l3 l4 = some r → GW 1 0 0 X_X12_sameAs 5 [(0, vr l0), (1, vi l1), (2, vi l2), (3, vi l3), (4, vi l4)] [] M (some (vi r), M)) (l0 : Option Nat) (l1 : Int32) (l2 : Int32) (l3 : Int32) (l4 : Int32) (h : F_X12_sameAs_b5 k5 M l0 l1 l2 l3 l4 = some r) : GW 1 0 0 X_X12_sameAs 5 [(0, vr l0), (1, vi l1), (2, vi l2), (3, vi l3), (4, vi l4)] [] M (some (vi r), M) := by
  delta F_X12_sameAs_b5 at h
  refine GW_iload (X := X_X12_sameAs) (pc := 5) d_X12_sameAs_5 4 rfl ?_
  refine GW_aload_n (X := X_X12_sameAs) (pc := 7) d_X12_sameAs_7 rfl 0 rfl ?_
  replace h := g_bd h
  obtain ⟨v1, hv1, h⟩ := h
  refine GW_getR (X := X_X12_sameAs) (pc := 8) f_X12_39 d_X12_sameAs_8 hv1 (Or.inr ⟨_, ty_12_20⟩) ?_
  refine GW_iconst (X := X_X12_sameAs) (pc := 11) (v := 2) d_X12_sameAs_11 (by decide) ?_
  replace h := g_bd h
  obtain ⟨v2, hv2, h⟩ := h
  refine GW_iald (X := X_X12_sameAs) (pc := 12) d_X12_sameAs_12 hv2 ?_
  refine GW_icmp_ge (X := X_X12_sameAs) (pc := 13) 52 d_X12_sameAs_13 (by decide) (fun c => ?_) (fun c => ?_)
  · replace h := g_ip c h
    refine GW_iload_n (X := X_X12_sameAs) (pc := 52) d_X12_sameAs_52 rfl 3 rfl ?_
    replace h := Option.some.inj h
    subst h
    exact GW_ret (X := X_X12_sameAs) (pc := 53) d_X12_sameAs_53 rfl trivial
  · replace h := g_ie c h
    refine GW_iload_n (X := X_X12_sameAs) (pc := 16) d_X12_sameAs_16 rfl 3 rfl ?_
    refine GW_iload (X := X_X12_sameAs) (pc := 17) d_X12_sameAs_17 4 rfl ?_
    refine GW_iload_n (X := X_X12_sameAs) (pc := 19) d_X12_sameAs_19 rfl 1 rfl ?_
    refine GW_icmp_eq (X := X_X12_sameAs) (pc := 20) 43 d_X12_sameAs_20 (by decide) (fun c => ?_) (fun c => ?_)
    · replace h := g_ip c h
      refine GW_sub [0, 1, 2, 4] rfl ?_
      exact T_X12_sameAs_b43 k5 M r hk5 l0 l1 l2 l4 l3 h
    · replace h := g_ie c h
      refine GW_aload_n (X := X_X12_sameAs) (pc := 23) d_X12_sameAs_23 rfl 0 rfl ?_
      refine GW_iload (X := X_X12_sameAs) (pc := 24) d_X12_sameAs_24 4 rfl ?_
      refine GW_iload_n (X := X_X12_sameAs) (pc := 26) d_X12_sameAs_26 rfl 2 rfl ?_
      replace h := g_bd h
      obtain ⟨i3, hi3, h⟩ := h
      obtain ⟨rfl, ki3⟩ := g_gO hi3
      replace h := g_bd h
      obtain ⟨v4, hv4, h⟩ := h
      refine GW_callV (X := X_X12_sameAs) (pc := 27) (bc0 := 0) (bs0 := 0) (r := some (vi v4)) (M2 := M) (c0 := 12) (T_X12_valueOf (some i3) l4 l2 M v4 hv4) (Nat.le_of_ble_eq_true rfl) (Nat.le_of_ble_eq_true rfl) rfl g_cok12 ki3 yc_X12_valueOf ⟨m_1436, m_1438, m_81, m_127, m_1439⟩ d_X12_sameAs_27 rfl (st := [vi l3]) rfl (Nat.le_of_ble_eq_true rfl) (Nat.le_of_ble_eq_true rfl) (Nat.le_of_ble_eq_true rfl) (st2 := [vi v4, vi l3]) rfl ?_
      refine GW_aload_n (X := X_X12_sameAs) (pc := 30) d_X12_sameAs_30 rfl 0 rfl ?_
      refine GW_iload_n (X := X_X12_sameAs) (pc := 31) d_X12_sameAs_31 rfl 1 rfl ?_
      refine GW_iload_n (X := X_X12_sameAs) (pc := 32) d_X12_sameAs_32 rfl 2 rfl ?_
      replace h := g_bd h
      obtain ⟨v5, hv5, h⟩ := h
      refine GW_callV (X := X_X12_sameAs) (pc := 33) (bc0 := 0) (bs0 := 0) (r := some (vi v5)) (M2 := M) (c0 := 12) (T_X12_valueOf (some i3) l1 l2 M v5 hv5) (Nat.le_of_ble_eq_true rfl) (Nat.le_of_ble_eq_true rfl) rfl g_cok12 ki3 yc_X12_valueOf ⟨m_1436, m_1438, m_81, m_127, m_1439⟩ d_X12_sameAs_33 rfl (st := [vi v4, vi l3]) rfl (Nat.le_of_ble_eq_true rfl) (Nat.le_of_ble_eq_true rfl) (Nat.le_of_ble_eq_true rfl) (st2 := [vi v5, vi v4, vi l3]) rfl ?_
      refine GW_icmp_ne (X := X_X12_sameAs) (pc := 36) 43 d_X12_sameAs_36 (by decide) (fun c => ?_) (fun c => ?_)
      · replace h := g_ie c h
        refine GW_sub [0, 1, 2, 4] rfl ?_
        exact T_X12_sameAs_b43 k5 M r hk5 (some i3) l1 l2 l4 l3 h
      · replace h := g_ip c h
        refine GW_iconst (X := X_X12_sameAs) (pc := 39) (v := 1) d_X12_sameAs_39 (by decide) ?_
        refine GW_goto (X := X_X12_sameAs) (pc := 40) 44 d_X12_sameAs_40 (by decide) ?_
        refine GW_sub [0, 1, 2, 4] rfl ?_
        exact T_X12_sameAs_b44 k5 M r hk5 (some i3) l1 l2 l4 l3 (1 : Int32) h
def F_X12_sameAs_L5 (M : gM) : Nat → Option Nat → Int32 → Int32 → Int32 → Int32 → Option Int32
  | 0 => fun _ _ _ _ _ => none
  | n + 1 => F_X12_sameAs_b5 (F_X12_sameAs_L5 M n) M
theorem T_X12_sameAs_L5 (M : gM) (r : Int32) : ∀ (n : Nat) (l0 : Option Nat) (l1 : Int32) (l2 : Int32) (l3 : Int32) (l4 : Int32), F_X12_sameAs_L5 M n l0 l1 l2 l3 l4 = some r → GW 1 0 0 X_X12_sameAs 5 [(0, vr l0), (1, vi l1), (2, vi l2), (3, vi l3), (4, vi l4)] [] M (some (vi r), M) := by
  intro n
  induction n with
  | zero => intro l0 l1 l2 l3 l4 h; exact g_no h
  | succ n ih => intro l0 l1 l2 l3 l4 h; exact T_X12_sameAs_b5 (F_X12_sameAs_L5 M n) M r ih l0 l1 l2 l3 l4 h
def F_X12_sameAs_b0 (M : gM) (l0 : Option Nat) (l1 : Int32) (l2 : Int32) : Option Int32 :=
  F_X12_sameAs_L5 M g_fuel l0 l1 l2 (0 : Int32) (0 : Int32)
theorem T_X12_sameAs_b0 (M : gM) (r : Int32) (l0 : Option Nat) (l1 : Int32) (l2 : Int32) (h : F_X12_sameAs_b0 M l0 l1 l2 = some r) : GW 1 0 0 X_X12_sameAs 0 [(0, vr l0), (1, vi l1), (2, vi l2)] [] M (some (vi r), M) := by
  delta F_X12_sameAs_b0 at h
  refine GW_iconst (X := X_X12_sameAs) (pc := 0) (v := 0) d_X12_sameAs_0 (by decide) ?_
  refine GW_istore_n (X := X_X12_sameAs) (pc := 1) d_X12_sameAs_1 rfl (Nat.le_of_ble_eq_true rfl) (lv2 := [(3, vi (0 : Int32)), (0, vr l0), (1, vi l1), (2, vi l2)]) rfl ?_
  refine GW_iconst (X := X_X12_sameAs) (pc := 2) (v := 0) d_X12_sameAs_2 (by decide) ?_
  refine GW_istore (X := X_X12_sameAs) (pc := 3) d_X12_sameAs_3 (Nat.le_of_ble_eq_true rfl) (lv2 := [(4, vi (0 : Int32)), (3, vi (0 : Int32)), (0, vr l0), (1, vi l1), (2, vi l2)]) rfl ?_
  refine GW_sub [2, 3, 4, 1, 0] rfl ?_
  exact T_X12_sameAs_L5 M r g_fuel l0 l1 l2 (0 : Int32) (0 : Int32) h
def F_X12_sameAs (l0 : Option Nat) (l1 : Int32) (l2 : Int32) (M : gM) : Option Int32 := F_X12_sameAs_b0 M l0 l1 l2
theorem T_X12_sameAs (l0 : Option Nat) (l1 : Int32) (l2 : Int32) (M : gM) (r : Int32) (h : F_X12_sameAs l0 l1 l2 M = some r) : g_Met 1 0 0 yX12_sameAs X_X12_sameAs [vr l0, vi l1, vi l2] M (some (vi r), M) :=
  g_Met_of pn_RX12 rfl (Nat.le_of_ble_eq_true rfl) (fun h => by cases h) (GW_sub [0, 1, 2] rfl (T_X12_sameAs_b0 M r l0 l1 l2 h))
/-! ForgetHeirsModel.holds(II)Z -/
theorem d_X12_holds_0 : decode cX12_holds 0 = .ok (.aload_n 0, 1) := by decide +kernel
theorem d_X12_holds_1 : decode cX12_holds 1 = .ok (.iload_n 2, 1) := by decide +kernel
theorem d_X12_holds_2 : decode cX12_holds 2 = .ok (.iconst 3, 1) := by decide +kernel
theorem d_X12_holds_3 : decode cX12_holds 3 = .ok (.invokevirtual 301, 3) := by decide +kernel
theorem d_X12_holds_6 : decode cX12_holds 6 = .ok (.ifCond .ge 12, 3) := by decide +kernel
theorem d_X12_holds_9 : decode cX12_holds 9 = .ok (.aload_n 0, 1) := by decide +kernel
theorem d_X12_holds_10 : decode cX12_holds 10 = .ok (.iload_n 1, 1) := by decide +kernel
theorem d_X12_holds_11 : decode cX12_holds 11 = .ok (.iload_n 2, 1) := by decide +kernel
theorem d_X12_holds_12 : decode cX12_holds 12 = .ok (.invokevirtual 304, 3) := by decide +kernel
theorem d_X12_holds_15 : decode cX12_holds 15 = .ok (.ifCond .ne 5, 3) := by decide +kernel
theorem d_X12_holds_18 : decode cX12_holds 18 = .ok (.iconst 0, 1) := by decide +kernel
theorem d_X12_holds_19 : decode cX12_holds 19 = .ok (.ireturn, 1) := by decide +kernel
theorem d_X12_holds_20 : decode cX12_holds 20 = .ok (.aload_n 0, 1) := by decide +kernel
theorem d_X12_holds_21 : decode cX12_holds 21 = .ok (.iload_n 1, 1) := by decide +kernel
theorem d_X12_holds_22 : decode cX12_holds 22 = .ok (.iload_n 2, 1) := by decide +kernel
theorem d_X12_holds_23 : decode cX12_holds 23 = .ok (.invokevirtual 297, 3) := by decide +kernel
theorem d_X12_holds_26 : decode cX12_holds 26 = .ok (.aload_n 0, 1) := by decide +kernel
theorem d_X12_holds_27 : decode cX12_holds 27 = .ok (.iload_n 2, 1) := by decide +kernel
theorem d_X12_holds_28 : decode cX12_holds 28 = .ok (.iconst 0, 1) := by decide +kernel
theorem d_X12_holds_29 : decode cX12_holds 29 = .ok (.invokevirtual 301, 3) := by decide +kernel
theorem d_X12_holds_32 : decode cX12_holds 32 = .ok (.if_icmp .eq 12, 3) := by decide +kernel
theorem d_X12_holds_35 : decode cX12_holds 35 = .ok (.aload_n 0, 1) := by decide +kernel
theorem d_X12_holds_36 : decode cX12_holds 36 = .ok (.iload_n 1, 1) := by decide +kernel
theorem d_X12_holds_37 : decode cX12_holds 37 = .ok (.iload_n 2, 1) := by decide +kernel
theorem d_X12_holds_38 : decode cX12_holds 38 = .ok (.invokevirtual 307, 3) := by decide +kernel
theorem d_X12_holds_41 : decode cX12_holds 41 = .ok (.ifCond .le 7, 3) := by decide +kernel
theorem d_X12_holds_44 : decode cX12_holds 44 = .ok (.iconst 1, 1) := by decide +kernel
theorem d_X12_holds_45 : decode cX12_holds 45 = .ok (.goto 4, 3) := by decide +kernel
theorem d_X12_holds_48 : decode cX12_holds 48 = .ok (.iconst 0, 1) := by decide +kernel
theorem d_X12_holds_49 : decode cX12_holds 49 = .ok (.ireturn, 1) := by decide +kernel
abbrev X_X12_holds : gX := (RX12, cX12_holds, 3, (some .boolean), false)
def F_X12_holds_b18 (M : gM) : Option Int32 :=
  some (0 : Int32)
theorem T_X12_holds_b18 (M : gM) (r : Int32) (h : F_X12_holds_b18 M = some r) : GW 2 0 0 X_X12_holds 18 [] [] M (some (vi r), M) := by
  delta F_X12_holds_b18 at h
  refine GW_iconst (X := X_X12_holds) (pc := 18) (v := 0) d_X12_holds_18 (by decide) ?_
  replace h := Option.some.inj h
  subst h
  exact GW_ret (X := X_X12_holds) (pc := 19) d_X12_holds_19 rfl g_rok0
def F_X12_holds_b44 (M : gM) : Option Int32 :=
  some (1 : Int32)
theorem T_X12_holds_b44 (M : gM) (r : Int32) (h : F_X12_holds_b44 M = some r) : GW 2 0 0 X_X12_holds 44 [] [] M (some (vi r), M) := by
  delta F_X12_holds_b44 at h
  refine GW_iconst (X := X_X12_holds) (pc := 44) (v := 1) d_X12_holds_44 (by decide) ?_
  refine GW_goto (X := X_X12_holds) (pc := 45) 49 d_X12_holds_45 (by decide) ?_
  replace h := Option.some.inj h
  subst h
  exact GW_ret (X := X_X12_holds) (pc := 49) d_X12_holds_49 rfl g_rok1
def F_X12_holds_b0 (M : gM) (l0 : Option Nat) (l1 : Int32) (l2 : Int32) : Option Int32 :=
  (gO 12 M l0).bind fun i1 => (F_X12_thingOf (some i1) l2 (3 : Int32) M).bind fun v2 => if 0 ≤ v2 then (F_X12_holds_b18 M ) else ((F_X12_knowsOf (some i1) l1 l2 M).bind fun v3 => if v3 = 0 then (F_X12_holds_b18 M ) else ((F_X12_valueOf (some i1) l1 l2 M).bind fun v4 => (F_X12_thingOf (some i1) l2 (0 : Int32) M).bind fun v5 => if v4 = v5 then (F_X12_holds_b44 M ) else ((F_X12_sameAs (some i1) l1 l2 M).bind fun v6 => if v6 ≤ 0 then (some (0 : Int32)) else (F_X12_holds_b44 M ))))
set_option maxHeartbeats 1000000 in
theorem T_X12_holds_b0 (M : gM) (r : Int32) (l0 : Option Nat) (l1 : Int32) (l2 : Int32) (h : F_X12_holds_b0 M l0 l1 l2 = some r) : GW 2 0 0 X_X12_holds 0 [(0, vr l0), (1, vi l1), (2, vi l2)] [] M (some (vi r), M) := by
  delta F_X12_holds_b0 at h
  refine GW_aload_n (X := X_X12_holds) (pc := 0) d_X12_holds_0 rfl 0 rfl ?_
  refine GW_iload_n (X := X_X12_holds) (pc := 1) d_X12_holds_1 rfl 2 rfl ?_
  refine GW_iconst (X := X_X12_holds) (pc := 2) (v := 3) d_X12_holds_2 (by decide) ?_
  replace h := g_bd h
  obtain ⟨i1, hi1, h⟩ := h
  obtain ⟨rfl, ki1⟩ := g_gO hi1
  replace h := g_bd h
  obtain ⟨v2, hv2, h⟩ := h
  refine GW_callV (X := X_X12_holds) (pc := 3) (bc0 := 0) (bs0 := 0) (r := some (vi v2)) (M2 := M) (c0 := 12) (T_X12_thingOf (some i1) l2 (3 : Int32) M v2 hv2) (Nat.le_of_ble_eq_true rfl) (Nat.le_of_ble_eq_true rfl) rfl g_cok12 ki1 yc_X12_thingOf ⟨m_1428, m_1430, m_79, m_127, m_1431⟩ d_X12_holds_3 rfl (st := []) rfl (Nat.le_of_ble_eq_true rfl) (Nat.le_of_ble_eq_true rfl) (Nat.le_of_ble_eq_true rfl) (st2 := [vi v2]) rfl ?_
  refine GW_if_ge (X := X_X12_holds) (pc := 6) 18 d_X12_holds_6 (by decide) (fun c => ?_) (fun c => ?_)
  · replace h := g_ip c h
    refine GW_sub [] rfl ?_
    exact T_X12_holds_b18 M r  h
  · replace h := g_ie c h
    refine GW_aload_n (X := X_X12_holds) (pc := 9) d_X12_holds_9 rfl 0 rfl ?_
    refine GW_iload_n (X := X_X12_holds) (pc := 10) d_X12_holds_10 rfl 1 rfl ?_
    refine GW_iload_n (X := X_X12_holds) (pc := 11) d_X12_holds_11 rfl 2 rfl ?_
    replace h := g_bd h
    obtain ⟨v3, hv3, h⟩ := h
    refine GW_callV (X := X_X12_holds) (pc := 12) (bc0 := 0) (bs0 := 0) (r := some (vi v3)) (M2 := M) (c0 := 12) (T_X12_knowsOf (some i1) l1 l2 M v3 hv3) (Nat.le_of_ble_eq_true rfl) (Nat.le_of_ble_eq_true rfl) rfl g_cok12 ki1 yc_X12_knowsOf ⟨m_1432, m_1434, m_80, m_127, m_1435⟩ d_X12_holds_12 rfl (st := []) rfl (Nat.le_of_ble_eq_true rfl) (Nat.le_of_ble_eq_true rfl) (Nat.le_of_ble_eq_true rfl) (st2 := [vi v3]) rfl ?_
    refine GW_if_ne (X := X_X12_holds) (pc := 15) 20 d_X12_holds_15 (by decide) (fun c => ?_) (fun c => ?_)
    · replace h := g_ie c h
      refine GW_aload_n (X := X_X12_holds) (pc := 20) d_X12_holds_20 rfl 0 rfl ?_
      refine GW_iload_n (X := X_X12_holds) (pc := 21) d_X12_holds_21 rfl 1 rfl ?_
      refine GW_iload_n (X := X_X12_holds) (pc := 22) d_X12_holds_22 rfl 2 rfl ?_
      replace h := g_bd h
      obtain ⟨v4, hv4, h⟩ := h
      refine GW_callV (X := X_X12_holds) (pc := 23) (bc0 := 0) (bs0 := 0) (r := some (vi v4)) (M2 := M) (c0 := 12) (T_X12_valueOf (some i1) l1 l2 M v4 hv4) (Nat.le_of_ble_eq_true rfl) (Nat.le_of_ble_eq_true rfl) rfl g_cok12 ki1 yc_X12_valueOf ⟨m_1436, m_1438, m_81, m_127, m_1439⟩ d_X12_holds_23 rfl (st := []) rfl (Nat.le_of_ble_eq_true rfl) (Nat.le_of_ble_eq_true rfl) (Nat.le_of_ble_eq_true rfl) (st2 := [vi v4]) rfl ?_
      refine GW_aload_n (X := X_X12_holds) (pc := 26) d_X12_holds_26 rfl 0 rfl ?_
      refine GW_iload_n (X := X_X12_holds) (pc := 27) d_X12_holds_27 rfl 2 rfl ?_
      refine GW_iconst (X := X_X12_holds) (pc := 28) (v := 0) d_X12_holds_28 (by decide) ?_
      replace h := g_bd h
      obtain ⟨v5, hv5, h⟩ := h
      refine GW_callV (X := X_X12_holds) (pc := 29) (bc0 := 0) (bs0 := 0) (r := some (vi v5)) (M2 := M) (c0 := 12) (T_X12_thingOf (some i1) l2 (0 : Int32) M v5 hv5) (Nat.le_of_ble_eq_true rfl) (Nat.le_of_ble_eq_true rfl) rfl g_cok12 ki1 yc_X12_thingOf ⟨m_1428, m_1430, m_79, m_127, m_1431⟩ d_X12_holds_29 rfl (st := [vi v4]) rfl (Nat.le_of_ble_eq_true rfl) (Nat.le_of_ble_eq_true rfl) (Nat.le_of_ble_eq_true rfl) (st2 := [vi v5, vi v4]) rfl ?_
      refine GW_icmp_eq (X := X_X12_holds) (pc := 32) 44 d_X12_holds_32 (by decide) (fun c => ?_) (fun c => ?_)
      · replace h := g_ip c h
        refine GW_sub [] rfl ?_
        exact T_X12_holds_b44 M r  h
      · replace h := g_ie c h
        refine GW_aload_n (X := X_X12_holds) (pc := 35) d_X12_holds_35 rfl 0 rfl ?_
        refine GW_iload_n (X := X_X12_holds) (pc := 36) d_X12_holds_36 rfl 1 rfl ?_
        refine GW_iload_n (X := X_X12_holds) (pc := 37) d_X12_holds_37 rfl 2 rfl ?_
        replace h := g_bd h
        obtain ⟨v6, hv6, h⟩ := h
        refine GW_callV (X := X_X12_holds) (pc := 38) (bc0 := 0) (bs0 := 0) (r := some (vi v6)) (M2 := M) (c0 := 12) (T_X12_sameAs (some i1) l1 l2 M v6 hv6) (Nat.le_of_ble_eq_true rfl) (Nat.le_of_ble_eq_true rfl) rfl g_cok12 ki1 yc_X12_sameAs ⟨m_1440, m_1442, m_82, m_127, m_1443⟩ d_X12_holds_38 rfl (st := []) rfl (Nat.le_of_ble_eq_true rfl) (Nat.le_of_ble_eq_true rfl) (Nat.le_of_ble_eq_true rfl) (st2 := [vi v6]) rfl ?_
        refine GW_if_le (X := X_X12_holds) (pc := 41) 48 d_X12_holds_41 (by decide) (fun c => ?_) (fun c => ?_)
        · replace h := g_ip c h
          refine GW_iconst (X := X_X12_holds) (pc := 48) (v := 0) d_X12_holds_48 (by decide) ?_
          replace h := Option.some.inj h
          subst h
          exact GW_ret (X := X_X12_holds) (pc := 49) d_X12_holds_49 rfl g_rok0
        · replace h := g_ie c h
          refine GW_sub [] rfl ?_
          exact T_X12_holds_b44 M r  h
    · replace h := g_ip c h
      refine GW_sub [] rfl ?_
      exact T_X12_holds_b18 M r  h
def F_X12_holds (l0 : Option Nat) (l1 : Int32) (l2 : Int32) (M : gM) : Option Int32 := F_X12_holds_b0 M l0 l1 l2
theorem T_X12_holds (l0 : Option Nat) (l1 : Int32) (l2 : Int32) (M : gM) (r : Int32) (h : F_X12_holds l0 l1 l2 M = some r) : g_Met 2 0 0 yX12_holds X_X12_holds [vr l0, vi l1, vi l2] M (some (vi r), M) :=
  g_Met_of pn_RX12 rfl (Nat.le_of_ble_eq_true rfl) (fun h => by cases h) (GW_sub [0, 1, 2] rfl (T_X12_holds_b0 M r l0 l1 l2 h))
