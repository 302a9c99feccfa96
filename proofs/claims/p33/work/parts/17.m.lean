/-! ForgetHeirsModel.term()Z -/
theorem d_X12_term_0 : decode cX12_term 0 = .ok (.aload_n 0, 1) := by decide +kernel
theorem d_X12_term_1 : decode cX12_term 1 = .ok (.invokevirtual 180, 3) := by decide +kernel
theorem d_X12_term_4 : decode cX12_term 4 = .ok (.ifCond .ne 5, 3) := by decide +kernel
theorem d_X12_term_7 : decode cX12_term 7 = .ok (.iconst 0, 1) := by decide +kernel
theorem d_X12_term_8 : decode cX12_term 8 = .ok (.ireturn, 1) := by decide +kernel
theorem d_X12_term_9 : decode cX12_term 9 = .ok (.aload_n 0, 1) := by decide +kernel
theorem d_X12_term_10 : decode cX12_term 10 = .ok (.invokevirtual 93, 3) := by decide +kernel
theorem d_X12_term_13 : decode cX12_term 13 = .ok (.bipush 42, 2) := by decide +kernel
theorem d_X12_term_15 : decode cX12_term 15 = .ok (.if_icmp .eq 21, 3) := by decide +kernel
theorem d_X12_term_18 : decode cX12_term 18 = .ok (.aload_n 0, 1) := by decide +kernel
theorem d_X12_term_19 : decode cX12_term 19 = .ok (.invokevirtual 93, 3) := by decide +kernel
theorem d_X12_term_22 : decode cX12_term 22 = .ok (.bipush 47, 2) := by decide +kernel
theorem d_X12_term_24 : decode cX12_term 24 = .ok (.if_icmp .eq 12, 3) := by decide +kernel
theorem d_X12_term_27 : decode cX12_term 27 = .ok (.aload_n 0, 1) := by decide +kernel
theorem d_X12_term_28 : decode cX12_term 28 = .ok (.invokevirtual 93, 3) := by decide +kernel
theorem d_X12_term_31 : decode cX12_term 31 = .ok (.bipush 37, 2) := by decide +kernel
theorem d_X12_term_33 : decode cX12_term 33 = .ok (.if_icmp .ne 70, 3) := by decide +kernel
theorem d_X12_term_36 : decode cX12_term 36 = .ok (.aload_n 0, 1) := by decide +kernel
theorem d_X12_term_37 : decode cX12_term 37 = .ok (.getfield 7, 3) := by decide +kernel
theorem d_X12_term_40 : decode cX12_term 40 = .ok (.aload_n 0, 1) := by decide +kernel
theorem d_X12_term_41 : decode cX12_term 41 = .ok (.getfield 90, 3) := by decide +kernel
theorem d_X12_term_44 : decode cX12_term 44 = .ok (.baload, 1) := by decide +kernel
theorem d_X12_term_45 : decode cX12_term 45 = .ok (.bipush 42, 2) := by decide +kernel
theorem d_X12_term_47 : decode cX12_term 47 = .ok (.if_icmp .ne 7, 3) := by decide +kernel
theorem d_X12_term_50 : decode cX12_term 50 = .ok (.iconst 4, 1) := by decide +kernel
theorem d_X12_term_51 : decode cX12_term 51 = .ok (.goto 23, 3) := by decide +kernel
theorem d_X12_term_54 : decode cX12_term 54 = .ok (.aload_n 0, 1) := by decide +kernel
theorem d_X12_term_55 : decode cX12_term 55 = .ok (.getfield 7, 3) := by decide +kernel
theorem d_X12_term_58 : decode cX12_term 58 = .ok (.aload_n 0, 1) := by decide +kernel
theorem d_X12_term_59 : decode cX12_term 59 = .ok (.getfield 90, 3) := by decide +kernel
theorem d_X12_term_62 : decode cX12_term 62 = .ok (.baload, 1) := by decide +kernel
theorem d_X12_term_63 : decode cX12_term 63 = .ok (.bipush 47, 2) := by decide +kernel
theorem d_X12_term_65 : decode cX12_term 65 = .ok (.if_icmp .ne 7, 3) := by decide +kernel
theorem d_X12_term_68 : decode cX12_term 68 = .ok (.iconst 5, 1) := by decide +kernel
theorem d_X12_term_69 : decode cX12_term 69 = .ok (.goto 5, 3) := by decide +kernel
theorem d_X12_term_72 : decode cX12_term 72 = .ok (.bipush 14, 2) := by decide +kernel
theorem d_X12_term_74 : decode cX12_term 74 = .ok (.istore_n 1, 1) := by decide +kernel
theorem d_X12_term_75 : decode cX12_term 75 = .ok (.aload_n 0, 1) := by decide +kernel
theorem d_X12_term_76 : decode cX12_term 76 = .ok (.dup, 1) := by decide +kernel
theorem d_X12_term_77 : decode cX12_term 77 = .ok (.getfield 90, 3) := by decide +kernel
theorem d_X12_term_80 : decode cX12_term 80 = .ok (.iconst 1, 1) := by decide +kernel
theorem d_X12_term_81 : decode cX12_term 81 = .ok (.iadd, 1) := by decide +kernel
theorem d_X12_term_82 : decode cX12_term 82 = .ok (.putfield 90, 3) := by decide +kernel
theorem d_X12_term_85 : decode cX12_term 85 = .ok (.aload_n 0, 1) := by decide +kernel
theorem d_X12_term_86 : decode cX12_term 86 = .ok (.invokevirtual 180, 3) := by decide +kernel
theorem d_X12_term_89 : decode cX12_term 89 = .ok (.ifCond .ne 5, 3) := by decide +kernel
theorem d_X12_term_92 : decode cX12_term 92 = .ok (.iconst 0, 1) := by decide +kernel
theorem d_X12_term_93 : decode cX12_term 93 = .ok (.ireturn, 1) := by decide +kernel
theorem d_X12_term_94 : decode cX12_term 94 = .ok (.aload_n 0, 1) := by decide +kernel
theorem d_X12_term_95 : decode cX12_term 95 = .ok (.iload_n 1, 1) := by decide +kernel
theorem d_X12_term_96 : decode cX12_term 96 = .ok (.iconst 0, 1) := by decide +kernel
theorem d_X12_term_97 : decode cX12_term 97 = .ok (.invokevirtual 166, 3) := by decide +kernel
theorem d_X12_term_100 : decode cX12_term 100 = .ok (.goto (-91), 3) := by decide +kernel
theorem d_X12_term_103 : decode cX12_term 103 = .ok (.iconst 1, 1) := by decide +kernel
theorem d_X12_term_104 : decode cX12_term 104 = .ok (.ireturn, 1) := by decide +kernel
abbrev X_X12_term : gX := (RX12, cX12_term, 2, (some .boolean), false)
def F_X12_term_b74 (k9 : Option Nat → gM → Option (Int32 × gM)) (l0 : Option Nat) (s0 : Int32) (M : gM) : Option (Int32 × gM) :=
  (gI 12 M l0 8).bind fun v1 => (pI 12 M l0 8 (v1 + (1 : Int32))).bind fun M2 => (gO 12 M2 l0).bind fun i3 => (F_X12_value (some i3) M2).bind fun (v4, M5) => if v4 = 0 then (some ((0 : Int32), M5)) else ((gC 12 M5 i3).bind fun _ => (F_X12_puts (some i3) s0 (0 : Int32) M5).bind fun M7 => k9 (some i3) M7)
theorem T_X12_term_b74 (k9 : Option Nat → gM → Option (Int32 × gM)) (r : (Int32 × gM)) (hk9 : ∀ (l0 : Option Nat) (M : gM), k9 l0 M = some r → GW 4 0 0 X_X12_term 9 [(0, vr l0)] [] M (some (vi r.1), r.2)) (l0 : Option Nat) (s0 : Int32) (M : gM) (h : F_X12_term_b74 k9 l0 s0 M = some r) : GW 4 0 0 X_X12_term 74 [(0, vr l0)] [vi s0] M (some (vi r.1), r.2) := by
  delta F_X12_term_b74 at h
  refine GW_istore_n (X := X_X12_term) (pc := 74) d_X12_term_74 rfl (Nat.le_of_ble_eq_true rfl) (lv2 := [(1, vi s0), (0, vr l0)]) rfl ?_
  refine GW_aload_n (X := X_X12_term) (pc := 75) d_X12_term_75 rfl 1 rfl ?_
  refine GW_dup (X := X_X12_term) (pc := 76) d_X12_term_76 rfl ?_
  replace h := g_bd h
  obtain ⟨v1, hv1, h⟩ := h
  refine GW_getI (X := X_X12_term) (pc := 77) f_X12_90 d_X12_term_77 hv1 (Or.inl ty_12_8) ?_
  refine GW_iconst (X := X_X12_term) (pc := 80) (v := 1) d_X12_term_80 (by decide) ?_
  refine GW_iadd (X := X_X12_term) (pc := 81) d_X12_term_81 ?_
  replace h := g_bd h
  obtain ⟨M2, hM2, h⟩ := h
  refine GW_putI (X := X_X12_term) (pc := 82) f_X12_90 d_X12_term_82 hM2 (Or.inl fi_12_8) (Or.inl ty_12_8) ?_
  refine GW_aload_n (X := X_X12_term) (pc := 85) d_X12_term_85 rfl 1 rfl ?_
  replace h := g_bd h
  obtain ⟨i3, hi3, h⟩ := h
  obtain ⟨rfl, ki3⟩ := g_gO hi3
  replace h := g_bd h
  obtain ⟨⟨v4, M5⟩, hv4, h⟩ := h
  dsimp only at h
  refine GW_callV (X := X_X12_term) (pc := 86) (bc0 := 0) (bs0 := 0) (r := some (vi v4)) (M2 := M5) (c0 := 12) (T_X12_value (some i3) M2 (v4, M5) hv4) (Nat.le_of_ble_eq_true rfl) (Nat.le_of_ble_eq_true rfl) rfl g_cok12 ki3 yc_X12_value ⟨m_1333, m_1335, m_63, m_127, m_1336⟩ d_X12_term_86 rfl (st := []) rfl (Nat.le_of_ble_eq_true rfl) (Nat.le_of_ble_eq_true rfl) (Nat.le_of_ble_eq_true rfl) (st2 := [vi v4]) rfl ?_
  refine GW_if_ne (X := X_X12_term) (pc := 89) 94 d_X12_term_89 (by decide) (fun c => ?_) (fun c => ?_)
  · replace h := g_ie c h
    refine GW_aload_n (X := X_X12_term) (pc := 94) d_X12_term_94 rfl 1 rfl ?_
    refine GW_iload_n (X := X_X12_term) (pc := 95) d_X12_term_95 rfl 0 rfl ?_
    refine GW_iconst (X := X_X12_term) (pc := 96) (v := 0) d_X12_term_96 (by decide) ?_
    replace h := g_bd h
    obtain ⟨_, kk6, h⟩ := h
    replace kk6 := g_gC kk6
    replace h := g_bd h
    obtain ⟨M7, hM7, h⟩ := h
    refine GW_callV (X := X_X12_term) (pc := 97) (bc0 := 0) (bs0 := 0) (r := none) (M2 := M7) (c0 := 12) (T_X12_puts (some i3) s0 (0 : Int32) M5 M7 hM7) (Nat.le_of_ble_eq_true rfl) (Nat.le_of_ble_eq_true rfl) rfl g_cok12 kk6 yc_X12_puts ⟨m_1342, m_1344, m_65, m_127, m_1345⟩ d_X12_term_97 rfl (st := []) rfl (Nat.le_of_ble_eq_true rfl) (Nat.le_of_ble_eq_true rfl) (Nat.le_of_ble_eq_true rfl) (st2 := []) rfl ?_
    refine GW_goto (X := X_X12_term) (pc := 100) 9 d_X12_term_100 (by decide) ?_
    refine GW_sub [1] rfl ?_
    exact hk9 (some i3) M7 h
  · replace h := g_ip c h
    refine GW_iconst (X := X_X12_term) (pc := 92) (v := 0) d_X12_term_92 (by decide) ?_
    replace h := Option.some.inj h
    subst h
    exact GW_ret (X := X_X12_term) (pc := 93) d_X12_term_93 rfl g_rok0
def F_X12_term_b36 (k9 : Option Nat → gM → Option (Int32 × gM)) (l0 : Option Nat) (M : gM) : Option (Int32 × gM) :=
  (gR 12 M l0 0).bind fun v1 => (gI 12 M l0 8).bind fun v2 => (aI 22 M v1 v2).bind fun v3 => if v3 = (42 : Int32) then (F_X12_term_b74 k9 l0 (4 : Int32) M) else ((gR 12 M l0 0).bind fun v4 => (gI 12 M l0 8).bind fun v5 => (aI 22 M v4 v5).bind fun v6 => if v6 = (47 : Int32) then (F_X12_term_b74 k9 l0 (5 : Int32) M) else (F_X12_term_b74 k9 l0 (14 : Int32) M))
theorem T_X12_term_b36 (k9 : Option Nat → gM → Option (Int32 × gM)) (r : (Int32 × gM)) (hk9 : ∀ (l0 : Option Nat) (M : gM), k9 l0 M = some r → GW 4 0 0 X_X12_term 9 [(0, vr l0)] [] M (some (vi r.1), r.2)) (l0 : Option Nat) (M : gM) (h : F_X12_term_b36 k9 l0 M = some r) : GW 4 0 0 X_X12_term 36 [(0, vr l0)] [] M (some (vi r.1), r.2) := by
  delta F_X12_term_b36 at h
  refine GW_aload_n (X := X_X12_term) (pc := 36) d_X12_term_36 rfl 0 rfl ?_
  replace h := g_bd h
  obtain ⟨v1, hv1, h⟩ := h
  refine GW_getR (X := X_X12_term) (pc := 37) f_X12_7 d_X12_term_37 hv1 (Or.inr ⟨_, ty_12_0⟩) ?_
  refine GW_aload_n (X := X_X12_term) (pc := 40) d_X12_term_40 rfl 0 rfl ?_
  replace h := g_bd h
  obtain ⟨v2, hv2, h⟩ := h
  refine GW_getI (X := X_X12_term) (pc := 41) f_X12_90 d_X12_term_41 hv2 (Or.inl ty_12_8) ?_
  replace h := g_bd h
  obtain ⟨v3, hv3, h⟩ := h
  refine GW_bald (X := X_X12_term) (pc := 44) d_X12_term_44 hv3 ?_
  refine GW_bipush (X := X_X12_term) (pc := 45) (v := 42) d_X12_term_45 (by decide) ?_
  refine GW_icmp_ne (X := X_X12_term) (pc := 47) 54 d_X12_term_47 (by decide) (fun c => ?_) (fun c => ?_)
  · replace h := g_ie c h
    refine GW_aload_n (X := X_X12_term) (pc := 54) d_X12_term_54 rfl 0 rfl ?_
    replace h := g_bd h
    obtain ⟨v4, hv4, h⟩ := h
    refine GW_getR (X := X_X12_term) (pc := 55) f_X12_7 d_X12_term_55 hv4 (Or.inr ⟨_, ty_12_0⟩) ?_
    refine GW_aload_n (X := X_X12_term) (pc := 58) d_X12_term_58 rfl 0 rfl ?_
    replace h := g_bd h
    obtain ⟨v5, hv5, h⟩ := h
    refine GW_getI (X := X_X12_term) (pc := 59) f_X12_90 d_X12_term_59 hv5 (Or.inl ty_12_8) ?_
    replace h := g_bd h
    obtain ⟨v6, hv6, h⟩ := h
    refine GW_bald (X := X_X12_term) (pc := 62) d_X12_term_62 hv6 ?_
    refine GW_bipush (X := X_X12_term) (pc := 63) (v := 47) d_X12_term_63 (by decide) ?_
    refine GW_icmp_ne (X := X_X12_term) (pc := 65) 72 d_X12_term_65 (by decide) (fun c => ?_) (fun c => ?_)
    · replace h := g_ie c h
      refine GW_bipush (X := X_X12_term) (pc := 72) (v := 14) d_X12_term_72 (by decide) ?_
      exact T_X12_term_b74 k9 r hk9 l0 (14 : Int32) M h
    · replace h := g_ip c h
      refine GW_iconst (X := X_X12_term) (pc := 68) (v := 5) d_X12_term_68 (by decide) ?_
      refine GW_goto (X := X_X12_term) (pc := 69) 74 d_X12_term_69 (by decide) ?_
      exact T_X12_term_b74 k9 r hk9 l0 (5 : Int32) M h
  · replace h := g_ip c h
    refine GW_iconst (X := X_X12_term) (pc := 50) (v := 4) d_X12_term_50 (by decide) ?_
    refine GW_goto (X := X_X12_term) (pc := 51) 74 d_X12_term_51 (by decide) ?_
    exact T_X12_term_b74 k9 r hk9 l0 (4 : Int32) M h
def F_X12_term_b9 (k9 : Option Nat → gM → Option (Int32 × gM)) (l0 : Option Nat) (M : gM) : Option (Int32 × gM) :=
  (gO 12 M l0).bind fun i1 => (F_X12_see (some i1) M).bind fun (v2, M3) => if v2 = (42 : Int32) then (F_X12_term_b36 k9 (some i1) M3) else ((gC 12 M3 i1).bind fun _ => (F_X12_see (some i1) M3).bind fun (v5, M6) => if v5 = (47 : Int32) then (F_X12_term_b36 k9 (some i1) M6) else ((gC 12 M6 i1).bind fun _ => (F_X12_see (some i1) M6).bind fun (v8, M9) => if v8 = (37 : Int32) then (F_X12_term_b36 k9 (some i1) M9) else (some ((1 : Int32), M9))))
set_option maxHeartbeats 1000000 in
theorem T_X12_term_b9 (k9 : Option Nat → gM → Option (Int32 × gM)) (r : (Int32 × gM)) (hk9 : ∀ (l0 : Option Nat) (M : gM), k9 l0 M = some r → GW 4 0 0 X_X12_term 9 [(0, vr l0)] [] M (some (vi r.1), r.2)) (l0 : Option Nat) (M : gM) (h : F_X12_term_b9 k9 l0 M = some r) : GW 4 0 0 X_X12_term 9 [(0, vr l0)] [] M (some (vi r.1), r.2) := by
  delta F_X12_term_b9 at h
  refine GW_aload_n (X := X_X12_term) (pc := 9) d_X12_term_9 rfl 0 rfl ?_
  replace h := g_bd h
  obtain ⟨i1, hi1, h⟩ := h
  obtain ⟨rfl, ki1⟩ := g_gO hi1
  replace h := g_bd h
  obtain ⟨⟨v2, M3⟩, hv2, h⟩ := h
  dsimp only at h
  refine GW_callV (X := X_X12_term) (pc := 10) (bc0 := 0) (bs0 := 0) (r := some (vi v2)) (M2 := M3) (c0 := 12) (T_X12_see (some i1) M (v2, M3) hv2) (Nat.le_of_ble_eq_true rfl) (Nat.le_of_ble_eq_true rfl) rfl g_cok12 ki1 yc_X12_see ⟨m_1239, m_1241, m_43, m_127, m_1242⟩ d_X12_term_10 rfl (st := []) rfl (Nat.le_of_ble_eq_true rfl) (Nat.le_of_ble_eq_true rfl) (Nat.le_of_ble_eq_true rfl) (st2 := [vi v2]) rfl ?_
  refine GW_bipush (X := X_X12_term) (pc := 13) (v := 42) d_X12_term_13 (by decide) ?_
  refine GW_icmp_eq (X := X_X12_term) (pc := 15) 36 d_X12_term_15 (by decide) (fun c => ?_) (fun c => ?_)
  · replace h := g_ip c h
    exact T_X12_term_b36 k9 r hk9 (some i1) M3 h
  · replace h := g_ie c h
    refine GW_aload_n (X := X_X12_term) (pc := 18) d_X12_term_18 rfl 0 rfl ?_
    replace h := g_bd h
    obtain ⟨_, kk4, h⟩ := h
    replace kk4 := g_gC kk4
    replace h := g_bd h
    obtain ⟨⟨v5, M6⟩, hv5, h⟩ := h
    dsimp only at h
    refine GW_callV (X := X_X12_term) (pc := 19) (bc0 := 0) (bs0 := 0) (r := some (vi v5)) (M2 := M6) (c0 := 12) (T_X12_see (some i1) M3 (v5, M6) hv5) (Nat.le_of_ble_eq_true rfl) (Nat.le_of_ble_eq_true rfl) rfl g_cok12 kk4 yc_X12_see ⟨m_1239, m_1241, m_43, m_127, m_1242⟩ d_X12_term_19 rfl (st := []) rfl (Nat.le_of_ble_eq_true rfl) (Nat.le_of_ble_eq_true rfl) (Nat.le_of_ble_eq_true rfl) (st2 := [vi v5]) rfl ?_
    refine GW_bipush (X := X_X12_term) (pc := 22) (v := 47) d_X12_term_22 (by decide) ?_
    refine GW_icmp_eq (X := X_X12_term) (pc := 24) 36 d_X12_term_24 (by decide) (fun c => ?_) (fun c => ?_)
    · replace h := g_ip c h
      exact T_X12_term_b36 k9 r hk9 (some i1) M6 h
    · replace h := g_ie c h
      refine GW_aload_n (X := X_X12_term) (pc := 27) d_X12_term_27 rfl 0 rfl ?_
      replace h := g_bd h
      obtain ⟨_, kk7, h⟩ := h
      replace kk7 := g_gC kk7
      replace h := g_bd h
      obtain ⟨⟨v8, M9⟩, hv8, h⟩ := h
      dsimp only at h
      refine GW_callV (X := X_X12_term) (pc := 28) (bc0 := 0) (bs0 := 0) (r := some (vi v8)) (M2 := M9) (c0 := 12) (T_X12_see (some i1) M6 (v8, M9) hv8) (Nat.le_of_ble_eq_true rfl) (Nat.le_of_ble_eq_true rfl) rfl g_cok12 kk7 yc_X12_see ⟨m_1239, m_1241, m_43, m_127, m_1242⟩ d_X12_term_28 rfl (st := []) rfl (Nat.le_of_ble_eq_true rfl) (Nat.le_of_ble_eq_true rfl) (Nat.le_of_ble_eq_true rfl) (st2 := [vi v8]) rfl ?_
      refine GW_bipush (X := X_X12_term) (pc := 31) (v := 37) d_X12_term_31 (by decide) ?_
      refine GW_icmp_ne (X := X_X12_term) (pc := 33) 103 d_X12_term_33 (by decide) (fun c => ?_) (fun c => ?_)
      · replace h := g_ie c h
        refine GW_iconst (X := X_X12_term) (pc := 103) (v := 1) d_X12_term_103 (by decide) ?_
        replace h := Option.some.inj h
        subst h
        exact GW_ret (X := X_X12_term) (pc := 104) d_X12_term_104 rfl g_rok1
      · replace h := g_ip c h
        exact T_X12_term_b36 k9 r hk9 (some i1) M9 h
def F_X12_term_L9 : Nat → Option Nat → gM → Option (Int32 × gM)
  | 0 => fun _ _ => none
  | n + 1 => F_X12_term_b9 (F_X12_term_L9 n)
theorem T_X12_term_L9 (r : (Int32 × gM)) : ∀ (n : Nat) (l0 : Option Nat) (M : gM), F_X12_term_L9 n l0 M = some r → GW 4 0 0 X_X12_term 9 [(0, vr l0)] [] M (some (vi r.1), r.2) := by
  intro n
  induction n with
  | zero => intro l0 M h; exact g_no h
  | succ n ih => intro l0 M h; exact T_X12_term_b9 (F_X12_term_L9 n) r ih l0 M h
def F_X12_term_b0 (l0 : Option Nat) (M : gM) : Option (Int32 × gM) :=
  (gO 12 M l0).bind fun i1 => (F_X12_value (some i1) M).bind fun (v2, M3) => if v2 = 0 then (some ((0 : Int32), M3)) else (F_X12_term_L9 g_fuel (some i1) M3)
theorem T_X12_term_b0 (r : (Int32 × gM)) (l0 : Option Nat) (M : gM) (h : F_X12_term_b0 l0 M = some r) : GW 4 0 0 X_X12_term 0 [(0, vr l0)] [] M (some (vi r.1), r.2) := by
  delta F_X12_term_b0 at h
  refine GW_aload_n (X := X_X12_term) (pc := 0) d_X12_term_0 rfl 0 rfl ?_
  replace h := g_bd h
  obtain ⟨i1, hi1, h⟩ := h
  obtain ⟨rfl, ki1⟩ := g_gO hi1
  replace h := g_bd h
  obtain ⟨⟨v2, M3⟩, hv2, h⟩ := h
  dsimp only at h
  refine GW_callV (X := X_X12_term) (pc := 1) (bc0 := 0) (bs0 := 0) (r := some (vi v2)) (M2 := M3) (c0 := 12) (T_X12_value (some i1) M (v2, M3) hv2) (Nat.le_of_ble_eq_true rfl) (Nat.le_of_ble_eq_true rfl) rfl g_cok12 ki1 yc_X12_value ⟨m_1333, m_1335, m_63, m_127, m_1336⟩ d_X12_term_1 rfl (st := []) rfl (Nat.le_of_ble_eq_true rfl) (Nat.le_of_ble_eq_true rfl) (Nat.le_of_ble_eq_true rfl) (st2 := [vi v2]) rfl ?_
  refine GW_if_ne (X := X_X12_term) (pc := 4) 9 d_X12_term_4 (by decide) (fun c => ?_) (fun c => ?_)
  · replace h := g_ie c h
    exact T_X12_term_L9 r g_fuel (some i1) M3 h
  · replace h := g_ip c h
    refine GW_iconst (X := X_X12_term) (pc := 7) (v := 0) d_X12_term_7 (by decide) ?_
    replace h := Option.some.inj h
    subst h
    exact GW_ret (X := X_X12_term) (pc := 8) d_X12_term_8 rfl g_rok0
def F_X12_term (l0 : Option Nat) (M : gM) : Option (Int32 × gM) := F_X12_term_b0 l0 M
theorem T_X12_term (l0 : Option Nat) (M : gM) (r : (Int32 × gM)) (h : F_X12_term l0 M = some r) : g_Met 4 0 0 yX12_term X_X12_term [vr l0] M (some (vi r.1), r.2) :=
  g_Met_of pn_RX12 rfl (Nat.le_of_ble_eq_true rfl) (fun h => by cases h) (GW_sub [0] rfl (T_X12_term_b0 r l0 M h))
/-! ForgetHeirsModel.sum()Z -/
theorem d_X12_sum_0 : decode cX12_sum 0 = .ok (.aload_n 0, 1) := by decide +kernel
theorem d_X12_sum_1 : decode cX12_sum 1 = .ok (.invokevirtual 184, 3) := by decide +kernel
theorem d_X12_sum_4 : decode cX12_sum 4 = .ok (.ifCond .ne 5, 3) := by decide +kernel
theorem d_X12_sum_7 : decode cX12_sum 7 = .ok (.iconst 0, 1) := by decide +kernel
theorem d_X12_sum_8 : decode cX12_sum 8 = .ok (.ireturn, 1) := by decide +kernel
theorem d_X12_sum_9 : decode cX12_sum 9 = .ok (.aload_n 0, 1) := by decide +kernel
theorem d_X12_sum_10 : decode cX12_sum 10 = .ok (.invokevirtual 93, 3) := by decide +kernel
theorem d_X12_sum_13 : decode cX12_sum 13 = .ok (.bipush 43, 2) := by decide +kernel
theorem d_X12_sum_15 : decode cX12_sum 15 = .ok (.if_icmp .eq 12, 3) := by decide +kernel
theorem d_X12_sum_18 : decode cX12_sum 18 = .ok (.aload_n 0, 1) := by decide +kernel
theorem d_X12_sum_19 : decode cX12_sum 19 = .ok (.invokevirtual 93, 3) := by decide +kernel
theorem d_X12_sum_22 : decode cX12_sum 22 = .ok (.bipush 45, 2) := by decide +kernel
theorem d_X12_sum_24 : decode cX12_sum 24 = .ok (.if_icmp .ne 51, 3) := by decide +kernel
theorem d_X12_sum_27 : decode cX12_sum 27 = .ok (.aload_n 0, 1) := by decide +kernel
theorem d_X12_sum_28 : decode cX12_sum 28 = .ok (.getfield 7, 3) := by decide +kernel
theorem d_X12_sum_31 : decode cX12_sum 31 = .ok (.aload_n 0, 1) := by decide +kernel
theorem d_X12_sum_32 : decode cX12_sum 32 = .ok (.getfield 90, 3) := by decide +kernel
theorem d_X12_sum_35 : decode cX12_sum 35 = .ok (.baload, 1) := by decide +kernel
theorem d_X12_sum_36 : decode cX12_sum 36 = .ok (.bipush 43, 2) := by decide +kernel
theorem d_X12_sum_38 : decode cX12_sum 38 = .ok (.if_icmp .ne 7, 3) := by decide +kernel
theorem d_X12_sum_41 : decode cX12_sum 41 = .ok (.iconst 2, 1) := by decide +kernel
theorem d_X12_sum_42 : decode cX12_sum 42 = .ok (.goto 4, 3) := by decide +kernel
theorem d_X12_sum_45 : decode cX12_sum 45 = .ok (.iconst 3, 1) := by decide +kernel
theorem d_X12_sum_46 : decode cX12_sum 46 = .ok (.istore_n 1, 1) := by decide +kernel
theorem d_X12_sum_47 : decode cX12_sum 47 = .ok (.aload_n 0, 1) := by decide +kernel
theorem d_X12_sum_48 : decode cX12_sum 48 = .ok (.dup, 1) := by decide +kernel
theorem d_X12_sum_49 : decode cX12_sum 49 = .ok (.getfield 90, 3) := by decide +kernel
theorem d_X12_sum_52 : decode cX12_sum 52 = .ok (.iconst 1, 1) := by decide +kernel
theorem d_X12_sum_53 : decode cX12_sum 53 = .ok (.iadd, 1) := by decide +kernel
theorem d_X12_sum_54 : decode cX12_sum 54 = .ok (.putfield 90, 3) := by decide +kernel
theorem d_X12_sum_57 : decode cX12_sum 57 = .ok (.aload_n 0, 1) := by decide +kernel
theorem d_X12_sum_58 : decode cX12_sum 58 = .ok (.invokevirtual 184, 3) := by decide +kernel
theorem d_X12_sum_61 : decode cX12_sum 61 = .ok (.ifCond .ne 5, 3) := by decide +kernel
theorem d_X12_sum_64 : decode cX12_sum 64 = .ok (.iconst 0, 1) := by decide +kernel
theorem d_X12_sum_65 : decode cX12_sum 65 = .ok (.ireturn, 1) := by decide +kernel
theorem d_X12_sum_66 : decode cX12_sum 66 = .ok (.aload_n 0, 1) := by decide +kernel
theorem d_X12_sum_67 : decode cX12_sum 67 = .ok (.iload_n 1, 1) := by decide +kernel
theorem d_X12_sum_68 : decode cX12_sum 68 = .ok (.iconst 0, 1) := by decide +kernel
theorem d_X12_sum_69 : decode cX12_sum 69 = .ok (.invokevirtual 166, 3) := by decide +kernel
theorem d_X12_sum_72 : decode cX12_sum 72 = .ok (.goto (-63), 3) := by decide +kernel
theorem d_X12_sum_75 : decode cX12_sum 75 = .ok (.iconst 1, 1) := by decide +kernel
theorem d_X12_sum_76 : decode cX12_sum 76 = .ok (.ireturn, 1) := by decide +kernel
abbrev X_X12_sum : gX := (RX12, cX12_sum, 2, (some .boolean), false)
def F_X12_sum_b46 (k9 : Option Nat → gM → Option (Int32 × gM)) (l0 : Option Nat) (s0 : Int32) (M : gM) : Option (Int32 × gM) :=
  (gI 12 M l0 8).bind fun v1 => (pI 12 M l0 8 (v1 + (1 : Int32))).bind fun M2 => (gO 12 M2 l0).bind fun i3 => (F_X12_term (some i3) M2).bind fun (v4, M5) => if v4 = 0 then (some ((0 : Int32), M5)) else ((gC 12 M5 i3).bind fun _ => (F_X12_puts (some i3) s0 (0 : Int32) M5).bind fun M7 => k9 (some i3) M7)
theorem T_X12_sum_b46 (k9 : Option Nat → gM → Option (Int32 × gM)) (r : (Int32 × gM)) (hk9 : ∀ (l0 : Option Nat) (M : gM), k9 l0 M = some r → GW 5 0 0 X_X12_sum 9 [(0, vr l0)] [] M (some (vi r.1), r.2)) (l0 : Option Nat) (s0 : Int32) (M : gM) (h : F_X12_sum_b46 k9 l0 s0 M = some r) : GW 5 0 0 X_X12_sum 46 [(0, vr l0)] [vi s0] M (some (vi r.1), r.2) := by
  delta F_X12_sum_b46 at h
  refine GW_istore_n (X := X_X12_sum) (pc := 46) d_X12_sum_46 rfl (Nat.le_of_ble_eq_true rfl) (lv2 := [(1, vi s0), (0, vr l0)]) rfl ?_
  refine GW_aload_n (X := X_X12_sum) (pc := 47) d_X12_sum_47 rfl 1 rfl ?_
  refine GW_dup (X := X_X12_sum) (pc := 48) d_X12_sum_48 rfl ?_
  replace h := g_bd h
  obtain ⟨v1, hv1, h⟩ := h
  refine GW_getI (X := X_X12_sum) (pc := 49) f_X12_90 d_X12_sum_49 hv1 (Or.inl ty_12_8) ?_
  refine GW_iconst (X := X_X12_sum) (pc := 52) (v := 1) d_X12_sum_52 (by decide) ?_
  refine GW_iadd (X := X_X12_sum) (pc := 53) d_X12_sum_53 ?_
  replace h := g_bd h
  obtain ⟨M2, hM2, h⟩ := h
  refine GW_putI (X := X_X12_sum) (pc := 54) f_X12_90 d_X12_sum_54 hM2 (Or.inl fi_12_8) (Or.inl ty_12_8) ?_
  refine GW_aload_n (X := X_X12_sum) (pc := 57) d_X12_sum_57 rfl 1 rfl ?_
  replace h := g_bd h
  obtain ⟨i3, hi3, h⟩ := h
  obtain ⟨rfl, ki3⟩ := g_gO hi3
  replace h := g_bd h
  obtain ⟨⟨v4, M5⟩, hv4, h⟩ := h
  dsimp only at h
  refine GW_callV (X := X_X12_sum) (pc := 58) (bc0 := 0) (bs0 := 0) (r := some (vi v4)) (M2 := M5) (c0 := 12) (T_X12_term (some i3) M2 (v4, M5) hv4) (Nat.le_of_ble_eq_true rfl) (Nat.le_of_ble_eq_true rfl) rfl g_cok12 ki3 yc_X12_term ⟨m_1329, m_1331, m_62, m_127, m_1332⟩ d_X12_sum_58 rfl (st := []) rfl (Nat.le_of_ble_eq_true rfl) (Nat.le_of_ble_eq_true rfl) (Nat.le_of_ble_eq_true rfl) (st2 := [vi v4]) rfl ?_
  refine GW_if_ne (X := X_X12_sum) (pc := 61) 66 d_X12_sum_61 (by decide) (fun c => ?_) (fun c => ?_)
  · replace h := g_ie c h
    refine GW_aload_n (X := X_X12_sum) (pc := 66) d_X12_sum_66 rfl 1 rfl ?_
    refine GW_iload_n (X := X_X12_sum) (pc := 67) d_X12_sum_67 rfl 0 rfl ?_
    refine GW_iconst (X := X_X12_sum) (pc := 68) (v := 0) d_X12_sum_68 (by decide) ?_
    replace h := g_bd h
    obtain ⟨_, kk6, h⟩ := h
    replace kk6 := g_gC kk6
    replace h := g_bd h
    obtain ⟨M7, hM7, h⟩ := h
    refine GW_callV (X := X_X12_sum) (pc := 69) (bc0 := 0) (bs0 := 0) (r := none) (M2 := M7) (c0 := 12) (T_X12_puts (some i3) s0 (0 : Int32) M5 M7 hM7) (Nat.le_of_ble_eq_true rfl) (Nat.le_of_ble_eq_true rfl) rfl g_cok12 kk6 yc_X12_puts ⟨m_1342, m_1344, m_65, m_127, m_1345⟩ d_X12_sum_69 rfl (st := []) rfl (Nat.le_of_ble_eq_true rfl) (Nat.le_of_ble_eq_true rfl) (Nat.le_of_ble_eq_true rfl) (st2 := []) rfl ?_
    refine GW_goto (X := X_X12_sum) (pc := 72) 9 d_X12_sum_72 (by decide) ?_
    refine GW_sub [1] rfl ?_
    exact hk9 (some i3) M7 h
  · replace h := g_ip c h
    refine GW_iconst (X := X_X12_sum) (pc := 64) (v := 0) d_X12_sum_64 (by decide) ?_
    replace h := Option.some.inj h
    subst h
    exact GW_ret (X := X_X12_sum) (pc := 65) d_X12_sum_65 rfl g_rok0
def F_X12_sum_b27 (k9 : Option Nat → gM → Option (Int32 × gM)) (l0 : Option Nat) (M : gM) : Option (Int32 × gM) :=
  (gR 12 M l0 0).bind fun v1 => (gI 12 M l0 8).bind fun v2 => (aI 22 M v1 v2).bind fun v3 => if v3 = (43 : Int32) then (F_X12_sum_b46 k9 l0 (2 : Int32) M) else (F_X12_sum_b46 k9 l0 (3 : Int32) M)
theorem T_X12_sum_b27 (k9 : Option Nat → gM → Option (Int32 × gM)) (r : (Int32 × gM)) (hk9 : ∀ (l0 : Option Nat) (M : gM), k9 l0 M = some r → GW 5 0 0 X_X12_sum 9 [(0, vr l0)] [] M (some (vi r.1), r.2)) (l0 : Option Nat) (M : gM) (h : F_X12_sum_b27 k9 l0 M = some r) : GW 5 0 0 X_X12_sum 27 [(0, vr l0)] [] M (some (vi r.1), r.2) := by
  delta F_X12_sum_b27 at h
  refine GW_aload_n (X := X_X12_sum) (pc := 27) d_X12_sum_27 rfl 0 rfl ?_
  replace h := g_bd h
  obtain ⟨v1, hv1, h⟩ := h
  refine GW_getR (X := X_X12_sum) (pc := 28) f_X12_7 d_X12_sum_28 hv1 (Or.inr ⟨_, ty_12_0⟩) ?_
  refine GW_aload_n (X := X_X12_sum) (pc := 31) d_X12_sum_31 rfl 0 rfl ?_
  replace h := g_bd h
  obtain ⟨v2, hv2, h⟩ := h
  refine GW_getI (X := X_X12_sum) (pc := 32) f_X12_90 d_X12_sum_32 hv2 (Or.inl ty_12_8) ?_
  replace h := g_bd h
  obtain ⟨v3, hv3, h⟩ := h
  refine GW_bald (X := X_X12_sum) (pc := 35) d_X12_sum_35 hv3 ?_
  refine GW_bipush (X := X_X12_sum) (pc := 36) (v := 43) d_X12_sum_36 (by decide) ?_
  refine GW_icmp_ne (X := X_X12_sum) (pc := 38) 45 d_X12_sum_38 (by decide) (fun c => ?_) (fun c => ?_)
  · replace h := g_ie c h
    refine GW_iconst (X := X_X12_sum) (pc := 45) (v := 3) d_X12_sum_45 (by decide) ?_
    exact T_X12_sum_b46 k9 r hk9 l0 (3 : Int32) M h
  · replace h := g_ip c h
    refine GW_iconst (X := X_X12_sum) (pc := 41) (v := 2) d_X12_sum_41 (by decide) ?_
    refine GW_goto (X := X_X12_sum) (pc := 42) 46 d_X12_sum_42 (by decide) ?_
    exact T_X12_sum_b46 k9 r hk9 l0 (2 : Int32) M h
def F_X12_sum_b9 (k9 : Option Nat → gM → Option (Int32 × gM)) (l0 : Option Nat) (M : gM) : Option (Int32 × gM) :=
  (gO 12 M l0).bind fun i1 => (F_X12_see (some i1) M).bind fun (v2, M3) => if v2 = (43 : Int32) then (F_X12_sum_b27 k9 (some i1) M3) else ((gC 12 M3 i1).bind fun _ => (F_X12_see (some i1) M3).bind fun (v5, M6) => if v5 = (45 : Int32) then (F_X12_sum_b27 k9 (some i1) M6) else (some ((1 : Int32), M6)))
theorem T_X12_sum_b9 (k9 : Option Nat → gM → Option (Int32 × gM)) (r : (Int32 × gM)) (hk9 : ∀ (l0 : Option Nat) (M : gM), k9 l0 M = some r → GW 5 0 0 X_X12_sum 9 [(0, vr l0)] [] M (some (vi r.1), r.2)) (l0 : Option Nat) (M : gM) (h : F_X12_sum_b9 k9 l0 M = some r) : GW 5 0 0 X_X12_sum 9 [(0, vr l0)] [] M (some (vi r.1), r.2) := by
  delta F_X12_sum_b9 at h
  refine GW_aload_n (X := X_X12_sum) (pc := 9) d_X12_sum_9 rfl 0 rfl ?_
  replace h := g_bd h
  obtain ⟨i1, hi1, h⟩ := h
  obtain ⟨rfl, ki1⟩ := g_gO hi1
  replace h := g_bd h
  obtain ⟨⟨v2, M3⟩, hv2, h⟩ := h
  dsimp only at h
  refine GW_callV (X := X_X12_sum) (pc := 10) (bc0 := 0) (bs0 := 0) (r := some (vi v2)) (M2 := M3) (c0 := 12) (T_X12_see (some i1) M (v2, M3) hv2) (Nat.le_of_ble_eq_true rfl) (Nat.le_of_ble_eq_true rfl) rfl g_cok12 ki1 yc_X12_see ⟨m_1239, m_1241, m_43, m_127, m_1242⟩ d_X12_sum_10 rfl (st := []) rfl (Nat.le_of_ble_eq_true rfl) (Nat.le_of_ble_eq_true rfl) (Nat.le_of_ble_eq_true rfl) (st2 := [vi v2]) rfl ?_
  refine GW_bipush (X := X_X12_sum) (pc := 13) (v := 43) d_X12_sum_13 (by decide) ?_
  refine GW_icmp_eq (X := X_X12_sum) (pc := 15) 27 d_X12_sum_15 (by decide) (fun c => ?_) (fun c => ?_)
  · replace h := g_ip c h
    exact T_X12_sum_b27 k9 r hk9 (some i1) M3 h
  · replace h := g_ie c h
    refine GW_aload_n (X := X_X12_sum) (pc := 18) d_X12_sum_18 rfl 0 rfl ?_
    replace h := g_bd h
    obtain ⟨_, kk4, h⟩ := h
    replace kk4 := g_gC kk4
    replace h := g_bd h
    obtain ⟨⟨v5, M6⟩, hv5, h⟩ := h
    dsimp only at h
    refine GW_callV (X := X_X12_sum) (pc := 19) (bc0 := 0) (bs0 := 0) (r := some (vi v5)) (M2 := M6) (c0 := 12) (T_X12_see (some i1) M3 (v5, M6) hv5) (Nat.le_of_ble_eq_true rfl) (Nat.le_of_ble_eq_true rfl) rfl g_cok12 kk4 yc_X12_see ⟨m_1239, m_1241, m_43, m_127, m_1242⟩ d_X12_sum_19 rfl (st := []) rfl (Nat.le_of_ble_eq_true rfl) (Nat.le_of_ble_eq_true rfl) (Nat.le_of_ble_eq_true rfl) (st2 := [vi v5]) rfl ?_
    refine GW_bipush (X := X_X12_sum) (pc := 22) (v := 45) d_X12_sum_22 (by decide) ?_
    refine GW_icmp_ne (X := X_X12_sum) (pc := 24) 75 d_X12_sum_24 (by decide) (fun c => ?_) (fun c => ?_)
    · replace h := g_ie c h
      refine GW_iconst (X := X_X12_sum) (pc := 75) (v := 1) d_X12_sum_75 (by decide) ?_
      replace h := Option.some.inj h
      subst h
      exact GW_ret (X := X_X12_sum) (pc := 76) d_X12_sum_76 rfl g_rok1
    · replace h := g_ip c h
      exact T_X12_sum_b27 k9 r hk9 (some i1) M6 h
def F_X12_sum_L9 : Nat → Option Nat → gM → Option (Int32 × gM)
  | 0 => fun _ _ => none
  | n + 1 => F_X12_sum_b9 (F_X12_sum_L9 n)
theorem T_X12_sum_L9 (r : (Int32 × gM)) : ∀ (n : Nat) (l0 : Option Nat) (M : gM), F_X12_sum_L9 n l0 M = some r → GW 5 0 0 X_X12_sum 9 [(0, vr l0)] [] M (some (vi r.1), r.2) := by
  intro n
  induction n with
  | zero => intro l0 M h; exact g_no h
  | succ n ih => intro l0 M h; exact T_X12_sum_b9 (F_X12_sum_L9 n) r ih l0 M h
def F_X12_sum_b0 (l0 : Option Nat) (M : gM) : Option (Int32 × gM) :=
  (gO 12 M l0).bind fun i1 => (F_X12_term (some i1) M).bind fun (v2, M3) => if v2 = 0 then (some ((0 : Int32), M3)) else (F_X12_sum_L9 g_fuel (some i1) M3)
theorem T_X12_sum_b0 (r : (Int32 × gM)) (l0 : Option Nat) (M : gM) (h : F_X12_sum_b0 l0 M = some r) : GW 5 0 0 X_X12_sum 0 [(0, vr l0)] [] M (some (vi r.1), r.2) := by
  delta F_X12_sum_b0 at h
  refine GW_aload_n (X := X_X12_sum) (pc := 0) d_X12_sum_0 rfl 0 rfl ?_
  replace h := g_bd h
  obtain ⟨i1, hi1, h⟩ := h
  obtain ⟨rfl, ki1⟩ := g_gO hi1
  replace h := g_bd h
  obtain ⟨⟨v2, M3⟩, hv2, h⟩ := h
  dsimp only at h
  refine GW_callV (X := X_X12_sum) (pc := 1) (bc0 := 0) (bs0 := 0) (r := some (vi v2)) (M2 := M3) (c0 := 12) (T_X12_term (some i1) M (v2, M3) hv2) (Nat.le_of_ble_eq_true rfl) (Nat.le_of_ble_eq_true rfl) rfl g_cok12 ki1 yc_X12_term ⟨m_1329, m_1331, m_62, m_127, m_1332⟩ d_X12_sum_1 rfl (st := []) rfl (Nat.le_of_ble_eq_true rfl) (Nat.le_of_ble_eq_true rfl) (Nat.le_of_ble_eq_true rfl) (st2 := [vi v2]) rfl ?_
  refine GW_if_ne (X := X_X12_sum) (pc := 4) 9 d_X12_sum_4 (by decide) (fun c => ?_) (fun c => ?_)
  · replace h := g_ie c h
    exact T_X12_sum_L9 r g_fuel (some i1) M3 h
  · replace h := g_ip c h
    refine GW_iconst (X := X_X12_sum) (pc := 7) (v := 0) d_X12_sum_7 (by decide) ?_
    replace h := Option.some.inj h
    subst h
    exact GW_ret (X := X_X12_sum) (pc := 8) d_X12_sum_8 rfl g_rok0
def F_X12_sum (l0 : Option Nat) (M : gM) : Option (Int32 × gM) := F_X12_sum_b0 l0 M
theorem T_X12_sum (l0 : Option Nat) (M : gM) (r : (Int32 × gM)) (h : F_X12_sum l0 M = some r) : g_Met 5 0 0 yX12_sum X_X12_sum [vr l0] M (some (vi r.1), r.2) :=
  g_Met_of pn_RX12 rfl (Nat.le_of_ble_eq_true rfl) (fun h => by cases h) (GW_sub [0] rfl (T_X12_sum_b0 r l0 M h))
/-! ForgetHeirsModel.takesWord(J)Z -/
theorem d_X12_takesWord_0 : decode cX12_takesWord 0 = .ok (.aload_n 0, 1) := by decide +kernel
theorem d_X12_takesWord_1 : decode cX12_takesWord 1 = .ok (.lload_n 1, 1) := by decide +kernel
theorem d_X12_takesWord_2 : decode cX12_takesWord 2 = .ok (.invokevirtual 101, 3) := by decide +kernel
theorem d_X12_takesWord_5 : decode cX12_takesWord 5 = .ok (.ifCond .ne 5, 3) := by decide +kernel
theorem d_X12_takesWord_8 : decode cX12_takesWord 8 = .ok (.iconst 0, 1) := by decide +kernel
theorem d_X12_takesWord_9 : decode cX12_takesWord 9 = .ok (.ireturn, 1) := by decide +kernel
theorem d_X12_takesWord_10 : decode cX12_takesWord 10 = .ok (.aload_n 0, 1) := by decide +kernel
theorem d_X12_takesWord_11 : decode cX12_takesWord 11 = .ok (.invokevirtual 105, 3) := by decide +kernel
theorem d_X12_takesWord_14 : decode cX12_takesWord 14 = .ok (.iconst 1, 1) := by decide +kernel
theorem d_X12_takesWord_15 : decode cX12_takesWord 15 = .ok (.ireturn, 1) := by decide +kernel
abbrev X_X12_takesWord : gX := (RX12, cX12_takesWord, 3, (some .boolean), false)
def F_X12_takesWord_b0 (l0 : Option Nat) (l1 : Int64) (M : gM) : Option (Int32 × gM) :=
  (gO 12 M l0).bind fun i1 => (F_X12_isWord (some i1) l1 M).bind fun (v2, M3) => if v2 = 0 then (some ((0 : Int32), M3)) else ((gC 12 M3 i1).bind fun _ => (F_X12_passWord (some i1) M3).bind fun M5 => some ((1 : Int32), M5))
theorem T_X12_takesWord_b0 (r : (Int32 × gM)) (l0 : Option Nat) (l1 : Int64) (M : gM) (h : F_X12_takesWord_b0 l0 l1 M = some r) : GW 2 0 0 X_X12_takesWord 0 [(0, vr l0), (1, vl l1)] [] M (some (vi r.1), r.2) := by
  delta F_X12_takesWord_b0 at h
  refine GW_aload_n (X := X_X12_takesWord) (pc := 0) d_X12_takesWord_0 rfl 0 rfl ?_
  refine GW_lload_n (X := X_X12_takesWord) (pc := 1) d_X12_takesWord_1 rfl 1 rfl ?_
  replace h := g_bd h
  obtain ⟨i1, hi1, h⟩ := h
  obtain ⟨rfl, ki1⟩ := g_gO hi1
  replace h := g_bd h
  obtain ⟨⟨v2, M3⟩, hv2, h⟩ := h
  dsimp only at h
  refine GW_callV (X := X_X12_takesWord) (pc := 2) (bc0 := 0) (bs0 := 0) (r := some (vi v2)) (M2 := M3) (c0 := 12) (T_X12_isWord (some i1) l1 M (v2, M3) hv2) (Nat.le_of_ble_eq_true rfl) (Nat.le_of_ble_eq_true rfl) rfl g_cok12 ki1 yc_X12_isWord ⟨m_1248, m_1250, m_45, m_127, m_1251⟩ d_X12_takesWord_2 rfl (st := []) rfl (Nat.le_of_ble_eq_true rfl) (Nat.le_of_ble_eq_true rfl) (Nat.le_of_ble_eq_true rfl) (st2 := [vi v2]) rfl ?_
  refine GW_if_ne (X := X_X12_takesWord) (pc := 5) 10 d_X12_takesWord_5 (by decide) (fun c => ?_) (fun c => ?_)
  · replace h := g_ie c h
    refine GW_aload_n (X := X_X12_takesWord) (pc := 10) d_X12_takesWord_10 rfl 0 rfl ?_
    replace h := g_bd h
    obtain ⟨_, kk4, h⟩ := h
    replace kk4 := g_gC kk4
    replace h := g_bd h
    obtain ⟨M5, hM5, h⟩ := h
    refine GW_callV (X := X_X12_takesWord) (pc := 11) (bc0 := 0) (bs0 := 0) (r := none) (M2 := M5) (c0 := 12) (T_X12_passWord (some i1) M3 M5 hM5) (Nat.le_of_ble_eq_true rfl) (Nat.le_of_ble_eq_true rfl) rfl g_cok12 kk4 yc_X12_passWord ⟨m_1275, m_1277, m_50, m_127, m_1278⟩ d_X12_takesWord_11 rfl (st := []) rfl (Nat.le_of_ble_eq_true rfl) (Nat.le_of_ble_eq_true rfl) (Nat.le_of_ble_eq_true rfl) (st2 := []) rfl ?_
    refine GW_iconst (X := X_X12_takesWord) (pc := 14) (v := 1) d_X12_takesWord_14 (by decide) ?_
    replace h := Option.some.inj h
    subst h
    exact GW_ret (X := X_X12_takesWord) (pc := 15) d_X12_takesWord_15 rfl g_rok1
  · replace h := g_ip c h
    refine GW_iconst (X := X_X12_takesWord) (pc := 8) (v := 0) d_X12_takesWord_8 (by decide) ?_
    replace h := Option.some.inj h
    subst h
    exact GW_ret (X := X_X12_takesWord) (pc := 9) d_X12_takesWord_9 rfl g_rok0
def F_X12_takesWord (l0 : Option Nat) (l1 : Int64) (M : gM) : Option (Int32 × gM) := F_X12_takesWord_b0 l0 l1 M
theorem T_X12_takesWord (l0 : Option Nat) (l1 : Int64) (M : gM) (r : (Int32 × gM)) (h : F_X12_takesWord l0 l1 M = some r) : g_Met 2 0 0 yX12_takesWord X_X12_takesWord [vr l0, vl l1] M (some (vi r.1), r.2) :=
  g_Met_of pn_RX12 rfl (Nat.le_of_ble_eq_true rfl) (fun h => by cases h) (GW_sub [0, 1] rfl (T_X12_takesWord_b0 r l0 l1 M h))
/-! ForgetHeirsModel.opens(I)Z -/
theorem d_X12_opens_0 : decode cX12_opens 0 = .ok (.aload_n 0, 1) := by decide +kernel
theorem d_X12_opens_1 : decode cX12_opens 1 = .ok (.getfield 156, 3) := by decide +kernel
theorem d_X12_opens_4 : decode cX12_opens 4 = .ok (.bipush 10, 2) := by decide +kernel
theorem d_X12_opens_6 : decode cX12_opens 6 = .ok (.if_icmp .ne 13, 3) := by decide +kernel
theorem d_X12_opens_9 : decode cX12_opens 9 = .ok (.aload_n 0, 1) := by decide +kernel
theorem d_X12_opens_10 : decode cX12_opens 10 = .ok (.iconst 2, 1) := by decide +kernel
theorem d_X12_opens_11 : decode cX12_opens 11 = .ok (.aload_n 0, 1) := by decide +kernel
theorem d_X12_opens_12 : decode cX12_opens 12 = .ok (.getfield 90, 3) := by decide +kernel
theorem d_X12_opens_15 : decode cX12_opens 15 = .ok (.invokevirtual 111, 3) := by decide +kernel
theorem d_X12_opens_18 : decode cX12_opens 18 = .ok (.ireturn, 1) := by decide +kernel
theorem d_X12_opens_19 : decode cX12_opens 19 = .ok (.aload_n 0, 1) := by decide +kernel
theorem d_X12_opens_20 : decode cX12_opens 20 = .ok (.dup, 1) := by decide +kernel
theorem d_X12_opens_21 : decode cX12_opens 21 = .ok (.getfield 156, 3) := by decide +kernel
theorem d_X12_opens_24 : decode cX12_opens 24 = .ok (.iconst 1, 1) := by decide +kernel
theorem d_X12_opens_25 : decode cX12_opens 25 = .ok (.iadd, 1) := by decide +kernel
theorem d_X12_opens_26 : decode cX12_opens 26 = .ok (.putfield 156, 3) := by decide +kernel
theorem d_X12_opens_29 : decode cX12_opens 29 = .ok (.aload_n 0, 1) := by decide +kernel
theorem d_X12_opens_30 : decode cX12_opens 30 = .ok (.getfield 29, 3) := by decide +kernel
theorem d_X12_opens_33 : decode cX12_opens 33 = .ok (.aload_n 0, 1) := by decide +kernel
theorem d_X12_opens_34 : decode cX12_opens 34 = .ok (.getfield 159, 3) := by decide +kernel
theorem d_X12_opens_37 : decode cX12_opens 37 = .ok (.iload_n 1, 1) := by decide +kernel
theorem d_X12_opens_38 : decode cX12_opens 38 = .ok (.iastore, 1) := by decide +kernel
theorem d_X12_opens_39 : decode cX12_opens 39 = .ok (.aload_n 0, 1) := by decide +kernel
theorem d_X12_opens_40 : decode cX12_opens 40 = .ok (.dup, 1) := by decide +kernel
theorem d_X12_opens_41 : decode cX12_opens 41 = .ok (.getfield 159, 3) := by decide +kernel
theorem d_X12_opens_44 : decode cX12_opens 44 = .ok (.iconst 1, 1) := by decide +kernel
theorem d_X12_opens_45 : decode cX12_opens 45 = .ok (.iadd, 1) := by decide +kernel
theorem d_X12_opens_46 : decode cX12_opens 46 = .ok (.putfield 159, 3) := by decide +kernel
theorem d_X12_opens_49 : decode cX12_opens 49 = .ok (.iconst 1, 1) := by decide +kernel
theorem d_X12_opens_50 : decode cX12_opens 50 = .ok (.ireturn, 1) := by decide +kernel
abbrev X_X12_opens : gX := (RX12, cX12_opens, 2, (some .boolean), false)
def F_X12_opens_b0 (l0 : Option Nat) (l1 : Int32) (M : gM) : Option (Int32 × gM) :=
  (gI 12 M l0 13).bind fun v1 => if v1 = (10 : Int32) then ((gI 12 M l0 8).bind fun v9 => (gO 12 M l0).bind fun i10 => (F_X12_fails (some i10) (2 : Int32) v9 M).bind fun (v11, M12) => if v11 = 0 ∨ v11 = 1 then some (v11, M12) else none) else ((gI 12 M l0 13).bind fun v2 => (pI 12 M l0 13 (v2 + (1 : Int32))).bind fun M3 => (gR 12 M3 l0 15).bind fun v4 => (gI 12 M3 l0 16).bind fun v5 => (sI M3 v4 v5 l1).bind fun M6 => (gI 12 M6 l0 16).bind fun v7 => (pI 12 M6 l0 16 (v7 + (1 : Int32))).bind fun M8 => some ((1 : Int32), M8))
set_option maxHeartbeats 1000000 in
theorem T_X12_opens_b0 (r : (Int32 × gM)) (l0 : Option Nat) (l1 : Int32) (M : gM) (h : F_X12_opens_b0 l0 l1 M = some r) : GW 1 0 0 X_X12_opens 0 [(0, vr l0), (1, vi l1)] [] M (some (vi r.1), r.2) := by
  delta F_X12_opens_b0 at h
  refine GW_aload_n (X := X_X12_opens) (pc := 0) d_X12_opens_0 rfl 0 rfl ?_
  replace h := g_bd h
  obtain ⟨v1, hv1, h⟩ := h
  refine GW_getI (X := X_X12_opens) (pc := 1) f_X12_156 d_X12_opens_1 hv1 (Or.inl ty_12_13) ?_
  refine GW_bipush (X := X_X12_opens) (pc := 4) (v := 10) d_X12_opens_4 (by decide) ?_
  refine GW_icmp_ne (X := X_X12_opens) (pc := 6) 19 d_X12_opens_6 (by decide) (fun c => ?_) (fun c => ?_)
  · replace h := g_ie c h
    refine GW_aload_n (X := X_X12_opens) (pc := 19) d_X12_opens_19 rfl 0 rfl ?_
    refine GW_dup (X := X_X12_opens) (pc := 20) d_X12_opens_20 rfl ?_
    replace h := g_bd h
    obtain ⟨v2, hv2, h⟩ := h
    refine GW_getI (X := X_X12_opens) (pc := 21) f_X12_156 d_X12_opens_21 hv2 (Or.inl ty_12_13) ?_
    refine GW_iconst (X := X_X12_opens) (pc := 24) (v := 1) d_X12_opens_24 (by decide) ?_
    refine GW_iadd (X := X_X12_opens) (pc := 25) d_X12_opens_25 ?_
    replace h := g_bd h
    obtain ⟨M3, hM3, h⟩ := h
    refine GW_putI (X := X_X12_opens) (pc := 26) f_X12_156 d_X12_opens_26 hM3 (Or.inl fi_12_13) (Or.inl ty_12_13) ?_
    refine GW_aload_n (X := X_X12_opens) (pc := 29) d_X12_opens_29 rfl 0 rfl ?_
    replace h := g_bd h
    obtain ⟨v4, hv4, h⟩ := h
    refine GW_getR (X := X_X12_opens) (pc := 30) f_X12_29 d_X12_opens_30 hv4 (Or.inr ⟨_, ty_12_15⟩) ?_
    refine GW_aload_n (X := X_X12_opens) (pc := 33) d_X12_opens_33 rfl 0 rfl ?_
    replace h := g_bd h
    obtain ⟨v5, hv5, h⟩ := h
    refine GW_getI (X := X_X12_opens) (pc := 34) f_X12_159 d_X12_opens_34 hv5 (Or.inl ty_12_16) ?_
    refine GW_iload_n (X := X_X12_opens) (pc := 37) d_X12_opens_37 rfl 1 rfl ?_
    replace h := g_bd h
    obtain ⟨M6, hM6, h⟩ := h
    refine GW_iast (X := X_X12_opens) (pc := 38) d_X12_opens_38 hM6 ?_
    refine GW_aload_n (X := X_X12_opens) (pc := 39) d_X12_opens_39 rfl 0 rfl ?_
    refine GW_dup (X := X_X12_opens) (pc := 40) d_X12_opens_40 rfl ?_
    replace h := g_bd h
    obtain ⟨v7, hv7, h⟩ := h
    refine GW_getI (X := X_X12_opens) (pc := 41) f_X12_159 d_X12_opens_41 hv7 (Or.inl ty_12_16) ?_
    refine GW_iconst (X := X_X12_opens) (pc := 44) (v := 1) d_X12_opens_44 (by decide) ?_
    refine GW_iadd (X := X_X12_opens) (pc := 45) d_X12_opens_45 ?_
    replace h := g_bd h
    obtain ⟨M8, hM8, h⟩ := h
    refine GW_putI (X := X_X12_opens) (pc := 46) f_X12_159 d_X12_opens_46 hM8 (Or.inl fi_12_16) (Or.inl ty_12_16) ?_
    refine GW_iconst (X := X_X12_opens) (pc := 49) (v := 1) d_X12_opens_49 (by decide) ?_
    replace h := Option.some.inj h
    subst h
    exact GW_ret (X := X_X12_opens) (pc := 50) d_X12_opens_50 rfl g_rok1
  · replace h := g_ip c h
    refine GW_aload_n (X := X_X12_opens) (pc := 9) d_X12_opens_9 rfl 0 rfl ?_
    refine GW_iconst (X := X_X12_opens) (pc := 10) (v := 2) d_X12_opens_10 (by decide) ?_
    refine GW_aload_n (X := X_X12_opens) (pc := 11) d_X12_opens_11 rfl 0 rfl ?_
    replace h := g_bd h
    obtain ⟨v9, hv9, h⟩ := h
    refine GW_getI (X := X_X12_opens) (pc := 12) f_X12_90 d_X12_opens_12 hv9 (Or.inl ty_12_8) ?_
    replace h := g_bd h
    obtain ⟨i10, hi10, h⟩ := h
    obtain ⟨rfl, ki10⟩ := g_gO hi10
    replace h := g_bd h
    obtain ⟨⟨v11, M12⟩, hv11, h⟩ := h
    dsimp only at h
    refine GW_callV (X := X_X12_opens) (pc := 15) (bc0 := 0) (bs0 := 0) (r := some (vi v11)) (M2 := M12) (c0 := 12) (T_X12_fails (some i10) (2 : Int32) v9 M (v11, M12) hv11) (Nat.le_of_ble_eq_true rfl) (Nat.le_of_ble_eq_true rfl) rfl g_cok12 ki10 yc_X12_fails ⟨m_1263, m_1265, m_47, m_127, m_1266⟩ d_X12_opens_15 rfl (st := []) rfl (Nat.le_of_ble_eq_true rfl) (Nat.le_of_ble_eq_true rfl) (Nat.le_of_ble_eq_true rfl) (st2 := [vi v11]) rfl ?_
    replace h := g_if2 h
    obtain ⟨hz13, h⟩ := h
    replace h := Option.some.inj h
    subst h
    exact GW_ret (X := X_X12_opens) (pc := 18) d_X12_opens_18 rfl (g_zok hz13)
def F_X12_opens (l0 : Option Nat) (l1 : Int32) (M : gM) : Option (Int32 × gM) := F_X12_opens_b0 l0 l1 M
theorem T_X12_opens (l0 : Option Nat) (l1 : Int32) (M : gM) (r : (Int32 × gM)) (h : F_X12_opens l0 l1 M = some r) : g_Met 1 0 0 yX12_opens X_X12_opens [vr l0, vi l1] M (some (vi r.1), r.2) :=
  g_Met_of pn_RX12 rfl (Nat.le_of_ble_eq_true rfl) (fun h => by cases h) (GW_sub [0, 1] rfl (T_X12_opens_b0 r l0 l1 M h))
/-! ForgetHeirsModel.compare()Z -/
theorem d_X12_compare_0 : decode cX12_compare 0 = .ok (.aload_n 0, 1) := by decide +kernel
theorem d_X12_compare_1 : decode cX12_compare 1 = .ok (.invokevirtual 187, 3) := by decide +kernel
theorem d_X12_compare_4 : decode cX12_compare 4 = .ok (.ifCond .ne 5, 3) := by decide +kernel
theorem d_X12_compare_7 : decode cX12_compare 7 = .ok (.iconst 0, 1) := by decide +kernel
theorem d_X12_compare_8 : decode cX12_compare 8 = .ok (.ireturn, 1) := by decide +kernel
theorem d_X12_compare_9 : decode cX12_compare 9 = .ok (.aload_n 0, 1) := by decide +kernel
theorem d_X12_compare_10 : decode cX12_compare 10 = .ok (.invokevirtual 93, 3) := by decide +kernel
theorem d_X12_compare_13 : decode cX12_compare 13 = .ok (.istore_n 1, 1) := by decide +kernel
theorem d_X12_compare_14 : decode cX12_compare 14 = .ok (.aload_n 0, 1) := by decide +kernel
theorem d_X12_compare_15 : decode cX12_compare 15 = .ok (.getfield 90, 3) := by decide +kernel
theorem d_X12_compare_18 : decode cX12_compare 18 = .ok (.istore_n 2, 1) := by decide +kernel
theorem d_X12_compare_19 : decode cX12_compare 19 = .ok (.iload_n 1, 1) := by decide +kernel
theorem d_X12_compare_20 : decode cX12_compare 20 = .ok (.bipush 60, 2) := by decide +kernel
theorem d_X12_compare_22 : decode cX12_compare 22 = .ok (.if_icmp .eq 22, 3) := by decide +kernel
theorem d_X12_compare_25 : decode cX12_compare 25 = .ok (.iload_n 1, 1) := by decide +kernel
theorem d_X12_compare_26 : decode cX12_compare 26 = .ok (.bipush 61, 2) := by decide +kernel
theorem d_X12_compare_28 : decode cX12_compare 28 = .ok (.if_icmp .eq 16, 3) := by decide +kernel
theorem d_X12_compare_31 : decode cX12_compare 31 = .ok (.iload_n 1, 1) := by decide +kernel
theorem d_X12_compare_32 : decode cX12_compare 32 = .ok (.bipush 62, 2) := by decide +kernel
theorem d_X12_compare_34 : decode cX12_compare 34 = .ok (.if_icmp .eq 10, 3) := by decide +kernel
theorem d_X12_compare_37 : decode cX12_compare 37 = .ok (.aload_n 0, 1) := by decide +kernel
theorem d_X12_compare_38 : decode cX12_compare 38 = .ok (.iconst 0, 1) := by decide +kernel
theorem d_X12_compare_39 : decode cX12_compare 39 = .ok (.iload_n 2, 1) := by decide +kernel
theorem d_X12_compare_40 : decode cX12_compare 40 = .ok (.invokevirtual 111, 3) := by decide +kernel
theorem d_X12_compare_43 : decode cX12_compare 43 = .ok (.ireturn, 1) := by decide +kernel
theorem d_X12_compare_44 : decode cX12_compare 44 = .ok (.aload_n 0, 1) := by decide +kernel
theorem d_X12_compare_45 : decode cX12_compare 45 = .ok (.dup, 1) := by decide +kernel
theorem d_X12_compare_46 : decode cX12_compare 46 = .ok (.getfield 90, 3) := by decide +kernel
theorem d_X12_compare_49 : decode cX12_compare 49 = .ok (.iconst 1, 1) := by decide +kernel
theorem d_X12_compare_50 : decode cX12_compare 50 = .ok (.iadd, 1) := by decide +kernel
theorem d_X12_compare_51 : decode cX12_compare 51 = .ok (.putfield 90, 3) := by decide +kernel
theorem d_X12_compare_54 : decode cX12_compare 54 = .ok (.iload_n 1, 1) := by decide +kernel
theorem d_X12_compare_55 : decode cX12_compare 55 = .ok (.bipush 61, 2) := by decide +kernel
theorem d_X12_compare_57 : decode cX12_compare 57 = .ok (.if_icmp .eq 32, 3) := by decide +kernel
theorem d_X12_compare_60 : decode cX12_compare 60 = .ok (.aload_n 0, 1) := by decide +kernel
theorem d_X12_compare_61 : decode cX12_compare 61 = .ok (.getfield 90, 3) := by decide +kernel
theorem d_X12_compare_64 : decode cX12_compare 64 = .ok (.aload_n 0, 1) := by decide +kernel
theorem d_X12_compare_65 : decode cX12_compare 65 = .ok (.getfield 80, 3) := by decide +kernel
theorem d_X12_compare_68 : decode cX12_compare 68 = .ok (.if_icmp .ge 21, 3) := by decide +kernel
theorem d_X12_compare_71 : decode cX12_compare 71 = .ok (.aload_n 0, 1) := by decide +kernel
theorem d_X12_compare_72 : decode cX12_compare 72 = .ok (.getfield 7, 3) := by decide +kernel
theorem d_X12_compare_75 : decode cX12_compare 75 = .ok (.aload_n 0, 1) := by decide +kernel
theorem d_X12_compare_76 : decode cX12_compare 76 = .ok (.getfield 90, 3) := by decide +kernel
theorem d_X12_compare_79 : decode cX12_compare 79 = .ok (.baload, 1) := by decide +kernel
theorem d_X12_compare_80 : decode cX12_compare 80 = .ok (.bipush 61, 2) := by decide +kernel
theorem d_X12_compare_82 : decode cX12_compare 82 = .ok (.if_icmp .ne 7, 3) := by decide +kernel
theorem d_X12_compare_85 : decode cX12_compare 85 = .ok (.iconst 1, 1) := by decide +kernel
theorem d_X12_compare_86 : decode cX12_compare 86 = .ok (.goto 4, 3) := by decide +kernel
theorem d_X12_compare_89 : decode cX12_compare 89 = .ok (.iconst 0, 1) := by decide +kernel
theorem d_X12_compare_90 : decode cX12_compare 90 = .ok (.istore_n 3, 1) := by decide +kernel
theorem d_X12_compare_91 : decode cX12_compare 91 = .ok (.iload_n 3, 1) := by decide +kernel
theorem d_X12_compare_92 : decode cX12_compare 92 = .ok (.ifCond .eq 13, 3) := by decide +kernel
theorem d_X12_compare_95 : decode cX12_compare 95 = .ok (.aload_n 0, 1) := by decide +kernel
theorem d_X12_compare_96 : decode cX12_compare 96 = .ok (.dup, 1) := by decide +kernel
theorem d_X12_compare_97 : decode cX12_compare 97 = .ok (.getfield 90, 3) := by decide +kernel
theorem d_X12_compare_100 : decode cX12_compare 100 = .ok (.iconst 1, 1) := by decide +kernel
theorem d_X12_compare_101 : decode cX12_compare 101 = .ok (.iadd, 1) := by decide +kernel
theorem d_X12_compare_102 : decode cX12_compare 102 = .ok (.putfield 90, 3) := by decide +kernel
theorem d_X12_compare_105 : decode cX12_compare 105 = .ok (.aload_n 0, 1) := by decide +kernel
theorem d_X12_compare_106 : decode cX12_compare 106 = .ok (.iload_n 2, 1) := by decide +kernel
theorem d_X12_compare_107 : decode cX12_compare 107 = .ok (.invokevirtual 174, 3) := by decide +kernel
theorem d_X12_compare_110 : decode cX12_compare 110 = .ok (.ifCond .ne 5, 3) := by decide +kernel
theorem d_X12_compare_113 : decode cX12_compare 113 = .ok (.iconst 0, 1) := by decide +kernel
theorem d_X12_compare_114 : decode cX12_compare 114 = .ok (.ireturn, 1) := by decide +kernel
theorem d_X12_compare_115 : decode cX12_compare 115 = .ok (.iload_n 1, 1) := by decide +kernel
theorem d_X12_compare_116 : decode cX12_compare 116 = .ok (.bipush 60, 2) := by decide +kernel
theorem d_X12_compare_118 : decode cX12_compare 118 = .ok (.if_icmp .ne 15, 3) := by decide +kernel
theorem d_X12_compare_121 : decode cX12_compare 121 = .ok (.iload_n 3, 1) := by decide +kernel
theorem d_X12_compare_122 : decode cX12_compare 122 = .ok (.ifCond .eq 7, 3) := by decide +kernel
theorem d_X12_compare_125 : decode cX12_compare 125 = .ok (.iconst 1, 1) := by decide +kernel
theorem d_X12_compare_126 : decode cX12_compare 126 = .ok (.goto 26, 3) := by decide +kernel
theorem d_X12_compare_129 : decode cX12_compare 129 = .ok (.iconst 0, 1) := by decide +kernel
theorem d_X12_compare_130 : decode cX12_compare 130 = .ok (.goto 22, 3) := by decide +kernel
theorem d_X12_compare_133 : decode cX12_compare 133 = .ok (.iload_n 1, 1) := by decide +kernel
theorem d_X12_compare_134 : decode cX12_compare 134 = .ok (.bipush 61, 2) := by decide +kernel
theorem d_X12_compare_136 : decode cX12_compare 136 = .ok (.if_icmp .ne 7, 3) := by decide +kernel
theorem d_X12_compare_139 : decode cX12_compare 139 = .ok (.iconst 2, 1) := by decide +kernel
theorem d_X12_compare_140 : decode cX12_compare 140 = .ok (.goto 12, 3) := by decide +kernel
theorem d_X12_compare_143 : decode cX12_compare 143 = .ok (.iload_n 3, 1) := by decide +kernel
theorem d_X12_compare_144 : decode cX12_compare 144 = .ok (.ifCond .eq 7, 3) := by decide +kernel
theorem d_X12_compare_147 : decode cX12_compare 147 = .ok (.iconst 3, 1) := by decide +kernel
theorem d_X12_compare_148 : decode cX12_compare 148 = .ok (.goto 4, 3) := by decide +kernel
theorem d_X12_compare_151 : decode cX12_compare 151 = .ok (.iconst 4, 1) := by decide +kernel
theorem d_X12_compare_152 : decode cX12_compare 152 = .ok (.istore 4, 2) := by decide +kernel
theorem d_X12_compare_154 : decode cX12_compare 154 = .ok (.aload_n 0, 1) := by decide +kernel
theorem d_X12_compare_155 : decode cX12_compare 155 = .ok (.invokevirtual 187, 3) := by decide +kernel
theorem d_X12_compare_158 : decode cX12_compare 158 = .ok (.ifCond .ne 5, 3) := by decide +kernel
theorem d_X12_compare_161 : decode cX12_compare 161 = .ok (.iconst 0, 1) := by decide +kernel
theorem d_X12_compare_162 : decode cX12_compare 162 = .ok (.ireturn, 1) := by decide +kernel
theorem d_X12_compare_163 : decode cX12_compare 163 = .ok (.aload_n 0, 1) := by decide +kernel
theorem d_X12_compare_164 : decode cX12_compare 164 = .ok (.bipush 6, 2) := by decide +kernel
theorem d_X12_compare_166 : decode cX12_compare 166 = .ok (.iload 4, 2) := by decide +kernel
theorem d_X12_compare_168 : decode cX12_compare 168 = .ok (.iadd, 1) := by decide +kernel
theorem d_X12_compare_169 : decode cX12_compare 169 = .ok (.iconst 0, 1) := by decide +kernel
theorem d_X12_compare_170 : decode cX12_compare 170 = .ok (.invokevirtual 166, 3) := by decide +kernel
theorem d_X12_compare_173 : decode cX12_compare 173 = .ok (.iconst 1, 1) := by decide +kernel
theorem d_X12_compare_174 : decode cX12_compare 174 = .ok (.ireturn, 1) := by decide +kernel
abbrev X_X12_compare : gX := (RX12, cX12_compare, 5, (some .boolean), false)
def F_X12_compare_b152 (l0 : Option Nat) (s0 : Int32) (M : gM) : Option (Int32 × gM) :=
  (gO 12 M l0).bind fun i1 => (F_X12_sum (some i1) M).bind fun (v2, M3) => if v2 = 0 then (some ((0 : Int32), M3)) else ((gC 12 M3 i1).bind fun _ => (F_X12_puts (some i1) ((6 : Int32) + s0) (0 : Int32) M3).bind fun M5 => some ((1 : Int32), M5))
theorem T_X12_compare_b152 (r : (Int32 × gM)) (l0 : Option Nat) (s0 : Int32) (M : gM) (h : F_X12_compare_b152 l0 s0 M = some r) : GW 6 0 0 X_X12_compare 152 [(0, vr l0)] [vi s0] M (some (vi r.1), r.2) := by
  delta F_X12_compare_b152 at h
  refine GW_istore (X := X_X12_compare) (pc := 152) d_X12_compare_152 (Nat.le_of_ble_eq_true rfl) (lv2 := [(4, vi s0), (0, vr l0)]) rfl ?_
  refine GW_aload_n (X := X_X12_compare) (pc := 154) d_X12_compare_154 rfl 1 rfl ?_
  replace h := g_bd h
  obtain ⟨i1, hi1, h⟩ := h
  obtain ⟨rfl, ki1⟩ := g_gO hi1
  replace h := g_bd h
  obtain ⟨⟨v2, M3⟩, hv2, h⟩ := h
  dsimp only at h
  refine GW_callV (X := X_X12_compare) (pc := 155) (bc0 := 0) (bs0 := 0) (r := some (vi v2)) (M2 := M3) (c0 := 12) (T_X12_sum (some i1) M (v2, M3) hv2) (Nat.le_of_ble_eq_true rfl) (Nat.le_of_ble_eq_true rfl) rfl g_cok12 ki1 yc_X12_sum ⟨m_1325, m_1327, m_61, m_127, m_1328⟩ d_X12_compare_155 rfl (st := []) rfl (Nat.le_of_ble_eq_true rfl) (Nat.le_of_ble_eq_true rfl) (Nat.le_of_ble_eq_true rfl) (st2 := [vi v2]) rfl ?_
  refine GW_if_ne (X := X_X12_compare) (pc := 158) 163 d_X12_compare_158 (by decide) (fun c => ?_) (fun c => ?_)
  · replace h := g_ie c h
    refine GW_aload_n (X := X_X12_compare) (pc := 163) d_X12_compare_163 rfl 1 rfl ?_
    refine GW_bipush (X := X_X12_compare) (pc := 164) (v := 6) d_X12_compare_164 (by decide) ?_
    refine GW_iload (X := X_X12_compare) (pc := 166) d_X12_compare_166 0 rfl ?_
    refine GW_iadd (X := X_X12_compare) (pc := 168) d_X12_compare_168 ?_
    refine GW_iconst (X := X_X12_compare) (pc := 169) (v := 0) d_X12_compare_169 (by decide) ?_
    replace h := g_bd h
    obtain ⟨_, kk4, h⟩ := h
    replace kk4 := g_gC kk4
    replace h := g_bd h
    obtain ⟨M5, hM5, h⟩ := h
    refine GW_callV (X := X_X12_compare) (pc := 170) (bc0 := 0) (bs0 := 0) (r := none) (M2 := M5) (c0 := 12) (T_X12_puts (some i1) ((6 : Int32) + s0) (0 : Int32) M3 M5 hM5) (Nat.le_of_ble_eq_true rfl) (Nat.le_of_ble_eq_true rfl) rfl g_cok12 kk4 yc_X12_puts ⟨m_1342, m_1344, m_65, m_127, m_1345⟩ d_X12_compare_170 rfl (st := []) rfl (Nat.le_of_ble_eq_true rfl) (Nat.le_of_ble_eq_true rfl) (Nat.le_of_ble_eq_true rfl) (st2 := []) rfl ?_
    refine GW_iconst (X := X_X12_compare) (pc := 173) (v := 1) d_X12_compare_173 (by decide) ?_
    replace h := Option.some.inj h
    subst h
    exact GW_ret (X := X_X12_compare) (pc := 174) d_X12_compare_174 rfl g_rok1
  · replace h := g_ip c h
    refine GW_iconst (X := X_X12_compare) (pc := 161) (v := 0) d_X12_compare_161 (by decide) ?_
    replace h := Option.some.inj h
    subst h
    exact GW_ret (X := X_X12_compare) (pc := 162) d_X12_compare_162 rfl g_rok0
def F_X12_compare_b105 (l0 : Option Nat) (l1 : Int32) (l2 : Int32) (l3 : Int32) (M : gM) : Option (Int32 × gM) :=
  (gO 12 M l0).bind fun i1 => (F_X12_makes (some i1) l2 M).bind fun (v2, M3) => if v2 = 0 then (some ((0 : Int32), M3)) else (if l1 = (60 : Int32) then (if l3 = 0 then (F_X12_compare_b152 (some i1) (0 : Int32) M3) else (F_X12_compare_b152 (some i1) (1 : Int32) M3)) else (if l1 = (61 : Int32) then (F_X12_compare_b152 (some i1) (2 : Int32) M3) else (if l3 = 0 then (F_X12_compare_b152 (some i1) (4 : Int32) M3) else (F_X12_compare_b152 (some i1) (3 : Int32) M3))))
set_option maxHeartbeats 1000000 in
theorem T_X12_compare_b105 (r : (Int32 × gM)) (l0 : Option Nat) (l1 : Int32) (l2 : Int32) (l3 : Int32) (M : gM) (h : F_X12_compare_b105 l0 l1 l2 l3 M = some r) : GW 6 0 0 X_X12_compare 105 [(0, vr l0), (1, vi l1), (2, vi l2), (3, vi l3)] [] M (some (vi r.1), r.2) := by
  delta F_X12_compare_b105 at h
  refine GW_aload_n (X := X_X12_compare) (pc := 105) d_X12_compare_105 rfl 0 rfl ?_
  refine GW_iload_n (X := X_X12_compare) (pc := 106) d_X12_compare_106 rfl 2 rfl ?_
  replace h := g_bd h
  obtain ⟨i1, hi1, h⟩ := h
  obtain ⟨rfl, ki1⟩ := g_gO hi1
  replace h := g_bd h
  obtain ⟨⟨v2, M3⟩, hv2, h⟩ := h
  dsimp only at h
  refine GW_callV (X := X_X12_compare) (pc := 107) (bc0 := 0) (bs0 := 0) (r := some (vi v2)) (M2 := M3) (c0 := 12) (T_X12_makes (some i1) l2 M (v2, M3) hv2) (Nat.le_of_ble_eq_true rfl) (Nat.le_of_ble_eq_true rfl) rfl g_cok12 ki1 yc_X12_makes ⟨m_1338, m_1340, m_64, m_127, m_1341⟩ d_X12_compare_107 rfl (st := []) rfl (Nat.le_of_ble_eq_true rfl) (Nat.le_of_ble_eq_true rfl) (Nat.le_of_ble_eq_true rfl) (st2 := [vi v2]) rfl ?_
  refine GW_if_ne (X := X_X12_compare) (pc := 110) 115 d_X12_compare_110 (by decide) (fun c => ?_) (fun c => ?_)
  · replace h := g_ie c h
    refine GW_iload_n (X := X_X12_compare) (pc := 115) d_X12_compare_115 rfl 1 rfl ?_
    refine GW_bipush (X := X_X12_compare) (pc := 116) (v := 60) d_X12_compare_116 (by decide) ?_
    refine GW_icmp_ne (X := X_X12_compare) (pc := 118) 133 d_X12_compare_118 (by decide) (fun c => ?_) (fun c => ?_)
    · replace h := g_ie c h
      refine GW_iload_n (X := X_X12_compare) (pc := 133) d_X12_compare_133 rfl 1 rfl ?_
      refine GW_bipush (X := X_X12_compare) (pc := 134) (v := 61) d_X12_compare_134 (by decide) ?_
      refine GW_icmp_ne (X := X_X12_compare) (pc := 136) 143 d_X12_compare_136 (by decide) (fun c => ?_) (fun c => ?_)
      · replace h := g_ie c h
        refine GW_iload_n (X := X_X12_compare) (pc := 143) d_X12_compare_143 rfl 3 rfl ?_
        refine GW_if_eq (X := X_X12_compare) (pc := 144) 151 d_X12_compare_144 (by decide) (fun c => ?_) (fun c => ?_)
        · replace h := g_ip c h
          refine GW_iconst (X := X_X12_compare) (pc := 151) (v := 4) d_X12_compare_151 (by decide) ?_
          refine GW_sub [0] rfl ?_
          exact T_X12_compare_b152 r (some i1) (4 : Int32) M3 h
        · replace h := g_ie c h
          refine GW_iconst (X := X_X12_compare) (pc := 147) (v := 3) d_X12_compare_147 (by decide) ?_
          refine GW_goto (X := X_X12_compare) (pc := 148) 152 d_X12_compare_148 (by decide) ?_
          refine GW_sub [0] rfl ?_
          exact T_X12_compare_b152 r (some i1) (3 : Int32) M3 h
      · replace h := g_ip c h
        refine GW_iconst (X := X_X12_compare) (pc := 139) (v := 2) d_X12_compare_139 (by decide) ?_
        refine GW_goto (X := X_X12_compare) (pc := 140) 152 d_X12_compare_140 (by decide) ?_
        refine GW_sub [0] rfl ?_
        exact T_X12_compare_b152 r (some i1) (2 : Int32) M3 h
    · replace h := g_ip c h
      refine GW_iload_n (X := X_X12_compare) (pc := 121) d_X12_compare_121 rfl 3 rfl ?_
      refine GW_if_eq (X := X_X12_compare) (pc := 122) 129 d_X12_compare_122 (by decide) (fun c => ?_) (fun c => ?_)
      · replace h := g_ip c h
        refine GW_iconst (X := X_X12_compare) (pc := 129) (v := 0) d_X12_compare_129 (by decide) ?_
        refine GW_goto (X := X_X12_compare) (pc := 130) 152 d_X12_compare_130 (by decide) ?_
        refine GW_sub [0] rfl ?_
        exact T_X12_compare_b152 r (some i1) (0 : Int32) M3 h
      · replace h := g_ie c h
        refine GW_iconst (X := X_X12_compare) (pc := 125) (v := 1) d_X12_compare_125 (by decide) ?_
        refine GW_goto (X := X_X12_compare) (pc := 126) 152 d_X12_compare_126 (by decide) ?_
        refine GW_sub [0] rfl ?_
        exact T_X12_compare_b152 r (some i1) (1 : Int32) M3 h
  · replace h := g_ip c h
    refine GW_iconst (X := X_X12_compare) (pc := 113) (v := 0) d_X12_compare_113 (by decide) ?_
    replace h := Option.some.inj h
    subst h
    exact GW_ret (X := X_X12_compare) (pc := 114) d_X12_compare_114 rfl g_rok0
def F_X12_compare_b90 (l0 : Option Nat) (l1 : Int32) (l2 : Int32) (s0 : Int32) (M : gM) : Option (Int32 × gM) :=
  if s0 = 0 then (F_X12_compare_b105 l0 l1 l2 s0 M) else ((gI 12 M l0 8).bind fun v1 => (pI 12 M l0 8 (v1 + (1 : Int32))).bind fun M2 => F_X12_compare_b105 l0 l1 l2 s0 M2)
theorem T_X12_compare_b90 (r : (Int32 × gM)) (l0 : Option Nat) (l1 : Int32) (l2 : Int32) (s0 : Int32) (M : gM) (h : F_X12_compare_b90 l0 l1 l2 s0 M = some r) : GW 6 0 0 X_X12_compare 90 [(0, vr l0), (1, vi l1), (2, vi l2)] [vi s0] M (some (vi r.1), r.2) := by
  delta F_X12_compare_b90 at h
  refine GW_istore_n (X := X_X12_compare) (pc := 90) d_X12_compare_90 rfl (Nat.le_of_ble_eq_true rfl) (lv2 := [(3, vi s0), (0, vr l0), (1, vi l1), (2, vi l2)]) rfl ?_
  refine GW_iload_n (X := X_X12_compare) (pc := 91) d_X12_compare_91 rfl 0 rfl ?_
  refine GW_if_eq (X := X_X12_compare) (pc := 92) 105 d_X12_compare_92 (by decide) (fun c => ?_) (fun c => ?_)
  · replace h := g_ip c h
    refine GW_sub [1, 2, 3, 0] rfl ?_
    exact T_X12_compare_b105 r l0 l1 l2 s0 M h
  · replace h := g_ie c h
    refine GW_aload_n (X := X_X12_compare) (pc := 95) d_X12_compare_95 rfl 1 rfl ?_
    refine GW_dup (X := X_X12_compare) (pc := 96) d_X12_compare_96 rfl ?_
    replace h := g_bd h
    obtain ⟨v1, hv1, h⟩ := h
    refine GW_getI (X := X_X12_compare) (pc := 97) f_X12_90 d_X12_compare_97 hv1 (Or.inl ty_12_8) ?_
    refine GW_iconst (X := X_X12_compare) (pc := 100) (v := 1) d_X12_compare_100 (by decide) ?_
    refine GW_iadd (X := X_X12_compare) (pc := 101) d_X12_compare_101 ?_
    replace h := g_bd h
    obtain ⟨M2, hM2, h⟩ := h
    refine GW_putI (X := X_X12_compare) (pc := 102) f_X12_90 d_X12_compare_102 hM2 (Or.inl fi_12_8) (Or.inl ty_12_8) ?_
    refine GW_sub [1, 2, 3, 0] rfl ?_
    exact T_X12_compare_b105 r l0 l1 l2 s0 M2 h
def F_X12_compare_b89 (l0 : Option Nat) (l1 : Int32) (l2 : Int32) (M : gM) : Option (Int32 × gM) :=
  F_X12_compare_b90 l0 l1 l2 (0 : Int32) M
theorem T_X12_compare_b89 (r : (Int32 × gM)) (l0 : Option Nat) (l1 : Int32) (l2 : Int32) (M : gM) (h : F_X12_compare_b89 l0 l1 l2 M = some r) : GW 6 0 0 X_X12_compare 89 [(0, vr l0), (1, vi l1), (2, vi l2)] [] M (some (vi r.1), r.2) := by
  delta F_X12_compare_b89 at h
  refine GW_iconst (X := X_X12_compare) (pc := 89) (v := 0) d_X12_compare_89 (by decide) ?_
  exact T_X12_compare_b90 r l0 l1 l2 (0 : Int32) M h
def F_X12_compare_b44 (l0 : Option Nat) (l1 : Int32) (l2 : Int32) (M : gM) : Option (Int32 × gM) :=
  (gI 12 M l0 8).bind fun v1 => (pI 12 M l0 8 (v1 + (1 : Int32))).bind fun M2 => if l1 = (61 : Int32) then (F_X12_compare_b89 l0 l1 l2 M2) else ((gI 12 M2 l0 8).bind fun v3 => (gI 12 M2 l0 1).bind fun v4 => if v4 ≤ v3 then (F_X12_compare_b89 l0 l1 l2 M2) else ((gR 12 M2 l0 0).bind fun v5 => (gI 12 M2 l0 8).bind fun v6 => (aI 22 M2 v5 v6).bind fun v7 => if v7 = (61 : Int32) then (F_X12_compare_b90 l0 l1 l2 (1 : Int32) M2) else (F_X12_compare_b89 l0 l1 l2 M2)))
set_option maxHeartbeats 1000000 in
theorem T_X12_compare_b44 (r : (Int32 × gM)) (l0 : Option Nat) (l1 : Int32) (l2 : Int32) (M : gM) (h : F_X12_compare_b44 l0 l1 l2 M = some r) : GW 6 0 0 X_X12_compare 44 [(0, vr l0), (1, vi l1), (2, vi l2)] [] M (some (vi r.1), r.2) := by
  delta F_X12_compare_b44 at h
  refine GW_aload_n (X := X_X12_compare) (pc := 44) d_X12_compare_44 rfl 0 rfl ?_
  refine GW_dup (X := X_X12_compare) (pc := 45) d_X12_compare_45 rfl ?_
  replace h := g_bd h
  obtain ⟨v1, hv1, h⟩ := h
  refine GW_getI (X := X_X12_compare) (pc := 46) f_X12_90 d_X12_compare_46 hv1 (Or.inl ty_12_8) ?_
  refine GW_iconst (X := X_X12_compare) (pc := 49) (v := 1) d_X12_compare_49 (by decide) ?_
  refine GW_iadd (X := X_X12_compare) (pc := 50) d_X12_compare_50 ?_
  replace h := g_bd h
  obtain ⟨M2, hM2, h⟩ := h
  refine GW_putI (X := X_X12_compare) (pc := 51) f_X12_90 d_X12_compare_51 hM2 (Or.inl fi_12_8) (Or.inl ty_12_8) ?_
  refine GW_iload_n (X := X_X12_compare) (pc := 54) d_X12_compare_54 rfl 1 rfl ?_
  refine GW_bipush (X := X_X12_compare) (pc := 55) (v := 61) d_X12_compare_55 (by decide) ?_
  refine GW_icmp_eq (X := X_X12_compare) (pc := 57) 89 d_X12_compare_57 (by decide) (fun c => ?_) (fun c => ?_)
  · replace h := g_ip c h
    exact T_X12_compare_b89 r l0 l1 l2 M2 h
  · replace h := g_ie c h
    refine GW_aload_n (X := X_X12_compare) (pc := 60) d_X12_compare_60 rfl 0 rfl ?_
    replace h := g_bd h
    obtain ⟨v3, hv3, h⟩ := h
    refine GW_getI (X := X_X12_compare) (pc := 61) f_X12_90 d_X12_compare_61 hv3 (Or.inl ty_12_8) ?_
    refine GW_aload_n (X := X_X12_compare) (pc := 64) d_X12_compare_64 rfl 0 rfl ?_
    replace h := g_bd h
    obtain ⟨v4, hv4, h⟩ := h
    refine GW_getI (X := X_X12_compare) (pc := 65) f_X12_80 d_X12_compare_65 hv4 (Or.inl ty_12_1) ?_
    refine GW_icmp_ge (X := X_X12_compare) (pc := 68) 89 d_X12_compare_68 (by decide) (fun c => ?_) (fun c => ?_)
    · replace h := g_ip c h
      exact T_X12_compare_b89 r l0 l1 l2 M2 h
    · replace h := g_ie c h
      refine GW_aload_n (X := X_X12_compare) (pc := 71) d_X12_compare_71 rfl 0 rfl ?_
      replace h := g_bd h
      obtain ⟨v5, hv5, h⟩ := h
      refine GW_getR (X := X_X12_compare) (pc := 72) f_X12_7 d_X12_compare_72 hv5 (Or.inr ⟨_, ty_12_0⟩) ?_
      refine GW_aload_n (X := X_X12_compare) (pc := 75) d_X12_compare_75 rfl 0 rfl ?_
      replace h := g_bd h
      obtain ⟨v6, hv6, h⟩ := h
      refine GW_getI (X := X_X12_compare) (pc := 76) f_X12_90 d_X12_compare_76 hv6 (Or.inl ty_12_8) ?_
      replace h := g_bd h
      obtain ⟨v7, hv7, h⟩ := h
      refine GW_bald (X := X_X12_compare) (pc := 79) d_X12_compare_79 hv7 ?_
      refine GW_bipush (X := X_X12_compare) (pc := 80) (v := 61) d_X12_compare_80 (by decide) ?_
      refine GW_icmp_ne (X := X_X12_compare) (pc := 82) 89 d_X12_compare_82 (by decide) (fun c => ?_) (fun c => ?_)
      · replace h := g_ie c h
        exact T_X12_compare_b89 r l0 l1 l2 M2 h
      · replace h := g_ip c h
        refine GW_iconst (X := X_X12_compare) (pc := 85) (v := 1) d_X12_compare_85 (by decide) ?_
        refine GW_goto (X := X_X12_compare) (pc := 86) 90 d_X12_compare_86 (by decide) ?_
        exact T_X12_compare_b90 r l0 l1 l2 (1 : Int32) M2 h
def F_X12_compare_b0 (l0 : Option Nat) (M : gM) : Option (Int32 × gM) :=
  (gO 12 M l0).bind fun i1 => (F_X12_sum (some i1) M).bind fun (v2, M3) => if v2 = 0 then (some ((0 : Int32), M3)) else ((gC 12 M3 i1).bind fun _ => (F_X12_see (some i1) M3).bind fun (v5, M6) => (gI 12 M6 (some i1) 8).bind fun v7 => if v5 = (60 : Int32) then (F_X12_compare_b44 (some i1) v5 v7 M6) else (if v5 = (61 : Int32) then (F_X12_compare_b44 (some i1) v5 v7 M6) else (if v5 = (62 : Int32) then (F_X12_compare_b44 (some i1) v5 v7 M6) else ((gC 12 M6 i1).bind fun _ => (F_X12_fails (some i1) (0 : Int32) v7 M6).bind fun (v9, M10) => if v9 = 0 ∨ v9 = 1 then some (v9, M10) else none))))
set_option maxHeartbeats 1000000 in
theorem T_X12_compare_b0 (r : (Int32 × gM)) (l0 : Option Nat) (M : gM) (h : F_X12_compare_b0 l0 M = some r) : GW 6 0 0 X_X12_compare 0 [(0, vr l0)] [] M (some (vi r.1), r.2) := by
  delta F_X12_compare_b0 at h
  refine GW_aload_n (X := X_X12_compare) (pc := 0) d_X12_compare_0 rfl 0 rfl ?_
  replace h := g_bd h
  obtain ⟨i1, hi1, h⟩ := h
  obtain ⟨rfl, ki1⟩ := g_gO hi1
  replace h := g_bd h
  obtain ⟨⟨v2, M3⟩, hv2, h⟩ := h
  dsimp only at h
  refine GW_callV (X := X_X12_compare) (pc := 1) (bc0 := 0) (bs0 := 0) (r := some (vi v2)) (M2 := M3) (c0 := 12) (T_X12_sum (some i1) M (v2, M3) hv2) (Nat.le_of_ble_eq_true rfl) (Nat.le_of_ble_eq_true rfl) rfl g_cok12 ki1 yc_X12_sum ⟨m_1325, m_1327, m_61, m_127, m_1328⟩ d_X12_compare_1 rfl (st := []) rfl (Nat.le_of_ble_eq_true rfl) (Nat.le_of_ble_eq_true rfl) (Nat.le_of_ble_eq_true rfl) (st2 := [vi v2]) rfl ?_
  refine GW_if_ne (X := X_X12_compare) (pc := 4) 9 d_X12_compare_4 (by decide) (fun c => ?_) (fun c => ?_)
  · replace h := g_ie c h
    refine GW_aload_n (X := X_X12_compare) (pc := 9) d_X12_compare_9 rfl 0 rfl ?_
    replace h := g_bd h
    obtain ⟨_, kk4, h⟩ := h
    replace kk4 := g_gC kk4
    replace h := g_bd h
    obtain ⟨⟨v5, M6⟩, hv5, h⟩ := h
    dsimp only at h
    refine GW_callV (X := X_X12_compare) (pc := 10) (bc0 := 0) (bs0 := 0) (r := some (vi v5)) (M2 := M6) (c0 := 12) (T_X12_see (some i1) M3 (v5, M6) hv5) (Nat.le_of_ble_eq_true rfl) (Nat.le_of_ble_eq_true rfl) rfl g_cok12 kk4 yc_X12_see ⟨m_1239, m_1241, m_43, m_127, m_1242⟩ d_X12_compare_10 rfl (st := []) rfl (Nat.le_of_ble_eq_true rfl) (Nat.le_of_ble_eq_true rfl) (Nat.le_of_ble_eq_true rfl) (st2 := [vi v5]) rfl ?_
    refine GW_istore_n (X := X_X12_compare) (pc := 13) d_X12_compare_13 rfl (Nat.le_of_ble_eq_true rfl) (lv2 := [(1, vi v5), (0, vr (some i1))]) rfl ?_
    refine GW_aload_n (X := X_X12_compare) (pc := 14) d_X12_compare_14 rfl 1 rfl ?_
    replace h := g_bd h
    obtain ⟨v7, hv7, h⟩ := h
    refine GW_getI (X := X_X12_compare) (pc := 15) f_X12_90 d_X12_compare_15 hv7 (Or.inl ty_12_8) ?_
    refine GW_istore_n (X := X_X12_compare) (pc := 18) d_X12_compare_18 rfl (Nat.le_of_ble_eq_true rfl) (lv2 := [(2, vi v7), (1, vi v5), (0, vr (some i1))]) rfl ?_
    refine GW_iload_n (X := X_X12_compare) (pc := 19) d_X12_compare_19 rfl 1 rfl ?_
    refine GW_bipush (X := X_X12_compare) (pc := 20) (v := 60) d_X12_compare_20 (by decide) ?_
    refine GW_icmp_eq (X := X_X12_compare) (pc := 22) 44 d_X12_compare_22 (by decide) (fun c => ?_) (fun c => ?_)
    · replace h := g_ip c h
      refine GW_sub [2, 1, 0] rfl ?_
      exact T_X12_compare_b44 r (some i1) v5 v7 M6 h
    · replace h := g_ie c h
      refine GW_iload_n (X := X_X12_compare) (pc := 25) d_X12_compare_25 rfl 1 rfl ?_
      refine GW_bipush (X := X_X12_compare) (pc := 26) (v := 61) d_X12_compare_26 (by decide) ?_
      refine GW_icmp_eq (X := X_X12_compare) (pc := 28) 44 d_X12_compare_28 (by decide) (fun c => ?_) (fun c => ?_)
      · replace h := g_ip c h
        refine GW_sub [2, 1, 0] rfl ?_
        exact T_X12_compare_b44 r (some i1) v5 v7 M6 h
      · replace h := g_ie c h
        refine GW_iload_n (X := X_X12_compare) (pc := 31) d_X12_compare_31 rfl 1 rfl ?_
        refine GW_bipush (X := X_X12_compare) (pc := 32) (v := 62) d_X12_compare_32 (by decide) ?_
        refine GW_icmp_eq (X := X_X12_compare) (pc := 34) 44 d_X12_compare_34 (by decide) (fun c => ?_) (fun c => ?_)
        · replace h := g_ip c h
          refine GW_sub [2, 1, 0] rfl ?_
          exact T_X12_compare_b44 r (some i1) v5 v7 M6 h
        · replace h := g_ie c h
          refine GW_aload_n (X := X_X12_compare) (pc := 37) d_X12_compare_37 rfl 2 rfl ?_
          refine GW_iconst (X := X_X12_compare) (pc := 38) (v := 0) d_X12_compare_38 (by decide) ?_
          refine GW_iload_n (X := X_X12_compare) (pc := 39) d_X12_compare_39 rfl 0 rfl ?_
          replace h := g_bd h
          obtain ⟨_, kk8, h⟩ := h
          replace kk8 := g_gC kk8
          replace h := g_bd h
          obtain ⟨⟨v9, M10⟩, hv9, h⟩ := h
          dsimp only at h
          refine GW_callV (X := X_X12_compare) (pc := 40) (bc0 := 0) (bs0 := 0) (r := some (vi v9)) (M2 := M10) (c0 := 12) (T_X12_fails (some i1) (0 : Int32) v7 M6 (v9, M10) hv9) (Nat.le_of_ble_eq_true rfl) (Nat.le_of_ble_eq_true rfl) rfl g_cok12 kk8 yc_X12_fails ⟨m_1263, m_1265, m_47, m_127, m_1266⟩ d_X12_compare_40 rfl (st := []) rfl (Nat.le_of_ble_eq_true rfl) (Nat.le_of_ble_eq_true rfl) (Nat.le_of_ble_eq_true rfl) (st2 := [vi v9]) rfl ?_
          replace h := g_if2 h
          obtain ⟨hz11, h⟩ := h
          replace h := Option.some.inj h
          subst h
          exact GW_ret (X := X_X12_compare) (pc := 43) d_X12_compare_43 rfl (g_zok hz11)
  · replace h := g_ip c h
    refine GW_iconst (X := X_X12_compare) (pc := 7) (v := 0) d_X12_compare_7 (by decide) ?_
    replace h := Option.some.inj h
    subst h
    exact GW_ret (X := X_X12_compare) (pc := 8) d_X12_compare_8 rfl g_rok0
def F_X12_compare (l0 : Option Nat) (M : gM) : Option (Int32 × gM) := F_X12_compare_b0 l0 M
theorem T_X12_compare (l0 : Option Nat) (M : gM) (r : (Int32 × gM)) (h : F_X12_compare l0 M = some r) : g_Met 6 0 0 yX12_compare X_X12_compare [vr l0] M (some (vi r.1), r.2) :=
  g_Met_of pn_RX12 rfl (Nat.le_of_ble_eq_true rfl) (fun h => by cases h) (GW_sub [0] rfl (T_X12_compare_b0 r l0 M h))
/-! ForgetHeirsModel.fact()Z -/
theorem d_X12_fact_0 : decode cX12_fact 0 = .ok (.iconst 1, 1) := by decide +kernel
theorem d_X12_fact_1 : decode cX12_fact 1 = .ok (.istore_n 1, 1) := by decide +kernel
theorem d_X12_fact_2 : decode cX12_fact 2 = .ok (.iload_n 1, 1) := by decide +kernel
theorem d_X12_fact_3 : decode cX12_fact 3 = .ok (.ifCond .eq 72, 3) := by decide +kernel
theorem d_X12_fact_6 : decode cX12_fact 6 = .ok (.iconst 0, 1) := by decide +kernel
theorem d_X12_fact_7 : decode cX12_fact 7 = .ok (.istore_n 1, 1) := by decide +kernel
theorem d_X12_fact_8 : decode cX12_fact 8 = .ok (.aload_n 0, 1) := by decide +kernel
theorem d_X12_fact_9 : decode cX12_fact 9 = .ok (.invokevirtual 93, 3) := by decide +kernel
theorem d_X12_fact_12 : decode cX12_fact 12 = .ok (.istore_n 2, 1) := by decide +kernel
theorem d_X12_fact_13 : decode cX12_fact 13 = .ok (.aload_n 0, 1) := by decide +kernel
theorem d_X12_fact_14 : decode cX12_fact 14 = .ok (.ldc2_w 190, 3) := by decide +kernel
theorem d_X12_fact_17 : decode cX12_fact 17 = .ok (.invokevirtual 101, 3) := by decide +kernel
theorem d_X12_fact_20 : decode cX12_fact 20 = .ok (.ifCond .eq 23, 3) := by decide +kernel
theorem d_X12_fact_23 : decode cX12_fact 23 = .ok (.aload_n 0, 1) := by decide +kernel
theorem d_X12_fact_24 : decode cX12_fact 24 = .ok (.bipush 11, 2) := by decide +kernel
theorem d_X12_fact_26 : decode cX12_fact 26 = .ok (.invokevirtual 192, 3) := by decide +kernel
theorem d_X12_fact_29 : decode cX12_fact 29 = .ok (.ifCond .ne 5, 3) := by decide +kernel
theorem d_X12_fact_32 : decode cX12_fact 32 = .ok (.iconst 0, 1) := by decide +kernel
theorem d_X12_fact_33 : decode cX12_fact 33 = .ok (.ireturn, 1) := by decide +kernel
theorem d_X12_fact_34 : decode cX12_fact 34 = .ok (.aload_n 0, 1) := by decide +kernel
theorem d_X12_fact_35 : decode cX12_fact 35 = .ok (.invokevirtual 105, 3) := by decide +kernel
theorem d_X12_fact_38 : decode cX12_fact 38 = .ok (.iconst 1, 1) := by decide +kernel
theorem d_X12_fact_39 : decode cX12_fact 39 = .ok (.istore_n 1, 1) := by decide +kernel
theorem d_X12_fact_40 : decode cX12_fact 40 = .ok (.goto 32, 3) := by decide +kernel
theorem d_X12_fact_43 : decode cX12_fact 43 = .ok (.iload_n 2, 1) := by decide +kernel
theorem d_X12_fact_44 : decode cX12_fact 44 = .ok (.bipush 91, 2) := by decide +kernel
theorem d_X12_fact_46 : decode cX12_fact 46 = .ok (.if_icmp .ne 26, 3) := by decide +kernel
theorem d_X12_fact_49 : decode cX12_fact 49 = .ok (.aload_n 0, 1) := by decide +kernel
theorem d_X12_fact_50 : decode cX12_fact 50 = .ok (.bipush 91, 2) := by decide +kernel
theorem d_X12_fact_52 : decode cX12_fact 52 = .ok (.invokevirtual 192, 3) := by decide +kernel
theorem d_X12_fact_55 : decode cX12_fact 55 = .ok (.ifCond .ne 5, 3) := by decide +kernel
theorem d_X12_fact_58 : decode cX12_fact 58 = .ok (.iconst 0, 1) := by decide +kernel
theorem d_X12_fact_59 : decode cX12_fact 59 = .ok (.ireturn, 1) := by decide +kernel
theorem d_X12_fact_60 : decode cX12_fact 60 = .ok (.aload_n 0, 1) := by decide +kernel
theorem d_X12_fact_61 : decode cX12_fact 61 = .ok (.dup, 1) := by decide +kernel
theorem d_X12_fact_62 : decode cX12_fact 62 = .ok (.getfield 90, 3) := by decide +kernel
theorem d_X12_fact_65 : decode cX12_fact 65 = .ok (.iconst 1, 1) := by decide +kernel
theorem d_X12_fact_66 : decode cX12_fact 66 = .ok (.iadd, 1) := by decide +kernel
theorem d_X12_fact_67 : decode cX12_fact 67 = .ok (.putfield 90, 3) := by decide +kernel
theorem d_X12_fact_70 : decode cX12_fact 70 = .ok (.iconst 1, 1) := by decide +kernel
theorem d_X12_fact_71 : decode cX12_fact 71 = .ok (.istore_n 1, 1) := by decide +kernel
theorem d_X12_fact_72 : decode cX12_fact 72 = .ok (.goto (-70), 3) := by decide +kernel
theorem d_X12_fact_75 : decode cX12_fact 75 = .ok (.aload_n 0, 1) := by decide +kernel
theorem d_X12_fact_76 : decode cX12_fact 76 = .ok (.invokevirtual 195, 3) := by decide +kernel
theorem d_X12_fact_79 : decode cX12_fact 79 = .ok (.ireturn, 1) := by decide +kernel
abbrev X_X12_fact : gX := (RX12, cX12_fact, 3, (some .boolean), false)
def F_X12_fact_b72 (k2 : Option Nat → Int32 → gM → Option (Int32 × gM)) (l0 : Option Nat) (l1 : Int32) (M : gM) : Option (Int32 × gM) :=
  k2 l0 l1 M
theorem T_X12_fact_b72 (k2 : Option Nat → Int32 → gM → Option (Int32 × gM)) (r : (Int32 × gM)) (hk2 : ∀ (l0 : Option Nat) (l1 : Int32) (M : gM), k2 l0 l1 M = some r → GW 7 0 0 X_X12_fact 2 [(0, vr l0), (1, vi l1)] [] M (some (vi r.1), r.2)) (l0 : Option Nat) (l1 : Int32) (M : gM) (h : F_X12_fact_b72 k2 l0 l1 M = some r) : GW 7 0 0 X_X12_fact 72 [(0, vr l0), (1, vi l1)] [] M (some (vi r.1), r.2) := by
  delta F_X12_fact_b72 at h
  refine GW_goto (X := X_X12_fact) (pc := 72) 2 d_X12_fact_72 (by decide) ?_
  exact hk2 l0 l1 M h
def F_X12_fact_b2 (k2 : Option Nat → Int32 → gM → Option (Int32 × gM)) (l0 : Option Nat) (l1 : Int32) (M : gM) : Option (Int32 × gM) :=
  if l1 = 0 then ((gO 12 M l0).bind fun i1 => (F_X12_compare (some i1) M).bind fun (v2, M3) => if v2 = 0 ∨ v2 = 1 then some (v2, M3) else none) else ((gO 12 M l0).bind fun i5 => (F_X12_see (some i5) M).bind fun (v6, M7) => (gC 12 M7 i5).bind fun _ => (F_X12_isWord (some i5) (7237492 : Int64) M7).bind fun (v9, M10) => if v9 = 0 then (if v6 = (91 : Int32) then ((gC 12 M10 i5).bind fun _ => (F_X12_opens (some i5) (91 : Int32) M10).bind fun (v12, M13) => if v12 = 0 then (some ((0 : Int32), M13)) else ((gI 12 M13 (some i5) 8).bind fun v14 => (pI 12 M13 (some i5) 8 (v14 + (1 : Int32))).bind fun M15 => F_X12_fact_b72 k2 (some i5) (1 : Int32) M15)) else (F_X12_fact_b72 k2 (some i5) (0 : Int32) M10)) else ((gC 12 M10 i5).bind fun _ => (F_X12_opens (some i5) (11 : Int32) M10).bind fun (v17, M18) => if v17 = 0 then (some ((0 : Int32), M18)) else ((gC 12 M18 i5).bind fun _ => (F_X12_passWord (some i5) M18).bind fun M20 => F_X12_fact_b72 k2 (some i5) (1 : Int32) M20)))
set_option maxHeartbeats 1000000 in
theorem T_X12_fact_b2 (k2 : Option Nat → Int32 → gM → Option (Int32 × gM)) (r : (Int32 × gM)) (hk2 : ∀ (l0 : Option Nat) (l1 : Int32) (M : gM), k2 l0 l1 M = some r → GW 7 0 0 X_X12_fact 2 [(0, vr l0), (1, vi l1)] [] M (some (vi r.1), r.2)) (l0 : Option Nat) (l1 : Int32) (M : gM) (h : F_X12_fact_b2 k2 l0 l1 M = some r) : GW 7 0 0 X_X12_fact 2 [(0, vr l0), (1, vi l1)] [] M (some (vi r.1), r.2) := by
  delta F_X12_fact_b2 at h
  refine GW_iload_n (X := X_X12_fact) (pc := 2) d_X12_fact_2 rfl 1 rfl ?_
  refine GW_if_eq (X := X_X12_fact) (pc := 3) 75 d_X12_fact_3 (by decide) (fun c => ?_) (fun c => ?_)
  · replace h := g_ip c h
    refine GW_aload_n (X := X_X12_fact) (pc := 75) d_X12_fact_75 rfl 0 rfl ?_
    replace h := g_bd h
    obtain ⟨i1, hi1, h⟩ := h
    obtain ⟨rfl, ki1⟩ := g_gO hi1
    replace h := g_bd h
    obtain ⟨⟨v2, M3⟩, hv2, h⟩ := h
    dsimp only at h
    refine GW_callV (X := X_X12_fact) (pc := 76) (bc0 := 0) (bs0 := 0) (r := some (vi v2)) (M2 := M3) (c0 := 12) (T_X12_compare (some i1) M (v2, M3) hv2) (Nat.le_of_ble_eq_true rfl) (Nat.le_of_ble_eq_true rfl) rfl g_cok12 ki1 yc_X12_compare ⟨m_1378, m_1380, m_71, m_127, m_1381⟩ d_X12_fact_76 rfl (st := []) rfl (Nat.le_of_ble_eq_true rfl) (Nat.le_of_ble_eq_true rfl) (Nat.le_of_ble_eq_true rfl) (st2 := [vi v2]) rfl ?_
    replace h := g_if2 h
    obtain ⟨hz4, h⟩ := h
    replace h := Option.some.inj h
    subst h
    exact GW_ret (X := X_X12_fact) (pc := 79) d_X12_fact_79 rfl (g_zok hz4)
  · replace h := g_ie c h
    refine GW_iconst (X := X_X12_fact) (pc := 6) (v := 0) d_X12_fact_6 (by decide) ?_
    refine GW_istore_n (X := X_X12_fact) (pc := 7) d_X12_fact_7 rfl (Nat.le_of_ble_eq_true rfl) (lv2 := [(1, vi (0 : Int32)), (0, vr l0)]) rfl ?_
    refine GW_aload_n (X := X_X12_fact) (pc := 8) d_X12_fact_8 rfl 1 rfl ?_
    replace h := g_bd h
    obtain ⟨i5, hi5, h⟩ := h
    obtain ⟨rfl, ki5⟩ := g_gO hi5
    replace h := g_bd h
    obtain ⟨⟨v6, M7⟩, hv6, h⟩ := h
    dsimp only at h
    refine GW_callV (X := X_X12_fact) (pc := 9) (bc0 := 0) (bs0 := 0) (r := some (vi v6)) (M2 := M7) (c0 := 12) (T_X12_see (some i5) M (v6, M7) hv6) (Nat.le_of_ble_eq_true rfl) (Nat.le_of_ble_eq_true rfl) rfl g_cok12 ki5 yc_X12_see ⟨m_1239, m_1241, m_43, m_127, m_1242⟩ d_X12_fact_9 rfl (st := []) rfl (Nat.le_of_ble_eq_true rfl) (Nat.le_of_ble_eq_true rfl) (Nat.le_of_ble_eq_true rfl) (st2 := [vi v6]) rfl ?_
    refine GW_istore_n (X := X_X12_fact) (pc := 12) d_X12_fact_12 rfl (Nat.le_of_ble_eq_true rfl) (lv2 := [(2, vi v6), (1, vi (0 : Int32)), (0, vr (some i5))]) rfl ?_
    refine GW_aload_n (X := X_X12_fact) (pc := 13) d_X12_fact_13 rfl 2 rfl ?_
    refine GW_ldc2 (X := X_X12_fact) (pc := 14) d_X12_fact_14 m_1373 ?_
    replace h := g_bd h
    obtain ⟨_, kk8, h⟩ := h
    replace kk8 := g_gC kk8
    replace h := g_bd h
    obtain ⟨⟨v9, M10⟩, hv9, h⟩ := h
    dsimp only at h
    refine GW_callV (X := X_X12_fact) (pc := 17) (bc0 := 0) (bs0 := 0) (r := some (vi v9)) (M2 := M10) (c0 := 12) (T_X12_isWord (some i5) (7237492 : Int64) M7 (v9, M10) hv9) (Nat.le_of_ble_eq_true rfl) (Nat.le_of_ble_eq_true rfl) rfl g_cok12 kk8 yc_X12_isWord ⟨m_1248, m_1250, m_45, m_127, m_1251⟩ d_X12_fact_17 rfl (st := []) rfl (Nat.le_of_ble_eq_true rfl) (Nat.le_of_ble_eq_true rfl) (Nat.le_of_ble_eq_true rfl) (st2 := [vi v9]) rfl ?_
    refine GW_if_eq (X := X_X12_fact) (pc := 20) 43 d_X12_fact_20 (by decide) (fun c => ?_) (fun c => ?_)
    · replace h := g_ip c h
      refine GW_iload_n (X := X_X12_fact) (pc := 43) d_X12_fact_43 rfl 0 rfl ?_
      refine GW_bipush (X := X_X12_fact) (pc := 44) (v := 91) d_X12_fact_44 (by decide) ?_
      refine GW_icmp_ne (X := X_X12_fact) (pc := 46) 72 d_X12_fact_46 (by decide) (fun c => ?_) (fun c => ?_)
      · replace h := g_ie c h
        refine GW_sub [2, 1] rfl ?_
        exact T_X12_fact_b72 k2 r hk2 (some i5) (0 : Int32) M10 h
      · replace h := g_ip c h
        refine GW_aload_n (X := X_X12_fact) (pc := 49) d_X12_fact_49 rfl 2 rfl ?_
        refine GW_bipush (X := X_X12_fact) (pc := 50) (v := 91) d_X12_fact_50 (by decide) ?_
        replace h := g_bd h
        obtain ⟨_, kk11, h⟩ := h
        replace kk11 := g_gC kk11
        replace h := g_bd h
        obtain ⟨⟨v12, M13⟩, hv12, h⟩ := h
        dsimp only at h
        refine GW_callV (X := X_X12_fact) (pc := 52) (bc0 := 0) (bs0 := 0) (r := some (vi v12)) (M2 := M13) (c0 := 12) (T_X12_opens (some i5) (91 : Int32) M10 (v12, M13) hv12) (Nat.le_of_ble_eq_true rfl) (Nat.le_of_ble_eq_true rfl) rfl g_cok12 kk11 yc_X12_opens ⟨m_1374, m_1376, m_70, m_127, m_1377⟩ d_X12_fact_52 rfl (st := []) rfl (Nat.le_of_ble_eq_true rfl) (Nat.le_of_ble_eq_true rfl) (Nat.le_of_ble_eq_true rfl) (st2 := [vi v12]) rfl ?_
        refine GW_if_ne (X := X_X12_fact) (pc := 55) 60 d_X12_fact_55 (by decide) (fun c => ?_) (fun c => ?_)
        · replace h := g_ie c h
          refine GW_aload_n (X := X_X12_fact) (pc := 60) d_X12_fact_60 rfl 2 rfl ?_
          refine GW_dup (X := X_X12_fact) (pc := 61) d_X12_fact_61 rfl ?_
          replace h := g_bd h
          obtain ⟨v14, hv14, h⟩ := h
          refine GW_getI (X := X_X12_fact) (pc := 62) f_X12_90 d_X12_fact_62 hv14 (Or.inl ty_12_8) ?_
          refine GW_iconst (X := X_X12_fact) (pc := 65) (v := 1) d_X12_fact_65 (by decide) ?_
          refine GW_iadd (X := X_X12_fact) (pc := 66) d_X12_fact_66 ?_
          replace h := g_bd h
          obtain ⟨M15, hM15, h⟩ := h
          refine GW_putI (X := X_X12_fact) (pc := 67) f_X12_90 d_X12_fact_67 hM15 (Or.inl fi_12_8) (Or.inl ty_12_8) ?_
          refine GW_iconst (X := X_X12_fact) (pc := 70) (v := 1) d_X12_fact_70 (by decide) ?_
          refine GW_istore_n (X := X_X12_fact) (pc := 71) d_X12_fact_71 rfl (Nat.le_of_ble_eq_true rfl) (lv2 := [(1, vi (1 : Int32)), (2, vi v6), (0, vr (some i5))]) rfl ?_
          refine GW_sub [2, 0] rfl ?_
          exact T_X12_fact_b72 k2 r hk2 (some i5) (1 : Int32) M15 h
        · replace h := g_ip c h
          refine GW_iconst (X := X_X12_fact) (pc := 58) (v := 0) d_X12_fact_58 (by decide) ?_
          replace h := Option.some.inj h
          subst h
          exact GW_ret (X := X_X12_fact) (pc := 59) d_X12_fact_59 rfl g_rok0
    · replace h := g_ie c h
      refine GW_aload_n (X := X_X12_fact) (pc := 23) d_X12_fact_23 rfl 2 rfl ?_
      refine GW_bipush (X := X_X12_fact) (pc := 24) (v := 11) d_X12_fact_24 (by decide) ?_
      replace h := g_bd h
      obtain ⟨_, kk16, h⟩ := h
      replace kk16 := g_gC kk16
      replace h := g_bd h
      obtain ⟨⟨v17, M18⟩, hv17, h⟩ := h
      dsimp only at h
      refine GW_callV (X := X_X12_fact) (pc := 26) (bc0 := 0) (bs0 := 0) (r := some (vi v17)) (M2 := M18) (c0 := 12) (T_X12_opens (some i5) (11 : Int32) M10 (v17, M18) hv17) (Nat.le_of_ble_eq_true rfl) (Nat.le_of_ble_eq_true rfl) rfl g_cok12 kk16 yc_X12_opens ⟨m_1374, m_1376, m_70, m_127, m_1377⟩ d_X12_fact_26 rfl (st := []) rfl (Nat.le_of_ble_eq_true rfl) (Nat.le_of_ble_eq_true rfl) (Nat.le_of_ble_eq_true rfl) (st2 := [vi v17]) rfl ?_
      refine GW_if_ne (X := X_X12_fact) (pc := 29) 34 d_X12_fact_29 (by decide) (fun c => ?_) (fun c => ?_)
      · replace h := g_ie c h
        refine GW_aload_n (X := X_X12_fact) (pc := 34) d_X12_fact_34 rfl 2 rfl ?_
        replace h := g_bd h
        obtain ⟨_, kk19, h⟩ := h
        replace kk19 := g_gC kk19
        replace h := g_bd h
        obtain ⟨M20, hM20, h⟩ := h
        refine GW_callV (X := X_X12_fact) (pc := 35) (bc0 := 0) (bs0 := 0) (r := none) (M2 := M20) (c0 := 12) (T_X12_passWord (some i5) M18 M20 hM20) (Nat.le_of_ble_eq_true rfl) (Nat.le_of_ble_eq_true rfl) rfl g_cok12 kk19 yc_X12_passWord ⟨m_1275, m_1277, m_50, m_127, m_1278⟩ d_X12_fact_35 rfl (st := []) rfl (Nat.le_of_ble_eq_true rfl) (Nat.le_of_ble_eq_true rfl) (Nat.le_of_ble_eq_true rfl) (st2 := []) rfl ?_
        refine GW_iconst (X := X_X12_fact) (pc := 38) (v := 1) d_X12_fact_38 (by decide) ?_
        refine GW_istore_n (X := X_X12_fact) (pc := 39) d_X12_fact_39 rfl (Nat.le_of_ble_eq_true rfl) (lv2 := [(1, vi (1 : Int32)), (2, vi v6), (0, vr (some i5))]) rfl ?_
        refine GW_goto (X := X_X12_fact) (pc := 40) 72 d_X12_fact_40 (by decide) ?_
        refine GW_sub [2, 0] rfl ?_
        exact T_X12_fact_b72 k2 r hk2 (some i5) (1 : Int32) M20 h
      · replace h := g_ip c h
        refine GW_iconst (X := X_X12_fact) (pc := 32) (v := 0) d_X12_fact_32 (by decide) ?_
        replace h := Option.some.inj h
        subst h
        exact GW_ret (X := X_X12_fact) (pc := 33) d_X12_fact_33 rfl g_rok0
def F_X12_fact_L2 : Nat → Option Nat → Int32 → gM → Option (Int32 × gM)
  | 0 => fun _ _ _ => none
  | n + 1 => F_X12_fact_b2 (F_X12_fact_L2 n)
theorem T_X12_fact_L2 (r : (Int32 × gM)) : ∀ (n : Nat) (l0 : Option Nat) (l1 : Int32) (M : gM), F_X12_fact_L2 n l0 l1 M = some r → GW 7 0 0 X_X12_fact 2 [(0, vr l0), (1, vi l1)] [] M (some (vi r.1), r.2) := by
  intro n
  induction n with
  | zero => intro l0 l1 M h; exact g_no h
  | succ n ih => intro l0 l1 M h; exact T_X12_fact_b2 (F_X12_fact_L2 n) r ih l0 l1 M h
def F_X12_fact_b0 (l0 : Option Nat) (M : gM) : Option (Int32 × gM) :=
  F_X12_fact_L2 g_fuel l0 (1 : Int32) M
theorem T_X12_fact_b0 (r : (Int32 × gM)) (l0 : Option Nat) (M : gM) (h : F_X12_fact_b0 l0 M = some r) : GW 7 0 0 X_X12_fact 0 [(0, vr l0)] [] M (some (vi r.1), r.2) := by
  delta F_X12_fact_b0 at h
  refine GW_iconst (X := X_X12_fact) (pc := 0) (v := 1) d_X12_fact_0 (by decide) ?_
  refine GW_istore_n (X := X_X12_fact) (pc := 1) d_X12_fact_1 rfl (Nat.le_of_ble_eq_true rfl) (lv2 := [(1, vi (1 : Int32)), (0, vr l0)]) rfl ?_
  refine GW_sub [1, 0] rfl ?_
  exact T_X12_fact_L2 r g_fuel l0 (1 : Int32) M h
def F_X12_fact (l0 : Option Nat) (M : gM) : Option (Int32 × gM) := F_X12_fact_b0 l0 M
theorem T_X12_fact (l0 : Option Nat) (M : gM) (r : (Int32 × gM)) (h : F_X12_fact l0 M = some r) : g_Met 7 0 0 yX12_fact X_X12_fact [vr l0] M (some (vi r.1), r.2) :=
  g_Met_of pn_RX12 rfl (Nat.le_of_ble_eq_true rfl) (fun h => by cases h) (GW_sub [0] rfl (T_X12_fact_b0 r l0 M h))
/-! ForgetHeirsModel.strength(I)I -/
theorem d_X12_strength_0 : decode cX12_strength 0 = .ok (.iload_n 0, 1) := by decide +kernel
theorem d_X12_strength_1 : decode cX12_strength 1 = .ok (.bipush 13, 2) := by decide +kernel
theorem d_X12_strength_3 : decode cX12_strength 3 = .ok (.if_icmp .ne 7, 3) := by decide +kernel
theorem d_X12_strength_6 : decode cX12_strength 6 = .ok (.iconst 1, 1) := by decide +kernel
theorem d_X12_strength_7 : decode cX12_strength 7 = .ok (.goto 24, 3) := by decide +kernel
theorem d_X12_strength_10 : decode cX12_strength 10 = .ok (.iload_n 0, 1) := by decide +kernel
theorem d_X12_strength_11 : decode cX12_strength 11 = .ok (.bipush 12, 2) := by decide +kernel
theorem d_X12_strength_13 : decode cX12_strength 13 = .ok (.if_icmp .ne 7, 3) := by decide +kernel
theorem d_X12_strength_16 : decode cX12_strength 16 = .ok (.iconst 2, 1) := by decide +kernel
theorem d_X12_strength_17 : decode cX12_strength 17 = .ok (.goto 14, 3) := by decide +kernel
theorem d_X12_strength_20 : decode cX12_strength 20 = .ok (.iload_n 0, 1) := by decide +kernel
theorem d_X12_strength_21 : decode cX12_strength 21 = .ok (.bipush 11, 2) := by decide +kernel
theorem d_X12_strength_23 : decode cX12_strength 23 = .ok (.if_icmp .ne 7, 3) := by decide +kernel
theorem d_X12_strength_26 : decode cX12_strength 26 = .ok (.iconst 3, 1) := by decide +kernel
theorem d_X12_strength_27 : decode cX12_strength 27 = .ok (.goto 4, 3) := by decide +kernel
theorem d_X12_strength_30 : decode cX12_strength 30 = .ok (.iconst 0, 1) := by decide +kernel
theorem d_X12_strength_31 : decode cX12_strength 31 = .ok (.ireturn, 1) := by decide +kernel
abbrev X_X12_strength : gX := (RX12, cX12_strength, 1, (some .int), false)
def F_X12_strength_b0 (M : gM) (l0 : Int32) : Option Int32 :=
  if l0 = (13 : Int32) then (some (1 : Int32)) else (if l0 = (12 : Int32) then (some (2 : Int32)) else (if l0 = (11 : Int32) then (some (3 : Int32)) else (some (0 : Int32))))
theorem T_X12_strength_b0 (M : gM) (r : Int32) (l0 : Int32) (h : F_X12_strength_b0 M l0 = some r) : GW 0 0 0 X_X12_strength 0 [(0, vi l0)] [] M (some (vi r), M) := by
  delta F_X12_strength_b0 at h
  refine GW_iload_n (X := X_X12_strength) (pc := 0) d_X12_strength_0 rfl 0 rfl ?_
  refine GW_bipush (X := X_X12_strength) (pc := 1) (v := 13) d_X12_strength_1 (by decide) ?_
  refine GW_icmp_ne (X := X_X12_strength) (pc := 3) 10 d_X12_strength_3 (by decide) (fun c => ?_) (fun c => ?_)
  · replace h := g_ie c h
    refine GW_iload_n (X := X_X12_strength) (pc := 10) d_X12_strength_10 rfl 0 rfl ?_
    refine GW_bipush (X := X_X12_strength) (pc := 11) (v := 12) d_X12_strength_11 (by decide) ?_
    refine GW_icmp_ne (X := X_X12_strength) (pc := 13) 20 d_X12_strength_13 (by decide) (fun c => ?_) (fun c => ?_)
    · replace h := g_ie c h
      refine GW_iload_n (X := X_X12_strength) (pc := 20) d_X12_strength_20 rfl 0 rfl ?_
      refine GW_bipush (X := X_X12_strength) (pc := 21) (v := 11) d_X12_strength_21 (by decide) ?_
      refine GW_icmp_ne (X := X_X12_strength) (pc := 23) 30 d_X12_strength_23 (by decide) (fun c => ?_) (fun c => ?_)
      · replace h := g_ie c h
        refine GW_iconst (X := X_X12_strength) (pc := 30) (v := 0) d_X12_strength_30 (by decide) ?_
        replace h := Option.some.inj h
        subst h
        exact GW_ret (X := X_X12_strength) (pc := 31) d_X12_strength_31 rfl trivial
      · replace h := g_ip c h
        refine GW_iconst (X := X_X12_strength) (pc := 26) (v := 3) d_X12_strength_26 (by decide) ?_
        refine GW_goto (X := X_X12_strength) (pc := 27) 31 d_X12_strength_27 (by decide) ?_
        replace h := Option.some.inj h
        subst h
        exact GW_ret (X := X_X12_strength) (pc := 31) d_X12_strength_31 rfl trivial
    · replace h := g_ip c h
      refine GW_iconst (X := X_X12_strength) (pc := 16) (v := 2) d_X12_strength_16 (by decide) ?_
      refine GW_goto (X := X_X12_strength) (pc := 17) 31 d_X12_strength_17 (by decide) ?_
      replace h := Option.some.inj h
      subst h
      exact GW_ret (X := X_X12_strength) (pc := 31) d_X12_strength_31 rfl trivial
  · replace h := g_ip c h
    refine GW_iconst (X := X_X12_strength) (pc := 6) (v := 1) d_X12_strength_6 (by decide) ?_
    refine GW_goto (X := X_X12_strength) (pc := 7) 31 d_X12_strength_7 (by decide) ?_
    replace h := Option.some.inj h
    subst h
    exact GW_ret (X := X_X12_strength) (pc := 31) d_X12_strength_31 rfl trivial
def F_X12_strength (l0 : Int32) (M : gM) : Option Int32 := F_X12_strength_b0 M l0
theorem T_X12_strength (l0 : Int32) (M : gM) (r : Int32) (h : F_X12_strength l0 M = some r) : g_Met 0 0 0 yX12_strength X_X12_strength [vi l0] M (some (vi r), M) :=
  g_Met_of pn_RX12 rfl (Nat.le_of_ble_eq_true rfl) (fun h => by cases h) (GW_sub [0] rfl (T_X12_strength_b0 M r l0 h))
/-! ForgetHeirsModel.settles(I)V -/
theorem d_X12_settles_0 : decode cX12_settles 0 = .ok (.aload_n 0, 1) := by decide +kernel
theorem d_X12_settles_1 : decode cX12_settles 1 = .ok (.getfield 159, 3) := by decide +kernel
theorem d_X12_settles_4 : decode cX12_settles 4 = .ok (.ifCond .le 72, 3) := by decide +kernel
theorem d_X12_settles_7 : decode cX12_settles 7 = .ok (.aload_n 0, 1) := by decide +kernel
theorem d_X12_settles_8 : decode cX12_settles 8 = .ok (.getfield 29, 3) := by decide +kernel
theorem d_X12_settles_11 : decode cX12_settles 11 = .ok (.aload_n 0, 1) := by decide +kernel
theorem d_X12_settles_12 : decode cX12_settles 12 = .ok (.getfield 159, 3) := by decide +kernel
theorem d_X12_settles_15 : decode cX12_settles 15 = .ok (.iconst 1, 1) := by decide +kernel
theorem d_X12_settles_16 : decode cX12_settles 16 = .ok (.isub, 1) := by decide +kernel
theorem d_X12_settles_17 : decode cX12_settles 17 = .ok (.iaload, 1) := by decide +kernel
theorem d_X12_settles_18 : decode cX12_settles 18 = .ok (.invokestatic 162, 3) := by decide +kernel
theorem d_X12_settles_21 : decode cX12_settles 21 = .ok (.iload_n 1, 1) := by decide +kernel
theorem d_X12_settles_22 : decode cX12_settles 22 = .ok (.if_icmp .lt 54, 3) := by decide +kernel
theorem d_X12_settles_25 : decode cX12_settles 25 = .ok (.aload_n 0, 1) := by decide +kernel
theorem d_X12_settles_26 : decode cX12_settles 26 = .ok (.dup, 1) := by decide +kernel
theorem d_X12_settles_27 : decode cX12_settles 27 = .ok (.getfield 159, 3) := by decide +kernel
theorem d_X12_settles_30 : decode cX12_settles 30 = .ok (.iconst 1, 1) := by decide +kernel
theorem d_X12_settles_31 : decode cX12_settles 31 = .ok (.isub, 1) := by decide +kernel
theorem d_X12_settles_32 : decode cX12_settles 32 = .ok (.putfield 159, 3) := by decide +kernel
theorem d_X12_settles_35 : decode cX12_settles 35 = .ok (.aload_n 0, 1) := by decide +kernel
theorem d_X12_settles_36 : decode cX12_settles 36 = .ok (.aload_n 0, 1) := by decide +kernel
theorem d_X12_settles_37 : decode cX12_settles 37 = .ok (.getfield 29, 3) := by decide +kernel
theorem d_X12_settles_40 : decode cX12_settles 40 = .ok (.aload_n 0, 1) := by decide +kernel
theorem d_X12_settles_41 : decode cX12_settles 41 = .ok (.getfield 159, 3) := by decide +kernel
theorem d_X12_settles_44 : decode cX12_settles 44 = .ok (.iaload, 1) := by decide +kernel
theorem d_X12_settles_45 : decode cX12_settles 45 = .ok (.iconst 0, 1) := by decide +kernel
theorem d_X12_settles_46 : decode cX12_settles 46 = .ok (.invokevirtual 166, 3) := by decide +kernel
theorem d_X12_settles_49 : decode cX12_settles 49 = .ok (.aload_n 0, 1) := by decide +kernel
theorem d_X12_settles_50 : decode cX12_settles 50 = .ok (.getfield 29, 3) := by decide +kernel
theorem d_X12_settles_53 : decode cX12_settles 53 = .ok (.aload_n 0, 1) := by decide +kernel
theorem d_X12_settles_54 : decode cX12_settles 54 = .ok (.getfield 159, 3) := by decide +kernel
theorem d_X12_settles_57 : decode cX12_settles 57 = .ok (.iaload, 1) := by decide +kernel
theorem d_X12_settles_58 : decode cX12_settles 58 = .ok (.bipush 11, 2) := by decide +kernel
theorem d_X12_settles_60 : decode cX12_settles 60 = .ok (.if_icmp .ne (-60), 3) := by decide +kernel
theorem d_X12_settles_63 : decode cX12_settles 63 = .ok (.aload_n 0, 1) := by decide +kernel
theorem d_X12_settles_64 : decode cX12_settles 64 = .ok (.dup, 1) := by decide +kernel
theorem d_X12_settles_65 : decode cX12_settles 65 = .ok (.getfield 156, 3) := by decide +kernel
theorem d_X12_settles_68 : decode cX12_settles 68 = .ok (.iconst 1, 1) := by decide +kernel
theorem d_X12_settles_69 : decode cX12_settles 69 = .ok (.isub, 1) := by decide +kernel
theorem d_X12_settles_70 : decode cX12_settles 70 = .ok (.putfield 156, 3) := by decide +kernel
theorem d_X12_settles_73 : decode cX12_settles 73 = .ok (.goto (-73), 3) := by decide +kernel
theorem d_X12_settles_76 : decode cX12_settles 76 = .ok (.return_, 1) := by decide +kernel
abbrev X_X12_settles : gX := (RX12, cX12_settles, 2, none, false)
def F_X12_settles_b0 (k0 : Option Nat → Int32 → gM → Option gM) (l0 : Option Nat) (l1 : Int32) (M : gM) : Option gM :=
  (gI 12 M l0 16).bind fun v1 => if v1 ≤ 0 then (some M) else ((gR 12 M l0 15).bind fun v2 => (gI 12 M l0 16).bind fun v3 => (aI 20 M v2 (v3 - (1 : Int32))).bind fun v4 => (F_X12_strength v4 M).bind fun v5 => if v5 < l1 then (some M) else ((gI 12 M l0 16).bind fun v6 => (pI 12 M l0 16 (v6 - (1 : Int32))).bind fun M7 => (gR 12 M7 l0 15).bind fun v8 => (gI 12 M7 l0 16).bind fun v9 => (aI 20 M7 v8 v9).bind fun v10 => (gO 12 M7 l0).bind fun i11 => (F_X12_puts (some i11) v10 (0 : Int32) M7).bind fun M12 => (gR 12 M12 (some i11) 15).bind fun v13 => (gI 12 M12 (some i11) 16).bind fun v14 => (aI 20 M12 v13 v14).bind fun v15 => if v15 = (11 : Int32) then ((gI 12 M12 (some i11) 13).bind fun v16 => (pI 12 M12 (some i11) 13 (v16 - (1 : Int32))).bind fun M17 => k0 (some i11) l1 M17) else (k0 (some i11) l1 M12)))
set_option maxHeartbeats 1000000 in
theorem T_X12_settles_b0 (k0 : Option Nat → Int32 → gM → Option gM) (r : gM) (hk0 : ∀ (l0 : Option Nat) (l1 : Int32) (M : gM), k0 l0 l1 M = some r → GW 1 0 0 X_X12_settles 0 [(0, vr l0), (1, vi l1)] [] M (none, r)) (l0 : Option Nat) (l1 : Int32) (M : gM) (h : F_X12_settles_b0 k0 l0 l1 M = some r) : GW 1 0 0 X_X12_settles 0 [(0, vr l0), (1, vi l1)] [] M (none, r) := by
  delta F_X12_settles_b0 at h
  refine GW_aload_n (X := X_X12_settles) (pc := 0) d_X12_settles_0 rfl 0 rfl ?_
  replace h := g_bd h
  obtain ⟨v1, hv1, h⟩ := h
  refine GW_getI (X := X_X12_settles) (pc := 1) f_X12_159 d_X12_settles_1 hv1 (Or.inl ty_12_16) ?_
  refine GW_if_le (X := X_X12_settles) (pc := 4) 76 d_X12_settles_4 (by decide) (fun c => ?_) (fun c => ?_)
  · replace h := g_ip c h
    replace h := Option.some.inj h
    subst h
    exact GW_ret (X := X_X12_settles) (pc := 76) d_X12_settles_76 rfl trivial
  · replace h := g_ie c h
    refine GW_aload_n (X := X_X12_settles) (pc := 7) d_X12_settles_7 rfl 0 rfl ?_
    replace h := g_bd h
    obtain ⟨v2, hv2, h⟩ := h
    refine GW_getR (X := X_X12_settles) (pc := 8) f_X12_29 d_X12_settles_8 hv2 (Or.inr ⟨_, ty_12_15⟩) ?_
    refine GW_aload_n (X := X_X12_settles) (pc := 11) d_X12_settles_11 rfl 0 rfl ?_
    replace h := g_bd h
    obtain ⟨v3, hv3, h⟩ := h
    refine GW_getI (X := X_X12_settles) (pc := 12) f_X12_159 d_X12_settles_12 hv3 (Or.inl ty_12_16) ?_
    refine GW_iconst (X := X_X12_settles) (pc := 15) (v := 1) d_X12_settles_15 (by decide) ?_
    refine GW_isub (X := X_X12_settles) (pc := 16) d_X12_settles_16 ?_
    replace h := g_bd h
    obtain ⟨v4, hv4, h⟩ := h
    refine GW_iald (X := X_X12_settles) (pc := 17) d_X12_settles_17 hv4 ?_
    replace h := g_bd h
    obtain ⟨v5, hv5, h⟩ := h
    refine GW_callS (X := X_X12_settles) (pc := 18) (bc0 := 0) (bs0 := 0) (r := some (vi v5)) (M2 := M) (T_X12_strength v4 M v5 hv5) (Nat.le_of_ble_eq_true rfl) (Nat.le_of_ble_eq_true rfl) yc_X12_strength ⟨m_1390, m_1391, m_127, m_1392⟩ d_X12_settles_18 rfl (st := []) rfl (Nat.le_of_ble_eq_true rfl) (Nat.le_of_ble_eq_true rfl) (Nat.le_of_ble_eq_true rfl) (st2 := [vi v5]) rfl ?_
    refine GW_iload_n (X := X_X12_settles) (pc := 21) d_X12_settles_21 rfl 1 rfl ?_
    refine GW_icmp_lt (X := X_X12_settles) (pc := 22) 76 d_X12_settles_22 (by decide) (fun c => ?_) (fun c => ?_)
    · replace h := g_ip c h
      replace h := Option.some.inj h
      subst h
      exact GW_ret (X := X_X12_settles) (pc := 76) d_X12_settles_76 rfl trivial
    · replace h := g_ie c h
      refine GW_aload_n (X := X_X12_settles) (pc := 25) d_X12_settles_25 rfl 0 rfl ?_
      refine GW_dup (X := X_X12_settles) (pc := 26) d_X12_settles_26 rfl ?_
      replace h := g_bd h
      obtain ⟨v6, hv6, h⟩ := h
      refine GW_getI (X := X_X12_settles) (pc := 27) f_X12_159 d_X12_settles_27 hv6 (Or.inl ty_12_16) ?_
      refine GW_iconst (X := X_X12_settles) (pc := 30) (v := 1) d_X12_settles_30 (by decide) ?_
      refine GW_isub (X := X_X12_settles) (pc := 31) d_X12_settles_31 ?_
      replace h := g_bd h
      obtain ⟨M7, hM7, h⟩ := h
      refine GW_putI (X := X_X12_settles) (pc := 32) f_X12_159 d_X12_settles_32 hM7 (Or.inl fi_12_16) (Or.inl ty_12_16) ?_
      refine GW_aload_n (X := X_X12_settles) (pc := 35) d_X12_settles_35 rfl 0 rfl ?_
      refine GW_aload_n (X := X_X12_settles) (pc := 36) d_X12_settles_36 rfl 0 rfl ?_
      replace h := g_bd h
      obtain ⟨v8, hv8, h⟩ := h
      refine GW_getR (X := X_X12_settles) (pc := 37) f_X12_29 d_X12_settles_37 hv8 (Or.inr ⟨_, ty_12_15⟩) ?_
      refine GW_aload_n (X := X_X12_settles) (pc := 40) d_X12_settles_40 rfl 0 rfl ?_
      replace h := g_bd h
      obtain ⟨v9, hv9, h⟩ := h
      refine GW_getI (X := X_X12_settles) (pc := 41) f_X12_159 d_X12_settles_41 hv9 (Or.inl ty_12_16) ?_
      replace h := g_bd h
      obtain ⟨v10, hv10, h⟩ := h
      refine GW_iald (X := X_X12_settles) (pc := 44) d_X12_settles_44 hv10 ?_
      refine GW_iconst (X := X_X12_settles) (pc := 45) (v := 0) d_X12_settles_45 (by decide) ?_
      replace h := g_bd h
      obtain ⟨i11, hi11, h⟩ := h
      obtain ⟨rfl, ki11⟩ := g_gO hi11
      replace h := g_bd h
      obtain ⟨M12, hM12, h⟩ := h
      refine GW_callV (X := X_X12_settles) (pc := 46) (bc0 := 0) (bs0 := 0) (r := none) (M2 := M12) (c0 := 12) (T_X12_puts (some i11) v10 (0 : Int32) M7 M12 hM12) (Nat.le_of_ble_eq_true rfl) (Nat.le_of_ble_eq_true rfl) rfl g_cok12 ki11 yc_X12_puts ⟨m_1342, m_1344, m_65, m_127, m_1345⟩ d_X12_settles_46 rfl (st := []) rfl (Nat.le_of_ble_eq_true rfl) (Nat.le_of_ble_eq_true rfl) (Nat.le_of_ble_eq_true rfl) (st2 := []) rfl ?_
      refine GW_aload_n (X := X_X12_settles) (pc := 49) d_X12_settles_49 rfl 0 rfl ?_
      replace h := g_bd h
      obtain ⟨v13, hv13, h⟩ := h
      refine GW_getR (X := X_X12_settles) (pc := 50) f_X12_29 d_X12_settles_50 hv13 (Or.inr ⟨_, ty_12_15⟩) ?_
      refine GW_aload_n (X := X_X12_settles) (pc := 53) d_X12_settles_53 rfl 0 rfl ?_
      replace h := g_bd h
      obtain ⟨v14, hv14, h⟩ := h
      refine GW_getI (X := X_X12_settles) (pc := 54) f_X12_159 d_X12_settles_54 hv14 (Or.inl ty_12_16) ?_
      replace h := g_bd h
      obtain ⟨v15, hv15, h⟩ := h
      refine GW_iald (X := X_X12_settles) (pc := 57) d_X12_settles_57 hv15 ?_
      refine GW_bipush (X := X_X12_settles) (pc := 58) (v := 11) d_X12_settles_58 (by decide) ?_
      refine GW_icmp_ne (X := X_X12_settles) (pc := 60) 0 d_X12_settles_60 (by decide) (fun c => ?_) (fun c => ?_)
      · replace h := g_ie c h
        exact hk0 (some i11) l1 M12 h
      · replace h := g_ip c h
        refine GW_aload_n (X := X_X12_settles) (pc := 63) d_X12_settles_63 rfl 0 rfl ?_
        refine GW_dup (X := X_X12_settles) (pc := 64) d_X12_settles_64 rfl ?_
        replace h := g_bd h
        obtain ⟨v16, hv16, h⟩ := h
        refine GW_getI (X := X_X12_settles) (pc := 65) f_X12_156 d_X12_settles_65 hv16 (Or.inl ty_12_13) ?_
        refine GW_iconst (X := X_X12_settles) (pc := 68) (v := 1) d_X12_settles_68 (by decide) ?_
        refine GW_isub (X := X_X12_settles) (pc := 69) d_X12_settles_69 ?_
        replace h := g_bd h
        obtain ⟨M17, hM17, h⟩ := h
        refine GW_putI (X := X_X12_settles) (pc := 70) f_X12_156 d_X12_settles_70 hM17 (Or.inl fi_12_13) (Or.inl ty_12_13) ?_
        refine GW_goto (X := X_X12_settles) (pc := 73) 0 d_X12_settles_73 (by decide) ?_
        exact hk0 (some i11) l1 M17 h
def F_X12_settles_L0 : Nat → Option Nat → Int32 → gM → Option gM
  | 0 => fun _ _ _ => none
  | n + 1 => F_X12_settles_b0 (F_X12_settles_L0 n)
theorem T_X12_settles_L0 (r : gM) : ∀ (n : Nat) (l0 : Option Nat) (l1 : Int32) (M : gM), F_X12_settles_L0 n l0 l1 M = some r → GW 1 0 0 X_X12_settles 0 [(0, vr l0), (1, vi l1)] [] M (none, r) := by
  intro n
  induction n with
  | zero => intro l0 l1 M h; exact g_no h
  | succ n ih => intro l0 l1 M h; exact T_X12_settles_b0 (F_X12_settles_L0 n) r ih l0 l1 M h
def F_X12_settles (l0 : Option Nat) (l1 : Int32) (M : gM) : Option gM := F_X12_settles_L0 g_fuel l0 l1 M
theorem T_X12_settles (l0 : Option Nat) (l1 : Int32) (M : gM) (r : gM) (h : F_X12_settles l0 l1 M = some r) : g_Met 1 0 0 yX12_settles X_X12_settles [vr l0, vi l1] M (none, r) :=
  g_Met_of pn_RX12 rfl (Nat.le_of_ble_eq_true rfl) (fun h => by cases h) (GW_sub [0, 1] rfl (T_X12_settles_L0 r g_fuel l0 l1 M h))
/-! ForgetHeirsModel.isInside()Z -/
theorem d_X12_isInside_0 : decode cX12_isInside 0 = .ok (.iconst 0, 1) := by decide +kernel
theorem d_X12_isInside_1 : decode cX12_isInside 1 = .ok (.istore_n 1, 1) := by decide +kernel
theorem d_X12_isInside_2 : decode cX12_isInside 2 = .ok (.iload_n 1, 1) := by decide +kernel
theorem d_X12_isInside_3 : decode cX12_isInside 3 = .ok (.aload_n 0, 1) := by decide +kernel
theorem d_X12_isInside_4 : decode cX12_isInside 4 = .ok (.getfield 159, 3) := by decide +kernel
theorem d_X12_isInside_7 : decode cX12_isInside 7 = .ok (.if_icmp .ge 22, 3) := by decide +kernel
theorem d_X12_isInside_10 : decode cX12_isInside 10 = .ok (.aload_n 0, 1) := by decide +kernel
theorem d_X12_isInside_11 : decode cX12_isInside 11 = .ok (.getfield 29, 3) := by decide +kernel
theorem d_X12_isInside_14 : decode cX12_isInside 14 = .ok (.iload_n 1, 1) := by decide +kernel
theorem d_X12_isInside_15 : decode cX12_isInside 15 = .ok (.iaload, 1) := by decide +kernel
theorem d_X12_isInside_16 : decode cX12_isInside 16 = .ok (.bipush 91, 2) := by decide +kernel
theorem d_X12_isInside_18 : decode cX12_isInside 18 = .ok (.if_icmp .ne 5, 3) := by decide +kernel
theorem d_X12_isInside_21 : decode cX12_isInside 21 = .ok (.iconst 1, 1) := by decide +kernel
theorem d_X12_isInside_22 : decode cX12_isInside 22 = .ok (.ireturn, 1) := by decide +kernel
theorem d_X12_isInside_23 : decode cX12_isInside 23 = .ok (.iinc 1 1, 3) := by decide +kernel
theorem d_X12_isInside_26 : decode cX12_isInside 26 = .ok (.goto (-24), 3) := by decide +kernel
theorem d_X12_isInside_29 : decode cX12_isInside 29 = .ok (.iconst 0, 1) := by decide +kernel
theorem d_X12_isInside_30 : decode cX12_isInside 30 = .ok (.ireturn, 1) := by decide +kernel
abbrev X_X12_isInside : gX := (RX12, cX12_isInside, 2, (some .boolean), false)
def F_X12_isInside_b2 (k2 : Option Nat → Int32 → Option Int32) (M : gM) (l0 : Option Nat) (l1 : Int32) : Option Int32 :=
  (gI 12 M l0 16).bind fun v1 => if v1 ≤ l1 then (some (0 : Int32)) else ((gR 12 M l0 15).bind fun v2 => (aI 20 M v2 l1).bind fun v3 => if v3 = (91 : Int32) then (some (1 : Int32)) else (k2 l0 (l1 + 1)))
theorem T_X12_isInside_b2 (k2 : Option Nat → Int32 → Option Int32) (M : gM) (r : Int32) (hk2 : ∀ (l0 : Option Nat) (l1 : Int32), k2 l0 l1 = some r → GW 0 0 0 X_X12_isInside 2 [(0, vr l0), (1, vi l1)] [] M (some (vi r), M)) (l0 : Option Nat) (l1 : Int32) (h : F_X12_isInside_b2 k2 M l0 l1 = some r) : GW 0 0 0 X_X12_isInside 2 [(0, vr l0), (1, vi l1)] [] M (some (vi r), M) := by
  delta F_X12_isInside_b2 at h
  refine GW_iload_n (X := X_X12_isInside) (pc := 2) d_X12_isInside_2 rfl 1 rfl ?_
  refine GW_aload_n (X := X_X12_isInside) (pc := 3) d_X12_isInside_3 rfl 0 rfl ?_
  replace h := g_bd h
  obtain ⟨v1, hv1, h⟩ := h
  refine GW_getI (X := X_X12_isInside) (pc := 4) f_X12_159 d_X12_isInside_4 hv1 (Or.inl ty_12_16) ?_
  refine GW_icmp_ge (X := X_X12_isInside) (pc := 7) 29 d_X12_isInside_7 (by decide) (fun c => ?_) (fun c => ?_)
  · replace h := g_ip c h
    refine GW_iconst (X := X_X12_isInside) (pc := 29) (v := 0) d_X12_isInside_29 (by decide) ?_
    replace h := Option.some.inj h
    subst h
    exact GW_ret (X := X_X12_isInside) (pc := 30) d_X12_isInside_30 rfl g_rok0
  · replace h := g_ie c h
    refine GW_aload_n (X := X_X12_isInside) (pc := 10) d_X12_isInside_10 rfl 0 rfl ?_
    replace h := g_bd h
    obtain ⟨v2, hv2, h⟩ := h
    refine GW_getR (X := X_X12_isInside) (pc := 11) f_X12_29 d_X12_isInside_11 hv2 (Or.inr ⟨_, ty_12_15⟩) ?_
    refine GW_iload_n (X := X_X12_isInside) (pc := 14) d_X12_isInside_14 rfl 1 rfl ?_
    replace h := g_bd h
    obtain ⟨v3, hv3, h⟩ := h
    refine GW_iald (X := X_X12_isInside) (pc := 15) d_X12_isInside_15 hv3 ?_
    refine GW_bipush (X := X_X12_isInside) (pc := 16) (v := 91) d_X12_isInside_16 (by decide) ?_
    refine GW_icmp_ne (X := X_X12_isInside) (pc := 18) 23 d_X12_isInside_18 (by decide) (fun c => ?_) (fun c => ?_)
    · replace h := g_ie c h
      refine GW_iinc (j := 1) (X := X_X12_isInside) (pc := 23) d_X12_isInside_23 rfl (congrArg (fun z => _ + z) (by decide : Int32.ofInt 1 = (1 : Int32))) (Nat.le_of_ble_eq_true rfl) (lv2 := [(1, vi (l1 + 1)), (0, vr l0)]) rfl ?_
      refine GW_goto (X := X_X12_isInside) (pc := 26) 2 d_X12_isInside_26 (by decide) ?_
      refine GW_sub [1, 0] rfl ?_
      exact hk2 l0 (l1 + 1) h
    · replace h := g_ip c h
      refine GW_iconst (X := X_X12_isInside) (pc := 21) (v := 1) d_X12_isInside_21 (by decide) ?_
      replace h := Option.some.inj h
      subst h
      exact GW_ret (X := X_X12_isInside) (pc := 22) d_X12_isInside_22 rfl g_rok1
def F_X12_isInside_L2 (M : gM) : Nat → Option Nat → Int32 → Option Int32
  | 0 => fun _ _ => none
  | n + 1 => F_X12_isInside_b2 (F_X12_isInside_L2 M n) M
theorem T_X12_isInside_L2 (M : gM) (r : Int32) : ∀ (n : Nat) (l0 : Option Nat) (l1 : Int32), F_X12_isInside_L2 M n l0 l1 = some r → GW 0 0 0 X_X12_isInside 2 [(0, vr l0), (1, vi l1)] [] M (some (vi r), M) := by
  intro n
  induction n with
  | zero => intro l0 l1 h; exact g_no h
  | succ n ih => intro l0 l1 h; exact T_X12_isInside_b2 (F_X12_isInside_L2 M n) M r ih l0 l1 h
def F_X12_isInside_b0 (M : gM) (l0 : Option Nat) : Option Int32 :=
  F_X12_isInside_L2 M g_fuel l0 (0 : Int32)
theorem T_X12_isInside_b0 (M : gM) (r : Int32) (l0 : Option Nat) (h : F_X12_isInside_b0 M l0 = some r) : GW 0 0 0 X_X12_isInside 0 [(0, vr l0)] [] M (some (vi r), M) := by
  delta F_X12_isInside_b0 at h
  refine GW_iconst (X := X_X12_isInside) (pc := 0) (v := 0) d_X12_isInside_0 (by decide) ?_
  refine GW_istore_n (X := X_X12_isInside) (pc := 1) d_X12_isInside_1 rfl (Nat.le_of_ble_eq_true rfl) (lv2 := [(1, vi (0 : Int32)), (0, vr l0)]) rfl ?_
  refine GW_sub [1, 0] rfl ?_
  exact T_X12_isInside_L2 M r g_fuel l0 (0 : Int32) h
def F_X12_isInside (l0 : Option Nat) (M : gM) : Option Int32 := F_X12_isInside_b0 M l0
theorem T_X12_isInside (l0 : Option Nat) (M : gM) (r : Int32) (h : F_X12_isInside l0 M = some r) : g_Met 0 0 0 yX12_isInside X_X12_isInside [vr l0] M (some (vi r), M) :=
  g_Met_of pn_RX12 rfl (Nat.le_of_ble_eq_true rfl) (fun h => by cases h) (GW_sub [0] rfl (T_X12_isInside_b0 M r l0 h))
/-! ForgetHeirsModel.closes()V -/
theorem d_X12_closes_0 : decode cX12_closes 0 = .ok (.aload_n 0, 1) := by decide +kernel
theorem d_X12_closes_1 : decode cX12_closes 1 = .ok (.iconst 3, 1) := by decide +kernel
theorem d_X12_closes_2 : decode cX12_closes 2 = .ok (.invokevirtual 198, 3) := by decide +kernel
theorem d_X12_closes_5 : decode cX12_closes 5 = .ok (.aload_n 0, 1) := by decide +kernel
theorem d_X12_closes_6 : decode cX12_closes 6 = .ok (.invokevirtual 93, 3) := by decide +kernel
theorem d_X12_closes_9 : decode cX12_closes 9 = .ok (.bipush 93, 2) := by decide +kernel
theorem d_X12_closes_11 : decode cX12_closes 11 = .ok (.if_icmp .ne 53, 3) := by decide +kernel
theorem d_X12_closes_14 : decode cX12_closes 14 = .ok (.aload_n 0, 1) := by decide +kernel
theorem d_X12_closes_15 : decode cX12_closes 15 = .ok (.invokevirtual 201, 3) := by decide +kernel
theorem d_X12_closes_18 : decode cX12_closes 18 = .ok (.ifCond .eq 46, 3) := by decide +kernel
theorem d_X12_closes_21 : decode cX12_closes 21 = .ok (.aload_n 0, 1) := by decide +kernel
theorem d_X12_closes_22 : decode cX12_closes 22 = .ok (.iconst 1, 1) := by decide +kernel
theorem d_X12_closes_23 : decode cX12_closes 23 = .ok (.invokevirtual 198, 3) := by decide +kernel
theorem d_X12_closes_26 : decode cX12_closes 26 = .ok (.aload_n 0, 1) := by decide +kernel
theorem d_X12_closes_27 : decode cX12_closes 27 = .ok (.dup, 1) := by decide +kernel
theorem d_X12_closes_28 : decode cX12_closes 28 = .ok (.getfield 159, 3) := by decide +kernel
theorem d_X12_closes_31 : decode cX12_closes 31 = .ok (.iconst 1, 1) := by decide +kernel
theorem d_X12_closes_32 : decode cX12_closes 32 = .ok (.isub, 1) := by decide +kernel
theorem d_X12_closes_33 : decode cX12_closes 33 = .ok (.putfield 159, 3) := by decide +kernel
theorem d_X12_closes_36 : decode cX12_closes 36 = .ok (.aload_n 0, 1) := by decide +kernel
theorem d_X12_closes_37 : decode cX12_closes 37 = .ok (.dup, 1) := by decide +kernel
theorem d_X12_closes_38 : decode cX12_closes 38 = .ok (.getfield 156, 3) := by decide +kernel
theorem d_X12_closes_41 : decode cX12_closes 41 = .ok (.iconst 1, 1) := by decide +kernel
theorem d_X12_closes_42 : decode cX12_closes 42 = .ok (.isub, 1) := by decide +kernel
theorem d_X12_closes_43 : decode cX12_closes 43 = .ok (.putfield 156, 3) := by decide +kernel
theorem d_X12_closes_46 : decode cX12_closes 46 = .ok (.aload_n 0, 1) := by decide +kernel
theorem d_X12_closes_47 : decode cX12_closes 47 = .ok (.dup, 1) := by decide +kernel
theorem d_X12_closes_48 : decode cX12_closes 48 = .ok (.getfield 90, 3) := by decide +kernel
theorem d_X12_closes_51 : decode cX12_closes 51 = .ok (.iconst 1, 1) := by decide +kernel
theorem d_X12_closes_52 : decode cX12_closes 52 = .ok (.iadd, 1) := by decide +kernel
theorem d_X12_closes_53 : decode cX12_closes 53 = .ok (.putfield 90, 3) := by decide +kernel
theorem d_X12_closes_56 : decode cX12_closes 56 = .ok (.aload_n 0, 1) := by decide +kernel
theorem d_X12_closes_57 : decode cX12_closes 57 = .ok (.iconst 3, 1) := by decide +kernel
theorem d_X12_closes_58 : decode cX12_closes 58 = .ok (.invokevirtual 198, 3) := by decide +kernel
theorem d_X12_closes_61 : decode cX12_closes 61 = .ok (.goto (-56), 3) := by decide +kernel
theorem d_X12_closes_64 : decode cX12_closes 64 = .ok (.return_, 1) := by decide +kernel
abbrev X_X12_closes : gX := (RX12, cX12_closes, 1, none, false)
def F_X12_closes_b5 (k5 : Option Nat → gM → Option gM) (l0 : Option Nat) (M : gM) : Option gM :=
  (gO 12 M l0).bind fun i1 => (F_X12_see (some i1) M).bind fun (v2, M3) => if v2 = (93 : Int32) then ((gC 12 M3 i1).bind fun _ => (F_X12_isInside (some i1) M3).bind fun v5 => if v5 = 0 then (some M3) else ((F_X12_settles (some i1) (1 : Int32) M3).bind fun M6 => (gI 12 M6 (some i1) 16).bind fun v7 => (pI 12 M6 (some i1) 16 (v7 - (1 : Int32))).bind fun M8 => (gI 12 M8 (some i1) 13).bind fun v9 => (pI 12 M8 (some i1) 13 (v9 - (1 : Int32))).bind fun M10 => (gI 12 M10 (some i1) 8).bind fun v11 => (pI 12 M10 (some i1) 8 (v11 + (1 : Int32))).bind fun M12 => (gC 12 M12 i1).bind fun _ => (F_X12_settles (some i1) (3 : Int32) M12).bind fun M14 => k5 (some i1) M14)) else (some M3)
set_option maxHeartbeats 1000000 in
theorem T_X12_closes_b5 (k5 : Option Nat → gM → Option gM) (r : gM) (hk5 : ∀ (l0 : Option Nat) (M : gM), k5 l0 M = some r → GW 2 0 0 X_X12_closes 5 [(0, vr l0)] [] M (none, r)) (l0 : Option Nat) (M : gM) (h : F_X12_closes_b5 k5 l0 M = some r) : GW 2 0 0 X_X12_closes 5 [(0, vr l0)] [] M (none, r) := by
  delta F_X12_closes_b5 at h
  refine GW_aload_n (X := X_X12_closes) (pc := 5) d_X12_closes_5 rfl 0 rfl ?_
  replace h := g_bd h
  obtain ⟨i1, hi1, h⟩ := h
  obtain ⟨rfl, ki1⟩ := g_gO hi1
  replace h := g_bd h
  obtain ⟨⟨v2, M3⟩, hv2, h⟩ := h
  dsimp only at h
  refine GW_callV (X := X_X12_closes) (pc := 6) (bc0 := 0) (bs0 := 0) (r := some (vi v2)) (M2 := M3) (c0 := 12) (T_X12_see (some i1) M (v2, M3) hv2) (Nat.le_of_ble_eq_true rfl) (Nat.le_of_ble_eq_true rfl) rfl g_cok12 ki1 yc_X12_see ⟨m_1239, m_1241, m_43, m_127, m_1242⟩ d_X12_closes_6 rfl (st := []) rfl (Nat.le_of_ble_eq_true rfl) (Nat.le_of_ble_eq_true rfl) (Nat.le_of_ble_eq_true rfl) (st2 := [vi v2]) rfl ?_
  refine GW_bipush (X := X_X12_closes) (pc := 9) (v := 93) d_X12_closes_9 (by decide) ?_
  refine GW_icmp_ne (X := X_X12_closes) (pc := 11) 64 d_X12_closes_11 (by decide) (fun c => ?_) (fun c => ?_)
  · replace h := g_ie c h
    replace h := Option.some.inj h
    subst h
    exact GW_ret (X := X_X12_closes) (pc := 64) d_X12_closes_64 rfl trivial
  · replace h := g_ip c h
    refine GW_aload_n (X := X_X12_closes) (pc := 14) d_X12_closes_14 rfl 0 rfl ?_
    replace h := g_bd h
    obtain ⟨_, kk4, h⟩ := h
    replace kk4 := g_gC kk4
    replace h := g_bd h
    obtain ⟨v5, hv5, h⟩ := h
    refine GW_callV (X := X_X12_closes) (pc := 15) (bc0 := 0) (bs0 := 0) (r := some (vi v5)) (M2 := M3) (c0 := 12) (T_X12_isInside (some i1) M3 v5 hv5) (Nat.le_of_ble_eq_true rfl) (Nat.le_of_ble_eq_true rfl) rfl g_cok12 kk4 yc_X12_isInside ⟨m_1393, m_1395, m_74, m_127, m_1396⟩ d_X12_closes_15 rfl (st := []) rfl (Nat.le_of_ble_eq_true rfl) (Nat.le_of_ble_eq_true rfl) (Nat.le_of_ble_eq_true rfl) (st2 := [vi v5]) rfl ?_
    refine GW_if_eq (X := X_X12_closes) (pc := 18) 64 d_X12_closes_18 (by decide) (fun c => ?_) (fun c => ?_)
    · replace h := g_ip c h
      replace h := Option.some.inj h
      subst h
      exact GW_ret (X := X_X12_closes) (pc := 64) d_X12_closes_64 rfl trivial
    · replace h := g_ie c h
      refine GW_aload_n (X := X_X12_closes) (pc := 21) d_X12_closes_21 rfl 0 rfl ?_
      refine GW_iconst (X := X_X12_closes) (pc := 22) (v := 1) d_X12_closes_22 (by decide) ?_
      replace h := g_bd h
      obtain ⟨M6, hM6, h⟩ := h
      refine GW_callV (X := X_X12_closes) (pc := 23) (bc0 := 0) (bs0 := 0) (r := none) (M2 := M6) (c0 := 12) (T_X12_settles (some i1) (1 : Int32) M3 M6 hM6) (Nat.le_of_ble_eq_true rfl) (Nat.le_of_ble_eq_true rfl) rfl g_cok12 kk4 yc_X12_settles ⟨m_1386, m_1388, m_73, m_127, m_1389⟩ d_X12_closes_23 rfl (st := []) rfl (Nat.le_of_ble_eq_true rfl) (Nat.le_of_ble_eq_true rfl) (Nat.le_of_ble_eq_true rfl) (st2 := []) rfl ?_
      refine GW_aload_n (X := X_X12_closes) (pc := 26) d_X12_closes_26 rfl 0 rfl ?_
      refine GW_dup (X := X_X12_closes) (pc := 27) d_X12_closes_27 rfl ?_
      replace h := g_bd h
      obtain ⟨v7, hv7, h⟩ := h
      refine GW_getI (X := X_X12_closes) (pc := 28) f_X12_159 d_X12_closes_28 hv7 (Or.inl ty_12_16) ?_
      refine GW_iconst (X := X_X12_closes) (pc := 31) (v := 1) d_X12_closes_31 (by decide) ?_
      refine GW_isub (X := X_X12_closes) (pc := 32) d_X12_closes_32 ?_
      replace h := g_bd h
      obtain ⟨M8, hM8, h⟩ := h
      refine GW_putI (X := X_X12_closes) (pc := 33) f_X12_159 d_X12_closes_33 hM8 (Or.inl fi_12_16) (Or.inl ty_12_16) ?_
      refine GW_aload_n (X := X_X12_closes) (pc := 36) d_X12_closes_36 rfl 0 rfl ?_
      refine GW_dup (X := X_X12_closes) (pc := 37) d_X12_closes_37 rfl ?_
      replace h := g_bd h
      obtain ⟨v9, hv9, h⟩ := h
      refine GW_getI (X := X_X12_closes) (pc := 38) f_X12_156 d_X12_closes_38 hv9 (Or.inl ty_12_13) ?_
      refine GW_iconst (X := X_X12_closes) (pc := 41) (v := 1) d_X12_closes_41 (by decide) ?_
      refine GW_isub (X := X_X12_closes) (pc := 42) d_X12_closes_42 ?_
      replace h := g_bd h
      obtain ⟨M10, hM10, h⟩ := h
      refine GW_putI (X := X_X12_closes) (pc := 43) f_X12_156 d_X12_closes_43 hM10 (Or.inl fi_12_13) (Or.inl ty_12_13) ?_
      refine GW_aload_n (X := X_X12_closes) (pc := 46) d_X12_closes_46 rfl 0 rfl ?_
      refine GW_dup (X := X_X12_closes) (pc := 47) d_X12_closes_47 rfl ?_
      replace h := g_bd h
      obtain ⟨v11, hv11, h⟩ := h
      refine GW_getI (X := X_X12_closes) (pc := 48) f_X12_90 d_X12_closes_48 hv11 (Or.inl ty_12_8) ?_
      refine GW_iconst (X := X_X12_closes) (pc := 51) (v := 1) d_X12_closes_51 (by decide) ?_
      refine GW_iadd (X := X_X12_closes) (pc := 52) d_X12_closes_52 ?_
      replace h := g_bd h
      obtain ⟨M12, hM12, h⟩ := h
      refine GW_putI (X := X_X12_closes) (pc := 53) f_X12_90 d_X12_closes_53 hM12 (Or.inl fi_12_8) (Or.inl ty_12_8) ?_
      refine GW_aload_n (X := X_X12_closes) (pc := 56) d_X12_closes_56 rfl 0 rfl ?_
      refine GW_iconst (X := X_X12_closes) (pc := 57) (v := 3) d_X12_closes_57 (by decide) ?_
      replace h := g_bd h
      obtain ⟨_, kk13, h⟩ := h
      replace kk13 := g_gC kk13
      replace h := g_bd h
      obtain ⟨M14, hM14, h⟩ := h
      refine GW_callV (X := X_X12_closes) (pc := 58) (bc0 := 0) (bs0 := 0) (r := none) (M2 := M14) (c0 := 12) (T_X12_settles (some i1) (3 : Int32) M12 M14 hM14) (Nat.le_of_ble_eq_true rfl) (Nat.le_of_ble_eq_true rfl) rfl g_cok12 kk13 yc_X12_settles ⟨m_1386, m_1388, m_73, m_127, m_1389⟩ d_X12_closes_58 rfl (st := []) rfl (Nat.le_of_ble_eq_true rfl) (Nat.le_of_ble_eq_true rfl) (Nat.le_of_ble_eq_true rfl) (st2 := []) rfl ?_
      refine GW_goto (X := X_X12_closes) (pc := 61) 5 d_X12_closes_61 (by decide) ?_
      exact hk5 (some i1) M14 h
def F_X12_closes_L5 : Nat → Option Nat → gM → Option gM
  | 0 => fun _ _ => none
  | n + 1 => F_X12_closes_b5 (F_X12_closes_L5 n)
theorem T_X12_closes_L5 (r : gM) : ∀ (n : Nat) (l0 : Option Nat) (M : gM), F_X12_closes_L5 n l0 M = some r → GW 2 0 0 X_X12_closes 5 [(0, vr l0)] [] M (none, r) := by
  intro n
  induction n with
  | zero => intro l0 M h; exact g_no h
  | succ n ih => intro l0 M h; exact T_X12_closes_b5 (F_X12_closes_L5 n) r ih l0 M h
def F_X12_closes_b0 (l0 : Option Nat) (M : gM) : Option gM :=
  (gO 12 M l0).bind fun i1 => (F_X12_settles (some i1) (3 : Int32) M).bind fun M2 => F_X12_closes_L5 g_fuel (some i1) M2
theorem T_X12_closes_b0 (r : gM) (l0 : Option Nat) (M : gM) (h : F_X12_closes_b0 l0 M = some r) : GW 2 0 0 X_X12_closes 0 [(0, vr l0)] [] M (none, r) := by
  delta F_X12_closes_b0 at h
  refine GW_aload_n (X := X_X12_closes) (pc := 0) d_X12_closes_0 rfl 0 rfl ?_
  refine GW_iconst (X := X_X12_closes) (pc := 1) (v := 3) d_X12_closes_1 (by decide) ?_
  replace h := g_bd h
  obtain ⟨i1, hi1, h⟩ := h
  obtain ⟨rfl, ki1⟩ := g_gO hi1
  replace h := g_bd h
  obtain ⟨M2, hM2, h⟩ := h
  refine GW_callV (X := X_X12_closes) (pc := 2) (bc0 := 0) (bs0 := 0) (r := none) (M2 := M2) (c0 := 12) (T_X12_settles (some i1) (3 : Int32) M M2 hM2) (Nat.le_of_ble_eq_true rfl) (Nat.le_of_ble_eq_true rfl) rfl g_cok12 ki1 yc_X12_settles ⟨m_1386, m_1388, m_73, m_127, m_1389⟩ d_X12_closes_2 rfl (st := []) rfl (Nat.le_of_ble_eq_true rfl) (Nat.le_of_ble_eq_true rfl) (Nat.le_of_ble_eq_true rfl) (st2 := []) rfl ?_
  exact T_X12_closes_L5 r g_fuel (some i1) M2 h
def F_X12_closes (l0 : Option Nat) (M : gM) : Option gM := F_X12_closes_b0 l0 M
theorem T_X12_closes (l0 : Option Nat) (M : gM) (r : gM) (h : F_X12_closes l0 M = some r) : g_Met 2 0 0 yX12_closes X_X12_closes [vr l0] M (none, r) :=
  g_Met_of pn_RX12 rfl (Nat.le_of_ble_eq_true rfl) (fun h => by cases h) (GW_sub [0] rfl (T_X12_closes_b0 r l0 M h))
/-! ForgetHeirsModel.tested()Z -/
theorem d_X12_tested_0 : decode cX12_tested 0 = .ok (.aload_n 0, 1) := by decide +kernel
theorem d_X12_tested_1 : decode cX12_tested 1 = .ok (.iconst 0, 1) := by decide +kernel
theorem d_X12_tested_2 : decode cX12_tested 2 = .ok (.putfield 159, 3) := by decide +kernel
theorem d_X12_tested_5 : decode cX12_tested 5 = .ok (.aload_n 0, 1) := by decide +kernel
theorem d_X12_tested_6 : decode cX12_tested 6 = .ok (.iconst 0, 1) := by decide +kernel
theorem d_X12_tested_7 : decode cX12_tested 7 = .ok (.putfield 156, 3) := by decide +kernel
theorem d_X12_tested_10 : decode cX12_tested 10 = .ok (.iconst 1, 1) := by decide +kernel
theorem d_X12_tested_11 : decode cX12_tested 11 = .ok (.istore_n 1, 1) := by decide +kernel
theorem d_X12_tested_12 : decode cX12_tested 12 = .ok (.iload_n 1, 1) := by decide +kernel
theorem d_X12_tested_13 : decode cX12_tested 13 = .ok (.ifCond .eq 99, 3) := by decide +kernel
theorem d_X12_tested_16 : decode cX12_tested 16 = .ok (.aload_n 0, 1) := by decide +kernel
theorem d_X12_tested_17 : decode cX12_tested 17 = .ok (.invokevirtual 204, 3) := by decide +kernel
theorem d_X12_tested_20 : decode cX12_tested 20 = .ok (.ifCond .ne 5, 3) := by decide +kernel
theorem d_X12_tested_23 : decode cX12_tested 23 = .ok (.iconst 0, 1) := by decide +kernel
theorem d_X12_tested_24 : decode cX12_tested 24 = .ok (.ireturn, 1) := by decide +kernel
theorem d_X12_tested_25 : decode cX12_tested 25 = .ok (.aload_n 0, 1) := by decide +kernel
theorem d_X12_tested_26 : decode cX12_tested 26 = .ok (.invokevirtual 207, 3) := by decide +kernel
theorem d_X12_tested_29 : decode cX12_tested 29 = .ok (.aload_n 0, 1) := by decide +kernel
theorem d_X12_tested_30 : decode cX12_tested 30 = .ok (.ldc2_w 210, 3) := by decide +kernel
theorem d_X12_tested_33 : decode cX12_tested 33 = .ok (.invokevirtual 101, 3) := by decide +kernel
theorem d_X12_tested_36 : decode cX12_tested 36 = .ok (.ifCond .ne 13, 3) := by decide +kernel
theorem d_X12_tested_39 : decode cX12_tested 39 = .ok (.aload_n 0, 1) := by decide +kernel
theorem d_X12_tested_40 : decode cX12_tested 40 = .ok (.ldc2_w 212, 3) := by decide +kernel
theorem d_X12_tested_43 : decode cX12_tested 43 = .ok (.invokevirtual 101, 3) := by decide +kernel
theorem d_X12_tested_46 : decode cX12_tested 46 = .ok (.ifCond .eq 7, 3) := by decide +kernel
theorem d_X12_tested_49 : decode cX12_tested 49 = .ok (.iconst 1, 1) := by decide +kernel
theorem d_X12_tested_50 : decode cX12_tested 50 = .ok (.goto 4, 3) := by decide +kernel
theorem d_X12_tested_53 : decode cX12_tested 53 = .ok (.iconst 0, 1) := by decide +kernel
theorem d_X12_tested_54 : decode cX12_tested 54 = .ok (.istore_n 1, 1) := by decide +kernel
theorem d_X12_tested_55 : decode cX12_tested 55 = .ok (.iload_n 1, 1) := by decide +kernel
theorem d_X12_tested_56 : decode cX12_tested 56 = .ok (.ifCond .eq (-44), 3) := by decide +kernel
theorem d_X12_tested_59 : decode cX12_tested 59 = .ok (.aload_n 0, 1) := by decide +kernel
theorem d_X12_tested_60 : decode cX12_tested 60 = .ok (.ldc2_w 210, 3) := by decide +kernel
theorem d_X12_tested_63 : decode cX12_tested 63 = .ok (.invokevirtual 101, 3) := by decide +kernel
theorem d_X12_tested_66 : decode cX12_tested 66 = .ok (.ifCond .eq 8, 3) := by decide +kernel
theorem d_X12_tested_69 : decode cX12_tested 69 = .ok (.bipush 12, 2) := by decide +kernel
theorem d_X12_tested_71 : decode cX12_tested 71 = .ok (.goto 5, 3) := by decide +kernel
theorem d_X12_tested_74 : decode cX12_tested 74 = .ok (.bipush 13, 2) := by decide +kernel
theorem d_X12_tested_76 : decode cX12_tested 76 = .ok (.istore_n 2, 1) := by decide +kernel
theorem d_X12_tested_77 : decode cX12_tested 77 = .ok (.aload_n 0, 1) := by decide +kernel
theorem d_X12_tested_78 : decode cX12_tested 78 = .ok (.invokevirtual 105, 3) := by decide +kernel
theorem d_X12_tested_81 : decode cX12_tested 81 = .ok (.aload_n 0, 1) := by decide +kernel
theorem d_X12_tested_82 : decode cX12_tested 82 = .ok (.iload_n 2, 1) := by decide +kernel
theorem d_X12_tested_83 : decode cX12_tested 83 = .ok (.invokestatic 162, 3) := by decide +kernel
theorem d_X12_tested_86 : decode cX12_tested 86 = .ok (.invokevirtual 198, 3) := by decide +kernel
theorem d_X12_tested_89 : decode cX12_tested 89 = .ok (.aload_n 0, 1) := by decide +kernel
theorem d_X12_tested_90 : decode cX12_tested 90 = .ok (.getfield 29, 3) := by decide +kernel
theorem d_X12_tested_93 : decode cX12_tested 93 = .ok (.aload_n 0, 1) := by decide +kernel
theorem d_X12_tested_94 : decode cX12_tested 94 = .ok (.getfield 159, 3) := by decide +kernel
theorem d_X12_tested_97 : decode cX12_tested 97 = .ok (.iload_n 2, 1) := by decide +kernel
theorem d_X12_tested_98 : decode cX12_tested 98 = .ok (.iastore, 1) := by decide +kernel
theorem d_X12_tested_99 : decode cX12_tested 99 = .ok (.aload_n 0, 1) := by decide +kernel
theorem d_X12_tested_100 : decode cX12_tested 100 = .ok (.dup, 1) := by decide +kernel
theorem d_X12_tested_101 : decode cX12_tested 101 = .ok (.getfield 159, 3) := by decide +kernel
theorem d_X12_tested_104 : decode cX12_tested 104 = .ok (.iconst 1, 1) := by decide +kernel
theorem d_X12_tested_105 : decode cX12_tested 105 = .ok (.iadd, 1) := by decide +kernel
theorem d_X12_tested_106 : decode cX12_tested 106 = .ok (.putfield 159, 3) := by decide +kernel
theorem d_X12_tested_109 : decode cX12_tested 109 = .ok (.goto (-97), 3) := by decide +kernel
theorem d_X12_tested_112 : decode cX12_tested 112 = .ok (.aload_n 0, 1) := by decide +kernel
theorem d_X12_tested_113 : decode cX12_tested 113 = .ok (.invokevirtual 201, 3) := by decide +kernel
theorem d_X12_tested_116 : decode cX12_tested 116 = .ok (.ifCond .eq 18, 3) := by decide +kernel
theorem d_X12_tested_119 : decode cX12_tested 119 = .ok (.aload_n 0, 1) := by decide +kernel
theorem d_X12_tested_120 : decode cX12_tested 120 = .ok (.invokevirtual 93, 3) := by decide +kernel
theorem d_X12_tested_123 : decode cX12_tested 123 = .ok (.pop, 1) := by decide +kernel
theorem d_X12_tested_124 : decode cX12_tested 124 = .ok (.aload_n 0, 1) := by decide +kernel
theorem d_X12_tested_125 : decode cX12_tested 125 = .ok (.iconst 0, 1) := by decide +kernel
theorem d_X12_tested_126 : decode cX12_tested 126 = .ok (.aload_n 0, 1) := by decide +kernel
theorem d_X12_tested_127 : decode cX12_tested 127 = .ok (.getfield 90, 3) := by decide +kernel
theorem d_X12_tested_130 : decode cX12_tested 130 = .ok (.invokevirtual 111, 3) := by decide +kernel
theorem d_X12_tested_133 : decode cX12_tested 133 = .ok (.ireturn, 1) := by decide +kernel
theorem d_X12_tested_134 : decode cX12_tested 134 = .ok (.aload_n 0, 1) := by decide +kernel
theorem d_X12_tested_135 : decode cX12_tested 135 = .ok (.iconst 1, 1) := by decide +kernel
theorem d_X12_tested_136 : decode cX12_tested 136 = .ok (.invokevirtual 198, 3) := by decide +kernel
theorem d_X12_tested_139 : decode cX12_tested 139 = .ok (.iconst 1, 1) := by decide +kernel
theorem d_X12_tested_140 : decode cX12_tested 140 = .ok (.ireturn, 1) := by decide +kernel
abbrev X_X12_tested : gX := (RX12, cX12_tested, 3, (some .boolean), false)
def F_X12_tested_b76 (k12 : Option Nat → Int32 → gM → Option (Int32 × gM)) (l0 : Option Nat) (l1 : Int32) (s0 : Int32) (M : gM) : Option (Int32 × gM) :=
  (gO 12 M l0).bind fun i1 => (F_X12_passWord (some i1) M).bind fun M2 => (F_X12_strength s0 M2).bind fun v3 => (gC 12 M2 i1).bind fun _ => (F_X12_settles (some i1) v3 M2).bind fun M5 => (gR 12 M5 (some i1) 15).bind fun v6 => (gI 12 M5 (some i1) 16).bind fun v7 => (sI M5 v6 v7 s0).bind fun M8 => (gI 12 M8 (some i1) 16).bind fun v9 => (pI 12 M8 (some i1) 16 (v9 + (1 : Int32))).bind fun M10 => k12 (some i1) l1 M10
set_option maxHeartbeats 1000000 in
theorem T_X12_tested_b76 (k12 : Option Nat → Int32 → gM → Option (Int32 × gM)) (r : (Int32 × gM)) (hk12 : ∀ (l0 : Option Nat) (l1 : Int32) (M : gM), k12 l0 l1 M = some r → GW 8 0 0 X_X12_tested 12 [(0, vr l0), (1, vi l1)] [] M (some (vi r.1), r.2)) (l0 : Option Nat) (l1 : Int32) (s0 : Int32) (M : gM) (h : F_X12_tested_b76 k12 l0 l1 s0 M = some r) : GW 8 0 0 X_X12_tested 76 [(0, vr l0), (1, vi l1)] [vi s0] M (some (vi r.1), r.2) := by
  delta F_X12_tested_b76 at h
  refine GW_istore_n (X := X_X12_tested) (pc := 76) d_X12_tested_76 rfl (Nat.le_of_ble_eq_true rfl) (lv2 := [(2, vi s0), (0, vr l0), (1, vi l1)]) rfl ?_
  refine GW_aload_n (X := X_X12_tested) (pc := 77) d_X12_tested_77 rfl 1 rfl ?_
  replace h := g_bd h
  obtain ⟨i1, hi1, h⟩ := h
  obtain ⟨rfl, ki1⟩ := g_gO hi1
  replace h := g_bd h
  obtain ⟨M2, hM2, h⟩ := h
  refine GW_callV (X := X_X12_tested) (pc := 78) (bc0 := 0) (bs0 := 0) (r := none) (M2 := M2) (c0 := 12) (T_X12_passWord (some i1) M M2 hM2) (Nat.le_of_ble_eq_true rfl) (Nat.le_of_ble_eq_true rfl) rfl g_cok12 ki1 yc_X12_passWord ⟨m_1275, m_1277, m_50, m_127, m_1278⟩ d_X12_tested_78 rfl (st := []) rfl (Nat.le_of_ble_eq_true rfl) (Nat.le_of_ble_eq_true rfl) (Nat.le_of_ble_eq_true rfl) (st2 := []) rfl ?_
  refine GW_aload_n (X := X_X12_tested) (pc := 81) d_X12_tested_81 rfl 1 rfl ?_
  refine GW_iload_n (X := X_X12_tested) (pc := 82) d_X12_tested_82 rfl 0 rfl ?_
  replace h := g_bd h
  obtain ⟨v3, hv3, h⟩ := h
  refine GW_callS (X := X_X12_tested) (pc := 83) (bc0 := 0) (bs0 := 0) (r := some (vi v3)) (M2 := M2) (T_X12_strength s0 M2 v3 hv3) (Nat.le_of_ble_eq_true rfl) (Nat.le_of_ble_eq_true rfl) yc_X12_strength ⟨m_1390, m_1391, m_127, m_1392⟩ d_X12_tested_83 rfl (st := [vr (some i1)]) rfl (Nat.le_of_ble_eq_true rfl) (Nat.le_of_ble_eq_true rfl) (Nat.le_of_ble_eq_true rfl) (st2 := [vi v3, vr (some i1)]) rfl ?_
  replace h := g_bd h
  obtain ⟨_, kk4, h⟩ := h
  replace kk4 := g_gC kk4
  replace h := g_bd h
  obtain ⟨M5, hM5, h⟩ := h
  refine GW_callV (X := X_X12_tested) (pc := 86) (bc0 := 0) (bs0 := 0) (r := none) (M2 := M5) (c0 := 12) (T_X12_settles (some i1) v3 M2 M5 hM5) (Nat.le_of_ble_eq_true rfl) (Nat.le_of_ble_eq_true rfl) rfl g_cok12 kk4 yc_X12_settles ⟨m_1386, m_1388, m_73, m_127, m_1389⟩ d_X12_tested_86 rfl (st := []) rfl (Nat.le_of_ble_eq_true rfl) (Nat.le_of_ble_eq_true rfl) (Nat.le_of_ble_eq_true rfl) (st2 := []) rfl ?_
  refine GW_aload_n (X := X_X12_tested) (pc := 89) d_X12_tested_89 rfl 1 rfl ?_
  replace h := g_bd h
  obtain ⟨v6, hv6, h⟩ := h
  refine GW_getR (X := X_X12_tested) (pc := 90) f_X12_29 d_X12_tested_90 hv6 (Or.inr ⟨_, ty_12_15⟩) ?_
  refine GW_aload_n (X := X_X12_tested) (pc := 93) d_X12_tested_93 rfl 1 rfl ?_
  replace h := g_bd h
  obtain ⟨v7, hv7, h⟩ := h
  refine GW_getI (X := X_X12_tested) (pc := 94) f_X12_159 d_X12_tested_94 hv7 (Or.inl ty_12_16) ?_
  refine GW_iload_n (X := X_X12_tested) (pc := 97) d_X12_tested_97 rfl 0 rfl ?_
  replace h := g_bd h
  obtain ⟨M8, hM8, h⟩ := h
  refine GW_iast (X := X_X12_tested) (pc := 98) d_X12_tested_98 hM8 ?_
  refine GW_aload_n (X := X_X12_tested) (pc := 99) d_X12_tested_99 rfl 1 rfl ?_
  refine GW_dup (X := X_X12_tested) (pc := 100) d_X12_tested_100 rfl ?_
  replace h := g_bd h
  obtain ⟨v9, hv9, h⟩ := h
  refine GW_getI (X := X_X12_tested) (pc := 101) f_X12_159 d_X12_tested_101 hv9 (Or.inl ty_12_16) ?_
  refine GW_iconst (X := X_X12_tested) (pc := 104) (v := 1) d_X12_tested_104 (by decide) ?_
  refine GW_iadd (X := X_X12_tested) (pc := 105) d_X12_tested_105 ?_
  replace h := g_bd h
  obtain ⟨M10, hM10, h⟩ := h
  refine GW_putI (X := X_X12_tested) (pc := 106) f_X12_159 d_X12_tested_106 hM10 (Or.inl fi_12_16) (Or.inl ty_12_16) ?_
  refine GW_goto (X := X_X12_tested) (pc := 109) 12 d_X12_tested_109 (by decide) ?_
  refine GW_sub [1, 2] rfl ?_
  exact hk12 (some i1) l1 M10 h
def F_X12_tested_b54 (k12 : Option Nat → Int32 → gM → Option (Int32 × gM)) (l0 : Option Nat) (s0 : Int32) (M : gM) : Option (Int32 × gM) :=
  if s0 = 0 then (k12 l0 s0 M) else ((gO 12 M l0).bind fun i1 => (F_X12_isWord (some i1) (6385252 : Int64) M).bind fun (v2, M3) => if v2 = 0 then (F_X12_tested_b76 k12 (some i1) s0 (13 : Int32) M3) else (F_X12_tested_b76 k12 (some i1) s0 (12 : Int32) M3))
theorem T_X12_tested_b54 (k12 : Option Nat → Int32 → gM → Option (Int32 × gM)) (r : (Int32 × gM)) (hk12 : ∀ (l0 : Option Nat) (l1 : Int32) (M : gM), k12 l0 l1 M = some r → GW 8 0 0 X_X12_tested 12 [(0, vr l0), (1, vi l1)] [] M (some (vi r.1), r.2)) (l0 : Option Nat) (s0 : Int32) (M : gM) (h : F_X12_tested_b54 k12 l0 s0 M = some r) : GW 8 0 0 X_X12_tested 54 [(0, vr l0)] [vi s0] M (some (vi r.1), r.2) := by
  delta F_X12_tested_b54 at h
  refine GW_istore_n (X := X_X12_tested) (pc := 54) d_X12_tested_54 rfl (Nat.le_of_ble_eq_true rfl) (lv2 := [(1, vi s0), (0, vr l0)]) rfl ?_
  refine GW_iload_n (X := X_X12_tested) (pc := 55) d_X12_tested_55 rfl 0 rfl ?_
  refine GW_if_eq (X := X_X12_tested) (pc := 56) 12 d_X12_tested_56 (by decide) (fun c => ?_) (fun c => ?_)
  · replace h := g_ip c h
    refine GW_sub [1, 0] rfl ?_
    exact hk12 l0 s0 M h
  · replace h := g_ie c h
    refine GW_aload_n (X := X_X12_tested) (pc := 59) d_X12_tested_59 rfl 1 rfl ?_
    refine GW_ldc2 (X := X_X12_tested) (pc := 60) d_X12_tested_60 m_1397 ?_
    replace h := g_bd h
    obtain ⟨i1, hi1, h⟩ := h
    obtain ⟨rfl, ki1⟩ := g_gO hi1
    replace h := g_bd h
    obtain ⟨⟨v2, M3⟩, hv2, h⟩ := h
    dsimp only at h
    refine GW_callV (X := X_X12_tested) (pc := 63) (bc0 := 0) (bs0 := 0) (r := some (vi v2)) (M2 := M3) (c0 := 12) (T_X12_isWord (some i1) (6385252 : Int64) M (v2, M3) hv2) (Nat.le_of_ble_eq_true rfl) (Nat.le_of_ble_eq_true rfl) rfl g_cok12 ki1 yc_X12_isWord ⟨m_1248, m_1250, m_45, m_127, m_1251⟩ d_X12_tested_63 rfl (st := []) rfl (Nat.le_of_ble_eq_true rfl) (Nat.le_of_ble_eq_true rfl) (Nat.le_of_ble_eq_true rfl) (st2 := [vi v2]) rfl ?_
    refine GW_if_eq (X := X_X12_tested) (pc := 66) 74 d_X12_tested_66 (by decide) (fun c => ?_) (fun c => ?_)
    · replace h := g_ip c h
      refine GW_bipush (X := X_X12_tested) (pc := 74) (v := 13) d_X12_tested_74 (by decide) ?_
      refine GW_sub [1, 0] rfl ?_
      exact T_X12_tested_b76 k12 r hk12 (some i1) s0 (13 : Int32) M3 h
    · replace h := g_ie c h
      refine GW_bipush (X := X_X12_tested) (pc := 69) (v := 12) d_X12_tested_69 (by decide) ?_
      refine GW_goto (X := X_X12_tested) (pc := 71) 76 d_X12_tested_71 (by decide) ?_
      refine GW_sub [1, 0] rfl ?_
      exact T_X12_tested_b76 k12 r hk12 (some i1) s0 (12 : Int32) M3 h
def F_X12_tested_b49 (k12 : Option Nat → Int32 → gM → Option (Int32 × gM)) (l0 : Option Nat) (M : gM) : Option (Int32 × gM) :=
  F_X12_tested_b54 k12 l0 (1 : Int32) M
theorem T_X12_tested_b49 (k12 : Option Nat → Int32 → gM → Option (Int32 × gM)) (r : (Int32 × gM)) (hk12 : ∀ (l0 : Option Nat) (l1 : Int32) (M : gM), k12 l0 l1 M = some r → GW 8 0 0 X_X12_tested 12 [(0, vr l0), (1, vi l1)] [] M (some (vi r.1), r.2)) (l0 : Option Nat) (M : gM) (h : F_X12_tested_b49 k12 l0 M = some r) : GW 8 0 0 X_X12_tested 49 [(0, vr l0)] [] M (some (vi r.1), r.2) := by
  delta F_X12_tested_b49 at h
  refine GW_iconst (X := X_X12_tested) (pc := 49) (v := 1) d_X12_tested_49 (by decide) ?_
  refine GW_goto (X := X_X12_tested) (pc := 50) 54 d_X12_tested_50 (by decide) ?_
  exact T_X12_tested_b54 k12 r hk12 l0 (1 : Int32) M h
def F_X12_tested_b12 (k12 : Option Nat → Int32 → gM → Option (Int32 × gM)) (l0 : Option Nat) (l1 : Int32) (M : gM) : Option (Int32 × gM) :=
  if l1 = 0 then ((gO 12 M l0).bind fun i1 => (F_X12_isInside (some i1) M).bind fun v2 => if v2 = 0 then ((F_X12_settles (some i1) (1 : Int32) M).bind fun M3 => some ((1 : Int32), M3)) else ((F_X12_see (some i1) M).bind fun (v4, M5) => (gI 12 M5 (some i1) 8).bind fun v6 => (gC 12 M5 i1).bind fun _ => (F_X12_fails (some i1) (0 : Int32) v6 M5).bind fun (v8, M9) => if v8 = 0 ∨ v8 = 1 then some (v8, M9) else none)) else ((gO 12 M l0).bind fun i11 => (F_X12_fact (some i11) M).bind fun (v12, M13) => if v12 = 0 then (some ((0 : Int32), M13)) else ((gC 12 M13 i11).bind fun _ => (F_X12_closes (some i11) M13).bind fun M15 => (gC 12 M15 i11).bind fun _ => (F_X12_isWord (some i11) (6385252 : Int64) M15).bind fun (v17, M18) => if v17 = 0 then ((gC 12 M18 i11).bind fun _ => (F_X12_isWord (some i11) (28530 : Int64) M18).bind fun (v20, M21) => if v20 = 0 then (F_X12_tested_b54 k12 (some i11) (0 : Int32) M21) else (F_X12_tested_b49 k12 (some i11) M21)) else (F_X12_tested_b49 k12 (some i11) M18)))
set_option maxHeartbeats 1000000 in
theorem T_X12_tested_b12 (k12 : Option Nat → Int32 → gM → Option (Int32 × gM)) (r : (Int32 × gM)) (hk12 : ∀ (l0 : Option Nat) (l1 : Int32) (M : gM), k12 l0 l1 M = some r → GW 8 0 0 X_X12_tested 12 [(0, vr l0), (1, vi l1)] [] M (some (vi r.1), r.2)) (l0 : Option Nat) (l1 : Int32) (M : gM) (h : F_X12_tested_b12 k12 l0 l1 M = some r) : GW 8 0 0 X_X12_tested 12 [(0, vr l0), (1, vi l1)] [] M (some (vi r.1), r.2) := by
  delta F_X12_tested_b12 at h
  refine GW_iload_n (X := X_X12_tested) (pc := 12) d_X12_tested_12 rfl 1 rfl ?_
  refine GW_if_eq (X := X_X12_tested) (pc := 13) 112 d_X12_tested_13 (by decide) (fun c => ?_) (fun c => ?_)
  · replace h := g_ip c h
    refine GW_aload_n (X := X_X12_tested) (pc := 112) d_X12_tested_112 rfl 0 rfl ?_
    replace h := g_bd h
    obtain ⟨i1, hi1, h⟩ := h
    obtain ⟨rfl, ki1⟩ := g_gO hi1
    replace h := g_bd h
    obtain ⟨v2, hv2, h⟩ := h
    refine GW_callV (X := X_X12_tested) (pc := 113) (bc0 := 0) (bs0 := 0) (r := some (vi v2)) (M2 := M) (c0 := 12) (T_X12_isInside (some i1) M v2 hv2) (Nat.le_of_ble_eq_true rfl) (Nat.le_of_ble_eq_true rfl) rfl g_cok12 ki1 yc_X12_isInside ⟨m_1393, m_1395, m_74, m_127, m_1396⟩ d_X12_tested_113 rfl (st := []) rfl (Nat.le_of_ble_eq_true rfl) (Nat.le_of_ble_eq_true rfl) (Nat.le_of_ble_eq_true rfl) (st2 := [vi v2]) rfl ?_
    refine GW_if_eq (X := X_X12_tested) (pc := 116) 134 d_X12_tested_116 (by decide) (fun c => ?_) (fun c => ?_)
    · replace h := g_ip c h
      refine GW_aload_n (X := X_X12_tested) (pc := 134) d_X12_tested_134 rfl 0 rfl ?_
      refine GW_iconst (X := X_X12_tested) (pc := 135) (v := 1) d_X12_tested_135 (by decide) ?_
      replace h := g_bd h
      obtain ⟨M3, hM3, h⟩ := h
      refine GW_callV (X := X_X12_tested) (pc := 136) (bc0 := 0) (bs0 := 0) (r := none) (M2 := M3) (c0 := 12) (T_X12_settles (some i1) (1 : Int32) M M3 hM3) (Nat.le_of_ble_eq_true rfl) (Nat.le_of_ble_eq_true rfl) rfl g_cok12 ki1 yc_X12_settles ⟨m_1386, m_1388, m_73, m_127, m_1389⟩ d_X12_tested_136 rfl (st := []) rfl (Nat.le_of_ble_eq_true rfl) (Nat.le_of_ble_eq_true rfl) (Nat.le_of_ble_eq_true rfl) (st2 := []) rfl ?_
      refine GW_iconst (X := X_X12_tested) (pc := 139) (v := 1) d_X12_tested_139 (by decide) ?_
      replace h := Option.some.inj h
      subst h
      exact GW_ret (X := X_X12_tested) (pc := 140) d_X12_tested_140 rfl g_rok1
    · replace h := g_ie c h
      refine GW_aload_n (X := X_X12_tested) (pc := 119) d_X12_tested_119 rfl 0 rfl ?_
      replace h := g_bd h
      obtain ⟨⟨v4, M5⟩, hv4, h⟩ := h
      dsimp only at h
      refine GW_callV (X := X_X12_tested) (pc := 120) (bc0 := 0) (bs0 := 0) (r := some (vi v4)) (M2 := M5) (c0 := 12) (T_X12_see (some i1) M (v4, M5) hv4) (Nat.le_of_ble_eq_true rfl) (Nat.le_of_ble_eq_true rfl) rfl g_cok12 ki1 yc_X12_see ⟨m_1239, m_1241, m_43, m_127, m_1242⟩ d_X12_tested_120 rfl (st := []) rfl (Nat.le_of_ble_eq_true rfl) (Nat.le_of_ble_eq_true rfl) (Nat.le_of_ble_eq_true rfl) (st2 := [vi v4]) rfl ?_
      refine GW_pop (X := X_X12_tested) (pc := 123) d_X12_tested_123 rfl ?_
      refine GW_aload_n (X := X_X12_tested) (pc := 124) d_X12_tested_124 rfl 0 rfl ?_
      refine GW_iconst (X := X_X12_tested) (pc := 125) (v := 0) d_X12_tested_125 (by decide) ?_
      refine GW_aload_n (X := X_X12_tested) (pc := 126) d_X12_tested_126 rfl 0 rfl ?_
      replace h := g_bd h
      obtain ⟨v6, hv6, h⟩ := h
      refine GW_getI (X := X_X12_tested) (pc := 127) f_X12_90 d_X12_tested_127 hv6 (Or.inl ty_12_8) ?_
      replace h := g_bd h
      obtain ⟨_, kk7, h⟩ := h
      replace kk7 := g_gC kk7
      replace h := g_bd h
      obtain ⟨⟨v8, M9⟩, hv8, h⟩ := h
      dsimp only at h
      refine GW_callV (X := X_X12_tested) (pc := 130) (bc0 := 0) (bs0 := 0) (r := some (vi v8)) (M2 := M9) (c0 := 12) (T_X12_fails (some i1) (0 : Int32) v6 M5 (v8, M9) hv8) (Nat.le_of_ble_eq_true rfl) (Nat.le_of_ble_eq_true rfl) rfl g_cok12 kk7 yc_X12_fails ⟨m_1263, m_1265, m_47, m_127, m_1266⟩ d_X12_tested_130 rfl (st := []) rfl (Nat.le_of_ble_eq_true rfl) (Nat.le_of_ble_eq_true rfl) (Nat.le_of_ble_eq_true rfl) (st2 := [vi v8]) rfl ?_
      replace h := g_if2 h
      obtain ⟨hz10, h⟩ := h
      replace h := Option.some.inj h
      subst h
      exact GW_ret (X := X_X12_tested) (pc := 133) d_X12_tested_133 rfl (g_zok hz10)
  · replace h := g_ie c h
    refine GW_aload_n (X := X_X12_tested) (pc := 16) d_X12_tested_16 rfl 0 rfl ?_
    replace h := g_bd h
    obtain ⟨i11, hi11, h⟩ := h
    obtain ⟨rfl, ki11⟩ := g_gO hi11
    replace h := g_bd h
    obtain ⟨⟨v12, M13⟩, hv12, h⟩ := h
    dsimp only at h
    refine GW_callV (X := X_X12_tested) (pc := 17) (bc0 := 0) (bs0 := 0) (r := some (vi v12)) (M2 := M13) (c0 := 12) (T_X12_fact (some i11) M (v12, M13) hv12) (Nat.le_of_ble_eq_true rfl) (Nat.le_of_ble_eq_true rfl) rfl g_cok12 ki11 yc_X12_fact ⟨m_1369, m_1371, m_69, m_127, m_1372⟩ d_X12_tested_17 rfl (st := []) rfl (Nat.le_of_ble_eq_true rfl) (Nat.le_of_ble_eq_true rfl) (Nat.le_of_ble_eq_true rfl) (st2 := [vi v12]) rfl ?_
    refine GW_if_ne (X := X_X12_tested) (pc := 20) 25 d_X12_tested_20 (by decide) (fun c => ?_) (fun c => ?_)
    · replace h := g_ie c h
      refine GW_aload_n (X := X_X12_tested) (pc := 25) d_X12_tested_25 rfl 0 rfl ?_
      replace h := g_bd h
      obtain ⟨_, kk14, h⟩ := h
      replace kk14 := g_gC kk14
      replace h := g_bd h
      obtain ⟨M15, hM15, h⟩ := h
      refine GW_callV (X := X_X12_tested) (pc := 26) (bc0 := 0) (bs0 := 0) (r := none) (M2 := M15) (c0 := 12) (T_X12_closes (some i11) M13 M15 hM15) (Nat.le_of_ble_eq_true rfl) (Nat.le_of_ble_eq_true rfl) rfl g_cok12 kk14 yc_X12_closes ⟨m_1382, m_1384, m_72, m_127, m_1385⟩ d_X12_tested_26 rfl (st := []) rfl (Nat.le_of_ble_eq_true rfl) (Nat.le_of_ble_eq_true rfl) (Nat.le_of_ble_eq_true rfl) (st2 := []) rfl ?_
      refine GW_aload_n (X := X_X12_tested) (pc := 29) d_X12_tested_29 rfl 0 rfl ?_
      refine GW_ldc2 (X := X_X12_tested) (pc := 30) d_X12_tested_30 m_1397 ?_
      replace h := g_bd h
      obtain ⟨_, kk16, h⟩ := h
      replace kk16 := g_gC kk16
      replace h := g_bd h
      obtain ⟨⟨v17, M18⟩, hv17, h⟩ := h
      dsimp only at h
      refine GW_callV (X := X_X12_tested) (pc := 33) (bc0 := 0) (bs0 := 0) (r := some (vi v17)) (M2 := M18) (c0 := 12) (T_X12_isWord (some i11) (6385252 : Int64) M15 (v17, M18) hv17) (Nat.le_of_ble_eq_true rfl) (Nat.le_of_ble_eq_true rfl) rfl g_cok12 kk16 yc_X12_isWord ⟨m_1248, m_1250, m_45, m_127, m_1251⟩ d_X12_tested_33 rfl (st := []) rfl (Nat.le_of_ble_eq_true rfl) (Nat.le_of_ble_eq_true rfl) (Nat.le_of_ble_eq_true rfl) (st2 := [vi v17]) rfl ?_
      refine GW_if_ne (X := X_X12_tested) (pc := 36) 49 d_X12_tested_36 (by decide) (fun c => ?_) (fun c => ?_)
      · replace h := g_ie c h
        refine GW_sub [0] rfl ?_
        exact T_X12_tested_b49 k12 r hk12 (some i11) M18 h
      · replace h := g_ip c h
        refine GW_aload_n (X := X_X12_tested) (pc := 39) d_X12_tested_39 rfl 0 rfl ?_
        refine GW_ldc2 (X := X_X12_tested) (pc := 40) d_X12_tested_40 m_1398 ?_
        replace h := g_bd h
        obtain ⟨_, kk19, h⟩ := h
        replace kk19 := g_gC kk19
        replace h := g_bd h
        obtain ⟨⟨v20, M21⟩, hv20, h⟩ := h
        dsimp only at h
        refine GW_callV (X := X_X12_tested) (pc := 43) (bc0 := 0) (bs0 := 0) (r := some (vi v20)) (M2 := M21) (c0 := 12) (T_X12_isWord (some i11) (28530 : Int64) M18 (v20, M21) hv20) (Nat.le_of_ble_eq_true rfl) (Nat.le_of_ble_eq_true rfl) rfl g_cok12 kk19 yc_X12_isWord ⟨m_1248, m_1250, m_45, m_127, m_1251⟩ d_X12_tested_43 rfl (st := []) rfl (Nat.le_of_ble_eq_true rfl) (Nat.le_of_ble_eq_true rfl) (Nat.le_of_ble_eq_true rfl) (st2 := [vi v20]) rfl ?_
        refine GW_if_eq (X := X_X12_tested) (pc := 46) 53 d_X12_tested_46 (by decide) (fun c => ?_) (fun c => ?_)
        · replace h := g_ip c h
          refine GW_iconst (X := X_X12_tested) (pc := 53) (v := 0) d_X12_tested_53 (by decide) ?_
          refine GW_sub [0] rfl ?_
          exact T_X12_tested_b54 k12 r hk12 (some i11) (0 : Int32) M21 h
        · replace h := g_ie c h
          refine GW_sub [0] rfl ?_
          exact T_X12_tested_b49 k12 r hk12 (some i11) M21 h
    · replace h := g_ip c h
      refine GW_iconst (X := X_X12_tested) (pc := 23) (v := 0) d_X12_tested_23 (by decide) ?_
      replace h := Option.some.inj h
      subst h
      exact GW_ret (X := X_X12_tested) (pc := 24) d_X12_tested_24 rfl g_rok0
def F_X12_tested_L12 : Nat → Option Nat → Int32 → gM → Option (Int32 × gM)
  | 0 => fun _ _ _ => none
  | n + 1 => F_X12_tested_b12 (F_X12_tested_L12 n)
theorem T_X12_tested_L12 (r : (Int32 × gM)) : ∀ (n : Nat) (l0 : Option Nat) (l1 : Int32) (M : gM), F_X12_tested_L12 n l0 l1 M = some r → GW 8 0 0 X_X12_tested 12 [(0, vr l0), (1, vi l1)] [] M (some (vi r.1), r.2) := by
  intro n
  induction n with
  | zero => intro l0 l1 M h; exact g_no h
  | succ n ih => intro l0 l1 M h; exact T_X12_tested_b12 (F_X12_tested_L12 n) r ih l0 l1 M h
def F_X12_tested_b0 (l0 : Option Nat) (M : gM) : Option (Int32 × gM) :=
  (pI 12 M l0 16 (0 : Int32)).bind fun M1 => (pI 12 M1 l0 13 (0 : Int32)).bind fun M2 => F_X12_tested_L12 g_fuel l0 (1 : Int32) M2
theorem T_X12_tested_b0 (r : (Int32 × gM)) (l0 : Option Nat) (M : gM) (h : F_X12_tested_b0 l0 M = some r) : GW 8 0 0 X_X12_tested 0 [(0, vr l0)] [] M (some (vi r.1), r.2) := by
  delta F_X12_tested_b0 at h
  refine GW_aload_n (X := X_X12_tested) (pc := 0) d_X12_tested_0 rfl 0 rfl ?_
  refine GW_iconst (X := X_X12_tested) (pc := 1) (v := 0) d_X12_tested_1 (by decide) ?_
  replace h := g_bd h
  obtain ⟨M1, hM1, h⟩ := h
  refine GW_putI (X := X_X12_tested) (pc := 2) f_X12_159 d_X12_tested_2 hM1 (Or.inl fi_12_16) (Or.inl ty_12_16) ?_
  refine GW_aload_n (X := X_X12_tested) (pc := 5) d_X12_tested_5 rfl 0 rfl ?_
  refine GW_iconst (X := X_X12_tested) (pc := 6) (v := 0) d_X12_tested_6 (by decide) ?_
  replace h := g_bd h
  obtain ⟨M2, hM2, h⟩ := h
  refine GW_putI (X := X_X12_tested) (pc := 7) f_X12_156 d_X12_tested_7 hM2 (Or.inl fi_12_13) (Or.inl ty_12_13) ?_
  refine GW_iconst (X := X_X12_tested) (pc := 10) (v := 1) d_X12_tested_10 (by decide) ?_
  refine GW_istore_n (X := X_X12_tested) (pc := 11) d_X12_tested_11 rfl (Nat.le_of_ble_eq_true rfl) (lv2 := [(1, vi (1 : Int32)), (0, vr l0)]) rfl ?_
  refine GW_sub [1, 0] rfl ?_
  exact T_X12_tested_L12 r g_fuel l0 (1 : Int32) M2 h
def F_X12_tested (l0 : Option Nat) (M : gM) : Option (Int32 × gM) := F_X12_tested_b0 l0 M
theorem T_X12_tested (l0 : Option Nat) (M : gM) (r : (Int32 × gM)) (h : F_X12_tested l0 M = some r) : g_Met 8 0 0 yX12_tested X_X12_tested [vr l0] M (some (vi r.1), r.2) :=
  g_Met_of pn_RX12 rfl (Nat.le_of_ble_eq_true rfl) (fun h => by cases h) (GW_sub [0] rfl (T_X12_tested_b0 r l0 M h))
/-! ForgetHeirsModel.isFadeHere()Z -/
theorem d_X12_isFadeHere_0 : decode cX12_isFadeHere 0 = .ok (.aload_n 0, 1) := by decide +kernel
theorem d_X12_isFadeHere_1 : decode cX12_isFadeHere 1 = .ok (.invokevirtual 105, 3) := by decide +kernel
theorem d_X12_isFadeHere_4 : decode cX12_isFadeHere 4 = .ok (.bipush 48, 2) := by decide +kernel
theorem d_X12_isFadeHere_6 : decode cX12_isFadeHere 6 = .ok (.aload_n 0, 1) := by decide +kernel
theorem d_X12_isFadeHere_7 : decode cX12_isFadeHere 7 = .ok (.getfield 150, 3) := by decide +kernel
theorem d_X12_isFadeHere_10 : decode cX12_isFadeHere 10 = .ok (.imul, 1) := by decide +kernel
theorem d_X12_isFadeHere_11 : decode cX12_isFadeHere 11 = .ok (.iconst 4, 1) := by decide +kernel
theorem d_X12_isFadeHere_12 : decode cX12_isFadeHere 12 = .ok (.aload_n 0, 1) := by decide +kernel
theorem d_X12_isFadeHere_13 : decode cX12_isFadeHere 13 = .ok (.getfield 23, 3) := by decide +kernel
theorem d_X12_isFadeHere_16 : decode cX12_isFadeHere 16 = .ok (.aload_n 0, 1) := by decide +kernel
theorem d_X12_isFadeHere_17 : decode cX12_isFadeHere 17 = .ok (.getfield 150, 3) := by decide +kernel
theorem d_X12_isFadeHere_20 : decode cX12_isFadeHere 20 = .ok (.iaload, 1) := by decide +kernel
theorem d_X12_isFadeHere_21 : decode cX12_isFadeHere 21 = .ok (.imul, 1) := by decide +kernel
theorem d_X12_isFadeHere_22 : decode cX12_isFadeHere 22 = .ok (.iadd, 1) := by decide +kernel
theorem d_X12_isFadeHere_23 : decode cX12_isFadeHere 23 = .ok (.istore_n 1, 1) := by decide +kernel
theorem d_X12_isFadeHere_24 : decode cX12_isFadeHere 24 = .ok (.aload_n 0, 1) := by decide +kernel
theorem d_X12_isFadeHere_25 : decode cX12_isFadeHere 25 = .ok (.getfield 20, 3) := by decide +kernel
theorem d_X12_isFadeHere_28 : decode cX12_isFadeHere 28 = .ok (.iload_n 1, 1) := by decide +kernel
theorem d_X12_isFadeHere_29 : decode cX12_isFadeHere 29 = .ok (.aload_n 0, 1) := by decide +kernel
theorem d_X12_isFadeHere_30 : decode cX12_isFadeHere 30 = .ok (.getfield 17, 3) := by decide +kernel
theorem d_X12_isFadeHere_33 : decode cX12_isFadeHere 33 = .ok (.aload_n 0, 1) := by decide +kernel
theorem d_X12_isFadeHere_34 : decode cX12_isFadeHere 34 = .ok (.getfield 150, 3) := by decide +kernel
theorem d_X12_isFadeHere_37 : decode cX12_isFadeHere 37 = .ok (.iaload, 1) := by decide +kernel
theorem d_X12_isFadeHere_38 : decode cX12_isFadeHere 38 = .ok (.iastore, 1) := by decide +kernel
theorem d_X12_isFadeHere_39 : decode cX12_isFadeHere 39 = .ok (.aload_n 0, 1) := by decide +kernel
theorem d_X12_isFadeHere_40 : decode cX12_isFadeHere 40 = .ok (.invokevirtual 187, 3) := by decide +kernel
theorem d_X12_isFadeHere_43 : decode cX12_isFadeHere 43 = .ok (.ifCond .ne 5, 3) := by decide +kernel
theorem d_X12_isFadeHere_46 : decode cX12_isFadeHere 46 = .ok (.iconst 0, 1) := by decide +kernel
theorem d_X12_isFadeHere_47 : decode cX12_isFadeHere 47 = .ok (.ireturn, 1) := by decide +kernel
theorem d_X12_isFadeHere_48 : decode cX12_isFadeHere 48 = .ok (.aload_n 0, 1) := by decide +kernel
theorem d_X12_isFadeHere_49 : decode cX12_isFadeHere 49 = .ok (.getfield 20, 3) := by decide +kernel
theorem d_X12_isFadeHere_52 : decode cX12_isFadeHere 52 = .ok (.iload_n 1, 1) := by decide +kernel
theorem d_X12_isFadeHere_53 : decode cX12_isFadeHere 53 = .ok (.iconst 1, 1) := by decide +kernel
theorem d_X12_isFadeHere_54 : decode cX12_isFadeHere 54 = .ok (.iadd, 1) := by decide +kernel
theorem d_X12_isFadeHere_55 : decode cX12_isFadeHere 55 = .ok (.aload_n 0, 1) := by decide +kernel
theorem d_X12_isFadeHere_56 : decode cX12_isFadeHere 56 = .ok (.getfield 17, 3) := by decide +kernel
theorem d_X12_isFadeHere_59 : decode cX12_isFadeHere 59 = .ok (.aload_n 0, 1) := by decide +kernel
theorem d_X12_isFadeHere_60 : decode cX12_isFadeHere 60 = .ok (.getfield 150, 3) := by decide +kernel
theorem d_X12_isFadeHere_63 : decode cX12_isFadeHere 63 = .ok (.iaload, 1) := by decide +kernel
theorem d_X12_isFadeHere_64 : decode cX12_isFadeHere 64 = .ok (.iastore, 1) := by decide +kernel
theorem d_X12_isFadeHere_65 : decode cX12_isFadeHere 65 = .ok (.aload_n 0, 1) := by decide +kernel
theorem d_X12_isFadeHere_66 : decode cX12_isFadeHere 66 = .ok (.getfield 20, 3) := by decide +kernel
theorem d_X12_isFadeHere_69 : decode cX12_isFadeHere 69 = .ok (.iload_n 1, 1) := by decide +kernel
theorem d_X12_isFadeHere_70 : decode cX12_isFadeHere 70 = .ok (.iconst 2, 1) := by decide +kernel
theorem d_X12_isFadeHere_71 : decode cX12_isFadeHere 71 = .ok (.iadd, 1) := by decide +kernel
theorem d_X12_isFadeHere_72 : decode cX12_isFadeHere 72 = .ok (.iconst (-1), 1) := by decide +kernel
theorem d_X12_isFadeHere_73 : decode cX12_isFadeHere 73 = .ok (.iastore, 1) := by decide +kernel
theorem d_X12_isFadeHere_74 : decode cX12_isFadeHere 74 = .ok (.aload_n 0, 1) := by decide +kernel
theorem d_X12_isFadeHere_75 : decode cX12_isFadeHere 75 = .ok (.ldc2_w 214, 3) := by decide +kernel
theorem d_X12_isFadeHere_78 : decode cX12_isFadeHere 78 = .ok (.invokevirtual 216, 3) := by decide +kernel
theorem d_X12_isFadeHere_81 : decode cX12_isFadeHere 81 = .ok (.ifCond .eq 29, 3) := by decide +kernel
theorem d_X12_isFadeHere_84 : decode cX12_isFadeHere 84 = .ok (.aload_n 0, 1) := by decide +kernel
theorem d_X12_isFadeHere_85 : decode cX12_isFadeHere 85 = .ok (.getfield 20, 3) := by decide +kernel
theorem d_X12_isFadeHere_88 : decode cX12_isFadeHere 88 = .ok (.iload_n 1, 1) := by decide +kernel
theorem d_X12_isFadeHere_89 : decode cX12_isFadeHere 89 = .ok (.iconst 2, 1) := by decide +kernel
theorem d_X12_isFadeHere_90 : decode cX12_isFadeHere 90 = .ok (.iadd, 1) := by decide +kernel
theorem d_X12_isFadeHere_91 : decode cX12_isFadeHere 91 = .ok (.aload_n 0, 1) := by decide +kernel
theorem d_X12_isFadeHere_92 : decode cX12_isFadeHere 92 = .ok (.getfield 17, 3) := by decide +kernel
theorem d_X12_isFadeHere_95 : decode cX12_isFadeHere 95 = .ok (.aload_n 0, 1) := by decide +kernel
theorem d_X12_isFadeHere_96 : decode cX12_isFadeHere 96 = .ok (.getfield 150, 3) := by decide +kernel
theorem d_X12_isFadeHere_99 : decode cX12_isFadeHere 99 = .ok (.iaload, 1) := by decide +kernel
theorem d_X12_isFadeHere_100 : decode cX12_isFadeHere 100 = .ok (.iastore, 1) := by decide +kernel
theorem d_X12_isFadeHere_101 : decode cX12_isFadeHere 101 = .ok (.aload_n 0, 1) := by decide +kernel
theorem d_X12_isFadeHere_102 : decode cX12_isFadeHere 102 = .ok (.invokevirtual 219, 3) := by decide +kernel
theorem d_X12_isFadeHere_105 : decode cX12_isFadeHere 105 = .ok (.ifCond .ne 5, 3) := by decide +kernel
theorem d_X12_isFadeHere_108 : decode cX12_isFadeHere 108 = .ok (.iconst 0, 1) := by decide +kernel
theorem d_X12_isFadeHere_109 : decode cX12_isFadeHere 109 = .ok (.ireturn, 1) := by decide +kernel
theorem d_X12_isFadeHere_110 : decode cX12_isFadeHere 110 = .ok (.aload_n 0, 1) := by decide +kernel
theorem d_X12_isFadeHere_111 : decode cX12_isFadeHere 111 = .ok (.getfield 20, 3) := by decide +kernel
theorem d_X12_isFadeHere_114 : decode cX12_isFadeHere 114 = .ok (.iload_n 1, 1) := by decide +kernel
theorem d_X12_isFadeHere_115 : decode cX12_isFadeHere 115 = .ok (.iconst 3, 1) := by decide +kernel
theorem d_X12_isFadeHere_116 : decode cX12_isFadeHere 116 = .ok (.iadd, 1) := by decide +kernel
theorem d_X12_isFadeHere_117 : decode cX12_isFadeHere 117 = .ok (.aload_n 0, 1) := by decide +kernel
theorem d_X12_isFadeHere_118 : decode cX12_isFadeHere 118 = .ok (.getfield 17, 3) := by decide +kernel
theorem d_X12_isFadeHere_121 : decode cX12_isFadeHere 121 = .ok (.aload_n 0, 1) := by decide +kernel
theorem d_X12_isFadeHere_122 : decode cX12_isFadeHere 122 = .ok (.getfield 150, 3) := by decide +kernel
theorem d_X12_isFadeHere_125 : decode cX12_isFadeHere 125 = .ok (.iaload, 1) := by decide +kernel
theorem d_X12_isFadeHere_126 : decode cX12_isFadeHere 126 = .ok (.iastore, 1) := by decide +kernel
theorem d_X12_isFadeHere_127 : decode cX12_isFadeHere 127 = .ok (.aload_n 0, 1) := by decide +kernel
theorem d_X12_isFadeHere_128 : decode cX12_isFadeHere 128 = .ok (.getfield 23, 3) := by decide +kernel
theorem d_X12_isFadeHere_131 : decode cX12_isFadeHere 131 = .ok (.aload_n 0, 1) := by decide +kernel
theorem d_X12_isFadeHere_132 : decode cX12_isFadeHere 132 = .ok (.getfield 150, 3) := by decide +kernel
theorem d_X12_isFadeHere_135 : decode cX12_isFadeHere 135 = .ok (.dup2, 1) := by decide +kernel
theorem d_X12_isFadeHere_136 : decode cX12_isFadeHere 136 = .ok (.iaload, 1) := by decide +kernel
theorem d_X12_isFadeHere_137 : decode cX12_isFadeHere 137 = .ok (.iconst 1, 1) := by decide +kernel
theorem d_X12_isFadeHere_138 : decode cX12_isFadeHere 138 = .ok (.iadd, 1) := by decide +kernel
theorem d_X12_isFadeHere_139 : decode cX12_isFadeHere 139 = .ok (.iastore, 1) := by decide +kernel
theorem d_X12_isFadeHere_140 : decode cX12_isFadeHere 140 = .ok (.iconst 1, 1) := by decide +kernel
theorem d_X12_isFadeHere_141 : decode cX12_isFadeHere 141 = .ok (.ireturn, 1) := by decide +kernel
abbrev X_X12_isFadeHere : gX := (RX12, cX12_isFadeHere, 2, (some .boolean), false)
def F_X12_isFadeHere_b110 (l0 : Option Nat) (l1 : Int32) (M : gM) : Option (Int32 × gM) :=
  (gR 12 M l0 5).bind fun v1 => (gR 12 M l0 4).bind fun v2 => (gI 12 M l0 11).bind fun v3 => (aI 20 M v2 v3).bind fun v4 => (sI M v1 (l1 + (3 : Int32)) v4).bind fun M5 => (gR 12 M5 l0 6).bind fun v6 => (gI 12 M5 l0 11).bind fun v7 => (aI 20 M5 v6 v7).bind fun v8 => (sI M5 v6 v7 (v8 + (1 : Int32))).bind fun M9 => some ((1 : Int32), M9)
set_option maxHeartbeats 1000000 in
theorem T_X12_isFadeHere_b110 (r : (Int32 × gM)) (l0 : Option Nat) (l1 : Int32) (M : gM) (h : F_X12_isFadeHere_b110 l0 l1 M = some r) : GW 9 0 0 X_X12_isFadeHere 110 [(0, vr l0), (1, vi l1)] [] M (some (vi r.1), r.2) := by
  delta F_X12_isFadeHere_b110 at h
  refine GW_aload_n (X := X_X12_isFadeHere) (pc := 110) d_X12_isFadeHere_110 rfl 0 rfl ?_
  replace h := g_bd h
  obtain ⟨v1, hv1, h⟩ := h
  refine GW_getR (X := X_X12_isFadeHere) (pc := 111) f_X12_20 d_X12_isFadeHere_111 hv1 (Or.inr ⟨_, ty_12_5⟩) ?_
  refine GW_iload_n (X := X_X12_isFadeHere) (pc := 114) d_X12_isFadeHere_114 rfl 1 rfl ?_
  refine GW_iconst (X := X_X12_isFadeHere) (pc := 115) (v := 3) d_X12_isFadeHere_115 (by decide) ?_
  refine GW_iadd (X := X_X12_isFadeHere) (pc := 116) d_X12_isFadeHere_116 ?_
  refine GW_aload_n (X := X_X12_isFadeHere) (pc := 117) d_X12_isFadeHere_117 rfl 0 rfl ?_
  replace h := g_bd h
  obtain ⟨v2, hv2, h⟩ := h
  refine GW_getR (X := X_X12_isFadeHere) (pc := 118) f_X12_17 d_X12_isFadeHere_118 hv2 (Or.inr ⟨_, ty_12_4⟩) ?_
  refine GW_aload_n (X := X_X12_isFadeHere) (pc := 121) d_X12_isFadeHere_121 rfl 0 rfl ?_
  replace h := g_bd h
  obtain ⟨v3, hv3, h⟩ := h
  refine GW_getI (X := X_X12_isFadeHere) (pc := 122) f_X12_150 d_X12_isFadeHere_122 hv3 (Or.inl ty_12_11) ?_
  replace h := g_bd h
  obtain ⟨v4, hv4, h⟩ := h
  refine GW_iald (X := X_X12_isFadeHere) (pc := 125) d_X12_isFadeHere_125 hv4 ?_
  replace h := g_bd h
  obtain ⟨M5, hM5, h⟩ := h
  refine GW_iast (X := X_X12_isFadeHere) (pc := 126) d_X12_isFadeHere_126 hM5 ?_
  refine GW_aload_n (X := X_X12_isFadeHere) (pc := 127) d_X12_isFadeHere_127 rfl 0 rfl ?_
  replace h := g_bd h
  obtain ⟨v6, hv6, h⟩ := h
  refine GW_getR (X := X_X12_isFadeHere) (pc := 128) f_X12_23 d_X12_isFadeHere_128 hv6 (Or.inr ⟨_, ty_12_6⟩) ?_
  refine GW_aload_n (X := X_X12_isFadeHere) (pc := 131) d_X12_isFadeHere_131 rfl 0 rfl ?_
  replace h := g_bd h
  obtain ⟨v7, hv7, h⟩ := h
  refine GW_getI (X := X_X12_isFadeHere) (pc := 132) f_X12_150 d_X12_isFadeHere_132 hv7 (Or.inl ty_12_11) ?_
  refine GW_dup2 (X := X_X12_isFadeHere) (pc := 135) d_X12_isFadeHere_135 rfl rfl ?_
  replace h := g_bd h
  obtain ⟨v8, hv8, h⟩ := h
  refine GW_iald (X := X_X12_isFadeHere) (pc := 136) d_X12_isFadeHere_136 hv8 ?_
  refine GW_iconst (X := X_X12_isFadeHere) (pc := 137) (v := 1) d_X12_isFadeHere_137 (by decide) ?_
  refine GW_iadd (X := X_X12_isFadeHere) (pc := 138) d_X12_isFadeHere_138 ?_
  replace h := g_bd h
  obtain ⟨M9, hM9, h⟩ := h
  refine GW_iast (X := X_X12_isFadeHere) (pc := 139) d_X12_isFadeHere_139 hM9 ?_
  refine GW_iconst (X := X_X12_isFadeHere) (pc := 140) (v := 1) d_X12_isFadeHere_140 (by decide) ?_
  replace h := Option.some.inj h
  subst h
  exact GW_ret (X := X_X12_isFadeHere) (pc := 141) d_X12_isFadeHere_141 rfl g_rok1
def F_X12_isFadeHere_b0 (l0 : Option Nat) (M : gM) : Option (Int32 × gM) :=
  (gO 12 M l0).bind fun i1 => (F_X12_passWord (some i1) M).bind fun M2 => (gI 12 M2 (some i1) 11).bind fun v3 => (gR 12 M2 (some i1) 6).bind fun v4 => (gI 12 M2 (some i1) 11).bind fun v5 => (aI 20 M2 v4 v5).bind fun v6 => (gR 12 M2 (some i1) 5).bind fun v7 => (gR 12 M2 (some i1) 4).bind fun v8 => (gI 12 M2 (some i1) 11).bind fun v9 => (aI 20 M2 v8 v9).bind fun v10 => (sI M2 v7 (((48 : Int32) * v3) + ((4 : Int32) * v6)) v10).bind fun M11 => (gC 12 M11 i1).bind fun _ => (F_X12_sum (some i1) M11).bind fun (v13, M14) => if v13 = 0 then (some ((0 : Int32), M14)) else ((gR 12 M14 (some i1) 5).bind fun v15 => (gR 12 M14 (some i1) 4).bind fun v16 => (gI 12 M14 (some i1) 11).bind fun v17 => (aI 20 M14 v16 v17).bind fun v18 => (sI M14 v15 ((((48 : Int32) * v3) + ((4 : Int32) * v6)) + (1 : Int32)) v18).bind fun M19 => (gR 12 M19 (some i1) 5).bind fun v20 => (sI M19 v20 ((((48 : Int32) * v3) + ((4 : Int32) * v6)) + (2 : Int32)) (-1 : Int32)).bind fun M21 => (gC 12 M21 i1).bind fun _ => (F_X12_takesWord (some i1) (26982 : Int64) M21).bind fun (v23, M24) => if v23 = 0 then (F_X12_isFadeHere_b110 (some i1) (((48 : Int32) * v3) + ((4 : Int32) * v6)) M24) else ((gR 12 M24 (some i1) 5).bind fun v25 => (gR 12 M24 (some i1) 4).bind fun v26 => (gI 12 M24 (some i1) 11).bind fun v27 => (aI 20 M24 v26 v27).bind fun v28 => (sI M24 v25 ((((48 : Int32) * v3) + ((4 : Int32) * v6)) + (2 : Int32)) v28).bind fun M29 => (gC 12 M29 i1).bind fun _ => (F_X12_tested (some i1) M29).bind fun (v31, M32) => if v31 = 0 then (some ((0 : Int32), M32)) else (F_X12_isFadeHere_b110 (some i1) (((48 : Int32) * v3) + ((4 : Int32) * v6)) M32)))
set_option maxHeartbeats 1000000 in
theorem T_X12_isFadeHere_b0 (r : (Int32 × gM)) (l0 : Option Nat) (M : gM) (h : F_X12_isFadeHere_b0 l0 M = some r) : GW 9 0 0 X_X12_isFadeHere 0 [(0, vr l0)] [] M (some (vi r.1), r.2) := by
  delta F_X12_isFadeHere_b0 at h
  refine GW_aload_n (X := X_X12_isFadeHere) (pc := 0) d_X12_isFadeHere_0 rfl 0 rfl ?_
  replace h := g_bd h
  obtain ⟨i1, hi1, h⟩ := h
  obtain ⟨rfl, ki1⟩ := g_gO hi1
  replace h := g_bd h
  obtain ⟨M2, hM2, h⟩ := h
  refine GW_callV (X := X_X12_isFadeHere) (pc := 1) (bc0 := 0) (bs0 := 0) (r := none) (M2 := M2) (c0 := 12) (T_X12_passWord (some i1) M M2 hM2) (Nat.le_of_ble_eq_true rfl) (Nat.le_of_ble_eq_true rfl) rfl g_cok12 ki1 yc_X12_passWord ⟨m_1275, m_1277, m_50, m_127, m_1278⟩ d_X12_isFadeHere_1 rfl (st := []) rfl (Nat.le_of_ble_eq_true rfl) (Nat.le_of_ble_eq_true rfl) (Nat.le_of_ble_eq_true rfl) (st2 := []) rfl ?_
  refine GW_bipush (X := X_X12_isFadeHere) (pc := 4) (v := 48) d_X12_isFadeHere_4 (by decide) ?_
  refine GW_aload_n (X := X_X12_isFadeHere) (pc := 6) d_X12_isFadeHere_6 rfl 0 rfl ?_
  replace h := g_bd h
  obtain ⟨v3, hv3, h⟩ := h
  refine GW_getI (X := X_X12_isFadeHere) (pc := 7) f_X12_150 d_X12_isFadeHere_7 hv3 (Or.inl ty_12_11) ?_
  refine GW_imul (X := X_X12_isFadeHere) (pc := 10) d_X12_isFadeHere_10 ?_
  refine GW_iconst (X := X_X12_isFadeHere) (pc := 11) (v := 4) d_X12_isFadeHere_11 (by decide) ?_
  refine GW_aload_n (X := X_X12_isFadeHere) (pc := 12) d_X12_isFadeHere_12 rfl 0 rfl ?_
  replace h := g_bd h
  obtain ⟨v4, hv4, h⟩ := h
  refine GW_getR (X := X_X12_isFadeHere) (pc := 13) f_X12_23 d_X12_isFadeHere_13 hv4 (Or.inr ⟨_, ty_12_6⟩) ?_
  refine GW_aload_n (X := X_X12_isFadeHere) (pc := 16) d_X12_isFadeHere_16 rfl 0 rfl ?_
  replace h := g_bd h
  obtain ⟨v5, hv5, h⟩ := h
  refine GW_getI (X := X_X12_isFadeHere) (pc := 17) f_X12_150 d_X12_isFadeHere_17 hv5 (Or.inl ty_12_11) ?_
  replace h := g_bd h
  obtain ⟨v6, hv6, h⟩ := h
  refine GW_iald (X := X_X12_isFadeHere) (pc := 20) d_X12_isFadeHere_20 hv6 ?_
  refine GW_imul (X := X_X12_isFadeHere) (pc := 21) d_X12_isFadeHere_21 ?_
  refine GW_iadd (X := X_X12_isFadeHere) (pc := 22) d_X12_isFadeHere_22 ?_
  refine GW_istore_n (X := X_X12_isFadeHere) (pc := 23) d_X12_isFadeHere_23 rfl (Nat.le_of_ble_eq_true rfl) (lv2 := [(1, vi (((48 : Int32) * v3) + ((4 : Int32) * v6))), (0, vr (some i1))]) rfl ?_
  refine GW_aload_n (X := X_X12_isFadeHere) (pc := 24) d_X12_isFadeHere_24 rfl 1 rfl ?_
  replace h := g_bd h
  obtain ⟨v7, hv7, h⟩ := h
  refine GW_getR (X := X_X12_isFadeHere) (pc := 25) f_X12_20 d_X12_isFadeHere_25 hv7 (Or.inr ⟨_, ty_12_5⟩) ?_
  refine GW_iload_n (X := X_X12_isFadeHere) (pc := 28) d_X12_isFadeHere_28 rfl 0 rfl ?_
  refine GW_aload_n (X := X_X12_isFadeHere) (pc := 29) d_X12_isFadeHere_29 rfl 1 rfl ?_
  replace h := g_bd h
  obtain ⟨v8, hv8, h⟩ := h
  refine GW_getR (X := X_X12_isFadeHere) (pc := 30) f_X12_17 d_X12_isFadeHere_30 hv8 (Or.inr ⟨_, ty_12_4⟩) ?_
  refine GW_aload_n (X := X_X12_isFadeHere) (pc := 33) d_X12_isFadeHere_33 rfl 1 rfl ?_
  replace h := g_bd h
  obtain ⟨v9, hv9, h⟩ := h
  refine GW_getI (X := X_X12_isFadeHere) (pc := 34) f_X12_150 d_X12_isFadeHere_34 hv9 (Or.inl ty_12_11) ?_
  replace h := g_bd h
  obtain ⟨v10, hv10, h⟩ := h
  refine GW_iald (X := X_X12_isFadeHere) (pc := 37) d_X12_isFadeHere_37 hv10 ?_
  replace h := g_bd h
  obtain ⟨M11, hM11, h⟩ := h
  refine GW_iast (X := X_X12_isFadeHere) (pc := 38) d_X12_isFadeHere_38 hM11 ?_
  refine GW_aload_n (X := X_X12_isFadeHere) (pc := 39) d_X12_isFadeHere_39 rfl 1 rfl ?_
  replace h := g_bd h
  obtain ⟨_, kk12, h⟩ := h
  replace kk12 := g_gC kk12
  replace h := g_bd h
  obtain ⟨⟨v13, M14⟩, hv13, h⟩ := h
  dsimp only at h
  refine GW_callV (X := X_X12_isFadeHere) (pc := 40) (bc0 := 0) (bs0 := 0) (r := some (vi v13)) (M2 := M14) (c0 := 12) (T_X12_sum (some i1) M11 (v13, M14) hv13) (Nat.le_of_ble_eq_true rfl) (Nat.le_of_ble_eq_true rfl) rfl g_cok12 kk12 yc_X12_sum ⟨m_1325, m_1327, m_61, m_127, m_1328⟩ d_X12_isFadeHere_40 rfl (st := []) rfl (Nat.le_of_ble_eq_true rfl) (Nat.le_of_ble_eq_true rfl) (Nat.le_of_ble_eq_true rfl) (st2 := [vi v13]) rfl ?_
  refine GW_if_ne (X := X_X12_isFadeHere) (pc := 43) 48 d_X12_isFadeHere_43 (by decide) (fun c => ?_) (fun c => ?_)
  · replace h := g_ie c h
    refine GW_aload_n (X := X_X12_isFadeHere) (pc := 48) d_X12_isFadeHere_48 rfl 1 rfl ?_
    replace h := g_bd h
    obtain ⟨v15, hv15, h⟩ := h
    refine GW_getR (X := X_X12_isFadeHere) (pc := 49) f_X12_20 d_X12_isFadeHere_49 hv15 (Or.inr ⟨_, ty_12_5⟩) ?_
    refine GW_iload_n (X := X_X12_isFadeHere) (pc := 52) d_X12_isFadeHere_52 rfl 0 rfl ?_
    refine GW_iconst (X := X_X12_isFadeHere) (pc := 53) (v := 1) d_X12_isFadeHere_53 (by decide) ?_
    refine GW_iadd (X := X_X12_isFadeHere) (pc := 54) d_X12_isFadeHere_54 ?_
    refine GW_aload_n (X := X_X12_isFadeHere) (pc := 55) d_X12_isFadeHere_55 rfl 1 rfl ?_
    replace h := g_bd h
    obtain ⟨v16, hv16, h⟩ := h
    refine GW_getR (X := X_X12_isFadeHere) (pc := 56) f_X12_17 d_X12_isFadeHere_56 hv16 (Or.inr ⟨_, ty_12_4⟩) ?_
    refine GW_aload_n (X := X_X12_isFadeHere) (pc := 59) d_X12_isFadeHere_59 rfl 1 rfl ?_
    replace h := g_bd h
    obtain ⟨v17, hv17, h⟩ := h
    refine GW_getI (X := X_X12_isFadeHere) (pc := 60) f_X12_150 d_X12_isFadeHere_60 hv17 (Or.inl ty_12_11) ?_
    replace h := g_bd h
    obtain ⟨v18, hv18, h⟩ := h
    refine GW_iald (X := X_X12_isFadeHere) (pc := 63) d_X12_isFadeHere_63 hv18 ?_
    replace h := g_bd h
    obtain ⟨M19, hM19, h⟩ := h
    refine GW_iast (X := X_X12_isFadeHere) (pc := 64) d_X12_isFadeHere_64 hM19 ?_
    refine GW_aload_n (X := X_X12_isFadeHere) (pc := 65) d_X12_isFadeHere_65 rfl 1 rfl ?_
    replace h := g_bd h
    obtain ⟨v20, hv20, h⟩ := h
    refine GW_getR (X := X_X12_isFadeHere) (pc := 66) f_X12_20 d_X12_isFadeHere_66 hv20 (Or.inr ⟨_, ty_12_5⟩) ?_
    refine GW_iload_n (X := X_X12_isFadeHere) (pc := 69) d_X12_isFadeHere_69 rfl 0 rfl ?_
    refine GW_iconst (X := X_X12_isFadeHere) (pc := 70) (v := 2) d_X12_isFadeHere_70 (by decide) ?_
    refine GW_iadd (X := X_X12_isFadeHere) (pc := 71) d_X12_isFadeHere_71 ?_
    refine GW_iconst (X := X_X12_isFadeHere) (pc := 72) (v := -1) d_X12_isFadeHere_72 (by decide) ?_
    replace h := g_bd h
    obtain ⟨M21, hM21, h⟩ := h
    refine GW_iast (X := X_X12_isFadeHere) (pc := 73) d_X12_isFadeHere_73 hM21 ?_
    refine GW_aload_n (X := X_X12_isFadeHere) (pc := 74) d_X12_isFadeHere_74 rfl 1 rfl ?_
    refine GW_ldc2 (X := X_X12_isFadeHere) (pc := 75) d_X12_isFadeHere_75 m_1360 ?_
    replace h := g_bd h
    obtain ⟨_, kk22, h⟩ := h
    replace kk22 := g_gC kk22
    replace h := g_bd h
    obtain ⟨⟨v23, M24⟩, hv23, h⟩ := h
    dsimp only at h
    refine GW_callV (X := X_X12_isFadeHere) (pc := 78) (bc0 := 0) (bs0 := 0) (r := some (vi v23)) (M2 := M24) (c0 := 12) (T_X12_takesWord (some i1) (26982 : Int64) M21 (v23, M24) hv23) (Nat.le_of_ble_eq_true rfl) (Nat.le_of_ble_eq_true rfl) rfl g_cok12 kk22 yc_X12_takesWord ⟨m_1361, m_1363, m_67, m_127, m_1364⟩ d_X12_isFadeHere_78 rfl (st := []) rfl (Nat.le_of_ble_eq_true rfl) (Nat.le_of_ble_eq_true rfl) (Nat.le_of_ble_eq_true rfl) (st2 := [vi v23]) rfl ?_
    refine GW_if_eq (X := X_X12_isFadeHere) (pc := 81) 110 d_X12_isFadeHere_81 (by decide) (fun c => ?_) (fun c => ?_)
    · replace h := g_ip c h
      refine GW_sub [1, 0] rfl ?_
      exact T_X12_isFadeHere_b110 r (some i1) (((48 : Int32) * v3) + ((4 : Int32) * v6)) M24 h
    · replace h := g_ie c h
      refine GW_aload_n (X := X_X12_isFadeHere) (pc := 84) d_X12_isFadeHere_84 rfl 1 rfl ?_
      replace h := g_bd h
      obtain ⟨v25, hv25, h⟩ := h
      refine GW_getR (X := X_X12_isFadeHere) (pc := 85) f_X12_20 d_X12_isFadeHere_85 hv25 (Or.inr ⟨_, ty_12_5⟩) ?_
      refine GW_iload_n (X := X_X12_isFadeHere) (pc := 88) d_X12_isFadeHere_88 rfl 0 rfl ?_
      refine GW_iconst (X := X_X12_isFadeHere) (pc := 89) (v := 2) d_X12_isFadeHere_89 (by decide) ?_
      refine GW_iadd (X := X_X12_isFadeHere) (pc := 90) d_X12_isFadeHere_90 ?_
      refine GW_aload_n (X := X_X12_isFadeHere) (pc := 91) d_X12_isFadeHere_91 rfl 1 rfl ?_
      replace h := g_bd h
      obtain ⟨v26, hv26, h⟩ := h
      refine GW_getR (X := X_X12_isFadeHere) (pc := 92) f_X12_17 d_X12_isFadeHere_92 hv26 (Or.inr ⟨_, ty_12_4⟩) ?_
      refine GW_aload_n (X := X_X12_isFadeHere) (pc := 95) d_X12_isFadeHere_95 rfl 1 rfl ?_
      replace h := g_bd h
      obtain ⟨v27, hv27, h⟩ := h
      refine GW_getI (X := X_X12_isFadeHere) (pc := 96) f_X12_150 d_X12_isFadeHere_96 hv27 (Or.inl ty_12_11) ?_
      replace h := g_bd h
      obtain ⟨v28, hv28, h⟩ := h
      refine GW_iald (X := X_X12_isFadeHere) (pc := 99) d_X12_isFadeHere_99 hv28 ?_
      replace h := g_bd h
      obtain ⟨M29, hM29, h⟩ := h
      refine GW_iast (X := X_X12_isFadeHere) (pc := 100) d_X12_isFadeHere_100 hM29 ?_
      refine GW_aload_n (X := X_X12_isFadeHere) (pc := 101) d_X12_isFadeHere_101 rfl 1 rfl ?_
      replace h := g_bd h
      obtain ⟨_, kk30, h⟩ := h
      replace kk30 := g_gC kk30
      replace h := g_bd h
      obtain ⟨⟨v31, M32⟩, hv31, h⟩ := h
      dsimp only at h
      refine GW_callV (X := X_X12_isFadeHere) (pc := 102) (bc0 := 0) (bs0 := 0) (r := some (vi v31)) (M2 := M32) (c0 := 12) (T_X12_tested (some i1) M29 (v31, M32) hv31) (Nat.le_of_ble_eq_true rfl) (Nat.le_of_ble_eq_true rfl) rfl g_cok12 kk30 yc_X12_tested ⟨m_1365, m_1367, m_68, m_127, m_1368⟩ d_X12_isFadeHere_102 rfl (st := []) rfl (Nat.le_of_ble_eq_true rfl) (Nat.le_of_ble_eq_true rfl) (Nat.le_of_ble_eq_true rfl) (st2 := [vi v31]) rfl ?_
      refine GW_if_ne (X := X_X12_isFadeHere) (pc := 105) 110 d_X12_isFadeHere_105 (by decide) (fun c => ?_) (fun c => ?_)
      · replace h := g_ie c h
        refine GW_sub [1, 0] rfl ?_
        exact T_X12_isFadeHere_b110 r (some i1) (((48 : Int32) * v3) + ((4 : Int32) * v6)) M32 h
      · replace h := g_ip c h
        refine GW_iconst (X := X_X12_isFadeHere) (pc := 108) (v := 0) d_X12_isFadeHere_108 (by decide) ?_
        replace h := Option.some.inj h
        subst h
        exact GW_ret (X := X_X12_isFadeHere) (pc := 109) d_X12_isFadeHere_109 rfl g_rok0
  · replace h := g_ip c h
    refine GW_iconst (X := X_X12_isFadeHere) (pc := 46) (v := 0) d_X12_isFadeHere_46 (by decide) ?_
    replace h := Option.some.inj h
    subst h
    exact GW_ret (X := X_X12_isFadeHere) (pc := 47) d_X12_isFadeHere_47 rfl g_rok0
def F_X12_isFadeHere (l0 : Option Nat) (M : gM) : Option (Int32 × gM) := F_X12_isFadeHere_b0 l0 M
theorem T_X12_isFadeHere (l0 : Option Nat) (M : gM) (r : (Int32 × gM)) (h : F_X12_isFadeHere l0 M = some r) : g_Met 9 0 0 yX12_isFadeHere X_X12_isFadeHere [vr l0] M (some (vi r.1), r.2) :=
  g_Met_of pn_RX12 rfl (Nat.le_of_ble_eq_true rfl) (fun h => by cases h) (GW_sub [0] rfl (T_X12_isFadeHere_b0 r l0 M h))
/-! ForgetHeirsModel.clauseHere()Z -/
theorem d_X12_clauseHere_0 : decode cX12_clauseHere 0 = .ok (.aload_n 0, 1) := by decide +kernel
theorem d_X12_clauseHere_1 : decode cX12_clauseHere 1 = .ok (.invokevirtual 93, 3) := by decide +kernel
theorem d_X12_clauseHere_4 : decode cX12_clauseHere 4 = .ok (.pop, 1) := by decide +kernel
theorem d_X12_clauseHere_5 : decode cX12_clauseHere 5 = .ok (.aload_n 0, 1) := by decide +kernel
theorem d_X12_clauseHere_6 : decode cX12_clauseHere 6 = .ok (.getfield 90, 3) := by decide +kernel
theorem d_X12_clauseHere_9 : decode cX12_clauseHere 9 = .ok (.istore_n 1, 1) := by decide +kernel
theorem d_X12_clauseHere_10 : decode cX12_clauseHere 10 = .ok (.aload_n 0, 1) := by decide +kernel
theorem d_X12_clauseHere_11 : decode cX12_clauseHere 11 = .ok (.getfield 150, 3) := by decide +kernel
theorem d_X12_clauseHere_14 : decode cX12_clauseHere 14 = .ok (.bipush 6, 2) := by decide +kernel
theorem d_X12_clauseHere_16 : decode cX12_clauseHere 16 = .ok (.if_icmp .ne 7, 3) := by decide +kernel
theorem d_X12_clauseHere_19 : decode cX12_clauseHere 19 = .ok (.iconst 1, 1) := by decide +kernel
theorem d_X12_clauseHere_20 : decode cX12_clauseHere 20 = .ok (.goto 4, 3) := by decide +kernel
theorem d_X12_clauseHere_23 : decode cX12_clauseHere 23 = .ok (.iconst 0, 1) := by decide +kernel
theorem d_X12_clauseHere_24 : decode cX12_clauseHere 24 = .ok (.istore_n 2, 1) := by decide +kernel
theorem d_X12_clauseHere_25 : decode cX12_clauseHere 25 = .ok (.iload_n 2, 1) := by decide +kernel
theorem d_X12_clauseHere_26 : decode cX12_clauseHere 26 = .ok (.ifCond .eq 13, 3) := by decide +kernel
theorem d_X12_clauseHere_29 : decode cX12_clauseHere 29 = .ok (.aload_n 0, 1) := by decide +kernel
theorem d_X12_clauseHere_30 : decode cX12_clauseHere 30 = .ok (.invokevirtual 256, 3) := by decide +kernel
theorem d_X12_clauseHere_33 : decode cX12_clauseHere 33 = .ok (.ifCond .ne 23, 3) := by decide +kernel
theorem d_X12_clauseHere_36 : decode cX12_clauseHere 36 = .ok (.goto 13, 3) := by decide +kernel
theorem d_X12_clauseHere_39 : decode cX12_clauseHere 39 = .ok (.aload_n 0, 1) := by decide +kernel
theorem d_X12_clauseHere_40 : decode cX12_clauseHere 40 = .ok (.ldc2_w 259, 3) := by decide +kernel
theorem d_X12_clauseHere_43 : decode cX12_clauseHere 43 = .ok (.invokevirtual 101, 3) := by decide +kernel
theorem d_X12_clauseHere_46 : decode cX12_clauseHere 46 = .ok (.ifCond .ne 10, 3) := by decide +kernel
theorem d_X12_clauseHere_49 : decode cX12_clauseHere 49 = .ok (.aload_n 0, 1) := by decide +kernel
theorem d_X12_clauseHere_50 : decode cX12_clauseHere 50 = .ok (.iconst 0, 1) := by decide +kernel
theorem d_X12_clauseHere_51 : decode cX12_clauseHere 51 = .ok (.iload_n 1, 1) := by decide +kernel
theorem d_X12_clauseHere_52 : decode cX12_clauseHere 52 = .ok (.invokevirtual 111, 3) := by decide +kernel
theorem d_X12_clauseHere_55 : decode cX12_clauseHere 55 = .ok (.ireturn, 1) := by decide +kernel
theorem d_X12_clauseHere_56 : decode cX12_clauseHere 56 = .ok (.aload_n 0, 1) := by decide +kernel
theorem d_X12_clauseHere_57 : decode cX12_clauseHere 57 = .ok (.getfield 261, 3) := by decide +kernel
theorem d_X12_clauseHere_60 : decode cX12_clauseHere 60 = .ok (.iload_n 2, 1) := by decide +kernel
theorem d_X12_clauseHere_61 : decode cX12_clauseHere 61 = .ok (.ifCond .eq 8, 3) := by decide +kernel
theorem d_X12_clauseHere_64 : decode cX12_clauseHere 64 = .ok (.bipush 40, 2) := by decide +kernel
theorem d_X12_clauseHere_66 : decode cX12_clauseHere 66 = .ok (.goto 5, 3) := by decide +kernel
theorem d_X12_clauseHere_69 : decode cX12_clauseHere 69 = .ok (.bipush 12, 2) := by decide +kernel
theorem d_X12_clauseHere_71 : decode cX12_clauseHere 71 = .ok (.if_icmp .ne 10, 3) := by decide +kernel
theorem d_X12_clauseHere_74 : decode cX12_clauseHere 74 = .ok (.aload_n 0, 1) := by decide +kernel
theorem d_X12_clauseHere_75 : decode cX12_clauseHere 75 = .ok (.iconst 4, 1) := by decide +kernel
theorem d_X12_clauseHere_76 : decode cX12_clauseHere 76 = .ok (.iload_n 1, 1) := by decide +kernel
theorem d_X12_clauseHere_77 : decode cX12_clauseHere 77 = .ok (.invokevirtual 111, 3) := by decide +kernel
theorem d_X12_clauseHere_80 : decode cX12_clauseHere 80 = .ok (.ireturn, 1) := by decide +kernel
theorem d_X12_clauseHere_81 : decode cX12_clauseHere 81 = .ok (.aload_n 0, 1) := by decide +kernel
theorem d_X12_clauseHere_82 : decode cX12_clauseHere 82 = .ok (.dup, 1) := by decide +kernel
theorem d_X12_clauseHere_83 : decode cX12_clauseHere 83 = .ok (.getfield 261, 3) := by decide +kernel
theorem d_X12_clauseHere_86 : decode cX12_clauseHere 86 = .ok (.iconst 1, 1) := by decide +kernel
theorem d_X12_clauseHere_87 : decode cX12_clauseHere 87 = .ok (.iadd, 1) := by decide +kernel
theorem d_X12_clauseHere_88 : decode cX12_clauseHere 88 = .ok (.putfield 261, 3) := by decide +kernel
theorem d_X12_clauseHere_91 : decode cX12_clauseHere 91 = .ok (.iload_n 2, 1) := by decide +kernel
theorem d_X12_clauseHere_92 : decode cX12_clauseHere 92 = .ok (.ifCond .eq 11, 3) := by decide +kernel
theorem d_X12_clauseHere_95 : decode cX12_clauseHere 95 = .ok (.aload_n 0, 1) := by decide +kernel
theorem d_X12_clauseHere_96 : decode cX12_clauseHere 96 = .ok (.iload_n 1, 1) := by decide +kernel
theorem d_X12_clauseHere_97 : decode cX12_clauseHere 97 = .ok (.invokevirtual 264, 3) := by decide +kernel
theorem d_X12_clauseHere_100 : decode cX12_clauseHere 100 = .ok (.goto 7, 3) := by decide +kernel
theorem d_X12_clauseHere_103 : decode cX12_clauseHere 103 = .ok (.aload_n 0, 1) := by decide +kernel
theorem d_X12_clauseHere_104 : decode cX12_clauseHere 104 = .ok (.invokevirtual 267, 3) := by decide +kernel
theorem d_X12_clauseHere_107 : decode cX12_clauseHere 107 = .ok (.ireturn, 1) := by decide +kernel
abbrev X_X12_clauseHere : gX := (RX12, cX12_clauseHere, 3, (some .boolean), false)
def F_X12_clauseHere_b71 (l0 : Option Nat) (l1 : Int32) (l2 : Int32) (s0 : Int32) (s1 : Int32) (M : gM) : Option (Int32 × gM) :=
  if s0 = s1 then ((gO 12 M l0).bind fun i11 => (F_X12_fails (some i11) (4 : Int32) l1 M).bind fun (v12, M13) => if v12 = 0 ∨ v12 = 1 then some (v12, M13) else none) else ((gI 12 M l0 14).bind fun v1 => (pI 12 M l0 14 (v1 + (1 : Int32))).bind fun M2 => if l2 = 0 then ((gO 12 M2 l0).bind fun i3 => (F_X12_isFadeHere (some i3) M2).bind fun (v4, M5) => if v4 = 0 ∨ v4 = 1 then some (v4, M5) else none) else ((gO 12 M2 l0).bind fun i7 => (F_X12_houseLineHere (some i7) l1 M2).bind fun (v8, M9) => if v8 = 0 ∨ v8 = 1 then some (v8, M9) else none))
set_option maxHeartbeats 1000000 in
theorem T_X12_clauseHere_b71 (r : (Int32 × gM)) (l0 : Option Nat) (l1 : Int32) (l2 : Int32) (s0 : Int32) (s1 : Int32) (M : gM) (h : F_X12_clauseHere_b71 l0 l1 l2 s0 s1 M = some r) : GW 10 0 0 X_X12_clauseHere 71 [(0, vr l0), (1, vi l1), (2, vi l2)] [vi s1, vi s0] M (some (vi r.1), r.2) := by
  delta F_X12_clauseHere_b71 at h
  refine GW_icmp_ne (X := X_X12_clauseHere) (pc := 71) 81 d_X12_clauseHere_71 (by decide) (fun c => ?_) (fun c => ?_)
  · replace h := g_ie c h
    refine GW_aload_n (X := X_X12_clauseHere) (pc := 81) d_X12_clauseHere_81 rfl 0 rfl ?_
    refine GW_dup (X := X_X12_clauseHere) (pc := 82) d_X12_clauseHere_82 rfl ?_
    replace h := g_bd h
    obtain ⟨v1, hv1, h⟩ := h
    refine GW_getI (X := X_X12_clauseHere) (pc := 83) f_X12_261 d_X12_clauseHere_83 hv1 (Or.inl ty_12_14) ?_
    refine GW_iconst (X := X_X12_clauseHere) (pc := 86) (v := 1) d_X12_clauseHere_86 (by decide) ?_
    refine GW_iadd (X := X_X12_clauseHere) (pc := 87) d_X12_clauseHere_87 ?_
    replace h := g_bd h
    obtain ⟨M2, hM2, h⟩ := h
    refine GW_putI (X := X_X12_clauseHere) (pc := 88) f_X12_261 d_X12_clauseHere_88 hM2 (Or.inl fi_12_14) (Or.inl ty_12_14) ?_
    refine GW_iload_n (X := X_X12_clauseHere) (pc := 91) d_X12_clauseHere_91 rfl 2 rfl ?_
    refine GW_if_eq (X := X_X12_clauseHere) (pc := 92) 103 d_X12_clauseHere_92 (by decide) (fun c => ?_) (fun c => ?_)
    · replace h := g_ip c h
      refine GW_aload_n (X := X_X12_clauseHere) (pc := 103) d_X12_clauseHere_103 rfl 0 rfl ?_
      replace h := g_bd h
      obtain ⟨i3, hi3, h⟩ := h
      obtain ⟨rfl, ki3⟩ := g_gO hi3
      replace h := g_bd h
      obtain ⟨⟨v4, M5⟩, hv4, h⟩ := h
      dsimp only at h
      refine GW_callV (X := X_X12_clauseHere) (pc := 104) (bc0 := 0) (bs0 := 0) (r := some (vi v4)) (M2 := M5) (c0 := 12) (T_X12_isFadeHere (some i3) M2 (v4, M5) hv4) (Nat.le_of_ble_eq_true rfl) (Nat.le_of_ble_eq_true rfl) rfl g_cok12 ki3 yc_X12_isFadeHere ⟨m_1321, m_1323, m_60, m_127, m_1324⟩ d_X12_clauseHere_104 rfl (st := []) rfl (Nat.le_of_ble_eq_true rfl) (Nat.le_of_ble_eq_true rfl) (Nat.le_of_ble_eq_true rfl) (st2 := [vi v4]) rfl ?_
      replace h := g_if2 h
      obtain ⟨hz6, h⟩ := h
      replace h := Option.some.inj h
      subst h
      exact GW_ret (X := X_X12_clauseHere) (pc := 107) d_X12_clauseHere_107 rfl (g_zok hz6)
    · replace h := g_ie c h
      refine GW_aload_n (X := X_X12_clauseHere) (pc := 95) d_X12_clauseHere_95 rfl 0 rfl ?_
      refine GW_iload_n (X := X_X12_clauseHere) (pc := 96) d_X12_clauseHere_96 rfl 1 rfl ?_
      replace h := g_bd h
      obtain ⟨i7, hi7, h⟩ := h
      obtain ⟨rfl, ki7⟩ := g_gO hi7
      replace h := g_bd h
      obtain ⟨⟨v8, M9⟩, hv8, h⟩ := h
      dsimp only at h
      refine GW_callV (X := X_X12_clauseHere) (pc := 97) (bc0 := 0) (bs0 := 0) (r := some (vi v8)) (M2 := M9) (c0 := 12) (T_X12_houseLineHere (some i7) l1 M2 (v8, M9) hv8) (Nat.le_of_ble_eq_true rfl) (Nat.le_of_ble_eq_true rfl) rfl g_cok12 ki7 yc_X12_houseLineHere ⟨m_1267, m_1269, m_48, m_127, m_1270⟩ d_X12_clauseHere_97 rfl (st := []) rfl (Nat.le_of_ble_eq_true rfl) (Nat.le_of_ble_eq_true rfl) (Nat.le_of_ble_eq_true rfl) (st2 := [vi v8]) rfl ?_
      refine GW_goto (X := X_X12_clauseHere) (pc := 100) 107 d_X12_clauseHere_100 (by decide) ?_
      replace h := g_if2 h
      obtain ⟨hz10, h⟩ := h
      replace h := Option.some.inj h
      subst h
      exact GW_ret (X := X_X12_clauseHere) (pc := 107) d_X12_clauseHere_107 rfl (g_zok hz10)
  · replace h := g_ip c h
    refine GW_aload_n (X := X_X12_clauseHere) (pc := 74) d_X12_clauseHere_74 rfl 0 rfl ?_
    refine GW_iconst (X := X_X12_clauseHere) (pc := 75) (v := 4) d_X12_clauseHere_75 (by decide) ?_
    refine GW_iload_n (X := X_X12_clauseHere) (pc := 76) d_X12_clauseHere_76 rfl 1 rfl ?_
    replace h := g_bd h
    obtain ⟨i11, hi11, h⟩ := h
    obtain ⟨rfl, ki11⟩ := g_gO hi11
    replace h := g_bd h
    obtain ⟨⟨v12, M13⟩, hv12, h⟩ := h
    dsimp only at h
    refine GW_callV (X := X_X12_clauseHere) (pc := 77) (bc0 := 0) (bs0 := 0) (r := some (vi v12)) (M2 := M13) (c0 := 12) (T_X12_fails (some i11) (4 : Int32) l1 M (v12, M13) hv12) (Nat.le_of_ble_eq_true rfl) (Nat.le_of_ble_eq_true rfl) rfl g_cok12 ki11 yc_X12_fails ⟨m_1263, m_1265, m_47, m_127, m_1266⟩ d_X12_clauseHere_77 rfl (st := []) rfl (Nat.le_of_ble_eq_true rfl) (Nat.le_of_ble_eq_true rfl) (Nat.le_of_ble_eq_true rfl) (st2 := [vi v12]) rfl ?_
    replace h := g_if2 h
    obtain ⟨hz14, h⟩ := h
    replace h := Option.some.inj h
    subst h
    exact GW_ret (X := X_X12_clauseHere) (pc := 80) d_X12_clauseHere_80 rfl (g_zok hz14)
def F_X12_clauseHere_b56 (l0 : Option Nat) (l1 : Int32) (l2 : Int32) (M : gM) : Option (Int32 × gM) :=
  (gI 12 M l0 14).bind fun v1 => if l2 = 0 then (F_X12_clauseHere_b71 l0 l1 l2 v1 (12 : Int32) M) else (F_X12_clauseHere_b71 l0 l1 l2 v1 (40 : Int32) M)
theorem T_X12_clauseHere_b56 (r : (Int32 × gM)) (l0 : Option Nat) (l1 : Int32) (l2 : Int32) (M : gM) (h : F_X12_clauseHere_b56 l0 l1 l2 M = some r) : GW 10 0 0 X_X12_clauseHere 56 [(0, vr l0), (1, vi l1), (2, vi l2)] [] M (some (vi r.1), r.2) := by
  delta F_X12_clauseHere_b56 at h
  refine GW_aload_n (X := X_X12_clauseHere) (pc := 56) d_X12_clauseHere_56 rfl 0 rfl ?_
  replace h := g_bd h
  obtain ⟨v1, hv1, h⟩ := h
  refine GW_getI (X := X_X12_clauseHere) (pc := 57) f_X12_261 d_X12_clauseHere_57 hv1 (Or.inl ty_12_14) ?_
  refine GW_iload_n (X := X_X12_clauseHere) (pc := 60) d_X12_clauseHere_60 rfl 2 rfl ?_
  refine GW_if_eq (X := X_X12_clauseHere) (pc := 61) 69 d_X12_clauseHere_61 (by decide) (fun c => ?_) (fun c => ?_)
  · replace h := g_ip c h
    refine GW_bipush (X := X_X12_clauseHere) (pc := 69) (v := 12) d_X12_clauseHere_69 (by decide) ?_
    exact T_X12_clauseHere_b71 r l0 l1 l2 v1 (12 : Int32) M h
  · replace h := g_ie c h
    refine GW_bipush (X := X_X12_clauseHere) (pc := 64) (v := 40) d_X12_clauseHere_64 (by decide) ?_
    refine GW_goto (X := X_X12_clauseHere) (pc := 66) 71 d_X12_clauseHere_66 (by decide) ?_
    exact T_X12_clauseHere_b71 r l0 l1 l2 v1 (40 : Int32) M h
def F_X12_clauseHere_b49 (l0 : Option Nat) (l1 : Int32) (M : gM) : Option (Int32 × gM) :=
  (gO 12 M l0).bind fun i1 => (F_X12_fails (some i1) (0 : Int32) l1 M).bind fun (v2, M3) => if v2 = 0 ∨ v2 = 1 then some (v2, M3) else none
theorem T_X12_clauseHere_b49 (r : (Int32 × gM)) (l0 : Option Nat) (l1 : Int32) (M : gM) (h : F_X12_clauseHere_b49 l0 l1 M = some r) : GW 10 0 0 X_X12_clauseHere 49 [(0, vr l0), (1, vi l1)] [] M (some (vi r.1), r.2) := by
  delta F_X12_clauseHere_b49 at h
  refine GW_aload_n (X := X_X12_clauseHere) (pc := 49) d_X12_clauseHere_49 rfl 0 rfl ?_
  refine GW_iconst (X := X_X12_clauseHere) (pc := 50) (v := 0) d_X12_clauseHere_50 (by decide) ?_
  refine GW_iload_n (X := X_X12_clauseHere) (pc := 51) d_X12_clauseHere_51 rfl 1 rfl ?_
  replace h := g_bd h
  obtain ⟨i1, hi1, h⟩ := h
  obtain ⟨rfl, ki1⟩ := g_gO hi1
  replace h := g_bd h
  obtain ⟨⟨v2, M3⟩, hv2, h⟩ := h
  dsimp only at h
  refine GW_callV (X := X_X12_clauseHere) (pc := 52) (bc0 := 0) (bs0 := 0) (r := some (vi v2)) (M2 := M3) (c0 := 12) (T_X12_fails (some i1) (0 : Int32) l1 M (v2, M3) hv2) (Nat.le_of_ble_eq_true rfl) (Nat.le_of_ble_eq_true rfl) rfl g_cok12 ki1 yc_X12_fails ⟨m_1263, m_1265, m_47, m_127, m_1266⟩ d_X12_clauseHere_52 rfl (st := []) rfl (Nat.le_of_ble_eq_true rfl) (Nat.le_of_ble_eq_true rfl) (Nat.le_of_ble_eq_true rfl) (st2 := [vi v2]) rfl ?_
  replace h := g_if2 h
  obtain ⟨hz4, h⟩ := h
  replace h := Option.some.inj h
  subst h
  exact GW_ret (X := X_X12_clauseHere) (pc := 55) d_X12_clauseHere_55 rfl (g_zok hz4)
def F_X12_clauseHere_b24 (l0 : Option Nat) (l1 : Int32) (s0 : Int32) (M : gM) : Option (Int32 × gM) :=
  if s0 = 0 then ((gO 12 M l0).bind fun i1 => (F_X12_isWord (some i1) (1717658725 : Int64) M).bind fun (v2, M3) => if v2 = 0 then (F_X12_clauseHere_b49 (some i1) l1 M3) else (F_X12_clauseHere_b56 (some i1) l1 s0 M3)) else ((gO 12 M l0).bind fun i4 => (F_X12_isHouseWord (some i4) M).bind fun (v5, M6) => if v5 = 0 then (F_X12_clauseHere_b49 (some i4) l1 M6) else (F_X12_clauseHere_b56 (some i4) l1 s0 M6))
theorem T_X12_clauseHere_b24 (r : (Int32 × gM)) (l0 : Option Nat) (l1 : Int32) (s0 : Int32) (M : gM) (h : F_X12_clauseHere_b24 l0 l1 s0 M = some r) : GW 10 0 0 X_X12_clauseHere 24 [(0, vr l0), (1, vi l1)] [vi s0] M (some (vi r.1), r.2) := by
  delta F_X12_clauseHere_b24 at h
  refine GW_istore_n (X := X_X12_clauseHere) (pc := 24) d_X12_clauseHere_24 rfl (Nat.le_of_ble_eq_true rfl) (lv2 := [(2, vi s0), (0, vr l0), (1, vi l1)]) rfl ?_
  refine GW_iload_n (X := X_X12_clauseHere) (pc := 25) d_X12_clauseHere_25 rfl 0 rfl ?_
  refine GW_if_eq (X := X_X12_clauseHere) (pc := 26) 39 d_X12_clauseHere_26 (by decide) (fun c => ?_) (fun c => ?_)
  · replace h := g_ip c h
    refine GW_aload_n (X := X_X12_clauseHere) (pc := 39) d_X12_clauseHere_39 rfl 1 rfl ?_
    refine GW_ldc2 (X := X_X12_clauseHere) (pc := 40) d_X12_clauseHere_40 m_1262 ?_
    replace h := g_bd h
    obtain ⟨i1, hi1, h⟩ := h
    obtain ⟨rfl, ki1⟩ := g_gO hi1
    replace h := g_bd h
    obtain ⟨⟨v2, M3⟩, hv2, h⟩ := h
    dsimp only at h
    refine GW_callV (X := X_X12_clauseHere) (pc := 43) (bc0 := 0) (bs0 := 0) (r := some (vi v2)) (M2 := M3) (c0 := 12) (T_X12_isWord (some i1) (1717658725 : Int64) M (v2, M3) hv2) (Nat.le_of_ble_eq_true rfl) (Nat.le_of_ble_eq_true rfl) rfl g_cok12 ki1 yc_X12_isWord ⟨m_1248, m_1250, m_45, m_127, m_1251⟩ d_X12_clauseHere_43 rfl (st := []) rfl (Nat.le_of_ble_eq_true rfl) (Nat.le_of_ble_eq_true rfl) (Nat.le_of_ble_eq_true rfl) (st2 := [vi v2]) rfl ?_
    refine GW_if_ne (X := X_X12_clauseHere) (pc := 46) 56 d_X12_clauseHere_46 (by decide) (fun c => ?_) (fun c => ?_)
    · replace h := g_ie c h
      refine GW_sub [1, 2, 0] rfl ?_
      exact T_X12_clauseHere_b56 r (some i1) l1 s0 M3 h
    · replace h := g_ip c h
      refine GW_sub [1, 2] rfl ?_
      exact T_X12_clauseHere_b49 r (some i1) l1 M3 h
  · replace h := g_ie c h
    refine GW_aload_n (X := X_X12_clauseHere) (pc := 29) d_X12_clauseHere_29 rfl 1 rfl ?_
    replace h := g_bd h
    obtain ⟨i4, hi4, h⟩ := h
    obtain ⟨rfl, ki4⟩ := g_gO hi4
    replace h := g_bd h
    obtain ⟨⟨v5, M6⟩, hv5, h⟩ := h
    dsimp only at h
    refine GW_callV (X := X_X12_clauseHere) (pc := 30) (bc0 := 0) (bs0 := 0) (r := some (vi v5)) (M2 := M6) (c0 := 12) (T_X12_isHouseWord (some i4) M (v5, M6) hv5) (Nat.le_of_ble_eq_true rfl) (Nat.le_of_ble_eq_true rfl) rfl g_cok12 ki4 yc_X12_isHouseWord ⟨m_1243, m_1245, m_44, m_127, m_1246⟩ d_X12_clauseHere_30 rfl (st := []) rfl (Nat.le_of_ble_eq_true rfl) (Nat.le_of_ble_eq_true rfl) (Nat.le_of_ble_eq_true rfl) (st2 := [vi v5]) rfl ?_
    refine GW_if_ne (X := X_X12_clauseHere) (pc := 33) 56 d_X12_clauseHere_33 (by decide) (fun c => ?_) (fun c => ?_)
    · replace h := g_ie c h
      refine GW_sub [1, 2, 0] rfl ?_
      exact T_X12_clauseHere_b56 r (some i4) l1 s0 M6 h
    · replace h := g_ip c h
      refine GW_goto (X := X_X12_clauseHere) (pc := 36) 49 d_X12_clauseHere_36 (by decide) ?_
      refine GW_sub [1, 2] rfl ?_
      exact T_X12_clauseHere_b49 r (some i4) l1 M6 h
def F_X12_clauseHere_b0 (l0 : Option Nat) (M : gM) : Option (Int32 × gM) :=
  (gO 12 M l0).bind fun i1 => (F_X12_see (some i1) M).bind fun (v2, M3) => (gI 12 M3 (some i1) 8).bind fun v4 => (gI 12 M3 (some i1) 11).bind fun v5 => if v5 = (6 : Int32) then (F_X12_clauseHere_b24 (some i1) v4 (1 : Int32) M3) else (F_X12_clauseHere_b24 (some i1) v4 (0 : Int32) M3)
theorem T_X12_clauseHere_b0 (r : (Int32 × gM)) (l0 : Option Nat) (M : gM) (h : F_X12_clauseHere_b0 l0 M = some r) : GW 10 0 0 X_X12_clauseHere 0 [(0, vr l0)] [] M (some (vi r.1), r.2) := by
  delta F_X12_clauseHere_b0 at h
  refine GW_aload_n (X := X_X12_clauseHere) (pc := 0) d_X12_clauseHere_0 rfl 0 rfl ?_
  replace h := g_bd h
  obtain ⟨i1, hi1, h⟩ := h
  obtain ⟨rfl, ki1⟩ := g_gO hi1
  replace h := g_bd h
  obtain ⟨⟨v2, M3⟩, hv2, h⟩ := h
  dsimp only at h
  refine GW_callV (X := X_X12_clauseHere) (pc := 1) (bc0 := 0) (bs0 := 0) (r := some (vi v2)) (M2 := M3) (c0 := 12) (T_X12_see (some i1) M (v2, M3) hv2) (Nat.le_of_ble_eq_true rfl) (Nat.le_of_ble_eq_true rfl) rfl g_cok12 ki1 yc_X12_see ⟨m_1239, m_1241, m_43, m_127, m_1242⟩ d_X12_clauseHere_1 rfl (st := []) rfl (Nat.le_of_ble_eq_true rfl) (Nat.le_of_ble_eq_true rfl) (Nat.le_of_ble_eq_true rfl) (st2 := [vi v2]) rfl ?_
  refine GW_pop (X := X_X12_clauseHere) (pc := 4) d_X12_clauseHere_4 rfl ?_
  refine GW_aload_n (X := X_X12_clauseHere) (pc := 5) d_X12_clauseHere_5 rfl 0 rfl ?_
  replace h := g_bd h
  obtain ⟨v4, hv4, h⟩ := h
  refine GW_getI (X := X_X12_clauseHere) (pc := 6) f_X12_90 d_X12_clauseHere_6 hv4 (Or.inl ty_12_8) ?_
  refine GW_istore_n (X := X_X12_clauseHere) (pc := 9) d_X12_clauseHere_9 rfl (Nat.le_of_ble_eq_true rfl) (lv2 := [(1, vi v4), (0, vr (some i1))]) rfl ?_
  refine GW_aload_n (X := X_X12_clauseHere) (pc := 10) d_X12_clauseHere_10 rfl 1 rfl ?_
  replace h := g_bd h
  obtain ⟨v5, hv5, h⟩ := h
  refine GW_getI (X := X_X12_clauseHere) (pc := 11) f_X12_150 d_X12_clauseHere_11 hv5 (Or.inl ty_12_11) ?_
  refine GW_bipush (X := X_X12_clauseHere) (pc := 14) (v := 6) d_X12_clauseHere_14 (by decide) ?_
  refine GW_icmp_ne (X := X_X12_clauseHere) (pc := 16) 23 d_X12_clauseHere_16 (by decide) (fun c => ?_) (fun c => ?_)
  · replace h := g_ie c h
    refine GW_iconst (X := X_X12_clauseHere) (pc := 23) (v := 0) d_X12_clauseHere_23 (by decide) ?_
    refine GW_sub [1, 0] rfl ?_
    exact T_X12_clauseHere_b24 r (some i1) v4 (0 : Int32) M3 h
  · replace h := g_ip c h
    refine GW_iconst (X := X_X12_clauseHere) (pc := 19) (v := 1) d_X12_clauseHere_19 (by decide) ?_
    refine GW_goto (X := X_X12_clauseHere) (pc := 20) 24 d_X12_clauseHere_20 (by decide) ?_
    refine GW_sub [1, 0] rfl ?_
    exact T_X12_clauseHere_b24 r (some i1) v4 (1 : Int32) M3 h
def F_X12_clauseHere (l0 : Option Nat) (M : gM) : Option (Int32 × gM) := F_X12_clauseHere_b0 l0 M
theorem T_X12_clauseHere (l0 : Option Nat) (M : gM) (r : (Int32 × gM)) (h : F_X12_clauseHere l0 M = some r) : g_Met 10 0 0 yX12_clauseHere X_X12_clauseHere [vr l0] M (some (vi r.1), r.2) :=
  g_Met_of pn_RX12 rfl (Nat.le_of_ble_eq_true rfl) (fun h => by cases h) (GW_sub [0] rfl (T_X12_clauseHere_b0 r l0 M h))
/-! ForgetHeirsModel.readsAll()Z -/
theorem d_X12_readsAll_0 : decode cX12_readsAll 0 = .ok (.aload_n 0, 1) := by decide +kernel
theorem d_X12_readsAll_1 : decode cX12_readsAll 1 = .ok (.getfield 17, 3) := by decide +kernel
theorem d_X12_readsAll_4 : decode cX12_readsAll 4 = .ok (.aload_n 0, 1) := by decide +kernel
theorem d_X12_readsAll_5 : decode cX12_readsAll 5 = .ok (.getfield 150, 3) := by decide +kernel
theorem d_X12_readsAll_8 : decode cX12_readsAll 8 = .ok (.iconst 0, 1) := by decide +kernel
theorem d_X12_readsAll_9 : decode cX12_readsAll 9 = .ok (.iastore, 1) := by decide +kernel
theorem d_X12_readsAll_10 : decode cX12_readsAll 10 = .ok (.aload_n 0, 1) := by decide +kernel
theorem d_X12_readsAll_11 : decode cX12_readsAll 11 = .ok (.iconst 0, 1) := by decide +kernel
theorem d_X12_readsAll_12 : decode cX12_readsAll 12 = .ok (.putfield 261, 3) := by decide +kernel
theorem d_X12_readsAll_15 : decode cX12_readsAll 15 = .ok (.aload_n 0, 1) := by decide +kernel
theorem d_X12_readsAll_16 : decode cX12_readsAll 16 = .ok (.iconst 0, 1) := by decide +kernel
theorem d_X12_readsAll_17 : decode cX12_readsAll 17 = .ok (.putfield 90, 3) := by decide +kernel
theorem d_X12_readsAll_20 : decode cX12_readsAll 20 = .ok (.aload_n 0, 1) := by decide +kernel
theorem d_X12_readsAll_21 : decode cX12_readsAll 21 = .ok (.iconst 0, 1) := by decide +kernel
theorem d_X12_readsAll_22 : decode cX12_readsAll 22 = .ok (.putfield 87, 3) := by decide +kernel
theorem d_X12_readsAll_25 : decode cX12_readsAll 25 = .ok (.aload_n 0, 1) := by decide +kernel
theorem d_X12_readsAll_26 : decode cX12_readsAll 26 = .ok (.iconst 0, 1) := by decide +kernel
theorem d_X12_readsAll_27 : decode cX12_readsAll 27 = .ok (.putfield 153, 3) := by decide +kernel
theorem d_X12_readsAll_30 : decode cX12_readsAll 30 = .ok (.aload_n 0, 1) := by decide +kernel
theorem d_X12_readsAll_31 : decode cX12_readsAll 31 = .ok (.invokevirtual 270, 3) := by decide +kernel
theorem d_X12_readsAll_34 : decode cX12_readsAll 34 = .ok (.istore_n 1, 1) := by decide +kernel
theorem d_X12_readsAll_35 : decode cX12_readsAll 35 = .ok (.iload_n 1, 1) := by decide +kernel
theorem d_X12_readsAll_36 : decode cX12_readsAll 36 = .ok (.ifCond .eq 30, 3) := by decide +kernel
theorem d_X12_readsAll_39 : decode cX12_readsAll 39 = .ok (.aload_n 0, 1) := by decide +kernel
theorem d_X12_readsAll_40 : decode cX12_readsAll 40 = .ok (.invokevirtual 93, 3) := by decide +kernel
theorem d_X12_readsAll_43 : decode cX12_readsAll 43 = .ok (.bipush 59, 2) := by decide +kernel
theorem d_X12_readsAll_45 : decode cX12_readsAll 45 = .ok (.if_icmp .ne 21, 3) := by decide +kernel
theorem d_X12_readsAll_48 : decode cX12_readsAll 48 = .ok (.aload_n 0, 1) := by decide +kernel
theorem d_X12_readsAll_49 : decode cX12_readsAll 49 = .ok (.dup, 1) := by decide +kernel
theorem d_X12_readsAll_50 : decode cX12_readsAll 50 = .ok (.getfield 90, 3) := by decide +kernel
theorem d_X12_readsAll_53 : decode cX12_readsAll 53 = .ok (.iconst 1, 1) := by decide +kernel
theorem d_X12_readsAll_54 : decode cX12_readsAll 54 = .ok (.iadd, 1) := by decide +kernel
theorem d_X12_readsAll_55 : decode cX12_readsAll 55 = .ok (.putfield 90, 3) := by decide +kernel
theorem d_X12_readsAll_58 : decode cX12_readsAll 58 = .ok (.aload_n 0, 1) := by decide +kernel
theorem d_X12_readsAll_59 : decode cX12_readsAll 59 = .ok (.invokevirtual 270, 3) := by decide +kernel
theorem d_X12_readsAll_62 : decode cX12_readsAll 62 = .ok (.istore_n 1, 1) := by decide +kernel
theorem d_X12_readsAll_63 : decode cX12_readsAll 63 = .ok (.goto (-28), 3) := by decide +kernel
theorem d_X12_readsAll_66 : decode cX12_readsAll 66 = .ok (.iload_n 1, 1) := by decide +kernel
theorem d_X12_readsAll_67 : decode cX12_readsAll 67 = .ok (.ifCond .eq 21, 3) := by decide +kernel
theorem d_X12_readsAll_70 : decode cX12_readsAll 70 = .ok (.aload_n 0, 1) := by decide +kernel
theorem d_X12_readsAll_71 : decode cX12_readsAll 71 = .ok (.invokevirtual 93, 3) := by decide +kernel
theorem d_X12_readsAll_74 : decode cX12_readsAll 74 = .ok (.iconst (-1), 1) := by decide +kernel
theorem d_X12_readsAll_75 : decode cX12_readsAll 75 = .ok (.if_icmp .eq 13, 3) := by decide +kernel
theorem d_X12_readsAll_78 : decode cX12_readsAll 78 = .ok (.aload_n 0, 1) := by decide +kernel
theorem d_X12_readsAll_79 : decode cX12_readsAll 79 = .ok (.iconst 0, 1) := by decide +kernel
theorem d_X12_readsAll_80 : decode cX12_readsAll 80 = .ok (.aload_n 0, 1) := by decide +kernel
theorem d_X12_readsAll_81 : decode cX12_readsAll 81 = .ok (.getfield 90, 3) := by decide +kernel
theorem d_X12_readsAll_84 : decode cX12_readsAll 84 = .ok (.invokevirtual 111, 3) := by decide +kernel
theorem d_X12_readsAll_87 : decode cX12_readsAll 87 = .ok (.pop, 1) := by decide +kernel
theorem d_X12_readsAll_88 : decode cX12_readsAll 88 = .ok (.aload_n 0, 1) := by decide +kernel
theorem d_X12_readsAll_89 : decode cX12_readsAll 89 = .ok (.iconst 0, 1) := by decide +kernel
theorem d_X12_readsAll_90 : decode cX12_readsAll 90 = .ok (.putfield 80, 3) := by decide +kernel
theorem d_X12_readsAll_93 : decode cX12_readsAll 93 = .ok (.aload_n 0, 1) := by decide +kernel
theorem d_X12_readsAll_94 : decode cX12_readsAll 94 = .ok (.getfield 87, 3) := by decide +kernel
theorem d_X12_readsAll_97 : decode cX12_readsAll 97 = .ok (.ifCond .ne 7, 3) := by decide +kernel
theorem d_X12_readsAll_100 : decode cX12_readsAll 100 = .ok (.iconst 1, 1) := by decide +kernel
theorem d_X12_readsAll_101 : decode cX12_readsAll 101 = .ok (.goto 4, 3) := by decide +kernel
theorem d_X12_readsAll_104 : decode cX12_readsAll 104 = .ok (.iconst 0, 1) := by decide +kernel
theorem d_X12_readsAll_105 : decode cX12_readsAll 105 = .ok (.ireturn, 1) := by decide +kernel
abbrev X_X12_readsAll : gX := (RX12, cX12_readsAll, 2, (some .boolean), false)
def F_X12_readsAll_b88 (l0 : Option Nat) (M : gM) : Option (Int32 × gM) :=
  (pI 12 M l0 1 (0 : Int32)).bind fun M1 => (gI 12 M1 l0 9).bind fun v2 => if v2 = 0 then (some ((1 : Int32), M1)) else (some ((0 : Int32), M1))
theorem T_X12_readsAll_b88 (r : (Int32 × gM)) (l0 : Option Nat) (M : gM) (h : F_X12_readsAll_b88 l0 M = some r) : GW 11 0 0 X_X12_readsAll 88 [(0, vr l0)] [] M (some (vi r.1), r.2) := by
  delta F_X12_readsAll_b88 at h
  refine GW_aload_n (X := X_X12_readsAll) (pc := 88) d_X12_readsAll_88 rfl 0 rfl ?_
  refine GW_iconst (X := X_X12_readsAll) (pc := 89) (v := 0) d_X12_readsAll_89 (by decide) ?_
  replace h := g_bd h
  obtain ⟨M1, hM1, h⟩ := h
  refine GW_putI (X := X_X12_readsAll) (pc := 90) f_X12_80 d_X12_readsAll_90 hM1 (Or.inl fi_12_1) (Or.inl ty_12_1) ?_
  refine GW_aload_n (X := X_X12_readsAll) (pc := 93) d_X12_readsAll_93 rfl 0 rfl ?_
  replace h := g_bd h
  obtain ⟨v2, hv2, h⟩ := h
  refine GW_getI (X := X_X12_readsAll) (pc := 94) f_X12_87 d_X12_readsAll_94 hv2 (Or.inl ty_12_9) ?_
  refine GW_if_ne (X := X_X12_readsAll) (pc := 97) 104 d_X12_readsAll_97 (by decide) (fun c => ?_) (fun c => ?_)
  · replace h := g_ie c h
    refine GW_iconst (X := X_X12_readsAll) (pc := 104) (v := 0) d_X12_readsAll_104 (by decide) ?_
    replace h := Option.some.inj h
    subst h
    exact GW_ret (X := X_X12_readsAll) (pc := 105) d_X12_readsAll_105 rfl g_rok0
  · replace h := g_ip c h
    refine GW_iconst (X := X_X12_readsAll) (pc := 100) (v := 1) d_X12_readsAll_100 (by decide) ?_
    refine GW_goto (X := X_X12_readsAll) (pc := 101) 105 d_X12_readsAll_101 (by decide) ?_
    replace h := Option.some.inj h
    subst h
    exact GW_ret (X := X_X12_readsAll) (pc := 105) d_X12_readsAll_105 rfl g_rok1
def F_X12_readsAll_b66 (l0 : Option Nat) (l1 : Int32) (M : gM) : Option (Int32 × gM) :=
  if l1 = 0 then (F_X12_readsAll_b88 l0 M) else ((gO 12 M l0).bind fun i1 => (F_X12_see (some i1) M).bind fun (v2, M3) => if v2 = (-1 : Int32) then (F_X12_readsAll_b88 (some i1) M3) else ((gI 12 M3 (some i1) 8).bind fun v4 => (gC 12 M3 i1).bind fun _ => (F_X12_fails (some i1) (0 : Int32) v4 M3).bind fun (v6, M7) => F_X12_readsAll_b88 (some i1) M7))
theorem T_X12_readsAll_b66 (r : (Int32 × gM)) (l0 : Option Nat) (l1 : Int32) (M : gM) (h : F_X12_readsAll_b66 l0 l1 M = some r) : GW 11 0 0 X_X12_readsAll 66 [(0, vr l0), (1, vi l1)] [] M (some (vi r.1), r.2) := by
  delta F_X12_readsAll_b66 at h
  refine GW_iload_n (X := X_X12_readsAll) (pc := 66) d_X12_readsAll_66 rfl 1 rfl ?_
  refine GW_if_eq (X := X_X12_readsAll) (pc := 67) 88 d_X12_readsAll_67 (by decide) (fun c => ?_) (fun c => ?_)
  · replace h := g_ip c h
    refine GW_sub [0] rfl ?_
    exact T_X12_readsAll_b88 r l0 M h
  · replace h := g_ie c h
    refine GW_aload_n (X := X_X12_readsAll) (pc := 70) d_X12_readsAll_70 rfl 0 rfl ?_
    replace h := g_bd h
    obtain ⟨i1, hi1, h⟩ := h
    obtain ⟨rfl, ki1⟩ := g_gO hi1
    replace h := g_bd h
    obtain ⟨⟨v2, M3⟩, hv2, h⟩ := h
    dsimp only at h
    refine GW_callV (X := X_X12_readsAll) (pc := 71) (bc0 := 0) (bs0 := 0) (r := some (vi v2)) (M2 := M3) (c0 := 12) (T_X12_see (some i1) M (v2, M3) hv2) (Nat.le_of_ble_eq_true rfl) (Nat.le_of_ble_eq_true rfl) rfl g_cok12 ki1 yc_X12_see ⟨m_1239, m_1241, m_43, m_127, m_1242⟩ d_X12_readsAll_71 rfl (st := []) rfl (Nat.le_of_ble_eq_true rfl) (Nat.le_of_ble_eq_true rfl) (Nat.le_of_ble_eq_true rfl) (st2 := [vi v2]) rfl ?_
    refine GW_iconst (X := X_X12_readsAll) (pc := 74) (v := -1) d_X12_readsAll_74 (by decide) ?_
    refine GW_icmp_eq (X := X_X12_readsAll) (pc := 75) 88 d_X12_readsAll_75 (by decide) (fun c => ?_) (fun c => ?_)
    · replace h := g_ip c h
      refine GW_sub [0] rfl ?_
      exact T_X12_readsAll_b88 r (some i1) M3 h
    · replace h := g_ie c h
      refine GW_aload_n (X := X_X12_readsAll) (pc := 78) d_X12_readsAll_78 rfl 0 rfl ?_
      refine GW_iconst (X := X_X12_readsAll) (pc := 79) (v := 0) d_X12_readsAll_79 (by decide) ?_
      refine GW_aload_n (X := X_X12_readsAll) (pc := 80) d_X12_readsAll_80 rfl 0 rfl ?_
      replace h := g_bd h
      obtain ⟨v4, hv4, h⟩ := h
      refine GW_getI (X := X_X12_readsAll) (pc := 81) f_X12_90 d_X12_readsAll_81 hv4 (Or.inl ty_12_8) ?_
      replace h := g_bd h
      obtain ⟨_, kk5, h⟩ := h
      replace kk5 := g_gC kk5
      replace h := g_bd h
      obtain ⟨⟨v6, M7⟩, hv6, h⟩ := h
      dsimp only at h
      refine GW_callV (X := X_X12_readsAll) (pc := 84) (bc0 := 0) (bs0 := 0) (r := some (vi v6)) (M2 := M7) (c0 := 12) (T_X12_fails (some i1) (0 : Int32) v4 M3 (v6, M7) hv6) (Nat.le_of_ble_eq_true rfl) (Nat.le_of_ble_eq_true rfl) rfl g_cok12 kk5 yc_X12_fails ⟨m_1263, m_1265, m_47, m_127, m_1266⟩ d_X12_readsAll_84 rfl (st := []) rfl (Nat.le_of_ble_eq_true rfl) (Nat.le_of_ble_eq_true rfl) (Nat.le_of_ble_eq_true rfl) (st2 := [vi v6]) rfl ?_
      refine GW_pop (X := X_X12_readsAll) (pc := 87) d_X12_readsAll_87 rfl ?_
      refine GW_sub [0] rfl ?_
      exact T_X12_readsAll_b88 r (some i1) M7 h
def F_X12_readsAll_b35 (k35 : Option Nat → Int32 → gM → Option (Int32 × gM)) (l0 : Option Nat) (l1 : Int32) (M : gM) : Option (Int32 × gM) :=
  if l1 = 0 then (F_X12_readsAll_b66 l0 l1 M) else ((gO 12 M l0).bind fun i1 => (F_X12_see (some i1) M).bind fun (v2, M3) => if v2 = (59 : Int32) then ((gI 12 M3 (some i1) 8).bind fun v4 => (pI 12 M3 (some i1) 8 (v4 + (1 : Int32))).bind fun M5 => (gC 12 M5 i1).bind fun _ => (F_X12_clauseHere (some i1) M5).bind fun (v7, M8) => k35 (some i1) v7 M8) else (F_X12_readsAll_b66 (some i1) l1 M3))
theorem T_X12_readsAll_b35 (k35 : Option Nat → Int32 → gM → Option (Int32 × gM)) (r : (Int32 × gM)) (hk35 : ∀ (l0 : Option Nat) (l1 : Int32) (M : gM), k35 l0 l1 M = some r → GW 11 0 0 X_X12_readsAll 35 [(0, vr l0), (1, vi l1)] [] M (some (vi r.1), r.2)) (l0 : Option Nat) (l1 : Int32) (M : gM) (h : F_X12_readsAll_b35 k35 l0 l1 M = some r) : GW 11 0 0 X_X12_readsAll 35 [(0, vr l0), (1, vi l1)] [] M (some (vi r.1), r.2) := by
  delta F_X12_readsAll_b35 at h
  refine GW_iload_n (X := X_X12_readsAll) (pc := 35) d_X12_readsAll_35 rfl 1 rfl ?_
  refine GW_if_eq (X := X_X12_readsAll) (pc := 36) 66 d_X12_readsAll_36 (by decide) (fun c => ?_) (fun c => ?_)
  · replace h := g_ip c h
    exact T_X12_readsAll_b66 r l0 l1 M h
  · replace h := g_ie c h
    refine GW_aload_n (X := X_X12_readsAll) (pc := 39) d_X12_readsAll_39 rfl 0 rfl ?_
    replace h := g_bd h
    obtain ⟨i1, hi1, h⟩ := h
    obtain ⟨rfl, ki1⟩ := g_gO hi1
    replace h := g_bd h
    obtain ⟨⟨v2, M3⟩, hv2, h⟩ := h
    dsimp only at h
    refine GW_callV (X := X_X12_readsAll) (pc := 40) (bc0 := 0) (bs0 := 0) (r := some (vi v2)) (M2 := M3) (c0 := 12) (T_X12_see (some i1) M (v2, M3) hv2) (Nat.le_of_ble_eq_true rfl) (Nat.le_of_ble_eq_true rfl) rfl g_cok12 ki1 yc_X12_see ⟨m_1239, m_1241, m_43, m_127, m_1242⟩ d_X12_readsAll_40 rfl (st := []) rfl (Nat.le_of_ble_eq_true rfl) (Nat.le_of_ble_eq_true rfl) (Nat.le_of_ble_eq_true rfl) (st2 := [vi v2]) rfl ?_
    refine GW_bipush (X := X_X12_readsAll) (pc := 43) (v := 59) d_X12_readsAll_43 (by decide) ?_
    refine GW_icmp_ne (X := X_X12_readsAll) (pc := 45) 66 d_X12_readsAll_45 (by decide) (fun c => ?_) (fun c => ?_)
    · replace h := g_ie c h
      exact T_X12_readsAll_b66 r (some i1) l1 M3 h
    · replace h := g_ip c h
      refine GW_aload_n (X := X_X12_readsAll) (pc := 48) d_X12_readsAll_48 rfl 0 rfl ?_
      refine GW_dup (X := X_X12_readsAll) (pc := 49) d_X12_readsAll_49 rfl ?_
      replace h := g_bd h
      obtain ⟨v4, hv4, h⟩ := h
      refine GW_getI (X := X_X12_readsAll) (pc := 50) f_X12_90 d_X12_readsAll_50 hv4 (Or.inl ty_12_8) ?_
      refine GW_iconst (X := X_X12_readsAll) (pc := 53) (v := 1) d_X12_readsAll_53 (by decide) ?_
      refine GW_iadd (X := X_X12_readsAll) (pc := 54) d_X12_readsAll_54 ?_
      replace h := g_bd h
      obtain ⟨M5, hM5, h⟩ := h
      refine GW_putI (X := X_X12_readsAll) (pc := 55) f_X12_90 d_X12_readsAll_55 hM5 (Or.inl fi_12_8) (Or.inl ty_12_8) ?_
      refine GW_aload_n (X := X_X12_readsAll) (pc := 58) d_X12_readsAll_58 rfl 0 rfl ?_
      replace h := g_bd h
      obtain ⟨_, kk6, h⟩ := h
      replace kk6 := g_gC kk6
      replace h := g_bd h
      obtain ⟨⟨v7, M8⟩, hv7, h⟩ := h
      dsimp only at h
      refine GW_callV (X := X_X12_readsAll) (pc := 59) (bc0 := 0) (bs0 := 0) (r := some (vi v7)) (M2 := M8) (c0 := 12) (T_X12_clauseHere (some i1) M5 (v7, M8) hv7) (Nat.le_of_ble_eq_true rfl) (Nat.le_of_ble_eq_true rfl) rfl g_cok12 kk6 yc_X12_clauseHere ⟨m_1235, m_1237, m_42, m_127, m_1238⟩ d_X12_readsAll_59 rfl (st := []) rfl (Nat.le_of_ble_eq_true rfl) (Nat.le_of_ble_eq_true rfl) (Nat.le_of_ble_eq_true rfl) (st2 := [vi v7]) rfl ?_
      refine GW_istore_n (X := X_X12_readsAll) (pc := 62) d_X12_readsAll_62 rfl (Nat.le_of_ble_eq_true rfl) (lv2 := [(1, vi v7), (0, vr (some i1))]) rfl ?_
      refine GW_goto (X := X_X12_readsAll) (pc := 63) 35 d_X12_readsAll_63 (by decide) ?_
      refine GW_sub [1, 0] rfl ?_
      exact hk35 (some i1) v7 M8 h
def F_X12_readsAll_L35 : Nat → Option Nat → Int32 → gM → Option (Int32 × gM)
  | 0 => fun _ _ _ => none
  | n + 1 => F_X12_readsAll_b35 (F_X12_readsAll_L35 n)
theorem T_X12_readsAll_L35 (r : (Int32 × gM)) : ∀ (n : Nat) (l0 : Option Nat) (l1 : Int32) (M : gM), F_X12_readsAll_L35 n l0 l1 M = some r → GW 11 0 0 X_X12_readsAll 35 [(0, vr l0), (1, vi l1)] [] M (some (vi r.1), r.2) := by
  intro n
  induction n with
  | zero => intro l0 l1 M h; exact g_no h
  | succ n ih => intro l0 l1 M h; exact T_X12_readsAll_b35 (F_X12_readsAll_L35 n) r ih l0 l1 M h
def F_X12_readsAll_b0 (l0 : Option Nat) (M : gM) : Option (Int32 × gM) :=
  (gR 12 M l0 4).bind fun v1 => (gI 12 M l0 11).bind fun v2 => (sI M v1 v2 (0 : Int32)).bind fun M3 => (pI 12 M3 l0 14 (0 : Int32)).bind fun M4 => (pI 12 M4 l0 8 (0 : Int32)).bind fun M5 => (pI 12 M5 l0 9 (0 : Int32)).bind fun M6 => (pI 12 M6 l0 12 (0 : Int32)).bind fun M7 => (gO 12 M7 l0).bind fun i8 => (F_X12_clauseHere (some i8) M7).bind fun (v9, M10) => F_X12_readsAll_L35 g_fuel (some i8) v9 M10
set_option maxHeartbeats 1000000 in
theorem T_X12_readsAll_b0 (r : (Int32 × gM)) (l0 : Option Nat) (M : gM) (h : F_X12_readsAll_b0 l0 M = some r) : GW 11 0 0 X_X12_readsAll 0 [(0, vr l0)] [] M (some (vi r.1), r.2) := by
  delta F_X12_readsAll_b0 at h
  refine GW_aload_n (X := X_X12_readsAll) (pc := 0) d_X12_readsAll_0 rfl 0 rfl ?_
  replace h := g_bd h
  obtain ⟨v1, hv1, h⟩ := h
  refine GW_getR (X := X_X12_readsAll) (pc := 1) f_X12_17 d_X12_readsAll_1 hv1 (Or.inr ⟨_, ty_12_4⟩) ?_
  refine GW_aload_n (X := X_X12_readsAll) (pc := 4) d_X12_readsAll_4 rfl 0 rfl ?_
  replace h := g_bd h
  obtain ⟨v2, hv2, h⟩ := h
  refine GW_getI (X := X_X12_readsAll) (pc := 5) f_X12_150 d_X12_readsAll_5 hv2 (Or.inl ty_12_11) ?_
  refine GW_iconst (X := X_X12_readsAll) (pc := 8) (v := 0) d_X12_readsAll_8 (by decide) ?_
  replace h := g_bd h
  obtain ⟨M3, hM3, h⟩ := h
  refine GW_iast (X := X_X12_readsAll) (pc := 9) d_X12_readsAll_9 hM3 ?_
  refine GW_aload_n (X := X_X12_readsAll) (pc := 10) d_X12_readsAll_10 rfl 0 rfl ?_
  refine GW_iconst (X := X_X12_readsAll) (pc := 11) (v := 0) d_X12_readsAll_11 (by decide) ?_
  replace h := g_bd h
  obtain ⟨M4, hM4, h⟩ := h
  refine GW_putI (X := X_X12_readsAll) (pc := 12) f_X12_261 d_X12_readsAll_12 hM4 (Or.inl fi_12_14) (Or.inl ty_12_14) ?_
  refine GW_aload_n (X := X_X12_readsAll) (pc := 15) d_X12_readsAll_15 rfl 0 rfl ?_
  refine GW_iconst (X := X_X12_readsAll) (pc := 16) (v := 0) d_X12_readsAll_16 (by decide) ?_
  replace h := g_bd h
  obtain ⟨M5, hM5, h⟩ := h
  refine GW_putI (X := X_X12_readsAll) (pc := 17) f_X12_90 d_X12_readsAll_17 hM5 (Or.inl fi_12_8) (Or.inl ty_12_8) ?_
  refine GW_aload_n (X := X_X12_readsAll) (pc := 20) d_X12_readsAll_20 rfl 0 rfl ?_
  refine GW_iconst (X := X_X12_readsAll) (pc := 21) (v := 0) d_X12_readsAll_21 (by decide) ?_
  replace h := g_bd h
  obtain ⟨M6, hM6, h⟩ := h
  refine GW_putI (X := X_X12_readsAll) (pc := 22) f_X12_87 d_X12_readsAll_22 hM6 (Or.inl fi_12_9) (Or.inl ty_12_9) ?_
  refine GW_aload_n (X := X_X12_readsAll) (pc := 25) d_X12_readsAll_25 rfl 0 rfl ?_
  refine GW_iconst (X := X_X12_readsAll) (pc := 26) (v := 0) d_X12_readsAll_26 (by decide) ?_
  replace h := g_bd h
  obtain ⟨M7, hM7, h⟩ := h
  refine GW_putI (X := X_X12_readsAll) (pc := 27) f_X12_153 d_X12_readsAll_27 hM7 (Or.inl fi_12_12) (Or.inl ty_12_12) ?_
  refine GW_aload_n (X := X_X12_readsAll) (pc := 30) d_X12_readsAll_30 rfl 0 rfl ?_
  replace h := g_bd h
  obtain ⟨i8, hi8, h⟩ := h
  obtain ⟨rfl, ki8⟩ := g_gO hi8
  replace h := g_bd h
  obtain ⟨⟨v9, M10⟩, hv9, h⟩ := h
  dsimp only at h
  refine GW_callV (X := X_X12_readsAll) (pc := 31) (bc0 := 0) (bs0 := 0) (r := some (vi v9)) (M2 := M10) (c0 := 12) (T_X12_clauseHere (some i8) M7 (v9, M10) hv9) (Nat.le_of_ble_eq_true rfl) (Nat.le_of_ble_eq_true rfl) rfl g_cok12 ki8 yc_X12_clauseHere ⟨m_1235, m_1237, m_42, m_127, m_1238⟩ d_X12_readsAll_31 rfl (st := []) rfl (Nat.le_of_ble_eq_true rfl) (Nat.le_of_ble_eq_true rfl) (Nat.le_of_ble_eq_true rfl) (st2 := [vi v9]) rfl ?_
  refine GW_istore_n (X := X_X12_readsAll) (pc := 34) d_X12_readsAll_34 rfl (Nat.le_of_ble_eq_true rfl) (lv2 := [(1, vi v9), (0, vr (some i8))]) rfl ?_
  refine GW_sub [1, 0] rfl ?_
  exact T_X12_readsAll_L35 r g_fuel (some i8) v9 M10 h
def F_X12_readsAll (l0 : Option Nat) (M : gM) : Option (Int32 × gM) := F_X12_readsAll_b0 l0 M
theorem T_X12_readsAll (l0 : Option Nat) (M : gM) (r : (Int32 × gM)) (h : F_X12_readsAll l0 M = some r) : g_Met 11 0 0 yX12_readsAll X_X12_readsAll [vr l0] M (some (vi r.1), r.2) :=
  g_Met_of pn_RX12 rfl (Nat.le_of_ble_eq_true rfl) (fun h => by cases h) (GW_sub [0] rfl (T_X12_readsAll_b0 r l0 M h))
/-! ForgetHeirsModel.house()I -/
theorem d_X12_house_0 : decode cX12_house 0 = .ok (.aload_n 0, 1) := by decide +kernel
theorem d_X12_house_1 : decode cX12_house 1 = .ok (.bipush 6, 2) := by decide +kernel
theorem d_X12_house_3 : decode cX12_house 3 = .ok (.putfield 150, 3) := by decide +kernel
theorem d_X12_house_6 : decode cX12_house 6 = .ok (.iconst 0, 1) := by decide +kernel
theorem d_X12_house_7 : decode cX12_house 7 = .ok (.istore_n 1, 1) := by decide +kernel
theorem d_X12_house_8 : decode cX12_house 8 = .ok (.iload_n 1, 1) := by decide +kernel
theorem d_X12_house_9 : decode cX12_house 9 = .ok (.bipush 10, 2) := by decide +kernel
theorem d_X12_house_11 : decode cX12_house 11 = .ok (.if_icmp .ge 16, 3) := by decide +kernel
theorem d_X12_house_14 : decode cX12_house 14 = .ok (.aload_n 0, 1) := by decide +kernel
theorem d_X12_house_15 : decode cX12_house 15 = .ok (.getfield 26, 3) := by decide +kernel
theorem d_X12_house_18 : decode cX12_house 18 = .ok (.iload_n 1, 1) := by decide +kernel
theorem d_X12_house_19 : decode cX12_house 19 = .ok (.iconst 0, 1) := by decide +kernel
theorem d_X12_house_20 : decode cX12_house 20 = .ok (.iastore, 1) := by decide +kernel
theorem d_X12_house_21 : decode cX12_house 21 = .ok (.iinc 1 1, 3) := by decide +kernel
theorem d_X12_house_24 : decode cX12_house 24 = .ok (.goto (-16), 3) := by decide +kernel
theorem d_X12_house_27 : decode cX12_house 27 = .ok (.aload_n 0, 1) := by decide +kernel
theorem d_X12_house_28 : decode cX12_house 28 = .ok (.invokevirtual 276, 3) := by decide +kernel
theorem d_X12_house_31 : decode cX12_house 31 = .ok (.ifCond .ne 11, 3) := by decide +kernel
theorem d_X12_house_34 : decode cX12_house 34 = .ok (.bipush (-2), 2) := by decide +kernel
theorem d_X12_house_36 : decode cX12_house 36 = .ok (.aload_n 0, 1) := by decide +kernel
theorem d_X12_house_37 : decode cX12_house 37 = .ok (.getfield 87, 3) := by decide +kernel
theorem d_X12_house_40 : decode cX12_house 40 = .ok (.isub, 1) := by decide +kernel
theorem d_X12_house_41 : decode cX12_house 41 = .ok (.ireturn, 1) := by decide +kernel
theorem d_X12_house_42 : decode cX12_house 42 = .ok (.iconst 0, 1) := by decide +kernel
theorem d_X12_house_43 : decode cX12_house 43 = .ok (.istore_n 1, 1) := by decide +kernel
theorem d_X12_house_44 : decode cX12_house 44 = .ok (.iload_n 1, 1) := by decide +kernel
theorem d_X12_house_45 : decode cX12_house 45 = .ok (.sipush 157, 3) := by decide +kernel
theorem d_X12_house_48 : decode cX12_house 48 = .ok (.if_icmp .ge 21, 3) := by decide +kernel
theorem d_X12_house_51 : decode cX12_house 51 = .ok (.aload_n 0, 1) := by decide +kernel
theorem d_X12_house_52 : decode cX12_house 52 = .ok (.getfield 39, 3) := by decide +kernel
theorem d_X12_house_55 : decode cX12_house 55 = .ok (.iload_n 1, 1) := by decide +kernel
theorem d_X12_house_56 : decode cX12_house 56 = .ok (.aload_n 0, 1) := by decide +kernel
theorem d_X12_house_57 : decode cX12_house 57 = .ok (.getfield 26, 3) := by decide +kernel
theorem d_X12_house_60 : decode cX12_house 60 = .ok (.iload_n 1, 1) := by decide +kernel
theorem d_X12_house_61 : decode cX12_house 61 = .ok (.iaload, 1) := by decide +kernel
theorem d_X12_house_62 : decode cX12_house 62 = .ok (.iastore, 1) := by decide +kernel
theorem d_X12_house_63 : decode cX12_house 63 = .ok (.iinc 1 1, 3) := by decide +kernel
theorem d_X12_house_66 : decode cX12_house 66 = .ok (.goto (-22), 3) := by decide +kernel
theorem d_X12_house_69 : decode cX12_house 69 = .ok (.aload_n 0, 1) := by decide +kernel
theorem d_X12_house_70 : decode cX12_house 70 = .ok (.iconst 0, 1) := by decide +kernel
theorem d_X12_house_71 : decode cX12_house 71 = .ok (.putfield 279, 3) := by decide +kernel
theorem d_X12_house_74 : decode cX12_house 74 = .ok (.aload_n 0, 1) := by decide +kernel
theorem d_X12_house_75 : decode cX12_house 75 = .ok (.getfield 39, 3) := by decide +kernel
theorem d_X12_house_78 : decode cX12_house 78 = .ok (.iconst 2, 1) := by decide +kernel
theorem d_X12_house_79 : decode cX12_house 79 = .ok (.iaload, 1) := by decide +kernel
theorem d_X12_house_80 : decode cX12_house 80 = .ok (.ireturn, 1) := by decide +kernel
abbrev X_X12_house : gX := (RX12, cX12_house, 2, (some .int), false)
def F_X12_house_b44 (k44 : Option Nat → Int32 → gM → Option (Int32 × gM)) (l0 : Option Nat) (l1 : Int32) (M : gM) : Option (Int32 × gM) :=
  if (157 : Int32) ≤ l1 then ((pI 12 M l0 25 (0 : Int32)).bind fun M1 => (gR 12 M1 l0 20).bind fun v2 => (aI 20 M1 v2 (2 : Int32)).bind fun v3 => some (v3, M1)) else ((gR 12 M l0 20).bind fun v4 => (gR 12 M l0 7).bind fun v5 => (aI 20 M v5 l1).bind fun v6 => (sI M v4 l1 v6).bind fun M7 => k44 l0 (l1 + 1) M7)
set_option maxHeartbeats 1000000 in
theorem T_X12_house_b44 (k44 : Option Nat → Int32 → gM → Option (Int32 × gM)) (r : (Int32 × gM)) (hk44 : ∀ (l0 : Option Nat) (l1 : Int32) (M : gM), k44 l0 l1 M = some r → GW 12 0 0 X_X12_house 44 [(0, vr l0), (1, vi l1)] [] M (some (vi r.1), r.2)) (l0 : Option Nat) (l1 : Int32) (M : gM) (h : F_X12_house_b44 k44 l0 l1 M = some r) : GW 12 0 0 X_X12_house 44 [(0, vr l0), (1, vi l1)] [] M (some (vi r.1), r.2) := by
  delta F_X12_house_b44 at h
  refine GW_iload_n (X := X_X12_house) (pc := 44) d_X12_house_44 rfl 1 rfl ?_
  refine GW_sipush (X := X_X12_house) (pc := 45) (v := 157) d_X12_house_45 (by decide) ?_
  refine GW_icmp_ge (X := X_X12_house) (pc := 48) 69 d_X12_house_48 (by decide) (fun c => ?_) (fun c => ?_)
  · replace h := g_ip c h
    refine GW_aload_n (X := X_X12_house) (pc := 69) d_X12_house_69 rfl 0 rfl ?_
    refine GW_iconst (X := X_X12_house) (pc := 70) (v := 0) d_X12_house_70 (by decide) ?_
    replace h := g_bd h
    obtain ⟨M1, hM1, h⟩ := h
    refine GW_putI (X := X_X12_house) (pc := 71) f_X12_279 d_X12_house_71 hM1 (Or.inl fi_12_25) (Or.inl ty_12_25) ?_
    refine GW_aload_n (X := X_X12_house) (pc := 74) d_X12_house_74 rfl 0 rfl ?_
    replace h := g_bd h
    obtain ⟨v2, hv2, h⟩ := h
    refine GW_getR (X := X_X12_house) (pc := 75) f_X12_39 d_X12_house_75 hv2 (Or.inr ⟨_, ty_12_20⟩) ?_
    refine GW_iconst (X := X_X12_house) (pc := 78) (v := 2) d_X12_house_78 (by decide) ?_
    replace h := g_bd h
    obtain ⟨v3, hv3, h⟩ := h
    refine GW_iald (X := X_X12_house) (pc := 79) d_X12_house_79 hv3 ?_
    replace h := Option.some.inj h
    subst h
    exact GW_ret (X := X_X12_house) (pc := 80) d_X12_house_80 rfl trivial
  · replace h := g_ie c h
    refine GW_aload_n (X := X_X12_house) (pc := 51) d_X12_house_51 rfl 0 rfl ?_
    replace h := g_bd h
    obtain ⟨v4, hv4, h⟩ := h
    refine GW_getR (X := X_X12_house) (pc := 52) f_X12_39 d_X12_house_52 hv4 (Or.inr ⟨_, ty_12_20⟩) ?_
    refine GW_iload_n (X := X_X12_house) (pc := 55) d_X12_house_55 rfl 1 rfl ?_
    refine GW_aload_n (X := X_X12_house) (pc := 56) d_X12_house_56 rfl 0 rfl ?_
    replace h := g_bd h
    obtain ⟨v5, hv5, h⟩ := h
    refine GW_getR (X := X_X12_house) (pc := 57) f_X12_26 d_X12_house_57 hv5 (Or.inr ⟨_, ty_12_7⟩) ?_
    refine GW_iload_n (X := X_X12_house) (pc := 60) d_X12_house_60 rfl 1 rfl ?_
    replace h := g_bd h
    obtain ⟨v6, hv6, h⟩ := h
    refine GW_iald (X := X_X12_house) (pc := 61) d_X12_house_61 hv6 ?_
    replace h := g_bd h
    obtain ⟨M7, hM7, h⟩ := h
    refine GW_iast (X := X_X12_house) (pc := 62) d_X12_house_62 hM7 ?_
    refine GW_iinc (j := 1) (X := X_X12_house) (pc := 63) d_X12_house_63 rfl (congrArg (fun z => _ + z) (by decide : Int32.ofInt 1 = (1 : Int32))) (Nat.le_of_ble_eq_true rfl) (lv2 := [(1, vi (l1 + 1)), (0, vr l0)]) rfl ?_
    refine GW_goto (X := X_X12_house) (pc := 66) 44 d_X12_house_66 (by decide) ?_
    refine GW_sub [1, 0] rfl ?_
    exact hk44 l0 (l1 + 1) M7 h
def F_X12_house_L44 : Nat → Option Nat → Int32 → gM → Option (Int32 × gM)
  | 0 => fun _ _ _ => none
  | n + 1 => F_X12_house_b44 (F_X12_house_L44 n)
theorem T_X12_house_L44 (r : (Int32 × gM)) : ∀ (n : Nat) (l0 : Option Nat) (l1 : Int32) (M : gM), F_X12_house_L44 n l0 l1 M = some r → GW 12 0 0 X_X12_house 44 [(0, vr l0), (1, vi l1)] [] M (some (vi r.1), r.2) := by
  intro n
  induction n with
  | zero => intro l0 l1 M h; exact g_no h
  | succ n ih => intro l0 l1 M h; exact T_X12_house_b44 (F_X12_house_L44 n) r ih l0 l1 M h
def F_X12_house_b8 (k8 : Option Nat → Int32 → gM → Option (Int32 × gM)) (l0 : Option Nat) (l1 : Int32) (M : gM) : Option (Int32 × gM) :=
  if (10 : Int32) ≤ l1 then ((gO 12 M l0).bind fun i1 => (F_X12_readsAll (some i1) M).bind fun (v2, M3) => if v2 = 0 then ((gI 12 M3 (some i1) 9).bind fun v4 => some (((-2 : Int32) - v4), M3)) else (F_X12_house_L44 g_fuel (some i1) (0 : Int32) M3)) else ((gR 12 M l0 7).bind fun v5 => (sI M v5 l1 (0 : Int32)).bind fun M6 => k8 l0 (l1 + 1) M6)
set_option maxHeartbeats 1000000 in
theorem T_X12_house_b8 (k8 : Option Nat → Int32 → gM → Option (Int32 × gM)) (r : (Int32 × gM)) (hk8 : ∀ (l0 : Option Nat) (l1 : Int32) (M : gM), k8 l0 l1 M = some r → GW 12 0 0 X_X12_house 8 [(0, vr l0), (1, vi l1)] [] M (some (vi r.1), r.2)) (l0 : Option Nat) (l1 : Int32) (M : gM) (h : F_X12_house_b8 k8 l0 l1 M = some r) : GW 12 0 0 X_X12_house 8 [(0, vr l0), (1, vi l1)] [] M (some (vi r.1), r.2) := by
  delta F_X12_house_b8 at h
  refine GW_iload_n (X := X_X12_house) (pc := 8) d_X12_house_8 rfl 1 rfl ?_
  refine GW_bipush (X := X_X12_house) (pc := 9) (v := 10) d_X12_house_9 (by decide) ?_
  refine GW_icmp_ge (X := X_X12_house) (pc := 11) 27 d_X12_house_11 (by decide) (fun c => ?_) (fun c => ?_)
  · replace h := g_ip c h
    refine GW_aload_n (X := X_X12_house) (pc := 27) d_X12_house_27 rfl 0 rfl ?_
    replace h := g_bd h
    obtain ⟨i1, hi1, h⟩ := h
    obtain ⟨rfl, ki1⟩ := g_gO hi1
    replace h := g_bd h
    obtain ⟨⟨v2, M3⟩, hv2, h⟩ := h
    dsimp only at h
    refine GW_callV (X := X_X12_house) (pc := 28) (bc0 := 0) (bs0 := 0) (r := some (vi v2)) (M2 := M3) (c0 := 12) (T_X12_readsAll (some i1) M (v2, M3) hv2) (Nat.le_of_ble_eq_true rfl) (Nat.le_of_ble_eq_true rfl) rfl g_cok12 ki1 yc_X12_readsAll ⟨m_1231, m_1233, m_41, m_127, m_1234⟩ d_X12_house_28 rfl (st := []) rfl (Nat.le_of_ble_eq_true rfl) (Nat.le_of_ble_eq_true rfl) (Nat.le_of_ble_eq_true rfl) (st2 := [vi v2]) rfl ?_
    refine GW_if_ne (X := X_X12_house) (pc := 31) 42 d_X12_house_31 (by decide) (fun c => ?_) (fun c => ?_)
    · replace h := g_ie c h
      refine GW_iconst (X := X_X12_house) (pc := 42) (v := 0) d_X12_house_42 (by decide) ?_
      refine GW_istore_n (X := X_X12_house) (pc := 43) d_X12_house_43 rfl (Nat.le_of_ble_eq_true rfl) (lv2 := [(1, vi (0 : Int32)), (0, vr (some i1))]) rfl ?_
      refine GW_sub [1, 0] rfl ?_
      exact T_X12_house_L44 r g_fuel (some i1) (0 : Int32) M3 h
    · replace h := g_ip c h
      refine GW_bipush (X := X_X12_house) (pc := 34) (v := -2) d_X12_house_34 (by decide) ?_
      refine GW_aload_n (X := X_X12_house) (pc := 36) d_X12_house_36 rfl 0 rfl ?_
      replace h := g_bd h
      obtain ⟨v4, hv4, h⟩ := h
      refine GW_getI (X := X_X12_house) (pc := 37) f_X12_87 d_X12_house_37 hv4 (Or.inl ty_12_9) ?_
      refine GW_isub (X := X_X12_house) (pc := 40) d_X12_house_40 ?_
      replace h := Option.some.inj h
      subst h
      exact GW_ret (X := X_X12_house) (pc := 41) d_X12_house_41 rfl trivial
  · replace h := g_ie c h
    refine GW_aload_n (X := X_X12_house) (pc := 14) d_X12_house_14 rfl 0 rfl ?_
    replace h := g_bd h
    obtain ⟨v5, hv5, h⟩ := h
    refine GW_getR (X := X_X12_house) (pc := 15) f_X12_26 d_X12_house_15 hv5 (Or.inr ⟨_, ty_12_7⟩) ?_
    refine GW_iload_n (X := X_X12_house) (pc := 18) d_X12_house_18 rfl 1 rfl ?_
    refine GW_iconst (X := X_X12_house) (pc := 19) (v := 0) d_X12_house_19 (by decide) ?_
    replace h := g_bd h
    obtain ⟨M6, hM6, h⟩ := h
    refine GW_iast (X := X_X12_house) (pc := 20) d_X12_house_20 hM6 ?_
    refine GW_iinc (j := 1) (X := X_X12_house) (pc := 21) d_X12_house_21 rfl (congrArg (fun z => _ + z) (by decide : Int32.ofInt 1 = (1 : Int32))) (Nat.le_of_ble_eq_true rfl) (lv2 := [(1, vi (l1 + 1)), (0, vr l0)]) rfl ?_
    refine GW_goto (X := X_X12_house) (pc := 24) 8 d_X12_house_24 (by decide) ?_
    refine GW_sub [1, 0] rfl ?_
    exact hk8 l0 (l1 + 1) M6 h
def F_X12_house_L8 : Nat → Option Nat → Int32 → gM → Option (Int32 × gM)
  | 0 => fun _ _ _ => none
  | n + 1 => F_X12_house_b8 (F_X12_house_L8 n)
theorem T_X12_house_L8 (r : (Int32 × gM)) : ∀ (n : Nat) (l0 : Option Nat) (l1 : Int32) (M : gM), F_X12_house_L8 n l0 l1 M = some r → GW 12 0 0 X_X12_house 8 [(0, vr l0), (1, vi l1)] [] M (some (vi r.1), r.2) := by
  intro n
  induction n with
  | zero => intro l0 l1 M h; exact g_no h
  | succ n ih => intro l0 l1 M h; exact T_X12_house_b8 (F_X12_house_L8 n) r ih l0 l1 M h
def F_X12_house_b0 (l0 : Option Nat) (M : gM) : Option (Int32 × gM) :=
  (pI 12 M l0 11 (6 : Int32)).bind fun M1 => F_X12_house_L8 g_fuel l0 (0 : Int32) M1
theorem T_X12_house_b0 (r : (Int32 × gM)) (l0 : Option Nat) (M : gM) (h : F_X12_house_b0 l0 M = some r) : GW 12 0 0 X_X12_house 0 [(0, vr l0)] [] M (some (vi r.1), r.2) := by
  delta F_X12_house_b0 at h
  refine GW_aload_n (X := X_X12_house) (pc := 0) d_X12_house_0 rfl 0 rfl ?_
  refine GW_bipush (X := X_X12_house) (pc := 1) (v := 6) d_X12_house_1 (by decide) ?_
  replace h := g_bd h
  obtain ⟨M1, hM1, h⟩ := h
  refine GW_putI (X := X_X12_house) (pc := 3) f_X12_150 d_X12_house_3 hM1 (Or.inl fi_12_11) (Or.inl ty_12_11) ?_
  refine GW_iconst (X := X_X12_house) (pc := 6) (v := 0) d_X12_house_6 (by decide) ?_
  refine GW_istore_n (X := X_X12_house) (pc := 7) d_X12_house_7 rfl (Nat.le_of_ble_eq_true rfl) (lv2 := [(1, vi (0 : Int32)), (0, vr l0)]) rfl ?_
  refine GW_sub [1, 0] rfl ?_
  exact T_X12_house_L8 r g_fuel l0 (0 : Int32) M1 h
def F_X12_house (l0 : Option Nat) (M : gM) : Option (Int32 × gM) := F_X12_house_b0 l0 M
theorem T_X12_house (l0 : Option Nat) (M : gM) (r : (Int32 × gM)) (h : F_X12_house l0 M = some r) : g_Met 12 0 0 yX12_house X_X12_house [vr l0] M (some (vi r.1), r.2) :=
  g_Met_of pn_RX12 rfl (Nat.le_of_ble_eq_true rfl) (fun h => by cases h) (GW_sub [0] rfl (T_X12_house_b0 r l0 M h))
/-! ForgetHeirs$RuleReader.mark()V -/
theorem d_X7_mark_0 : decode cX7_mark 0 = .ok (.aload_n 0, 1) := by decide +kernel
theorem d_X7_mark_1 : decode cX7_mark 1 = .ok (.getfield 24, 3) := by decide +kernel
theorem d_X7_mark_4 : decode cX7_mark 4 = .ok (.aload_n 0, 1) := by decide +kernel
theorem d_X7_mark_5 : decode cX7_mark 5 = .ok (.getfield 17, 3) := by decide +kernel
theorem d_X7_mark_8 : decode cX7_mark 8 = .ok (.arraylength, 1) := by decide +kernel
theorem d_X7_mark_9 : decode cX7_mark 9 = .ok (.if_icmp .ge 26, 3) := by decide +kernel
theorem d_X7_mark_12 : decode cX7_mark 12 = .ok (.aload_n 0, 1) := by decide +kernel
theorem d_X7_mark_13 : decode cX7_mark 13 = .ok (.getfield 17, 3) := by decide +kernel
theorem d_X7_mark_16 : decode cX7_mark 16 = .ok (.aload_n 0, 1) := by decide +kernel
theorem d_X7_mark_17 : decode cX7_mark 17 = .ok (.getfield 24, 3) := by decide +kernel
theorem d_X7_mark_20 : decode cX7_mark 20 = .ok (.aload_n 0, 1) := by decide +kernel
theorem d_X7_mark_21 : decode cX7_mark 21 = .ok (.getfield 20, 3) := by decide +kernel
theorem d_X7_mark_24 : decode cX7_mark 24 = .ok (.iastore, 1) := by decide +kernel
theorem d_X7_mark_25 : decode cX7_mark 25 = .ok (.aload_n 0, 1) := by decide +kernel
theorem d_X7_mark_26 : decode cX7_mark 26 = .ok (.dup, 1) := by decide +kernel
theorem d_X7_mark_27 : decode cX7_mark 27 = .ok (.getfield 24, 3) := by decide +kernel
theorem d_X7_mark_30 : decode cX7_mark 30 = .ok (.iconst 1, 1) := by decide +kernel
theorem d_X7_mark_31 : decode cX7_mark 31 = .ok (.iadd, 1) := by decide +kernel
theorem d_X7_mark_32 : decode cX7_mark 32 = .ok (.putfield 24, 3) := by decide +kernel
theorem d_X7_mark_35 : decode cX7_mark 35 = .ok (.return_, 1) := by decide +kernel
abbrev X_X7_mark : gX := (RX7, cX7_mark, 1, none, false)
def F_X7_mark_b0 (l0 : Option Nat) (M : gM) : Option gM :=
  (gI 7 M l0 4).bind fun v1 => (gR 7 M l0 2).bind fun v2 => (aN M v2).bind fun v3 => if v3 ≤ v1 then (some M) else ((gR 7 M l0 2).bind fun v4 => (gI 7 M l0 4).bind fun v5 => (gI 7 M l0 3).bind fun v6 => (sI M v4 v5 v6).bind fun M7 => (gI 7 M7 l0 4).bind fun v8 => (pI 7 M7 l0 4 (v8 + (1 : Int32))).bind fun M9 => some M9)
set_option maxHeartbeats 1000000 in
theorem T_X7_mark_b0 (r : gM) (l0 : Option Nat) (M : gM) (h : F_X7_mark_b0 l0 M = some r) : GW 0 0 0 X_X7_mark 0 [(0, vr l0)] [] M (none, r) := by
  delta F_X7_mark_b0 at h
  refine GW_aload_n (X := X_X7_mark) (pc := 0) d_X7_mark_0 rfl 0 rfl ?_
  replace h := g_bd h
  obtain ⟨v1, hv1, h⟩ := h
  refine GW_getI (X := X_X7_mark) (pc := 1) f_X7_24 d_X7_mark_1 hv1 (Or.inl ty_7_4) ?_
  refine GW_aload_n (X := X_X7_mark) (pc := 4) d_X7_mark_4 rfl 0 rfl ?_
  replace h := g_bd h
  obtain ⟨v2, hv2, h⟩ := h
  refine GW_getR (X := X_X7_mark) (pc := 5) f_X7_17 d_X7_mark_5 hv2 (Or.inr ⟨_, ty_7_2⟩) ?_
  replace h := g_bd h
  obtain ⟨v3, hv3, h⟩ := h
  refine GW_alen (X := X_X7_mark) (pc := 8) d_X7_mark_8 hv3 ?_
  refine GW_icmp_ge (X := X_X7_mark) (pc := 9) 35 d_X7_mark_9 (by decide) (fun c => ?_) (fun c => ?_)
  · replace h := g_ip c h
    replace h := Option.some.inj h
    subst h
    exact GW_ret (X := X_X7_mark) (pc := 35) d_X7_mark_35 rfl trivial
  · replace h := g_ie c h
    refine GW_aload_n (X := X_X7_mark) (pc := 12) d_X7_mark_12 rfl 0 rfl ?_
    replace h := g_bd h
    obtain ⟨v4, hv4, h⟩ := h
    refine GW_getR (X := X_X7_mark) (pc := 13) f_X7_17 d_X7_mark_13 hv4 (Or.inr ⟨_, ty_7_2⟩) ?_
    refine GW_aload_n (X := X_X7_mark) (pc := 16) d_X7_mark_16 rfl 0 rfl ?_
    replace h := g_bd h
    obtain ⟨v5, hv5, h⟩ := h
    refine GW_getI (X := X_X7_mark) (pc := 17) f_X7_24 d_X7_mark_17 hv5 (Or.inl ty_7_4) ?_
    refine GW_aload_n (X := X_X7_mark) (pc := 20) d_X7_mark_20 rfl 0 rfl ?_
    replace h := g_bd h
    obtain ⟨v6, hv6, h⟩ := h
    refine GW_getI (X := X_X7_mark) (pc := 21) f_X7_20 d_X7_mark_21 hv6 (Or.inl ty_7_3) ?_
    replace h := g_bd h
    obtain ⟨M7, hM7, h⟩ := h
    refine GW_iast (X := X_X7_mark) (pc := 24) d_X7_mark_24 hM7 ?_
    refine GW_aload_n (X := X_X7_mark) (pc := 25) d_X7_mark_25 rfl 0 rfl ?_
    refine GW_dup (X := X_X7_mark) (pc := 26) d_X7_mark_26 rfl ?_
    replace h := g_bd h
    obtain ⟨v8, hv8, h⟩ := h
    refine GW_getI (X := X_X7_mark) (pc := 27) f_X7_24 d_X7_mark_27 hv8 (Or.inl ty_7_4) ?_
    refine GW_iconst (X := X_X7_mark) (pc := 30) (v := 1) d_X7_mark_30 (by decide) ?_
    refine GW_iadd (X := X_X7_mark) (pc := 31) d_X7_mark_31 ?_
    replace h := g_bd h
    obtain ⟨M9, hM9, h⟩ := h
    refine GW_putI (X := X_X7_mark) (pc := 32) f_X7_24 d_X7_mark_32 hM9 (Or.inl fi_7_4) (Or.inl ty_7_4) ?_
    replace h := Option.some.inj h
    subst h
    exact GW_ret (X := X_X7_mark) (pc := 35) d_X7_mark_35 rfl trivial
def F_X7_mark (l0 : Option Nat) (M : gM) : Option gM := F_X7_mark_b0 l0 M
theorem T_X7_mark (l0 : Option Nat) (M : gM) (r : gM) (h : F_X7_mark l0 M = some r) : g_Met 0 0 0 yX7_mark X_X7_mark [vr l0] M (none, r) :=
  g_Met_of pn_RX7 rfl (Nat.le_of_ble_eq_true rfl) (fun h => by cases h) (GW_sub [0] rfl (T_X7_mark_b0 r l0 M h))
/-! ForgetHeirs$RuleReader.put(I)V -/
theorem d_X7_put_0 : decode cX7_put 0 = .ok (.aload_n 0, 1) := by decide +kernel
theorem d_X7_put_1 : decode cX7_put 1 = .ok (.getfield 20, 3) := by decide +kernel
theorem d_X7_put_4 : decode cX7_put 4 = .ok (.aload_n 0, 1) := by decide +kernel
theorem d_X7_put_5 : decode cX7_put 5 = .ok (.getfield 11, 3) := by decide +kernel
theorem d_X7_put_8 : decode cX7_put 8 = .ok (.arraylength, 1) := by decide +kernel
theorem d_X7_put_9 : decode cX7_put 9 = .ok (.if_icmp .ge 23, 3) := by decide +kernel
theorem d_X7_put_12 : decode cX7_put 12 = .ok (.aload_n 0, 1) := by decide +kernel
theorem d_X7_put_13 : decode cX7_put 13 = .ok (.getfield 11, 3) := by decide +kernel
theorem d_X7_put_16 : decode cX7_put 16 = .ok (.aload_n 0, 1) := by decide +kernel
theorem d_X7_put_17 : decode cX7_put 17 = .ok (.getfield 20, 3) := by decide +kernel
theorem d_X7_put_20 : decode cX7_put 20 = .ok (.iload_n 1, 1) := by decide +kernel
theorem d_X7_put_21 : decode cX7_put 21 = .ok (.iastore, 1) := by decide +kernel
theorem d_X7_put_22 : decode cX7_put 22 = .ok (.aload_n 0, 1) := by decide +kernel
theorem d_X7_put_23 : decode cX7_put 23 = .ok (.dup, 1) := by decide +kernel
theorem d_X7_put_24 : decode cX7_put 24 = .ok (.getfield 20, 3) := by decide +kernel
theorem d_X7_put_27 : decode cX7_put 27 = .ok (.iconst 1, 1) := by decide +kernel
theorem d_X7_put_28 : decode cX7_put 28 = .ok (.iadd, 1) := by decide +kernel
theorem d_X7_put_29 : decode cX7_put 29 = .ok (.putfield 20, 3) := by decide +kernel
theorem d_X7_put_32 : decode cX7_put 32 = .ok (.return_, 1) := by decide +kernel
abbrev X_X7_put : gX := (RX7, cX7_put, 2, none, false)
def F_X7_put_b0 (l0 : Option Nat) (l1 : Int32) (M : gM) : Option gM :=
  (gI 7 M l0 3).bind fun v1 => (gR 7 M l0 1).bind fun v2 => (aN M v2).bind fun v3 => if v3 ≤ v1 then (some M) else ((gR 7 M l0 1).bind fun v4 => (gI 7 M l0 3).bind fun v5 => (sI M v4 v5 l1).bind fun M6 => (gI 7 M6 l0 3).bind fun v7 => (pI 7 M6 l0 3 (v7 + (1 : Int32))).bind fun M8 => some M8)
set_option maxHeartbeats 1000000 in
theorem T_X7_put_b0 (r : gM) (l0 : Option Nat) (l1 : Int32) (M : gM) (h : F_X7_put_b0 l0 l1 M = some r) : GW 0 0 0 X_X7_put 0 [(0, vr l0), (1, vi l1)] [] M (none, r) := by
  delta F_X7_put_b0 at h
  refine GW_aload_n (X := X_X7_put) (pc := 0) d_X7_put_0 rfl 0 rfl ?_
  replace h := g_bd h
  obtain ⟨v1, hv1, h⟩ := h
  refine GW_getI (X := X_X7_put) (pc := 1) f_X7_20 d_X7_put_1 hv1 (Or.inl ty_7_3) ?_
  refine GW_aload_n (X := X_X7_put) (pc := 4) d_X7_put_4 rfl 0 rfl ?_
  replace h := g_bd h
  obtain ⟨v2, hv2, h⟩ := h
  refine GW_getR (X := X_X7_put) (pc := 5) f_X7_11 d_X7_put_5 hv2 (Or.inr ⟨_, ty_7_1⟩) ?_
  replace h := g_bd h
  obtain ⟨v3, hv3, h⟩ := h
  refine GW_alen (X := X_X7_put) (pc := 8) d_X7_put_8 hv3 ?_
  refine GW_icmp_ge (X := X_X7_put) (pc := 9) 32 d_X7_put_9 (by decide) (fun c => ?_) (fun c => ?_)
  · replace h := g_ip c h
    replace h := Option.some.inj h
    subst h
    exact GW_ret (X := X_X7_put) (pc := 32) d_X7_put_32 rfl trivial
  · replace h := g_ie c h
    refine GW_aload_n (X := X_X7_put) (pc := 12) d_X7_put_12 rfl 0 rfl ?_
    replace h := g_bd h
    obtain ⟨v4, hv4, h⟩ := h
    refine GW_getR (X := X_X7_put) (pc := 13) f_X7_11 d_X7_put_13 hv4 (Or.inr ⟨_, ty_7_1⟩) ?_
    refine GW_aload_n (X := X_X7_put) (pc := 16) d_X7_put_16 rfl 0 rfl ?_
    replace h := g_bd h
    obtain ⟨v5, hv5, h⟩ := h
    refine GW_getI (X := X_X7_put) (pc := 17) f_X7_20 d_X7_put_17 hv5 (Or.inl ty_7_3) ?_
    refine GW_iload_n (X := X_X7_put) (pc := 20) d_X7_put_20 rfl 1 rfl ?_
    replace h := g_bd h
    obtain ⟨M6, hM6, h⟩ := h
    refine GW_iast (X := X_X7_put) (pc := 21) d_X7_put_21 hM6 ?_
    refine GW_aload_n (X := X_X7_put) (pc := 22) d_X7_put_22 rfl 0 rfl ?_
    refine GW_dup (X := X_X7_put) (pc := 23) d_X7_put_23 rfl ?_
    replace h := g_bd h
    obtain ⟨v7, hv7, h⟩ := h
    refine GW_getI (X := X_X7_put) (pc := 24) f_X7_20 d_X7_put_24 hv7 (Or.inl ty_7_3) ?_
    refine GW_iconst (X := X_X7_put) (pc := 27) (v := 1) d_X7_put_27 (by decide) ?_
    refine GW_iadd (X := X_X7_put) (pc := 28) d_X7_put_28 ?_
    replace h := g_bd h
    obtain ⟨M8, hM8, h⟩ := h
    refine GW_putI (X := X_X7_put) (pc := 29) f_X7_20 d_X7_put_29 hM8 (Or.inl fi_7_3) (Or.inl ty_7_3) ?_
    replace h := Option.some.inj h
    subst h
    exact GW_ret (X := X_X7_put) (pc := 32) d_X7_put_32 rfl trivial
def F_X7_put (l0 : Option Nat) (l1 : Int32) (M : gM) : Option gM := F_X7_put_b0 l0 l1 M
theorem T_X7_put (l0 : Option Nat) (l1 : Int32) (M : gM) (r : gM) (h : F_X7_put l0 l1 M = some r) : g_Met 0 0 0 yX7_put X_X7_put [vr l0, vi l1] M (none, r) :=
  g_Met_of pn_RX7 rfl (Nat.le_of_ble_eq_true rfl) (fun h => by cases h) (GW_sub [0, 1] rfl (T_X7_put_b0 r l0 l1 M h))
/-! ForgetHeirs$RuleReader.countValue(I)V -/
theorem d_X7_countValue_0 : decode cX7_countValue 0 = .ok (.aload_n 0, 1) := by decide +kernel
theorem d_X7_countValue_1 : decode cX7_countValue 1 = .ok (.dup, 1) := by decide +kernel
theorem d_X7_countValue_2 : decode cX7_countValue 2 = .ok (.getfield 27, 3) := by decide +kernel
theorem d_X7_countValue_5 : decode cX7_countValue 5 = .ok (.iconst 1, 1) := by decide +kernel
theorem d_X7_countValue_6 : decode cX7_countValue 6 = .ok (.iadd, 1) := by decide +kernel
theorem d_X7_countValue_7 : decode cX7_countValue 7 = .ok (.putfield 27, 3) := by decide +kernel
theorem d_X7_countValue_10 : decode cX7_countValue 10 = .ok (.aload_n 0, 1) := by decide +kernel
theorem d_X7_countValue_11 : decode cX7_countValue 11 = .ok (.getfield 27, 3) := by decide +kernel
theorem d_X7_countValue_14 : decode cX7_countValue 14 = .ok (.bipush 60, 2) := by decide +kernel
theorem d_X7_countValue_16 : decode cX7_countValue 16 = .ok (.if_icmp .le 12, 3) := by decide +kernel
theorem d_X7_countValue_19 : decode cX7_countValue 19 = .ok (.aload_n 0, 1) := by decide +kernel
theorem d_X7_countValue_20 : decode cX7_countValue 20 = .ok (.getfield 30, 3) := by decide +kernel
theorem d_X7_countValue_23 : decode cX7_countValue 23 = .ok (.iload_n 1, 1) := by decide +kernel
theorem d_X7_countValue_24 : decode cX7_countValue 24 = .ok (.iconst 3, 1) := by decide +kernel
theorem d_X7_countValue_25 : decode cX7_countValue 25 = .ok (.invokevirtual 66, 3) := by decide +kernel
theorem d_X7_countValue_28 : decode cX7_countValue 28 = .ok (.return_, 1) := by decide +kernel
abbrev X_X7_countValue : gX := (RX7, cX7_countValue, 2, none, false)
def F_X7_countValue_b0 (l0 : Option Nat) (l1 : Int32) (M : gM) : Option gM :=
  (gI 7 M l0 5).bind fun v1 => (pI 7 M l0 5 (v1 + (1 : Int32))).bind fun M2 => (gI 7 M2 l0 5).bind fun v3 => if v3 ≤ (60 : Int32) then (some M2) else ((gR 7 M2 l0 0).bind fun v4 => (gO 9 M2 v4).bind fun i5 => (F_X9_blame (some i5) l1 (3 : Int32) M2).bind fun M6 => some M6)
theorem T_X7_countValue_b0 (r : gM) (l0 : Option Nat) (l1 : Int32) (M : gM) (h : F_X7_countValue_b0 l0 l1 M = some r) : GW 1 0 0 X_X7_countValue 0 [(0, vr l0), (1, vi l1)] [] M (none, r) := by
  delta F_X7_countValue_b0 at h
  refine GW_aload_n (X := X_X7_countValue) (pc := 0) d_X7_countValue_0 rfl 0 rfl ?_
  refine GW_dup (X := X_X7_countValue) (pc := 1) d_X7_countValue_1 rfl ?_
  replace h := g_bd h
  obtain ⟨v1, hv1, h⟩ := h
  refine GW_getI (X := X_X7_countValue) (pc := 2) f_X7_27 d_X7_countValue_2 hv1 (Or.inl ty_7_5) ?_
  refine GW_iconst (X := X_X7_countValue) (pc := 5) (v := 1) d_X7_countValue_5 (by decide) ?_
  refine GW_iadd (X := X_X7_countValue) (pc := 6) d_X7_countValue_6 ?_
  replace h := g_bd h
  obtain ⟨M2, hM2, h⟩ := h
  refine GW_putI (X := X_X7_countValue) (pc := 7) f_X7_27 d_X7_countValue_7 hM2 (Or.inl fi_7_5) (Or.inl ty_7_5) ?_
  refine GW_aload_n (X := X_X7_countValue) (pc := 10) d_X7_countValue_10 rfl 0 rfl ?_
  replace h := g_bd h
  obtain ⟨v3, hv3, h⟩ := h
  refine GW_getI (X := X_X7_countValue) (pc := 11) f_X7_27 d_X7_countValue_11 hv3 (Or.inl ty_7_5) ?_
  refine GW_bipush (X := X_X7_countValue) (pc := 14) (v := 60) d_X7_countValue_14 (by decide) ?_
  refine GW_icmp_le (X := X_X7_countValue) (pc := 16) 28 d_X7_countValue_16 (by decide) (fun c => ?_) (fun c => ?_)
  · replace h := g_ip c h
    replace h := Option.some.inj h
    subst h
    exact GW_ret (X := X_X7_countValue) (pc := 28) d_X7_countValue_28 rfl trivial
  · replace h := g_ie c h
    refine GW_aload_n (X := X_X7_countValue) (pc := 19) d_X7_countValue_19 rfl 0 rfl ?_
    replace h := g_bd h
    obtain ⟨v4, hv4, h⟩ := h
    refine GW_getR (X := X_X7_countValue) (pc := 20) f_X7_30 d_X7_countValue_20 hv4 (Or.inl ⟨_, ty_7_0⟩) ?_
    refine GW_iload_n (X := X_X7_countValue) (pc := 23) d_X7_countValue_23 rfl 1 rfl ?_
    refine GW_iconst (X := X_X7_countValue) (pc := 24) (v := 3) d_X7_countValue_24 (by decide) ?_
    replace h := g_bd h
    obtain ⟨i5, hi5, h⟩ := h
    obtain ⟨rfl, ki5⟩ := g_gO hi5
    replace h := g_bd h
    obtain ⟨M6, hM6, h⟩ := h
    refine GW_callV (X := X_X7_countValue) (pc := 25) (bc0 := 0) (bs0 := 0) (r := none) (M2 := M6) (c0 := 9) (T_X9_blame (some i5) l1 (3 : Int32) M2 M6 hM6) (Nat.le_of_ble_eq_true rfl) (Nat.le_of_ble_eq_true rfl) rfl g_cok9 ki5 yc_X9_blame ⟨m_690, m_602, m_603, m_123, m_604⟩ d_X7_countValue_25 rfl (st := []) rfl (Nat.le_of_ble_eq_true rfl) (Nat.le_of_ble_eq_true rfl) (Nat.le_of_ble_eq_true rfl) (st2 := []) rfl ?_
    replace h := Option.some.inj h
    subst h
    exact GW_ret (X := X_X7_countValue) (pc := 28) d_X7_countValue_28 rfl trivial
def F_X7_countValue (l0 : Option Nat) (l1 : Int32) (M : gM) : Option gM := F_X7_countValue_b0 l0 l1 M
theorem T_X7_countValue (l0 : Option Nat) (l1 : Int32) (M : gM) (r : gM) (h : F_X7_countValue l0 l1 M = some r) : g_Met 1 0 0 yX7_countValue X_X7_countValue [vr l0, vi l1] M (none, r) :=
  g_Met_of pn_RX7 rfl (Nat.le_of_ble_eq_true rfl) (fun h => by cases h) (GW_sub [0, 1] rfl (T_X7_countValue_b0 r l0 l1 M h))
/-! ForgetHeirs$RuleReader.readValue()V -/
theorem d_X7_readValue_0 : decode cX7_readValue 0 = .ok (.aload_n 0, 1) := by decide +kernel
theorem d_X7_readValue_1 : decode cX7_readValue 1 = .ok (.getfield 30, 3) := by decide +kernel
theorem d_X7_readValue_4 : decode cX7_readValue 4 = .ok (.invokevirtual 63, 3) := by decide +kernel
theorem d_X7_readValue_7 : decode cX7_readValue 7 = .ok (.istore_n 1, 1) := by decide +kernel
theorem d_X7_readValue_8 : decode cX7_readValue 8 = .ok (.aload_n 0, 1) := by decide +kernel
theorem d_X7_readValue_9 : decode cX7_readValue 9 = .ok (.getfield 30, 3) := by decide +kernel
theorem d_X7_readValue_12 : decode cX7_readValue 12 = .ok (.invokevirtual 59, 3) := by decide +kernel
theorem d_X7_readValue_15 : decode cX7_readValue 15 = .ok (.sipush 261, 3) := by decide +kernel
theorem d_X7_readValue_18 : decode cX7_readValue 18 = .ok (.isub, 1) := by decide +kernel
theorem d_X7_readValue_19 : decode cX7_readValue 19 = .ok (.istore_n 2, 1) := by decide +kernel
theorem d_X7_readValue_20 : decode cX7_readValue 20 = .ok (.iload_n 2, 1) := by decide +kernel
theorem d_X7_readValue_21 : decode cX7_readValue 21 = .ok (.ifCond .lt 28, 3) := by decide +kernel
theorem d_X7_readValue_24 : decode cX7_readValue 24 = .ok (.iload_n 2, 1) := by decide +kernel
theorem d_X7_readValue_25 : decode cX7_readValue 25 = .ok (.bipush 14, 2) := by decide +kernel
theorem d_X7_readValue_27 : decode cX7_readValue 27 = .ok (.if_icmp .ge 22, 3) := by decide +kernel
theorem d_X7_readValue_30 : decode cX7_readValue 30 = .ok (.aload_n 0, 1) := by decide +kernel
theorem d_X7_readValue_31 : decode cX7_readValue 31 = .ok (.getfield 30, 3) := by decide +kernel
theorem d_X7_readValue_34 : decode cX7_readValue 34 = .ok (.invokevirtual 70, 3) := by decide +kernel
theorem d_X7_readValue_37 : decode cX7_readValue 37 = .ok (.aload_n 0, 1) := by decide +kernel
theorem d_X7_readValue_38 : decode cX7_readValue 38 = .ok (.iconst 1, 1) := by decide +kernel
theorem d_X7_readValue_39 : decode cX7_readValue 39 = .ok (.iload_n 2, 1) := by decide +kernel
theorem d_X7_readValue_40 : decode cX7_readValue 40 = .ok (.iconst 4, 1) := by decide +kernel
theorem d_X7_readValue_41 : decode cX7_readValue 41 = .ok (.ishl, 1) := by decide +kernel
theorem d_X7_readValue_42 : decode cX7_readValue 42 = .ok (.ior, 1) := by decide +kernel
theorem d_X7_readValue_43 : decode cX7_readValue 43 = .ok (.invokevirtual 85, 3) := by decide +kernel
theorem d_X7_readValue_46 : decode cX7_readValue 46 = .ok (.goto 21, 3) := by decide +kernel
theorem d_X7_readValue_49 : decode cX7_readValue 49 = .ok (.aload_n 0, 1) := by decide +kernel
theorem d_X7_readValue_50 : decode cX7_readValue 50 = .ok (.iconst 0, 1) := by decide +kernel
theorem d_X7_readValue_51 : decode cX7_readValue 51 = .ok (.aload_n 0, 1) := by decide +kernel
theorem d_X7_readValue_52 : decode cX7_readValue 52 = .ok (.getfield 30, 3) := by decide +kernel
theorem d_X7_readValue_55 : decode cX7_readValue 55 = .ok (.iconst 0, 1) := by decide +kernel
theorem d_X7_readValue_56 : decode cX7_readValue 56 = .ok (.ldc 105, 2) := by decide +kernel
theorem d_X7_readValue_58 : decode cX7_readValue 58 = .ok (.invokevirtual 106, 3) := by decide +kernel
theorem d_X7_readValue_61 : decode cX7_readValue 61 = .ok (.iconst 4, 1) := by decide +kernel
theorem d_X7_readValue_62 : decode cX7_readValue 62 = .ok (.ishl, 1) := by decide +kernel
theorem d_X7_readValue_63 : decode cX7_readValue 63 = .ok (.ior, 1) := by decide +kernel
theorem d_X7_readValue_64 : decode cX7_readValue 64 = .ok (.invokevirtual 85, 3) := by decide +kernel
theorem d_X7_readValue_67 : decode cX7_readValue 67 = .ok (.aload_n 0, 1) := by decide +kernel
theorem d_X7_readValue_68 : decode cX7_readValue 68 = .ok (.iload_n 1, 1) := by decide +kernel
theorem d_X7_readValue_69 : decode cX7_readValue 69 = .ok (.invokevirtual 102, 3) := by decide +kernel
theorem d_X7_readValue_72 : decode cX7_readValue 72 = .ok (.return_, 1) := by decide +kernel
abbrev X_X7_readValue : gX := (RX7, cX7_readValue, 3, none, false)
def F_X7_readValue_b67 (l0 : Option Nat) (l1 : Int32) (M : gM) : Option gM :=
  (gO 7 M l0).bind fun i1 => (F_X7_countValue (some i1) l1 M).bind fun M2 => some M2
theorem T_X7_readValue_b67 (r : gM) (l0 : Option Nat) (l1 : Int32) (M : gM) (h : F_X7_readValue_b67 l0 l1 M = some r) : GW 2 0 0 X_X7_readValue 67 [(0, vr l0), (1, vi l1)] [] M (none, r) := by
  delta F_X7_readValue_b67 at h
  refine GW_aload_n (X := X_X7_readValue) (pc := 67) d_X7_readValue_67 rfl 0 rfl ?_
  refine GW_iload_n (X := X_X7_readValue) (pc := 68) d_X7_readValue_68 rfl 1 rfl ?_
  replace h := g_bd h
  obtain ⟨i1, hi1, h⟩ := h
  obtain ⟨rfl, ki1⟩ := g_gO hi1
  replace h := g_bd h
  obtain ⟨M2, hM2, h⟩ := h
  refine GW_callV (X := X_X7_readValue) (pc := 69) (bc0 := 0) (bs0 := 0) (r := none) (M2 := M2) (c0 := 7) (T_X7_countValue (some i1) l1 M M2 hM2) (Nat.le_of_ble_eq_true rfl) (Nat.le_of_ble_eq_true rfl) rfl g_cok7 ki1 yc_X7_countValue ⟨m_711, m_713, m_17, m_125, m_714⟩ d_X7_readValue_69 rfl (st := []) rfl (Nat.le_of_ble_eq_true rfl) (Nat.le_of_ble_eq_true rfl) (Nat.le_of_ble_eq_true rfl) (st2 := []) rfl ?_
  replace h := Option.some.inj h
  subst h
  exact GW_ret (X := X_X7_readValue) (pc := 72) d_X7_readValue_72 rfl trivial
def F_X7_readValue_b49 (l0 : Option Nat) (l1 : Int32) (M : gM) : Option gM :=
  (gR 7 M l0 0).bind fun v1 => (gO 9 M v1).bind fun i2 => (F_X9_number (some i2) (0 : Int32) (99999 : Int32) M).bind fun (v3, M4) => (gO 7 M4 l0).bind fun i5 => (F_X7_put (some i5) ((0 : Int32) ||| (v3 <<< ((4 : Int32) &&& 31))) M4).bind fun M6 => F_X7_readValue_b67 (some i5) l1 M6
theorem T_X7_readValue_b49 (r : gM) (l0 : Option Nat) (l1 : Int32) (M : gM) (h : F_X7_readValue_b49 l0 l1 M = some r) : GW 2 0 0 X_X7_readValue 49 [(0, vr l0), (1, vi l1)] [] M (none, r) := by
  delta F_X7_readValue_b49 at h
  refine GW_aload_n (X := X_X7_readValue) (pc := 49) d_X7_readValue_49 rfl 0 rfl ?_
  refine GW_iconst (X := X_X7_readValue) (pc := 50) (v := 0) d_X7_readValue_50 (by decide) ?_
  refine GW_aload_n (X := X_X7_readValue) (pc := 51) d_X7_readValue_51 rfl 0 rfl ?_
  replace h := g_bd h
  obtain ⟨v1, hv1, h⟩ := h
  refine GW_getR (X := X_X7_readValue) (pc := 52) f_X7_30 d_X7_readValue_52 hv1 (Or.inl ⟨_, ty_7_0⟩) ?_
  refine GW_iconst (X := X_X7_readValue) (pc := 55) (v := 0) d_X7_readValue_55 (by decide) ?_
  refine GW_ldc (X := X_X7_readValue) (pc := 56) d_X7_readValue_56 m_709 ?_
  replace h := g_bd h
  obtain ⟨i2, hi2, h⟩ := h
  obtain ⟨rfl, ki2⟩ := g_gO hi2
  replace h := g_bd h
  obtain ⟨⟨v3, M4⟩, hv3, h⟩ := h
  dsimp only at h
  refine GW_callV (X := X_X7_readValue) (pc := 58) (bc0 := 0) (bs0 := 0) (r := some (vi v3)) (M2 := M4) (c0 := 9) (T_X9_number (some i2) (0 : Int32) (99999 : Int32) M (v3, M4) hv3) (Nat.le_of_ble_eq_true rfl) (Nat.le_of_ble_eq_true rfl) rfl g_cok9 ki2 yc_X9_number ⟨m_710, m_618, m_619, m_123, m_620⟩ d_X7_readValue_58 rfl (st := [vi (0 : Int32), vr l0]) rfl (Nat.le_of_ble_eq_true rfl) (Nat.le_of_ble_eq_true rfl) (Nat.le_of_ble_eq_true rfl) (st2 := [vi v3, vi (0 : Int32), vr l0]) rfl ?_
  refine GW_iconst (X := X_X7_readValue) (pc := 61) (v := 4) d_X7_readValue_61 (by decide) ?_
  refine GW_ishl (X := X_X7_readValue) (pc := 62) d_X7_readValue_62 ?_
  refine GW_ior (X := X_X7_readValue) (pc := 63) d_X7_readValue_63 ?_
  replace h := g_bd h
  obtain ⟨i5, hi5, h⟩ := h
  obtain ⟨rfl, ki5⟩ := g_gO hi5
  replace h := g_bd h
  obtain ⟨M6, hM6, h⟩ := h
  refine GW_callV (X := X_X7_readValue) (pc := 64) (bc0 := 0) (bs0 := 0) (r := none) (M2 := M6) (c0 := 7) (T_X7_put (some i5) ((0 : Int32) ||| (v3 <<< ((4 : Int32) &&& 31))) M4 M6 hM6) (Nat.le_of_ble_eq_true rfl) (Nat.le_of_ble_eq_true rfl) rfl g_cok7 ki5 yc_X7_put ⟨m_705, m_707, m_16, m_125, m_708⟩ d_X7_readValue_64 rfl (st := []) rfl (Nat.le_of_ble_eq_true rfl) (Nat.le_of_ble_eq_true rfl) (Nat.le_of_ble_eq_true rfl) (st2 := []) rfl ?_
  exact T_X7_readValue_b67 r (some i5) l1 M6 h
def F_X7_readValue_b0 (l0 : Option Nat) (M : gM) : Option gM :=
  (gR 7 M l0 0).bind fun v1 => (gO 9 M v1).bind fun i2 => (F_X9_place (some i2) M).bind fun v3 => (gR 7 M l0 0).bind fun v4 => (gO 9 M v4).bind fun i5 => (F_X9_kind (some i5) M).bind fun v6 => if (v6 - (261 : Int32)) < 0 then (F_X7_readValue_b49 l0 v3 M) else (if (14 : Int32) ≤ (v6 - (261 : Int32)) then (F_X7_readValue_b49 l0 v3 M) else ((gR 7 M l0 0).bind fun v7 => (gO 9 M v7).bind fun i8 => (F_X9_next (some i8) M).bind fun M9 => (gO 7 M9 l0).bind fun i10 => (F_X7_put (some i10) ((1 : Int32) ||| ((v6 - (261 : Int32)) <<< ((4 : Int32) &&& 31))) M9).bind fun M11 => F_X7_readValue_b67 (some i10) v3 M11))
set_option maxHeartbeats 1000000 in
theorem T_X7_readValue_b0 (r : gM) (l0 : Option Nat) (M : gM) (h : F_X7_readValue_b0 l0 M = some r) : GW 2 0 0 X_X7_readValue 0 [(0, vr l0)] [] M (none, r) := by
  delta F_X7_readValue_b0 at h
  refine GW_aload_n (X := X_X7_readValue) (pc := 0) d_X7_readValue_0 rfl 0 rfl ?_
  replace h := g_bd h
  obtain ⟨v1, hv1, h⟩ := h
  refine GW_getR (X := X_X7_readValue) (pc := 1) f_X7_30 d_X7_readValue_1 hv1 (Or.inl ⟨_, ty_7_0⟩) ?_
  replace h := g_bd h
  obtain ⟨i2, hi2, h⟩ := h
  obtain ⟨rfl, ki2⟩ := g_gO hi2
  replace h := g_bd h
  obtain ⟨v3, hv3, h⟩ := h
  refine GW_callV (X := X_X7_readValue) (pc := 4) (bc0 := 0) (bs0 := 0) (r := some (vi v3)) (M2 := M) (c0 := 9) (T_X9_place (some i2) M v3 hv3) (Nat.le_of_ble_eq_true rfl) (Nat.le_of_ble_eq_true rfl) rfl g_cok9 ki2 yc_X9_place ⟨m_689, m_598, m_599, m_123, m_600⟩ d_X7_readValue_4 rfl (st := []) rfl (Nat.le_of_ble_eq_true rfl) (Nat.le_of_ble_eq_true rfl) (Nat.le_of_ble_eq_true rfl) (st2 := [vi v3]) rfl ?_
  refine GW_istore_n (X := X_X7_readValue) (pc := 7) d_X7_readValue_7 rfl (Nat.le_of_ble_eq_true rfl) (lv2 := [(1, vi v3), (0, vr l0)]) rfl ?_
  refine GW_aload_n (X := X_X7_readValue) (pc := 8) d_X7_readValue_8 rfl 1 rfl ?_
  replace h := g_bd h
  obtain ⟨v4, hv4, h⟩ := h
  refine GW_getR (X := X_X7_readValue) (pc := 9) f_X7_30 d_X7_readValue_9 hv4 (Or.inl ⟨_, ty_7_0⟩) ?_
  replace h := g_bd h
  obtain ⟨i5, hi5, h⟩ := h
  obtain ⟨rfl, ki5⟩ := g_gO hi5
  replace h := g_bd h
  obtain ⟨v6, hv6, h⟩ := h
  refine GW_callV (X := X_X7_readValue) (pc := 12) (bc0 := 0) (bs0 := 0) (r := some (vi v6)) (M2 := M) (c0 := 9) (T_X9_kind (some i5) M v6 hv6) (Nat.le_of_ble_eq_true rfl) (Nat.le_of_ble_eq_true rfl) rfl g_cok9 ki5 yc_X9_kind ⟨m_688, m_591, m_592, m_123, m_593⟩ d_X7_readValue_12 rfl (st := []) rfl (Nat.le_of_ble_eq_true rfl) (Nat.le_of_ble_eq_true rfl) (Nat.le_of_ble_eq_true rfl) (st2 := [vi v6]) rfl ?_
  refine GW_sipush (X := X_X7_readValue) (pc := 15) (v := 261) d_X7_readValue_15 (by decide) ?_
  refine GW_isub (X := X_X7_readValue) (pc := 18) d_X7_readValue_18 ?_
  refine GW_istore_n (X := X_X7_readValue) (pc := 19) d_X7_readValue_19 rfl (Nat.le_of_ble_eq_true rfl) (lv2 := [(2, vi (v6 - (261 : Int32))), (1, vi v3), (0, vr l0)]) rfl ?_
  refine GW_iload_n (X := X_X7_readValue) (pc := 20) d_X7_readValue_20 rfl 0 rfl ?_
  refine GW_if_lt (X := X_X7_readValue) (pc := 21) 49 d_X7_readValue_21 (by decide) (fun c => ?_) (fun c => ?_)
  · replace h := g_ip c h
    refine GW_sub [2, 1] rfl ?_
    exact T_X7_readValue_b49 r l0 v3 M h
  · replace h := g_ie c h
    refine GW_iload_n (X := X_X7_readValue) (pc := 24) d_X7_readValue_24 rfl 0 rfl ?_
    refine GW_bipush (X := X_X7_readValue) (pc := 25) (v := 14) d_X7_readValue_25 (by decide) ?_
    refine GW_icmp_ge (X := X_X7_readValue) (pc := 27) 49 d_X7_readValue_27 (by decide) (fun c => ?_) (fun c => ?_)
    · replace h := g_ip c h
      refine GW_sub [2, 1] rfl ?_
      exact T_X7_readValue_b49 r l0 v3 M h
    · replace h := g_ie c h
      refine GW_aload_n (X := X_X7_readValue) (pc := 30) d_X7_readValue_30 rfl 2 rfl ?_
      replace h := g_bd h
      obtain ⟨v7, hv7, h⟩ := h
      refine GW_getR (X := X_X7_readValue) (pc := 31) f_X7_30 d_X7_readValue_31 hv7 (Or.inl ⟨_, ty_7_0⟩) ?_
      replace h := g_bd h
      obtain ⟨i8, hi8, h⟩ := h
      obtain ⟨rfl, ki8⟩ := g_gO hi8
      replace h := g_bd h
      obtain ⟨M9, hM9, h⟩ := h
      refine GW_callV (X := X_X7_readValue) (pc := 34) (bc0 := 0) (bs0 := 0) (r := none) (M2 := M9) (c0 := 9) (T_X9_next (some i8) M M9 hM9) (Nat.le_of_ble_eq_true rfl) (Nat.le_of_ble_eq_true rfl) rfl g_cok9 ki8 yc_X9_next ⟨m_691, m_610, m_611, m_123, m_612⟩ d_X7_readValue_34 rfl (st := []) rfl (Nat.le_of_ble_eq_true rfl) (Nat.le_of_ble_eq_true rfl) (Nat.le_of_ble_eq_true rfl) (st2 := []) rfl ?_
      refine GW_aload_n (X := X_X7_readValue) (pc := 37) d_X7_readValue_37 rfl 2 rfl ?_
      refine GW_iconst (X := X_X7_readValue) (pc := 38) (v := 1) d_X7_readValue_38 (by decide) ?_
      refine GW_iload_n (X := X_X7_readValue) (pc := 39) d_X7_readValue_39 rfl 0 rfl ?_
      refine GW_iconst (X := X_X7_readValue) (pc := 40) (v := 4) d_X7_readValue_40 (by decide) ?_
      refine GW_ishl (X := X_X7_readValue) (pc := 41) d_X7_readValue_41 ?_
      refine GW_ior (X := X_X7_readValue) (pc := 42) d_X7_readValue_42 ?_
      replace h := g_bd h
      obtain ⟨i10, hi10, h⟩ := h
      obtain ⟨rfl, ki10⟩ := g_gO hi10
      replace h := g_bd h
      obtain ⟨M11, hM11, h⟩ := h
      refine GW_callV (X := X_X7_readValue) (pc := 43) (bc0 := 0) (bs0 := 0) (r := none) (M2 := M11) (c0 := 7) (T_X7_put (some i10) ((1 : Int32) ||| ((v6 - (261 : Int32)) <<< ((4 : Int32) &&& 31))) M9 M11 hM11) (Nat.le_of_ble_eq_true rfl) (Nat.le_of_ble_eq_true rfl) rfl g_cok7 ki10 yc_X7_put ⟨m_705, m_707, m_16, m_125, m_708⟩ d_X7_readValue_43 rfl (st := []) rfl (Nat.le_of_ble_eq_true rfl) (Nat.le_of_ble_eq_true rfl) (Nat.le_of_ble_eq_true rfl) (st2 := []) rfl ?_
      refine GW_goto (X := X_X7_readValue) (pc := 46) 67 d_X7_readValue_46 (by decide) ?_
      refine GW_sub [2, 1] rfl ?_
      exact T_X7_readValue_b67 r (some i10) v3 M11 h
def F_X7_readValue (l0 : Option Nat) (M : gM) : Option gM := F_X7_readValue_b0 l0 M
theorem T_X7_readValue (l0 : Option Nat) (M : gM) (r : gM) (h : F_X7_readValue l0 M = some r) : g_Met 2 0 0 yX7_readValue X_X7_readValue [vr l0] M (none, r) :=
  g_Met_of pn_RX7 rfl (Nat.le_of_ble_eq_true rfl) (fun h => by cases h) (GW_sub [0] rfl (T_X7_readValue_b0 r l0 M h))
