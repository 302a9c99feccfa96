/-! ForgetHeirs$Years.weigh(LForgetHeirs$House;LForgetHeirs$State;LForgetHeirs$Rule;)V -/
theorem d_X10_weigh_0 : decode cX10_weigh 0 = .ok (.iconst 0, 1) := by decide +kernel
theorem d_X10_weigh_1 : decode cX10_weigh 1 = .ok (.istore 4, 2) := by decide +kernel
theorem d_X10_weigh_3 : decode cX10_weigh 3 = .ok (.iload 4, 2) := by decide +kernel
theorem d_X10_weigh_5 : decode cX10_weigh 5 = .ok (.aload_n 1, 1) := by decide +kernel
theorem d_X10_weigh_6 : decode cX10_weigh 6 = .ok (.getfield 30, 3) := by decide +kernel
theorem d_X10_weigh_9 : decode cX10_weigh 9 = .ok (.if_icmp .ge 130, 3) := by decide +kernel
theorem d_X10_weigh_12 : decode cX10_weigh 12 = .ok (.iconst 0, 1) := by decide +kernel
theorem d_X10_weigh_13 : decode cX10_weigh 13 = .ok (.istore 5, 2) := by decide +kernel
theorem d_X10_weigh_15 : decode cX10_weigh 15 = .ok (.iload 5, 2) := by decide +kernel
theorem d_X10_weigh_17 : decode cX10_weigh 17 = .ok (.aload_n 1, 1) := by decide +kernel
theorem d_X10_weigh_18 : decode cX10_weigh 18 = .ok (.getfield 54, 3) := by decide +kernel
theorem d_X10_weigh_21 : decode cX10_weigh 21 = .ok (.if_icmp .ge 112, 3) := by decide +kernel
theorem d_X10_weigh_24 : decode cX10_weigh 24 = .ok (.iload 4, 2) := by decide +kernel
theorem d_X10_weigh_26 : decode cX10_weigh 26 = .ok (.bipush 7, 2) := by decide +kernel
theorem d_X10_weigh_28 : decode cX10_weigh 28 = .ok (.imul, 1) := by decide +kernel
theorem d_X10_weigh_29 : decode cX10_weigh 29 = .ok (.iload 5, 2) := by decide +kernel
theorem d_X10_weigh_31 : decode cX10_weigh 31 = .ok (.iadd, 1) := by decide +kernel
theorem d_X10_weigh_32 : decode cX10_weigh 32 = .ok (.istore 6, 2) := by decide +kernel
theorem d_X10_weigh_34 : decode cX10_weigh 34 = .ok (.aload_n 2, 1) := by decide +kernel
theorem d_X10_weigh_35 : decode cX10_weigh 35 = .ok (.getfield 57, 3) := by decide +kernel
theorem d_X10_weigh_38 : decode cX10_weigh 38 = .ok (.iload 6, 2) := by decide +kernel
theorem d_X10_weigh_40 : decode cX10_weigh 40 = .ok (.iaload, 1) := by decide +kernel
theorem d_X10_weigh_41 : decode cX10_weigh 41 = .ok (.ifCond .ne 14, 3) := by decide +kernel
theorem d_X10_weigh_44 : decode cX10_weigh 44 = .ok (.aload_n 0, 1) := by decide +kernel
theorem d_X10_weigh_45 : decode cX10_weigh 45 = .ok (.getfield 9, 3) := by decide +kernel
theorem d_X10_weigh_48 : decode cX10_weigh 48 = .ok (.iload 6, 2) := by decide +kernel
theorem d_X10_weigh_50 : decode cX10_weigh 50 = .ok (.iconst 0, 1) := by decide +kernel
theorem d_X10_weigh_51 : decode cX10_weigh 51 = .ok (.iastore, 1) := by decide +kernel
theorem d_X10_weigh_52 : decode cX10_weigh 52 = .ok (.goto 75, 3) := by decide +kernel
theorem d_X10_weigh_55 : decode cX10_weigh 55 = .ok (.aload_n 3, 1) := by decide +kernel
theorem d_X10_weigh_56 : decode cX10_weigh 56 = .ok (.ifnonnull 32, 3) := by decide +kernel
theorem d_X10_weigh_59 : decode cX10_weigh 59 = .ok (.aload_n 0, 1) := by decide +kernel
theorem d_X10_weigh_60 : decode cX10_weigh 60 = .ok (.getfield 9, 3) := by decide +kernel
theorem d_X10_weigh_63 : decode cX10_weigh 63 = .ok (.iload 6, 2) := by decide +kernel
theorem d_X10_weigh_65 : decode cX10_weigh 65 = .ok (.aload_n 1, 1) := by decide +kernel
theorem d_X10_weigh_66 : decode cX10_weigh 66 = .ok (.iload 4, 2) := by decide +kernel
theorem d_X10_weigh_68 : decode cX10_weigh 68 = .ok (.iload 5, 2) := by decide +kernel
theorem d_X10_weigh_70 : decode cX10_weigh 70 = .ok (.aload_n 2, 1) := by decide +kernel
theorem d_X10_weigh_71 : decode cX10_weigh 71 = .ok (.getfield 36, 3) := by decide +kernel
theorem d_X10_weigh_74 : decode cX10_weigh 74 = .ok (.iload 4, 2) := by decide +kernel
theorem d_X10_weigh_76 : decode cX10_weigh 76 = .ok (.iaload, 1) := by decide +kernel
theorem d_X10_weigh_77 : decode cX10_weigh 77 = .ok (.aload_n 2, 1) := by decide +kernel
theorem d_X10_weigh_78 : decode cX10_weigh 78 = .ok (.getfield 60, 3) := by decide +kernel
theorem d_X10_weigh_81 : decode cX10_weigh 81 = .ok (.invokevirtual 63, 3) := by decide +kernel
theorem d_X10_weigh_84 : decode cX10_weigh 84 = .ok (.iastore, 1) := by decide +kernel
theorem d_X10_weigh_85 : decode cX10_weigh 85 = .ok (.goto 42, 3) := by decide +kernel
theorem d_X10_weigh_88 : decode cX10_weigh 88 = .ok (.aload_n 0, 1) := by decide +kernel
theorem d_X10_weigh_89 : decode cX10_weigh 89 = .ok (.getfield 18, 3) := by decide +kernel
theorem d_X10_weigh_92 : decode cX10_weigh 92 = .ok (.aload_n 1, 1) := by decide +kernel
theorem d_X10_weigh_93 : decode cX10_weigh 93 = .ok (.aload_n 2, 1) := by decide +kernel
theorem d_X10_weigh_94 : decode cX10_weigh 94 = .ok (.iload 4, 2) := by decide +kernel
theorem d_X10_weigh_96 : decode cX10_weigh 96 = .ok (.iload 5, 2) := by decide +kernel
theorem d_X10_weigh_98 : decode cX10_weigh 98 = .ok (.invokevirtual 67, 3) := by decide +kernel
theorem d_X10_weigh_101 : decode cX10_weigh 101 = .ok (.aload_n 0, 1) := by decide +kernel
theorem d_X10_weigh_102 : decode cX10_weigh 102 = .ok (.getfield 9, 3) := by decide +kernel
theorem d_X10_weigh_105 : decode cX10_weigh 105 = .ok (.iload 6, 2) := by decide +kernel
theorem d_X10_weigh_107 : decode cX10_weigh 107 = .ok (.lconst 0, 1) := by decide +kernel
theorem d_X10_weigh_108 : decode cX10_weigh 108 = .ok (.ldc2_w 71, 3) := by decide +kernel
theorem d_X10_weigh_111 : decode cX10_weigh 111 = .ok (.aload_n 0, 1) := by decide +kernel
theorem d_X10_weigh_112 : decode cX10_weigh 112 = .ok (.getfield 18, 3) := by decide +kernel
theorem d_X10_weigh_115 : decode cX10_weigh 115 = .ok (.aload_n 3, 1) := by decide +kernel
theorem d_X10_weigh_116 : decode cX10_weigh 116 = .ok (.invokevirtual 73, 3) := by decide +kernel
theorem d_X10_weigh_119 : decode cX10_weigh 119 = .ok (.invokestatic 77, 3) := by decide +kernel
theorem d_X10_weigh_122 : decode cX10_weigh 122 = .ok (.invokestatic 80, 3) := by decide +kernel
theorem d_X10_weigh_125 : decode cX10_weigh 125 = .ok (.l2i, 1) := by decide +kernel
theorem d_X10_weigh_126 : decode cX10_weigh 126 = .ok (.iastore, 1) := by decide +kernel
theorem d_X10_weigh_127 : decode cX10_weigh 127 = .ok (.iinc 5 1, 3) := by decide +kernel
theorem d_X10_weigh_130 : decode cX10_weigh 130 = .ok (.goto (-115), 3) := by decide +kernel
theorem d_X10_weigh_133 : decode cX10_weigh 133 = .ok (.iinc 4 1, 3) := by decide +kernel
theorem d_X10_weigh_136 : decode cX10_weigh 136 = .ok (.goto (-133), 3) := by decide +kernel
theorem d_X10_weigh_139 : decode cX10_weigh 139 = .ok (.return_, 1) := by decide +kernel
abbrev X_X10_weigh : gX := (RX10, cX10_weigh, 7, none, false)
def F_X10_weigh_b127 (k3 : Option Nat → Option Nat → Option Nat → Option Nat → Int32 → gM → Option gM) (k15 : Option Nat → Option Nat → Option Nat → Option Nat → Int32 → Int32 → gM → Option gM) (l0 : Option Nat) (l1 : Option Nat) (l2 : Option Nat) (l3 : Option Nat) (l4 : Int32) (l5 : Int32) (M : gM) : Option gM :=
  k15 l0 l1 l2 l3 l4 (l5 + 1) M
theorem T_X10_weigh_b127 (k3 : Option Nat → Option Nat → Option Nat → Option Nat → Int32 → gM → Option gM) (k15 : Option Nat → Option Nat → Option Nat → Option Nat → Int32 → Int32 → gM → Option gM) (r : gM) (hk3 : ∀ (l0 : Option Nat) (l1 : Option Nat) (l2 : Option Nat) (l3 : Option Nat) (l4 : Int32) (M : gM), k3 l0 l1 l2 l3 l4 M = some r → GW 3 0 0 X_X10_weigh 3 [(0, vr l0), (1, vr l1), (2, vr l2), (3, vr l3), (4, vi l4)] [] M (none, r)) (hk15 : ∀ (l0 : Option Nat) (l1 : Option Nat) (l2 : Option Nat) (l3 : Option Nat) (l4 : Int32) (l5 : Int32) (M : gM), k15 l0 l1 l2 l3 l4 l5 M = some r → GW 3 0 0 X_X10_weigh 15 [(0, vr l0), (1, vr l1), (2, vr l2), (3, vr l3), (4, vi l4), (5, vi l5)] [] M (none, r)) (l0 : Option Nat) (l1 : Option Nat) (l2 : Option Nat) (l3 : Option Nat) (l4 : Int32) (l5 : Int32) (M : gM) (h : F_X10_weigh_b127 k3 k15 l0 l1 l2 l3 l4 l5 M = some r) : GW 3 0 0 X_X10_weigh 127 [(0, vr l0), (1, vr l1), (2, vr l2), (3, vr l3), (4, vi l4), (5, vi l5)] [] M (none, r) := by
  delta F_X10_weigh_b127 at h
  refine GW_iinc (j := 5) (X := X_X10_weigh) (pc := 127) d_X10_weigh_127 rfl (congrArg (fun z => _ + z) (by decide : Int32.ofInt 1 = (1 : Int32))) (Nat.le_of_ble_eq_true rfl) (lv2 := [(5, vi (l5 + 1)), (0, vr l0), (1, vr l1), (2, vr l2), (3, vr l3), (4, vi l4)]) rfl ?_
  refine GW_goto (X := X_X10_weigh) (pc := 130) 15 d_X10_weigh_130 (by decide) ?_
  refine GW_sub [1, 2, 3, 4, 5, 0] rfl ?_
  exact hk15 l0 l1 l2 l3 l4 (l5 + 1) M h
def F_X10_weigh_b15 (k3 : Option Nat → Option Nat → Option Nat → Option Nat → Int32 → gM → Option gM) (k15 : Option Nat → Option Nat → Option Nat → Option Nat → Int32 → Int32 → gM → Option gM) (l0 : Option Nat) (l1 : Option Nat) (l2 : Option Nat) (l3 : Option Nat) (l4 : Int32) (l5 : Int32) (M : gM) : Option gM :=
  (gI 1 M l1 6).bind fun v1 => if v1 ≤ l5 then (k3 l0 l1 l2 l3 (l4 + 1) M) else ((gR 8 M l2 1).bind fun v2 => (aI 20 M v2 ((l4 * (7 : Int32)) + l5)).bind fun v3 => if v3 = 0 then ((gR 10 M l0 0).bind fun v20 => (sI M v20 ((l4 * (7 : Int32)) + l5) (0 : Int32)).bind fun M21 => F_X10_weigh_b127 k3 k15 l0 l1 l2 l3 l4 l5 M21) else (if l3 = none then ((gR 10 M l0 0).bind fun v13 => (gR 8 M l2 2).bind fun v14 => (aI 20 M v14 l4).bind fun v15 => (gI 8 M l2 4).bind fun v16 => (gO 1 M l1).bind fun i17 => (F_X1_plainLoss (some i17) l4 l5 v15 v16 M).bind fun v18 => (sI M v13 ((l4 * (7 : Int32)) + l5) v18).bind fun M19 => F_X10_weigh_b127 k3 k15 l0 (some i17) l2 l3 l4 l5 M19) else ((gR 10 M l0 1).bind fun v4 => (gO 5 M v4).bind fun i5 => (F_X5_look (some i5) l1 l2 l4 l5 M).bind fun M6 => (gR 10 M6 l0 0).bind fun v7 => (gR 10 M6 l0 1).bind fun v8 => (gO 5 M6 v8).bind fun i9 => (F_X5_loss (some i9) l3 M6).bind fun (v10, M11) => (sI M11 v7 ((l4 * (7 : Int32)) + l5) ((if (if v10 < (99 : Int64) then v10 else (99 : Int64)) < (0 : Int64) then (0 : Int64) else (if v10 < (99 : Int64) then v10 else (99 : Int64)))).toInt32).bind fun M12 => F_X10_weigh_b127 k3 k15 l0 l1 l2 l3 l4 l5 M12)))
set_option maxHeartbeats 1000000 in
theorem T_X10_weigh_b15 (k3 : Option Nat → Option Nat → Option Nat → Option Nat → Int32 → gM → Option gM) (k15 : Option Nat → Option Nat → Option Nat → Option Nat → Int32 → Int32 → gM → Option gM) (r : gM) (hk3 : ∀ (l0 : Option Nat) (l1 : Option Nat) (l2 : Option Nat) (l3 : Option Nat) (l4 : Int32) (M : gM), k3 l0 l1 l2 l3 l4 M = some r → GW 3 0 0 X_X10_weigh 3 [(0, vr l0), (1, vr l1), (2, vr l2), (3, vr l3), (4, vi l4)] [] M (none, r)) (hk15 : ∀ (l0 : Option Nat) (l1 : Option Nat) (l2 : Option Nat) (l3 : Option Nat) (l4 : Int32) (l5 : Int32) (M : gM), k15 l0 l1 l2 l3 l4 l5 M = some r → GW 3 0 0 X_X10_weigh 15 [(0, vr l0), (1, vr l1), (2, vr l2), (3, vr l3), (4, vi l4), (5, vi l5)] [] M (none, r)) (l0 : Option Nat) (l1 : Option Nat) (l2 : Option Nat) (l3 : Option Nat) (l4 : Int32) (l5 : Int32) (M : gM) (h : F_X10_weigh_b15 k3 k15 l0 l1 l2 l3 l4 l5 M = some r) : GW 3 0 0 X_X10_weigh 15 [(0, vr l0), (1, vr l1), (2, vr l2), (3, vr l3), (4, vi l4), (5, vi l5)] [] M (none, r) := by
  delta F_X10_weigh_b15 at h
  refine GW_iload (X := X_X10_weigh) (pc := 15) d_X10_weigh_15 5 rfl ?_
  refine GW_aload_n (X := X_X10_weigh) (pc := 17) d_X10_weigh_17 rfl 1 rfl ?_
  replace h := g_bd h
  obtain ⟨v1, hv1, h⟩ := h
  refine GW_getI (X := X_X10_weigh) (pc := 18) f_X10_54 d_X10_weigh_18 hv1 (Or.inl ty_1_6) ?_
  refine GW_icmp_ge (X := X_X10_weigh) (pc := 21) 133 d_X10_weigh_21 (by decide) (fun c => ?_) (fun c => ?_)
  · replace h := g_ip c h
    refine GW_iinc (j := 4) (X := X_X10_weigh) (pc := 133) d_X10_weigh_133 rfl (congrArg (fun z => _ + z) (by decide : Int32.ofInt 1 = (1 : Int32))) (Nat.le_of_ble_eq_true rfl) (lv2 := [(4, vi (l4 + 1)), (0, vr l0), (1, vr l1), (2, vr l2), (3, vr l3), (5, vi l5)]) rfl ?_
    refine GW_goto (X := X_X10_weigh) (pc := 136) 3 d_X10_weigh_136 (by decide) ?_
    refine GW_sub [1, 2, 3, 4, 0] rfl ?_
    exact hk3 l0 l1 l2 l3 (l4 + 1) M h
  · replace h := g_ie c h
    refine GW_iload (X := X_X10_weigh) (pc := 24) d_X10_weigh_24 4 rfl ?_
    refine GW_bipush (X := X_X10_weigh) (pc := 26) (v := 7) d_X10_weigh_26 (by decide) ?_
    refine GW_imul (X := X_X10_weigh) (pc := 28) d_X10_weigh_28 ?_
    refine GW_iload (X := X_X10_weigh) (pc := 29) d_X10_weigh_29 5 rfl ?_
    refine GW_iadd (X := X_X10_weigh) (pc := 31) d_X10_weigh_31 ?_
    refine GW_istore (X := X_X10_weigh) (pc := 32) d_X10_weigh_32 (Nat.le_of_ble_eq_true rfl) (lv2 := [(6, vi ((l4 * (7 : Int32)) + l5)), (0, vr l0), (1, vr l1), (2, vr l2), (3, vr l3), (4, vi l4), (5, vi l5)]) rfl ?_
    refine GW_aload_n (X := X_X10_weigh) (pc := 34) d_X10_weigh_34 rfl 3 rfl ?_
    replace h := g_bd h
    obtain ⟨v2, hv2, h⟩ := h
    refine GW_getR (X := X_X10_weigh) (pc := 35) f_X10_57 d_X10_weigh_35 hv2 (Or.inr ⟨_, ty_8_1⟩) ?_
    refine GW_iload (X := X_X10_weigh) (pc := 38) d_X10_weigh_38 0 rfl ?_
    replace h := g_bd h
    obtain ⟨v3, hv3, h⟩ := h
    refine GW_iald (X := X_X10_weigh) (pc := 40) d_X10_weigh_40 hv3 ?_
    refine GW_if_ne (X := X_X10_weigh) (pc := 41) 55 d_X10_weigh_41 (by decide) (fun c => ?_) (fun c => ?_)
    · replace h := g_ie c h
      refine GW_aload_n (X := X_X10_weigh) (pc := 55) d_X10_weigh_55 rfl 4 rfl ?_
      refine GW_ifnonnull (X := X_X10_weigh) (pc := 56) 88 d_X10_weigh_56 (by decide) (fun c => ?_) (fun c => ?_)
      · replace h := g_ie c h
        refine GW_aload_n (X := X_X10_weigh) (pc := 88) d_X10_weigh_88 rfl 1 rfl ?_
        replace h := g_bd h
        obtain ⟨v4, hv4, h⟩ := h
        refine GW_getR (X := X_X10_weigh) (pc := 89) f_X10_18 d_X10_weigh_89 hv4 (Or.inl ⟨_, ty_10_1⟩) ?_
        refine GW_aload_n (X := X_X10_weigh) (pc := 92) d_X10_weigh_92 rfl 2 rfl ?_
        refine GW_aload_n (X := X_X10_weigh) (pc := 93) d_X10_weigh_93 rfl 3 rfl ?_
        refine GW_iload (X := X_X10_weigh) (pc := 94) d_X10_weigh_94 5 rfl ?_
        refine GW_iload (X := X_X10_weigh) (pc := 96) d_X10_weigh_96 6 rfl ?_
        replace h := g_bd h
        obtain ⟨i5, hi5, h⟩ := h
        obtain ⟨rfl, ki5⟩ := g_gO hi5
        replace h := g_bd h
        obtain ⟨M6, hM6, h⟩ := h
        refine GW_callV (X := X_X10_weigh) (pc := 98) (bc0 := 0) (bs0 := 0) (r := none) (M2 := M6) (c0 := 5) (T_X5_look (some i5) l1 l2 l4 l5 M M6 hM6) (Nat.le_of_ble_eq_true rfl) (Nat.le_of_ble_eq_true rfl) rfl g_cok5 ki5 yc_X5_look ⟨m_848, m_849, m_850, m_118, m_851⟩ d_X10_weigh_98 rfl (st := []) rfl (Nat.le_of_ble_eq_true rfl) (Nat.le_of_ble_eq_true rfl) (Nat.le_of_ble_eq_true rfl) (st2 := []) rfl ?_
        refine GW_aload_n (X := X_X10_weigh) (pc := 101) d_X10_weigh_101 rfl 1 rfl ?_
        replace h := g_bd h
        obtain ⟨v7, hv7, h⟩ := h
        refine GW_getR (X := X_X10_weigh) (pc := 102) f_X10_9 d_X10_weigh_102 hv7 (Or.inr ⟨_, ty_10_0⟩) ?_
        refine GW_iload (X := X_X10_weigh) (pc := 105) d_X10_weigh_105 0 rfl ?_
        refine GW_lconst (X := X_X10_weigh) (pc := 107) (v := 0) d_X10_weigh_107 (by decide) ?_
        refine GW_ldc2 (X := X_X10_weigh) (pc := 108) d_X10_weigh_108 m_859 ?_
        refine GW_aload_n (X := X_X10_weigh) (pc := 111) d_X10_weigh_111 rfl 1 rfl ?_
        replace h := g_bd h
        obtain ⟨v8, hv8, h⟩ := h
        refine GW_getR (X := X_X10_weigh) (pc := 112) f_X10_18 d_X10_weigh_112 hv8 (Or.inl ⟨_, ty_10_1⟩) ?_
        refine GW_aload_n (X := X_X10_weigh) (pc := 115) d_X10_weigh_115 rfl 4 rfl ?_
        replace h := g_bd h
        obtain ⟨i9, hi9, h⟩ := h
        obtain ⟨rfl, ki9⟩ := g_gO hi9
        replace h := g_bd h
        obtain ⟨⟨v10, M11⟩, hv10, h⟩ := h
        dsimp only at h
        refine GW_callV (X := X_X10_weigh) (pc := 116) (bc0 := 0) (bs0 := 0) (r := some (vl v10)) (M2 := M11) (c0 := 5) (T_X5_loss (some i9) l3 M6 (v10, M11) hv10) (Nat.le_of_ble_eq_true rfl) (Nat.le_of_ble_eq_true rfl) rfl g_cok5 ki9 yc_X5_loss ⟨m_860, m_861, m_862, m_118, m_863⟩ d_X10_weigh_116 rfl (st := [vl (99 : Int64), vl (0 : Int64), vi ((l4 * (7 : Int32)) + l5), vr v7]) rfl (Nat.le_of_ble_eq_true rfl) (Nat.le_of_ble_eq_true rfl) (Nat.le_of_ble_eq_true rfl) (st2 := [vl v10, vl (99 : Int64), vl (0 : Int64), vi ((l4 * (7 : Int32)) + l5), vr v7]) rfl ?_
        refine GW_mminL (X := X_X10_weigh) (pc := 119) m_879 d_X10_weigh_119 (Nat.le_of_ble_eq_true rfl) (Nat.le_of_ble_eq_true rfl) ?_
        refine GW_mmaxL (X := X_X10_weigh) (pc := 122) m_882 d_X10_weigh_122 (Nat.le_of_ble_eq_true rfl) (Nat.le_of_ble_eq_true rfl) ?_
        refine GW_l2i (X := X_X10_weigh) (pc := 125) d_X10_weigh_125 ?_
        replace h := g_bd h
        obtain ⟨M12, hM12, h⟩ := h
        refine GW_iast (X := X_X10_weigh) (pc := 126) d_X10_weigh_126 hM12 ?_
        refine GW_sub [1, 2, 3, 4, 5, 6] rfl ?_
        exact T_X10_weigh_b127 k3 k15 r hk3 hk15 l0 l1 l2 l3 l4 l5 M12 h
      · replace h := g_ip c h
        refine GW_aload_n (X := X_X10_weigh) (pc := 59) d_X10_weigh_59 rfl 1 rfl ?_
        replace h := g_bd h
        obtain ⟨v13, hv13, h⟩ := h
        refine GW_getR (X := X_X10_weigh) (pc := 60) f_X10_9 d_X10_weigh_60 hv13 (Or.inr ⟨_, ty_10_0⟩) ?_
        refine GW_iload (X := X_X10_weigh) (pc := 63) d_X10_weigh_63 0 rfl ?_
        refine GW_aload_n (X := X_X10_weigh) (pc := 65) d_X10_weigh_65 rfl 2 rfl ?_
        refine GW_iload (X := X_X10_weigh) (pc := 66) d_X10_weigh_66 5 rfl ?_
        refine GW_iload (X := X_X10_weigh) (pc := 68) d_X10_weigh_68 6 rfl ?_
        refine GW_aload_n (X := X_X10_weigh) (pc := 70) d_X10_weigh_70 rfl 3 rfl ?_
        replace h := g_bd h
        obtain ⟨v14, hv14, h⟩ := h
        refine GW_getR (X := X_X10_weigh) (pc := 71) f_X10_36 d_X10_weigh_71 hv14 (Or.inr ⟨_, ty_8_2⟩) ?_
        refine GW_iload (X := X_X10_weigh) (pc := 74) d_X10_weigh_74 5 rfl ?_
        replace h := g_bd h
        obtain ⟨v15, hv15, h⟩ := h
        refine GW_iald (X := X_X10_weigh) (pc := 76) d_X10_weigh_76 hv15 ?_
        refine GW_aload_n (X := X_X10_weigh) (pc := 77) d_X10_weigh_77 rfl 3 rfl ?_
        replace h := g_bd h
        obtain ⟨v16, hv16, h⟩ := h
        refine GW_getI (X := X_X10_weigh) (pc := 78) f_X10_60 d_X10_weigh_78 hv16 (Or.inl ty_8_4) ?_
        replace h := g_bd h
        obtain ⟨i17, hi17, h⟩ := h
        obtain ⟨rfl, ki17⟩ := g_gO hi17
        replace h := g_bd h
        obtain ⟨v18, hv18, h⟩ := h
        refine GW_callV (X := X_X10_weigh) (pc := 81) (bc0 := 0) (bs0 := 0) (r := some (vi v18)) (M2 := M) (c0 := 1) (T_X1_plainLoss (some i17) l4 l5 v15 v16 M v18 hv18) (Nat.le_of_ble_eq_true rfl) (Nat.le_of_ble_eq_true rfl) rfl g_cok1 ki17 yc_X1_plainLoss ⟨m_843, m_844, m_845, m_122, m_846⟩ d_X10_weigh_81 rfl (st := [vi ((l4 * (7 : Int32)) + l5), vr v13]) rfl (Nat.le_of_ble_eq_true rfl) (Nat.le_of_ble_eq_true rfl) (Nat.le_of_ble_eq_true rfl) (st2 := [vi v18, vi ((l4 * (7 : Int32)) + l5), vr v13]) rfl ?_
        replace h := g_bd h
        obtain ⟨M19, hM19, h⟩ := h
        refine GW_iast (X := X_X10_weigh) (pc := 84) d_X10_weigh_84 hM19 ?_
        refine GW_goto (X := X_X10_weigh) (pc := 85) 127 d_X10_weigh_85 (by decide) ?_
        refine GW_sub [1, 2, 3, 4, 5, 6] rfl ?_
        exact T_X10_weigh_b127 k3 k15 r hk3 hk15 l0 (some i17) l2 l3 l4 l5 M19 h
    · replace h := g_ip c h
      refine GW_aload_n (X := X_X10_weigh) (pc := 44) d_X10_weigh_44 rfl 1 rfl ?_
      replace h := g_bd h
      obtain ⟨v20, hv20, h⟩ := h
      refine GW_getR (X := X_X10_weigh) (pc := 45) f_X10_9 d_X10_weigh_45 hv20 (Or.inr ⟨_, ty_10_0⟩) ?_
      refine GW_iload (X := X_X10_weigh) (pc := 48) d_X10_weigh_48 0 rfl ?_
      refine GW_iconst (X := X_X10_weigh) (pc := 50) (v := 0) d_X10_weigh_50 (by decide) ?_
      replace h := g_bd h
      obtain ⟨M21, hM21, h⟩ := h
      refine GW_iast (X := X_X10_weigh) (pc := 51) d_X10_weigh_51 hM21 ?_
      refine GW_goto (X := X_X10_weigh) (pc := 52) 127 d_X10_weigh_52 (by decide) ?_
      refine GW_sub [1, 2, 3, 4, 5, 6] rfl ?_
      exact T_X10_weigh_b127 k3 k15 r hk3 hk15 l0 l1 l2 l3 l4 l5 M21 h
def F_X10_weigh_L15 (k3 : Option Nat → Option Nat → Option Nat → Option Nat → Int32 → gM → Option gM) : Nat → Option Nat → Option Nat → Option Nat → Option Nat → Int32 → Int32 → gM → Option gM
  | 0 => fun _ _ _ _ _ _ _ => none
  | n + 1 => F_X10_weigh_b15 k3 (F_X10_weigh_L15 k3 n)
theorem T_X10_weigh_L15 (k3 : Option Nat → Option Nat → Option Nat → Option Nat → Int32 → gM → Option gM) (r : gM) (hk3 : ∀ (l0 : Option Nat) (l1 : Option Nat) (l2 : Option Nat) (l3 : Option Nat) (l4 : Int32) (M : gM), k3 l0 l1 l2 l3 l4 M = some r → GW 3 0 0 X_X10_weigh 3 [(0, vr l0), (1, vr l1), (2, vr l2), (3, vr l3), (4, vi l4)] [] M (none, r)) : ∀ (n : Nat) (l0 : Option Nat) (l1 : Option Nat) (l2 : Option Nat) (l3 : Option Nat) (l4 : Int32) (l5 : Int32) (M : gM), F_X10_weigh_L15 k3 n l0 l1 l2 l3 l4 l5 M = some r → GW 3 0 0 X_X10_weigh 15 [(0, vr l0), (1, vr l1), (2, vr l2), (3, vr l3), (4, vi l4), (5, vi l5)] [] M (none, r) := by
  intro n
  induction n with
  | zero => intro l0 l1 l2 l3 l4 l5 M h; exact g_no h
  | succ n ih => intro l0 l1 l2 l3 l4 l5 M h; exact T_X10_weigh_b15 k3 (F_X10_weigh_L15 k3 n) r hk3 ih l0 l1 l2 l3 l4 l5 M h
def F_X10_weigh_b3 (k3 : Option Nat → Option Nat → Option Nat → Option Nat → Int32 → gM → Option gM) (l0 : Option Nat) (l1 : Option Nat) (l2 : Option Nat) (l3 : Option Nat) (l4 : Int32) (M : gM) : Option gM :=
  (gI 1 M l1 7).bind fun v1 => if v1 ≤ l4 then (some M) else (F_X10_weigh_L15 k3 g_fuel l0 l1 l2 l3 l4 (0 : Int32) M)
theorem T_X10_weigh_b3 (k3 : Option Nat → Option Nat → Option Nat → Option Nat → Int32 → gM → Option gM) (r : gM) (hk3 : ∀ (l0 : Option Nat) (l1 : Option Nat) (l2 : Option Nat) (l3 : Option Nat) (l4 : Int32) (M : gM), k3 l0 l1 l2 l3 l4 M = some r → GW 3 0 0 X_X10_weigh 3 [(0, vr l0), (1, vr l1), (2, vr l2), (3, vr l3), (4, vi l4)] [] M (none, r)) (l0 : Option Nat) (l1 : Option Nat) (l2 : Option Nat) (l3 : Option Nat) (l4 : Int32) (M : gM) (h : F_X10_weigh_b3 k3 l0 l1 l2 l3 l4 M = some r) : GW 3 0 0 X_X10_weigh 3 [(0, vr l0), (1, vr l1), (2, vr l2), (3, vr l3), (4, vi l4)] [] M (none, r) := by
  delta F_X10_weigh_b3 at h
  refine GW_iload (X := X_X10_weigh) (pc := 3) d_X10_weigh_3 4 rfl ?_
  refine GW_aload_n (X := X_X10_weigh) (pc := 5) d_X10_weigh_5 rfl 1 rfl ?_
  replace h := g_bd h
  obtain ⟨v1, hv1, h⟩ := h
  refine GW_getI (X := X_X10_weigh) (pc := 6) f_X10_30 d_X10_weigh_6 hv1 (Or.inl ty_1_7) ?_
  refine GW_icmp_ge (X := X_X10_weigh) (pc := 9) 139 d_X10_weigh_9 (by decide) (fun c => ?_) (fun c => ?_)
  · replace h := g_ip c h
    replace h := Option.some.inj h
    subst h
    exact GW_ret (X := X_X10_weigh) (pc := 139) d_X10_weigh_139 rfl trivial
  · replace h := g_ie c h
    refine GW_iconst (X := X_X10_weigh) (pc := 12) (v := 0) d_X10_weigh_12 (by decide) ?_
    refine GW_istore (X := X_X10_weigh) (pc := 13) d_X10_weigh_13 (Nat.le_of_ble_eq_true rfl) (lv2 := [(5, vi (0 : Int32)), (0, vr l0), (1, vr l1), (2, vr l2), (3, vr l3), (4, vi l4)]) rfl ?_
    refine GW_sub [1, 2, 3, 4, 5, 0] rfl ?_
    exact T_X10_weigh_L15 k3 r hk3 g_fuel l0 l1 l2 l3 l4 (0 : Int32) M h
def F_X10_weigh_L3 : Nat → Option Nat → Option Nat → Option Nat → Option Nat → Int32 → gM → Option gM
  | 0 => fun _ _ _ _ _ _ => none
  | n + 1 => F_X10_weigh_b3 (F_X10_weigh_L3 n)
theorem T_X10_weigh_L3 (r : gM) : ∀ (n : Nat) (l0 : Option Nat) (l1 : Option Nat) (l2 : Option Nat) (l3 : Option Nat) (l4 : Int32) (M : gM), F_X10_weigh_L3 n l0 l1 l2 l3 l4 M = some r → GW 3 0 0 X_X10_weigh 3 [(0, vr l0), (1, vr l1), (2, vr l2), (3, vr l3), (4, vi l4)] [] M (none, r) := by
  intro n
  induction n with
  | zero => intro l0 l1 l2 l3 l4 M h; exact g_no h
  | succ n ih => intro l0 l1 l2 l3 l4 M h; exact T_X10_weigh_b3 (F_X10_weigh_L3 n) r ih l0 l1 l2 l3 l4 M h
def F_X10_weigh_b0 (l0 : Option Nat) (l1 : Option Nat) (l2 : Option Nat) (l3 : Option Nat) (M : gM) : Option gM :=
  F_X10_weigh_L3 g_fuel l0 l1 l2 l3 (0 : Int32) M
theorem T_X10_weigh_b0 (r : gM) (l0 : Option Nat) (l1 : Option Nat) (l2 : Option Nat) (l3 : Option Nat) (M : gM) (h : F_X10_weigh_b0 l0 l1 l2 l3 M = some r) : GW 3 0 0 X_X10_weigh 0 [(0, vr l0), (1, vr l1), (2, vr l2), (3, vr l3)] [] M (none, r) := by
  delta F_X10_weigh_b0 at h
  refine GW_iconst (X := X_X10_weigh) (pc := 0) (v := 0) d_X10_weigh_0 (by decide) ?_
  refine GW_istore (X := X_X10_weigh) (pc := 1) d_X10_weigh_1 (Nat.le_of_ble_eq_true rfl) (lv2 := [(4, vi (0 : Int32)), (0, vr l0), (1, vr l1), (2, vr l2), (3, vr l3)]) rfl ?_
  refine GW_sub [1, 2, 3, 4, 0] rfl ?_
  exact T_X10_weigh_L3 r g_fuel l0 l1 l2 l3 (0 : Int32) M h
def F_X10_weigh (l0 : Option Nat) (l1 : Option Nat) (l2 : Option Nat) (l3 : Option Nat) (M : gM) : Option gM := F_X10_weigh_b0 l0 l1 l2 l3 M
theorem T_X10_weigh (l0 : Option Nat) (l1 : Option Nat) (l2 : Option Nat) (l3 : Option Nat) (M : gM) (r : gM) (h : F_X10_weigh l0 l1 l2 l3 M = some r) : g_Met 3 0 0 yX10_weigh X_X10_weigh [vr l0, vr l1, vr l2, vr l3] M (none, r) :=
  g_Met_of pn_RX10 rfl (Nat.le_of_ble_eq_true rfl) (fun h => by cases h) (GW_sub [0, 1, 2, 3] rfl (T_X10_weigh_b0 r l0 l1 l2 l3 M h))
/-! ForgetHeirs$State.forget(II)V -/
theorem d_X8_forget_0 : decode cX8_forget 0 = .ok (.aload_n 0, 1) := by decide +kernel
theorem d_X8_forget_1 : decode cX8_forget 1 = .ok (.iload_n 1, 1) := by decide +kernel
theorem d_X8_forget_2 : decode cX8_forget 2 = .ok (.iload_n 2, 1) := by decide +kernel
theorem d_X8_forget_3 : decode cX8_forget 3 = .ok (.iconst 0, 1) := by decide +kernel
theorem d_X8_forget_4 : decode cX8_forget 4 = .ok (.iconst 0, 1) := by decide +kernel
theorem d_X8_forget_5 : decode cX8_forget 5 = .ok (.invokevirtual 40, 3) := by decide +kernel
theorem d_X8_forget_8 : decode cX8_forget 8 = .ok (.return_, 1) := by decide +kernel
abbrev X_X8_forget : gX := (RX8, cX8_forget, 3, none, false)
def F_X8_forget_b0 (l0 : Option Nat) (l1 : Int32) (l2 : Int32) (M : gM) : Option gM :=
  (gO 8 M l0).bind fun i1 => (F_X8_learn (some i1) l1 l2 (0 : Int32) (0 : Int32) M).bind fun M2 => some M2
theorem T_X8_forget_b0 (r : gM) (l0 : Option Nat) (l1 : Int32) (l2 : Int32) (M : gM) (h : F_X8_forget_b0 l0 l1 l2 M = some r) : GW 1 0 0 X_X8_forget 0 [(0, vr l0), (1, vi l1), (2, vi l2)] [] M (none, r) := by
  delta F_X8_forget_b0 at h
  refine GW_aload_n (X := X_X8_forget) (pc := 0) d_X8_forget_0 rfl 0 rfl ?_
  refine GW_iload_n (X := X_X8_forget) (pc := 1) d_X8_forget_1 rfl 1 rfl ?_
  refine GW_iload_n (X := X_X8_forget) (pc := 2) d_X8_forget_2 rfl 2 rfl ?_
  refine GW_iconst (X := X_X8_forget) (pc := 3) (v := 0) d_X8_forget_3 (by decide) ?_
  refine GW_iconst (X := X_X8_forget) (pc := 4) (v := 0) d_X8_forget_4 (by decide) ?_
  replace h := g_bd h
  obtain ⟨i1, hi1, h⟩ := h
  obtain ⟨rfl, ki1⟩ := g_gO hi1
  replace h := g_bd h
  obtain ⟨M2, hM2, h⟩ := h
  refine GW_callV (X := X_X8_forget) (pc := 5) (bc0 := 0) (bs0 := 0) (r := none) (M2 := M2) (c0 := 8) (T_X8_learn (some i1) l1 l2 (0 : Int32) (0 : Int32) M M2 hM2) (Nat.le_of_ble_eq_true rfl) (Nat.le_of_ble_eq_true rfl) rfl g_cok8 ki1 yc_X8_learn ⟨m_893, m_653, m_654, m_119, m_655⟩ d_X8_forget_5 rfl (st := []) rfl (Nat.le_of_ble_eq_true rfl) (Nat.le_of_ble_eq_true rfl) (Nat.le_of_ble_eq_true rfl) (st2 := []) rfl ?_
  replace h := Option.some.inj h
  subst h
  exact GW_ret (X := X_X8_forget) (pc := 8) d_X8_forget_8 rfl trivial
def F_X8_forget (l0 : Option Nat) (l1 : Int32) (l2 : Int32) (M : gM) : Option gM := F_X8_forget_b0 l0 l1 l2 M
theorem T_X8_forget (l0 : Option Nat) (l1 : Int32) (l2 : Int32) (M : gM) (r : gM) (h : F_X8_forget l0 l1 l2 M = some r) : g_Met 1 0 0 yX8_forget X_X8_forget [vr l0, vi l1, vi l2] M (none, r) :=
  g_Met_of pn_RX8 rfl (Nat.le_of_ble_eq_true rfl) (fun h => by cases h) (GW_sub [0, 1, 2] rfl (T_X8_forget_b0 r l0 l1 l2 M h))
/-! ForgetHeirs$Years.fadeAll(LForgetHeirs$House;LForgetHeirs$State;)V -/
theorem d_X10_fadeAll_0 : decode cX10_fadeAll 0 = .ok (.iconst 0, 1) := by decide +kernel
theorem d_X10_fadeAll_1 : decode cX10_fadeAll 1 = .ok (.istore_n 3, 1) := by decide +kernel
theorem d_X10_fadeAll_2 : decode cX10_fadeAll 2 = .ok (.iload_n 3, 1) := by decide +kernel
theorem d_X10_fadeAll_3 : decode cX10_fadeAll 3 = .ok (.aload_n 1, 1) := by decide +kernel
theorem d_X10_fadeAll_4 : decode cX10_fadeAll 4 = .ok (.getfield 30, 3) := by decide +kernel
theorem d_X10_fadeAll_7 : decode cX10_fadeAll 7 = .ok (.if_icmp .ge 80, 3) := by decide +kernel
theorem d_X10_fadeAll_10 : decode cX10_fadeAll 10 = .ok (.iconst 0, 1) := by decide +kernel
theorem d_X10_fadeAll_11 : decode cX10_fadeAll 11 = .ok (.istore 4, 2) := by decide +kernel
theorem d_X10_fadeAll_13 : decode cX10_fadeAll 13 = .ok (.iload 4, 2) := by decide +kernel
theorem d_X10_fadeAll_15 : decode cX10_fadeAll 15 = .ok (.aload_n 1, 1) := by decide +kernel
theorem d_X10_fadeAll_16 : decode cX10_fadeAll 16 = .ok (.getfield 54, 3) := by decide +kernel
theorem d_X10_fadeAll_19 : decode cX10_fadeAll 19 = .ok (.if_icmp .ge 62, 3) := by decide +kernel
theorem d_X10_fadeAll_22 : decode cX10_fadeAll 22 = .ok (.iload_n 3, 1) := by decide +kernel
theorem d_X10_fadeAll_23 : decode cX10_fadeAll 23 = .ok (.bipush 7, 2) := by decide +kernel
theorem d_X10_fadeAll_25 : decode cX10_fadeAll 25 = .ok (.imul, 1) := by decide +kernel
theorem d_X10_fadeAll_26 : decode cX10_fadeAll 26 = .ok (.iload 4, 2) := by decide +kernel
theorem d_X10_fadeAll_28 : decode cX10_fadeAll 28 = .ok (.iadd, 1) := by decide +kernel
theorem d_X10_fadeAll_29 : decode cX10_fadeAll 29 = .ok (.istore 5, 2) := by decide +kernel
theorem d_X10_fadeAll_31 : decode cX10_fadeAll 31 = .ok (.aload_n 0, 1) := by decide +kernel
theorem d_X10_fadeAll_32 : decode cX10_fadeAll 32 = .ok (.getfield 9, 3) := by decide +kernel
theorem d_X10_fadeAll_35 : decode cX10_fadeAll 35 = .ok (.iload 5, 2) := by decide +kernel
theorem d_X10_fadeAll_37 : decode cX10_fadeAll 37 = .ok (.iaload, 1) := by decide +kernel
theorem d_X10_fadeAll_38 : decode cX10_fadeAll 38 = .ok (.aload_n 2, 1) := by decide +kernel
theorem d_X10_fadeAll_39 : decode cX10_fadeAll 39 = .ok (.getfield 57, 3) := by decide +kernel
theorem d_X10_fadeAll_42 : decode cX10_fadeAll 42 = .ok (.iload 5, 2) := by decide +kernel
theorem d_X10_fadeAll_44 : decode cX10_fadeAll 44 = .ok (.iaload, 1) := by decide +kernel
theorem d_X10_fadeAll_45 : decode cX10_fadeAll 45 = .ok (.if_icmp .ge 23, 3) := by decide +kernel
theorem d_X10_fadeAll_48 : decode cX10_fadeAll 48 = .ok (.aload_n 2, 1) := by decide +kernel
theorem d_X10_fadeAll_49 : decode cX10_fadeAll 49 = .ok (.getfield 57, 3) := by decide +kernel
theorem d_X10_fadeAll_52 : decode cX10_fadeAll 52 = .ok (.iload 5, 2) := by decide +kernel
theorem d_X10_fadeAll_54 : decode cX10_fadeAll 54 = .ok (.dup2, 1) := by decide +kernel
theorem d_X10_fadeAll_55 : decode cX10_fadeAll 55 = .ok (.iaload, 1) := by decide +kernel
theorem d_X10_fadeAll_56 : decode cX10_fadeAll 56 = .ok (.aload_n 0, 1) := by decide +kernel
theorem d_X10_fadeAll_57 : decode cX10_fadeAll 57 = .ok (.getfield 9, 3) := by decide +kernel
theorem d_X10_fadeAll_60 : decode cX10_fadeAll 60 = .ok (.iload 5, 2) := by decide +kernel
theorem d_X10_fadeAll_62 : decode cX10_fadeAll 62 = .ok (.iaload, 1) := by decide +kernel
theorem d_X10_fadeAll_63 : decode cX10_fadeAll 63 = .ok (.isub, 1) := by decide +kernel
theorem d_X10_fadeAll_64 : decode cX10_fadeAll 64 = .ok (.iastore, 1) := by decide +kernel
theorem d_X10_fadeAll_65 : decode cX10_fadeAll 65 = .ok (.goto 10, 3) := by decide +kernel
theorem d_X10_fadeAll_68 : decode cX10_fadeAll 68 = .ok (.aload_n 2, 1) := by decide +kernel
theorem d_X10_fadeAll_69 : decode cX10_fadeAll 69 = .ok (.iload_n 3, 1) := by decide +kernel
theorem d_X10_fadeAll_70 : decode cX10_fadeAll 70 = .ok (.iload 4, 2) := by decide +kernel
theorem d_X10_fadeAll_72 : decode cX10_fadeAll 72 = .ok (.invokevirtual 83, 3) := by decide +kernel
theorem d_X10_fadeAll_75 : decode cX10_fadeAll 75 = .ok (.iinc 4 1, 3) := by decide +kernel
theorem d_X10_fadeAll_78 : decode cX10_fadeAll 78 = .ok (.goto (-65), 3) := by decide +kernel
theorem d_X10_fadeAll_81 : decode cX10_fadeAll 81 = .ok (.iinc 3 1, 3) := by decide +kernel
theorem d_X10_fadeAll_84 : decode cX10_fadeAll 84 = .ok (.goto (-82), 3) := by decide +kernel
theorem d_X10_fadeAll_87 : decode cX10_fadeAll 87 = .ok (.return_, 1) := by decide +kernel
abbrev X_X10_fadeAll : gX := (RX10, cX10_fadeAll, 6, none, false)
def F_X10_fadeAll_b75 (k2 : Option Nat → Option Nat → Option Nat → Int32 → gM → Option gM) (k13 : Option Nat → Option Nat → Option Nat → Int32 → Int32 → gM → Option gM) (l0 : Option Nat) (l1 : Option Nat) (l2 : Option Nat) (l3 : Int32) (l4 : Int32) (M : gM) : Option gM :=
  k13 l0 l1 l2 l3 (l4 + 1) M
theorem T_X10_fadeAll_b75 (k2 : Option Nat → Option Nat → Option Nat → Int32 → gM → Option gM) (k13 : Option Nat → Option Nat → Option Nat → Int32 → Int32 → gM → Option gM) (r : gM) (hk2 : ∀ (l0 : Option Nat) (l1 : Option Nat) (l2 : Option Nat) (l3 : Int32) (M : gM), k2 l0 l1 l2 l3 M = some r → GW 2 0 0 X_X10_fadeAll 2 [(0, vr l0), (1, vr l1), (2, vr l2), (3, vi l3)] [] M (none, r)) (hk13 : ∀ (l0 : Option Nat) (l1 : Option Nat) (l2 : Option Nat) (l3 : Int32) (l4 : Int32) (M : gM), k13 l0 l1 l2 l3 l4 M = some r → GW 2 0 0 X_X10_fadeAll 13 [(0, vr l0), (1, vr l1), (2, vr l2), (3, vi l3), (4, vi l4)] [] M (none, r)) (l0 : Option Nat) (l1 : Option Nat) (l2 : Option Nat) (l3 : Int32) (l4 : Int32) (M : gM) (h : F_X10_fadeAll_b75 k2 k13 l0 l1 l2 l3 l4 M = some r) : GW 2 0 0 X_X10_fadeAll 75 [(0, vr l0), (1, vr l1), (2, vr l2), (3, vi l3), (4, vi l4)] [] M (none, r) := by
  delta F_X10_fadeAll_b75 at h
  refine GW_iinc (j := 4) (X := X_X10_fadeAll) (pc := 75) d_X10_fadeAll_75 rfl (congrArg (fun z => _ + z) (by decide : Int32.ofInt 1 = (1 : Int32))) (Nat.le_of_ble_eq_true rfl) (lv2 := [(4, vi (l4 + 1)), (0, vr l0), (1, vr l1), (2, vr l2), (3, vi l3)]) rfl ?_
  refine GW_goto (X := X_X10_fadeAll) (pc := 78) 13 d_X10_fadeAll_78 (by decide) ?_
  refine GW_sub [1, 2, 3, 4, 0] rfl ?_
  exact hk13 l0 l1 l2 l3 (l4 + 1) M h
def F_X10_fadeAll_b13 (k2 : Option Nat → Option Nat → Option Nat → Int32 → gM → Option gM) (k13 : Option Nat → Option Nat → Option Nat → Int32 → Int32 → gM → Option gM) (l0 : Option Nat) (l1 : Option Nat) (l2 : Option Nat) (l3 : Int32) (l4 : Int32) (M : gM) : Option gM :=
  (gI 1 M l1 6).bind fun v1 => if v1 ≤ l4 then (k2 l0 l1 l2 (l3 + 1) M) else ((gR 10 M l0 0).bind fun v2 => (aI 20 M v2 ((l3 * (7 : Int32)) + l4)).bind fun v3 => (gR 8 M l2 1).bind fun v4 => (aI 20 M v4 ((l3 * (7 : Int32)) + l4)).bind fun v5 => if v5 ≤ v3 then ((gO 8 M l2).bind fun i6 => (F_X8_forget (some i6) l3 l4 M).bind fun M7 => F_X10_fadeAll_b75 k2 k13 l0 l1 (some i6) l3 l4 M7) else ((gR 8 M l2 1).bind fun v8 => (aI 20 M v8 ((l3 * (7 : Int32)) + l4)).bind fun v9 => (gR 10 M l0 0).bind fun v10 => (aI 20 M v10 ((l3 * (7 : Int32)) + l4)).bind fun v11 => (sI M v8 ((l3 * (7 : Int32)) + l4) (v9 - v11)).bind fun M12 => F_X10_fadeAll_b75 k2 k13 l0 l1 l2 l3 l4 M12))
set_option maxHeartbeats 1000000 in
theorem T_X10_fadeAll_b13 (k2 : Option Nat → Option Nat → Option Nat → Int32 → gM → Option gM) (k13 : Option Nat → Option Nat → Option Nat → Int32 → Int32 → gM → Option gM) (r : gM) (hk2 : ∀ (l0 : Option Nat) (l1 : Option Nat) (l2 : Option Nat) (l3 : Int32) (M : gM), k2 l0 l1 l2 l3 M = some r → GW 2 0 0 X_X10_fadeAll 2 [(0, vr l0), (1, vr l1), (2, vr l2), (3, vi l3)] [] M (none, r)) (hk13 : ∀ (l0 : Option Nat) (l1 : Option Nat) (l2 : Option Nat) (l3 : Int32) (l4 : Int32) (M : gM), k13 l0 l1 l2 l3 l4 M = some r → GW 2 0 0 X_X10_fadeAll 13 [(0, vr l0), (1, vr l1), (2, vr l2), (3, vi l3), (4, vi l4)] [] M (none, r)) (l0 : Option Nat) (l1 : Option Nat) (l2 : Option Nat) (l3 : Int32) (l4 : Int32) (M : gM) (h : F_X10_fadeAll_b13 k2 k13 l0 l1 l2 l3 l4 M = some r) : GW 2 0 0 X_X10_fadeAll 13 [(0, vr l0), (1, vr l1), (2, vr l2), (3, vi l3), (4, vi l4)] [] M (none, r) := by
  delta F_X10_fadeAll_b13 at h
  refine GW_iload (X := X_X10_fadeAll) (pc := 13) d_X10_fadeAll_13 4 rfl ?_
  refine GW_aload_n (X := X_X10_fadeAll) (pc := 15) d_X10_fadeAll_15 rfl 1 rfl ?_
  replace h := g_bd h
  obtain ⟨v1, hv1, h⟩ := h
  refine GW_getI (X := X_X10_fadeAll) (pc := 16) f_X10_54 d_X10_fadeAll_16 hv1 (Or.inl ty_1_6) ?_
  refine GW_icmp_ge (X := X_X10_fadeAll) (pc := 19) 81 d_X10_fadeAll_19 (by decide) (fun c => ?_) (fun c => ?_)
  · replace h := g_ip c h
    refine GW_iinc (j := 3) (X := X_X10_fadeAll) (pc := 81) d_X10_fadeAll_81 rfl (congrArg (fun z => _ + z) (by decide : Int32.ofInt 1 = (1 : Int32))) (Nat.le_of_ble_eq_true rfl) (lv2 := [(3, vi (l3 + 1)), (0, vr l0), (1, vr l1), (2, vr l2), (4, vi l4)]) rfl ?_
    refine GW_goto (X := X_X10_fadeAll) (pc := 84) 2 d_X10_fadeAll_84 (by decide) ?_
    refine GW_sub [1, 2, 3, 0] rfl ?_
    exact hk2 l0 l1 l2 (l3 + 1) M h
  · replace h := g_ie c h
    refine GW_iload_n (X := X_X10_fadeAll) (pc := 22) d_X10_fadeAll_22 rfl 3 rfl ?_
    refine GW_bipush (X := X_X10_fadeAll) (pc := 23) (v := 7) d_X10_fadeAll_23 (by decide) ?_
    refine GW_imul (X := X_X10_fadeAll) (pc := 25) d_X10_fadeAll_25 ?_
    refine GW_iload (X := X_X10_fadeAll) (pc := 26) d_X10_fadeAll_26 4 rfl ?_
    refine GW_iadd (X := X_X10_fadeAll) (pc := 28) d_X10_fadeAll_28 ?_
    refine GW_istore (X := X_X10_fadeAll) (pc := 29) d_X10_fadeAll_29 (Nat.le_of_ble_eq_true rfl) (lv2 := [(5, vi ((l3 * (7 : Int32)) + l4)), (0, vr l0), (1, vr l1), (2, vr l2), (3, vi l3), (4, vi l4)]) rfl ?_
    refine GW_aload_n (X := X_X10_fadeAll) (pc := 31) d_X10_fadeAll_31 rfl 1 rfl ?_
    replace h := g_bd h
    obtain ⟨v2, hv2, h⟩ := h
    refine GW_getR (X := X_X10_fadeAll) (pc := 32) f_X10_9 d_X10_fadeAll_32 hv2 (Or.inr ⟨_, ty_10_0⟩) ?_
    refine GW_iload (X := X_X10_fadeAll) (pc := 35) d_X10_fadeAll_35 0 rfl ?_
    replace h := g_bd h
    obtain ⟨v3, hv3, h⟩ := h
    refine GW_iald (X := X_X10_fadeAll) (pc := 37) d_X10_fadeAll_37 hv3 ?_
    refine GW_aload_n (X := X_X10_fadeAll) (pc := 38) d_X10_fadeAll_38 rfl 3 rfl ?_
    replace h := g_bd h
    obtain ⟨v4, hv4, h⟩ := h
    refine GW_getR (X := X_X10_fadeAll) (pc := 39) f_X10_57 d_X10_fadeAll_39 hv4 (Or.inr ⟨_, ty_8_1⟩) ?_
    refine GW_iload (X := X_X10_fadeAll) (pc := 42) d_X10_fadeAll_42 0 rfl ?_
    replace h := g_bd h
    obtain ⟨v5, hv5, h⟩ := h
    refine GW_iald (X := X_X10_fadeAll) (pc := 44) d_X10_fadeAll_44 hv5 ?_
    refine GW_icmp_ge (X := X_X10_fadeAll) (pc := 45) 68 d_X10_fadeAll_45 (by decide) (fun c => ?_) (fun c => ?_)
    · replace h := g_ip c h
      refine GW_aload_n (X := X_X10_fadeAll) (pc := 68) d_X10_fadeAll_68 rfl 3 rfl ?_
      refine GW_iload_n (X := X_X10_fadeAll) (pc := 69) d_X10_fadeAll_69 rfl 4 rfl ?_
      refine GW_iload (X := X_X10_fadeAll) (pc := 70) d_X10_fadeAll_70 5 rfl ?_
      replace h := g_bd h
      obtain ⟨i6, hi6, h⟩ := h
      obtain ⟨rfl, ki6⟩ := g_gO hi6
      replace h := g_bd h
      obtain ⟨M7, hM7, h⟩ := h
      refine GW_callV (X := X_X10_fadeAll) (pc := 72) (bc0 := 0) (bs0 := 0) (r := none) (M2 := M7) (c0 := 8) (T_X8_forget (some i6) l3 l4 M M7 hM7) (Nat.le_of_ble_eq_true rfl) (Nat.le_of_ble_eq_true rfl) rfl g_cok8 ki6 yc_X8_forget ⟨m_889, m_890, m_891, m_119, m_892⟩ d_X10_fadeAll_72 rfl (st := []) rfl (Nat.le_of_ble_eq_true rfl) (Nat.le_of_ble_eq_true rfl) (Nat.le_of_ble_eq_true rfl) (st2 := []) rfl ?_
      refine GW_sub [1, 2, 3, 4, 5] rfl ?_
      exact T_X10_fadeAll_b75 k2 k13 r hk2 hk13 l0 l1 (some i6) l3 l4 M7 h
    · replace h := g_ie c h
      refine GW_aload_n (X := X_X10_fadeAll) (pc := 48) d_X10_fadeAll_48 rfl 3 rfl ?_
      replace h := g_bd h
      obtain ⟨v8, hv8, h⟩ := h
      refine GW_getR (X := X_X10_fadeAll) (pc := 49) f_X10_57 d_X10_fadeAll_49 hv8 (Or.inr ⟨_, ty_8_1⟩) ?_
      refine GW_iload (X := X_X10_fadeAll) (pc := 52) d_X10_fadeAll_52 0 rfl ?_
      refine GW_dup2 (X := X_X10_fadeAll) (pc := 54) d_X10_fadeAll_54 rfl rfl ?_
      replace h := g_bd h
      obtain ⟨v9, hv9, h⟩ := h
      refine GW_iald (X := X_X10_fadeAll) (pc := 55) d_X10_fadeAll_55 hv9 ?_
      refine GW_aload_n (X := X_X10_fadeAll) (pc := 56) d_X10_fadeAll_56 rfl 1 rfl ?_
      replace h := g_bd h
      obtain ⟨v10, hv10, h⟩ := h
      refine GW_getR (X := X_X10_fadeAll) (pc := 57) f_X10_9 d_X10_fadeAll_57 hv10 (Or.inr ⟨_, ty_10_0⟩) ?_
      refine GW_iload (X := X_X10_fadeAll) (pc := 60) d_X10_fadeAll_60 0 rfl ?_
      replace h := g_bd h
      obtain ⟨v11, hv11, h⟩ := h
      refine GW_iald (X := X_X10_fadeAll) (pc := 62) d_X10_fadeAll_62 hv11 ?_
      refine GW_isub (X := X_X10_fadeAll) (pc := 63) d_X10_fadeAll_63 ?_
      replace h := g_bd h
      obtain ⟨M12, hM12, h⟩ := h
      refine GW_iast (X := X_X10_fadeAll) (pc := 64) d_X10_fadeAll_64 hM12 ?_
      refine GW_goto (X := X_X10_fadeAll) (pc := 65) 75 d_X10_fadeAll_65 (by decide) ?_
      refine GW_sub [1, 2, 3, 4, 5] rfl ?_
      exact T_X10_fadeAll_b75 k2 k13 r hk2 hk13 l0 l1 l2 l3 l4 M12 h
def F_X10_fadeAll_L13 (k2 : Option Nat → Option Nat → Option Nat → Int32 → gM → Option gM) : Nat → Option Nat → Option Nat → Option Nat → Int32 → Int32 → gM → Option gM
  | 0 => fun _ _ _ _ _ _ => none
  | n + 1 => F_X10_fadeAll_b13 k2 (F_X10_fadeAll_L13 k2 n)
theorem T_X10_fadeAll_L13 (k2 : Option Nat → Option Nat → Option Nat → Int32 → gM → Option gM) (r : gM) (hk2 : ∀ (l0 : Option Nat) (l1 : Option Nat) (l2 : Option Nat) (l3 : Int32) (M : gM), k2 l0 l1 l2 l3 M = some r → GW 2 0 0 X_X10_fadeAll 2 [(0, vr l0), (1, vr l1), (2, vr l2), (3, vi l3)] [] M (none, r)) : ∀ (n : Nat) (l0 : Option Nat) (l1 : Option Nat) (l2 : Option Nat) (l3 : Int32) (l4 : Int32) (M : gM), F_X10_fadeAll_L13 k2 n l0 l1 l2 l3 l4 M = some r → GW 2 0 0 X_X10_fadeAll 13 [(0, vr l0), (1, vr l1), (2, vr l2), (3, vi l3), (4, vi l4)] [] M (none, r) := by
  intro n
  induction n with
  | zero => intro l0 l1 l2 l3 l4 M h; exact g_no h
  | succ n ih => intro l0 l1 l2 l3 l4 M h; exact T_X10_fadeAll_b13 k2 (F_X10_fadeAll_L13 k2 n) r hk2 ih l0 l1 l2 l3 l4 M h
def F_X10_fadeAll_b2 (k2 : Option Nat → Option Nat → Option Nat → Int32 → gM → Option gM) (l0 : Option Nat) (l1 : Option Nat) (l2 : Option Nat) (l3 : Int32) (M : gM) : Option gM :=
  (gI 1 M l1 7).bind fun v1 => if v1 ≤ l3 then (some M) else (F_X10_fadeAll_L13 k2 g_fuel l0 l1 l2 l3 (0 : Int32) M)
theorem T_X10_fadeAll_b2 (k2 : Option Nat → Option Nat → Option Nat → Int32 → gM → Option gM) (r : gM) (hk2 : ∀ (l0 : Option Nat) (l1 : Option Nat) (l2 : Option Nat) (l3 : Int32) (M : gM), k2 l0 l1 l2 l3 M = some r → GW 2 0 0 X_X10_fadeAll 2 [(0, vr l0), (1, vr l1), (2, vr l2), (3, vi l3)] [] M (none, r)) (l0 : Option Nat) (l1 : Option Nat) (l2 : Option Nat) (l3 : Int32) (M : gM) (h : F_X10_fadeAll_b2 k2 l0 l1 l2 l3 M = some r) : GW 2 0 0 X_X10_fadeAll 2 [(0, vr l0), (1, vr l1), (2, vr l2), (3, vi l3)] [] M (none, r) := by
  delta F_X10_fadeAll_b2 at h
  refine GW_iload_n (X := X_X10_fadeAll) (pc := 2) d_X10_fadeAll_2 rfl 3 rfl ?_
  refine GW_aload_n (X := X_X10_fadeAll) (pc := 3) d_X10_fadeAll_3 rfl 1 rfl ?_
  replace h := g_bd h
  obtain ⟨v1, hv1, h⟩ := h
  refine GW_getI (X := X_X10_fadeAll) (pc := 4) f_X10_30 d_X10_fadeAll_4 hv1 (Or.inl ty_1_7) ?_
  refine GW_icmp_ge (X := X_X10_fadeAll) (pc := 7) 87 d_X10_fadeAll_7 (by decide) (fun c => ?_) (fun c => ?_)
  · replace h := g_ip c h
    replace h := Option.some.inj h
    subst h
    exact GW_ret (X := X_X10_fadeAll) (pc := 87) d_X10_fadeAll_87 rfl trivial
  · replace h := g_ie c h
    refine GW_iconst (X := X_X10_fadeAll) (pc := 10) (v := 0) d_X10_fadeAll_10 (by decide) ?_
    refine GW_istore (X := X_X10_fadeAll) (pc := 11) d_X10_fadeAll_11 (Nat.le_of_ble_eq_true rfl) (lv2 := [(4, vi (0 : Int32)), (0, vr l0), (1, vr l1), (2, vr l2), (3, vi l3)]) rfl ?_
    refine GW_sub [1, 2, 3, 4, 0] rfl ?_
    exact T_X10_fadeAll_L13 k2 r hk2 g_fuel l0 l1 l2 l3 (0 : Int32) M h
def F_X10_fadeAll_L2 : Nat → Option Nat → Option Nat → Option Nat → Int32 → gM → Option gM
  | 0 => fun _ _ _ _ _ => none
  | n + 1 => F_X10_fadeAll_b2 (F_X10_fadeAll_L2 n)
theorem T_X10_fadeAll_L2 (r : gM) : ∀ (n : Nat) (l0 : Option Nat) (l1 : Option Nat) (l2 : Option Nat) (l3 : Int32) (M : gM), F_X10_fadeAll_L2 n l0 l1 l2 l3 M = some r → GW 2 0 0 X_X10_fadeAll 2 [(0, vr l0), (1, vr l1), (2, vr l2), (3, vi l3)] [] M (none, r) := by
  intro n
  induction n with
  | zero => intro l0 l1 l2 l3 M h; exact g_no h
  | succ n ih => intro l0 l1 l2 l3 M h; exact T_X10_fadeAll_b2 (F_X10_fadeAll_L2 n) r ih l0 l1 l2 l3 M h
def F_X10_fadeAll_b0 (l0 : Option Nat) (l1 : Option Nat) (l2 : Option Nat) (M : gM) : Option gM :=
  F_X10_fadeAll_L2 g_fuel l0 l1 l2 (0 : Int32) M
theorem T_X10_fadeAll_b0 (r : gM) (l0 : Option Nat) (l1 : Option Nat) (l2 : Option Nat) (M : gM) (h : F_X10_fadeAll_b0 l0 l1 l2 M = some r) : GW 2 0 0 X_X10_fadeAll 0 [(0, vr l0), (1, vr l1), (2, vr l2)] [] M (none, r) := by
  delta F_X10_fadeAll_b0 at h
  refine GW_iconst (X := X_X10_fadeAll) (pc := 0) (v := 0) d_X10_fadeAll_0 (by decide) ?_
  refine GW_istore_n (X := X_X10_fadeAll) (pc := 1) d_X10_fadeAll_1 rfl (Nat.le_of_ble_eq_true rfl) (lv2 := [(3, vi (0 : Int32)), (0, vr l0), (1, vr l1), (2, vr l2)]) rfl ?_
  refine GW_sub [1, 2, 3, 0] rfl ?_
  exact T_X10_fadeAll_L2 r g_fuel l0 l1 l2 (0 : Int32) M h
def F_X10_fadeAll (l0 : Option Nat) (l1 : Option Nat) (l2 : Option Nat) (M : gM) : Option gM := F_X10_fadeAll_b0 l0 l1 l2 M
theorem T_X10_fadeAll (l0 : Option Nat) (l1 : Option Nat) (l2 : Option Nat) (M : gM) (r : gM) (h : F_X10_fadeAll l0 l1 l2 M = some r) : g_Met 2 0 0 yX10_fadeAll X_X10_fadeAll [vr l0, vr l1, vr l2] M (none, r) :=
  g_Met_of pn_RX10 rfl (Nat.le_of_ble_eq_true rfl) (fun h => by cases h) (GW_sub [0, 1, 2] rfl (T_X10_fadeAll_b0 r l0 l1 l2 M h))
/-! ForgetHeirs$Years.strikeForgotten(LForgetHeirs$House;LForgetHeirs$State;)I -/
theorem d_X10_strikeForgotten_0 : decode cX10_strikeForgotten 0 = .ok (.iconst 0, 1) := by decide +kernel
theorem d_X10_strikeForgotten_1 : decode cX10_strikeForgotten 1 = .ok (.istore_n 3, 1) := by decide +kernel
theorem d_X10_strikeForgotten_2 : decode cX10_strikeForgotten 2 = .ok (.iconst 0, 1) := by decide +kernel
theorem d_X10_strikeForgotten_3 : decode cX10_strikeForgotten 3 = .ok (.istore 4, 2) := by decide +kernel
theorem d_X10_strikeForgotten_5 : decode cX10_strikeForgotten 5 = .ok (.iload 4, 2) := by decide +kernel
theorem d_X10_strikeForgotten_7 : decode cX10_strikeForgotten 7 = .ok (.aload_n 1, 1) := by decide +kernel
theorem d_X10_strikeForgotten_8 : decode cX10_strikeForgotten 8 = .ok (.getfield 54, 3) := by decide +kernel
theorem d_X10_strikeForgotten_11 : decode cX10_strikeForgotten 11 = .ok (.if_icmp .ge 44, 3) := by decide +kernel
theorem d_X10_strikeForgotten_14 : decode cX10_strikeForgotten 14 = .ok (.aload_n 2, 1) := by decide +kernel
theorem d_X10_strikeForgotten_15 : decode cX10_strikeForgotten 15 = .ok (.getfield 87, 3) := by decide +kernel
theorem d_X10_strikeForgotten_18 : decode cX10_strikeForgotten 18 = .ok (.iload 4, 2) := by decide +kernel
theorem d_X10_strikeForgotten_20 : decode cX10_strikeForgotten 20 = .ok (.iaload, 1) := by decide +kernel
theorem d_X10_strikeForgotten_21 : decode cX10_strikeForgotten 21 = .ok (.iconst (-1), 1) := by decide +kernel
theorem d_X10_strikeForgotten_22 : decode cX10_strikeForgotten 22 = .ok (.if_icmp .ne 27, 3) := by decide +kernel
theorem d_X10_strikeForgotten_25 : decode cX10_strikeForgotten 25 = .ok (.aload_n 2, 1) := by decide +kernel
theorem d_X10_strikeForgotten_26 : decode cX10_strikeForgotten 26 = .ok (.aload_n 1, 1) := by decide +kernel
theorem d_X10_strikeForgotten_27 : decode cX10_strikeForgotten 27 = .ok (.iload 4, 2) := by decide +kernel
theorem d_X10_strikeForgotten_29 : decode cX10_strikeForgotten 29 = .ok (.invokevirtual 90, 3) := by decide +kernel
theorem d_X10_strikeForgotten_32 : decode cX10_strikeForgotten 32 = .ok (.ifCond .ne 17, 3) := by decide +kernel
theorem d_X10_strikeForgotten_35 : decode cX10_strikeForgotten 35 = .ok (.aload_n 2, 1) := by decide +kernel
theorem d_X10_strikeForgotten_36 : decode cX10_strikeForgotten 36 = .ok (.getfield 87, 3) := by decide +kernel
theorem d_X10_strikeForgotten_39 : decode cX10_strikeForgotten 39 = .ok (.iload 4, 2) := by decide +kernel
theorem d_X10_strikeForgotten_41 : decode cX10_strikeForgotten 41 = .ok (.aload_n 2, 1) := by decide +kernel
theorem d_X10_strikeForgotten_42 : decode cX10_strikeForgotten 42 = .ok (.getfield 51, 3) := by decide +kernel
theorem d_X10_strikeForgotten_45 : decode cX10_strikeForgotten 45 = .ok (.iastore, 1) := by decide +kernel
theorem d_X10_strikeForgotten_46 : decode cX10_strikeForgotten 46 = .ok (.iinc 3 1, 3) := by decide +kernel
theorem d_X10_strikeForgotten_49 : decode cX10_strikeForgotten 49 = .ok (.iinc 4 1, 3) := by decide +kernel
theorem d_X10_strikeForgotten_52 : decode cX10_strikeForgotten 52 = .ok (.goto (-47), 3) := by decide +kernel
theorem d_X10_strikeForgotten_55 : decode cX10_strikeForgotten 55 = .ok (.iload_n 3, 1) := by decide +kernel
theorem d_X10_strikeForgotten_56 : decode cX10_strikeForgotten 56 = .ok (.ireturn, 1) := by decide +kernel
abbrev X_X10_strikeForgotten : gX := (RX10, cX10_strikeForgotten, 5, (some .int), false)
def F_X10_strikeForgotten_b49 (k5 : Option Nat → Option Nat → Int32 → Int32 → gM → Option (Int32 × gM)) (l1 : Option Nat) (l2 : Option Nat) (l3 : Int32) (l4 : Int32) (M : gM) : Option (Int32 × gM) :=
  k5 l1 l2 l3 (l4 + 1) M
theorem T_X10_strikeForgotten_b49 (k5 : Option Nat → Option Nat → Int32 → Int32 → gM → Option (Int32 × gM)) (r : (Int32 × gM)) (hk5 : ∀ (l1 : Option Nat) (l2 : Option Nat) (l3 : Int32) (l4 : Int32) (M : gM), k5 l1 l2 l3 l4 M = some r → GW 2 0 0 X_X10_strikeForgotten 5 [(1, vr l1), (2, vr l2), (3, vi l3), (4, vi l4)] [] M (some (vi r.1), r.2)) (l1 : Option Nat) (l2 : Option Nat) (l3 : Int32) (l4 : Int32) (M : gM) (h : F_X10_strikeForgotten_b49 k5 l1 l2 l3 l4 M = some r) : GW 2 0 0 X_X10_strikeForgotten 49 [(1, vr l1), (2, vr l2), (3, vi l3), (4, vi l4)] [] M (some (vi r.1), r.2) := by
  delta F_X10_strikeForgotten_b49 at h
  refine GW_iinc (j := 3) (X := X_X10_strikeForgotten) (pc := 49) d_X10_strikeForgotten_49 rfl (congrArg (fun z => _ + z) (by decide : Int32.ofInt 1 = (1 : Int32))) (Nat.le_of_ble_eq_true rfl) (lv2 := [(4, vi (l4 + 1)), (1, vr l1), (2, vr l2), (3, vi l3)]) rfl ?_
  refine GW_goto (X := X_X10_strikeForgotten) (pc := 52) 5 d_X10_strikeForgotten_52 (by decide) ?_
  refine GW_sub [1, 2, 3, 0] rfl ?_
  exact hk5 l1 l2 l3 (l4 + 1) M h
def F_X10_strikeForgotten_b5 (k5 : Option Nat → Option Nat → Int32 → Int32 → gM → Option (Int32 × gM)) (l1 : Option Nat) (l2 : Option Nat) (l3 : Int32) (l4 : Int32) (M : gM) : Option (Int32 × gM) :=
  (gI 1 M l1 6).bind fun v1 => if v1 ≤ l4 then (some (l3, M)) else ((gR 8 M l2 3).bind fun v2 => (aI 20 M v2 l4).bind fun v3 => if v3 = (-1 : Int32) then ((gO 8 M l2).bind fun i4 => (F_X8_holdersOf (some i4) l1 l4 M).bind fun v5 => if v5 = 0 then ((gR 8 M (some i4) 3).bind fun v6 => (gI 8 M (some i4) 5).bind fun v7 => (sI M v6 l4 v7).bind fun M8 => F_X10_strikeForgotten_b49 k5 l1 (some i4) (l3 + 1) l4 M8) else (F_X10_strikeForgotten_b49 k5 l1 (some i4) l3 l4 M)) else (F_X10_strikeForgotten_b49 k5 l1 l2 l3 l4 M))
set_option maxHeartbeats 1000000 in
theorem T_X10_strikeForgotten_b5 (k5 : Option Nat → Option Nat → Int32 → Int32 → gM → Option (Int32 × gM)) (r : (Int32 × gM)) (hk5 : ∀ (l1 : Option Nat) (l2 : Option Nat) (l3 : Int32) (l4 : Int32) (M : gM), k5 l1 l2 l3 l4 M = some r → GW 2 0 0 X_X10_strikeForgotten 5 [(1, vr l1), (2, vr l2), (3, vi l3), (4, vi l4)] [] M (some (vi r.1), r.2)) (l1 : Option Nat) (l2 : Option Nat) (l3 : Int32) (l4 : Int32) (M : gM) (h : F_X10_strikeForgotten_b5 k5 l1 l2 l3 l4 M = some r) : GW 2 0 0 X_X10_strikeForgotten 5 [(1, vr l1), (2, vr l2), (3, vi l3), (4, vi l4)] [] M (some (vi r.1), r.2) := by
  delta F_X10_strikeForgotten_b5 at h
  refine GW_iload (X := X_X10_strikeForgotten) (pc := 5) d_X10_strikeForgotten_5 3 rfl ?_
  refine GW_aload_n (X := X_X10_strikeForgotten) (pc := 7) d_X10_strikeForgotten_7 rfl 0 rfl ?_
  replace h := g_bd h
  obtain ⟨v1, hv1, h⟩ := h
  refine GW_getI (X := X_X10_strikeForgotten) (pc := 8) f_X10_54 d_X10_strikeForgotten_8 hv1 (Or.inl ty_1_6) ?_
  refine GW_icmp_ge (X := X_X10_strikeForgotten) (pc := 11) 55 d_X10_strikeForgotten_11 (by decide) (fun c => ?_) (fun c => ?_)
  · replace h := g_ip c h
    refine GW_iload_n (X := X_X10_strikeForgotten) (pc := 55) d_X10_strikeForgotten_55 rfl 2 rfl ?_
    replace h := Option.some.inj h
    subst h
    exact GW_ret (X := X_X10_strikeForgotten) (pc := 56) d_X10_strikeForgotten_56 rfl trivial
  · replace h := g_ie c h
    refine GW_aload_n (X := X_X10_strikeForgotten) (pc := 14) d_X10_strikeForgotten_14 rfl 1 rfl ?_
    replace h := g_bd h
    obtain ⟨v2, hv2, h⟩ := h
    refine GW_getR (X := X_X10_strikeForgotten) (pc := 15) f_X10_87 d_X10_strikeForgotten_15 hv2 (Or.inr ⟨_, ty_8_3⟩) ?_
    refine GW_iload (X := X_X10_strikeForgotten) (pc := 18) d_X10_strikeForgotten_18 3 rfl ?_
    replace h := g_bd h
    obtain ⟨v3, hv3, h⟩ := h
    refine GW_iald (X := X_X10_strikeForgotten) (pc := 20) d_X10_strikeForgotten_20 hv3 ?_
    refine GW_iconst (X := X_X10_strikeForgotten) (pc := 21) (v := -1) d_X10_strikeForgotten_21 (by decide) ?_
    refine GW_icmp_ne (X := X_X10_strikeForgotten) (pc := 22) 49 d_X10_strikeForgotten_22 (by decide) (fun c => ?_) (fun c => ?_)
    · replace h := g_ie c h
      exact T_X10_strikeForgotten_b49 k5 r hk5 l1 l2 l3 l4 M h
    · replace h := g_ip c h
      refine GW_aload_n (X := X_X10_strikeForgotten) (pc := 25) d_X10_strikeForgotten_25 rfl 1 rfl ?_
      refine GW_aload_n (X := X_X10_strikeForgotten) (pc := 26) d_X10_strikeForgotten_26 rfl 0 rfl ?_
      refine GW_iload (X := X_X10_strikeForgotten) (pc := 27) d_X10_strikeForgotten_27 3 rfl ?_
      replace h := g_bd h
      obtain ⟨i4, hi4, h⟩ := h
      obtain ⟨rfl, ki4⟩ := g_gO hi4
      replace h := g_bd h
      obtain ⟨v5, hv5, h⟩ := h
      refine GW_callV (X := X_X10_strikeForgotten) (pc := 29) (bc0 := 0) (bs0 := 0) (r := some (vi v5)) (M2 := M) (c0 := 8) (T_X8_holdersOf (some i4) l1 l4 M v5 hv5) (Nat.le_of_ble_eq_true rfl) (Nat.le_of_ble_eq_true rfl) rfl g_cok8 ki4 yc_X8_holdersOf ⟨m_899, m_782, m_783, m_119, m_784⟩ d_X10_strikeForgotten_29 rfl (st := []) rfl (Nat.le_of_ble_eq_true rfl) (Nat.le_of_ble_eq_true rfl) (Nat.le_of_ble_eq_true rfl) (st2 := [vi v5]) rfl ?_
      refine GW_if_ne (X := X_X10_strikeForgotten) (pc := 32) 49 d_X10_strikeForgotten_32 (by decide) (fun c => ?_) (fun c => ?_)
      · replace h := g_ie c h
        exact T_X10_strikeForgotten_b49 k5 r hk5 l1 (some i4) l3 l4 M h
      · replace h := g_ip c h
        refine GW_aload_n (X := X_X10_strikeForgotten) (pc := 35) d_X10_strikeForgotten_35 rfl 1 rfl ?_
        replace h := g_bd h
        obtain ⟨v6, hv6, h⟩ := h
        refine GW_getR (X := X_X10_strikeForgotten) (pc := 36) f_X10_87 d_X10_strikeForgotten_36 hv6 (Or.inr ⟨_, ty_8_3⟩) ?_
        refine GW_iload (X := X_X10_strikeForgotten) (pc := 39) d_X10_strikeForgotten_39 3 rfl ?_
        refine GW_aload_n (X := X_X10_strikeForgotten) (pc := 41) d_X10_strikeForgotten_41 rfl 1 rfl ?_
        replace h := g_bd h
        obtain ⟨v7, hv7, h⟩ := h
        refine GW_getI (X := X_X10_strikeForgotten) (pc := 42) f_X10_51 d_X10_strikeForgotten_42 hv7 (Or.inl ty_8_5) ?_
        replace h := g_bd h
        obtain ⟨M8, hM8, h⟩ := h
        refine GW_iast (X := X_X10_strikeForgotten) (pc := 45) d_X10_strikeForgotten_45 hM8 ?_
        refine GW_iinc (j := 2) (X := X_X10_strikeForgotten) (pc := 46) d_X10_strikeForgotten_46 rfl (congrArg (fun z => _ + z) (by decide : Int32.ofInt 1 = (1 : Int32))) (Nat.le_of_ble_eq_true rfl) (lv2 := [(3, vi (l3 + 1)), (1, vr l1), (2, vr (some i4)), (4, vi l4)]) rfl ?_
        refine GW_sub [1, 2, 0, 3] rfl ?_
        exact T_X10_strikeForgotten_b49 k5 r hk5 l1 (some i4) (l3 + 1) l4 M8 h
def F_X10_strikeForgotten_L5 : Nat → Option Nat → Option Nat → Int32 → Int32 → gM → Option (Int32 × gM)
  | 0 => fun _ _ _ _ _ => none
  | n + 1 => F_X10_strikeForgotten_b5 (F_X10_strikeForgotten_L5 n)
theorem T_X10_strikeForgotten_L5 (r : (Int32 × gM)) : ∀ (n : Nat) (l1 : Option Nat) (l2 : Option Nat) (l3 : Int32) (l4 : Int32) (M : gM), F_X10_strikeForgotten_L5 n l1 l2 l3 l4 M = some r → GW 2 0 0 X_X10_strikeForgotten 5 [(1, vr l1), (2, vr l2), (3, vi l3), (4, vi l4)] [] M (some (vi r.1), r.2) := by
  intro n
  induction n with
  | zero => intro l1 l2 l3 l4 M h; exact g_no h
  | succ n ih => intro l1 l2 l3 l4 M h; exact T_X10_strikeForgotten_b5 (F_X10_strikeForgotten_L5 n) r ih l1 l2 l3 l4 M h
def F_X10_strikeForgotten_b0 (l1 : Option Nat) (l2 : Option Nat) (M : gM) : Option (Int32 × gM) :=
  F_X10_strikeForgotten_L5 g_fuel l1 l2 (0 : Int32) (0 : Int32) M
theorem T_X10_strikeForgotten_b0 (r : (Int32 × gM)) (l1 : Option Nat) (l2 : Option Nat) (M : gM) (h : F_X10_strikeForgotten_b0 l1 l2 M = some r) : GW 2 0 0 X_X10_strikeForgotten 0 [(1, vr l1), (2, vr l2)] [] M (some (vi r.1), r.2) := by
  delta F_X10_strikeForgotten_b0 at h
  refine GW_iconst (X := X_X10_strikeForgotten) (pc := 0) (v := 0) d_X10_strikeForgotten_0 (by decide) ?_
  refine GW_istore_n (X := X_X10_strikeForgotten) (pc := 1) d_X10_strikeForgotten_1 rfl (Nat.le_of_ble_eq_true rfl) (lv2 := [(3, vi (0 : Int32)), (1, vr l1), (2, vr l2)]) rfl ?_
  refine GW_iconst (X := X_X10_strikeForgotten) (pc := 2) (v := 0) d_X10_strikeForgotten_2 (by decide) ?_
  refine GW_istore (X := X_X10_strikeForgotten) (pc := 3) d_X10_strikeForgotten_3 (Nat.le_of_ble_eq_true rfl) (lv2 := [(4, vi (0 : Int32)), (3, vi (0 : Int32)), (1, vr l1), (2, vr l2)]) rfl ?_
  refine GW_sub [2, 3, 1, 0] rfl ?_
  exact T_X10_strikeForgotten_L5 r g_fuel l1 l2 (0 : Int32) (0 : Int32) M h
def F_X10_strikeForgotten (l0 : Option Nat) (l1 : Option Nat) (l2 : Option Nat) (M : gM) : Option (Int32 × gM) := F_X10_strikeForgotten_b0 l1 l2 M
theorem T_X10_strikeForgotten (l0 : Option Nat) (l1 : Option Nat) (l2 : Option Nat) (M : gM) (r : (Int32 × gM)) (h : F_X10_strikeForgotten l0 l1 l2 M = some r) : g_Met 2 0 0 yX10_strikeForgotten X_X10_strikeForgotten [vr l0, vr l1, vr l2] M (some (vi r.1), r.2) :=
  g_Met_of pn_RX10 rfl (Nat.le_of_ble_eq_true rfl) (fun h => by cases h) (GW_sub [1, 2] rfl (T_X10_strikeForgotten_b0 r l1 l2 M h))
/-! ForgetHeirs$Years.pass(LForgetHeirs$House;LForgetHeirs$State;LForgetHeirs$Rule;)I -/
theorem d_X10_pass_0 : decode cX10_pass 0 = .ok (.aload_n 0, 1) := by decide +kernel
theorem d_X10_pass_1 : decode cX10_pass 1 = .ok (.aload_n 1, 1) := by decide +kernel
theorem d_X10_pass_2 : decode cX10_pass 2 = .ok (.aload_n 2, 1) := by decide +kernel
theorem d_X10_pass_3 : decode cX10_pass 3 = .ok (.aload_n 3, 1) := by decide +kernel
theorem d_X10_pass_4 : decode cX10_pass 4 = .ok (.invokevirtual 22, 3) := by decide +kernel
theorem d_X10_pass_7 : decode cX10_pass 7 = .ok (.aload_n 0, 1) := by decide +kernel
theorem d_X10_pass_8 : decode cX10_pass 8 = .ok (.aload_n 1, 1) := by decide +kernel
theorem d_X10_pass_9 : decode cX10_pass 9 = .ok (.aload_n 2, 1) := by decide +kernel
theorem d_X10_pass_10 : decode cX10_pass 10 = .ok (.invokevirtual 26, 3) := by decide +kernel
theorem d_X10_pass_13 : decode cX10_pass 13 = .ok (.iconst 0, 1) := by decide +kernel
theorem d_X10_pass_14 : decode cX10_pass 14 = .ok (.istore 4, 2) := by decide +kernel
theorem d_X10_pass_16 : decode cX10_pass 16 = .ok (.iload 4, 2) := by decide +kernel
theorem d_X10_pass_18 : decode cX10_pass 18 = .ok (.aload_n 1, 1) := by decide +kernel
theorem d_X10_pass_19 : decode cX10_pass 19 = .ok (.getfield 30, 3) := by decide +kernel
theorem d_X10_pass_22 : decode cX10_pass 22 = .ok (.if_icmp .ge 30, 3) := by decide +kernel
theorem d_X10_pass_25 : decode cX10_pass 25 = .ok (.aload_n 2, 1) := by decide +kernel
theorem d_X10_pass_26 : decode cX10_pass 26 = .ok (.getfield 36, 3) := by decide +kernel
theorem d_X10_pass_29 : decode cX10_pass 29 = .ok (.iload 4, 2) := by decide +kernel
theorem d_X10_pass_31 : decode cX10_pass 31 = .ok (.bipush 99, 2) := by decide +kernel
theorem d_X10_pass_33 : decode cX10_pass 33 = .ok (.aload_n 2, 1) := by decide +kernel
theorem d_X10_pass_34 : decode cX10_pass 34 = .ok (.getfield 36, 3) := by decide +kernel
theorem d_X10_pass_37 : decode cX10_pass 37 = .ok (.iload 4, 2) := by decide +kernel
theorem d_X10_pass_39 : decode cX10_pass 39 = .ok (.iaload, 1) := by decide +kernel
theorem d_X10_pass_40 : decode cX10_pass 40 = .ok (.iconst 1, 1) := by decide +kernel
theorem d_X10_pass_41 : decode cX10_pass 41 = .ok (.iadd, 1) := by decide +kernel
theorem d_X10_pass_42 : decode cX10_pass 42 = .ok (.invokestatic 41, 3) := by decide +kernel
theorem d_X10_pass_45 : decode cX10_pass 45 = .ok (.iastore, 1) := by decide +kernel
theorem d_X10_pass_46 : decode cX10_pass 46 = .ok (.iinc 4 1, 3) := by decide +kernel
theorem d_X10_pass_49 : decode cX10_pass 49 = .ok (.goto (-33), 3) := by decide +kernel
theorem d_X10_pass_52 : decode cX10_pass 52 = .ok (.aload_n 0, 1) := by decide +kernel
theorem d_X10_pass_53 : decode cX10_pass 53 = .ok (.aload_n 1, 1) := by decide +kernel
theorem d_X10_pass_54 : decode cX10_pass 54 = .ok (.aload_n 2, 1) := by decide +kernel
theorem d_X10_pass_55 : decode cX10_pass 55 = .ok (.invokevirtual 47, 3) := by decide +kernel
theorem d_X10_pass_58 : decode cX10_pass 58 = .ok (.istore 4, 2) := by decide +kernel
theorem d_X10_pass_60 : decode cX10_pass 60 = .ok (.aload_n 2, 1) := by decide +kernel
theorem d_X10_pass_61 : decode cX10_pass 61 = .ok (.dup, 1) := by decide +kernel
theorem d_X10_pass_62 : decode cX10_pass 62 = .ok (.getfield 51, 3) := by decide +kernel
theorem d_X10_pass_65 : decode cX10_pass 65 = .ok (.iconst 1, 1) := by decide +kernel
theorem d_X10_pass_66 : decode cX10_pass 66 = .ok (.iadd, 1) := by decide +kernel
theorem d_X10_pass_67 : decode cX10_pass 67 = .ok (.putfield 51, 3) := by decide +kernel
theorem d_X10_pass_70 : decode cX10_pass 70 = .ok (.iload 4, 2) := by decide +kernel
theorem d_X10_pass_72 : decode cX10_pass 72 = .ok (.ireturn, 1) := by decide +kernel
abbrev X_X10_pass : gX := (RX10, cX10_pass, 5, (some .int), false)
def F_X10_pass_b16 (k16 : Option Nat → Option Nat → Option Nat → Int32 → gM → Option (Int32 × gM)) (l0 : Option Nat) (l1 : Option Nat) (l2 : Option Nat) (l4 : Int32) (M : gM) : Option (Int32 × gM) :=
  (gI 1 M l1 7).bind fun v1 => if v1 ≤ l4 then ((gO 10 M l0).bind fun i2 => (F_X10_strikeForgotten (some i2) l1 l2 M).bind fun (v3, M4) => (gI 8 M4 l2 5).bind fun v5 => (pI 8 M4 l2 5 (v5 + (1 : Int32))).bind fun M6 => some (v3, M6)) else ((gR 8 M l2 2).bind fun v7 => (gR 8 M l2 2).bind fun v8 => (aI 20 M v8 l4).bind fun v9 => (sI M v7 l4 (if (v9 + (1 : Int32)) < (99 : Int32) then (v9 + (1 : Int32)) else (99 : Int32))).bind fun M10 => k16 l0 l1 l2 (l4 + 1) M10)
set_option maxHeartbeats 1000000 in
theorem T_X10_pass_b16 (k16 : Option Nat → Option Nat → Option Nat → Int32 → gM → Option (Int32 × gM)) (r : (Int32 × gM)) (hk16 : ∀ (l0 : Option Nat) (l1 : Option Nat) (l2 : Option Nat) (l4 : Int32) (M : gM), k16 l0 l1 l2 l4 M = some r → GW 4 0 0 X_X10_pass 16 [(0, vr l0), (1, vr l1), (2, vr l2), (4, vi l4)] [] M (some (vi r.1), r.2)) (l0 : Option Nat) (l1 : Option Nat) (l2 : Option Nat) (l4 : Int32) (M : gM) (h : F_X10_pass_b16 k16 l0 l1 l2 l4 M = some r) : GW 4 0 0 X_X10_pass 16 [(0, vr l0), (1, vr l1), (2, vr l2), (4, vi l4)] [] M (some (vi r.1), r.2) := by
  delta F_X10_pass_b16 at h
  refine GW_iload (X := X_X10_pass) (pc := 16) d_X10_pass_16 3 rfl ?_
  refine GW_aload_n (X := X_X10_pass) (pc := 18) d_X10_pass_18 rfl 1 rfl ?_
  replace h := g_bd h
  obtain ⟨v1, hv1, h⟩ := h
  refine GW_getI (X := X_X10_pass) (pc := 19) f_X10_30 d_X10_pass_19 hv1 (Or.inl ty_1_7) ?_
  refine GW_icmp_ge (X := X_X10_pass) (pc := 22) 52 d_X10_pass_22 (by decide) (fun c => ?_) (fun c => ?_)
  · replace h := g_ip c h
    refine GW_aload_n (X := X_X10_pass) (pc := 52) d_X10_pass_52 rfl 0 rfl ?_
    refine GW_aload_n (X := X_X10_pass) (pc := 53) d_X10_pass_53 rfl 1 rfl ?_
    refine GW_aload_n (X := X_X10_pass) (pc := 54) d_X10_pass_54 rfl 2 rfl ?_
    replace h := g_bd h
    obtain ⟨i2, hi2, h⟩ := h
    obtain ⟨rfl, ki2⟩ := g_gO hi2
    replace h := g_bd h
    obtain ⟨⟨v3, M4⟩, hv3, h⟩ := h
    dsimp only at h
    refine GW_callV (X := X_X10_pass) (pc := 55) (bc0 := 0) (bs0 := 0) (r := some (vi v3)) (M2 := M4) (c0 := 10) (T_X10_strikeForgotten (some i2) l1 l2 M (v3, M4) hv3) (Nat.le_of_ble_eq_true rfl) (Nat.le_of_ble_eq_true rfl) rfl g_cok10 ki2 yc_X10_strikeForgotten ⟨m_895, m_897, m_29, m_117, m_898⟩ d_X10_pass_55 rfl (st := []) rfl (Nat.le_of_ble_eq_true rfl) (Nat.le_of_ble_eq_true rfl) (Nat.le_of_ble_eq_true rfl) (st2 := [vi v3]) rfl ?_
    refine GW_istore (X := X_X10_pass) (pc := 58) d_X10_pass_58 (Nat.le_of_ble_eq_true rfl) (lv2 := [(4, vi v3), (0, vr (some i2)), (1, vr l1), (2, vr l2)]) rfl ?_
    refine GW_aload_n (X := X_X10_pass) (pc := 60) d_X10_pass_60 rfl 3 rfl ?_
    refine GW_dup (X := X_X10_pass) (pc := 61) d_X10_pass_61 rfl ?_
    replace h := g_bd h
    obtain ⟨v5, hv5, h⟩ := h
    refine GW_getI (X := X_X10_pass) (pc := 62) f_X10_51 d_X10_pass_62 hv5 (Or.inl ty_8_5) ?_
    refine GW_iconst (X := X_X10_pass) (pc := 65) (v := 1) d_X10_pass_65 (by decide) ?_
    refine GW_iadd (X := X_X10_pass) (pc := 66) d_X10_pass_66 ?_
    replace h := g_bd h
    obtain ⟨M6, hM6, h⟩ := h
    refine GW_putI (X := X_X10_pass) (pc := 67) f_X10_51 d_X10_pass_67 hM6 (Or.inl fi_8_5) (Or.inl ty_8_5) ?_
    refine GW_iload (X := X_X10_pass) (pc := 70) d_X10_pass_70 0 rfl ?_
    replace h := Option.some.inj h
    subst h
    exact GW_ret (X := X_X10_pass) (pc := 72) d_X10_pass_72 rfl trivial
  · replace h := g_ie c h
    refine GW_aload_n (X := X_X10_pass) (pc := 25) d_X10_pass_25 rfl 2 rfl ?_
    replace h := g_bd h
    obtain ⟨v7, hv7, h⟩ := h
    refine GW_getR (X := X_X10_pass) (pc := 26) f_X10_36 d_X10_pass_26 hv7 (Or.inr ⟨_, ty_8_2⟩) ?_
    refine GW_iload (X := X_X10_pass) (pc := 29) d_X10_pass_29 3 rfl ?_
    refine GW_bipush (X := X_X10_pass) (pc := 31) (v := 99) d_X10_pass_31 (by decide) ?_
    refine GW_aload_n (X := X_X10_pass) (pc := 33) d_X10_pass_33 rfl 2 rfl ?_
    replace h := g_bd h
    obtain ⟨v8, hv8, h⟩ := h
    refine GW_getR (X := X_X10_pass) (pc := 34) f_X10_36 d_X10_pass_34 hv8 (Or.inr ⟨_, ty_8_2⟩) ?_
    refine GW_iload (X := X_X10_pass) (pc := 37) d_X10_pass_37 3 rfl ?_
    replace h := g_bd h
    obtain ⟨v9, hv9, h⟩ := h
    refine GW_iald (X := X_X10_pass) (pc := 39) d_X10_pass_39 hv9 ?_
    refine GW_iconst (X := X_X10_pass) (pc := 40) (v := 1) d_X10_pass_40 (by decide) ?_
    refine GW_iadd (X := X_X10_pass) (pc := 41) d_X10_pass_41 ?_
    refine GW_mmin (X := X_X10_pass) (pc := 42) m_894 d_X10_pass_42 (Nat.le_of_ble_eq_true rfl) (Nat.le_of_ble_eq_true rfl) ?_
    replace h := g_bd h
    obtain ⟨M10, hM10, h⟩ := h
    refine GW_iast (X := X_X10_pass) (pc := 45) d_X10_pass_45 hM10 ?_
    refine GW_iinc (j := 3) (X := X_X10_pass) (pc := 46) d_X10_pass_46 rfl (congrArg (fun z => _ + z) (by decide : Int32.ofInt 1 = (1 : Int32))) (Nat.le_of_ble_eq_true rfl) (lv2 := [(4, vi (l4 + 1)), (0, vr l0), (1, vr l1), (2, vr l2)]) rfl ?_
    refine GW_goto (X := X_X10_pass) (pc := 49) 16 d_X10_pass_49 (by decide) ?_
    refine GW_sub [1, 2, 3, 0] rfl ?_
    exact hk16 l0 l1 l2 (l4 + 1) M10 h
def F_X10_pass_L16 : Nat → Option Nat → Option Nat → Option Nat → Int32 → gM → Option (Int32 × gM)
  | 0 => fun _ _ _ _ _ => none
  | n + 1 => F_X10_pass_b16 (F_X10_pass_L16 n)
theorem T_X10_pass_L16 (r : (Int32 × gM)) : ∀ (n : Nat) (l0 : Option Nat) (l1 : Option Nat) (l2 : Option Nat) (l4 : Int32) (M : gM), F_X10_pass_L16 n l0 l1 l2 l4 M = some r → GW 4 0 0 X_X10_pass 16 [(0, vr l0), (1, vr l1), (2, vr l2), (4, vi l4)] [] M (some (vi r.1), r.2) := by
  intro n
  induction n with
  | zero => intro l0 l1 l2 l4 M h; exact g_no h
  | succ n ih => intro l0 l1 l2 l4 M h; exact T_X10_pass_b16 (F_X10_pass_L16 n) r ih l0 l1 l2 l4 M h
def F_X10_pass_b0 (l0 : Option Nat) (l1 : Option Nat) (l2 : Option Nat) (l3 : Option Nat) (M : gM) : Option (Int32 × gM) :=
  (gO 10 M l0).bind fun i1 => (F_X10_weigh (some i1) l1 l2 l3 M).bind fun M2 => (gC 10 M2 i1).bind fun _ => (F_X10_fadeAll (some i1) l1 l2 M2).bind fun M4 => F_X10_pass_L16 g_fuel (some i1) l1 l2 (0 : Int32) M4
theorem T_X10_pass_b0 (r : (Int32 × gM)) (l0 : Option Nat) (l1 : Option Nat) (l2 : Option Nat) (l3 : Option Nat) (M : gM) (h : F_X10_pass_b0 l0 l1 l2 l3 M = some r) : GW 4 0 0 X_X10_pass 0 [(0, vr l0), (1, vr l1), (2, vr l2), (3, vr l3)] [] M (some (vi r.1), r.2) := by
  delta F_X10_pass_b0 at h
  refine GW_aload_n (X := X_X10_pass) (pc := 0) d_X10_pass_0 rfl 0 rfl ?_
  refine GW_aload_n (X := X_X10_pass) (pc := 1) d_X10_pass_1 rfl 1 rfl ?_
  refine GW_aload_n (X := X_X10_pass) (pc := 2) d_X10_pass_2 rfl 2 rfl ?_
  refine GW_aload_n (X := X_X10_pass) (pc := 3) d_X10_pass_3 rfl 3 rfl ?_
  replace h := g_bd h
  obtain ⟨i1, hi1, h⟩ := h
  obtain ⟨rfl, ki1⟩ := g_gO hi1
  replace h := g_bd h
  obtain ⟨M2, hM2, h⟩ := h
  refine GW_callV (X := X_X10_pass) (pc := 4) (bc0 := 0) (bs0 := 0) (r := none) (M2 := M2) (c0 := 10) (T_X10_weigh (some i1) l1 l2 l3 M M2 hM2) (Nat.le_of_ble_eq_true rfl) (Nat.le_of_ble_eq_true rfl) rfl g_cok10 ki1 yc_X10_weigh ⟨m_839, m_841, m_24, m_117, m_842⟩ d_X10_pass_4 rfl (st := []) rfl (Nat.le_of_ble_eq_true rfl) (Nat.le_of_ble_eq_true rfl) (Nat.le_of_ble_eq_true rfl) (st2 := []) rfl ?_
  refine GW_aload_n (X := X_X10_pass) (pc := 7) d_X10_pass_7 rfl 0 rfl ?_
  refine GW_aload_n (X := X_X10_pass) (pc := 8) d_X10_pass_8 rfl 1 rfl ?_
  refine GW_aload_n (X := X_X10_pass) (pc := 9) d_X10_pass_9 rfl 2 rfl ?_
  replace h := g_bd h
  obtain ⟨_, kk3, h⟩ := h
  replace kk3 := g_gC kk3
  replace h := g_bd h
  obtain ⟨M4, hM4, h⟩ := h
  refine GW_callV (X := X_X10_pass) (pc := 10) (bc0 := 0) (bs0 := 0) (r := none) (M2 := M4) (c0 := 10) (T_X10_fadeAll (some i1) l1 l2 M2 M4 hM4) (Nat.le_of_ble_eq_true rfl) (Nat.le_of_ble_eq_true rfl) rfl g_cok10 kk3 yc_X10_fadeAll ⟨m_885, m_887, m_28, m_117, m_888⟩ d_X10_pass_10 rfl (st := []) rfl (Nat.le_of_ble_eq_true rfl) (Nat.le_of_ble_eq_true rfl) (Nat.le_of_ble_eq_true rfl) (st2 := []) rfl ?_
  refine GW_iconst (X := X_X10_pass) (pc := 13) (v := 0) d_X10_pass_13 (by decide) ?_
  refine GW_istore (X := X_X10_pass) (pc := 14) d_X10_pass_14 (Nat.le_of_ble_eq_true rfl) (lv2 := [(4, vi (0 : Int32)), (0, vr (some i1)), (1, vr l1), (2, vr l2), (3, vr l3)]) rfl ?_
  refine GW_sub [1, 2, 3, 0] rfl ?_
  exact T_X10_pass_L16 r g_fuel (some i1) l1 l2 (0 : Int32) M4 h
def F_X10_pass (l0 : Option Nat) (l1 : Option Nat) (l2 : Option Nat) (l3 : Option Nat) (M : gM) : Option (Int32 × gM) := F_X10_pass_b0 l0 l1 l2 l3 M
theorem T_X10_pass (l0 : Option Nat) (l1 : Option Nat) (l2 : Option Nat) (l3 : Option Nat) (M : gM) (r : (Int32 × gM)) (h : F_X10_pass l0 l1 l2 l3 M = some r) : g_Met 4 0 0 yX10_pass X_X10_pass [vr l0, vr l1, vr l2, vr l3] M (some (vi r.1), r.2) :=
  g_Met_of pn_RX10 rfl (Nat.le_of_ble_eq_true rfl) (fun h => by cases h) (GW_sub [0, 1, 2, 3] rfl (T_X10_pass_b0 r l0 l1 l2 l3 M h))
/-! ForgetHeirs.year()I -/
theorem d_X11_year_0 : decode cX11_year 0 = .ok (.aload_n 0, 1) := by decide +kernel
theorem d_X11_year_1 : decode cX11_year 1 = .ok (.getfield 59, 3) := by decide +kernel
theorem d_X11_year_4 : decode cX11_year 4 = .ok (.getfield 204, 3) := by decide +kernel
theorem d_X11_year_7 : decode cX11_year 7 = .ok (.ifCond .eq 16, 3) := by decide +kernel
theorem d_X11_year_10 : decode cX11_year 10 = .ok (.aload_n 0, 1) := by decide +kernel
theorem d_X11_year_11 : decode cX11_year 11 = .ok (.getfield 25, 3) := by decide +kernel
theorem d_X11_year_14 : decode cX11_year 14 = .ok (.getfield 190, 3) := by decide +kernel
theorem d_X11_year_17 : decode cX11_year 17 = .ok (.sipush 999, 3) := by decide +kernel
theorem d_X11_year_20 : decode cX11_year 20 = .ok (.if_icmp .lt 5, 3) := by decide +kernel
theorem d_X11_year_23 : decode cX11_year 23 = .ok (.iconst (-1), 1) := by decide +kernel
theorem d_X11_year_24 : decode cX11_year 24 = .ok (.ireturn, 1) := by decide +kernel
theorem d_X11_year_25 : decode cX11_year 25 = .ok (.aload_n 0, 1) := by decide +kernel
theorem d_X11_year_26 : decode cX11_year 26 = .ok (.getfield 35, 3) := by decide +kernel
theorem d_X11_year_29 : decode cX11_year 29 = .ok (.aload_n 0, 1) := by decide +kernel
theorem d_X11_year_30 : decode cX11_year 30 = .ok (.getfield 25, 3) := by decide +kernel
theorem d_X11_year_33 : decode cX11_year 33 = .ok (.invokevirtual 208, 3) := by decide +kernel
theorem d_X11_year_36 : decode cX11_year 36 = .ok (.aload_n 0, 1) := by decide +kernel
theorem d_X11_year_37 : decode cX11_year 37 = .ok (.getfield 18, 3) := by decide +kernel
theorem d_X11_year_40 : decode cX11_year 40 = .ok (.aload_n 0, 1) := by decide +kernel
theorem d_X11_year_41 : decode cX11_year 41 = .ok (.getfield 59, 3) := by decide +kernel
theorem d_X11_year_44 : decode cX11_year 44 = .ok (.aload_n 0, 1) := by decide +kernel
theorem d_X11_year_45 : decode cX11_year 45 = .ok (.getfield 25, 3) := by decide +kernel
theorem d_X11_year_48 : decode cX11_year 48 = .ok (.aload_n 0, 1) := by decide +kernel
theorem d_X11_year_49 : decode cX11_year 49 = .ok (.invokevirtual 211, 3) := by decide +kernel
theorem d_X11_year_52 : decode cX11_year 52 = .ok (.invokevirtual 214, 3) := by decide +kernel
theorem d_X11_year_55 : decode cX11_year 55 = .ok (.ireturn, 1) := by decide +kernel
abbrev X_X11_year : gX := (RX11, cX11_year, 1, (some .int), false)
def F_X11_year_b23 (M : gM) : Option (Int32 × gM) :=
  some ((-1 : Int32), M)
theorem T_X11_year_b23 (r : (Int32 × gM)) (M : gM) (h : F_X11_year_b23 M = some r) : GW 5 0 0 X_X11_year 23 [] [] M (some (vi r.1), r.2) := by
  delta F_X11_year_b23 at h
  refine GW_iconst (X := X_X11_year) (pc := 23) (v := -1) d_X11_year_23 (by decide) ?_
  replace h := Option.some.inj h
  subst h
  exact GW_ret (X := X_X11_year) (pc := 24) d_X11_year_24 rfl trivial
def F_X11_year_b0 (l0 : Option Nat) (M : gM) : Option (Int32 × gM) :=
  (gR 11 M l0 11).bind fun v1 => (gI 1 M v1 5).bind fun v2 => if v2 = 0 then (F_X11_year_b23 M) else ((gR 11 M l0 5).bind fun v3 => (gI 8 M v3 5).bind fun v4 => if v4 < (999 : Int32) then ((gR 11 M l0 7).bind fun v5 => (gR 11 M l0 5).bind fun v6 => (gO 4 M v5).bind fun i7 => (F_X4_keep (some i7) v6 M).bind fun M8 => (gR 11 M8 l0 4).bind fun v9 => (gR 11 M8 l0 11).bind fun v10 => (gR 11 M8 l0 5).bind fun v11 => (gO 11 M8 l0).bind fun i12 => (F_X11_ruleInForce (some i12) M8).bind fun v13 => (gO 10 M8 v9).bind fun i14 => (F_X10_pass (some i14) v10 v11 v13 M8).bind fun (v15, M16) => some (v15, M16)) else (F_X11_year_b23 M))
set_option maxHeartbeats 1000000 in
theorem T_X11_year_b0 (r : (Int32 × gM)) (l0 : Option Nat) (M : gM) (h : F_X11_year_b0 l0 M = some r) : GW 5 0 0 X_X11_year 0 [(0, vr l0)] [] M (some (vi r.1), r.2) := by
  delta F_X11_year_b0 at h
  refine GW_aload_n (X := X_X11_year) (pc := 0) d_X11_year_0 rfl 0 rfl ?_
  replace h := g_bd h
  obtain ⟨v1, hv1, h⟩ := h
  refine GW_getR (X := X_X11_year) (pc := 1) f_X11_59 d_X11_year_1 hv1 (Or.inl ⟨_, ty_11_11⟩) ?_
  replace h := g_bd h
  obtain ⟨v2, hv2, h⟩ := h
  refine GW_getI (X := X_X11_year) (pc := 4) f_X11_204 d_X11_year_4 hv2 (Or.inr ty_1_5) ?_
  refine GW_if_eq (X := X_X11_year) (pc := 7) 23 d_X11_year_7 (by decide) (fun c => ?_) (fun c => ?_)
  · replace h := g_ip c h
    refine GW_sub [] rfl ?_
    exact T_X11_year_b23 r M h
  · replace h := g_ie c h
    refine GW_aload_n (X := X_X11_year) (pc := 10) d_X11_year_10 rfl 0 rfl ?_
    replace h := g_bd h
    obtain ⟨v3, hv3, h⟩ := h
    refine GW_getR (X := X_X11_year) (pc := 11) f_X11_25 d_X11_year_11 hv3 (Or.inl ⟨_, ty_11_5⟩) ?_
    replace h := g_bd h
    obtain ⟨v4, hv4, h⟩ := h
    refine GW_getI (X := X_X11_year) (pc := 14) f_X11_190 d_X11_year_14 hv4 (Or.inl ty_8_5) ?_
    refine GW_sipush (X := X_X11_year) (pc := 17) (v := 999) d_X11_year_17 (by decide) ?_
    refine GW_icmp_lt (X := X_X11_year) (pc := 20) 25 d_X11_year_20 (by decide) (fun c => ?_) (fun c => ?_)
    · replace h := g_ip c h
      refine GW_aload_n (X := X_X11_year) (pc := 25) d_X11_year_25 rfl 0 rfl ?_
      replace h := g_bd h
      obtain ⟨v5, hv5, h⟩ := h
      refine GW_getR (X := X_X11_year) (pc := 26) f_X11_35 d_X11_year_26 hv5 (Or.inl ⟨_, ty_11_7⟩) ?_
      refine GW_aload_n (X := X_X11_year) (pc := 29) d_X11_year_29 rfl 0 rfl ?_
      replace h := g_bd h
      obtain ⟨v6, hv6, h⟩ := h
      refine GW_getR (X := X_X11_year) (pc := 30) f_X11_25 d_X11_year_30 hv6 (Or.inl ⟨_, ty_11_5⟩) ?_
      replace h := g_bd h
      obtain ⟨i7, hi7, h⟩ := h
      obtain ⟨rfl, ki7⟩ := g_gO hi7
      replace h := g_bd h
      obtain ⟨M8, hM8, h⟩ := h
      refine GW_callV (X := X_X11_year) (pc := 33) (bc0 := 0) (bs0 := 0) (r := none) (M2 := M8) (c0 := 4) (T_X4_keep (some i7) v6 M M8 hM8) (Nat.le_of_ble_eq_true rfl) (Nat.le_of_ble_eq_true rfl) rfl g_cok4 ki7 yc_X4_keep ⟨m_825, m_826, m_827, m_120, m_828⟩ d_X11_year_33 rfl (st := []) rfl (Nat.le_of_ble_eq_true rfl) (Nat.le_of_ble_eq_true rfl) (Nat.le_of_ble_eq_true rfl) (st2 := []) rfl ?_
      refine GW_aload_n (X := X_X11_year) (pc := 36) d_X11_year_36 rfl 0 rfl ?_
      replace h := g_bd h
      obtain ⟨v9, hv9, h⟩ := h
      refine GW_getR (X := X_X11_year) (pc := 37) f_X11_18 d_X11_year_37 hv9 (Or.inl ⟨_, ty_11_4⟩) ?_
      refine GW_aload_n (X := X_X11_year) (pc := 40) d_X11_year_40 rfl 0 rfl ?_
      replace h := g_bd h
      obtain ⟨v10, hv10, h⟩ := h
      refine GW_getR (X := X_X11_year) (pc := 41) f_X11_59 d_X11_year_41 hv10 (Or.inl ⟨_, ty_11_11⟩) ?_
      refine GW_aload_n (X := X_X11_year) (pc := 44) d_X11_year_44 rfl 0 rfl ?_
      replace h := g_bd h
      obtain ⟨v11, hv11, h⟩ := h
      refine GW_getR (X := X_X11_year) (pc := 45) f_X11_25 d_X11_year_45 hv11 (Or.inl ⟨_, ty_11_5⟩) ?_
      refine GW_aload_n (X := X_X11_year) (pc := 48) d_X11_year_48 rfl 0 rfl ?_
      replace h := g_bd h
      obtain ⟨i12, hi12, h⟩ := h
      obtain ⟨rfl, ki12⟩ := g_gO hi12
      replace h := g_bd h
      obtain ⟨v13, hv13, h⟩ := h
      refine GW_callV (X := X_X11_year) (pc := 49) (bc0 := 0) (bs0 := 0) (r := some (vr v13)) (M2 := M8) (c0 := 11) (T_X11_ruleInForce (some i12) M8 v13 hv13) (Nat.le_of_ble_eq_true rfl) (Nat.le_of_ble_eq_true rfl) rfl g_cok11 ki12 yc_X11_ruleInForce ⟨m_831, m_833, m_23, m_116, m_834⟩ d_X11_year_49 rfl (st := [vr v11, vr v10, vr v9]) rfl (Nat.le_of_ble_eq_true rfl) (Nat.le_of_ble_eq_true rfl) (Nat.le_of_ble_eq_true rfl) (st2 := [vr v13, vr v11, vr v10, vr v9]) rfl ?_
      replace h := g_bd h
      obtain ⟨i14, hi14, h⟩ := h
      obtain ⟨rfl, ki14⟩ := g_gO hi14
      replace h := g_bd h
      obtain ⟨⟨v15, M16⟩, hv15, h⟩ := h
      dsimp only at h
      refine GW_callV (X := X_X11_year) (pc := 52) (bc0 := 0) (bs0 := 0) (r := some (vi v15)) (M2 := M16) (c0 := 10) (T_X10_pass (some i14) v10 v11 v13 M8 (v15, M16) hv15) (Nat.le_of_ble_eq_true rfl) (Nat.le_of_ble_eq_true rfl) rfl g_cok10 ki14 yc_X10_pass ⟨m_835, m_836, m_837, m_117, m_838⟩ d_X11_year_52 rfl (st := []) rfl (Nat.le_of_ble_eq_true rfl) (Nat.le_of_ble_eq_true rfl) (Nat.le_of_ble_eq_true rfl) (st2 := [vi v15]) rfl ?_
      replace h := Option.some.inj h
      subst h
      exact GW_ret (X := X_X11_year) (pc := 55) d_X11_year_55 rfl trivial
    · replace h := g_ie c h
      refine GW_sub [] rfl ?_
      exact T_X11_year_b23 r M h
def F_X11_year (l0 : Option Nat) (M : gM) : Option (Int32 × gM) := F_X11_year_b0 l0 M
theorem T_X11_year (l0 : Option Nat) (M : gM) (r : (Int32 × gM)) (h : F_X11_year l0 M = some r) : g_Met 5 0 0 yX11_year X_X11_year [vr l0] M (some (vi r.1), r.2) :=
  g_Met_of pn_RX11 rfl (Nat.le_of_ble_eq_true rfl) (fun h => by cases h) (GW_sub [0] rfl (T_X11_year_b0 r l0 M h))
/-! ForgetHeirsModel.isHouse()Z -/
theorem d_X12_isHouse_0 : decode cX12_isHouse 0 = .ok (.aload_n 0, 1) := by decide +kernel
theorem d_X12_isHouse_1 : decode cX12_isHouse 1 = .ok (.getfield 39, 3) := by decide +kernel
theorem d_X12_isHouse_4 : decode cX12_isHouse 4 = .ok (.iconst 0, 1) := by decide +kernel
theorem d_X12_isHouse_5 : decode cX12_isHouse 5 = .ok (.iaload, 1) := by decide +kernel
theorem d_X12_isHouse_6 : decode cX12_isHouse 6 = .ok (.ifCond .le 7, 3) := by decide +kernel
theorem d_X12_isHouse_9 : decode cX12_isHouse 9 = .ok (.iconst 1, 1) := by decide +kernel
theorem d_X12_isHouse_10 : decode cX12_isHouse 10 = .ok (.goto 4, 3) := by decide +kernel
theorem d_X12_isHouse_13 : decode cX12_isHouse 13 = .ok (.iconst 0, 1) := by decide +kernel
theorem d_X12_isHouse_14 : decode cX12_isHouse 14 = .ok (.ireturn, 1) := by decide +kernel
abbrev X_X12_isHouse : gX := (RX12, cX12_isHouse, 1, (some .boolean), false)
def F_X12_isHouse_b0 (M : gM) (l0 : Option Nat) : Option Int32 :=
  (gR 12 M l0 20).bind fun v1 => (aI 20 M v1 (0 : Int32)).bind fun v2 => if v2 ≤ 0 then (some (0 : Int32)) else (some (1 : Int32))
theorem T_X12_isHouse_b0 (M : gM) (r : Int32) (l0 : Option Nat) (h : F_X12_isHouse_b0 M l0 = some r) : GW 0 0 0 X_X12_isHouse 0 [(0, vr l0)] [] M (some (vi r), M) := by
  delta F_X12_isHouse_b0 at h
  refine GW_aload_n (X := X_X12_isHouse) (pc := 0) d_X12_isHouse_0 rfl 0 rfl ?_
  replace h := g_bd h
  obtain ⟨v1, hv1, h⟩ := h
  refine GW_getR (X := X_X12_isHouse) (pc := 1) f_X12_39 d_X12_isHouse_1 hv1 (Or.inr ⟨_, ty_12_20⟩) ?_
  refine GW_iconst (X := X_X12_isHouse) (pc := 4) (v := 0) d_X12_isHouse_4 (by decide) ?_
  replace h := g_bd h
  obtain ⟨v2, hv2, h⟩ := h
  refine GW_iald (X := X_X12_isHouse) (pc := 5) d_X12_isHouse_5 hv2 ?_
  refine GW_if_le (X := X_X12_isHouse) (pc := 6) 13 d_X12_isHouse_6 (by decide) (fun c => ?_) (fun c => ?_)
  · replace h := g_ip c h
    refine GW_iconst (X := X_X12_isHouse) (pc := 13) (v := 0) d_X12_isHouse_13 (by decide) ?_
    replace h := Option.some.inj h
    subst h
    exact GW_ret (X := X_X12_isHouse) (pc := 14) d_X12_isHouse_14 rfl g_rok0
  · replace h := g_ie c h
    refine GW_iconst (X := X_X12_isHouse) (pc := 9) (v := 1) d_X12_isHouse_9 (by decide) ?_
    refine GW_goto (X := X_X12_isHouse) (pc := 10) 14 d_X12_isHouse_10 (by decide) ?_
    replace h := Option.some.inj h
    subst h
    exact GW_ret (X := X_X12_isHouse) (pc := 14) d_X12_isHouse_14 rfl g_rok1
def F_X12_isHouse (l0 : Option Nat) (M : gM) : Option Int32 := F_X12_isHouse_b0 M l0
theorem T_X12_isHouse (l0 : Option Nat) (M : gM) (r : Int32) (h : F_X12_isHouse l0 M = some r) : g_Met 0 0 0 yX12_isHouse X_X12_isHouse [vr l0] M (some (vi r), M) :=
  g_Met_of pn_RX12 rfl (Nat.le_of_ble_eq_true rfl) (fun h => by cases h) (GW_sub [0] rfl (T_X12_isHouse_b0 M r l0 h))
/-! ForgetHeirsModel.keepsAct()V -/
theorem d_X12_keepsAct_0 : decode cX12_keepsAct 0 = .ok (.aload_n 0, 1) := by decide +kernel
theorem d_X12_keepsAct_1 : decode cX12_keepsAct 1 = .ok (.getfield 279, 3) := by decide +kernel
theorem d_X12_keepsAct_4 : decode cX12_keepsAct 4 = .ok (.bipush 20, 2) := by decide +kernel
theorem d_X12_keepsAct_6 : decode cX12_keepsAct 6 = .ok (.if_icmp .ne 46, 3) := by decide +kernel
theorem d_X12_keepsAct_9 : decode cX12_keepsAct 9 = .ok (.sipush 157, 3) := by decide +kernel
theorem d_X12_keepsAct_12 : decode cX12_keepsAct 12 = .ok (.istore_n 1, 1) := by decide +kernel
theorem d_X12_keepsAct_13 : decode cX12_keepsAct 13 = .ok (.iload_n 1, 1) := by decide +kernel
theorem d_X12_keepsAct_14 : decode cX12_keepsAct 14 = .ok (.sipush 3140, 3) := by decide +kernel
theorem d_X12_keepsAct_17 : decode cX12_keepsAct 17 = .ok (.if_icmp .ge 25, 3) := by decide +kernel
theorem d_X12_keepsAct_20 : decode cX12_keepsAct 20 = .ok (.aload_n 0, 1) := by decide +kernel
theorem d_X12_keepsAct_21 : decode cX12_keepsAct 21 = .ok (.getfield 49, 3) := by decide +kernel
theorem d_X12_keepsAct_24 : decode cX12_keepsAct 24 = .ok (.iload_n 1, 1) := by decide +kernel
theorem d_X12_keepsAct_25 : decode cX12_keepsAct 25 = .ok (.sipush 157, 3) := by decide +kernel
theorem d_X12_keepsAct_28 : decode cX12_keepsAct 28 = .ok (.isub, 1) := by decide +kernel
theorem d_X12_keepsAct_29 : decode cX12_keepsAct 29 = .ok (.aload_n 0, 1) := by decide +kernel
theorem d_X12_keepsAct_30 : decode cX12_keepsAct 30 = .ok (.getfield 49, 3) := by decide +kernel
theorem d_X12_keepsAct_33 : decode cX12_keepsAct 33 = .ok (.iload_n 1, 1) := by decide +kernel
theorem d_X12_keepsAct_34 : decode cX12_keepsAct 34 = .ok (.iaload, 1) := by decide +kernel
theorem d_X12_keepsAct_35 : decode cX12_keepsAct 35 = .ok (.iastore, 1) := by decide +kernel
theorem d_X12_keepsAct_36 : decode cX12_keepsAct 36 = .ok (.iinc 1 1, 3) := by decide +kernel
theorem d_X12_keepsAct_39 : decode cX12_keepsAct 39 = .ok (.goto (-26), 3) := by decide +kernel
theorem d_X12_keepsAct_42 : decode cX12_keepsAct 42 = .ok (.aload_n 0, 1) := by decide +kernel
theorem d_X12_keepsAct_43 : decode cX12_keepsAct 43 = .ok (.dup, 1) := by decide +kernel
theorem d_X12_keepsAct_44 : decode cX12_keepsAct 44 = .ok (.getfield 279, 3) := by decide +kernel
theorem d_X12_keepsAct_47 : decode cX12_keepsAct 47 = .ok (.iconst 1, 1) := by decide +kernel
theorem d_X12_keepsAct_48 : decode cX12_keepsAct 48 = .ok (.isub, 1) := by decide +kernel
theorem d_X12_keepsAct_49 : decode cX12_keepsAct 49 = .ok (.putfield 279, 3) := by decide +kernel
theorem d_X12_keepsAct_52 : decode cX12_keepsAct 52 = .ok (.iconst 0, 1) := by decide +kernel
theorem d_X12_keepsAct_53 : decode cX12_keepsAct 53 = .ok (.istore_n 1, 1) := by decide +kernel
theorem d_X12_keepsAct_54 : decode cX12_keepsAct 54 = .ok (.iload_n 1, 1) := by decide +kernel
theorem d_X12_keepsAct_55 : decode cX12_keepsAct 55 = .ok (.sipush 157, 3) := by decide +kernel
theorem d_X12_keepsAct_58 : decode cX12_keepsAct 58 = .ok (.if_icmp .ge 30, 3) := by decide +kernel
theorem d_X12_keepsAct_61 : decode cX12_keepsAct 61 = .ok (.aload_n 0, 1) := by decide +kernel
theorem d_X12_keepsAct_62 : decode cX12_keepsAct 62 = .ok (.getfield 49, 3) := by decide +kernel
theorem d_X12_keepsAct_65 : decode cX12_keepsAct 65 = .ok (.sipush 157, 3) := by decide +kernel
theorem d_X12_keepsAct_68 : decode cX12_keepsAct 68 = .ok (.aload_n 0, 1) := by decide +kernel
theorem d_X12_keepsAct_69 : decode cX12_keepsAct 69 = .ok (.getfield 279, 3) := by decide +kernel
theorem d_X12_keepsAct_72 : decode cX12_keepsAct 72 = .ok (.imul, 1) := by decide +kernel
theorem d_X12_keepsAct_73 : decode cX12_keepsAct 73 = .ok (.iload_n 1, 1) := by decide +kernel
theorem d_X12_keepsAct_74 : decode cX12_keepsAct 74 = .ok (.iadd, 1) := by decide +kernel
theorem d_X12_keepsAct_75 : decode cX12_keepsAct 75 = .ok (.aload_n 0, 1) := by decide +kernel
theorem d_X12_keepsAct_76 : decode cX12_keepsAct 76 = .ok (.getfield 39, 3) := by decide +kernel
theorem d_X12_keepsAct_79 : decode cX12_keepsAct 79 = .ok (.iload_n 1, 1) := by decide +kernel
theorem d_X12_keepsAct_80 : decode cX12_keepsAct 80 = .ok (.iaload, 1) := by decide +kernel
theorem d_X12_keepsAct_81 : decode cX12_keepsAct 81 = .ok (.iastore, 1) := by decide +kernel
theorem d_X12_keepsAct_82 : decode cX12_keepsAct 82 = .ok (.iinc 1 1, 3) := by decide +kernel
theorem d_X12_keepsAct_85 : decode cX12_keepsAct 85 = .ok (.goto (-31), 3) := by decide +kernel
theorem d_X12_keepsAct_88 : decode cX12_keepsAct 88 = .ok (.aload_n 0, 1) := by decide +kernel
theorem d_X12_keepsAct_89 : decode cX12_keepsAct 89 = .ok (.dup, 1) := by decide +kernel
theorem d_X12_keepsAct_90 : decode cX12_keepsAct 90 = .ok (.getfield 279, 3) := by decide +kernel
theorem d_X12_keepsAct_93 : decode cX12_keepsAct 93 = .ok (.iconst 1, 1) := by decide +kernel
theorem d_X12_keepsAct_94 : decode cX12_keepsAct 94 = .ok (.iadd, 1) := by decide +kernel
theorem d_X12_keepsAct_95 : decode cX12_keepsAct 95 = .ok (.putfield 279, 3) := by decide +kernel
theorem d_X12_keepsAct_98 : decode cX12_keepsAct 98 = .ok (.return_, 1) := by decide +kernel
abbrev X_X12_keepsAct : gX := (RX12, cX12_keepsAct, 2, none, false)
def F_X12_keepsAct_b54 (k54 : Option Nat → Int32 → gM → Option gM) (l0 : Option Nat) (l1 : Int32) (M : gM) : Option gM :=
  if (157 : Int32) ≤ l1 then ((gI 12 M l0 25).bind fun v1 => (pI 12 M l0 25 (v1 + (1 : Int32))).bind fun M2 => some M2) else ((gR 12 M l0 24).bind fun v3 => (gI 12 M l0 25).bind fun v4 => (gR 12 M l0 20).bind fun v5 => (aI 20 M v5 l1).bind fun v6 => (sI M v3 (((157 : Int32) * v4) + l1) v6).bind fun M7 => k54 l0 (l1 + 1) M7)
set_option maxHeartbeats 1000000 in
theorem T_X12_keepsAct_b54 (k54 : Option Nat → Int32 → gM → Option gM) (r : gM) (hk54 : ∀ (l0 : Option Nat) (l1 : Int32) (M : gM), k54 l0 l1 M = some r → GW 0 0 0 X_X12_keepsAct 54 [(0, vr l0), (1, vi l1)] [] M (none, r)) (l0 : Option Nat) (l1 : Int32) (M : gM) (h : F_X12_keepsAct_b54 k54 l0 l1 M = some r) : GW 0 0 0 X_X12_keepsAct 54 [(0, vr l0), (1, vi l1)] [] M (none, r) := by
  delta F_X12_keepsAct_b54 at h
  refine GW_iload_n (X := X_X12_keepsAct) (pc := 54) d_X12_keepsAct_54 rfl 1 rfl ?_
  refine GW_sipush (X := X_X12_keepsAct) (pc := 55) (v := 157) d_X12_keepsAct_55 (by decide) ?_
  refine GW_icmp_ge (X := X_X12_keepsAct) (pc := 58) 88 d_X12_keepsAct_58 (by decide) (fun c => ?_) (fun c => ?_)
  · replace h := g_ip c h
    refine GW_aload_n (X := X_X12_keepsAct) (pc := 88) d_X12_keepsAct_88 rfl 0 rfl ?_
    refine GW_dup (X := X_X12_keepsAct) (pc := 89) d_X12_keepsAct_89 rfl ?_
    replace h := g_bd h
    obtain ⟨v1, hv1, h⟩ := h
    refine GW_getI (X := X_X12_keepsAct) (pc := 90) f_X12_279 d_X12_keepsAct_90 hv1 (Or.inl ty_12_25) ?_
    refine GW_iconst (X := X_X12_keepsAct) (pc := 93) (v := 1) d_X12_keepsAct_93 (by decide) ?_
    refine GW_iadd (X := X_X12_keepsAct) (pc := 94) d_X12_keepsAct_94 ?_
    replace h := g_bd h
    obtain ⟨M2, hM2, h⟩ := h
    refine GW_putI (X := X_X12_keepsAct) (pc := 95) f_X12_279 d_X12_keepsAct_95 hM2 (Or.inl fi_12_25) (Or.inl ty_12_25) ?_
    replace h := Option.some.inj h
    subst h
    exact GW_ret (X := X_X12_keepsAct) (pc := 98) d_X12_keepsAct_98 rfl trivial
  · replace h := g_ie c h
    refine GW_aload_n (X := X_X12_keepsAct) (pc := 61) d_X12_keepsAct_61 rfl 0 rfl ?_
    replace h := g_bd h
    obtain ⟨v3, hv3, h⟩ := h
    refine GW_getR (X := X_X12_keepsAct) (pc := 62) f_X12_49 d_X12_keepsAct_62 hv3 (Or.inr ⟨_, ty_12_24⟩) ?_
    refine GW_sipush (X := X_X12_keepsAct) (pc := 65) (v := 157) d_X12_keepsAct_65 (by decide) ?_
    refine GW_aload_n (X := X_X12_keepsAct) (pc := 68) d_X12_keepsAct_68 rfl 0 rfl ?_
    replace h := g_bd h
    obtain ⟨v4, hv4, h⟩ := h
    refine GW_getI (X := X_X12_keepsAct) (pc := 69) f_X12_279 d_X12_keepsAct_69 hv4 (Or.inl ty_12_25) ?_
    refine GW_imul (X := X_X12_keepsAct) (pc := 72) d_X12_keepsAct_72 ?_
    refine GW_iload_n (X := X_X12_keepsAct) (pc := 73) d_X12_keepsAct_73 rfl 1 rfl ?_
    refine GW_iadd (X := X_X12_keepsAct) (pc := 74) d_X12_keepsAct_74 ?_
    refine GW_aload_n (X := X_X12_keepsAct) (pc := 75) d_X12_keepsAct_75 rfl 0 rfl ?_
    replace h := g_bd h
    obtain ⟨v5, hv5, h⟩ := h
    refine GW_getR (X := X_X12_keepsAct) (pc := 76) f_X12_39 d_X12_keepsAct_76 hv5 (Or.inr ⟨_, ty_12_20⟩) ?_
    refine GW_iload_n (X := X_X12_keepsAct) (pc := 79) d_X12_keepsAct_79 rfl 1 rfl ?_
    replace h := g_bd h
    obtain ⟨v6, hv6, h⟩ := h
    refine GW_iald (X := X_X12_keepsAct) (pc := 80) d_X12_keepsAct_80 hv6 ?_
    replace h := g_bd h
    obtain ⟨M7, hM7, h⟩ := h
    refine GW_iast (X := X_X12_keepsAct) (pc := 81) d_X12_keepsAct_81 hM7 ?_
    refine GW_iinc (j := 1) (X := X_X12_keepsAct) (pc := 82) d_X12_keepsAct_82 rfl (congrArg (fun z => _ + z) (by decide : Int32.ofInt 1 = (1 : Int32))) (Nat.le_of_ble_eq_true rfl) (lv2 := [(1, vi (l1 + 1)), (0, vr l0)]) rfl ?_
    refine GW_goto (X := X_X12_keepsAct) (pc := 85) 54 d_X12_keepsAct_85 (by decide) ?_
    refine GW_sub [1, 0] rfl ?_
    exact hk54 l0 (l1 + 1) M7 h
def F_X12_keepsAct_L54 : Nat → Option Nat → Int32 → gM → Option gM
  | 0 => fun _ _ _ => none
  | n + 1 => F_X12_keepsAct_b54 (F_X12_keepsAct_L54 n)
theorem T_X12_keepsAct_L54 (r : gM) : ∀ (n : Nat) (l0 : Option Nat) (l1 : Int32) (M : gM), F_X12_keepsAct_L54 n l0 l1 M = some r → GW 0 0 0 X_X12_keepsAct 54 [(0, vr l0), (1, vi l1)] [] M (none, r) := by
  intro n
  induction n with
  | zero => intro l0 l1 M h; exact g_no h
  | succ n ih => intro l0 l1 M h; exact T_X12_keepsAct_b54 (F_X12_keepsAct_L54 n) r ih l0 l1 M h
def F_X12_keepsAct_b52 (l0 : Option Nat) (M : gM) : Option gM :=
  F_X12_keepsAct_L54 g_fuel l0 (0 : Int32) M
theorem T_X12_keepsAct_b52 (r : gM) (l0 : Option Nat) (M : gM) (h : F_X12_keepsAct_b52 l0 M = some r) : GW 0 0 0 X_X12_keepsAct 52 [(0, vr l0)] [] M (none, r) := by
  delta F_X12_keepsAct_b52 at h
  refine GW_iconst (X := X_X12_keepsAct) (pc := 52) (v := 0) d_X12_keepsAct_52 (by decide) ?_
  refine GW_istore_n (X := X_X12_keepsAct) (pc := 53) d_X12_keepsAct_53 rfl (Nat.le_of_ble_eq_true rfl) (lv2 := [(1, vi (0 : Int32)), (0, vr l0)]) rfl ?_
  refine GW_sub [1, 0] rfl ?_
  exact T_X12_keepsAct_L54 r g_fuel l0 (0 : Int32) M h
def F_X12_keepsAct_b13 (k13 : Option Nat → Int32 → gM → Option gM) (l0 : Option Nat) (l1 : Int32) (M : gM) : Option gM :=
  if (3140 : Int32) ≤ l1 then ((gI 12 M l0 25).bind fun v1 => (pI 12 M l0 25 (v1 - (1 : Int32))).bind fun M2 => F_X12_keepsAct_b52 l0 M2) else ((gR 12 M l0 24).bind fun v3 => (gR 12 M l0 24).bind fun v4 => (aI 20 M v4 l1).bind fun v5 => (sI M v3 (l1 - (157 : Int32)) v5).bind fun M6 => k13 l0 (l1 + 1) M6)
theorem T_X12_keepsAct_b13 (k13 : Option Nat → Int32 → gM → Option gM) (r : gM) (hk13 : ∀ (l0 : Option Nat) (l1 : Int32) (M : gM), k13 l0 l1 M = some r → GW 0 0 0 X_X12_keepsAct 13 [(0, vr l0), (1, vi l1)] [] M (none, r)) (l0 : Option Nat) (l1 : Int32) (M : gM) (h : F_X12_keepsAct_b13 k13 l0 l1 M = some r) : GW 0 0 0 X_X12_keepsAct 13 [(0, vr l0), (1, vi l1)] [] M (none, r) := by
  delta F_X12_keepsAct_b13 at h
  refine GW_iload_n (X := X_X12_keepsAct) (pc := 13) d_X12_keepsAct_13 rfl 1 rfl ?_
  refine GW_sipush (X := X_X12_keepsAct) (pc := 14) (v := 3140) d_X12_keepsAct_14 (by decide) ?_
  refine GW_icmp_ge (X := X_X12_keepsAct) (pc := 17) 42 d_X12_keepsAct_17 (by decide) (fun c => ?_) (fun c => ?_)
  · replace h := g_ip c h
    refine GW_aload_n (X := X_X12_keepsAct) (pc := 42) d_X12_keepsAct_42 rfl 0 rfl ?_
    refine GW_dup (X := X_X12_keepsAct) (pc := 43) d_X12_keepsAct_43 rfl ?_
    replace h := g_bd h
    obtain ⟨v1, hv1, h⟩ := h
    refine GW_getI (X := X_X12_keepsAct) (pc := 44) f_X12_279 d_X12_keepsAct_44 hv1 (Or.inl ty_12_25) ?_
    refine GW_iconst (X := X_X12_keepsAct) (pc := 47) (v := 1) d_X12_keepsAct_47 (by decide) ?_
    refine GW_isub (X := X_X12_keepsAct) (pc := 48) d_X12_keepsAct_48 ?_
    replace h := g_bd h
    obtain ⟨M2, hM2, h⟩ := h
    refine GW_putI (X := X_X12_keepsAct) (pc := 49) f_X12_279 d_X12_keepsAct_49 hM2 (Or.inl fi_12_25) (Or.inl ty_12_25) ?_
    refine GW_sub [0] rfl ?_
    exact T_X12_keepsAct_b52 r l0 M2 h
  · replace h := g_ie c h
    refine GW_aload_n (X := X_X12_keepsAct) (pc := 20) d_X12_keepsAct_20 rfl 0 rfl ?_
    replace h := g_bd h
    obtain ⟨v3, hv3, h⟩ := h
    refine GW_getR (X := X_X12_keepsAct) (pc := 21) f_X12_49 d_X12_keepsAct_21 hv3 (Or.inr ⟨_, ty_12_24⟩) ?_
    refine GW_iload_n (X := X_X12_keepsAct) (pc := 24) d_X12_keepsAct_24 rfl 1 rfl ?_
    refine GW_sipush (X := X_X12_keepsAct) (pc := 25) (v := 157) d_X12_keepsAct_25 (by decide) ?_
    refine GW_isub (X := X_X12_keepsAct) (pc := 28) d_X12_keepsAct_28 ?_
    refine GW_aload_n (X := X_X12_keepsAct) (pc := 29) d_X12_keepsAct_29 rfl 0 rfl ?_
    replace h := g_bd h
    obtain ⟨v4, hv4, h⟩ := h
    refine GW_getR (X := X_X12_keepsAct) (pc := 30) f_X12_49 d_X12_keepsAct_30 hv4 (Or.inr ⟨_, ty_12_24⟩) ?_
    refine GW_iload_n (X := X_X12_keepsAct) (pc := 33) d_X12_keepsAct_33 rfl 1 rfl ?_
    replace h := g_bd h
    obtain ⟨v5, hv5, h⟩ := h
    refine GW_iald (X := X_X12_keepsAct) (pc := 34) d_X12_keepsAct_34 hv5 ?_
    replace h := g_bd h
    obtain ⟨M6, hM6, h⟩ := h
    refine GW_iast (X := X_X12_keepsAct) (pc := 35) d_X12_keepsAct_35 hM6 ?_
    refine GW_iinc (j := 1) (X := X_X12_keepsAct) (pc := 36) d_X12_keepsAct_36 rfl (congrArg (fun z => _ + z) (by decide : Int32.ofInt 1 = (1 : Int32))) (Nat.le_of_ble_eq_true rfl) (lv2 := [(1, vi (l1 + 1)), (0, vr l0)]) rfl ?_
    refine GW_goto (X := X_X12_keepsAct) (pc := 39) 13 d_X12_keepsAct_39 (by decide) ?_
    refine GW_sub [1, 0] rfl ?_
    exact hk13 l0 (l1 + 1) M6 h
def F_X12_keepsAct_L13 : Nat → Option Nat → Int32 → gM → Option gM
  | 0 => fun _ _ _ => none
  | n + 1 => F_X12_keepsAct_b13 (F_X12_keepsAct_L13 n)
theorem T_X12_keepsAct_L13 (r : gM) : ∀ (n : Nat) (l0 : Option Nat) (l1 : Int32) (M : gM), F_X12_keepsAct_L13 n l0 l1 M = some r → GW 0 0 0 X_X12_keepsAct 13 [(0, vr l0), (1, vi l1)] [] M (none, r) := by
  intro n
  induction n with
  | zero => intro l0 l1 M h; exact g_no h
  | succ n ih => intro l0 l1 M h; exact T_X12_keepsAct_b13 (F_X12_keepsAct_L13 n) r ih l0 l1 M h
def F_X12_keepsAct_b0 (l0 : Option Nat) (M : gM) : Option gM :=
  (gI 12 M l0 25).bind fun v1 => if v1 = (20 : Int32) then (F_X12_keepsAct_L13 g_fuel l0 (157 : Int32) M) else (F_X12_keepsAct_b52 l0 M)
theorem T_X12_keepsAct_b0 (r : gM) (l0 : Option Nat) (M : gM) (h : F_X12_keepsAct_b0 l0 M = some r) : GW 0 0 0 X_X12_keepsAct 0 [(0, vr l0)] [] M (none, r) := by
  delta F_X12_keepsAct_b0 at h
  refine GW_aload_n (X := X_X12_keepsAct) (pc := 0) d_X12_keepsAct_0 rfl 0 rfl ?_
  replace h := g_bd h
  obtain ⟨v1, hv1, h⟩ := h
  refine GW_getI (X := X_X12_keepsAct) (pc := 1) f_X12_279 d_X12_keepsAct_1 hv1 (Or.inl ty_12_25) ?_
  refine GW_bipush (X := X_X12_keepsAct) (pc := 4) (v := 20) d_X12_keepsAct_4 (by decide) ?_
  refine GW_icmp_ne (X := X_X12_keepsAct) (pc := 6) 52 d_X12_keepsAct_6 (by decide) (fun c => ?_) (fun c => ?_)
  · replace h := g_ie c h
    exact T_X12_keepsAct_b52 r l0 M h
  · replace h := g_ip c h
    refine GW_sipush (X := X_X12_keepsAct) (pc := 9) (v := 157) d_X12_keepsAct_9 (by decide) ?_
    refine GW_istore_n (X := X_X12_keepsAct) (pc := 12) d_X12_keepsAct_12 rfl (Nat.le_of_ble_eq_true rfl) (lv2 := [(1, vi (157 : Int32)), (0, vr l0)]) rfl ?_
    refine GW_sub [1, 0] rfl ?_
    exact T_X12_keepsAct_L13 r g_fuel l0 (157 : Int32) M h
def F_X12_keepsAct (l0 : Option Nat) (M : gM) : Option gM := F_X12_keepsAct_b0 l0 M
theorem T_X12_keepsAct (l0 : Option Nat) (M : gM) (r : gM) (h : F_X12_keepsAct l0 M = some r) : g_Met 0 0 0 yX12_keepsAct X_X12_keepsAct [vr l0] M (none, r) :=
  g_Met_of pn_RX12 rfl (Nat.le_of_ble_eq_true rfl) (fun h => by cases h) (GW_sub [0] rfl (T_X12_keepsAct_b0 r l0 M h))
/-! ForgetHeirsModel.fades(III)I -/
theorem d_X12_fades_0 : decode cX12_fades 0 = .ok (.aload_n 0, 1) := by decide +kernel
theorem d_X12_fades_1 : decode cX12_fades 1 = .ok (.iload_n 2, 1) := by decide +kernel
theorem d_X12_fades_2 : decode cX12_fades 2 = .ok (.iconst 1, 1) := by decide +kernel
theorem d_X12_fades_3 : decode cX12_fades 3 = .ok (.invokevirtual 301, 3) := by decide +kernel
theorem d_X12_fades_6 : decode cX12_fades 6 = .ok (.istore 4, 2) := by decide +kernel
theorem d_X12_fades_8 : decode cX12_fades 8 = .ok (.aload_n 0, 1) := by decide +kernel
theorem d_X12_fades_9 : decode cX12_fades 9 = .ok (.getfield 39, 3) := by decide +kernel
theorem d_X12_fades_12 : decode cX12_fades 12 = .ok (.bipush 8, 2) := by decide +kernel
theorem d_X12_fades_14 : decode cX12_fades 14 = .ok (.iaload, 1) := by decide +kernel
theorem d_X12_fades_15 : decode cX12_fades 15 = .ok (.iload_n 2, 1) := by decide +kernel
theorem d_X12_fades_16 : decode cX12_fades 16 = .ok (.invokestatic 226, 3) := by decide +kernel
theorem d_X12_fades_19 : decode cX12_fades 19 = .ok (.ifCond .eq 9, 3) := by decide +kernel
theorem d_X12_fades_22 : decode cX12_fades 22 = .ok (.iconst 2, 1) := by decide +kernel
theorem d_X12_fades_23 : decode cX12_fades 23 = .ok (.iload 4, 2) := by decide +kernel
theorem d_X12_fades_25 : decode cX12_fades 25 = .ok (.imul, 1) := by decide +kernel
theorem d_X12_fades_26 : decode cX12_fades 26 = .ok (.istore 4, 2) := by decide +kernel
theorem d_X12_fades_28 : decode cX12_fades 28 = .ok (.aload_n 0, 1) := by decide +kernel
theorem d_X12_fades_29 : decode cX12_fades 29 = .ok (.getfield 39, 3) := by decide +kernel
theorem d_X12_fades_32 : decode cX12_fades 32 = .ok (.bipush 7, 2) := by decide +kernel
theorem d_X12_fades_34 : decode cX12_fades 34 = .ok (.iaload, 1) := by decide +kernel
theorem d_X12_fades_35 : decode cX12_fades 35 = .ok (.iload_n 2, 1) := by decide +kernel
theorem d_X12_fades_36 : decode cX12_fades 36 = .ok (.invokestatic 226, 3) := by decide +kernel
theorem d_X12_fades_39 : decode cX12_fades 39 = .ok (.ifCond .eq 9, 3) := by decide +kernel
theorem d_X12_fades_42 : decode cX12_fades 42 = .ok (.iload 4, 2) := by decide +kernel
theorem d_X12_fades_44 : decode cX12_fades 44 = .ok (.iconst 2, 1) := by decide +kernel
theorem d_X12_fades_45 : decode cX12_fades 45 = .ok (.idiv, 1) := by decide +kernel
theorem d_X12_fades_46 : decode cX12_fades 46 = .ok (.istore 4, 2) := by decide +kernel
theorem d_X12_fades_48 : decode cX12_fades 48 = .ok (.iload 4, 2) := by decide +kernel
theorem d_X12_fades_50 : decode cX12_fades 50 = .ok (.iload_n 3, 1) := by decide +kernel
theorem d_X12_fades_51 : decode cX12_fades 51 = .ok (.bipush 20, 2) := by decide +kernel
theorem d_X12_fades_53 : decode cX12_fades 53 = .ok (.idiv, 1) := by decide +kernel
theorem d_X12_fades_54 : decode cX12_fades 54 = .ok (.iadd, 1) := by decide +kernel
theorem d_X12_fades_55 : decode cX12_fades 55 = .ok (.istore 4, 2) := by decide +kernel
theorem d_X12_fades_57 : decode cX12_fades 57 = .ok (.iload 4, 2) := by decide +kernel
theorem d_X12_fades_59 : decode cX12_fades 59 = .ok (.bipush 99, 2) := by decide +kernel
theorem d_X12_fades_61 : decode cX12_fades 61 = .ok (.if_icmp .le 8, 3) := by decide +kernel
theorem d_X12_fades_64 : decode cX12_fades 64 = .ok (.bipush 99, 2) := by decide +kernel
theorem d_X12_fades_66 : decode cX12_fades 66 = .ok (.goto 5, 3) := by decide +kernel
theorem d_X12_fades_69 : decode cX12_fades 69 = .ok (.iload 4, 2) := by decide +kernel
theorem d_X12_fades_71 : decode cX12_fades 71 = .ok (.istore 4, 2) := by decide +kernel
theorem d_X12_fades_73 : decode cX12_fades 73 = .ok (.aload_n 0, 1) := by decide +kernel
theorem d_X12_fades_74 : decode cX12_fades 74 = .ok (.getfield 39, 3) := by decide +kernel
theorem d_X12_fades_77 : decode cX12_fades 77 = .ok (.bipush 6, 2) := by decide +kernel
theorem d_X12_fades_79 : decode cX12_fades 79 = .ok (.iaload, 1) := by decide +kernel
theorem d_X12_fades_80 : decode cX12_fades 80 = .ok (.iload_n 1, 1) := by decide +kernel
theorem d_X12_fades_81 : decode cX12_fades 81 = .ok (.invokestatic 226, 3) := by decide +kernel
theorem d_X12_fades_84 : decode cX12_fades 84 = .ok (.ifCond .eq 10, 3) := by decide +kernel
theorem d_X12_fades_87 : decode cX12_fades 87 = .ok (.iload 4, 2) := by decide +kernel
theorem d_X12_fades_89 : decode cX12_fades 89 = .ok (.iconst 2, 1) := by decide +kernel
theorem d_X12_fades_90 : decode cX12_fades 90 = .ok (.idiv, 1) := by decide +kernel
theorem d_X12_fades_91 : decode cX12_fades 91 = .ok (.goto 5, 3) := by decide +kernel
theorem d_X12_fades_94 : decode cX12_fades 94 = .ok (.iload 4, 2) := by decide +kernel
theorem d_X12_fades_96 : decode cX12_fades 96 = .ok (.ireturn, 1) := by decide +kernel
abbrev X_X12_fades : gX := (RX12, cX12_fades, 5, (some .int), false)
def F_X12_fades_b71 (M : gM) (l0 : Option Nat) (l1 : Int32) (s0 : Int32) : Option Int32 :=
  (gR 12 M l0 20).bind fun v1 => (aI 20 M v1 (6 : Int32)).bind fun v2 => (F_X12_isOf v2 l1 M).bind fun v3 => if v3 = 0 then (some s0) else (some (s0 / (2 : Int32)))
theorem T_X12_fades_b71 (M : gM) (r : Int32) (l0 : Option Nat) (l1 : Int32) (s0 : Int32) (h : F_X12_fades_b71 M l0 l1 s0 = some r) : GW 1 0 0 X_X12_fades 71 [(0, vr l0), (1, vi l1)] [vi s0] M (some (vi r), M) := by
  delta F_X12_fades_b71 at h
  refine GW_istore (X := X_X12_fades) (pc := 71) d_X12_fades_71 (Nat.le_of_ble_eq_true rfl) (lv2 := [(4, vi s0), (0, vr l0), (1, vi l1)]) rfl ?_
  refine GW_aload_n (X := X_X12_fades) (pc := 73) d_X12_fades_73 rfl 1 rfl ?_
  replace h := g_bd h
  obtain ⟨v1, hv1, h⟩ := h
  refine GW_getR (X := X_X12_fades) (pc := 74) f_X12_39 d_X12_fades_74 hv1 (Or.inr ⟨_, ty_12_20⟩) ?_
  refine GW_bipush (X := X_X12_fades) (pc := 77) (v := 6) d_X12_fades_77 (by decide) ?_
  replace h := g_bd h
  obtain ⟨v2, hv2, h⟩ := h
  refine GW_iald (X := X_X12_fades) (pc := 79) d_X12_fades_79 hv2 ?_
  refine GW_iload_n (X := X_X12_fades) (pc := 80) d_X12_fades_80 rfl 2 rfl ?_
  replace h := g_bd h
  obtain ⟨v3, hv3, h⟩ := h
  refine GW_callS (X := X_X12_fades) (pc := 81) (bc0 := 0) (bs0 := 0) (r := some (vi v3)) (M2 := M) (T_X12_isOf v2 l1 M v3 hv3) (Nat.le_of_ble_eq_true rfl) (Nat.le_of_ble_eq_true rfl) yc_X12_isOf ⟨m_1314, m_1315, m_127, m_1316⟩ d_X12_fades_81 rfl (st := []) rfl (Nat.le_of_ble_eq_true rfl) (Nat.le_of_ble_eq_true rfl) (Nat.le_of_ble_eq_true rfl) (st2 := [vi v3]) rfl ?_
  refine GW_if_eq (X := X_X12_fades) (pc := 84) 94 d_X12_fades_84 (by decide) (fun c => ?_) (fun c => ?_)
  · replace h := g_ip c h
    refine GW_iload (X := X_X12_fades) (pc := 94) d_X12_fades_94 0 rfl ?_
    replace h := Option.some.inj h
    subst h
    exact GW_ret (X := X_X12_fades) (pc := 96) d_X12_fades_96 rfl trivial
  · replace h := g_ie c h
    refine GW_iload (X := X_X12_fades) (pc := 87) d_X12_fades_87 0 rfl ?_
    refine GW_iconst (X := X_X12_fades) (pc := 89) (v := 2) d_X12_fades_89 (by decide) ?_
    refine GW_idiv (X := X_X12_fades) (pc := 90) d_X12_fades_90 (by decide) ?_
    refine GW_goto (X := X_X12_fades) (pc := 91) 96 d_X12_fades_91 (by decide) ?_
    replace h := Option.some.inj h
    subst h
    exact GW_ret (X := X_X12_fades) (pc := 96) d_X12_fades_96 rfl trivial
def F_X12_fades_b48 (M : gM) (l0 : Option Nat) (l1 : Int32) (l3 : Int32) (l4 : Int32) : Option Int32 :=
  if (l4 + (l3 / (20 : Int32))) ≤ (99 : Int32) then (F_X12_fades_b71 M l0 l1 (l4 + (l3 / (20 : Int32)))) else (F_X12_fades_b71 M l0 l1 (99 : Int32))
theorem T_X12_fades_b48 (M : gM) (r : Int32) (l0 : Option Nat) (l1 : Int32) (l3 : Int32) (l4 : Int32) (h : F_X12_fades_b48 M l0 l1 l3 l4 = some r) : GW 1 0 0 X_X12_fades 48 [(0, vr l0), (1, vi l1), (3, vi l3), (4, vi l4)] [] M (some (vi r), M) := by
  delta F_X12_fades_b48 at h
  refine GW_iload (X := X_X12_fades) (pc := 48) d_X12_fades_48 3 rfl ?_
  refine GW_iload_n (X := X_X12_fades) (pc := 50) d_X12_fades_50 rfl 2 rfl ?_
  refine GW_bipush (X := X_X12_fades) (pc := 51) (v := 20) d_X12_fades_51 (by decide) ?_
  refine GW_idiv (X := X_X12_fades) (pc := 53) d_X12_fades_53 (by decide) ?_
  refine GW_iadd (X := X_X12_fades) (pc := 54) d_X12_fades_54 ?_
  refine GW_istore (X := X_X12_fades) (pc := 55) d_X12_fades_55 (Nat.le_of_ble_eq_true rfl) (lv2 := [(4, vi (l4 + (l3 / (20 : Int32)))), (0, vr l0), (1, vi l1), (3, vi l3)]) rfl ?_
  refine GW_iload (X := X_X12_fades) (pc := 57) d_X12_fades_57 0 rfl ?_
  refine GW_bipush (X := X_X12_fades) (pc := 59) (v := 99) d_X12_fades_59 (by decide) ?_
  refine GW_icmp_le (X := X_X12_fades) (pc := 61) 69 d_X12_fades_61 (by decide) (fun c => ?_) (fun c => ?_)
  · replace h := g_ip c h
    refine GW_iload (X := X_X12_fades) (pc := 69) d_X12_fades_69 0 rfl ?_
    refine GW_sub [1, 2] rfl ?_
    exact T_X12_fades_b71 M r l0 l1 (l4 + (l3 / (20 : Int32))) h
  · replace h := g_ie c h
    refine GW_bipush (X := X_X12_fades) (pc := 64) (v := 99) d_X12_fades_64 (by decide) ?_
    refine GW_goto (X := X_X12_fades) (pc := 66) 71 d_X12_fades_66 (by decide) ?_
    refine GW_sub [1, 2] rfl ?_
    exact T_X12_fades_b71 M r l0 l1 (99 : Int32) h
def F_X12_fades_b28 (M : gM) (l0 : Option Nat) (l1 : Int32) (l2 : Int32) (l3 : Int32) (l4 : Int32) : Option Int32 :=
  (gR 12 M l0 20).bind fun v1 => (aI 20 M v1 (7 : Int32)).bind fun v2 => (F_X12_isOf v2 l2 M).bind fun v3 => if v3 = 0 then (F_X12_fades_b48 M l0 l1 l3 l4) else (F_X12_fades_b48 M l0 l1 l3 (l4 / (2 : Int32)))
theorem T_X12_fades_b28 (M : gM) (r : Int32) (l0 : Option Nat) (l1 : Int32) (l2 : Int32) (l3 : Int32) (l4 : Int32) (h : F_X12_fades_b28 M l0 l1 l2 l3 l4 = some r) : GW 1 0 0 X_X12_fades 28 [(0, vr l0), (1, vi l1), (2, vi l2), (3, vi l3), (4, vi l4)] [] M (some (vi r), M) := by
  delta F_X12_fades_b28 at h
  refine GW_aload_n (X := X_X12_fades) (pc := 28) d_X12_fades_28 rfl 0 rfl ?_
  replace h := g_bd h
  obtain ⟨v1, hv1, h⟩ := h
  refine GW_getR (X := X_X12_fades) (pc := 29) f_X12_39 d_X12_fades_29 hv1 (Or.inr ⟨_, ty_12_20⟩) ?_
  refine GW_bipush (X := X_X12_fades) (pc := 32) (v := 7) d_X12_fades_32 (by decide) ?_
  replace h := g_bd h
  obtain ⟨v2, hv2, h⟩ := h
  refine GW_iald (X := X_X12_fades) (pc := 34) d_X12_fades_34 hv2 ?_
  refine GW_iload_n (X := X_X12_fades) (pc := 35) d_X12_fades_35 rfl 2 rfl ?_
  replace h := g_bd h
  obtain ⟨v3, hv3, h⟩ := h
  refine GW_callS (X := X_X12_fades) (pc := 36) (bc0 := 0) (bs0 := 0) (r := some (vi v3)) (M2 := M) (T_X12_isOf v2 l2 M v3 hv3) (Nat.le_of_ble_eq_true rfl) (Nat.le_of_ble_eq_true rfl) yc_X12_isOf ⟨m_1314, m_1315, m_127, m_1316⟩ d_X12_fades_36 rfl (st := []) rfl (Nat.le_of_ble_eq_true rfl) (Nat.le_of_ble_eq_true rfl) (Nat.le_of_ble_eq_true rfl) (st2 := [vi v3]) rfl ?_
  refine GW_if_eq (X := X_X12_fades) (pc := 39) 48 d_X12_fades_39 (by decide) (fun c => ?_) (fun c => ?_)
  · replace h := g_ip c h
    refine GW_sub [0, 1, 3, 4] rfl ?_
    exact T_X12_fades_b48 M r l0 l1 l3 l4 h
  · replace h := g_ie c h
    refine GW_iload (X := X_X12_fades) (pc := 42) d_X12_fades_42 4 rfl ?_
    refine GW_iconst (X := X_X12_fades) (pc := 44) (v := 2) d_X12_fades_44 (by decide) ?_
    refine GW_idiv (X := X_X12_fades) (pc := 45) d_X12_fades_45 (by decide) ?_
    refine GW_istore (X := X_X12_fades) (pc := 46) d_X12_fades_46 (Nat.le_of_ble_eq_true rfl) (lv2 := [(4, vi (l4 / (2 : Int32))), (0, vr l0), (1, vi l1), (2, vi l2), (3, vi l3)]) rfl ?_
    refine GW_sub [1, 2, 4, 0] rfl ?_
    exact T_X12_fades_b48 M r l0 l1 l3 (l4 / (2 : Int32)) h
def F_X12_fades_b0 (M : gM) (l0 : Option Nat) (l1 : Int32) (l2 : Int32) (l3 : Int32) : Option Int32 :=
  (gO 12 M l0).bind fun i1 => (F_X12_thingOf (some i1) l2 (1 : Int32) M).bind fun v2 => (gR 12 M (some i1) 20).bind fun v3 => (aI 20 M v3 (8 : Int32)).bind fun v4 => (F_X12_isOf v4 l2 M).bind fun v5 => if v5 = 0 then (F_X12_fades_b28 M (some i1) l1 l2 l3 v2) else (F_X12_fades_b28 M (some i1) l1 l2 l3 ((2 : Int32) * v2))
theorem T_X12_fades_b0 (M : gM) (r : Int32) (l0 : Option Nat) (l1 : Int32) (l2 : Int32) (l3 : Int32) (h : F_X12_fades_b0 M l0 l1 l2 l3 = some r) : GW 1 0 0 X_X12_fades 0 [(0, vr l0), (1, vi l1), (2, vi l2), (3, vi l3)] [] M (some (vi r), M) := by
  delta F_X12_fades_b0 at h
  refine GW_aload_n (X := X_X12_fades) (pc := 0) d_X12_fades_0 rfl 0 rfl ?_
  refine GW_iload_n (X := X_X12_fades) (pc := 1) d_X12_fades_1 rfl 2 rfl ?_
  refine GW_iconst (X := X_X12_fades) (pc := 2) (v := 1) d_X12_fades_2 (by decide) ?_
  replace h := g_bd h
  obtain ⟨i1, hi1, h⟩ := h
  obtain ⟨rfl, ki1⟩ := g_gO hi1
  replace h := g_bd h
  obtain ⟨v2, hv2, h⟩ := h
  refine GW_callV (X := X_X12_fades) (pc := 3) (bc0 := 0) (bs0 := 0) (r := some (vi v2)) (M2 := M) (c0 := 12) (T_X12_thingOf (some i1) l2 (1 : Int32) M v2 hv2) (Nat.le_of_ble_eq_true rfl) (Nat.le_of_ble_eq_true rfl) rfl g_cok12 ki1 yc_X12_thingOf ⟨m_1428, m_1430, m_79, m_127, m_1431⟩ d_X12_fades_3 rfl (st := []) rfl (Nat.le_of_ble_eq_true rfl) (Nat.le_of_ble_eq_true rfl) (Nat.le_of_ble_eq_true rfl) (st2 := [vi v2]) rfl ?_
  refine GW_istore (X := X_X12_fades) (pc := 6) d_X12_fades_6 (Nat.le_of_ble_eq_true rfl) (lv2 := [(4, vi v2), (0, vr (some i1)), (1, vi l1), (2, vi l2), (3, vi l3)]) rfl ?_
  refine GW_aload_n (X := X_X12_fades) (pc := 8) d_X12_fades_8 rfl 1 rfl ?_
  replace h := g_bd h
  obtain ⟨v3, hv3, h⟩ := h
  refine GW_getR (X := X_X12_fades) (pc := 9) f_X12_39 d_X12_fades_9 hv3 (Or.inr ⟨_, ty_12_20⟩) ?_
  refine GW_bipush (X := X_X12_fades) (pc := 12) (v := 8) d_X12_fades_12 (by decide) ?_
  replace h := g_bd h
  obtain ⟨v4, hv4, h⟩ := h
  refine GW_iald (X := X_X12_fades) (pc := 14) d_X12_fades_14 hv4 ?_
  refine GW_iload_n (X := X_X12_fades) (pc := 15) d_X12_fades_15 rfl 3 rfl ?_
  replace h := g_bd h
  obtain ⟨v5, hv5, h⟩ := h
  refine GW_callS (X := X_X12_fades) (pc := 16) (bc0 := 0) (bs0 := 0) (r := some (vi v5)) (M2 := M) (T_X12_isOf v4 l2 M v5 hv5) (Nat.le_of_ble_eq_true rfl) (Nat.le_of_ble_eq_true rfl) yc_X12_isOf ⟨m_1314, m_1315, m_127, m_1316⟩ d_X12_fades_16 rfl (st := []) rfl (Nat.le_of_ble_eq_true rfl) (Nat.le_of_ble_eq_true rfl) (Nat.le_of_ble_eq_true rfl) (st2 := [vi v5]) rfl ?_
  refine GW_if_eq (X := X_X12_fades) (pc := 19) 28 d_X12_fades_19 (by decide) (fun c => ?_) (fun c => ?_)
  · replace h := g_ip c h
    refine GW_sub [1, 2, 3, 4, 0] rfl ?_
    exact T_X12_fades_b28 M r (some i1) l1 l2 l3 v2 h
  · replace h := g_ie c h
    refine GW_iconst (X := X_X12_fades) (pc := 22) (v := 2) d_X12_fades_22 (by decide) ?_
    refine GW_iload (X := X_X12_fades) (pc := 23) d_X12_fades_23 0 rfl ?_
    refine GW_imul (X := X_X12_fades) (pc := 25) d_X12_fades_25 ?_
    refine GW_istore (X := X_X12_fades) (pc := 26) d_X12_fades_26 (Nat.le_of_ble_eq_true rfl) (lv2 := [(4, vi ((2 : Int32) * v2)), (0, vr (some i1)), (1, vi l1), (2, vi l2), (3, vi l3)]) rfl ?_
    refine GW_sub [1, 2, 3, 4, 0] rfl ?_
    exact T_X12_fades_b28 M r (some i1) l1 l2 l3 ((2 : Int32) * v2) h
def F_X12_fades (l0 : Option Nat) (l1 : Int32) (l2 : Int32) (l3 : Int32) (M : gM) : Option Int32 := F_X12_fades_b0 M l0 l1 l2 l3
theorem T_X12_fades (l0 : Option Nat) (l1 : Int32) (l2 : Int32) (l3 : Int32) (M : gM) (r : Int32) (h : F_X12_fades l0 l1 l2 l3 M = some r) : g_Met 1 0 0 yX12_fades X_X12_fades [vr l0, vi l1, vi l2, vi l3] M (some (vi r), M) :=
  g_Met_of pn_RX12 rfl (Nat.le_of_ble_eq_true rfl) (fun h => by cases h) (GW_sub [0, 1, 2, 3] rfl (T_X12_fades_b0 M r l0 l1 l2 l3 h))
/-! ForgetHeirsModel.strengthOf(II)I -/
theorem d_X12_strengthOf_0 : decode cX12_strengthOf 0 = .ok (.aload_n 0, 1) := by decide +kernel
theorem d_X12_strengthOf_1 : decode cX12_strengthOf 1 = .ok (.getfield 39, 3) := by decide +kernel
theorem d_X12_strengthOf_4 : decode cX12_strengthOf 4 = .ok (.bipush 59, 2) := by decide +kernel
theorem d_X12_strengthOf_6 : decode cX12_strengthOf 6 = .ok (.bipush 14, 2) := by decide +kernel
theorem d_X12_strengthOf_8 : decode cX12_strengthOf 8 = .ok (.iload_n 1, 1) := by decide +kernel
theorem d_X12_strengthOf_9 : decode cX12_strengthOf 9 = .ok (.imul, 1) := by decide +kernel
theorem d_X12_strengthOf_10 : decode cX12_strengthOf 10 = .ok (.iadd, 1) := by decide +kernel
theorem d_X12_strengthOf_11 : decode cX12_strengthOf 11 = .ok (.iconst 2, 1) := by decide +kernel
theorem d_X12_strengthOf_12 : decode cX12_strengthOf 12 = .ok (.iload_n 2, 1) := by decide +kernel
theorem d_X12_strengthOf_13 : decode cX12_strengthOf 13 = .ok (.imul, 1) := by decide +kernel
theorem d_X12_strengthOf_14 : decode cX12_strengthOf 14 = .ok (.iadd, 1) := by decide +kernel
theorem d_X12_strengthOf_15 : decode cX12_strengthOf 15 = .ok (.iconst 1, 1) := by decide +kernel
theorem d_X12_strengthOf_16 : decode cX12_strengthOf 16 = .ok (.iadd, 1) := by decide +kernel
theorem d_X12_strengthOf_17 : decode cX12_strengthOf 17 = .ok (.iaload, 1) := by decide +kernel
theorem d_X12_strengthOf_18 : decode cX12_strengthOf 18 = .ok (.ireturn, 1) := by decide +kernel
abbrev X_X12_strengthOf : gX := (RX12, cX12_strengthOf, 3, (some .int), false)
def F_X12_strengthOf_b0 (M : gM) (l0 : Option Nat) (l1 : Int32) (l2 : Int32) : Option Int32 :=
  (gR 12 M l0 20).bind fun v1 => (aI 20 M v1 ((((59 : Int32) + ((14 : Int32) * l1)) + ((2 : Int32) * l2)) + (1 : Int32))).bind fun v2 => some v2
theorem T_X12_strengthOf_b0 (M : gM) (r : Int32) (l0 : Option Nat) (l1 : Int32) (l2 : Int32) (h : F_X12_strengthOf_b0 M l0 l1 l2 = some r) : GW 0 0 0 X_X12_strengthOf 0 [(0, vr l0), (1, vi l1), (2, vi l2)] [] M (some (vi r), M) := by
  delta F_X12_strengthOf_b0 at h
  refine GW_aload_n (X := X_X12_strengthOf) (pc := 0) d_X12_strengthOf_0 rfl 0 rfl ?_
  replace h := g_bd h
  obtain ⟨v1, hv1, h⟩ := h
  refine GW_getR (X := X_X12_strengthOf) (pc := 1) f_X12_39 d_X12_strengthOf_1 hv1 (Or.inr ⟨_, ty_12_20⟩) ?_
  refine GW_bipush (X := X_X12_strengthOf) (pc := 4) (v := 59) d_X12_strengthOf_4 (by decide) ?_
  refine GW_bipush (X := X_X12_strengthOf) (pc := 6) (v := 14) d_X12_strengthOf_6 (by decide) ?_
  refine GW_iload_n (X := X_X12_strengthOf) (pc := 8) d_X12_strengthOf_8 rfl 1 rfl ?_
  refine GW_imul (X := X_X12_strengthOf) (pc := 9) d_X12_strengthOf_9 ?_
  refine GW_iadd (X := X_X12_strengthOf) (pc := 10) d_X12_strengthOf_10 ?_
  refine GW_iconst (X := X_X12_strengthOf) (pc := 11) (v := 2) d_X12_strengthOf_11 (by decide) ?_
  refine GW_iload_n (X := X_X12_strengthOf) (pc := 12) d_X12_strengthOf_12 rfl 2 rfl ?_
  refine GW_imul (X := X_X12_strengthOf) (pc := 13) d_X12_strengthOf_13 ?_
  refine GW_iadd (X := X_X12_strengthOf) (pc := 14) d_X12_strengthOf_14 ?_
  refine GW_iconst (X := X_X12_strengthOf) (pc := 15) (v := 1) d_X12_strengthOf_15 (by decide) ?_
  refine GW_iadd (X := X_X12_strengthOf) (pc := 16) d_X12_strengthOf_16 ?_
  replace h := g_bd h
  obtain ⟨v2, hv2, h⟩ := h
  refine GW_iald (X := X_X12_strengthOf) (pc := 17) d_X12_strengthOf_17 hv2 ?_
  replace h := Option.some.inj h
  subst h
  exact GW_ret (X := X_X12_strengthOf) (pc := 18) d_X12_strengthOf_18 rfl trivial
def F_X12_strengthOf (l0 : Option Nat) (l1 : Int32) (l2 : Int32) (M : gM) : Option Int32 := F_X12_strengthOf_b0 M l0 l1 l2
theorem T_X12_strengthOf (l0 : Option Nat) (l1 : Int32) (l2 : Int32) (M : gM) (r : Int32) (h : F_X12_strengthOf l0 l1 l2 M = some r) : g_Met 0 0 0 yX12_strengthOf X_X12_strengthOf [vr l0, vi l1, vi l2] M (some (vi r), M) :=
  g_Met_of pn_RX12 rfl (Nat.le_of_ble_eq_true rfl) (fun h => by cases h) (GW_sub [0, 1, 2] rfl (T_X12_strengthOf_b0 M r l0 l1 l2 h))
/-! ForgetHeirsModel.words(II)V -/
theorem d_X12_words_0 : decode cX12_words 0 = .ok (.iconst 0, 1) := by decide +kernel
theorem d_X12_words_1 : decode cX12_words 1 = .ok (.istore_n 3, 1) := by decide +kernel
theorem d_X12_words_2 : decode cX12_words 2 = .ok (.iconst 0, 1) := by decide +kernel
theorem d_X12_words_3 : decode cX12_words 3 = .ok (.istore 4, 2) := by decide +kernel
theorem d_X12_words_5 : decode cX12_words 5 = .ok (.iload 4, 2) := by decide +kernel
theorem d_X12_words_7 : decode cX12_words 7 = .ok (.aload_n 0, 1) := by decide +kernel
theorem d_X12_words_8 : decode cX12_words 8 = .ok (.getfield 39, 3) := by decide +kernel
theorem d_X12_words_11 : decode cX12_words 11 = .ok (.iconst 1, 1) := by decide +kernel
theorem d_X12_words_12 : decode cX12_words 12 = .ok (.iaload, 1) := by decide +kernel
theorem d_X12_words_13 : decode cX12_words 13 = .ok (.if_icmp .ge 27, 3) := by decide +kernel
theorem d_X12_words_16 : decode cX12_words 16 = .ok (.iload_n 3, 1) := by decide +kernel
theorem d_X12_words_17 : decode cX12_words 17 = .ok (.aload_n 0, 1) := by decide +kernel
theorem d_X12_words_18 : decode cX12_words 18 = .ok (.iload_n 1, 1) := by decide +kernel
theorem d_X12_words_19 : decode cX12_words 19 = .ok (.iload 4, 2) := by decide +kernel
theorem d_X12_words_21 : decode cX12_words 21 = .ok (.invokevirtual 304, 3) := by decide +kernel
theorem d_X12_words_24 : decode cX12_words 24 = .ok (.ifCond .eq 7, 3) := by decide +kernel
theorem d_X12_words_27 : decode cX12_words 27 = .ok (.iconst 1, 1) := by decide +kernel
theorem d_X12_words_28 : decode cX12_words 28 = .ok (.goto 4, 3) := by decide +kernel
theorem d_X12_words_31 : decode cX12_words 31 = .ok (.iconst 0, 1) := by decide +kernel
theorem d_X12_words_32 : decode cX12_words 32 = .ok (.iadd, 1) := by decide +kernel
theorem d_X12_words_33 : decode cX12_words 33 = .ok (.istore_n 3, 1) := by decide +kernel
theorem d_X12_words_34 : decode cX12_words 34 = .ok (.iinc 4 1, 3) := by decide +kernel
theorem d_X12_words_37 : decode cX12_words 37 = .ok (.goto (-32), 3) := by decide +kernel
theorem d_X12_words_40 : decode cX12_words 40 = .ok (.aload_n 0, 1) := by decide +kernel
theorem d_X12_words_41 : decode cX12_words 41 = .ok (.getfield 36, 3) := by decide +kernel
theorem d_X12_words_44 : decode cX12_words 44 = .ok (.iconst 0, 1) := by decide +kernel
theorem d_X12_words_45 : decode cX12_words 45 = .ok (.iload_n 1, 1) := by decide +kernel
theorem d_X12_words_46 : decode cX12_words 46 = .ok (.i2l, 1) := by decide +kernel
theorem d_X12_words_47 : decode cX12_words 47 = .ok (.lastore, 1) := by decide +kernel
theorem d_X12_words_48 : decode cX12_words 48 = .ok (.aload_n 0, 1) := by decide +kernel
theorem d_X12_words_49 : decode cX12_words 49 = .ok (.getfield 36, 3) := by decide +kernel
theorem d_X12_words_52 : decode cX12_words 52 = .ok (.iconst 1, 1) := by decide +kernel
theorem d_X12_words_53 : decode cX12_words 53 = .ok (.iload_n 2, 1) := by decide +kernel
theorem d_X12_words_54 : decode cX12_words 54 = .ok (.i2l, 1) := by decide +kernel
theorem d_X12_words_55 : decode cX12_words 55 = .ok (.lastore, 1) := by decide +kernel
theorem d_X12_words_56 : decode cX12_words 56 = .ok (.aload_n 0, 1) := by decide +kernel
theorem d_X12_words_57 : decode cX12_words 57 = .ok (.getfield 36, 3) := by decide +kernel
theorem d_X12_words_60 : decode cX12_words 60 = .ok (.iconst 2, 1) := by decide +kernel
theorem d_X12_words_61 : decode cX12_words 61 = .ok (.aload_n 0, 1) := by decide +kernel
theorem d_X12_words_62 : decode cX12_words 62 = .ok (.iload_n 1, 1) := by decide +kernel
theorem d_X12_words_63 : decode cX12_words 63 = .ok (.iload_n 2, 1) := by decide +kernel
theorem d_X12_words_64 : decode cX12_words 64 = .ok (.invokevirtual 297, 3) := by decide +kernel
theorem d_X12_words_67 : decode cX12_words 67 = .ok (.i2l, 1) := by decide +kernel
theorem d_X12_words_68 : decode cX12_words 68 = .ok (.lastore, 1) := by decide +kernel
theorem d_X12_words_69 : decode cX12_words 69 = .ok (.aload_n 0, 1) := by decide +kernel
theorem d_X12_words_70 : decode cX12_words 70 = .ok (.getfield 36, 3) := by decide +kernel
theorem d_X12_words_73 : decode cX12_words 73 = .ok (.iconst 3, 1) := by decide +kernel
theorem d_X12_words_74 : decode cX12_words 74 = .ok (.aload_n 0, 1) := by decide +kernel
theorem d_X12_words_75 : decode cX12_words 75 = .ok (.iload_n 1, 1) := by decide +kernel
theorem d_X12_words_76 : decode cX12_words 76 = .ok (.iload_n 2, 1) := by decide +kernel
theorem d_X12_words_77 : decode cX12_words 77 = .ok (.invokevirtual 297, 3) := by decide +kernel
theorem d_X12_words_80 : decode cX12_words 80 = .ok (.aload_n 0, 1) := by decide +kernel
theorem d_X12_words_81 : decode cX12_words 81 = .ok (.iload_n 2, 1) := by decide +kernel
theorem d_X12_words_82 : decode cX12_words 82 = .ok (.iconst 0, 1) := by decide +kernel
theorem d_X12_words_83 : decode cX12_words 83 = .ok (.invokevirtual 301, 3) := by decide +kernel
theorem d_X12_words_86 : decode cX12_words 86 = .ok (.if_icmp .ne 7, 3) := by decide +kernel
theorem d_X12_words_89 : decode cX12_words 89 = .ok (.lconst 1, 1) := by decide +kernel
theorem d_X12_words_90 : decode cX12_words 90 = .ok (.goto 4, 3) := by decide +kernel
theorem d_X12_words_93 : decode cX12_words 93 = .ok (.lconst 0, 1) := by decide +kernel
theorem d_X12_words_94 : decode cX12_words 94 = .ok (.lastore, 1) := by decide +kernel
theorem d_X12_words_95 : decode cX12_words 95 = .ok (.aload_n 0, 1) := by decide +kernel
theorem d_X12_words_96 : decode cX12_words 96 = .ok (.getfield 36, 3) := by decide +kernel
theorem d_X12_words_99 : decode cX12_words 99 = .ok (.iconst 4, 1) := by decide +kernel
theorem d_X12_words_100 : decode cX12_words 100 = .ok (.aload_n 0, 1) := by decide +kernel
theorem d_X12_words_101 : decode cX12_words 101 = .ok (.iload_n 1, 1) := by decide +kernel
theorem d_X12_words_102 : decode cX12_words 102 = .ok (.iload_n 2, 1) := by decide +kernel
theorem d_X12_words_103 : decode cX12_words 103 = .ok (.invokevirtual 335, 3) := by decide +kernel
theorem d_X12_words_106 : decode cX12_words 106 = .ok (.i2l, 1) := by decide +kernel
theorem d_X12_words_107 : decode cX12_words 107 = .ok (.lastore, 1) := by decide +kernel
theorem d_X12_words_108 : decode cX12_words 108 = .ok (.aload_n 0, 1) := by decide +kernel
theorem d_X12_words_109 : decode cX12_words 109 = .ok (.getfield 36, 3) := by decide +kernel
theorem d_X12_words_112 : decode cX12_words 112 = .ok (.iconst 5, 1) := by decide +kernel
theorem d_X12_words_113 : decode cX12_words 113 = .ok (.aload_n 0, 1) := by decide +kernel
theorem d_X12_words_114 : decode cX12_words 114 = .ok (.getfield 39, 3) := by decide +kernel
theorem d_X12_words_117 : decode cX12_words 117 = .ok (.bipush 38, 2) := by decide +kernel
theorem d_X12_words_119 : decode cX12_words 119 = .ok (.iconst 2, 1) := by decide +kernel
theorem d_X12_words_120 : decode cX12_words 120 = .ok (.iload_n 1, 1) := by decide +kernel
theorem d_X12_words_121 : decode cX12_words 121 = .ok (.imul, 1) := by decide +kernel
theorem d_X12_words_122 : decode cX12_words 122 = .ok (.iadd, 1) := by decide +kernel
theorem d_X12_words_123 : decode cX12_words 123 = .ok (.iaload, 1) := by decide +kernel
theorem d_X12_words_124 : decode cX12_words 124 = .ok (.i2l, 1) := by decide +kernel
theorem d_X12_words_125 : decode cX12_words 125 = .ok (.lastore, 1) := by decide +kernel
theorem d_X12_words_126 : decode cX12_words 126 = .ok (.aload_n 0, 1) := by decide +kernel
theorem d_X12_words_127 : decode cX12_words 127 = .ok (.getfield 36, 3) := by decide +kernel
theorem d_X12_words_130 : decode cX12_words 130 = .ok (.bipush 6, 2) := by decide +kernel
theorem d_X12_words_132 : decode cX12_words 132 = .ok (.aload_n 0, 1) := by decide +kernel
theorem d_X12_words_133 : decode cX12_words 133 = .ok (.getfield 39, 3) := by decide +kernel
theorem d_X12_words_136 : decode cX12_words 136 = .ok (.bipush 6, 2) := by decide +kernel
theorem d_X12_words_138 : decode cX12_words 138 = .ok (.iaload, 1) := by decide +kernel
theorem d_X12_words_139 : decode cX12_words 139 = .ok (.iload_n 1, 1) := by decide +kernel
theorem d_X12_words_140 : decode cX12_words 140 = .ok (.ishr, 1) := by decide +kernel
theorem d_X12_words_141 : decode cX12_words 141 = .ok (.iconst 1, 1) := by decide +kernel
theorem d_X12_words_142 : decode cX12_words 142 = .ok (.iand, 1) := by decide +kernel
theorem d_X12_words_143 : decode cX12_words 143 = .ok (.i2l, 1) := by decide +kernel
theorem d_X12_words_144 : decode cX12_words 144 = .ok (.lastore, 1) := by decide +kernel
theorem d_X12_words_145 : decode cX12_words 145 = .ok (.aload_n 0, 1) := by decide +kernel
theorem d_X12_words_146 : decode cX12_words 146 = .ok (.getfield 36, 3) := by decide +kernel
theorem d_X12_words_149 : decode cX12_words 149 = .ok (.bipush 7, 2) := by decide +kernel
theorem d_X12_words_151 : decode cX12_words 151 = .ok (.aload_n 0, 1) := by decide +kernel
theorem d_X12_words_152 : decode cX12_words 152 = .ok (.getfield 39, 3) := by decide +kernel
theorem d_X12_words_155 : decode cX12_words 155 = .ok (.bipush 7, 2) := by decide +kernel
theorem d_X12_words_157 : decode cX12_words 157 = .ok (.iaload, 1) := by decide +kernel
theorem d_X12_words_158 : decode cX12_words 158 = .ok (.iload_n 2, 1) := by decide +kernel
theorem d_X12_words_159 : decode cX12_words 159 = .ok (.ishr, 1) := by decide +kernel
theorem d_X12_words_160 : decode cX12_words 160 = .ok (.iconst 1, 1) := by decide +kernel
theorem d_X12_words_161 : decode cX12_words 161 = .ok (.iand, 1) := by decide +kernel
theorem d_X12_words_162 : decode cX12_words 162 = .ok (.i2l, 1) := by decide +kernel
theorem d_X12_words_163 : decode cX12_words 163 = .ok (.lastore, 1) := by decide +kernel
theorem d_X12_words_164 : decode cX12_words 164 = .ok (.aload_n 0, 1) := by decide +kernel
theorem d_X12_words_165 : decode cX12_words 165 = .ok (.getfield 36, 3) := by decide +kernel
theorem d_X12_words_168 : decode cX12_words 168 = .ok (.bipush 8, 2) := by decide +kernel
theorem d_X12_words_170 : decode cX12_words 170 = .ok (.aload_n 0, 1) := by decide +kernel
theorem d_X12_words_171 : decode cX12_words 171 = .ok (.getfield 39, 3) := by decide +kernel
theorem d_X12_words_174 : decode cX12_words 174 = .ok (.bipush 8, 2) := by decide +kernel
theorem d_X12_words_176 : decode cX12_words 176 = .ok (.iaload, 1) := by decide +kernel
theorem d_X12_words_177 : decode cX12_words 177 = .ok (.iload_n 2, 1) := by decide +kernel
theorem d_X12_words_178 : decode cX12_words 178 = .ok (.ishr, 1) := by decide +kernel
theorem d_X12_words_179 : decode cX12_words 179 = .ok (.iconst 1, 1) := by decide +kernel
theorem d_X12_words_180 : decode cX12_words 180 = .ok (.iand, 1) := by decide +kernel
theorem d_X12_words_181 : decode cX12_words 181 = .ok (.i2l, 1) := by decide +kernel
theorem d_X12_words_182 : decode cX12_words 182 = .ok (.lastore, 1) := by decide +kernel
theorem d_X12_words_183 : decode cX12_words 183 = .ok (.aload_n 0, 1) := by decide +kernel
theorem d_X12_words_184 : decode cX12_words 184 = .ok (.getfield 36, 3) := by decide +kernel
theorem d_X12_words_187 : decode cX12_words 187 = .ok (.bipush 9, 2) := by decide +kernel
theorem d_X12_words_189 : decode cX12_words 189 = .ok (.aload_n 0, 1) := by decide +kernel
theorem d_X12_words_190 : decode cX12_words 190 = .ok (.iload_n 2, 1) := by decide +kernel
theorem d_X12_words_191 : decode cX12_words 191 = .ok (.iconst 1, 1) := by decide +kernel
theorem d_X12_words_192 : decode cX12_words 192 = .ok (.invokevirtual 301, 3) := by decide +kernel
theorem d_X12_words_195 : decode cX12_words 195 = .ok (.i2l, 1) := by decide +kernel
theorem d_X12_words_196 : decode cX12_words 196 = .ok (.lastore, 1) := by decide +kernel
theorem d_X12_words_197 : decode cX12_words 197 = .ok (.aload_n 0, 1) := by decide +kernel
theorem d_X12_words_198 : decode cX12_words 198 = .ok (.getfield 36, 3) := by decide +kernel
theorem d_X12_words_201 : decode cX12_words 201 = .ok (.bipush 10, 2) := by decide +kernel
theorem d_X12_words_203 : decode cX12_words 203 = .ok (.aload_n 0, 1) := by decide +kernel
theorem d_X12_words_204 : decode cX12_words 204 = .ok (.iload_n 2, 1) := by decide +kernel
theorem d_X12_words_205 : decode cX12_words 205 = .ok (.iconst 2, 1) := by decide +kernel
theorem d_X12_words_206 : decode cX12_words 206 = .ok (.invokevirtual 301, 3) := by decide +kernel
theorem d_X12_words_209 : decode cX12_words 209 = .ok (.i2l, 1) := by decide +kernel
theorem d_X12_words_210 : decode cX12_words 210 = .ok (.lastore, 1) := by decide +kernel
theorem d_X12_words_211 : decode cX12_words 211 = .ok (.aload_n 0, 1) := by decide +kernel
theorem d_X12_words_212 : decode cX12_words 212 = .ok (.getfield 36, 3) := by decide +kernel
theorem d_X12_words_215 : decode cX12_words 215 = .ok (.bipush 11, 2) := by decide +kernel
theorem d_X12_words_217 : decode cX12_words 217 = .ok (.aload_n 0, 1) := by decide +kernel
theorem d_X12_words_218 : decode cX12_words 218 = .ok (.getfield 39, 3) := by decide +kernel
theorem d_X12_words_221 : decode cX12_words 221 = .ok (.iconst 4, 1) := by decide +kernel
theorem d_X12_words_222 : decode cX12_words 222 = .ok (.iaload, 1) := by decide +kernel
theorem d_X12_words_223 : decode cX12_words 223 = .ok (.i2l, 1) := by decide +kernel
theorem d_X12_words_224 : decode cX12_words 224 = .ok (.lastore, 1) := by decide +kernel
theorem d_X12_words_225 : decode cX12_words 225 = .ok (.aload_n 0, 1) := by decide +kernel
theorem d_X12_words_226 : decode cX12_words 226 = .ok (.getfield 36, 3) := by decide +kernel
theorem d_X12_words_229 : decode cX12_words 229 = .ok (.bipush 12, 2) := by decide +kernel
theorem d_X12_words_231 : decode cX12_words 231 = .ok (.aload_n 0, 1) := by decide +kernel
theorem d_X12_words_232 : decode cX12_words 232 = .ok (.iload_n 1, 1) := by decide +kernel
theorem d_X12_words_233 : decode cX12_words 233 = .ok (.iload_n 2, 1) := by decide +kernel
theorem d_X12_words_234 : decode cX12_words 234 = .ok (.invokevirtual 307, 3) := by decide +kernel
theorem d_X12_words_237 : decode cX12_words 237 = .ok (.i2l, 1) := by decide +kernel
theorem d_X12_words_238 : decode cX12_words 238 = .ok (.lastore, 1) := by decide +kernel
theorem d_X12_words_239 : decode cX12_words 239 = .ok (.aload_n 0, 1) := by decide +kernel
theorem d_X12_words_240 : decode cX12_words 240 = .ok (.getfield 36, 3) := by decide +kernel
theorem d_X12_words_243 : decode cX12_words 243 = .ok (.bipush 13, 2) := by decide +kernel
theorem d_X12_words_245 : decode cX12_words 245 = .ok (.iload_n 3, 1) := by decide +kernel
theorem d_X12_words_246 : decode cX12_words 246 = .ok (.i2l, 1) := by decide +kernel
theorem d_X12_words_247 : decode cX12_words 247 = .ok (.lastore, 1) := by decide +kernel
theorem d_X12_words_248 : decode cX12_words 248 = .ok (.return_, 1) := by decide +kernel
abbrev X_X12_words : gX := (RX12, cX12_words, 5, none, false)
def F_X12_words_b94 (l0 : Option Nat) (l1 : Int32) (l2 : Int32) (l3 : Int32) (s0 : Option Nat) (s1 : Int32) (s2 : Int64) (M : gM) : Option gM :=
  (sL M s0 s1 s2).bind fun M1 => (gR 12 M1 l0 19).bind fun v2 => (gO 12 M1 l0).bind fun i3 => (F_X12_strengthOf (some i3) l1 l2 M1).bind fun v4 => (sL M1 v2 (4 : Int32) (v4).toInt64).bind fun M5 => (gR 12 M5 (some i3) 19).bind fun v6 => (gR 12 M5 (some i3) 20).bind fun v7 => (aI 20 M5 v7 ((38 : Int32) + ((2 : Int32) * l1))).bind fun v8 => (sL M5 v6 (5 : Int32) (v8).toInt64).bind fun M9 => (gR 12 M9 (some i3) 19).bind fun v10 => (gR 12 M9 (some i3) 20).bind fun v11 => (aI 20 M9 v11 (6 : Int32)).bind fun v12 => (sL M9 v10 (6 : Int32) (((v12 >>> (l1 &&& 31)) &&& (1 : Int32))).toInt64).bind fun M13 => (gR 12 M13 (some i3) 19).bind fun v14 => (gR 12 M13 (some i3) 20).bind fun v15 => (aI 20 M13 v15 (7 : Int32)).bind fun v16 => (sL M13 v14 (7 : Int32) (((v16 >>> (l2 &&& 31)) &&& (1 : Int32))).toInt64).bind fun M17 => (gR 12 M17 (some i3) 19).bind fun v18 => (gR 12 M17 (some i3) 20).bind fun v19 => (aI 20 M17 v19 (8 : Int32)).bind fun v20 => (sL M17 v18 (8 : Int32) (((v20 >>> (l2 &&& 31)) &&& (1 : Int32))).toInt64).bind fun M21 => (gR 12 M21 (some i3) 19).bind fun v22 => (gC 12 M21 i3).bind fun _ => (F_X12_thingOf (some i3) l2 (1 : Int32) M21).bind fun v24 => (sL M21 v22 (9 : Int32) (v24).toInt64).bind fun M25 => (gR 12 M25 (some i3) 19).bind fun v26 => (gC 12 M25 i3).bind fun _ => (F_X12_thingOf (some i3) l2 (2 : Int32) M25).bind fun v28 => (sL M25 v26 (10 : Int32) (v28).toInt64).bind fun M29 => (gR 12 M29 (some i3) 19).bind fun v30 => (gR 12 M29 (some i3) 20).bind fun v31 => (aI 20 M29 v31 (4 : Int32)).bind fun v32 => (sL M29 v30 (11 : Int32) (v32).toInt64).bind fun M33 => (gR 12 M33 (some i3) 19).bind fun v34 => (gC 12 M33 i3).bind fun _ => (F_X12_sameAs (some i3) l1 l2 M33).bind fun v36 => (sL M33 v34 (12 : Int32) (v36).toInt64).bind fun M37 => (gR 12 M37 (some i3) 19).bind fun v38 => (sL M37 v38 (13 : Int32) (l3).toInt64).bind fun M39 => some M39
set_option maxHeartbeats 4000000 in
theorem T_X12_words_b94 (r : gM) (l0 : Option Nat) (l1 : Int32) (l2 : Int32) (l3 : Int32) (s0 : Option Nat) (s1 : Int32) (s2 : Int64) (M : gM) (h : F_X12_words_b94 l0 l1 l2 l3 s0 s1 s2 M = some r) : GW 2 0 0 X_X12_words 94 [(0, vr l0), (1, vi l1), (2, vi l2), (3, vi l3)] [vl s2, vi s1, vr s0] M (none, r) := by
  delta F_X12_words_b94 at h
  replace h := g_bd h
  obtain ⟨M1, hM1, h⟩ := h
  refine GW_last (X := X_X12_words) (pc := 94) d_X12_words_94 hM1 ?_
  refine GW_aload_n (X := X_X12_words) (pc := 95) d_X12_words_95 rfl 0 rfl ?_
  replace h := g_bd h
  obtain ⟨v2, hv2, h⟩ := h
  refine GW_getR (X := X_X12_words) (pc := 96) f_X12_36 d_X12_words_96 hv2 (Or.inr ⟨_, ty_12_19⟩) ?_
  refine GW_iconst (X := X_X12_words) (pc := 99) (v := 4) d_X12_words_99 (by decide) ?_
  refine GW_aload_n (X := X_X12_words) (pc := 100) d_X12_words_100 rfl 0 rfl ?_
  refine GW_iload_n (X := X_X12_words) (pc := 101) d_X12_words_101 rfl 1 rfl ?_
  refine GW_iload_n (X := X_X12_words) (pc := 102) d_X12_words_102 rfl 2 rfl ?_
  replace h := g_bd h
  obtain ⟨i3, hi3, h⟩ := h
  obtain ⟨rfl, ki3⟩ := g_gO hi3
  replace h := g_bd h
  obtain ⟨v4, hv4, h⟩ := h
  refine GW_callV (X := X_X12_words) (pc := 103) (bc0 := 0) (bs0 := 0) (r := some (vi v4)) (M2 := M1) (c0 := 12) (T_X12_strengthOf (some i3) l1 l2 M1 v4 hv4) (Nat.le_of_ble_eq_true rfl) (Nat.le_of_ble_eq_true rfl) rfl g_cok12 ki3 yc_X12_strengthOf ⟨m_1493, m_1495, m_91, m_127, m_1496⟩ d_X12_words_103 rfl (st := [vi (4 : Int32), vr v2]) rfl (Nat.le_of_ble_eq_true rfl) (Nat.le_of_ble_eq_true rfl) (Nat.le_of_ble_eq_true rfl) (st2 := [vi v4, vi (4 : Int32), vr v2]) rfl ?_
  refine GW_i2l (X := X_X12_words) (pc := 106) d_X12_words_106 ?_
  replace h := g_bd h
  obtain ⟨M5, hM5, h⟩ := h
  refine GW_last (X := X_X12_words) (pc := 107) d_X12_words_107 hM5 ?_
  refine GW_aload_n (X := X_X12_words) (pc := 108) d_X12_words_108 rfl 0 rfl ?_
  replace h := g_bd h
  obtain ⟨v6, hv6, h⟩ := h
  refine GW_getR (X := X_X12_words) (pc := 109) f_X12_36 d_X12_words_109 hv6 (Or.inr ⟨_, ty_12_19⟩) ?_
  refine GW_iconst (X := X_X12_words) (pc := 112) (v := 5) d_X12_words_112 (by decide) ?_
  refine GW_aload_n (X := X_X12_words) (pc := 113) d_X12_words_113 rfl 0 rfl ?_
  replace h := g_bd h
  obtain ⟨v7, hv7, h⟩ := h
  refine GW_getR (X := X_X12_words) (pc := 114) f_X12_39 d_X12_words_114 hv7 (Or.inr ⟨_, ty_12_20⟩) ?_
  refine GW_bipush (X := X_X12_words) (pc := 117) (v := 38) d_X12_words_117 (by decide) ?_
  refine GW_iconst (X := X_X12_words) (pc := 119) (v := 2) d_X12_words_119 (by decide) ?_
  refine GW_iload_n (X := X_X12_words) (pc := 120) d_X12_words_120 rfl 1 rfl ?_
  refine GW_imul (X := X_X12_words) (pc := 121) d_X12_words_121 ?_
  refine GW_iadd (X := X_X12_words) (pc := 122) d_X12_words_122 ?_
  replace h := g_bd h
  obtain ⟨v8, hv8, h⟩ := h
  refine GW_iald (X := X_X12_words) (pc := 123) d_X12_words_123 hv8 ?_
  refine GW_i2l (X := X_X12_words) (pc := 124) d_X12_words_124 ?_
  replace h := g_bd h
  obtain ⟨M9, hM9, h⟩ := h
  refine GW_last (X := X_X12_words) (pc := 125) d_X12_words_125 hM9 ?_
  refine GW_aload_n (X := X_X12_words) (pc := 126) d_X12_words_126 rfl 0 rfl ?_
  replace h := g_bd h
  obtain ⟨v10, hv10, h⟩ := h
  refine GW_getR (X := X_X12_words) (pc := 127) f_X12_36 d_X12_words_127 hv10 (Or.inr ⟨_, ty_12_19⟩) ?_
  refine GW_bipush (X := X_X12_words) (pc := 130) (v := 6) d_X12_words_130 (by decide) ?_
  refine GW_aload_n (X := X_X12_words) (pc := 132) d_X12_words_132 rfl 0 rfl ?_
  replace h := g_bd h
  obtain ⟨v11, hv11, h⟩ := h
  refine GW_getR (X := X_X12_words) (pc := 133) f_X12_39 d_X12_words_133 hv11 (Or.inr ⟨_, ty_12_20⟩) ?_
  refine GW_bipush (X := X_X12_words) (pc := 136) (v := 6) d_X12_words_136 (by decide) ?_
  replace h := g_bd h
  obtain ⟨v12, hv12, h⟩ := h
  refine GW_iald (X := X_X12_words) (pc := 138) d_X12_words_138 hv12 ?_
  refine GW_iload_n (X := X_X12_words) (pc := 139) d_X12_words_139 rfl 1 rfl ?_
  refine GW_ishr (X := X_X12_words) (pc := 140) d_X12_words_140 ?_
  refine GW_iconst (X := X_X12_words) (pc := 141) (v := 1) d_X12_words_141 (by decide) ?_
  refine GW_iand (X := X_X12_words) (pc := 142) d_X12_words_142 ?_
  refine GW_i2l (X := X_X12_words) (pc := 143) d_X12_words_143 ?_
  replace h := g_bd h
  obtain ⟨M13, hM13, h⟩ := h
  refine GW_last (X := X_X12_words) (pc := 144) d_X12_words_144 hM13 ?_
  refine GW_aload_n (X := X_X12_words) (pc := 145) d_X12_words_145 rfl 0 rfl ?_
  replace h := g_bd h
  obtain ⟨v14, hv14, h⟩ := h
  refine GW_getR (X := X_X12_words) (pc := 146) f_X12_36 d_X12_words_146 hv14 (Or.inr ⟨_, ty_12_19⟩) ?_
  refine GW_bipush (X := X_X12_words) (pc := 149) (v := 7) d_X12_words_149 (by decide) ?_
  refine GW_aload_n (X := X_X12_words) (pc := 151) d_X12_words_151 rfl 0 rfl ?_
  replace h := g_bd h
  obtain ⟨v15, hv15, h⟩ := h
  refine GW_getR (X := X_X12_words) (pc := 152) f_X12_39 d_X12_words_152 hv15 (Or.inr ⟨_, ty_12_20⟩) ?_
  refine GW_bipush (X := X_X12_words) (pc := 155) (v := 7) d_X12_words_155 (by decide) ?_
  replace h := g_bd h
  obtain ⟨v16, hv16, h⟩ := h
  refine GW_iald (X := X_X12_words) (pc := 157) d_X12_words_157 hv16 ?_
  refine GW_iload_n (X := X_X12_words) (pc := 158) d_X12_words_158 rfl 2 rfl ?_
  refine GW_ishr (X := X_X12_words) (pc := 159) d_X12_words_159 ?_
  refine GW_iconst (X := X_X12_words) (pc := 160) (v := 1) d_X12_words_160 (by decide) ?_
  refine GW_iand (X := X_X12_words) (pc := 161) d_X12_words_161 ?_
  refine GW_i2l (X := X_X12_words) (pc := 162) d_X12_words_162 ?_
  replace h := g_bd h
  obtain ⟨M17, hM17, h⟩ := h
  refine GW_last (X := X_X12_words) (pc := 163) d_X12_words_163 hM17 ?_
  refine GW_aload_n (X := X_X12_words) (pc := 164) d_X12_words_164 rfl 0 rfl ?_
  replace h := g_bd h
  obtain ⟨v18, hv18, h⟩ := h
  refine GW_getR (X := X_X12_words) (pc := 165) f_X12_36 d_X12_words_165 hv18 (Or.inr ⟨_, ty_12_19⟩) ?_
  refine GW_bipush (X := X_X12_words) (pc := 168) (v := 8) d_X12_words_168 (by decide) ?_
  refine GW_aload_n (X := X_X12_words) (pc := 170) d_X12_words_170 rfl 0 rfl ?_
  replace h := g_bd h
  obtain ⟨v19, hv19, h⟩ := h
  refine GW_getR (X := X_X12_words) (pc := 171) f_X12_39 d_X12_words_171 hv19 (Or.inr ⟨_, ty_12_20⟩) ?_
  refine GW_bipush (X := X_X12_words) (pc := 174) (v := 8) d_X12_words_174 (by decide) ?_
  replace h := g_bd h
  obtain ⟨v20, hv20, h⟩ := h
  refine GW_iald (X := X_X12_words) (pc := 176) d_X12_words_176 hv20 ?_
  refine GW_iload_n (X := X_X12_words) (pc := 177) d_X12_words_177 rfl 2 rfl ?_
  refine GW_ishr (X := X_X12_words) (pc := 178) d_X12_words_178 ?_
  refine GW_iconst (X := X_X12_words) (pc := 179) (v := 1) d_X12_words_179 (by decide) ?_
  refine GW_iand (X := X_X12_words) (pc := 180) d_X12_words_180 ?_
  refine GW_i2l (X := X_X12_words) (pc := 181) d_X12_words_181 ?_
  replace h := g_bd h
  obtain ⟨M21, hM21, h⟩ := h
  refine GW_last (X := X_X12_words) (pc := 182) d_X12_words_182 hM21 ?_
  refine GW_aload_n (X := X_X12_words) (pc := 183) d_X12_words_183 rfl 0 rfl ?_
  replace h := g_bd h
  obtain ⟨v22, hv22, h⟩ := h
  refine GW_getR (X := X_X12_words) (pc := 184) f_X12_36 d_X12_words_184 hv22 (Or.inr ⟨_, ty_12_19⟩) ?_
  refine GW_bipush (X := X_X12_words) (pc := 187) (v := 9) d_X12_words_187 (by decide) ?_
  refine GW_aload_n (X := X_X12_words) (pc := 189) d_X12_words_189 rfl 0 rfl ?_
  refine GW_iload_n (X := X_X12_words) (pc := 190) d_X12_words_190 rfl 2 rfl ?_
  refine GW_iconst (X := X_X12_words) (pc := 191) (v := 1) d_X12_words_191 (by decide) ?_
  replace h := g_bd h
  obtain ⟨_, kk23, h⟩ := h
  replace kk23 := g_gC kk23
  replace h := g_bd h
  obtain ⟨v24, hv24, h⟩ := h
  refine GW_callV (X := X_X12_words) (pc := 192) (bc0 := 0) (bs0 := 0) (r := some (vi v24)) (M2 := M21) (c0 := 12) (T_X12_thingOf (some i3) l2 (1 : Int32) M21 v24 hv24) (Nat.le_of_ble_eq_true rfl) (Nat.le_of_ble_eq_true rfl) rfl g_cok12 kk23 yc_X12_thingOf ⟨m_1428, m_1430, m_79, m_127, m_1431⟩ d_X12_words_192 rfl (st := [vi (9 : Int32), vr v22]) rfl (Nat.le_of_ble_eq_true rfl) (Nat.le_of_ble_eq_true rfl) (Nat.le_of_ble_eq_true rfl) (st2 := [vi v24, vi (9 : Int32), vr v22]) rfl ?_
  refine GW_i2l (X := X_X12_words) (pc := 195) d_X12_words_195 ?_
  replace h := g_bd h
  obtain ⟨M25, hM25, h⟩ := h
  refine GW_last (X := X_X12_words) (pc := 196) d_X12_words_196 hM25 ?_
  refine GW_aload_n (X := X_X12_words) (pc := 197) d_X12_words_197 rfl 0 rfl ?_
  replace h := g_bd h
  obtain ⟨v26, hv26, h⟩ := h
  refine GW_getR (X := X_X12_words) (pc := 198) f_X12_36 d_X12_words_198 hv26 (Or.inr ⟨_, ty_12_19⟩) ?_
  refine GW_bipush (X := X_X12_words) (pc := 201) (v := 10) d_X12_words_201 (by decide) ?_
  refine GW_aload_n (X := X_X12_words) (pc := 203) d_X12_words_203 rfl 0 rfl ?_
  refine GW_iload_n (X := X_X12_words) (pc := 204) d_X12_words_204 rfl 2 rfl ?_
  refine GW_iconst (X := X_X12_words) (pc := 205) (v := 2) d_X12_words_205 (by decide) ?_
  replace h := g_bd h
  obtain ⟨_, kk27, h⟩ := h
  replace kk27 := g_gC kk27
  replace h := g_bd h
  obtain ⟨v28, hv28, h⟩ := h
  refine GW_callV (X := X_X12_words) (pc := 206) (bc0 := 0) (bs0 := 0) (r := some (vi v28)) (M2 := M25) (c0 := 12) (T_X12_thingOf (some i3) l2 (2 : Int32) M25 v28 hv28) (Nat.le_of_ble_eq_true rfl) (Nat.le_of_ble_eq_true rfl) rfl g_cok12 kk27 yc_X12_thingOf ⟨m_1428, m_1430, m_79, m_127, m_1431⟩ d_X12_words_206 rfl (st := [vi (10 : Int32), vr v26]) rfl (Nat.le_of_ble_eq_true rfl) (Nat.le_of_ble_eq_true rfl) (Nat.le_of_ble_eq_true rfl) (st2 := [vi v28, vi (10 : Int32), vr v26]) rfl ?_
  refine GW_i2l (X := X_X12_words) (pc := 209) d_X12_words_209 ?_
  replace h := g_bd h
  obtain ⟨M29, hM29, h⟩ := h
  refine GW_last (X := X_X12_words) (pc := 210) d_X12_words_210 hM29 ?_
  refine GW_aload_n (X := X_X12_words) (pc := 211) d_X12_words_211 rfl 0 rfl ?_
  replace h := g_bd h
  obtain ⟨v30, hv30, h⟩ := h
  refine GW_getR (X := X_X12_words) (pc := 212) f_X12_36 d_X12_words_212 hv30 (Or.inr ⟨_, ty_12_19⟩) ?_
  refine GW_bipush (X := X_X12_words) (pc := 215) (v := 11) d_X12_words_215 (by decide) ?_
  refine GW_aload_n (X := X_X12_words) (pc := 217) d_X12_words_217 rfl 0 rfl ?_
  replace h := g_bd h
  obtain ⟨v31, hv31, h⟩ := h
  refine GW_getR (X := X_X12_words) (pc := 218) f_X12_39 d_X12_words_218 hv31 (Or.inr ⟨_, ty_12_20⟩) ?_
  refine GW_iconst (X := X_X12_words) (pc := 221) (v := 4) d_X12_words_221 (by decide) ?_
  replace h := g_bd h
  obtain ⟨v32, hv32, h⟩ := h
  refine GW_iald (X := X_X12_words) (pc := 222) d_X12_words_222 hv32 ?_
  refine GW_i2l (X := X_X12_words) (pc := 223) d_X12_words_223 ?_
  replace h := g_bd h
  obtain ⟨M33, hM33, h⟩ := h
  refine GW_last (X := X_X12_words) (pc := 224) d_X12_words_224 hM33 ?_
  refine GW_aload_n (X := X_X12_words) (pc := 225) d_X12_words_225 rfl 0 rfl ?_
  replace h := g_bd h
  obtain ⟨v34, hv34, h⟩ := h
  refine GW_getR (X := X_X12_words) (pc := 226) f_X12_36 d_X12_words_226 hv34 (Or.inr ⟨_, ty_12_19⟩) ?_
  refine GW_bipush (X := X_X12_words) (pc := 229) (v := 12) d_X12_words_229 (by decide) ?_
  refine GW_aload_n (X := X_X12_words) (pc := 231) d_X12_words_231 rfl 0 rfl ?_
  refine GW_iload_n (X := X_X12_words) (pc := 232) d_X12_words_232 rfl 1 rfl ?_
  refine GW_iload_n (X := X_X12_words) (pc := 233) d_X12_words_233 rfl 2 rfl ?_
  replace h := g_bd h
  obtain ⟨_, kk35, h⟩ := h
  replace kk35 := g_gC kk35
  replace h := g_bd h
  obtain ⟨v36, hv36, h⟩ := h
  refine GW_callV (X := X_X12_words) (pc := 234) (bc0 := 0) (bs0 := 0) (r := some (vi v36)) (M2 := M33) (c0 := 12) (T_X12_sameAs (some i3) l1 l2 M33 v36 hv36) (Nat.le_of_ble_eq_true rfl) (Nat.le_of_ble_eq_true rfl) rfl g_cok12 kk35 yc_X12_sameAs ⟨m_1440, m_1442, m_82, m_127, m_1443⟩ d_X12_words_234 rfl (st := [vi (12 : Int32), vr v34]) rfl (Nat.le_of_ble_eq_true rfl) (Nat.le_of_ble_eq_true rfl) (Nat.le_of_ble_eq_true rfl) (st2 := [vi v36, vi (12 : Int32), vr v34]) rfl ?_
  refine GW_i2l (X := X_X12_words) (pc := 237) d_X12_words_237 ?_
  replace h := g_bd h
  obtain ⟨M37, hM37, h⟩ := h
  refine GW_last (X := X_X12_words) (pc := 238) d_X12_words_238 hM37 ?_
  refine GW_aload_n (X := X_X12_words) (pc := 239) d_X12_words_239 rfl 0 rfl ?_
  replace h := g_bd h
  obtain ⟨v38, hv38, h⟩ := h
  refine GW_getR (X := X_X12_words) (pc := 240) f_X12_36 d_X12_words_240 hv38 (Or.inr ⟨_, ty_12_19⟩) ?_
  refine GW_bipush (X := X_X12_words) (pc := 243) (v := 13) d_X12_words_243 (by decide) ?_
  refine GW_iload_n (X := X_X12_words) (pc := 245) d_X12_words_245 rfl 3 rfl ?_
  refine GW_i2l (X := X_X12_words) (pc := 246) d_X12_words_246 ?_
  replace h := g_bd h
  obtain ⟨M39, hM39, h⟩ := h
  refine GW_last (X := X_X12_words) (pc := 247) d_X12_words_247 hM39 ?_
  replace h := Option.some.inj h
  subst h
  exact GW_ret (X := X_X12_words) (pc := 248) d_X12_words_248 rfl trivial
def F_X12_words_b32 (k5 : Option Nat → Int32 → Int32 → Int32 → Int32 → gM → Option gM) (l0 : Option Nat) (l1 : Int32) (l2 : Int32) (l4 : Int32) (s0 : Int32) (s1 : Int32) (M : gM) : Option gM :=
  k5 l0 l1 l2 (s0 + s1) (l4 + 1) M
theorem T_X12_words_b32 (k5 : Option Nat → Int32 → Int32 → Int32 → Int32 → gM → Option gM) (r : gM) (hk5 : ∀ (l0 : Option Nat) (l1 : Int32) (l2 : Int32) (l3 : Int32) (l4 : Int32) (M : gM), k5 l0 l1 l2 l3 l4 M = some r → GW 2 0 0 X_X12_words 5 [(0, vr l0), (1, vi l1), (2, vi l2), (3, vi l3), (4, vi l4)] [] M (none, r)) (l0 : Option Nat) (l1 : Int32) (l2 : Int32) (l4 : Int32) (s0 : Int32) (s1 : Int32) (M : gM) (h : F_X12_words_b32 k5 l0 l1 l2 l4 s0 s1 M = some r) : GW 2 0 0 X_X12_words 32 [(0, vr l0), (1, vi l1), (2, vi l2), (4, vi l4)] [vi s1, vi s0] M (none, r) := by
  delta F_X12_words_b32 at h
  refine GW_iadd (X := X_X12_words) (pc := 32) d_X12_words_32 ?_
  refine GW_istore_n (X := X_X12_words) (pc := 33) d_X12_words_33 rfl (Nat.le_of_ble_eq_true rfl) (lv2 := [(3, vi (s0 + s1)), (0, vr l0), (1, vi l1), (2, vi l2), (4, vi l4)]) rfl ?_
  refine GW_iinc (j := 4) (X := X_X12_words) (pc := 34) d_X12_words_34 rfl (congrArg (fun z => _ + z) (by decide : Int32.ofInt 1 = (1 : Int32))) (Nat.le_of_ble_eq_true rfl) (lv2 := [(4, vi (l4 + 1)), (3, vi (s0 + s1)), (0, vr l0), (1, vi l1), (2, vi l2)]) rfl ?_
  refine GW_goto (X := X_X12_words) (pc := 37) 5 d_X12_words_37 (by decide) ?_
  refine GW_sub [2, 3, 4, 1, 0] rfl ?_
  exact hk5 l0 l1 l2 (s0 + s1) (l4 + 1) M h
def F_X12_words_b5 (k5 : Option Nat → Int32 → Int32 → Int32 → Int32 → gM → Option gM) (l0 : Option Nat) (l1 : Int32) (l2 : Int32) (l3 : Int32) (l4 : Int32) (M : gM) : Option gM :=
  (gR 12 M l0 20).bind fun v1 => (aI 20 M v1 (1 : Int32)).bind fun v2 => if v2 ≤ l4 then ((gR 12 M l0 19).bind fun v3 => (sL M v3 (0 : Int32) (l1).toInt64).bind fun M4 => (gR 12 M4 l0 19).bind fun v5 => (sL M4 v5 (1 : Int32) (l2).toInt64).bind fun M6 => (gR 12 M6 l0 19).bind fun v7 => (gO 12 M6 l0).bind fun i8 => (F_X12_valueOf (some i8) l1 l2 M6).bind fun v9 => (sL M6 v7 (2 : Int32) (v9).toInt64).bind fun M10 => (gR 12 M10 (some i8) 19).bind fun v11 => (gC 12 M10 i8).bind fun _ => (F_X12_valueOf (some i8) l1 l2 M10).bind fun v13 => (F_X12_thingOf (some i8) l2 (0 : Int32) M10).bind fun v14 => if v13 = v14 then (F_X12_words_b94 (some i8) l1 l2 l3 v11 (3 : Int32) (1 : Int64) M10) else (F_X12_words_b94 (some i8) l1 l2 l3 v11 (3 : Int32) (0 : Int64) M10)) else ((gO 12 M l0).bind fun i15 => (F_X12_knowsOf (some i15) l1 l4 M).bind fun v16 => if v16 = 0 then (F_X12_words_b32 k5 (some i15) l1 l2 l4 l3 (0 : Int32) M) else (F_X12_words_b32 k5 (some i15) l1 l2 l4 l3 (1 : Int32) M))
set_option maxHeartbeats 1000000 in
theorem T_X12_words_b5 (k5 : Option Nat → Int32 → Int32 → Int32 → Int32 → gM → Option gM) (r : gM) (hk5 : ∀ (l0 : Option Nat) (l1 : Int32) (l2 : Int32) (l3 : Int32) (l4 : Int32) (M : gM), k5 l0 l1 l2 l3 l4 M = some r → GW 2 0 0 X_X12_words 5 [(0, vr l0), (1, vi l1), (2, vi l2), (3, vi l3), (4, vi l4)] [] M (none, r)) (l0 : Option Nat) (l1 : Int32) (l2 : Int32) (l3 : Int32) (l4 : Int32) (M : gM) (h : F_X12_words_b5 k5 l0 l1 l2 l3 l4 M = some r) : GW 2 0 0 X_X12_words 5 [(0, vr l0), (1, vi l1), (2, vi l2), (3, vi l3), (4, vi l4)] [] M (none, r) := by
  delta F_X12_words_b5 at h
  refine GW_iload (X := X_X12_words) (pc := 5) d_X12_words_5 4 rfl ?_
  refine GW_aload_n (X := X_X12_words) (pc := 7) d_X12_words_7 rfl 0 rfl ?_
  replace h := g_bd h
  obtain ⟨v1, hv1, h⟩ := h
  refine GW_getR (X := X_X12_words) (pc := 8) f_X12_39 d_X12_words_8 hv1 (Or.inr ⟨_, ty_12_20⟩) ?_
  refine GW_iconst (X := X_X12_words) (pc := 11) (v := 1) d_X12_words_11 (by decide) ?_
  replace h := g_bd h
  obtain ⟨v2, hv2, h⟩ := h
  refine GW_iald (X := X_X12_words) (pc := 12) d_X12_words_12 hv2 ?_
  refine GW_icmp_ge (X := X_X12_words) (pc := 13) 40 d_X12_words_13 (by decide) (fun c => ?_) (fun c => ?_)
  · replace h := g_ip c h
    refine GW_aload_n (X := X_X12_words) (pc := 40) d_X12_words_40 rfl 0 rfl ?_
    replace h := g_bd h
    obtain ⟨v3, hv3, h⟩ := h
    refine GW_getR (X := X_X12_words) (pc := 41) f_X12_36 d_X12_words_41 hv3 (Or.inr ⟨_, ty_12_19⟩) ?_
    refine GW_iconst (X := X_X12_words) (pc := 44) (v := 0) d_X12_words_44 (by decide) ?_
    refine GW_iload_n (X := X_X12_words) (pc := 45) d_X12_words_45 rfl 1 rfl ?_
    refine GW_i2l (X := X_X12_words) (pc := 46) d_X12_words_46 ?_
    replace h := g_bd h
    obtain ⟨M4, hM4, h⟩ := h
    refine GW_last (X := X_X12_words) (pc := 47) d_X12_words_47 hM4 ?_
    refine GW_aload_n (X := X_X12_words) (pc := 48) d_X12_words_48 rfl 0 rfl ?_
    replace h := g_bd h
    obtain ⟨v5, hv5, h⟩ := h
    refine GW_getR (X := X_X12_words) (pc := 49) f_X12_36 d_X12_words_49 hv5 (Or.inr ⟨_, ty_12_19⟩) ?_
    refine GW_iconst (X := X_X12_words) (pc := 52) (v := 1) d_X12_words_52 (by decide) ?_
    refine GW_iload_n (X := X_X12_words) (pc := 53) d_X12_words_53 rfl 2 rfl ?_
    refine GW_i2l (X := X_X12_words) (pc := 54) d_X12_words_54 ?_
    replace h := g_bd h
    obtain ⟨M6, hM6, h⟩ := h
    refine GW_last (X := X_X12_words) (pc := 55) d_X12_words_55 hM6 ?_
    refine GW_aload_n (X := X_X12_words) (pc := 56) d_X12_words_56 rfl 0 rfl ?_
    replace h := g_bd h
    obtain ⟨v7, hv7, h⟩ := h
    refine GW_getR (X := X_X12_words) (pc := 57) f_X12_36 d_X12_words_57 hv7 (Or.inr ⟨_, ty_12_19⟩) ?_
    refine GW_iconst (X := X_X12_words) (pc := 60) (v := 2) d_X12_words_60 (by decide) ?_
    refine GW_aload_n (X := X_X12_words) (pc := 61) d_X12_words_61 rfl 0 rfl ?_
    refine GW_iload_n (X := X_X12_words) (pc := 62) d_X12_words_62 rfl 1 rfl ?_
    refine GW_iload_n (X := X_X12_words) (pc := 63) d_X12_words_63 rfl 2 rfl ?_
    replace h := g_bd h
    obtain ⟨i8, hi8, h⟩ := h
    obtain ⟨rfl, ki8⟩ := g_gO hi8
    replace h := g_bd h
    obtain ⟨v9, hv9, h⟩ := h
    refine GW_callV (X := X_X12_words) (pc := 64) (bc0 := 0) (bs0 := 0) (r := some (vi v9)) (M2 := M6) (c0 := 12) (T_X12_valueOf (some i8) l1 l2 M6 v9 hv9) (Nat.le_of_ble_eq_true rfl) (Nat.le_of_ble_eq_true rfl) rfl g_cok12 ki8 yc_X12_valueOf ⟨m_1436, m_1438, m_81, m_127, m_1439⟩ d_X12_words_64 rfl (st := [vi (2 : Int32), vr v7]) rfl (Nat.le_of_ble_eq_true rfl) (Nat.le_of_ble_eq_true rfl) (Nat.le_of_ble_eq_true rfl) (st2 := [vi v9, vi (2 : Int32), vr v7]) rfl ?_
    refine GW_i2l (X := X_X12_words) (pc := 67) d_X12_words_67 ?_
    replace h := g_bd h
    obtain ⟨M10, hM10, h⟩ := h
    refine GW_last (X := X_X12_words) (pc := 68) d_X12_words_68 hM10 ?_
    refine GW_aload_n (X := X_X12_words) (pc := 69) d_X12_words_69 rfl 0 rfl ?_
    replace h := g_bd h
    obtain ⟨v11, hv11, h⟩ := h
    refine GW_getR (X := X_X12_words) (pc := 70) f_X12_36 d_X12_words_70 hv11 (Or.inr ⟨_, ty_12_19⟩) ?_
    refine GW_iconst (X := X_X12_words) (pc := 73) (v := 3) d_X12_words_73 (by decide) ?_
    refine GW_aload_n (X := X_X12_words) (pc := 74) d_X12_words_74 rfl 0 rfl ?_
    refine GW_iload_n (X := X_X12_words) (pc := 75) d_X12_words_75 rfl 1 rfl ?_
    refine GW_iload_n (X := X_X12_words) (pc := 76) d_X12_words_76 rfl 2 rfl ?_
    replace h := g_bd h
    obtain ⟨_, kk12, h⟩ := h
    replace kk12 := g_gC kk12
    replace h := g_bd h
    obtain ⟨v13, hv13, h⟩ := h
    refine GW_callV (X := X_X12_words) (pc := 77) (bc0 := 0) (bs0 := 0) (r := some (vi v13)) (M2 := M10) (c0 := 12) (T_X12_valueOf (some i8) l1 l2 M10 v13 hv13) (Nat.le_of_ble_eq_true rfl) (Nat.le_of_ble_eq_true rfl) rfl g_cok12 kk12 yc_X12_valueOf ⟨m_1436, m_1438, m_81, m_127, m_1439⟩ d_X12_words_77 rfl (st := [vi (3 : Int32), vr v11]) rfl (Nat.le_of_ble_eq_true rfl) (Nat.le_of_ble_eq_true rfl) (Nat.le_of_ble_eq_true rfl) (st2 := [vi v13, vi (3 : Int32), vr v11]) rfl ?_
    refine GW_aload_n (X := X_X12_words) (pc := 80) d_X12_words_80 rfl 0 rfl ?_
    refine GW_iload_n (X := X_X12_words) (pc := 81) d_X12_words_81 rfl 2 rfl ?_
    refine GW_iconst (X := X_X12_words) (pc := 82) (v := 0) d_X12_words_82 (by decide) ?_
    replace h := g_bd h
    obtain ⟨v14, hv14, h⟩ := h
    refine GW_callV (X := X_X12_words) (pc := 83) (bc0 := 0) (bs0 := 0) (r := some (vi v14)) (M2 := M10) (c0 := 12) (T_X12_thingOf (some i8) l2 (0 : Int32) M10 v14 hv14) (Nat.le_of_ble_eq_true rfl) (Nat.le_of_ble_eq_true rfl) rfl g_cok12 kk12 yc_X12_thingOf ⟨m_1428, m_1430, m_79, m_127, m_1431⟩ d_X12_words_83 rfl (st := [vi v13, vi (3 : Int32), vr v11]) rfl (Nat.le_of_ble_eq_true rfl) (Nat.le_of_ble_eq_true rfl) (Nat.le_of_ble_eq_true rfl) (st2 := [vi v14, vi v13, vi (3 : Int32), vr v11]) rfl ?_
    refine GW_icmp_ne (X := X_X12_words) (pc := 86) 93 d_X12_words_86 (by decide) (fun c => ?_) (fun c => ?_)
    · replace h := g_ie c h
      refine GW_lconst (X := X_X12_words) (pc := 93) (v := 0) d_X12_words_93 (by decide) ?_
      refine GW_sub [0, 1, 2, 3] rfl ?_
      exact T_X12_words_b94 r (some i8) l1 l2 l3 v11 (3 : Int32) (0 : Int64) M10 h
    · replace h := g_ip c h
      refine GW_lconst (X := X_X12_words) (pc := 89) (v := 1) d_X12_words_89 (by decide) ?_
      refine GW_goto (X := X_X12_words) (pc := 90) 94 d_X12_words_90 (by decide) ?_
      refine GW_sub [0, 1, 2, 3] rfl ?_
      exact T_X12_words_b94 r (some i8) l1 l2 l3 v11 (3 : Int32) (1 : Int64) M10 h
  · replace h := g_ie c h
    refine GW_iload_n (X := X_X12_words) (pc := 16) d_X12_words_16 rfl 3 rfl ?_
    refine GW_aload_n (X := X_X12_words) (pc := 17) d_X12_words_17 rfl 0 rfl ?_
    refine GW_iload_n (X := X_X12_words) (pc := 18) d_X12_words_18 rfl 1 rfl ?_
    refine GW_iload (X := X_X12_words) (pc := 19) d_X12_words_19 4 rfl ?_
    replace h := g_bd h
    obtain ⟨i15, hi15, h⟩ := h
    obtain ⟨rfl, ki15⟩ := g_gO hi15
    replace h := g_bd h
    obtain ⟨v16, hv16, h⟩ := h
    refine GW_callV (X := X_X12_words) (pc := 21) (bc0 := 0) (bs0 := 0) (r := some (vi v16)) (M2 := M) (c0 := 12) (T_X12_knowsOf (some i15) l1 l4 M v16 hv16) (Nat.le_of_ble_eq_true rfl) (Nat.le_of_ble_eq_true rfl) rfl g_cok12 ki15 yc_X12_knowsOf ⟨m_1432, m_1434, m_80, m_127, m_1435⟩ d_X12_words_21 rfl (st := [vi l3]) rfl (Nat.le_of_ble_eq_true rfl) (Nat.le_of_ble_eq_true rfl) (Nat.le_of_ble_eq_true rfl) (st2 := [vi v16, vi l3]) rfl ?_
    refine GW_if_eq (X := X_X12_words) (pc := 24) 31 d_X12_words_24 (by decide) (fun c => ?_) (fun c => ?_)
    · replace h := g_ip c h
      refine GW_iconst (X := X_X12_words) (pc := 31) (v := 0) d_X12_words_31 (by decide) ?_
      refine GW_sub [0, 1, 2, 4] rfl ?_
      exact T_X12_words_b32 k5 r hk5 (some i15) l1 l2 l4 l3 (0 : Int32) M h
    · replace h := g_ie c h
      refine GW_iconst (X := X_X12_words) (pc := 27) (v := 1) d_X12_words_27 (by decide) ?_
      refine GW_goto (X := X_X12_words) (pc := 28) 32 d_X12_words_28 (by decide) ?_
      refine GW_sub [0, 1, 2, 4] rfl ?_
      exact T_X12_words_b32 k5 r hk5 (some i15) l1 l2 l4 l3 (1 : Int32) M h
def F_X12_words_L5 : Nat → Option Nat → Int32 → Int32 → Int32 → Int32 → gM → Option gM
  | 0 => fun _ _ _ _ _ _ => none
  | n + 1 => F_X12_words_b5 (F_X12_words_L5 n)
theorem T_X12_words_L5 (r : gM) : ∀ (n : Nat) (l0 : Option Nat) (l1 : Int32) (l2 : Int32) (l3 : Int32) (l4 : Int32) (M : gM), F_X12_words_L5 n l0 l1 l2 l3 l4 M = some r → GW 2 0 0 X_X12_words 5 [(0, vr l0), (1, vi l1), (2, vi l2), (3, vi l3), (4, vi l4)] [] M (none, r) := by
  intro n
  induction n with
  | zero => intro l0 l1 l2 l3 l4 M h; exact g_no h
  | succ n ih => intro l0 l1 l2 l3 l4 M h; exact T_X12_words_b5 (F_X12_words_L5 n) r ih l0 l1 l2 l3 l4 M h
def F_X12_words_b0 (l0 : Option Nat) (l1 : Int32) (l2 : Int32) (M : gM) : Option gM :=
  F_X12_words_L5 g_fuel l0 l1 l2 (0 : Int32) (0 : Int32) M
theorem T_X12_words_b0 (r : gM) (l0 : Option Nat) (l1 : Int32) (l2 : Int32) (M : gM) (h : F_X12_words_b0 l0 l1 l2 M = some r) : GW 2 0 0 X_X12_words 0 [(0, vr l0), (1, vi l1), (2, vi l2)] [] M (none, r) := by
  delta F_X12_words_b0 at h
  refine GW_iconst (X := X_X12_words) (pc := 0) (v := 0) d_X12_words_0 (by decide) ?_
  refine GW_istore_n (X := X_X12_words) (pc := 1) d_X12_words_1 rfl (Nat.le_of_ble_eq_true rfl) (lv2 := [(3, vi (0 : Int32)), (0, vr l0), (1, vi l1), (2, vi l2)]) rfl ?_
  refine GW_iconst (X := X_X12_words) (pc := 2) (v := 0) d_X12_words_2 (by decide) ?_
  refine GW_istore (X := X_X12_words) (pc := 3) d_X12_words_3 (Nat.le_of_ble_eq_true rfl) (lv2 := [(4, vi (0 : Int32)), (3, vi (0 : Int32)), (0, vr l0), (1, vi l1), (2, vi l2)]) rfl ?_
  refine GW_sub [2, 3, 4, 1, 0] rfl ?_
  exact T_X12_words_L5 r g_fuel l0 l1 l2 (0 : Int32) (0 : Int32) M h
def F_X12_words (l0 : Option Nat) (l1 : Int32) (l2 : Int32) (M : gM) : Option gM := F_X12_words_b0 l0 l1 l2 M
theorem T_X12_words (l0 : Option Nat) (l1 : Int32) (l2 : Int32) (M : gM) (r : gM) (h : F_X12_words l0 l1 l2 M = some r) : g_Met 2 0 0 yX12_words X_X12_words [vr l0, vi l1, vi l2] M (none, r) :=
  g_Met_of pn_RX12 rfl (Nat.le_of_ble_eq_true rfl) (fun h => by cases h) (GW_sub [0, 1, 2] rfl (T_X12_words_b0 r l0 l1 l2 M h))
/-! ForgetHeirsModel.push(J)V -/
theorem d_X12_push_0 : decode cX12_push 0 = .ok (.aload_n 0, 1) := by decide +kernel
theorem d_X12_push_1 : decode cX12_push 1 = .ok (.getfield 32, 3) := by decide +kernel
theorem d_X12_push_4 : decode cX12_push 4 = .ok (.aload_n 0, 1) := by decide +kernel
theorem d_X12_push_5 : decode cX12_push 5 = .ok (.getfield 282, 3) := by decide +kernel
theorem d_X12_push_8 : decode cX12_push 8 = .ok (.lload_n 1, 1) := by decide +kernel
theorem d_X12_push_9 : decode cX12_push 9 = .ok (.lastore, 1) := by decide +kernel
theorem d_X12_push_10 : decode cX12_push 10 = .ok (.aload_n 0, 1) := by decide +kernel
theorem d_X12_push_11 : decode cX12_push 11 = .ok (.dup, 1) := by decide +kernel
theorem d_X12_push_12 : decode cX12_push 12 = .ok (.getfield 282, 3) := by decide +kernel
theorem d_X12_push_15 : decode cX12_push 15 = .ok (.iconst 1, 1) := by decide +kernel
theorem d_X12_push_16 : decode cX12_push 16 = .ok (.iadd, 1) := by decide +kernel
theorem d_X12_push_17 : decode cX12_push 17 = .ok (.putfield 282, 3) := by decide +kernel
theorem d_X12_push_20 : decode cX12_push 20 = .ok (.return_, 1) := by decide +kernel
abbrev X_X12_push : gX := (RX12, cX12_push, 3, none, false)
def F_X12_push_b0 (l0 : Option Nat) (l1 : Int64) (M : gM) : Option gM :=
  (gR 12 M l0 17).bind fun v1 => (gI 12 M l0 18).bind fun v2 => (sL M v1 v2 l1).bind fun M3 => (gI 12 M3 l0 18).bind fun v4 => (pI 12 M3 l0 18 (v4 + (1 : Int32))).bind fun M5 => some M5
theorem T_X12_push_b0 (r : gM) (l0 : Option Nat) (l1 : Int64) (M : gM) (h : F_X12_push_b0 l0 l1 M = some r) : GW 0 0 0 X_X12_push 0 [(0, vr l0), (1, vl l1)] [] M (none, r) := by
  delta F_X12_push_b0 at h
  refine GW_aload_n (X := X_X12_push) (pc := 0) d_X12_push_0 rfl 0 rfl ?_
  replace h := g_bd h
  obtain ⟨v1, hv1, h⟩ := h
  refine GW_getR (X := X_X12_push) (pc := 1) f_X12_32 d_X12_push_1 hv1 (Or.inr ⟨_, ty_12_17⟩) ?_
  refine GW_aload_n (X := X_X12_push) (pc := 4) d_X12_push_4 rfl 0 rfl ?_
  replace h := g_bd h
  obtain ⟨v2, hv2, h⟩ := h
  refine GW_getI (X := X_X12_push) (pc := 5) f_X12_282 d_X12_push_5 hv2 (Or.inl ty_12_18) ?_
  refine GW_lload_n (X := X_X12_push) (pc := 8) d_X12_push_8 rfl 1 rfl ?_
  replace h := g_bd h
  obtain ⟨M3, hM3, h⟩ := h
  refine GW_last (X := X_X12_push) (pc := 9) d_X12_push_9 hM3 ?_
  refine GW_aload_n (X := X_X12_push) (pc := 10) d_X12_push_10 rfl 0 rfl ?_
  refine GW_dup (X := X_X12_push) (pc := 11) d_X12_push_11 rfl ?_
  replace h := g_bd h
  obtain ⟨v4, hv4, h⟩ := h
  refine GW_getI (X := X_X12_push) (pc := 12) f_X12_282 d_X12_push_12 hv4 (Or.inl ty_12_18) ?_
  refine GW_iconst (X := X_X12_push) (pc := 15) (v := 1) d_X12_push_15 (by decide) ?_
  refine GW_iadd (X := X_X12_push) (pc := 16) d_X12_push_16 ?_
  replace h := g_bd h
  obtain ⟨M5, hM5, h⟩ := h
  refine GW_putI (X := X_X12_push) (pc := 17) f_X12_282 d_X12_push_17 hM5 (Or.inl fi_12_18) (Or.inl ty_12_18) ?_
  replace h := Option.some.inj h
  subst h
  exact GW_ret (X := X_X12_push) (pc := 20) d_X12_push_20 rfl trivial
def F_X12_push (l0 : Option Nat) (l1 : Int64) (M : gM) : Option gM := F_X12_push_b0 l0 l1 M
theorem T_X12_push (l0 : Option Nat) (l1 : Int64) (M : gM) (r : gM) (h : F_X12_push l0 l1 M = some r) : g_Met 0 0 0 yX12_push X_X12_push [vr l0, vl l1] M (none, r) :=
  g_Met_of pn_RX12 rfl (Nat.le_of_ble_eq_true rfl) (fun h => by cases h) (GW_sub [0, 1] rfl (T_X12_push_b0 r l0 l1 M h))
/-! ForgetHeirsModel.pop()J -/
theorem d_X12_pop_0 : decode cX12_pop 0 = .ok (.aload_n 0, 1) := by decide +kernel
theorem d_X12_pop_1 : decode cX12_pop 1 = .ok (.dup, 1) := by decide +kernel
theorem d_X12_pop_2 : decode cX12_pop 2 = .ok (.getfield 282, 3) := by decide +kernel
theorem d_X12_pop_5 : decode cX12_pop 5 = .ok (.iconst 1, 1) := by decide +kernel
theorem d_X12_pop_6 : decode cX12_pop 6 = .ok (.isub, 1) := by decide +kernel
theorem d_X12_pop_7 : decode cX12_pop 7 = .ok (.putfield 282, 3) := by decide +kernel
theorem d_X12_pop_10 : decode cX12_pop 10 = .ok (.aload_n 0, 1) := by decide +kernel
theorem d_X12_pop_11 : decode cX12_pop 11 = .ok (.getfield 32, 3) := by decide +kernel
theorem d_X12_pop_14 : decode cX12_pop 14 = .ok (.aload_n 0, 1) := by decide +kernel
theorem d_X12_pop_15 : decode cX12_pop 15 = .ok (.getfield 282, 3) := by decide +kernel
theorem d_X12_pop_18 : decode cX12_pop 18 = .ok (.laload, 1) := by decide +kernel
theorem d_X12_pop_19 : decode cX12_pop 19 = .ok (.lreturn, 1) := by decide +kernel
abbrev X_X12_pop : gX := (RX12, cX12_pop, 1, (some .long), false)
def F_X12_pop_b0 (l0 : Option Nat) (M : gM) : Option (Int64 × gM) :=
  (gI 12 M l0 18).bind fun v1 => (pI 12 M l0 18 (v1 - (1 : Int32))).bind fun M2 => (gR 12 M2 l0 17).bind fun v3 => (gI 12 M2 l0 18).bind fun v4 => (aL M2 v3 v4).bind fun v5 => some (v5, M2)
theorem T_X12_pop_b0 (r : (Int64 × gM)) (l0 : Option Nat) (M : gM) (h : F_X12_pop_b0 l0 M = some r) : GW 0 0 0 X_X12_pop 0 [(0, vr l0)] [] M (some (vl r.1), r.2) := by
  delta F_X12_pop_b0 at h
  refine GW_aload_n (X := X_X12_pop) (pc := 0) d_X12_pop_0 rfl 0 rfl ?_
  refine GW_dup (X := X_X12_pop) (pc := 1) d_X12_pop_1 rfl ?_
  replace h := g_bd h
  obtain ⟨v1, hv1, h⟩ := h
  refine GW_getI (X := X_X12_pop) (pc := 2) f_X12_282 d_X12_pop_2 hv1 (Or.inl ty_12_18) ?_
  refine GW_iconst (X := X_X12_pop) (pc := 5) (v := 1) d_X12_pop_5 (by decide) ?_
  refine GW_isub (X := X_X12_pop) (pc := 6) d_X12_pop_6 ?_
  replace h := g_bd h
  obtain ⟨M2, hM2, h⟩ := h
  refine GW_putI (X := X_X12_pop) (pc := 7) f_X12_282 d_X12_pop_7 hM2 (Or.inl fi_12_18) (Or.inl ty_12_18) ?_
  refine GW_aload_n (X := X_X12_pop) (pc := 10) d_X12_pop_10 rfl 0 rfl ?_
  replace h := g_bd h
  obtain ⟨v3, hv3, h⟩ := h
  refine GW_getR (X := X_X12_pop) (pc := 11) f_X12_32 d_X12_pop_11 hv3 (Or.inr ⟨_, ty_12_17⟩) ?_
  refine GW_aload_n (X := X_X12_pop) (pc := 14) d_X12_pop_14 rfl 0 rfl ?_
  replace h := g_bd h
  obtain ⟨v4, hv4, h⟩ := h
  refine GW_getI (X := X_X12_pop) (pc := 15) f_X12_282 d_X12_pop_15 hv4 (Or.inl ty_12_18) ?_
  replace h := g_bd h
  obtain ⟨v5, hv5, h⟩ := h
  refine GW_lald (X := X_X12_pop) (pc := 18) d_X12_pop_18 hv5 ?_
  replace h := Option.some.inj h
  subst h
  exact GW_ret (X := X_X12_pop) (pc := 19) d_X12_pop_19 rfl trivial
def F_X12_pop (l0 : Option Nat) (M : gM) : Option (Int64 × gM) := F_X12_pop_b0 l0 M
theorem T_X12_pop (l0 : Option Nat) (M : gM) (r : (Int64 × gM)) (h : F_X12_pop l0 M = some r) : g_Met 0 0 0 yX12_pop X_X12_pop [vr l0] M (some (vl r.1), r.2) :=
  g_Met_of pn_RX12 rfl (Nat.le_of_ble_eq_true rfl) (fun h => by cases h) (GW_sub [0] rfl (T_X12_pop_b0 r l0 M h))
/-! ForgetHeirsModel.one(IJJ)J -/
theorem d_X12_one_0 : decode cX12_one 0 = .ok (.iload_n 0, 1) := by decide +kernel
theorem d_X12_one_1 : decode cX12_one 1 = .ok (.tableswitch 171 2 14 #[67, 71, 75, 79, 107, 119, 131, 143, 155, 171, 167, 171, 93], 67) := by decide +kernel
theorem d_X12_one_68 : decode cX12_one 68 = .ok (.lload_n 1, 1) := by decide +kernel
theorem d_X12_one_69 : decode cX12_one 69 = .ok (.lload_n 3, 1) := by decide +kernel
theorem d_X12_one_70 : decode cX12_one 70 = .ok (.ladd, 1) := by decide +kernel
theorem d_X12_one_71 : decode cX12_one 71 = .ok (.lreturn, 1) := by decide +kernel
theorem d_X12_one_72 : decode cX12_one 72 = .ok (.lload_n 1, 1) := by decide +kernel
theorem d_X12_one_73 : decode cX12_one 73 = .ok (.lload_n 3, 1) := by decide +kernel
theorem d_X12_one_74 : decode cX12_one 74 = .ok (.lsub, 1) := by decide +kernel
theorem d_X12_one_75 : decode cX12_one 75 = .ok (.lreturn, 1) := by decide +kernel
theorem d_X12_one_76 : decode cX12_one 76 = .ok (.lload_n 1, 1) := by decide +kernel
theorem d_X12_one_77 : decode cX12_one 77 = .ok (.lload_n 3, 1) := by decide +kernel
theorem d_X12_one_78 : decode cX12_one 78 = .ok (.lmul, 1) := by decide +kernel
theorem d_X12_one_79 : decode cX12_one 79 = .ok (.lreturn, 1) := by decide +kernel
theorem d_X12_one_80 : decode cX12_one 80 = .ok (.lload_n 3, 1) := by decide +kernel
theorem d_X12_one_81 : decode cX12_one 81 = .ok (.lconst 0, 1) := by decide +kernel
theorem d_X12_one_82 : decode cX12_one 82 = .ok (.lcmp, 1) := by decide +kernel
theorem d_X12_one_83 : decode cX12_one 83 = .ok (.ifCond .ne 7, 3) := by decide +kernel
theorem d_X12_one_86 : decode cX12_one 86 = .ok (.lconst 0, 1) := by decide +kernel
theorem d_X12_one_87 : decode cX12_one 87 = .ok (.goto 6, 3) := by decide +kernel
theorem d_X12_one_90 : decode cX12_one 90 = .ok (.lload_n 1, 1) := by decide +kernel
theorem d_X12_one_91 : decode cX12_one 91 = .ok (.lload_n 3, 1) := by decide +kernel
theorem d_X12_one_92 : decode cX12_one 92 = .ok (.ldiv, 1) := by decide +kernel
theorem d_X12_one_93 : decode cX12_one 93 = .ok (.lreturn, 1) := by decide +kernel
theorem d_X12_one_94 : decode cX12_one 94 = .ok (.lload_n 3, 1) := by decide +kernel
theorem d_X12_one_95 : decode cX12_one 95 = .ok (.lconst 0, 1) := by decide +kernel
theorem d_X12_one_96 : decode cX12_one 96 = .ok (.lcmp, 1) := by decide +kernel
theorem d_X12_one_97 : decode cX12_one 97 = .ok (.ifCond .ne 7, 3) := by decide +kernel
theorem d_X12_one_100 : decode cX12_one 100 = .ok (.lconst 0, 1) := by decide +kernel
theorem d_X12_one_101 : decode cX12_one 101 = .ok (.goto 6, 3) := by decide +kernel
theorem d_X12_one_104 : decode cX12_one 104 = .ok (.lload_n 1, 1) := by decide +kernel
theorem d_X12_one_105 : decode cX12_one 105 = .ok (.lload_n 3, 1) := by decide +kernel
theorem d_X12_one_106 : decode cX12_one 106 = .ok (.lrem, 1) := by decide +kernel
theorem d_X12_one_107 : decode cX12_one 107 = .ok (.lreturn, 1) := by decide +kernel
theorem d_X12_one_108 : decode cX12_one 108 = .ok (.lload_n 1, 1) := by decide +kernel
theorem d_X12_one_109 : decode cX12_one 109 = .ok (.lload_n 3, 1) := by decide +kernel
theorem d_X12_one_110 : decode cX12_one 110 = .ok (.lcmp, 1) := by decide +kernel
theorem d_X12_one_111 : decode cX12_one 111 = .ok (.ifCond .ge 7, 3) := by decide +kernel
theorem d_X12_one_114 : decode cX12_one 114 = .ok (.lconst 1, 1) := by decide +kernel
theorem d_X12_one_115 : decode cX12_one 115 = .ok (.goto 4, 3) := by decide +kernel
theorem d_X12_one_118 : decode cX12_one 118 = .ok (.lconst 0, 1) := by decide +kernel
theorem d_X12_one_119 : decode cX12_one 119 = .ok (.lreturn, 1) := by decide +kernel
theorem d_X12_one_120 : decode cX12_one 120 = .ok (.lload_n 1, 1) := by decide +kernel
theorem d_X12_one_121 : decode cX12_one 121 = .ok (.lload_n 3, 1) := by decide +kernel
theorem d_X12_one_122 : decode cX12_one 122 = .ok (.lcmp, 1) := by decide +kernel
theorem d_X12_one_123 : decode cX12_one 123 = .ok (.ifCond .gt 7, 3) := by decide +kernel
theorem d_X12_one_126 : decode cX12_one 126 = .ok (.lconst 1, 1) := by decide +kernel
theorem d_X12_one_127 : decode cX12_one 127 = .ok (.goto 4, 3) := by decide +kernel
theorem d_X12_one_130 : decode cX12_one 130 = .ok (.lconst 0, 1) := by decide +kernel
theorem d_X12_one_131 : decode cX12_one 131 = .ok (.lreturn, 1) := by decide +kernel
theorem d_X12_one_132 : decode cX12_one 132 = .ok (.lload_n 1, 1) := by decide +kernel
theorem d_X12_one_133 : decode cX12_one 133 = .ok (.lload_n 3, 1) := by decide +kernel
theorem d_X12_one_134 : decode cX12_one 134 = .ok (.lcmp, 1) := by decide +kernel
theorem d_X12_one_135 : decode cX12_one 135 = .ok (.ifCond .ne 7, 3) := by decide +kernel
theorem d_X12_one_138 : decode cX12_one 138 = .ok (.lconst 1, 1) := by decide +kernel
theorem d_X12_one_139 : decode cX12_one 139 = .ok (.goto 4, 3) := by decide +kernel
theorem d_X12_one_142 : decode cX12_one 142 = .ok (.lconst 0, 1) := by decide +kernel
theorem d_X12_one_143 : decode cX12_one 143 = .ok (.lreturn, 1) := by decide +kernel
theorem d_X12_one_144 : decode cX12_one 144 = .ok (.lload_n 1, 1) := by decide +kernel
theorem d_X12_one_145 : decode cX12_one 145 = .ok (.lload_n 3, 1) := by decide +kernel
theorem d_X12_one_146 : decode cX12_one 146 = .ok (.lcmp, 1) := by decide +kernel
theorem d_X12_one_147 : decode cX12_one 147 = .ok (.ifCond .lt 7, 3) := by decide +kernel
theorem d_X12_one_150 : decode cX12_one 150 = .ok (.lconst 1, 1) := by decide +kernel
theorem d_X12_one_151 : decode cX12_one 151 = .ok (.goto 4, 3) := by decide +kernel
theorem d_X12_one_154 : decode cX12_one 154 = .ok (.lconst 0, 1) := by decide +kernel
theorem d_X12_one_155 : decode cX12_one 155 = .ok (.lreturn, 1) := by decide +kernel
theorem d_X12_one_156 : decode cX12_one 156 = .ok (.lload_n 1, 1) := by decide +kernel
theorem d_X12_one_157 : decode cX12_one 157 = .ok (.lload_n 3, 1) := by decide +kernel
theorem d_X12_one_158 : decode cX12_one 158 = .ok (.lcmp, 1) := by decide +kernel
theorem d_X12_one_159 : decode cX12_one 159 = .ok (.ifCond .le 7, 3) := by decide +kernel
theorem d_X12_one_162 : decode cX12_one 162 = .ok (.lconst 1, 1) := by decide +kernel
theorem d_X12_one_163 : decode cX12_one 163 = .ok (.goto 4, 3) := by decide +kernel
theorem d_X12_one_166 : decode cX12_one 166 = .ok (.lconst 0, 1) := by decide +kernel
theorem d_X12_one_167 : decode cX12_one 167 = .ok (.lreturn, 1) := by decide +kernel
theorem d_X12_one_168 : decode cX12_one 168 = .ok (.lload_n 1, 1) := by decide +kernel
theorem d_X12_one_169 : decode cX12_one 169 = .ok (.lload_n 3, 1) := by decide +kernel
theorem d_X12_one_170 : decode cX12_one 170 = .ok (.land, 1) := by decide +kernel
theorem d_X12_one_171 : decode cX12_one 171 = .ok (.lreturn, 1) := by decide +kernel
theorem d_X12_one_172 : decode cX12_one 172 = .ok (.lload_n 1, 1) := by decide +kernel
theorem d_X12_one_173 : decode cX12_one 173 = .ok (.lload_n 3, 1) := by decide +kernel
theorem d_X12_one_174 : decode cX12_one 174 = .ok (.lor, 1) := by decide +kernel
theorem d_X12_one_175 : decode cX12_one 175 = .ok (.lreturn, 1) := by decide +kernel
abbrev X_X12_one : gX := (RX12, cX12_one, 5, (some .long), false)
def F_X12_one_b172 (M : gM) (l1 : Int64) (l3 : Int64) : Option Int64 :=
  some (l1 ||| l3)
theorem T_X12_one_b172 (M : gM) (r : Int64) (l1 : Int64) (l3 : Int64) (h : F_X12_one_b172 M l1 l3 = some r) : GW 0 0 0 X_X12_one 172 [(1, vl l1), (3, vl l3)] [] M (some (vl r), M) := by
  delta F_X12_one_b172 at h
  refine GW_lload_n (X := X_X12_one) (pc := 172) d_X12_one_172 rfl 0 rfl ?_
  refine GW_lload_n (X := X_X12_one) (pc := 173) d_X12_one_173 rfl 1 rfl ?_
  refine GW_lor (X := X_X12_one) (pc := 174) d_X12_one_174 ?_
  replace h := Option.some.inj h
  subst h
  exact GW_ret (X := X_X12_one) (pc := 175) d_X12_one_175 rfl trivial
def F_X12_one_b0 (M : gM) (l0 : Int32) (l1 : Int64) (l3 : Int64) : Option Int64 :=
  if l0 = (2 : Int32) then (some (l1 + l3)) else if l0 = (3 : Int32) then (some (l1 - l3)) else if l0 = (4 : Int32) then (some (l1 * l3)) else if l0 = (5 : Int32) then (if (lg_cmp l3 (0 : Int64)) = 0 then (some (0 : Int64)) else (if l3 = 0 then none else some (l1 / l3))) else if l0 = (6 : Int32) then (if 0 ≤ (lg_cmp l1 l3) then (some (0 : Int64)) else (some (1 : Int64))) else if l0 = (7 : Int32) then (if 0 < (lg_cmp l1 l3) then (some (0 : Int64)) else (some (1 : Int64))) else if l0 = (8 : Int32) then (if (lg_cmp l1 l3) = 0 then (some (1 : Int64)) else (some (0 : Int64))) else if l0 = (9 : Int32) then (if (lg_cmp l1 l3) < 0 then (some (0 : Int64)) else (some (1 : Int64))) else if l0 = (10 : Int32) then (if (lg_cmp l1 l3) ≤ 0 then (some (0 : Int64)) else (some (1 : Int64))) else if l0 = (12 : Int32) then (some (l1 &&& l3)) else if l0 = (14 : Int32) then (if (lg_cmp l3 (0 : Int64)) = 0 then (some (0 : Int64)) else (if l3 = 0 then none else some (l1 - l1 / l3 * l3))) else (F_X12_one_b172 M l1 l3)
set_option maxHeartbeats 4000000 in
theorem T_X12_one_b0 (M : gM) (r : Int64) (l0 : Int32) (l1 : Int64) (l3 : Int64) (h : F_X12_one_b0 M l0 l1 l3 = some r) : GW 0 0 0 X_X12_one 0 [(0, vi l0), (1, vl l1), (3, vl l3)] [] M (some (vl r), M) := by
  delta F_X12_one_b0 at h
  refine GW_iload_n (X := X_X12_one) (pc := 0) d_X12_one_0 rfl 0 rfl ?_
  by_cases c0 : l0 = (2 : Int32)
  · replace h := g_ip c0 h
    refine GW_tableIn (X := X_X12_one) (pc := 1) 68 d_X12_one_1 (by rw [c0]; decide) (by rw [c0]; decide) (off := 67) (by rw [c0]; rfl) (by decide) ?_
    refine GW_lload_n (X := X_X12_one) (pc := 68) d_X12_one_68 rfl 1 rfl ?_
    refine GW_lload_n (X := X_X12_one) (pc := 69) d_X12_one_69 rfl 2 rfl ?_
    refine GW_ladd (X := X_X12_one) (pc := 70) d_X12_one_70 ?_
    replace h := Option.some.inj h
    subst h
    exact GW_ret (X := X_X12_one) (pc := 71) d_X12_one_71 rfl trivial
  · replace h := g_ie c0 h
    by_cases c1 : l0 = (3 : Int32)
    · replace h := g_ip c1 h
      refine GW_tableIn (X := X_X12_one) (pc := 1) 72 d_X12_one_1 (by rw [c1]; decide) (by rw [c1]; decide) (off := 71) (by rw [c1]; rfl) (by decide) ?_
      refine GW_lload_n (X := X_X12_one) (pc := 72) d_X12_one_72 rfl 1 rfl ?_
      refine GW_lload_n (X := X_X12_one) (pc := 73) d_X12_one_73 rfl 2 rfl ?_
      refine GW_lsub (X := X_X12_one) (pc := 74) d_X12_one_74 ?_
      replace h := Option.some.inj h
      subst h
      exact GW_ret (X := X_X12_one) (pc := 75) d_X12_one_75 rfl trivial
    · replace h := g_ie c1 h
      by_cases c2 : l0 = (4 : Int32)
      · replace h := g_ip c2 h
        refine GW_tableIn (X := X_X12_one) (pc := 1) 76 d_X12_one_1 (by rw [c2]; decide) (by rw [c2]; decide) (off := 75) (by rw [c2]; rfl) (by decide) ?_
        refine GW_lload_n (X := X_X12_one) (pc := 76) d_X12_one_76 rfl 1 rfl ?_
        refine GW_lload_n (X := X_X12_one) (pc := 77) d_X12_one_77 rfl 2 rfl ?_
        refine GW_lmul (X := X_X12_one) (pc := 78) d_X12_one_78 ?_
        replace h := Option.some.inj h
        subst h
        exact GW_ret (X := X_X12_one) (pc := 79) d_X12_one_79 rfl trivial
      · replace h := g_ie c2 h
        by_cases c3 : l0 = (5 : Int32)
        · replace h := g_ip c3 h
          refine GW_tableIn (X := X_X12_one) (pc := 1) 80 d_X12_one_1 (by rw [c3]; decide) (by rw [c3]; decide) (off := 79) (by rw [c3]; rfl) (by decide) ?_
          refine GW_lload_n (X := X_X12_one) (pc := 80) d_X12_one_80 rfl 2 rfl ?_
          refine GW_lconst (X := X_X12_one) (pc := 81) (v := 0) d_X12_one_81 (by decide) ?_
          refine GW_lcmp (X := X_X12_one) (pc := 82) d_X12_one_82 ?_
          refine GW_if_ne (X := X_X12_one) (pc := 83) 90 d_X12_one_83 (by decide) (fun c => ?_) (fun c => ?_)
          · replace h := g_ie c h
            refine GW_lload_n (X := X_X12_one) (pc := 90) d_X12_one_90 rfl 1 rfl ?_
            refine GW_lload_n (X := X_X12_one) (pc := 91) d_X12_one_91 rfl 2 rfl ?_
            replace h := g_ife h
            obtain ⟨hz1, h⟩ := h
            refine GW_ldiv (X := X_X12_one) (pc := 92) d_X12_one_92 hz1 ?_
            replace h := Option.some.inj h
            subst h
            exact GW_ret (X := X_X12_one) (pc := 93) d_X12_one_93 rfl trivial
          · replace h := g_ip c h
            refine GW_lconst (X := X_X12_one) (pc := 86) (v := 0) d_X12_one_86 (by decide) ?_
            refine GW_goto (X := X_X12_one) (pc := 87) 93 d_X12_one_87 (by decide) ?_
            replace h := Option.some.inj h
            subst h
            exact GW_ret (X := X_X12_one) (pc := 93) d_X12_one_93 rfl trivial
        · replace h := g_ie c3 h
          by_cases c4 : l0 = (6 : Int32)
          · replace h := g_ip c4 h
            refine GW_tableIn (X := X_X12_one) (pc := 1) 108 d_X12_one_1 (by rw [c4]; decide) (by rw [c4]; decide) (off := 107) (by rw [c4]; rfl) (by decide) ?_
            refine GW_lload_n (X := X_X12_one) (pc := 108) d_X12_one_108 rfl 1 rfl ?_
            refine GW_lload_n (X := X_X12_one) (pc := 109) d_X12_one_109 rfl 2 rfl ?_
            refine GW_lcmp (X := X_X12_one) (pc := 110) d_X12_one_110 ?_
            refine GW_if_ge (X := X_X12_one) (pc := 111) 118 d_X12_one_111 (by decide) (fun c => ?_) (fun c => ?_)
            · replace h := g_ip c h
              refine GW_lconst (X := X_X12_one) (pc := 118) (v := 0) d_X12_one_118 (by decide) ?_
              replace h := Option.some.inj h
              subst h
              exact GW_ret (X := X_X12_one) (pc := 119) d_X12_one_119 rfl trivial
            · replace h := g_ie c h
              refine GW_lconst (X := X_X12_one) (pc := 114) (v := 1) d_X12_one_114 (by decide) ?_
              refine GW_goto (X := X_X12_one) (pc := 115) 119 d_X12_one_115 (by decide) ?_
              replace h := Option.some.inj h
              subst h
              exact GW_ret (X := X_X12_one) (pc := 119) d_X12_one_119 rfl trivial
          · replace h := g_ie c4 h
            by_cases c5 : l0 = (7 : Int32)
            · replace h := g_ip c5 h
              refine GW_tableIn (X := X_X12_one) (pc := 1) 120 d_X12_one_1 (by rw [c5]; decide) (by rw [c5]; decide) (off := 119) (by rw [c5]; rfl) (by decide) ?_
              refine GW_lload_n (X := X_X12_one) (pc := 120) d_X12_one_120 rfl 1 rfl ?_
              refine GW_lload_n (X := X_X12_one) (pc := 121) d_X12_one_121 rfl 2 rfl ?_
              refine GW_lcmp (X := X_X12_one) (pc := 122) d_X12_one_122 ?_
              refine GW_if_gt (X := X_X12_one) (pc := 123) 130 d_X12_one_123 (by decide) (fun c => ?_) (fun c => ?_)
              · replace h := g_ip c h
                refine GW_lconst (X := X_X12_one) (pc := 130) (v := 0) d_X12_one_130 (by decide) ?_
                replace h := Option.some.inj h
                subst h
                exact GW_ret (X := X_X12_one) (pc := 131) d_X12_one_131 rfl trivial
              · replace h := g_ie c h
                refine GW_lconst (X := X_X12_one) (pc := 126) (v := 1) d_X12_one_126 (by decide) ?_
                refine GW_goto (X := X_X12_one) (pc := 127) 131 d_X12_one_127 (by decide) ?_
                replace h := Option.some.inj h
                subst h
                exact GW_ret (X := X_X12_one) (pc := 131) d_X12_one_131 rfl trivial
            · replace h := g_ie c5 h
              by_cases c6 : l0 = (8 : Int32)
              · replace h := g_ip c6 h
                refine GW_tableIn (X := X_X12_one) (pc := 1) 132 d_X12_one_1 (by rw [c6]; decide) (by rw [c6]; decide) (off := 131) (by rw [c6]; rfl) (by decide) ?_
                refine GW_lload_n (X := X_X12_one) (pc := 132) d_X12_one_132 rfl 1 rfl ?_
                refine GW_lload_n (X := X_X12_one) (pc := 133) d_X12_one_133 rfl 2 rfl ?_
                refine GW_lcmp (X := X_X12_one) (pc := 134) d_X12_one_134 ?_
                refine GW_if_ne (X := X_X12_one) (pc := 135) 142 d_X12_one_135 (by decide) (fun c => ?_) (fun c => ?_)
                · replace h := g_ie c h
                  refine GW_lconst (X := X_X12_one) (pc := 142) (v := 0) d_X12_one_142 (by decide) ?_
                  replace h := Option.some.inj h
                  subst h
                  exact GW_ret (X := X_X12_one) (pc := 143) d_X12_one_143 rfl trivial
                · replace h := g_ip c h
                  refine GW_lconst (X := X_X12_one) (pc := 138) (v := 1) d_X12_one_138 (by decide) ?_
                  refine GW_goto (X := X_X12_one) (pc := 139) 143 d_X12_one_139 (by decide) ?_
                  replace h := Option.some.inj h
                  subst h
                  exact GW_ret (X := X_X12_one) (pc := 143) d_X12_one_143 rfl trivial
              · replace h := g_ie c6 h
                by_cases c7 : l0 = (9 : Int32)
                · replace h := g_ip c7 h
                  refine GW_tableIn (X := X_X12_one) (pc := 1) 144 d_X12_one_1 (by rw [c7]; decide) (by rw [c7]; decide) (off := 143) (by rw [c7]; rfl) (by decide) ?_
                  refine GW_lload_n (X := X_X12_one) (pc := 144) d_X12_one_144 rfl 1 rfl ?_
                  refine GW_lload_n (X := X_X12_one) (pc := 145) d_X12_one_145 rfl 2 rfl ?_
                  refine GW_lcmp (X := X_X12_one) (pc := 146) d_X12_one_146 ?_
                  refine GW_if_lt (X := X_X12_one) (pc := 147) 154 d_X12_one_147 (by decide) (fun c => ?_) (fun c => ?_)
                  · replace h := g_ip c h
                    refine GW_lconst (X := X_X12_one) (pc := 154) (v := 0) d_X12_one_154 (by decide) ?_
                    replace h := Option.some.inj h
                    subst h
                    exact GW_ret (X := X_X12_one) (pc := 155) d_X12_one_155 rfl trivial
                  · replace h := g_ie c h
                    refine GW_lconst (X := X_X12_one) (pc := 150) (v := 1) d_X12_one_150 (by decide) ?_
                    refine GW_goto (X := X_X12_one) (pc := 151) 155 d_X12_one_151 (by decide) ?_
                    replace h := Option.some.inj h
                    subst h
                    exact GW_ret (X := X_X12_one) (pc := 155) d_X12_one_155 rfl trivial
                · replace h := g_ie c7 h
                  by_cases c8 : l0 = (10 : Int32)
                  · replace h := g_ip c8 h
                    refine GW_tableIn (X := X_X12_one) (pc := 1) 156 d_X12_one_1 (by rw [c8]; decide) (by rw [c8]; decide) (off := 155) (by rw [c8]; rfl) (by decide) ?_
                    refine GW_lload_n (X := X_X12_one) (pc := 156) d_X12_one_156 rfl 1 rfl ?_
                    refine GW_lload_n (X := X_X12_one) (pc := 157) d_X12_one_157 rfl 2 rfl ?_
                    refine GW_lcmp (X := X_X12_one) (pc := 158) d_X12_one_158 ?_
                    refine GW_if_le (X := X_X12_one) (pc := 159) 166 d_X12_one_159 (by decide) (fun c => ?_) (fun c => ?_)
                    · replace h := g_ip c h
                      refine GW_lconst (X := X_X12_one) (pc := 166) (v := 0) d_X12_one_166 (by decide) ?_
                      replace h := Option.some.inj h
                      subst h
                      exact GW_ret (X := X_X12_one) (pc := 167) d_X12_one_167 rfl trivial
                    · replace h := g_ie c h
                      refine GW_lconst (X := X_X12_one) (pc := 162) (v := 1) d_X12_one_162 (by decide) ?_
                      refine GW_goto (X := X_X12_one) (pc := 163) 167 d_X12_one_163 (by decide) ?_
                      replace h := Option.some.inj h
                      subst h
                      exact GW_ret (X := X_X12_one) (pc := 167) d_X12_one_167 rfl trivial
                  · replace h := g_ie c8 h
                    by_cases c9 : l0 = (12 : Int32)
                    · replace h := g_ip c9 h
                      refine GW_tableIn (X := X_X12_one) (pc := 1) 168 d_X12_one_1 (by rw [c9]; decide) (by rw [c9]; decide) (off := 167) (by rw [c9]; rfl) (by decide) ?_
                      refine GW_lload_n (X := X_X12_one) (pc := 168) d_X12_one_168 rfl 1 rfl ?_
                      refine GW_lload_n (X := X_X12_one) (pc := 169) d_X12_one_169 rfl 2 rfl ?_
                      refine GW_land (X := X_X12_one) (pc := 170) d_X12_one_170 ?_
                      replace h := Option.some.inj h
                      subst h
                      exact GW_ret (X := X_X12_one) (pc := 171) d_X12_one_171 rfl trivial
                    · replace h := g_ie c9 h
                      by_cases c10 : l0 = (14 : Int32)
                      · replace h := g_ip c10 h
                        refine GW_tableIn (X := X_X12_one) (pc := 1) 94 d_X12_one_1 (by rw [c10]; decide) (by rw [c10]; decide) (off := 93) (by rw [c10]; rfl) (by decide) ?_
                        refine GW_lload_n (X := X_X12_one) (pc := 94) d_X12_one_94 rfl 2 rfl ?_
                        refine GW_lconst (X := X_X12_one) (pc := 95) (v := 0) d_X12_one_95 (by decide) ?_
                        refine GW_lcmp (X := X_X12_one) (pc := 96) d_X12_one_96 ?_
                        refine GW_if_ne (X := X_X12_one) (pc := 97) 104 d_X12_one_97 (by decide) (fun c => ?_) (fun c => ?_)
                        · replace h := g_ie c h
                          refine GW_lload_n (X := X_X12_one) (pc := 104) d_X12_one_104 rfl 1 rfl ?_
                          refine GW_lload_n (X := X_X12_one) (pc := 105) d_X12_one_105 rfl 2 rfl ?_
                          replace h := g_ife h
                          obtain ⟨hz2, h⟩ := h
                          refine GW_lrem (X := X_X12_one) (pc := 106) d_X12_one_106 hz2 ?_
                          replace h := Option.some.inj h
                          subst h
                          exact GW_ret (X := X_X12_one) (pc := 107) d_X12_one_107 rfl trivial
                        · replace h := g_ip c h
                          refine GW_lconst (X := X_X12_one) (pc := 100) (v := 0) d_X12_one_100 (by decide) ?_
                          refine GW_goto (X := X_X12_one) (pc := 101) 107 d_X12_one_101 (by decide) ?_
                          replace h := Option.some.inj h
                          subst h
                          exact GW_ret (X := X_X12_one) (pc := 107) d_X12_one_107 rfl trivial
                      · replace h := g_ie c10 h
                        refine g_tab (lo := 2) (hi := 14) (x := l0) (fun ho => ?_) (fun h1 h2 => ?_)
                        · refine GW_tableOut (X := X_X12_one) (pc := 1) 172 d_X12_one_1 ho (by decide) ?_
                          refine GW_sub [1, 2] rfl ?_
                          exact T_X12_one_b172 M r l1 l3 h
                        · have hd9 : l0.toInt = 11 ∨ l0.toInt = 13 := by
                            have n0 := g_nk (k := 2) c0 (by decide)
                            have n1 := g_nk (k := 3) c1 (by decide)
                            have n2 := g_nk (k := 4) c2 (by decide)
                            have n3 := g_nk (k := 5) c3 (by decide)
                            have n4 := g_nk (k := 6) c4 (by decide)
                            have n5 := g_nk (k := 7) c5 (by decide)
                            have n6 := g_nk (k := 8) c6 (by decide)
                            have n7 := g_nk (k := 9) c7 (by decide)
                            have n8 := g_nk (k := 10) c8 (by decide)
                            have n9 := g_nk (k := 12) c9 (by decide)
                            have n10 := g_nk (k := 14) c10 (by decide)
                            omega
                          rcases hd9 with e9 | e9
                          · refine GW_tableIn (X := X_X12_one) (pc := 1) 172 d_X12_one_1 (by omega) (by omega) (off := 171) (by rw [e9]; rfl) (by decide) ?_
                            refine GW_sub [1, 2] rfl ?_
                            exact T_X12_one_b172 M r l1 l3 h
                          · refine GW_tableIn (X := X_X12_one) (pc := 1) 172 d_X12_one_1 (by omega) (by omega) (off := 171) (by rw [e9]; rfl) (by decide) ?_
                            refine GW_sub [1, 2] rfl ?_
                            exact T_X12_one_b172 M r l1 l3 h
def F_X12_one (l0 : Int32) (l1 : Int64) (l3 : Int64) (M : gM) : Option Int64 := F_X12_one_b0 M l0 l1 l3
theorem T_X12_one (l0 : Int32) (l1 : Int64) (l3 : Int64) (M : gM) (r : Int64) (h : F_X12_one l0 l1 l3 M = some r) : g_Met 0 0 0 yX12_one X_X12_one [vi l0, vl l1, vl l3] M (some (vl r), M) :=
  g_Met_of pn_RX12 rfl (Nat.le_of_ble_eq_true rfl) (fun h => by cases h) (GW_sub [0, 1, 2] rfl (T_X12_one_b0 M r l0 l1 l3 h))
/-! ForgetHeirsModel.reckons(III)J -/
theorem d_X12_reckons_0 : decode cX12_reckons 0 = .ok (.aload_n 0, 1) := by decide +kernel
theorem d_X12_reckons_1 : decode cX12_reckons 1 = .ok (.iconst 0, 1) := by decide +kernel
theorem d_X12_reckons_2 : decode cX12_reckons 2 = .ok (.putfield 282, 3) := by decide +kernel
theorem d_X12_reckons_5 : decode cX12_reckons 5 = .ok (.iload_n 2, 1) := by decide +kernel
theorem d_X12_reckons_6 : decode cX12_reckons 6 = .ok (.istore 4, 2) := by decide +kernel
theorem d_X12_reckons_8 : decode cX12_reckons 8 = .ok (.iload 4, 2) := by decide +kernel
theorem d_X12_reckons_10 : decode cX12_reckons 10 = .ok (.iload_n 3, 1) := by decide +kernel
theorem d_X12_reckons_11 : decode cX12_reckons 11 = .ok (.if_icmp .ge 124, 3) := by decide +kernel
theorem d_X12_reckons_14 : decode cX12_reckons 14 = .ok (.aload_n 0, 1) := by decide +kernel
theorem d_X12_reckons_15 : decode cX12_reckons 15 = .ok (.getfield 13, 3) := by decide +kernel
theorem d_X12_reckons_18 : decode cX12_reckons 18 = .ok (.sipush 400, 3) := by decide +kernel
theorem d_X12_reckons_21 : decode cX12_reckons 21 = .ok (.iload_n 1, 1) := by decide +kernel
theorem d_X12_reckons_22 : decode cX12_reckons 22 = .ok (.imul, 1) := by decide +kernel
theorem d_X12_reckons_23 : decode cX12_reckons 23 = .ok (.iload 4, 2) := by decide +kernel
theorem d_X12_reckons_25 : decode cX12_reckons 25 = .ok (.iadd, 1) := by decide +kernel
theorem d_X12_reckons_26 : decode cX12_reckons 26 = .ok (.iaload, 1) := by decide +kernel
theorem d_X12_reckons_27 : decode cX12_reckons 27 = .ok (.bipush 15, 2) := by decide +kernel
theorem d_X12_reckons_29 : decode cX12_reckons 29 = .ok (.iand, 1) := by decide +kernel
theorem d_X12_reckons_30 : decode cX12_reckons 30 = .ok (.istore 5, 2) := by decide +kernel
theorem d_X12_reckons_32 : decode cX12_reckons 32 = .ok (.aload_n 0, 1) := by decide +kernel
theorem d_X12_reckons_33 : decode cX12_reckons 33 = .ok (.getfield 13, 3) := by decide +kernel
theorem d_X12_reckons_36 : decode cX12_reckons 36 = .ok (.sipush 400, 3) := by decide +kernel
theorem d_X12_reckons_39 : decode cX12_reckons 39 = .ok (.iload_n 1, 1) := by decide +kernel
theorem d_X12_reckons_40 : decode cX12_reckons 40 = .ok (.imul, 1) := by decide +kernel
theorem d_X12_reckons_41 : decode cX12_reckons 41 = .ok (.iload 4, 2) := by decide +kernel
theorem d_X12_reckons_43 : decode cX12_reckons 43 = .ok (.iadd, 1) := by decide +kernel
theorem d_X12_reckons_44 : decode cX12_reckons 44 = .ok (.iaload, 1) := by decide +kernel
theorem d_X12_reckons_45 : decode cX12_reckons 45 = .ok (.iconst 4, 1) := by decide +kernel
theorem d_X12_reckons_46 : decode cX12_reckons 46 = .ok (.ishr, 1) := by decide +kernel
theorem d_X12_reckons_47 : decode cX12_reckons 47 = .ok (.istore 6, 2) := by decide +kernel
theorem d_X12_reckons_49 : decode cX12_reckons 49 = .ok (.iload 5, 2) := by decide +kernel
theorem d_X12_reckons_51 : decode cX12_reckons 51 = .ok (.ifCond .ne 13, 3) := by decide +kernel
theorem d_X12_reckons_54 : decode cX12_reckons 54 = .ok (.aload_n 0, 1) := by decide +kernel
theorem d_X12_reckons_55 : decode cX12_reckons 55 = .ok (.iload 6, 2) := by decide +kernel
theorem d_X12_reckons_57 : decode cX12_reckons 57 = .ok (.i2l, 1) := by decide +kernel
theorem d_X12_reckons_58 : decode cX12_reckons 58 = .ok (.invokevirtual 285, 3) := by decide +kernel
theorem d_X12_reckons_61 : decode cX12_reckons 61 = .ok (.goto 68, 3) := by decide +kernel
theorem d_X12_reckons_64 : decode cX12_reckons 64 = .ok (.iload 5, 2) := by decide +kernel
theorem d_X12_reckons_66 : decode cX12_reckons 66 = .ok (.iconst 1, 1) := by decide +kernel
theorem d_X12_reckons_67 : decode cX12_reckons 67 = .ok (.if_icmp .ne 17, 3) := by decide +kernel
theorem d_X12_reckons_70 : decode cX12_reckons 70 = .ok (.aload_n 0, 1) := by decide +kernel
theorem d_X12_reckons_71 : decode cX12_reckons 71 = .ok (.aload_n 0, 1) := by decide +kernel
theorem d_X12_reckons_72 : decode cX12_reckons 72 = .ok (.getfield 36, 3) := by decide +kernel
theorem d_X12_reckons_75 : decode cX12_reckons 75 = .ok (.iload 6, 2) := by decide +kernel
theorem d_X12_reckons_77 : decode cX12_reckons 77 = .ok (.laload, 1) := by decide +kernel
theorem d_X12_reckons_78 : decode cX12_reckons 78 = .ok (.invokevirtual 285, 3) := by decide +kernel
theorem d_X12_reckons_81 : decode cX12_reckons 81 = .ok (.goto 48, 3) := by decide +kernel
theorem d_X12_reckons_84 : decode cX12_reckons 84 = .ok (.iload 5, 2) := by decide +kernel
theorem d_X12_reckons_86 : decode cX12_reckons 86 = .ok (.bipush 11, 2) := by decide +kernel
theorem d_X12_reckons_88 : decode cX12_reckons 88 = .ok (.if_icmp .ne 16, 3) := by decide +kernel
theorem d_X12_reckons_91 : decode cX12_reckons 91 = .ok (.aload_n 0, 1) := by decide +kernel
theorem d_X12_reckons_92 : decode cX12_reckons 92 = .ok (.lconst 1, 1) := by decide +kernel
theorem d_X12_reckons_93 : decode cX12_reckons 93 = .ok (.aload_n 0, 1) := by decide +kernel
theorem d_X12_reckons_94 : decode cX12_reckons 94 = .ok (.invokevirtual 289, 3) := by decide +kernel
theorem d_X12_reckons_97 : decode cX12_reckons 97 = .ok (.lsub, 1) := by decide +kernel
theorem d_X12_reckons_98 : decode cX12_reckons 98 = .ok (.invokevirtual 285, 3) := by decide +kernel
theorem d_X12_reckons_101 : decode cX12_reckons 101 = .ok (.goto 28, 3) := by decide +kernel
theorem d_X12_reckons_104 : decode cX12_reckons 104 = .ok (.aload_n 0, 1) := by decide +kernel
theorem d_X12_reckons_105 : decode cX12_reckons 105 = .ok (.invokevirtual 289, 3) := by decide +kernel
theorem d_X12_reckons_108 : decode cX12_reckons 108 = .ok (.lstore 7, 2) := by decide +kernel
theorem d_X12_reckons_110 : decode cX12_reckons 110 = .ok (.aload_n 0, 1) := by decide +kernel
theorem d_X12_reckons_111 : decode cX12_reckons 111 = .ok (.invokevirtual 289, 3) := by decide +kernel
theorem d_X12_reckons_114 : decode cX12_reckons 114 = .ok (.lstore 9, 2) := by decide +kernel
theorem d_X12_reckons_116 : decode cX12_reckons 116 = .ok (.aload_n 0, 1) := by decide +kernel
theorem d_X12_reckons_117 : decode cX12_reckons 117 = .ok (.iload 5, 2) := by decide +kernel
theorem d_X12_reckons_119 : decode cX12_reckons 119 = .ok (.lload 9, 2) := by decide +kernel
theorem d_X12_reckons_121 : decode cX12_reckons 121 = .ok (.lload 7, 2) := by decide +kernel
theorem d_X12_reckons_123 : decode cX12_reckons 123 = .ok (.invokestatic 293, 3) := by decide +kernel
theorem d_X12_reckons_126 : decode cX12_reckons 126 = .ok (.invokevirtual 285, 3) := by decide +kernel
theorem d_X12_reckons_129 : decode cX12_reckons 129 = .ok (.iinc 4 1, 3) := by decide +kernel
theorem d_X12_reckons_132 : decode cX12_reckons 132 = .ok (.goto (-124), 3) := by decide +kernel
theorem d_X12_reckons_135 : decode cX12_reckons 135 = .ok (.aload_n 0, 1) := by decide +kernel
theorem d_X12_reckons_136 : decode cX12_reckons 136 = .ok (.invokevirtual 289, 3) := by decide +kernel
theorem d_X12_reckons_139 : decode cX12_reckons 139 = .ok (.lreturn, 1) := by decide +kernel
abbrev X_X12_reckons : gX := (RX12, cX12_reckons, 11, (some .long), false)
def F_X12_reckons_b129 (k8 : Option Nat → Int32 → Int32 → Int32 → gM → Option (Int64 × gM)) (l0 : Option Nat) (l1 : Int32) (l3 : Int32) (l4 : Int32) (M : gM) : Option (Int64 × gM) :=
  k8 l0 l1 l3 (l4 + 1) M
theorem T_X12_reckons_b129 (k8 : Option Nat → Int32 → Int32 → Int32 → gM → Option (Int64 × gM)) (r : (Int64 × gM)) (hk8 : ∀ (l0 : Option Nat) (l1 : Int32) (l3 : Int32) (l4 : Int32) (M : gM), k8 l0 l1 l3 l4 M = some r → GW 1 0 0 X_X12_reckons 8 [(0, vr l0), (1, vi l1), (3, vi l3), (4, vi l4)] [] M (some (vl r.1), r.2)) (l0 : Option Nat) (l1 : Int32) (l3 : Int32) (l4 : Int32) (M : gM) (h : F_X12_reckons_b129 k8 l0 l1 l3 l4 M = some r) : GW 1 0 0 X_X12_reckons 129 [(0, vr l0), (1, vi l1), (3, vi l3), (4, vi l4)] [] M (some (vl r.1), r.2) := by
  delta F_X12_reckons_b129 at h
  refine GW_iinc (j := 3) (X := X_X12_reckons) (pc := 129) d_X12_reckons_129 rfl (congrArg (fun z => _ + z) (by decide : Int32.ofInt 1 = (1 : Int32))) (Nat.le_of_ble_eq_true rfl) (lv2 := [(4, vi (l4 + 1)), (0, vr l0), (1, vi l1), (3, vi l3)]) rfl ?_
  refine GW_goto (X := X_X12_reckons) (pc := 132) 8 d_X12_reckons_132 (by decide) ?_
  refine GW_sub [1, 2, 3, 0] rfl ?_
  exact hk8 l0 l1 l3 (l4 + 1) M h
def F_X12_reckons_b8 (k8 : Option Nat → Int32 → Int32 → Int32 → gM → Option (Int64 × gM)) (l0 : Option Nat) (l1 : Int32) (l3 : Int32) (l4 : Int32) (M : gM) : Option (Int64 × gM) :=
  if l3 ≤ l4 then ((gO 12 M l0).bind fun i1 => (F_X12_pop (some i1) M).bind fun (v2, M3) => some (v2, M3)) else ((gR 12 M l0 3).bind fun v4 => (aI 20 M v4 (((400 : Int32) * l1) + l4)).bind fun v5 => (gR 12 M l0 3).bind fun v6 => (aI 20 M v6 (((400 : Int32) * l1) + l4)).bind fun v7 => if (v5 &&& (15 : Int32)) = 0 then ((gO 12 M l0).bind fun i26 => (F_X12_push (some i26) ((v7 >>> ((4 : Int32) &&& 31))).toInt64 M).bind fun M27 => F_X12_reckons_b129 k8 (some i26) l1 l3 l4 M27) else (if (v5 &&& (15 : Int32)) = (1 : Int32) then ((gR 12 M l0 19).bind fun v22 => (aL M v22 (v7 >>> ((4 : Int32) &&& 31))).bind fun v23 => (gO 12 M l0).bind fun i24 => (F_X12_push (some i24) v23 M).bind fun M25 => F_X12_reckons_b129 k8 (some i24) l1 l3 l4 M25) else (if (v5 &&& (15 : Int32)) = (11 : Int32) then ((gO 12 M l0).bind fun i17 => (F_X12_pop (some i17) M).bind fun (v18, M19) => (gC 12 M19 i17).bind fun _ => (F_X12_push (some i17) ((1 : Int64) - v18) M19).bind fun M21 => F_X12_reckons_b129 k8 (some i17) l1 l3 l4 M21) else ((gO 12 M l0).bind fun i8 => (F_X12_pop (some i8) M).bind fun (v9, M10) => (gC 12 M10 i8).bind fun _ => (F_X12_pop (some i8) M10).bind fun (v12, M13) => (F_X12_one (v5 &&& (15 : Int32)) v12 v9 M13).bind fun v14 => (gC 12 M13 i8).bind fun _ => (F_X12_push (some i8) v14 M13).bind fun M16 => F_X12_reckons_b129 k8 (some i8) l1 l3 l4 M16))))
set_option maxHeartbeats 1000000 in
theorem T_X12_reckons_b8 (k8 : Option Nat → Int32 → Int32 → Int32 → gM → Option (Int64 × gM)) (r : (Int64 × gM)) (hk8 : ∀ (l0 : Option Nat) (l1 : Int32) (l3 : Int32) (l4 : Int32) (M : gM), k8 l0 l1 l3 l4 M = some r → GW 1 0 0 X_X12_reckons 8 [(0, vr l0), (1, vi l1), (3, vi l3), (4, vi l4)] [] M (some (vl r.1), r.2)) (l0 : Option Nat) (l1 : Int32) (l3 : Int32) (l4 : Int32) (M : gM) (h : F_X12_reckons_b8 k8 l0 l1 l3 l4 M = some r) : GW 1 0 0 X_X12_reckons 8 [(0, vr l0), (1, vi l1), (3, vi l3), (4, vi l4)] [] M (some (vl r.1), r.2) := by
  delta F_X12_reckons_b8 at h
  refine GW_iload (X := X_X12_reckons) (pc := 8) d_X12_reckons_8 3 rfl ?_
  refine GW_iload_n (X := X_X12_reckons) (pc := 10) d_X12_reckons_10 rfl 2 rfl ?_
  refine GW_icmp_ge (X := X_X12_reckons) (pc := 11) 135 d_X12_reckons_11 (by decide) (fun c => ?_) (fun c => ?_)
  · replace h := g_ip c h
    refine GW_aload_n (X := X_X12_reckons) (pc := 135) d_X12_reckons_135 rfl 0 rfl ?_
    replace h := g_bd h
    obtain ⟨i1, hi1, h⟩ := h
    obtain ⟨rfl, ki1⟩ := g_gO hi1
    replace h := g_bd h
    obtain ⟨⟨v2, M3⟩, hv2, h⟩ := h
    dsimp only at h
    refine GW_callV (X := X_X12_reckons) (pc := 136) (bc0 := 0) (bs0 := 0) (r := some (vl v2)) (M2 := M3) (c0 := 12) (T_X12_pop (some i1) M (v2, M3) hv2) (Nat.le_of_ble_eq_true rfl) (Nat.le_of_ble_eq_true rfl) rfl g_cok12 ki1 yc_X12_pop ⟨m_1509, m_1511, m_95, m_127, m_1512⟩ d_X12_reckons_136 rfl (st := []) rfl (Nat.le_of_ble_eq_true rfl) (Nat.le_of_ble_eq_true rfl) (Nat.le_of_ble_eq_true rfl) (st2 := [vl v2]) rfl ?_
    replace h := Option.some.inj h
    subst h
    exact GW_ret (X := X_X12_reckons) (pc := 139) d_X12_reckons_139 rfl trivial
  · replace h := g_ie c h
    refine GW_aload_n (X := X_X12_reckons) (pc := 14) d_X12_reckons_14 rfl 0 rfl ?_
    replace h := g_bd h
    obtain ⟨v4, hv4, h⟩ := h
    refine GW_getR (X := X_X12_reckons) (pc := 15) f_X12_13 d_X12_reckons_15 hv4 (Or.inr ⟨_, ty_12_3⟩) ?_
    refine GW_sipush (X := X_X12_reckons) (pc := 18) (v := 400) d_X12_reckons_18 (by decide) ?_
    refine GW_iload_n (X := X_X12_reckons) (pc := 21) d_X12_reckons_21 rfl 1 rfl ?_
    refine GW_imul (X := X_X12_reckons) (pc := 22) d_X12_reckons_22 ?_
    refine GW_iload (X := X_X12_reckons) (pc := 23) d_X12_reckons_23 3 rfl ?_
    refine GW_iadd (X := X_X12_reckons) (pc := 25) d_X12_reckons_25 ?_
    replace h := g_bd h
    obtain ⟨v5, hv5, h⟩ := h
    refine GW_iald (X := X_X12_reckons) (pc := 26) d_X12_reckons_26 hv5 ?_
    refine GW_bipush (X := X_X12_reckons) (pc := 27) (v := 15) d_X12_reckons_27 (by decide) ?_
    refine GW_iand (X := X_X12_reckons) (pc := 29) d_X12_reckons_29 ?_
    refine GW_istore (X := X_X12_reckons) (pc := 30) d_X12_reckons_30 (Nat.le_of_ble_eq_true rfl) (lv2 := [(5, vi (v5 &&& (15 : Int32))), (0, vr l0), (1, vi l1), (3, vi l3), (4, vi l4)]) rfl ?_
    refine GW_aload_n (X := X_X12_reckons) (pc := 32) d_X12_reckons_32 rfl 1 rfl ?_
    replace h := g_bd h
    obtain ⟨v6, hv6, h⟩ := h
    refine GW_getR (X := X_X12_reckons) (pc := 33) f_X12_13 d_X12_reckons_33 hv6 (Or.inr ⟨_, ty_12_3⟩) ?_
    refine GW_sipush (X := X_X12_reckons) (pc := 36) (v := 400) d_X12_reckons_36 (by decide) ?_
    refine GW_iload_n (X := X_X12_reckons) (pc := 39) d_X12_reckons_39 rfl 2 rfl ?_
    refine GW_imul (X := X_X12_reckons) (pc := 40) d_X12_reckons_40 ?_
    refine GW_iload (X := X_X12_reckons) (pc := 41) d_X12_reckons_41 4 rfl ?_
    refine GW_iadd (X := X_X12_reckons) (pc := 43) d_X12_reckons_43 ?_
    replace h := g_bd h
    obtain ⟨v7, hv7, h⟩ := h
    refine GW_iald (X := X_X12_reckons) (pc := 44) d_X12_reckons_44 hv7 ?_
    refine GW_iconst (X := X_X12_reckons) (pc := 45) (v := 4) d_X12_reckons_45 (by decide) ?_
    refine GW_ishr (X := X_X12_reckons) (pc := 46) d_X12_reckons_46 ?_
    refine GW_istore (X := X_X12_reckons) (pc := 47) d_X12_reckons_47 (Nat.le_of_ble_eq_true rfl) (lv2 := [(6, vi (v7 >>> ((4 : Int32) &&& 31))), (5, vi (v5 &&& (15 : Int32))), (0, vr l0), (1, vi l1), (3, vi l3), (4, vi l4)]) rfl ?_
    refine GW_iload (X := X_X12_reckons) (pc := 49) d_X12_reckons_49 1 rfl ?_
    refine GW_if_ne (X := X_X12_reckons) (pc := 51) 64 d_X12_reckons_51 (by decide) (fun c => ?_) (fun c => ?_)
    · replace h := g_ie c h
      refine GW_iload (X := X_X12_reckons) (pc := 64) d_X12_reckons_64 1 rfl ?_
      refine GW_iconst (X := X_X12_reckons) (pc := 66) (v := 1) d_X12_reckons_66 (by decide) ?_
      refine GW_icmp_ne (X := X_X12_reckons) (pc := 67) 84 d_X12_reckons_67 (by decide) (fun c => ?_) (fun c => ?_)
      · replace h := g_ie c h
        refine GW_iload (X := X_X12_reckons) (pc := 84) d_X12_reckons_84 1 rfl ?_
        refine GW_bipush (X := X_X12_reckons) (pc := 86) (v := 11) d_X12_reckons_86 (by decide) ?_
        refine GW_icmp_ne (X := X_X12_reckons) (pc := 88) 104 d_X12_reckons_88 (by decide) (fun c => ?_) (fun c => ?_)
        · replace h := g_ie c h
          refine GW_aload_n (X := X_X12_reckons) (pc := 104) d_X12_reckons_104 rfl 2 rfl ?_
          replace h := g_bd h
          obtain ⟨i8, hi8, h⟩ := h
          obtain ⟨rfl, ki8⟩ := g_gO hi8
          replace h := g_bd h
          obtain ⟨⟨v9, M10⟩, hv9, h⟩ := h
          dsimp only at h
          refine GW_callV (X := X_X12_reckons) (pc := 105) (bc0 := 0) (bs0 := 0) (r := some (vl v9)) (M2 := M10) (c0 := 12) (T_X12_pop (some i8) M (v9, M10) hv9) (Nat.le_of_ble_eq_true rfl) (Nat.le_of_ble_eq_true rfl) rfl g_cok12 ki8 yc_X12_pop ⟨m_1509, m_1511, m_95, m_127, m_1512⟩ d_X12_reckons_105 rfl (st := []) rfl (Nat.le_of_ble_eq_true rfl) (Nat.le_of_ble_eq_true rfl) (Nat.le_of_ble_eq_true rfl) (st2 := [vl v9]) rfl ?_
          refine GW_lstore (X := X_X12_reckons) (pc := 108) d_X12_reckons_108 (Nat.le_of_ble_eq_true rfl) (lv2 := [(7, vl v9), (6, vi (v7 >>> ((4 : Int32) &&& 31))), (5, vi (v5 &&& (15 : Int32))), (0, vr (some i8)), (1, vi l1), (3, vi l3), (4, vi l4)]) rfl ?_
          refine GW_aload_n (X := X_X12_reckons) (pc := 110) d_X12_reckons_110 rfl 3 rfl ?_
          replace h := g_bd h
          obtain ⟨_, kk11, h⟩ := h
          replace kk11 := g_gC kk11
          replace h := g_bd h
          obtain ⟨⟨v12, M13⟩, hv12, h⟩ := h
          dsimp only at h
          refine GW_callV (X := X_X12_reckons) (pc := 111) (bc0 := 0) (bs0 := 0) (r := some (vl v12)) (M2 := M13) (c0 := 12) (T_X12_pop (some i8) M10 (v12, M13) hv12) (Nat.le_of_ble_eq_true rfl) (Nat.le_of_ble_eq_true rfl) rfl g_cok12 kk11 yc_X12_pop ⟨m_1509, m_1511, m_95, m_127, m_1512⟩ d_X12_reckons_111 rfl (st := []) rfl (Nat.le_of_ble_eq_true rfl) (Nat.le_of_ble_eq_true rfl) (Nat.le_of_ble_eq_true rfl) (st2 := [vl v12]) rfl ?_
          refine GW_lstore (X := X_X12_reckons) (pc := 114) d_X12_reckons_114 (Nat.le_of_ble_eq_true rfl) (lv2 := [(9, vl v12), (7, vl v9), (6, vi (v7 >>> ((4 : Int32) &&& 31))), (5, vi (v5 &&& (15 : Int32))), (0, vr (some i8)), (1, vi l1), (3, vi l3), (4, vi l4)]) rfl ?_
          refine GW_aload_n (X := X_X12_reckons) (pc := 116) d_X12_reckons_116 rfl 4 rfl ?_
          refine GW_iload (X := X_X12_reckons) (pc := 117) d_X12_reckons_117 3 rfl ?_
          refine GW_lload (X := X_X12_reckons) (pc := 119) d_X12_reckons_119 0 rfl ?_
          refine GW_lload (X := X_X12_reckons) (pc := 121) d_X12_reckons_121 1 rfl ?_
          replace h := g_bd h
          obtain ⟨v14, hv14, h⟩ := h
          refine GW_callS (X := X_X12_reckons) (pc := 123) (bc0 := 0) (bs0 := 0) (r := some (vl v14)) (M2 := M13) (T_X12_one (v5 &&& (15 : Int32)) v12 v9 M13 v14 hv14) (Nat.le_of_ble_eq_true rfl) (Nat.le_of_ble_eq_true rfl) yc_X12_one ⟨m_1513, m_1514, m_127, m_1515⟩ d_X12_reckons_123 rfl (st := [vr (some i8)]) rfl (Nat.le_of_ble_eq_true rfl) (Nat.le_of_ble_eq_true rfl) (Nat.le_of_ble_eq_true rfl) (st2 := [vl v14, vr (some i8)]) rfl ?_
          replace h := g_bd h
          obtain ⟨_, kk15, h⟩ := h
          replace kk15 := g_gC kk15
          replace h := g_bd h
          obtain ⟨M16, hM16, h⟩ := h
          refine GW_callV (X := X_X12_reckons) (pc := 126) (bc0 := 0) (bs0 := 0) (r := none) (M2 := M16) (c0 := 12) (T_X12_push (some i8) v14 M13 M16 hM16) (Nat.le_of_ble_eq_true rfl) (Nat.le_of_ble_eq_true rfl) rfl g_cok12 kk15 yc_X12_push ⟨m_1505, m_1507, m_94, m_127, m_1508⟩ d_X12_reckons_126 rfl (st := []) rfl (Nat.le_of_ble_eq_true rfl) (Nat.le_of_ble_eq_true rfl) (Nat.le_of_ble_eq_true rfl) (st2 := []) rfl ?_
          refine GW_sub [4, 5, 6, 7] rfl ?_
          exact T_X12_reckons_b129 k8 r hk8 (some i8) l1 l3 l4 M16 h
        · replace h := g_ip c h
          refine GW_aload_n (X := X_X12_reckons) (pc := 91) d_X12_reckons_91 rfl 2 rfl ?_
          refine GW_lconst (X := X_X12_reckons) (pc := 92) (v := 1) d_X12_reckons_92 (by decide) ?_
          refine GW_aload_n (X := X_X12_reckons) (pc := 93) d_X12_reckons_93 rfl 2 rfl ?_
          replace h := g_bd h
          obtain ⟨i17, hi17, h⟩ := h
          obtain ⟨rfl, ki17⟩ := g_gO hi17
          replace h := g_bd h
          obtain ⟨⟨v18, M19⟩, hv18, h⟩ := h
          dsimp only at h
          refine GW_callV (X := X_X12_reckons) (pc := 94) (bc0 := 0) (bs0 := 0) (r := some (vl v18)) (M2 := M19) (c0 := 12) (T_X12_pop (some i17) M (v18, M19) hv18) (Nat.le_of_ble_eq_true rfl) (Nat.le_of_ble_eq_true rfl) rfl g_cok12 ki17 yc_X12_pop ⟨m_1509, m_1511, m_95, m_127, m_1512⟩ d_X12_reckons_94 rfl (st := [vl (1 : Int64), vr (some i17)]) rfl (Nat.le_of_ble_eq_true rfl) (Nat.le_of_ble_eq_true rfl) (Nat.le_of_ble_eq_true rfl) (st2 := [vl v18, vl (1 : Int64), vr (some i17)]) rfl ?_
          refine GW_lsub (X := X_X12_reckons) (pc := 97) d_X12_reckons_97 ?_
          replace h := g_bd h
          obtain ⟨_, kk20, h⟩ := h
          replace kk20 := g_gC kk20
          replace h := g_bd h
          obtain ⟨M21, hM21, h⟩ := h
          refine GW_callV (X := X_X12_reckons) (pc := 98) (bc0 := 0) (bs0 := 0) (r := none) (M2 := M21) (c0 := 12) (T_X12_push (some i17) ((1 : Int64) - v18) M19 M21 hM21) (Nat.le_of_ble_eq_true rfl) (Nat.le_of_ble_eq_true rfl) rfl g_cok12 kk20 yc_X12_push ⟨m_1505, m_1507, m_94, m_127, m_1508⟩ d_X12_reckons_98 rfl (st := []) rfl (Nat.le_of_ble_eq_true rfl) (Nat.le_of_ble_eq_true rfl) (Nat.le_of_ble_eq_true rfl) (st2 := []) rfl ?_
          refine GW_goto (X := X_X12_reckons) (pc := 101) 129 d_X12_reckons_101 (by decide) ?_
          refine GW_sub [2, 3, 4, 5] rfl ?_
          exact T_X12_reckons_b129 k8 r hk8 (some i17) l1 l3 l4 M21 h
      · replace h := g_ip c h
        refine GW_aload_n (X := X_X12_reckons) (pc := 70) d_X12_reckons_70 rfl 2 rfl ?_
        refine GW_aload_n (X := X_X12_reckons) (pc := 71) d_X12_reckons_71 rfl 2 rfl ?_
        replace h := g_bd h
        obtain ⟨v22, hv22, h⟩ := h
        refine GW_getR (X := X_X12_reckons) (pc := 72) f_X12_36 d_X12_reckons_72 hv22 (Or.inr ⟨_, ty_12_19⟩) ?_
        refine GW_iload (X := X_X12_reckons) (pc := 75) d_X12_reckons_75 0 rfl ?_
        replace h := g_bd h
        obtain ⟨v23, hv23, h⟩ := h
        refine GW_lald (X := X_X12_reckons) (pc := 77) d_X12_reckons_77 hv23 ?_
        replace h := g_bd h
        obtain ⟨i24, hi24, h⟩ := h
        obtain ⟨rfl, ki24⟩ := g_gO hi24
        replace h := g_bd h
        obtain ⟨M25, hM25, h⟩ := h
        refine GW_callV (X := X_X12_reckons) (pc := 78) (bc0 := 0) (bs0 := 0) (r := none) (M2 := M25) (c0 := 12) (T_X12_push (some i24) v23 M M25 hM25) (Nat.le_of_ble_eq_true rfl) (Nat.le_of_ble_eq_true rfl) rfl g_cok12 ki24 yc_X12_push ⟨m_1505, m_1507, m_94, m_127, m_1508⟩ d_X12_reckons_78 rfl (st := []) rfl (Nat.le_of_ble_eq_true rfl) (Nat.le_of_ble_eq_true rfl) (Nat.le_of_ble_eq_true rfl) (st2 := []) rfl ?_
        refine GW_goto (X := X_X12_reckons) (pc := 81) 129 d_X12_reckons_81 (by decide) ?_
        refine GW_sub [2, 3, 4, 5] rfl ?_
        exact T_X12_reckons_b129 k8 r hk8 (some i24) l1 l3 l4 M25 h
    · replace h := g_ip c h
      refine GW_aload_n (X := X_X12_reckons) (pc := 54) d_X12_reckons_54 rfl 2 rfl ?_
      refine GW_iload (X := X_X12_reckons) (pc := 55) d_X12_reckons_55 0 rfl ?_
      refine GW_i2l (X := X_X12_reckons) (pc := 57) d_X12_reckons_57 ?_
      replace h := g_bd h
      obtain ⟨i26, hi26, h⟩ := h
      obtain ⟨rfl, ki26⟩ := g_gO hi26
      replace h := g_bd h
      obtain ⟨M27, hM27, h⟩ := h
      refine GW_callV (X := X_X12_reckons) (pc := 58) (bc0 := 0) (bs0 := 0) (r := none) (M2 := M27) (c0 := 12) (T_X12_push (some i26) ((v7 >>> ((4 : Int32) &&& 31))).toInt64 M M27 hM27) (Nat.le_of_ble_eq_true rfl) (Nat.le_of_ble_eq_true rfl) rfl g_cok12 ki26 yc_X12_push ⟨m_1505, m_1507, m_94, m_127, m_1508⟩ d_X12_reckons_58 rfl (st := []) rfl (Nat.le_of_ble_eq_true rfl) (Nat.le_of_ble_eq_true rfl) (Nat.le_of_ble_eq_true rfl) (st2 := []) rfl ?_
      refine GW_goto (X := X_X12_reckons) (pc := 61) 129 d_X12_reckons_61 (by decide) ?_
      refine GW_sub [2, 3, 4, 5] rfl ?_
      exact T_X12_reckons_b129 k8 r hk8 (some i26) l1 l3 l4 M27 h
def F_X12_reckons_L8 : Nat → Option Nat → Int32 → Int32 → Int32 → gM → Option (Int64 × gM)
  | 0 => fun _ _ _ _ _ => none
  | n + 1 => F_X12_reckons_b8 (F_X12_reckons_L8 n)
theorem T_X12_reckons_L8 (r : (Int64 × gM)) : ∀ (n : Nat) (l0 : Option Nat) (l1 : Int32) (l3 : Int32) (l4 : Int32) (M : gM), F_X12_reckons_L8 n l0 l1 l3 l4 M = some r → GW 1 0 0 X_X12_reckons 8 [(0, vr l0), (1, vi l1), (3, vi l3), (4, vi l4)] [] M (some (vl r.1), r.2) := by
  intro n
  induction n with
  | zero => intro l0 l1 l3 l4 M h; exact g_no h
  | succ n ih => intro l0 l1 l3 l4 M h; exact T_X12_reckons_b8 (F_X12_reckons_L8 n) r ih l0 l1 l3 l4 M h
def F_X12_reckons_b0 (l0 : Option Nat) (l1 : Int32) (l2 : Int32) (l3 : Int32) (M : gM) : Option (Int64 × gM) :=
  (pI 12 M l0 18 (0 : Int32)).bind fun M1 => F_X12_reckons_L8 g_fuel l0 l1 l3 l2 M1
theorem T_X12_reckons_b0 (r : (Int64 × gM)) (l0 : Option Nat) (l1 : Int32) (l2 : Int32) (l3 : Int32) (M : gM) (h : F_X12_reckons_b0 l0 l1 l2 l3 M = some r) : GW 1 0 0 X_X12_reckons 0 [(0, vr l0), (1, vi l1), (2, vi l2), (3, vi l3)] [] M (some (vl r.1), r.2) := by
  delta F_X12_reckons_b0 at h
  refine GW_aload_n (X := X_X12_reckons) (pc := 0) d_X12_reckons_0 rfl 0 rfl ?_
  refine GW_iconst (X := X_X12_reckons) (pc := 1) (v := 0) d_X12_reckons_1 (by decide) ?_
  replace h := g_bd h
  obtain ⟨M1, hM1, h⟩ := h
  refine GW_putI (X := X_X12_reckons) (pc := 2) f_X12_282 d_X12_reckons_2 hM1 (Or.inl fi_12_18) (Or.inl ty_12_18) ?_
  refine GW_iload_n (X := X_X12_reckons) (pc := 5) d_X12_reckons_5 rfl 2 rfl ?_
  refine GW_istore (X := X_X12_reckons) (pc := 6) d_X12_reckons_6 (Nat.le_of_ble_eq_true rfl) (lv2 := [(4, vi l2), (0, vr l0), (1, vi l1), (2, vi l2), (3, vi l3)]) rfl ?_
  refine GW_sub [1, 2, 4, 0] rfl ?_
  exact T_X12_reckons_L8 r g_fuel l0 l1 l3 l2 M1 h
def F_X12_reckons (l0 : Option Nat) (l1 : Int32) (l2 : Int32) (l3 : Int32) (M : gM) : Option (Int64 × gM) := F_X12_reckons_b0 l0 l1 l2 l3 M
theorem T_X12_reckons (l0 : Option Nat) (l1 : Int32) (l2 : Int32) (l3 : Int32) (M : gM) (r : (Int64 × gM)) (h : F_X12_reckons l0 l1 l2 l3 M = some r) : g_Met 1 0 0 yX12_reckons X_X12_reckons [vr l0, vi l1, vi l2, vi l3] M (some (vl r.1), r.2) :=
  g_Met_of pn_RX12 rfl (Nat.le_of_ble_eq_true rfl) (fun h => by cases h) (GW_sub [0, 1, 2, 3] rfl (T_X12_reckons_b0 r l0 l1 l2 l3 M h))
/-! ForgetHeirsModel.summedBy(I)J -/
theorem d_X12_summedBy_0 : decode cX12_summedBy 0 = .ok (.iconst 0, 1) := by decide +kernel
theorem d_X12_summedBy_1 : decode cX12_summedBy 1 = .ok (.istore_n 2, 1) := by decide +kernel
theorem d_X12_summedBy_2 : decode cX12_summedBy 2 = .ok (.iload_n 2, 1) := by decide +kernel
theorem d_X12_summedBy_3 : decode cX12_summedBy 3 = .ok (.aload_n 0, 1) := by decide +kernel
theorem d_X12_summedBy_4 : decode cX12_summedBy 4 = .ok (.getfield 23, 3) := by decide +kernel
theorem d_X12_summedBy_7 : decode cX12_summedBy 7 = .ok (.iload_n 1, 1) := by decide +kernel
theorem d_X12_summedBy_8 : decode cX12_summedBy 8 = .ok (.iaload, 1) := by decide +kernel
theorem d_X12_summedBy_9 : decode cX12_summedBy 9 = .ok (.if_icmp .ge 75, 3) := by decide +kernel
theorem d_X12_summedBy_12 : decode cX12_summedBy 12 = .ok (.bipush 48, 2) := by decide +kernel
theorem d_X12_summedBy_14 : decode cX12_summedBy 14 = .ok (.iload_n 1, 1) := by decide +kernel
theorem d_X12_summedBy_15 : decode cX12_summedBy 15 = .ok (.imul, 1) := by decide +kernel
theorem d_X12_summedBy_16 : decode cX12_summedBy 16 = .ok (.iconst 4, 1) := by decide +kernel
theorem d_X12_summedBy_17 : decode cX12_summedBy 17 = .ok (.iload_n 2, 1) := by decide +kernel
theorem d_X12_summedBy_18 : decode cX12_summedBy 18 = .ok (.imul, 1) := by decide +kernel
theorem d_X12_summedBy_19 : decode cX12_summedBy 19 = .ok (.iadd, 1) := by decide +kernel
theorem d_X12_summedBy_20 : decode cX12_summedBy 20 = .ok (.istore_n 3, 1) := by decide +kernel
theorem d_X12_summedBy_21 : decode cX12_summedBy 21 = .ok (.aload_n 0, 1) := by decide +kernel
theorem d_X12_summedBy_22 : decode cX12_summedBy 22 = .ok (.getfield 20, 3) := by decide +kernel
theorem d_X12_summedBy_25 : decode cX12_summedBy 25 = .ok (.iload_n 3, 1) := by decide +kernel
theorem d_X12_summedBy_26 : decode cX12_summedBy 26 = .ok (.iconst 2, 1) := by decide +kernel
theorem d_X12_summedBy_27 : decode cX12_summedBy 27 = .ok (.iadd, 1) := by decide +kernel
theorem d_X12_summedBy_28 : decode cX12_summedBy 28 = .ok (.iaload, 1) := by decide +kernel
theorem d_X12_summedBy_29 : decode cX12_summedBy 29 = .ok (.ifCond .lt 29, 3) := by decide +kernel
theorem d_X12_summedBy_32 : decode cX12_summedBy 32 = .ok (.aload_n 0, 1) := by decide +kernel
theorem d_X12_summedBy_33 : decode cX12_summedBy 33 = .ok (.iload_n 1, 1) := by decide +kernel
theorem d_X12_summedBy_34 : decode cX12_summedBy 34 = .ok (.aload_n 0, 1) := by decide +kernel
theorem d_X12_summedBy_35 : decode cX12_summedBy 35 = .ok (.getfield 20, 3) := by decide +kernel
theorem d_X12_summedBy_38 : decode cX12_summedBy 38 = .ok (.iload_n 3, 1) := by decide +kernel
theorem d_X12_summedBy_39 : decode cX12_summedBy 39 = .ok (.iconst 2, 1) := by decide +kernel
theorem d_X12_summedBy_40 : decode cX12_summedBy 40 = .ok (.iadd, 1) := by decide +kernel
theorem d_X12_summedBy_41 : decode cX12_summedBy 41 = .ok (.iaload, 1) := by decide +kernel
theorem d_X12_summedBy_42 : decode cX12_summedBy 42 = .ok (.aload_n 0, 1) := by decide +kernel
theorem d_X12_summedBy_43 : decode cX12_summedBy 43 = .ok (.getfield 20, 3) := by decide +kernel
theorem d_X12_summedBy_46 : decode cX12_summedBy 46 = .ok (.iload_n 3, 1) := by decide +kernel
theorem d_X12_summedBy_47 : decode cX12_summedBy 47 = .ok (.iconst 3, 1) := by decide +kernel
theorem d_X12_summedBy_48 : decode cX12_summedBy 48 = .ok (.iadd, 1) := by decide +kernel
theorem d_X12_summedBy_49 : decode cX12_summedBy 49 = .ok (.iaload, 1) := by decide +kernel
theorem d_X12_summedBy_50 : decode cX12_summedBy 50 = .ok (.invokevirtual 338, 3) := by decide +kernel
theorem d_X12_summedBy_53 : decode cX12_summedBy 53 = .ok (.lconst 1, 1) := by decide +kernel
theorem d_X12_summedBy_54 : decode cX12_summedBy 54 = .ok (.lcmp, 1) := by decide +kernel
theorem d_X12_summedBy_55 : decode cX12_summedBy 55 = .ok (.ifCond .ne 23, 3) := by decide +kernel
theorem d_X12_summedBy_58 : decode cX12_summedBy 58 = .ok (.aload_n 0, 1) := by decide +kernel
theorem d_X12_summedBy_59 : decode cX12_summedBy 59 = .ok (.iload_n 1, 1) := by decide +kernel
theorem d_X12_summedBy_60 : decode cX12_summedBy 60 = .ok (.aload_n 0, 1) := by decide +kernel
theorem d_X12_summedBy_61 : decode cX12_summedBy 61 = .ok (.getfield 20, 3) := by decide +kernel
theorem d_X12_summedBy_64 : decode cX12_summedBy 64 = .ok (.iload_n 3, 1) := by decide +kernel
theorem d_X12_summedBy_65 : decode cX12_summedBy 65 = .ok (.iaload, 1) := by decide +kernel
theorem d_X12_summedBy_66 : decode cX12_summedBy 66 = .ok (.aload_n 0, 1) := by decide +kernel
theorem d_X12_summedBy_67 : decode cX12_summedBy 67 = .ok (.getfield 20, 3) := by decide +kernel
theorem d_X12_summedBy_70 : decode cX12_summedBy 70 = .ok (.iload_n 3, 1) := by decide +kernel
theorem d_X12_summedBy_71 : decode cX12_summedBy 71 = .ok (.iconst 1, 1) := by decide +kernel
theorem d_X12_summedBy_72 : decode cX12_summedBy 72 = .ok (.iadd, 1) := by decide +kernel
theorem d_X12_summedBy_73 : decode cX12_summedBy 73 = .ok (.iaload, 1) := by decide +kernel
theorem d_X12_summedBy_74 : decode cX12_summedBy 74 = .ok (.invokevirtual 338, 3) := by decide +kernel
theorem d_X12_summedBy_77 : decode cX12_summedBy 77 = .ok (.lreturn, 1) := by decide +kernel
theorem d_X12_summedBy_78 : decode cX12_summedBy 78 = .ok (.iinc 2 1, 3) := by decide +kernel
theorem d_X12_summedBy_81 : decode cX12_summedBy 81 = .ok (.goto (-79), 3) := by decide +kernel
theorem d_X12_summedBy_84 : decode cX12_summedBy 84 = .ok (.lconst 0, 1) := by decide +kernel
theorem d_X12_summedBy_85 : decode cX12_summedBy 85 = .ok (.lreturn, 1) := by decide +kernel
abbrev X_X12_summedBy : gX := (RX12, cX12_summedBy, 4, (some .long), false)
def F_X12_summedBy_b58 (l0 : Option Nat) (l1 : Int32) (l3 : Int32) (M : gM) : Option (Int64 × gM) :=
  (gR 12 M l0 5).bind fun v1 => (aI 20 M v1 l3).bind fun v2 => (gR 12 M l0 5).bind fun v3 => (aI 20 M v3 (l3 + (1 : Int32))).bind fun v4 => (gO 12 M l0).bind fun i5 => (F_X12_reckons (some i5) l1 v2 v4 M).bind fun (v6, M7) => some (v6, M7)
theorem T_X12_summedBy_b58 (r : (Int64 × gM)) (l0 : Option Nat) (l1 : Int32) (l3 : Int32) (M : gM) (h : F_X12_summedBy_b58 l0 l1 l3 M = some r) : GW 2 0 0 X_X12_summedBy 58 [(0, vr l0), (1, vi l1), (3, vi l3)] [] M (some (vl r.1), r.2) := by
  delta F_X12_summedBy_b58 at h
  refine GW_aload_n (X := X_X12_summedBy) (pc := 58) d_X12_summedBy_58 rfl 0 rfl ?_
  refine GW_iload_n (X := X_X12_summedBy) (pc := 59) d_X12_summedBy_59 rfl 1 rfl ?_
  refine GW_aload_n (X := X_X12_summedBy) (pc := 60) d_X12_summedBy_60 rfl 0 rfl ?_
  replace h := g_bd h
  obtain ⟨v1, hv1, h⟩ := h
  refine GW_getR (X := X_X12_summedBy) (pc := 61) f_X12_20 d_X12_summedBy_61 hv1 (Or.inr ⟨_, ty_12_5⟩) ?_
  refine GW_iload_n (X := X_X12_summedBy) (pc := 64) d_X12_summedBy_64 rfl 2 rfl ?_
  replace h := g_bd h
  obtain ⟨v2, hv2, h⟩ := h
  refine GW_iald (X := X_X12_summedBy) (pc := 65) d_X12_summedBy_65 hv2 ?_
  refine GW_aload_n (X := X_X12_summedBy) (pc := 66) d_X12_summedBy_66 rfl 0 rfl ?_
  replace h := g_bd h
  obtain ⟨v3, hv3, h⟩ := h
  refine GW_getR (X := X_X12_summedBy) (pc := 67) f_X12_20 d_X12_summedBy_67 hv3 (Or.inr ⟨_, ty_12_5⟩) ?_
  refine GW_iload_n (X := X_X12_summedBy) (pc := 70) d_X12_summedBy_70 rfl 2 rfl ?_
  refine GW_iconst (X := X_X12_summedBy) (pc := 71) (v := 1) d_X12_summedBy_71 (by decide) ?_
  refine GW_iadd (X := X_X12_summedBy) (pc := 72) d_X12_summedBy_72 ?_
  replace h := g_bd h
  obtain ⟨v4, hv4, h⟩ := h
  refine GW_iald (X := X_X12_summedBy) (pc := 73) d_X12_summedBy_73 hv4 ?_
  replace h := g_bd h
  obtain ⟨i5, hi5, h⟩ := h
  obtain ⟨rfl, ki5⟩ := g_gO hi5
  replace h := g_bd h
  obtain ⟨⟨v6, M7⟩, hv6, h⟩ := h
  dsimp only at h
  refine GW_callV (X := X_X12_summedBy) (pc := 74) (bc0 := 0) (bs0 := 0) (r := some (vl v6)) (M2 := M7) (c0 := 12) (T_X12_reckons (some i5) l1 v2 v4 M (v6, M7) hv6) (Nat.le_of_ble_eq_true rfl) (Nat.le_of_ble_eq_true rfl) rfl g_cok12 ki5 yc_X12_reckons ⟨m_1501, m_1503, m_93, m_127, m_1504⟩ d_X12_summedBy_74 rfl (st := []) rfl (Nat.le_of_ble_eq_true rfl) (Nat.le_of_ble_eq_true rfl) (Nat.le_of_ble_eq_true rfl) (st2 := [vl v6]) rfl ?_
  replace h := Option.some.inj h
  subst h
  exact GW_ret (X := X_X12_summedBy) (pc := 77) d_X12_summedBy_77 rfl trivial
def F_X12_summedBy_b2 (k2 : Option Nat → Int32 → Int32 → gM → Option (Int64 × gM)) (l0 : Option Nat) (l1 : Int32) (l2 : Int32) (M : gM) : Option (Int64 × gM) :=
  (gR 12 M l0 6).bind fun v1 => (aI 20 M v1 l1).bind fun v2 => if v2 ≤ l2 then (some ((0 : Int64), M)) else ((gR 12 M l0 5).bind fun v3 => (aI 20 M v3 ((((48 : Int32) * l1) + ((4 : Int32) * l2)) + (2 : Int32))).bind fun v4 => if v4 < 0 then (F_X12_summedBy_b58 l0 l1 (((48 : Int32) * l1) + ((4 : Int32) * l2)) M) else ((gR 12 M l0 5).bind fun v5 => (aI 20 M v5 ((((48 : Int32) * l1) + ((4 : Int32) * l2)) + (2 : Int32))).bind fun v6 => (gR 12 M l0 5).bind fun v7 => (aI 20 M v7 ((((48 : Int32) * l1) + ((4 : Int32) * l2)) + (3 : Int32))).bind fun v8 => (gO 12 M l0).bind fun i9 => (F_X12_reckons (some i9) l1 v6 v8 M).bind fun (v10, M11) => if (lg_cmp v10 (1 : Int64)) = 0 then (F_X12_summedBy_b58 (some i9) l1 (((48 : Int32) * l1) + ((4 : Int32) * l2)) M11) else (k2 (some i9) l1 (l2 + 1) M11)))
set_option maxHeartbeats 1000000 in
theorem T_X12_summedBy_b2 (k2 : Option Nat → Int32 → Int32 → gM → Option (Int64 × gM)) (r : (Int64 × gM)) (hk2 : ∀ (l0 : Option Nat) (l1 : Int32) (l2 : Int32) (M : gM), k2 l0 l1 l2 M = some r → GW 2 0 0 X_X12_summedBy 2 [(0, vr l0), (1, vi l1), (2, vi l2)] [] M (some (vl r.1), r.2)) (l0 : Option Nat) (l1 : Int32) (l2 : Int32) (M : gM) (h : F_X12_summedBy_b2 k2 l0 l1 l2 M = some r) : GW 2 0 0 X_X12_summedBy 2 [(0, vr l0), (1, vi l1), (2, vi l2)] [] M (some (vl r.1), r.2) := by
  delta F_X12_summedBy_b2 at h
  refine GW_iload_n (X := X_X12_summedBy) (pc := 2) d_X12_summedBy_2 rfl 2 rfl ?_
  refine GW_aload_n (X := X_X12_summedBy) (pc := 3) d_X12_summedBy_3 rfl 0 rfl ?_
  replace h := g_bd h
  obtain ⟨v1, hv1, h⟩ := h
  refine GW_getR (X := X_X12_summedBy) (pc := 4) f_X12_23 d_X12_summedBy_4 hv1 (Or.inr ⟨_, ty_12_6⟩) ?_
  refine GW_iload_n (X := X_X12_summedBy) (pc := 7) d_X12_summedBy_7 rfl 1 rfl ?_
  replace h := g_bd h
  obtain ⟨v2, hv2, h⟩ := h
  refine GW_iald (X := X_X12_summedBy) (pc := 8) d_X12_summedBy_8 hv2 ?_
  refine GW_icmp_ge (X := X_X12_summedBy) (pc := 9) 84 d_X12_summedBy_9 (by decide) (fun c => ?_) (fun c => ?_)
  · replace h := g_ip c h
    refine GW_lconst (X := X_X12_summedBy) (pc := 84) (v := 0) d_X12_summedBy_84 (by decide) ?_
    replace h := Option.some.inj h
    subst h
    exact GW_ret (X := X_X12_summedBy) (pc := 85) d_X12_summedBy_85 rfl trivial
  · replace h := g_ie c h
    refine GW_bipush (X := X_X12_summedBy) (pc := 12) (v := 48) d_X12_summedBy_12 (by decide) ?_
    refine GW_iload_n (X := X_X12_summedBy) (pc := 14) d_X12_summedBy_14 rfl 1 rfl ?_
    refine GW_imul (X := X_X12_summedBy) (pc := 15) d_X12_summedBy_15 ?_
    refine GW_iconst (X := X_X12_summedBy) (pc := 16) (v := 4) d_X12_summedBy_16 (by decide) ?_
    refine GW_iload_n (X := X_X12_summedBy) (pc := 17) d_X12_summedBy_17 rfl 2 rfl ?_
    refine GW_imul (X := X_X12_summedBy) (pc := 18) d_X12_summedBy_18 ?_
    refine GW_iadd (X := X_X12_summedBy) (pc := 19) d_X12_summedBy_19 ?_
    refine GW_istore_n (X := X_X12_summedBy) (pc := 20) d_X12_summedBy_20 rfl (Nat.le_of_ble_eq_true rfl) (lv2 := [(3, vi (((48 : Int32) * l1) + ((4 : Int32) * l2))), (0, vr l0), (1, vi l1), (2, vi l2)]) rfl ?_
    refine GW_aload_n (X := X_X12_summedBy) (pc := 21) d_X12_summedBy_21 rfl 1 rfl ?_
    replace h := g_bd h
    obtain ⟨v3, hv3, h⟩ := h
    refine GW_getR (X := X_X12_summedBy) (pc := 22) f_X12_20 d_X12_summedBy_22 hv3 (Or.inr ⟨_, ty_12_5⟩) ?_
    refine GW_iload_n (X := X_X12_summedBy) (pc := 25) d_X12_summedBy_25 rfl 0 rfl ?_
    refine GW_iconst (X := X_X12_summedBy) (pc := 26) (v := 2) d_X12_summedBy_26 (by decide) ?_
    refine GW_iadd (X := X_X12_summedBy) (pc := 27) d_X12_summedBy_27 ?_
    replace h := g_bd h
    obtain ⟨v4, hv4, h⟩ := h
    refine GW_iald (X := X_X12_summedBy) (pc := 28) d_X12_summedBy_28 hv4 ?_
    refine GW_if_lt (X := X_X12_summedBy) (pc := 29) 58 d_X12_summedBy_29 (by decide) (fun c => ?_) (fun c => ?_)
    · replace h := g_ip c h
      refine GW_sub [1, 2, 0] rfl ?_
      exact T_X12_summedBy_b58 r l0 l1 (((48 : Int32) * l1) + ((4 : Int32) * l2)) M h
    · replace h := g_ie c h
      refine GW_aload_n (X := X_X12_summedBy) (pc := 32) d_X12_summedBy_32 rfl 1 rfl ?_
      refine GW_iload_n (X := X_X12_summedBy) (pc := 33) d_X12_summedBy_33 rfl 2 rfl ?_
      refine GW_aload_n (X := X_X12_summedBy) (pc := 34) d_X12_summedBy_34 rfl 1 rfl ?_
      replace h := g_bd h
      obtain ⟨v5, hv5, h⟩ := h
      refine GW_getR (X := X_X12_summedBy) (pc := 35) f_X12_20 d_X12_summedBy_35 hv5 (Or.inr ⟨_, ty_12_5⟩) ?_
      refine GW_iload_n (X := X_X12_summedBy) (pc := 38) d_X12_summedBy_38 rfl 0 rfl ?_
      refine GW_iconst (X := X_X12_summedBy) (pc := 39) (v := 2) d_X12_summedBy_39 (by decide) ?_
      refine GW_iadd (X := X_X12_summedBy) (pc := 40) d_X12_summedBy_40 ?_
      replace h := g_bd h
      obtain ⟨v6, hv6, h⟩ := h
      refine GW_iald (X := X_X12_summedBy) (pc := 41) d_X12_summedBy_41 hv6 ?_
      refine GW_aload_n (X := X_X12_summedBy) (pc := 42) d_X12_summedBy_42 rfl 1 rfl ?_
      replace h := g_bd h
      obtain ⟨v7, hv7, h⟩ := h
      refine GW_getR (X := X_X12_summedBy) (pc := 43) f_X12_20 d_X12_summedBy_43 hv7 (Or.inr ⟨_, ty_12_5⟩) ?_
      refine GW_iload_n (X := X_X12_summedBy) (pc := 46) d_X12_summedBy_46 rfl 0 rfl ?_
      refine GW_iconst (X := X_X12_summedBy) (pc := 47) (v := 3) d_X12_summedBy_47 (by decide) ?_
      refine GW_iadd (X := X_X12_summedBy) (pc := 48) d_X12_summedBy_48 ?_
      replace h := g_bd h
      obtain ⟨v8, hv8, h⟩ := h
      refine GW_iald (X := X_X12_summedBy) (pc := 49) d_X12_summedBy_49 hv8 ?_
      replace h := g_bd h
      obtain ⟨i9, hi9, h⟩ := h
      obtain ⟨rfl, ki9⟩ := g_gO hi9
      replace h := g_bd h
      obtain ⟨⟨v10, M11⟩, hv10, h⟩ := h
      dsimp only at h
      refine GW_callV (X := X_X12_summedBy) (pc := 50) (bc0 := 0) (bs0 := 0) (r := some (vl v10)) (M2 := M11) (c0 := 12) (T_X12_reckons (some i9) l1 v6 v8 M (v10, M11) hv10) (Nat.le_of_ble_eq_true rfl) (Nat.le_of_ble_eq_true rfl) rfl g_cok12 ki9 yc_X12_reckons ⟨m_1501, m_1503, m_93, m_127, m_1504⟩ d_X12_summedBy_50 rfl (st := []) rfl (Nat.le_of_ble_eq_true rfl) (Nat.le_of_ble_eq_true rfl) (Nat.le_of_ble_eq_true rfl) (st2 := [vl v10]) rfl ?_
      refine GW_lconst (X := X_X12_summedBy) (pc := 53) (v := 1) d_X12_summedBy_53 (by decide) ?_
      refine GW_lcmp (X := X_X12_summedBy) (pc := 54) d_X12_summedBy_54 ?_
      refine GW_if_ne (X := X_X12_summedBy) (pc := 55) 78 d_X12_summedBy_55 (by decide) (fun c => ?_) (fun c => ?_)
      · replace h := g_ie c h
        refine GW_iinc (j := 3) (X := X_X12_summedBy) (pc := 78) d_X12_summedBy_78 rfl (congrArg (fun z => _ + z) (by decide : Int32.ofInt 1 = (1 : Int32))) (Nat.le_of_ble_eq_true rfl) (lv2 := [(2, vi (l2 + 1)), (3, vi (((48 : Int32) * l1) + ((4 : Int32) * l2))), (0, vr (some i9)), (1, vi l1)]) rfl ?_
        refine GW_goto (X := X_X12_summedBy) (pc := 81) 2 d_X12_summedBy_81 (by decide) ?_
        refine GW_sub [2, 3, 0] rfl ?_
        exact hk2 (some i9) l1 (l2 + 1) M11 h
      · replace h := g_ip c h
        refine GW_sub [1, 2, 0] rfl ?_
        exact T_X12_summedBy_b58 r (some i9) l1 (((48 : Int32) * l1) + ((4 : Int32) * l2)) M11 h
def F_X12_summedBy_L2 : Nat → Option Nat → Int32 → Int32 → gM → Option (Int64 × gM)
  | 0 => fun _ _ _ _ => none
  | n + 1 => F_X12_summedBy_b2 (F_X12_summedBy_L2 n)
theorem T_X12_summedBy_L2 (r : (Int64 × gM)) : ∀ (n : Nat) (l0 : Option Nat) (l1 : Int32) (l2 : Int32) (M : gM), F_X12_summedBy_L2 n l0 l1 l2 M = some r → GW 2 0 0 X_X12_summedBy 2 [(0, vr l0), (1, vi l1), (2, vi l2)] [] M (some (vl r.1), r.2) := by
  intro n
  induction n with
  | zero => intro l0 l1 l2 M h; exact g_no h
  | succ n ih => intro l0 l1 l2 M h; exact T_X12_summedBy_b2 (F_X12_summedBy_L2 n) r ih l0 l1 l2 M h
def F_X12_summedBy_b0 (l0 : Option Nat) (l1 : Int32) (M : gM) : Option (Int64 × gM) :=
  F_X12_summedBy_L2 g_fuel l0 l1 (0 : Int32) M
theorem T_X12_summedBy_b0 (r : (Int64 × gM)) (l0 : Option Nat) (l1 : Int32) (M : gM) (h : F_X12_summedBy_b0 l0 l1 M = some r) : GW 2 0 0 X_X12_summedBy 0 [(0, vr l0), (1, vi l1)] [] M (some (vl r.1), r.2) := by
  delta F_X12_summedBy_b0 at h
  refine GW_iconst (X := X_X12_summedBy) (pc := 0) (v := 0) d_X12_summedBy_0 (by decide) ?_
  refine GW_istore_n (X := X_X12_summedBy) (pc := 1) d_X12_summedBy_1 rfl (Nat.le_of_ble_eq_true rfl) (lv2 := [(2, vi (0 : Int32)), (0, vr l0), (1, vi l1)]) rfl ?_
  refine GW_sub [1, 2, 0] rfl ?_
  exact T_X12_summedBy_L2 r g_fuel l0 l1 (0 : Int32) M h
def F_X12_summedBy (l0 : Option Nat) (l1 : Int32) (M : gM) : Option (Int64 × gM) := F_X12_summedBy_b0 l0 l1 M
theorem T_X12_summedBy (l0 : Option Nat) (l1 : Int32) (M : gM) (r : (Int64 × gM)) (h : F_X12_summedBy l0 l1 M = some r) : g_Met 2 0 0 yX12_summedBy X_X12_summedBy [vr l0, vi l1] M (some (vl r.1), r.2) :=
  g_Met_of pn_RX12 rfl (Nat.le_of_ble_eq_true rfl) (fun h => by cases h) (GW_sub [0, 1] rfl (T_X12_summedBy_b0 r l0 l1 M h))
/-! ForgetHeirsModel.lossOf(II)I -/
theorem d_X12_lossOf_0 : decode cX12_lossOf 0 = .ok (.aload_n 0, 1) := by decide +kernel
theorem d_X12_lossOf_1 : decode cX12_lossOf 1 = .ok (.getfield 42, 3) := by decide +kernel
theorem d_X12_lossOf_4 : decode cX12_lossOf 4 = .ok (.ifCond .ge 21, 3) := by decide +kernel
theorem d_X12_lossOf_7 : decode cX12_lossOf 7 = .ok (.aload_n 0, 1) := by decide +kernel
theorem d_X12_lossOf_8 : decode cX12_lossOf 8 = .ok (.iload_n 1, 1) := by decide +kernel
theorem d_X12_lossOf_9 : decode cX12_lossOf 9 = .ok (.iload_n 2, 1) := by decide +kernel
theorem d_X12_lossOf_10 : decode cX12_lossOf 10 = .ok (.aload_n 0, 1) := by decide +kernel
theorem d_X12_lossOf_11 : decode cX12_lossOf 11 = .ok (.getfield 39, 3) := by decide +kernel
theorem d_X12_lossOf_14 : decode cX12_lossOf 14 = .ok (.bipush 38, 2) := by decide +kernel
theorem d_X12_lossOf_16 : decode cX12_lossOf 16 = .ok (.iconst 2, 1) := by decide +kernel
theorem d_X12_lossOf_17 : decode cX12_lossOf 17 = .ok (.iload_n 1, 1) := by decide +kernel
theorem d_X12_lossOf_18 : decode cX12_lossOf 18 = .ok (.imul, 1) := by decide +kernel
theorem d_X12_lossOf_19 : decode cX12_lossOf 19 = .ok (.iadd, 1) := by decide +kernel
theorem d_X12_lossOf_20 : decode cX12_lossOf 20 = .ok (.iaload, 1) := by decide +kernel
theorem d_X12_lossOf_21 : decode cX12_lossOf 21 = .ok (.invokevirtual 342, 3) := by decide +kernel
theorem d_X12_lossOf_24 : decode cX12_lossOf 24 = .ok (.ireturn, 1) := by decide +kernel
theorem d_X12_lossOf_25 : decode cX12_lossOf 25 = .ok (.aload_n 0, 1) := by decide +kernel
theorem d_X12_lossOf_26 : decode cX12_lossOf 26 = .ok (.iload_n 1, 1) := by decide +kernel
theorem d_X12_lossOf_27 : decode cX12_lossOf 27 = .ok (.iload_n 2, 1) := by decide +kernel
theorem d_X12_lossOf_28 : decode cX12_lossOf 28 = .ok (.invokevirtual 346, 3) := by decide +kernel
theorem d_X12_lossOf_31 : decode cX12_lossOf 31 = .ok (.aload_n 0, 1) := by decide +kernel
theorem d_X12_lossOf_32 : decode cX12_lossOf 32 = .ok (.aload_n 0, 1) := by decide +kernel
theorem d_X12_lossOf_33 : decode cX12_lossOf 33 = .ok (.getfield 42, 3) := by decide +kernel
theorem d_X12_lossOf_36 : decode cX12_lossOf 36 = .ok (.invokevirtual 349, 3) := by decide +kernel
theorem d_X12_lossOf_39 : decode cX12_lossOf 39 = .ok (.lstore_n 3, 1) := by decide +kernel
theorem d_X12_lossOf_40 : decode cX12_lossOf 40 = .ok (.lload_n 3, 1) := by decide +kernel
theorem d_X12_lossOf_41 : decode cX12_lossOf 41 = .ok (.lconst 0, 1) := by decide +kernel
theorem d_X12_lossOf_42 : decode cX12_lossOf 42 = .ok (.lcmp, 1) := by decide +kernel
theorem d_X12_lossOf_43 : decode cX12_lossOf 43 = .ok (.ifCond .ge 7, 3) := by decide +kernel
theorem d_X12_lossOf_46 : decode cX12_lossOf 46 = .ok (.iconst 0, 1) := by decide +kernel
theorem d_X12_lossOf_47 : decode cX12_lossOf 47 = .ok (.goto 18, 3) := by decide +kernel
theorem d_X12_lossOf_50 : decode cX12_lossOf 50 = .ok (.lload_n 3, 1) := by decide +kernel
theorem d_X12_lossOf_51 : decode cX12_lossOf 51 = .ok (.ldc2_w 353, 3) := by decide +kernel
theorem d_X12_lossOf_54 : decode cX12_lossOf 54 = .ok (.lcmp, 1) := by decide +kernel
theorem d_X12_lossOf_55 : decode cX12_lossOf 55 = .ok (.ifCond .le 8, 3) := by decide +kernel
theorem d_X12_lossOf_58 : decode cX12_lossOf 58 = .ok (.bipush 99, 2) := by decide +kernel
theorem d_X12_lossOf_60 : decode cX12_lossOf 60 = .ok (.goto 5, 3) := by decide +kernel
theorem d_X12_lossOf_63 : decode cX12_lossOf 63 = .ok (.lload_n 3, 1) := by decide +kernel
theorem d_X12_lossOf_64 : decode cX12_lossOf 64 = .ok (.l2i, 1) := by decide +kernel
theorem d_X12_lossOf_65 : decode cX12_lossOf 65 = .ok (.ireturn, 1) := by decide +kernel
abbrev X_X12_lossOf : gX := (RX12, cX12_lossOf, 5, (some .int), false)
def F_X12_lossOf_b0 (l0 : Option Nat) (l1 : Int32) (l2 : Int32) (M : gM) : Option (Int32 × gM) :=
  (gI 12 M l0 21).bind fun v1 => if 0 ≤ v1 then ((gO 12 M l0).bind fun i2 => (F_X12_words (some i2) l1 l2 M).bind fun M3 => (gI 12 M3 (some i2) 21).bind fun v4 => (gC 12 M3 i2).bind fun _ => (F_X12_summedBy (some i2) v4 M3).bind fun (v6, M7) => if 0 ≤ (lg_cmp v6 (0 : Int64)) then (if (lg_cmp v6 (99 : Int64)) ≤ 0 then (some ((v6).toInt32, M7)) else (some ((99 : Int32), M7))) else (some ((0 : Int32), M7))) else ((gR 12 M l0 20).bind fun v8 => (aI 20 M v8 ((38 : Int32) + ((2 : Int32) * l1))).bind fun v9 => (gO 12 M l0).bind fun i10 => (F_X12_fades (some i10) l1 l2 v9 M).bind fun v11 => some (v11, M))
set_option maxHeartbeats 1000000 in
theorem T_X12_lossOf_b0 (r : (Int32 × gM)) (l0 : Option Nat) (l1 : Int32) (l2 : Int32) (M : gM) (h : F_X12_lossOf_b0 l0 l1 l2 M = some r) : GW 3 0 0 X_X12_lossOf 0 [(0, vr l0), (1, vi l1), (2, vi l2)] [] M (some (vi r.1), r.2) := by
  delta F_X12_lossOf_b0 at h
  refine GW_aload_n (X := X_X12_lossOf) (pc := 0) d_X12_lossOf_0 rfl 0 rfl ?_
  replace h := g_bd h
  obtain ⟨v1, hv1, h⟩ := h
  refine GW_getI (X := X_X12_lossOf) (pc := 1) f_X12_42 d_X12_lossOf_1 hv1 (Or.inl ty_12_21) ?_
  refine GW_if_ge (X := X_X12_lossOf) (pc := 4) 25 d_X12_lossOf_4 (by decide) (fun c => ?_) (fun c => ?_)
  · replace h := g_ip c h
    refine GW_aload_n (X := X_X12_lossOf) (pc := 25) d_X12_lossOf_25 rfl 0 rfl ?_
    refine GW_iload_n (X := X_X12_lossOf) (pc := 26) d_X12_lossOf_26 rfl 1 rfl ?_
    refine GW_iload_n (X := X_X12_lossOf) (pc := 27) d_X12_lossOf_27 rfl 2 rfl ?_
    replace h := g_bd h
    obtain ⟨i2, hi2, h⟩ := h
    obtain ⟨rfl, ki2⟩ := g_gO hi2
    replace h := g_bd h
    obtain ⟨M3, hM3, h⟩ := h
    refine GW_callV (X := X_X12_lossOf) (pc := 28) (bc0 := 0) (bs0 := 0) (r := none) (M2 := M3) (c0 := 12) (T_X12_words (some i2) l1 l2 M M3 hM3) (Nat.le_of_ble_eq_true rfl) (Nat.le_of_ble_eq_true rfl) rfl g_cok12 ki2 yc_X12_words ⟨m_1489, m_1491, m_90, m_127, m_1492⟩ d_X12_lossOf_28 rfl (st := []) rfl (Nat.le_of_ble_eq_true rfl) (Nat.le_of_ble_eq_true rfl) (Nat.le_of_ble_eq_true rfl) (st2 := []) rfl ?_
    refine GW_aload_n (X := X_X12_lossOf) (pc := 31) d_X12_lossOf_31 rfl 0 rfl ?_
    refine GW_aload_n (X := X_X12_lossOf) (pc := 32) d_X12_lossOf_32 rfl 0 rfl ?_
    replace h := g_bd h
    obtain ⟨v4, hv4, h⟩ := h
    refine GW_getI (X := X_X12_lossOf) (pc := 33) f_X12_42 d_X12_lossOf_33 hv4 (Or.inl ty_12_21) ?_
    replace h := g_bd h
    obtain ⟨_, kk5, h⟩ := h
    replace kk5 := g_gC kk5
    replace h := g_bd h
    obtain ⟨⟨v6, M7⟩, hv6, h⟩ := h
    dsimp only at h
    refine GW_callV (X := X_X12_lossOf) (pc := 36) (bc0 := 0) (bs0 := 0) (r := some (vl v6)) (M2 := M7) (c0 := 12) (T_X12_summedBy (some i2) v4 M3 (v6, M7) hv6) (Nat.le_of_ble_eq_true rfl) (Nat.le_of_ble_eq_true rfl) rfl g_cok12 kk5 yc_X12_summedBy ⟨m_1497, m_1499, m_92, m_127, m_1500⟩ d_X12_lossOf_36 rfl (st := []) rfl (Nat.le_of_ble_eq_true rfl) (Nat.le_of_ble_eq_true rfl) (Nat.le_of_ble_eq_true rfl) (st2 := [vl v6]) rfl ?_
    refine GW_lstore_n (X := X_X12_lossOf) (pc := 39) d_X12_lossOf_39 rfl (Nat.le_of_ble_eq_true rfl) (lv2 := [(3, vl v6), (0, vr (some i2)), (1, vi l1), (2, vi l2)]) rfl ?_
    refine GW_lload_n (X := X_X12_lossOf) (pc := 40) d_X12_lossOf_40 rfl 0 rfl ?_
    refine GW_lconst (X := X_X12_lossOf) (pc := 41) (v := 0) d_X12_lossOf_41 (by decide) ?_
    refine GW_lcmp (X := X_X12_lossOf) (pc := 42) d_X12_lossOf_42 ?_
    refine GW_if_ge (X := X_X12_lossOf) (pc := 43) 50 d_X12_lossOf_43 (by decide) (fun c => ?_) (fun c => ?_)
    · replace h := g_ip c h
      refine GW_lload_n (X := X_X12_lossOf) (pc := 50) d_X12_lossOf_50 rfl 0 rfl ?_
      refine GW_ldc2 (X := X_X12_lossOf) (pc := 51) d_X12_lossOf_51 m_1516 ?_
      refine GW_lcmp (X := X_X12_lossOf) (pc := 54) d_X12_lossOf_54 ?_
      refine GW_if_le (X := X_X12_lossOf) (pc := 55) 63 d_X12_lossOf_55 (by decide) (fun c => ?_) (fun c => ?_)
      · replace h := g_ip c h
        refine GW_lload_n (X := X_X12_lossOf) (pc := 63) d_X12_lossOf_63 rfl 0 rfl ?_
        refine GW_l2i (X := X_X12_lossOf) (pc := 64) d_X12_lossOf_64 ?_
        replace h := Option.some.inj h
        subst h
        exact GW_ret (X := X_X12_lossOf) (pc := 65) d_X12_lossOf_65 rfl trivial
      · replace h := g_ie c h
        refine GW_bipush (X := X_X12_lossOf) (pc := 58) (v := 99) d_X12_lossOf_58 (by decide) ?_
        refine GW_goto (X := X_X12_lossOf) (pc := 60) 65 d_X12_lossOf_60 (by decide) ?_
        replace h := Option.some.inj h
        subst h
        exact GW_ret (X := X_X12_lossOf) (pc := 65) d_X12_lossOf_65 rfl trivial
    · replace h := g_ie c h
      refine GW_iconst (X := X_X12_lossOf) (pc := 46) (v := 0) d_X12_lossOf_46 (by decide) ?_
      refine GW_goto (X := X_X12_lossOf) (pc := 47) 65 d_X12_lossOf_47 (by decide) ?_
      replace h := Option.some.inj h
      subst h
      exact GW_ret (X := X_X12_lossOf) (pc := 65) d_X12_lossOf_65 rfl trivial
  · replace h := g_ie c h
    refine GW_aload_n (X := X_X12_lossOf) (pc := 7) d_X12_lossOf_7 rfl 0 rfl ?_
    refine GW_iload_n (X := X_X12_lossOf) (pc := 8) d_X12_lossOf_8 rfl 1 rfl ?_
    refine GW_iload_n (X := X_X12_lossOf) (pc := 9) d_X12_lossOf_9 rfl 2 rfl ?_
    refine GW_aload_n (X := X_X12_lossOf) (pc := 10) d_X12_lossOf_10 rfl 0 rfl ?_
    replace h := g_bd h
    obtain ⟨v8, hv8, h⟩ := h
    refine GW_getR (X := X_X12_lossOf) (pc := 11) f_X12_39 d_X12_lossOf_11 hv8 (Or.inr ⟨_, ty_12_20⟩) ?_
    refine GW_bipush (X := X_X12_lossOf) (pc := 14) (v := 38) d_X12_lossOf_14 (by decide) ?_
    refine GW_iconst (X := X_X12_lossOf) (pc := 16) (v := 2) d_X12_lossOf_16 (by decide) ?_
    refine GW_iload_n (X := X_X12_lossOf) (pc := 17) d_X12_lossOf_17 rfl 1 rfl ?_
    refine GW_imul (X := X_X12_lossOf) (pc := 18) d_X12_lossOf_18 ?_
    refine GW_iadd (X := X_X12_lossOf) (pc := 19) d_X12_lossOf_19 ?_
    replace h := g_bd h
    obtain ⟨v9, hv9, h⟩ := h
    refine GW_iald (X := X_X12_lossOf) (pc := 20) d_X12_lossOf_20 hv9 ?_
    replace h := g_bd h
    obtain ⟨i10, hi10, h⟩ := h
    obtain ⟨rfl, ki10⟩ := g_gO hi10
    replace h := g_bd h
    obtain ⟨v11, hv11, h⟩ := h
    refine GW_callV (X := X_X12_lossOf) (pc := 21) (bc0 := 0) (bs0 := 0) (r := some (vi v11)) (M2 := M) (c0 := 12) (T_X12_fades (some i10) l1 l2 v9 M v11 hv11) (Nat.le_of_ble_eq_true rfl) (Nat.le_of_ble_eq_true rfl) rfl g_cok12 ki10 yc_X12_fades ⟨m_1485, m_1487, m_89, m_127, m_1488⟩ d_X12_lossOf_21 rfl (st := []) rfl (Nat.le_of_ble_eq_true rfl) (Nat.le_of_ble_eq_true rfl) (Nat.le_of_ble_eq_true rfl) (st2 := [vi v11]) rfl ?_
    replace h := Option.some.inj h
    subst h
    exact GW_ret (X := X_X12_lossOf) (pc := 24) d_X12_lossOf_24 rfl trivial
def F_X12_lossOf (l0 : Option Nat) (l1 : Int32) (l2 : Int32) (M : gM) : Option (Int32 × gM) := F_X12_lossOf_b0 l0 l1 l2 M
theorem T_X12_lossOf (l0 : Option Nat) (l1 : Int32) (l2 : Int32) (M : gM) (r : (Int32 × gM)) (h : F_X12_lossOf l0 l1 l2 M = some r) : g_Met 3 0 0 yX12_lossOf X_X12_lossOf [vr l0, vi l1, vi l2] M (some (vi r.1), r.2) :=
  g_Met_of pn_RX12 rfl (Nat.le_of_ble_eq_true rfl) (fun h => by cases h) (GW_sub [0, 1, 2] rfl (T_X12_lossOf_b0 r l0 l1 l2 M h))
/-! ForgetHeirsModel.knowsNow(IIII)V -/
theorem d_X12_knowsNow_0 : decode cX12_knowsNow 0 = .ok (.aload_n 0, 1) := by decide +kernel
theorem d_X12_knowsNow_1 : decode cX12_knowsNow 1 = .ok (.getfield 39, 3) := by decide +kernel
theorem d_X12_knowsNow_4 : decode cX12_knowsNow 4 = .ok (.bipush 59, 2) := by decide +kernel
theorem d_X12_knowsNow_6 : decode cX12_knowsNow 6 = .ok (.bipush 14, 2) := by decide +kernel
theorem d_X12_knowsNow_8 : decode cX12_knowsNow 8 = .ok (.iload_n 1, 1) := by decide +kernel
theorem d_X12_knowsNow_9 : decode cX12_knowsNow 9 = .ok (.imul, 1) := by decide +kernel
theorem d_X12_knowsNow_10 : decode cX12_knowsNow 10 = .ok (.iadd, 1) := by decide +kernel
theorem d_X12_knowsNow_11 : decode cX12_knowsNow 11 = .ok (.iconst 2, 1) := by decide +kernel
theorem d_X12_knowsNow_12 : decode cX12_knowsNow 12 = .ok (.iload_n 2, 1) := by decide +kernel
theorem d_X12_knowsNow_13 : decode cX12_knowsNow 13 = .ok (.imul, 1) := by decide +kernel
theorem d_X12_knowsNow_14 : decode cX12_knowsNow 14 = .ok (.iadd, 1) := by decide +kernel
theorem d_X12_knowsNow_15 : decode cX12_knowsNow 15 = .ok (.iload 4, 2) := by decide +kernel
theorem d_X12_knowsNow_17 : decode cX12_knowsNow 17 = .ok (.ifCond .le 7, 3) := by decide +kernel
theorem d_X12_knowsNow_20 : decode cX12_knowsNow 20 = .ok (.iload_n 3, 1) := by decide +kernel
theorem d_X12_knowsNow_21 : decode cX12_knowsNow 21 = .ok (.goto 4, 3) := by decide +kernel
theorem d_X12_knowsNow_24 : decode cX12_knowsNow 24 = .ok (.iconst (-1), 1) := by decide +kernel
theorem d_X12_knowsNow_25 : decode cX12_knowsNow 25 = .ok (.iastore, 1) := by decide +kernel
theorem d_X12_knowsNow_26 : decode cX12_knowsNow 26 = .ok (.aload_n 0, 1) := by decide +kernel
theorem d_X12_knowsNow_27 : decode cX12_knowsNow 27 = .ok (.getfield 39, 3) := by decide +kernel
theorem d_X12_knowsNow_30 : decode cX12_knowsNow 30 = .ok (.bipush 59, 2) := by decide +kernel
theorem d_X12_knowsNow_32 : decode cX12_knowsNow 32 = .ok (.bipush 14, 2) := by decide +kernel
theorem d_X12_knowsNow_34 : decode cX12_knowsNow 34 = .ok (.iload_n 1, 1) := by decide +kernel
theorem d_X12_knowsNow_35 : decode cX12_knowsNow 35 = .ok (.imul, 1) := by decide +kernel
theorem d_X12_knowsNow_36 : decode cX12_knowsNow 36 = .ok (.iadd, 1) := by decide +kernel
theorem d_X12_knowsNow_37 : decode cX12_knowsNow 37 = .ok (.iconst 2, 1) := by decide +kernel
theorem d_X12_knowsNow_38 : decode cX12_knowsNow 38 = .ok (.iload_n 2, 1) := by decide +kernel
theorem d_X12_knowsNow_39 : decode cX12_knowsNow 39 = .ok (.imul, 1) := by decide +kernel
theorem d_X12_knowsNow_40 : decode cX12_knowsNow 40 = .ok (.iadd, 1) := by decide +kernel
theorem d_X12_knowsNow_41 : decode cX12_knowsNow 41 = .ok (.iconst 1, 1) := by decide +kernel
theorem d_X12_knowsNow_42 : decode cX12_knowsNow 42 = .ok (.iadd, 1) := by decide +kernel
theorem d_X12_knowsNow_43 : decode cX12_knowsNow 43 = .ok (.iload 4, 2) := by decide +kernel
theorem d_X12_knowsNow_45 : decode cX12_knowsNow 45 = .ok (.ifCond .le 8, 3) := by decide +kernel
theorem d_X12_knowsNow_48 : decode cX12_knowsNow 48 = .ok (.iload 4, 2) := by decide +kernel
theorem d_X12_knowsNow_50 : decode cX12_knowsNow 50 = .ok (.goto 4, 3) := by decide +kernel
theorem d_X12_knowsNow_53 : decode cX12_knowsNow 53 = .ok (.iconst 0, 1) := by decide +kernel
theorem d_X12_knowsNow_54 : decode cX12_knowsNow 54 = .ok (.iastore, 1) := by decide +kernel
theorem d_X12_knowsNow_55 : decode cX12_knowsNow 55 = .ok (.return_, 1) := by decide +kernel
abbrev X_X12_knowsNow : gX := (RX12, cX12_knowsNow, 5, none, false)
def F_X12_knowsNow_b54 (s0 : Option Nat) (s1 : Int32) (s2 : Int32) (M : gM) : Option gM :=
  (sI M s0 s1 s2).bind fun M1 => some M1
theorem T_X12_knowsNow_b54 (r : gM) (s0 : Option Nat) (s1 : Int32) (s2 : Int32) (M : gM) (h : F_X12_knowsNow_b54 s0 s1 s2 M = some r) : GW 0 0 0 X_X12_knowsNow 54 [] [vi s2, vi s1, vr s0] M (none, r) := by
  delta F_X12_knowsNow_b54 at h
  replace h := g_bd h
  obtain ⟨M1, hM1, h⟩ := h
  refine GW_iast (X := X_X12_knowsNow) (pc := 54) d_X12_knowsNow_54 hM1 ?_
  replace h := Option.some.inj h
  subst h
  exact GW_ret (X := X_X12_knowsNow) (pc := 55) d_X12_knowsNow_55 rfl trivial
def F_X12_knowsNow_b25 (l0 : Option Nat) (l1 : Int32) (l2 : Int32) (l4 : Int32) (s0 : Option Nat) (s1 : Int32) (s2 : Int32) (M : gM) : Option gM :=
  (sI M s0 s1 s2).bind fun M1 => (gR 12 M1 l0 20).bind fun v2 => if l4 ≤ 0 then (F_X12_knowsNow_b54 v2 ((((59 : Int32) + ((14 : Int32) * l1)) + ((2 : Int32) * l2)) + (1 : Int32)) (0 : Int32) M1) else (F_X12_knowsNow_b54 v2 ((((59 : Int32) + ((14 : Int32) * l1)) + ((2 : Int32) * l2)) + (1 : Int32)) l4 M1)
theorem T_X12_knowsNow_b25 (r : gM) (l0 : Option Nat) (l1 : Int32) (l2 : Int32) (l4 : Int32) (s0 : Option Nat) (s1 : Int32) (s2 : Int32) (M : gM) (h : F_X12_knowsNow_b25 l0 l1 l2 l4 s0 s1 s2 M = some r) : GW 0 0 0 X_X12_knowsNow 25 [(0, vr l0), (1, vi l1), (2, vi l2), (4, vi l4)] [vi s2, vi s1, vr s0] M (none, r) := by
  delta F_X12_knowsNow_b25 at h
  replace h := g_bd h
  obtain ⟨M1, hM1, h⟩ := h
  refine GW_iast (X := X_X12_knowsNow) (pc := 25) d_X12_knowsNow_25 hM1 ?_
  refine GW_aload_n (X := X_X12_knowsNow) (pc := 26) d_X12_knowsNow_26 rfl 0 rfl ?_
  replace h := g_bd h
  obtain ⟨v2, hv2, h⟩ := h
  refine GW_getR (X := X_X12_knowsNow) (pc := 27) f_X12_39 d_X12_knowsNow_27 hv2 (Or.inr ⟨_, ty_12_20⟩) ?_
  refine GW_bipush (X := X_X12_knowsNow) (pc := 30) (v := 59) d_X12_knowsNow_30 (by decide) ?_
  refine GW_bipush (X := X_X12_knowsNow) (pc := 32) (v := 14) d_X12_knowsNow_32 (by decide) ?_
  refine GW_iload_n (X := X_X12_knowsNow) (pc := 34) d_X12_knowsNow_34 rfl 1 rfl ?_
  refine GW_imul (X := X_X12_knowsNow) (pc := 35) d_X12_knowsNow_35 ?_
  refine GW_iadd (X := X_X12_knowsNow) (pc := 36) d_X12_knowsNow_36 ?_
  refine GW_iconst (X := X_X12_knowsNow) (pc := 37) (v := 2) d_X12_knowsNow_37 (by decide) ?_
  refine GW_iload_n (X := X_X12_knowsNow) (pc := 38) d_X12_knowsNow_38 rfl 2 rfl ?_
  refine GW_imul (X := X_X12_knowsNow) (pc := 39) d_X12_knowsNow_39 ?_
  refine GW_iadd (X := X_X12_knowsNow) (pc := 40) d_X12_knowsNow_40 ?_
  refine GW_iconst (X := X_X12_knowsNow) (pc := 41) (v := 1) d_X12_knowsNow_41 (by decide) ?_
  refine GW_iadd (X := X_X12_knowsNow) (pc := 42) d_X12_knowsNow_42 ?_
  refine GW_iload (X := X_X12_knowsNow) (pc := 43) d_X12_knowsNow_43 3 rfl ?_
  refine GW_if_le (X := X_X12_knowsNow) (pc := 45) 53 d_X12_knowsNow_45 (by decide) (fun c => ?_) (fun c => ?_)
  · replace h := g_ip c h
    refine GW_iconst (X := X_X12_knowsNow) (pc := 53) (v := 0) d_X12_knowsNow_53 (by decide) ?_
    refine GW_sub [] rfl ?_
    exact T_X12_knowsNow_b54 r v2 ((((59 : Int32) + ((14 : Int32) * l1)) + ((2 : Int32) * l2)) + (1 : Int32)) (0 : Int32) M1 h
  · replace h := g_ie c h
    refine GW_iload (X := X_X12_knowsNow) (pc := 48) d_X12_knowsNow_48 3 rfl ?_
    refine GW_goto (X := X_X12_knowsNow) (pc := 50) 54 d_X12_knowsNow_50 (by decide) ?_
    refine GW_sub [] rfl ?_
    exact T_X12_knowsNow_b54 r v2 ((((59 : Int32) + ((14 : Int32) * l1)) + ((2 : Int32) * l2)) + (1 : Int32)) l4 M1 h
def F_X12_knowsNow_b0 (l0 : Option Nat) (l1 : Int32) (l2 : Int32) (l3 : Int32) (l4 : Int32) (M : gM) : Option gM :=
  (gR 12 M l0 20).bind fun v1 => if l4 ≤ 0 then (F_X12_knowsNow_b25 l0 l1 l2 l4 v1 (((59 : Int32) + ((14 : Int32) * l1)) + ((2 : Int32) * l2)) (-1 : Int32) M) else (F_X12_knowsNow_b25 l0 l1 l2 l4 v1 (((59 : Int32) + ((14 : Int32) * l1)) + ((2 : Int32) * l2)) l3 M)
theorem T_X12_knowsNow_b0 (r : gM) (l0 : Option Nat) (l1 : Int32) (l2 : Int32) (l3 : Int32) (l4 : Int32) (M : gM) (h : F_X12_knowsNow_b0 l0 l1 l2 l3 l4 M = some r) : GW 0 0 0 X_X12_knowsNow 0 [(0, vr l0), (1, vi l1), (2, vi l2), (3, vi l3), (4, vi l4)] [] M (none, r) := by
  delta F_X12_knowsNow_b0 at h
  refine GW_aload_n (X := X_X12_knowsNow) (pc := 0) d_X12_knowsNow_0 rfl 0 rfl ?_
  replace h := g_bd h
  obtain ⟨v1, hv1, h⟩ := h
  refine GW_getR (X := X_X12_knowsNow) (pc := 1) f_X12_39 d_X12_knowsNow_1 hv1 (Or.inr ⟨_, ty_12_20⟩) ?_
  refine GW_bipush (X := X_X12_knowsNow) (pc := 4) (v := 59) d_X12_knowsNow_4 (by decide) ?_
  refine GW_bipush (X := X_X12_knowsNow) (pc := 6) (v := 14) d_X12_knowsNow_6 (by decide) ?_
  refine GW_iload_n (X := X_X12_knowsNow) (pc := 8) d_X12_knowsNow_8 rfl 1 rfl ?_
  refine GW_imul (X := X_X12_knowsNow) (pc := 9) d_X12_knowsNow_9 ?_
  refine GW_iadd (X := X_X12_knowsNow) (pc := 10) d_X12_knowsNow_10 ?_
  refine GW_iconst (X := X_X12_knowsNow) (pc := 11) (v := 2) d_X12_knowsNow_11 (by decide) ?_
  refine GW_iload_n (X := X_X12_knowsNow) (pc := 12) d_X12_knowsNow_12 rfl 2 rfl ?_
  refine GW_imul (X := X_X12_knowsNow) (pc := 13) d_X12_knowsNow_13 ?_
  refine GW_iadd (X := X_X12_knowsNow) (pc := 14) d_X12_knowsNow_14 ?_
  refine GW_iload (X := X_X12_knowsNow) (pc := 15) d_X12_knowsNow_15 4 rfl ?_
  refine GW_if_le (X := X_X12_knowsNow) (pc := 17) 24 d_X12_knowsNow_17 (by decide) (fun c => ?_) (fun c => ?_)
  · replace h := g_ip c h
    refine GW_iconst (X := X_X12_knowsNow) (pc := 24) (v := -1) d_X12_knowsNow_24 (by decide) ?_
    refine GW_sub [0, 1, 2, 4] rfl ?_
    exact T_X12_knowsNow_b25 r l0 l1 l2 l4 v1 (((59 : Int32) + ((14 : Int32) * l1)) + ((2 : Int32) * l2)) (-1 : Int32) M h
  · replace h := g_ie c h
    refine GW_iload_n (X := X_X12_knowsNow) (pc := 20) d_X12_knowsNow_20 rfl 3 rfl ?_
    refine GW_goto (X := X_X12_knowsNow) (pc := 21) 25 d_X12_knowsNow_21 (by decide) ?_
    refine GW_sub [0, 1, 2, 4] rfl ?_
    exact T_X12_knowsNow_b25 r l0 l1 l2 l4 v1 (((59 : Int32) + ((14 : Int32) * l1)) + ((2 : Int32) * l2)) l3 M h
def F_X12_knowsNow (l0 : Option Nat) (l1 : Int32) (l2 : Int32) (l3 : Int32) (l4 : Int32) (M : gM) : Option gM := F_X12_knowsNow_b0 l0 l1 l2 l3 l4 M
theorem T_X12_knowsNow (l0 : Option Nat) (l1 : Int32) (l2 : Int32) (l3 : Int32) (l4 : Int32) (M : gM) (r : gM) (h : F_X12_knowsNow l0 l1 l2 l3 l4 M = some r) : g_Met 0 0 0 yX12_knowsNow X_X12_knowsNow [vr l0, vi l1, vi l2, vi l3, vi l4] M (none, r) :=
  g_Met_of pn_RX12 rfl (Nat.le_of_ble_eq_true rfl) (fun h => by cases h) (GW_sub [0, 1, 2, 3, 4] rfl (T_X12_knowsNow_b0 r l0 l1 l2 l3 l4 M h))
/-! ForgetHeirsModel.passes()I -/
theorem d_X12_passes_0 : decode cX12_passes 0 = .ok (.iconst 0, 1) := by decide +kernel
theorem d_X12_passes_1 : decode cX12_passes 1 = .ok (.istore_n 1, 1) := by decide +kernel
theorem d_X12_passes_2 : decode cX12_passes 2 = .ok (.iconst 0, 1) := by decide +kernel
theorem d_X12_passes_3 : decode cX12_passes 3 = .ok (.istore_n 2, 1) := by decide +kernel
theorem d_X12_passes_4 : decode cX12_passes 4 = .ok (.iload_n 2, 1) := by decide +kernel
theorem d_X12_passes_5 : decode cX12_passes 5 = .ok (.aload_n 0, 1) := by decide +kernel
theorem d_X12_passes_6 : decode cX12_passes 6 = .ok (.getfield 39, 3) := by decide +kernel
theorem d_X12_passes_9 : decode cX12_passes 9 = .ok (.iconst 2, 1) := by decide +kernel
theorem d_X12_passes_10 : decode cX12_passes 10 = .ok (.iaload, 1) := by decide +kernel
theorem d_X12_passes_11 : decode cX12_passes 11 = .ok (.if_icmp .ge 57, 3) := by decide +kernel
theorem d_X12_passes_14 : decode cX12_passes 14 = .ok (.iconst 0, 1) := by decide +kernel
theorem d_X12_passes_15 : decode cX12_passes 15 = .ok (.istore_n 3, 1) := by decide +kernel
theorem d_X12_passes_16 : decode cX12_passes 16 = .ok (.iload_n 3, 1) := by decide +kernel
theorem d_X12_passes_17 : decode cX12_passes 17 = .ok (.aload_n 0, 1) := by decide +kernel
theorem d_X12_passes_18 : decode cX12_passes 18 = .ok (.getfield 39, 3) := by decide +kernel
theorem d_X12_passes_21 : decode cX12_passes 21 = .ok (.iconst 1, 1) := by decide +kernel
theorem d_X12_passes_22 : decode cX12_passes 22 = .ok (.iaload, 1) := by decide +kernel
theorem d_X12_passes_23 : decode cX12_passes 23 = .ok (.if_icmp .ge 39, 3) := by decide +kernel
theorem d_X12_passes_26 : decode cX12_passes 26 = .ok (.aload_n 0, 1) := by decide +kernel
theorem d_X12_passes_27 : decode cX12_passes 27 = .ok (.getfield 46, 3) := by decide +kernel
theorem d_X12_passes_30 : decode cX12_passes 30 = .ok (.bipush 7, 2) := by decide +kernel
theorem d_X12_passes_32 : decode cX12_passes 32 = .ok (.iload_n 2, 1) := by decide +kernel
theorem d_X12_passes_33 : decode cX12_passes 33 = .ok (.imul, 1) := by decide +kernel
theorem d_X12_passes_34 : decode cX12_passes 34 = .ok (.iload_n 3, 1) := by decide +kernel
theorem d_X12_passes_35 : decode cX12_passes 35 = .ok (.iadd, 1) := by decide +kernel
theorem d_X12_passes_36 : decode cX12_passes 36 = .ok (.aload_n 0, 1) := by decide +kernel
theorem d_X12_passes_37 : decode cX12_passes 37 = .ok (.iload_n 2, 1) := by decide +kernel
theorem d_X12_passes_38 : decode cX12_passes 38 = .ok (.iload_n 3, 1) := by decide +kernel
theorem d_X12_passes_39 : decode cX12_passes 39 = .ok (.invokevirtual 304, 3) := by decide +kernel
theorem d_X12_passes_42 : decode cX12_passes 42 = .ok (.ifCond .eq 12, 3) := by decide +kernel
theorem d_X12_passes_45 : decode cX12_passes 45 = .ok (.aload_n 0, 1) := by decide +kernel
theorem d_X12_passes_46 : decode cX12_passes 46 = .ok (.iload_n 2, 1) := by decide +kernel
theorem d_X12_passes_47 : decode cX12_passes 47 = .ok (.iload_n 3, 1) := by decide +kernel
theorem d_X12_passes_48 : decode cX12_passes 48 = .ok (.invokevirtual 355, 3) := by decide +kernel
theorem d_X12_passes_51 : decode cX12_passes 51 = .ok (.goto 4, 3) := by decide +kernel
theorem d_X12_passes_54 : decode cX12_passes 54 = .ok (.iconst 0, 1) := by decide +kernel
theorem d_X12_passes_55 : decode cX12_passes 55 = .ok (.iastore, 1) := by decide +kernel
theorem d_X12_passes_56 : decode cX12_passes 56 = .ok (.iinc 3 1, 3) := by decide +kernel
theorem d_X12_passes_59 : decode cX12_passes 59 = .ok (.goto (-43), 3) := by decide +kernel
theorem d_X12_passes_62 : decode cX12_passes 62 = .ok (.iinc 2 1, 3) := by decide +kernel
theorem d_X12_passes_65 : decode cX12_passes 65 = .ok (.goto (-61), 3) := by decide +kernel
theorem d_X12_passes_68 : decode cX12_passes 68 = .ok (.iconst 0, 1) := by decide +kernel
theorem d_X12_passes_69 : decode cX12_passes 69 = .ok (.istore_n 2, 1) := by decide +kernel
theorem d_X12_passes_70 : decode cX12_passes 70 = .ok (.iload_n 2, 1) := by decide +kernel
theorem d_X12_passes_71 : decode cX12_passes 71 = .ok (.aload_n 0, 1) := by decide +kernel
theorem d_X12_passes_72 : decode cX12_passes 72 = .ok (.getfield 39, 3) := by decide +kernel
theorem d_X12_passes_75 : decode cX12_passes 75 = .ok (.iconst 2, 1) := by decide +kernel
theorem d_X12_passes_76 : decode cX12_passes 76 = .ok (.iaload, 1) := by decide +kernel
theorem d_X12_passes_77 : decode cX12_passes 77 = .ok (.if_icmp .ge 97, 3) := by decide +kernel
theorem d_X12_passes_80 : decode cX12_passes 80 = .ok (.iconst 0, 1) := by decide +kernel
theorem d_X12_passes_81 : decode cX12_passes 81 = .ok (.istore_n 3, 1) := by decide +kernel
theorem d_X12_passes_82 : decode cX12_passes 82 = .ok (.iload_n 3, 1) := by decide +kernel
theorem d_X12_passes_83 : decode cX12_passes 83 = .ok (.aload_n 0, 1) := by decide +kernel
theorem d_X12_passes_84 : decode cX12_passes 84 = .ok (.getfield 39, 3) := by decide +kernel
theorem d_X12_passes_87 : decode cX12_passes 87 = .ok (.iconst 1, 1) := by decide +kernel
theorem d_X12_passes_88 : decode cX12_passes 88 = .ok (.iaload, 1) := by decide +kernel
theorem d_X12_passes_89 : decode cX12_passes 89 = .ok (.if_icmp .ge 48, 3) := by decide +kernel
theorem d_X12_passes_92 : decode cX12_passes 92 = .ok (.aload_n 0, 1) := by decide +kernel
theorem d_X12_passes_93 : decode cX12_passes 93 = .ok (.iload_n 2, 1) := by decide +kernel
theorem d_X12_passes_94 : decode cX12_passes 94 = .ok (.iload_n 3, 1) := by decide +kernel
theorem d_X12_passes_95 : decode cX12_passes 95 = .ok (.invokevirtual 304, 3) := by decide +kernel
theorem d_X12_passes_98 : decode cX12_passes 98 = .ok (.ifCond .eq 33, 3) := by decide +kernel
theorem d_X12_passes_101 : decode cX12_passes 101 = .ok (.aload_n 0, 1) := by decide +kernel
theorem d_X12_passes_102 : decode cX12_passes 102 = .ok (.iload_n 2, 1) := by decide +kernel
theorem d_X12_passes_103 : decode cX12_passes 103 = .ok (.iload_n 3, 1) := by decide +kernel
theorem d_X12_passes_104 : decode cX12_passes 104 = .ok (.aload_n 0, 1) := by decide +kernel
theorem d_X12_passes_105 : decode cX12_passes 105 = .ok (.iload_n 2, 1) := by decide +kernel
theorem d_X12_passes_106 : decode cX12_passes 106 = .ok (.iload_n 3, 1) := by decide +kernel
theorem d_X12_passes_107 : decode cX12_passes 107 = .ok (.invokevirtual 297, 3) := by decide +kernel
theorem d_X12_passes_110 : decode cX12_passes 110 = .ok (.aload_n 0, 1) := by decide +kernel
theorem d_X12_passes_111 : decode cX12_passes 111 = .ok (.iload_n 2, 1) := by decide +kernel
theorem d_X12_passes_112 : decode cX12_passes 112 = .ok (.iload_n 3, 1) := by decide +kernel
theorem d_X12_passes_113 : decode cX12_passes 113 = .ok (.invokevirtual 335, 3) := by decide +kernel
theorem d_X12_passes_116 : decode cX12_passes 116 = .ok (.aload_n 0, 1) := by decide +kernel
theorem d_X12_passes_117 : decode cX12_passes 117 = .ok (.getfield 46, 3) := by decide +kernel
theorem d_X12_passes_120 : decode cX12_passes 120 = .ok (.bipush 7, 2) := by decide +kernel
theorem d_X12_passes_122 : decode cX12_passes 122 = .ok (.iload_n 2, 1) := by decide +kernel
theorem d_X12_passes_123 : decode cX12_passes 123 = .ok (.imul, 1) := by decide +kernel
theorem d_X12_passes_124 : decode cX12_passes 124 = .ok (.iload_n 3, 1) := by decide +kernel
theorem d_X12_passes_125 : decode cX12_passes 125 = .ok (.iadd, 1) := by decide +kernel
theorem d_X12_passes_126 : decode cX12_passes 126 = .ok (.iaload, 1) := by decide +kernel
theorem d_X12_passes_127 : decode cX12_passes 127 = .ok (.isub, 1) := by decide +kernel
theorem d_X12_passes_128 : decode cX12_passes 128 = .ok (.invokevirtual 358, 3) := by decide +kernel
theorem d_X12_passes_131 : decode cX12_passes 131 = .ok (.iinc 3 1, 3) := by decide +kernel
theorem d_X12_passes_134 : decode cX12_passes 134 = .ok (.goto (-52), 3) := by decide +kernel
theorem d_X12_passes_137 : decode cX12_passes 137 = .ok (.aload_n 0, 1) := by decide +kernel
theorem d_X12_passes_138 : decode cX12_passes 138 = .ok (.getfield 39, 3) := by decide +kernel
theorem d_X12_passes_141 : decode cX12_passes 141 = .ok (.bipush 38, 2) := by decide +kernel
theorem d_X12_passes_143 : decode cX12_passes 143 = .ok (.iconst 2, 1) := by decide +kernel
theorem d_X12_passes_144 : decode cX12_passes 144 = .ok (.iload_n 2, 1) := by decide +kernel
theorem d_X12_passes_145 : decode cX12_passes 145 = .ok (.imul, 1) := by decide +kernel
theorem d_X12_passes_146 : decode cX12_passes 146 = .ok (.iadd, 1) := by decide +kernel
theorem d_X12_passes_147 : decode cX12_passes 147 = .ok (.iaload, 1) := by decide +kernel
theorem d_X12_passes_148 : decode cX12_passes 148 = .ok (.bipush 99, 2) := by decide +kernel
theorem d_X12_passes_150 : decode cX12_passes 150 = .ok (.if_icmp .ge 18, 3) := by decide +kernel
theorem d_X12_passes_153 : decode cX12_passes 153 = .ok (.aload_n 0, 1) := by decide +kernel
theorem d_X12_passes_154 : decode cX12_passes 154 = .ok (.getfield 39, 3) := by decide +kernel
theorem d_X12_passes_157 : decode cX12_passes 157 = .ok (.bipush 38, 2) := by decide +kernel
theorem d_X12_passes_159 : decode cX12_passes 159 = .ok (.iconst 2, 1) := by decide +kernel
theorem d_X12_passes_160 : decode cX12_passes 160 = .ok (.iload_n 2, 1) := by decide +kernel
theorem d_X12_passes_161 : decode cX12_passes 161 = .ok (.imul, 1) := by decide +kernel
theorem d_X12_passes_162 : decode cX12_passes 162 = .ok (.iadd, 1) := by decide +kernel
theorem d_X12_passes_163 : decode cX12_passes 163 = .ok (.dup2, 1) := by decide +kernel
theorem d_X12_passes_164 : decode cX12_passes 164 = .ok (.iaload, 1) := by decide +kernel
theorem d_X12_passes_165 : decode cX12_passes 165 = .ok (.iconst 1, 1) := by decide +kernel
theorem d_X12_passes_166 : decode cX12_passes 166 = .ok (.iadd, 1) := by decide +kernel
theorem d_X12_passes_167 : decode cX12_passes 167 = .ok (.iastore, 1) := by decide +kernel
theorem d_X12_passes_168 : decode cX12_passes 168 = .ok (.iinc 2 1, 3) := by decide +kernel
theorem d_X12_passes_171 : decode cX12_passes 171 = .ok (.goto (-101), 3) := by decide +kernel
theorem d_X12_passes_174 : decode cX12_passes 174 = .ok (.iconst 0, 1) := by decide +kernel
theorem d_X12_passes_175 : decode cX12_passes 175 = .ok (.istore_n 2, 1) := by decide +kernel
theorem d_X12_passes_176 : decode cX12_passes 176 = .ok (.iload_n 2, 1) := by decide +kernel
theorem d_X12_passes_177 : decode cX12_passes 177 = .ok (.aload_n 0, 1) := by decide +kernel
theorem d_X12_passes_178 : decode cX12_passes 178 = .ok (.getfield 39, 3) := by decide +kernel
theorem d_X12_passes_181 : decode cX12_passes 181 = .ok (.iconst 1, 1) := by decide +kernel
theorem d_X12_passes_182 : decode cX12_passes 182 = .ok (.iaload, 1) := by decide +kernel
theorem d_X12_passes_183 : decode cX12_passes 183 = .ok (.if_icmp .ge 51, 3) := by decide +kernel
theorem d_X12_passes_186 : decode cX12_passes 186 = .ok (.aload_n 0, 1) := by decide +kernel
theorem d_X12_passes_187 : decode cX12_passes 187 = .ok (.iload_n 2, 1) := by decide +kernel
theorem d_X12_passes_188 : decode cX12_passes 188 = .ok (.iconst 3, 1) := by decide +kernel
theorem d_X12_passes_189 : decode cX12_passes 189 = .ok (.invokevirtual 301, 3) := by decide +kernel
theorem d_X12_passes_192 : decode cX12_passes 192 = .ok (.ifCond .ge 36, 3) := by decide +kernel
theorem d_X12_passes_195 : decode cX12_passes 195 = .ok (.aload_n 0, 1) := by decide +kernel
theorem d_X12_passes_196 : decode cX12_passes 196 = .ok (.iload_n 2, 1) := by decide +kernel
theorem d_X12_passes_197 : decode cX12_passes 197 = .ok (.invokevirtual 332, 3) := by decide +kernel
theorem d_X12_passes_200 : decode cX12_passes 200 = .ok (.ifCond .eq 6, 3) := by decide +kernel
theorem d_X12_passes_203 : decode cX12_passes 203 = .ok (.goto 25, 3) := by decide +kernel
theorem d_X12_passes_206 : decode cX12_passes 206 = .ok (.aload_n 0, 1) := by decide +kernel
theorem d_X12_passes_207 : decode cX12_passes 207 = .ok (.getfield 39, 3) := by decide +kernel
theorem d_X12_passes_210 : decode cX12_passes 210 = .ok (.bipush 10, 2) := by decide +kernel
theorem d_X12_passes_212 : decode cX12_passes 212 = .ok (.iconst 4, 1) := by decide +kernel
theorem d_X12_passes_213 : decode cX12_passes 213 = .ok (.iload_n 2, 1) := by decide +kernel
theorem d_X12_passes_214 : decode cX12_passes 214 = .ok (.imul, 1) := by decide +kernel
theorem d_X12_passes_215 : decode cX12_passes 215 = .ok (.iadd, 1) := by decide +kernel
theorem d_X12_passes_216 : decode cX12_passes 216 = .ok (.iconst 3, 1) := by decide +kernel
theorem d_X12_passes_217 : decode cX12_passes 217 = .ok (.iadd, 1) := by decide +kernel
theorem d_X12_passes_218 : decode cX12_passes 218 = .ok (.aload_n 0, 1) := by decide +kernel
theorem d_X12_passes_219 : decode cX12_passes 219 = .ok (.getfield 39, 3) := by decide +kernel
theorem d_X12_passes_222 : decode cX12_passes 222 = .ok (.iconst 4, 1) := by decide +kernel
theorem d_X12_passes_223 : decode cX12_passes 223 = .ok (.iaload, 1) := by decide +kernel
theorem d_X12_passes_224 : decode cX12_passes 224 = .ok (.iastore, 1) := by decide +kernel
theorem d_X12_passes_225 : decode cX12_passes 225 = .ok (.iinc 1 1, 3) := by decide +kernel
theorem d_X12_passes_228 : decode cX12_passes 228 = .ok (.iinc 2 1, 3) := by decide +kernel
theorem d_X12_passes_231 : decode cX12_passes 231 = .ok (.goto (-55), 3) := by decide +kernel
theorem d_X12_passes_234 : decode cX12_passes 234 = .ok (.aload_n 0, 1) := by decide +kernel
theorem d_X12_passes_235 : decode cX12_passes 235 = .ok (.getfield 39, 3) := by decide +kernel
theorem d_X12_passes_238 : decode cX12_passes 238 = .ok (.iconst 4, 1) := by decide +kernel
theorem d_X12_passes_239 : decode cX12_passes 239 = .ok (.dup2, 1) := by decide +kernel
theorem d_X12_passes_240 : decode cX12_passes 240 = .ok (.iaload, 1) := by decide +kernel
theorem d_X12_passes_241 : decode cX12_passes 241 = .ok (.iconst 1, 1) := by decide +kernel
theorem d_X12_passes_242 : decode cX12_passes 242 = .ok (.iadd, 1) := by decide +kernel
theorem d_X12_passes_243 : decode cX12_passes 243 = .ok (.iastore, 1) := by decide +kernel
theorem d_X12_passes_244 : decode cX12_passes 244 = .ok (.iload_n 1, 1) := by decide +kernel
theorem d_X12_passes_245 : decode cX12_passes 245 = .ok (.ireturn, 1) := by decide +kernel
abbrev X_X12_passes : gX := (RX12, cX12_passes, 4, (some .int), false)
def F_X12_passes_b228 (k176 : Option Nat → Int32 → Int32 → gM → Option (Int32 × gM)) (l0 : Option Nat) (l1 : Int32) (l2 : Int32) (M : gM) : Option (Int32 × gM) :=
  k176 l0 l1 (l2 + 1) M
theorem T_X12_passes_b228 (k176 : Option Nat → Int32 → Int32 → gM → Option (Int32 × gM)) (r : (Int32 × gM)) (hk176 : ∀ (l0 : Option Nat) (l1 : Int32) (l2 : Int32) (M : gM), k176 l0 l1 l2 M = some r → GW 4 0 0 X_X12_passes 176 [(0, vr l0), (1, vi l1), (2, vi l2)] [] M (some (vi r.1), r.2)) (l0 : Option Nat) (l1 : Int32) (l2 : Int32) (M : gM) (h : F_X12_passes_b228 k176 l0 l1 l2 M = some r) : GW 4 0 0 X_X12_passes 228 [(0, vr l0), (1, vi l1), (2, vi l2)] [] M (some (vi r.1), r.2) := by
  delta F_X12_passes_b228 at h
  refine GW_iinc (j := 2) (X := X_X12_passes) (pc := 228) d_X12_passes_228 rfl (congrArg (fun z => _ + z) (by decide : Int32.ofInt 1 = (1 : Int32))) (Nat.le_of_ble_eq_true rfl) (lv2 := [(2, vi (l2 + 1)), (0, vr l0), (1, vi l1)]) rfl ?_
  refine GW_goto (X := X_X12_passes) (pc := 231) 176 d_X12_passes_231 (by decide) ?_
  refine GW_sub [1, 2, 0] rfl ?_
  exact hk176 l0 l1 (l2 + 1) M h
def F_X12_passes_b176 (k176 : Option Nat → Int32 → Int32 → gM → Option (Int32 × gM)) (l0 : Option Nat) (l1 : Int32) (l2 : Int32) (M : gM) : Option (Int32 × gM) :=
  (gR 12 M l0 20).bind fun v1 => (aI 20 M v1 (1 : Int32)).bind fun v2 => if v2 ≤ l2 then ((gR 12 M l0 20).bind fun v3 => (aI 20 M v3 (4 : Int32)).bind fun v4 => (sI M v3 (4 : Int32) (v4 + (1 : Int32))).bind fun M5 => some (l1, M5)) else ((gO 12 M l0).bind fun i6 => (F_X12_thingOf (some i6) l2 (3 : Int32) M).bind fun v7 => if 0 ≤ v7 then (F_X12_passes_b228 k176 (some i6) l1 l2 M) else ((F_X12_holdersOf (some i6) l2 M).bind fun v8 => if v8 = 0 then ((gR 12 M (some i6) 20).bind fun v9 => (gR 12 M (some i6) 20).bind fun v10 => (aI 20 M v10 (4 : Int32)).bind fun v11 => (sI M v9 (((10 : Int32) + ((4 : Int32) * l2)) + (3 : Int32)) v11).bind fun M12 => F_X12_passes_b228 k176 (some i6) (l1 + 1) l2 M12) else (F_X12_passes_b228 k176 (some i6) l1 l2 M)))
set_option maxHeartbeats 1000000 in
theorem T_X12_passes_b176 (k176 : Option Nat → Int32 → Int32 → gM → Option (Int32 × gM)) (r : (Int32 × gM)) (hk176 : ∀ (l0 : Option Nat) (l1 : Int32) (l2 : Int32) (M : gM), k176 l0 l1 l2 M = some r → GW 4 0 0 X_X12_passes 176 [(0, vr l0), (1, vi l1), (2, vi l2)] [] M (some (vi r.1), r.2)) (l0 : Option Nat) (l1 : Int32) (l2 : Int32) (M : gM) (h : F_X12_passes_b176 k176 l0 l1 l2 M = some r) : GW 4 0 0 X_X12_passes 176 [(0, vr l0), (1, vi l1), (2, vi l2)] [] M (some (vi r.1), r.2) := by
  delta F_X12_passes_b176 at h
  refine GW_iload_n (X := X_X12_passes) (pc := 176) d_X12_passes_176 rfl 2 rfl ?_
  refine GW_aload_n (X := X_X12_passes) (pc := 177) d_X12_passes_177 rfl 0 rfl ?_
  replace h := g_bd h
  obtain ⟨v1, hv1, h⟩ := h
  refine GW_getR (X := X_X12_passes) (pc := 178) f_X12_39 d_X12_passes_178 hv1 (Or.inr ⟨_, ty_12_20⟩) ?_
  refine GW_iconst (X := X_X12_passes) (pc := 181) (v := 1) d_X12_passes_181 (by decide) ?_
  replace h := g_bd h
  obtain ⟨v2, hv2, h⟩ := h
  refine GW_iald (X := X_X12_passes) (pc := 182) d_X12_passes_182 hv2 ?_
  refine GW_icmp_ge (X := X_X12_passes) (pc := 183) 234 d_X12_passes_183 (by decide) (fun c => ?_) (fun c => ?_)
  · replace h := g_ip c h
    refine GW_aload_n (X := X_X12_passes) (pc := 234) d_X12_passes_234 rfl 0 rfl ?_
    replace h := g_bd h
    obtain ⟨v3, hv3, h⟩ := h
    refine GW_getR (X := X_X12_passes) (pc := 235) f_X12_39 d_X12_passes_235 hv3 (Or.inr ⟨_, ty_12_20⟩) ?_
    refine GW_iconst (X := X_X12_passes) (pc := 238) (v := 4) d_X12_passes_238 (by decide) ?_
    refine GW_dup2 (X := X_X12_passes) (pc := 239) d_X12_passes_239 rfl rfl ?_
    replace h := g_bd h
    obtain ⟨v4, hv4, h⟩ := h
    refine GW_iald (X := X_X12_passes) (pc := 240) d_X12_passes_240 hv4 ?_
    refine GW_iconst (X := X_X12_passes) (pc := 241) (v := 1) d_X12_passes_241 (by decide) ?_
    refine GW_iadd (X := X_X12_passes) (pc := 242) d_X12_passes_242 ?_
    replace h := g_bd h
    obtain ⟨M5, hM5, h⟩ := h
    refine GW_iast (X := X_X12_passes) (pc := 243) d_X12_passes_243 hM5 ?_
    refine GW_iload_n (X := X_X12_passes) (pc := 244) d_X12_passes_244 rfl 1 rfl ?_
    replace h := Option.some.inj h
    subst h
    exact GW_ret (X := X_X12_passes) (pc := 245) d_X12_passes_245 rfl trivial
  · replace h := g_ie c h
    refine GW_aload_n (X := X_X12_passes) (pc := 186) d_X12_passes_186 rfl 0 rfl ?_
    refine GW_iload_n (X := X_X12_passes) (pc := 187) d_X12_passes_187 rfl 2 rfl ?_
    refine GW_iconst (X := X_X12_passes) (pc := 188) (v := 3) d_X12_passes_188 (by decide) ?_
    replace h := g_bd h
    obtain ⟨i6, hi6, h⟩ := h
    obtain ⟨rfl, ki6⟩ := g_gO hi6
    replace h := g_bd h
    obtain ⟨v7, hv7, h⟩ := h
    refine GW_callV (X := X_X12_passes) (pc := 189) (bc0 := 0) (bs0 := 0) (r := some (vi v7)) (M2 := M) (c0 := 12) (T_X12_thingOf (some i6) l2 (3 : Int32) M v7 hv7) (Nat.le_of_ble_eq_true rfl) (Nat.le_of_ble_eq_true rfl) rfl g_cok12 ki6 yc_X12_thingOf ⟨m_1428, m_1430, m_79, m_127, m_1431⟩ d_X12_passes_189 rfl (st := []) rfl (Nat.le_of_ble_eq_true rfl) (Nat.le_of_ble_eq_true rfl) (Nat.le_of_ble_eq_true rfl) (st2 := [vi v7]) rfl ?_
    refine GW_if_ge (X := X_X12_passes) (pc := 192) 228 d_X12_passes_192 (by decide) (fun c => ?_) (fun c => ?_)
    · replace h := g_ip c h
      exact T_X12_passes_b228 k176 r hk176 (some i6) l1 l2 M h
    · replace h := g_ie c h
      refine GW_aload_n (X := X_X12_passes) (pc := 195) d_X12_passes_195 rfl 0 rfl ?_
      refine GW_iload_n (X := X_X12_passes) (pc := 196) d_X12_passes_196 rfl 2 rfl ?_
      replace h := g_bd h
      obtain ⟨v8, hv8, h⟩ := h
      refine GW_callV (X := X_X12_passes) (pc := 197) (bc0 := 0) (bs0 := 0) (r := some (vi v8)) (M2 := M) (c0 := 12) (T_X12_holdersOf (some i6) l2 M v8 hv8) (Nat.le_of_ble_eq_true rfl) (Nat.le_of_ble_eq_true rfl) rfl g_cok12 ki6 yc_X12_holdersOf ⟨m_1453, m_1455, m_84, m_127, m_1456⟩ d_X12_passes_197 rfl (st := []) rfl (Nat.le_of_ble_eq_true rfl) (Nat.le_of_ble_eq_true rfl) (Nat.le_of_ble_eq_true rfl) (st2 := [vi v8]) rfl ?_
      refine GW_if_eq (X := X_X12_passes) (pc := 200) 206 d_X12_passes_200 (by decide) (fun c => ?_) (fun c => ?_)
      · replace h := g_ip c h
        refine GW_aload_n (X := X_X12_passes) (pc := 206) d_X12_passes_206 rfl 0 rfl ?_
        replace h := g_bd h
        obtain ⟨v9, hv9, h⟩ := h
        refine GW_getR (X := X_X12_passes) (pc := 207) f_X12_39 d_X12_passes_207 hv9 (Or.inr ⟨_, ty_12_20⟩) ?_
        refine GW_bipush (X := X_X12_passes) (pc := 210) (v := 10) d_X12_passes_210 (by decide) ?_
        refine GW_iconst (X := X_X12_passes) (pc := 212) (v := 4) d_X12_passes_212 (by decide) ?_
        refine GW_iload_n (X := X_X12_passes) (pc := 213) d_X12_passes_213 rfl 2 rfl ?_
        refine GW_imul (X := X_X12_passes) (pc := 214) d_X12_passes_214 ?_
        refine GW_iadd (X := X_X12_passes) (pc := 215) d_X12_passes_215 ?_
        refine GW_iconst (X := X_X12_passes) (pc := 216) (v := 3) d_X12_passes_216 (by decide) ?_
        refine GW_iadd (X := X_X12_passes) (pc := 217) d_X12_passes_217 ?_
        refine GW_aload_n (X := X_X12_passes) (pc := 218) d_X12_passes_218 rfl 0 rfl ?_
        replace h := g_bd h
        obtain ⟨v10, hv10, h⟩ := h
        refine GW_getR (X := X_X12_passes) (pc := 219) f_X12_39 d_X12_passes_219 hv10 (Or.inr ⟨_, ty_12_20⟩) ?_
        refine GW_iconst (X := X_X12_passes) (pc := 222) (v := 4) d_X12_passes_222 (by decide) ?_
        replace h := g_bd h
        obtain ⟨v11, hv11, h⟩ := h
        refine GW_iald (X := X_X12_passes) (pc := 223) d_X12_passes_223 hv11 ?_
        replace h := g_bd h
        obtain ⟨M12, hM12, h⟩ := h
        refine GW_iast (X := X_X12_passes) (pc := 224) d_X12_passes_224 hM12 ?_
        refine GW_iinc (j := 1) (X := X_X12_passes) (pc := 225) d_X12_passes_225 rfl (congrArg (fun z => _ + z) (by decide : Int32.ofInt 1 = (1 : Int32))) (Nat.le_of_ble_eq_true rfl) (lv2 := [(1, vi (l1 + 1)), (0, vr (some i6)), (2, vi l2)]) rfl ?_
        refine GW_sub [1, 0, 2] rfl ?_
        exact T_X12_passes_b228 k176 r hk176 (some i6) (l1 + 1) l2 M12 h
      · replace h := g_ie c h
        refine GW_goto (X := X_X12_passes) (pc := 203) 228 d_X12_passes_203 (by decide) ?_
        exact T_X12_passes_b228 k176 r hk176 (some i6) l1 l2 M h
def F_X12_passes_L176 : Nat → Option Nat → Int32 → Int32 → gM → Option (Int32 × gM)
  | 0 => fun _ _ _ _ => none
  | n + 1 => F_X12_passes_b176 (F_X12_passes_L176 n)
theorem T_X12_passes_L176 (r : (Int32 × gM)) : ∀ (n : Nat) (l0 : Option Nat) (l1 : Int32) (l2 : Int32) (M : gM), F_X12_passes_L176 n l0 l1 l2 M = some r → GW 4 0 0 X_X12_passes 176 [(0, vr l0), (1, vi l1), (2, vi l2)] [] M (some (vi r.1), r.2) := by
  intro n
  induction n with
  | zero => intro l0 l1 l2 M h; exact g_no h
  | succ n ih => intro l0 l1 l2 M h; exact T_X12_passes_b176 (F_X12_passes_L176 n) r ih l0 l1 l2 M h
def F_X12_passes_b168 (k70 : Option Nat → Int32 → Int32 → gM → Option (Int32 × gM)) (l0 : Option Nat) (l1 : Int32) (l2 : Int32) (M : gM) : Option (Int32 × gM) :=
  k70 l0 l1 (l2 + 1) M
theorem T_X12_passes_b168 (k70 : Option Nat → Int32 → Int32 → gM → Option (Int32 × gM)) (r : (Int32 × gM)) (hk70 : ∀ (l0 : Option Nat) (l1 : Int32) (l2 : Int32) (M : gM), k70 l0 l1 l2 M = some r → GW 4 0 0 X_X12_passes 70 [(0, vr l0), (1, vi l1), (2, vi l2)] [] M (some (vi r.1), r.2)) (l0 : Option Nat) (l1 : Int32) (l2 : Int32) (M : gM) (h : F_X12_passes_b168 k70 l0 l1 l2 M = some r) : GW 4 0 0 X_X12_passes 168 [(0, vr l0), (1, vi l1), (2, vi l2)] [] M (some (vi r.1), r.2) := by
  delta F_X12_passes_b168 at h
  refine GW_iinc (j := 2) (X := X_X12_passes) (pc := 168) d_X12_passes_168 rfl (congrArg (fun z => _ + z) (by decide : Int32.ofInt 1 = (1 : Int32))) (Nat.le_of_ble_eq_true rfl) (lv2 := [(2, vi (l2 + 1)), (0, vr l0), (1, vi l1)]) rfl ?_
  refine GW_goto (X := X_X12_passes) (pc := 171) 70 d_X12_passes_171 (by decide) ?_
  refine GW_sub [1, 2, 0] rfl ?_
  exact hk70 l0 l1 (l2 + 1) M h
def F_X12_passes_b131 (k70 : Option Nat → Int32 → Int32 → gM → Option (Int32 × gM)) (k82 : Option Nat → Int32 → Int32 → Int32 → gM → Option (Int32 × gM)) (l0 : Option Nat) (l1 : Int32) (l2 : Int32) (l3 : Int32) (M : gM) : Option (Int32 × gM) :=
  k82 l0 l1 l2 (l3 + 1) M
theorem T_X12_passes_b131 (k70 : Option Nat → Int32 → Int32 → gM → Option (Int32 × gM)) (k82 : Option Nat → Int32 → Int32 → Int32 → gM → Option (Int32 × gM)) (r : (Int32 × gM)) (hk70 : ∀ (l0 : Option Nat) (l1 : Int32) (l2 : Int32) (M : gM), k70 l0 l1 l2 M = some r → GW 4 0 0 X_X12_passes 70 [(0, vr l0), (1, vi l1), (2, vi l2)] [] M (some (vi r.1), r.2)) (hk82 : ∀ (l0 : Option Nat) (l1 : Int32) (l2 : Int32) (l3 : Int32) (M : gM), k82 l0 l1 l2 l3 M = some r → GW 4 0 0 X_X12_passes 82 [(0, vr l0), (1, vi l1), (2, vi l2), (3, vi l3)] [] M (some (vi r.1), r.2)) (l0 : Option Nat) (l1 : Int32) (l2 : Int32) (l3 : Int32) (M : gM) (h : F_X12_passes_b131 k70 k82 l0 l1 l2 l3 M = some r) : GW 4 0 0 X_X12_passes 131 [(0, vr l0), (1, vi l1), (2, vi l2), (3, vi l3)] [] M (some (vi r.1), r.2) := by
  delta F_X12_passes_b131 at h
  refine GW_iinc (j := 3) (X := X_X12_passes) (pc := 131) d_X12_passes_131 rfl (congrArg (fun z => _ + z) (by decide : Int32.ofInt 1 = (1 : Int32))) (Nat.le_of_ble_eq_true rfl) (lv2 := [(3, vi (l3 + 1)), (0, vr l0), (1, vi l1), (2, vi l2)]) rfl ?_
  refine GW_goto (X := X_X12_passes) (pc := 134) 82 d_X12_passes_134 (by decide) ?_
  refine GW_sub [1, 2, 3, 0] rfl ?_
  exact hk82 l0 l1 l2 (l3 + 1) M h
def F_X12_passes_b82 (k70 : Option Nat → Int32 → Int32 → gM → Option (Int32 × gM)) (k82 : Option Nat → Int32 → Int32 → Int32 → gM → Option (Int32 × gM)) (l0 : Option Nat) (l1 : Int32) (l2 : Int32) (l3 : Int32) (M : gM) : Option (Int32 × gM) :=
  (gR 12 M l0 20).bind fun v1 => (aI 20 M v1 (1 : Int32)).bind fun v2 => if v2 ≤ l3 then ((gR 12 M l0 20).bind fun v3 => (aI 20 M v3 ((38 : Int32) + ((2 : Int32) * l2))).bind fun v4 => if (99 : Int32) ≤ v4 then (F_X12_passes_b168 k70 l0 l1 l2 M) else ((gR 12 M l0 20).bind fun v5 => (aI 20 M v5 ((38 : Int32) + ((2 : Int32) * l2))).bind fun v6 => (sI M v5 ((38 : Int32) + ((2 : Int32) * l2)) (v6 + (1 : Int32))).bind fun M7 => F_X12_passes_b168 k70 l0 l1 l2 M7)) else ((gO 12 M l0).bind fun i8 => (F_X12_knowsOf (some i8) l2 l3 M).bind fun v9 => if v9 = 0 then (F_X12_passes_b131 k70 k82 (some i8) l1 l2 l3 M) else ((F_X12_valueOf (some i8) l2 l3 M).bind fun v10 => (F_X12_strengthOf (some i8) l2 l3 M).bind fun v11 => (gR 12 M (some i8) 23).bind fun v12 => (aI 20 M v12 (((7 : Int32) * l2) + l3)).bind fun v13 => (F_X12_knowsNow (some i8) l2 l3 v10 (v11 - v13) M).bind fun M14 => F_X12_passes_b131 k70 k82 (some i8) l1 l2 l3 M14))
set_option maxHeartbeats 1000000 in
theorem T_X12_passes_b82 (k70 : Option Nat → Int32 → Int32 → gM → Option (Int32 × gM)) (k82 : Option Nat → Int32 → Int32 → Int32 → gM → Option (Int32 × gM)) (r : (Int32 × gM)) (hk70 : ∀ (l0 : Option Nat) (l1 : Int32) (l2 : Int32) (M : gM), k70 l0 l1 l2 M = some r → GW 4 0 0 X_X12_passes 70 [(0, vr l0), (1, vi l1), (2, vi l2)] [] M (some (vi r.1), r.2)) (hk82 : ∀ (l0 : Option Nat) (l1 : Int32) (l2 : Int32) (l3 : Int32) (M : gM), k82 l0 l1 l2 l3 M = some r → GW 4 0 0 X_X12_passes 82 [(0, vr l0), (1, vi l1), (2, vi l2), (3, vi l3)] [] M (some (vi r.1), r.2)) (l0 : Option Nat) (l1 : Int32) (l2 : Int32) (l3 : Int32) (M : gM) (h : F_X12_passes_b82 k70 k82 l0 l1 l2 l3 M = some r) : GW 4 0 0 X_X12_passes 82 [(0, vr l0), (1, vi l1), (2, vi l2), (3, vi l3)] [] M (some (vi r.1), r.2) := by
  delta F_X12_passes_b82 at h
  refine GW_iload_n (X := X_X12_passes) (pc := 82) d_X12_passes_82 rfl 3 rfl ?_
  refine GW_aload_n (X := X_X12_passes) (pc := 83) d_X12_passes_83 rfl 0 rfl ?_
  replace h := g_bd h
  obtain ⟨v1, hv1, h⟩ := h
  refine GW_getR (X := X_X12_passes) (pc := 84) f_X12_39 d_X12_passes_84 hv1 (Or.inr ⟨_, ty_12_20⟩) ?_
  refine GW_iconst (X := X_X12_passes) (pc := 87) (v := 1) d_X12_passes_87 (by decide) ?_
  replace h := g_bd h
  obtain ⟨v2, hv2, h⟩ := h
  refine GW_iald (X := X_X12_passes) (pc := 88) d_X12_passes_88 hv2 ?_
  refine GW_icmp_ge (X := X_X12_passes) (pc := 89) 137 d_X12_passes_89 (by decide) (fun c => ?_) (fun c => ?_)
  · replace h := g_ip c h
    refine GW_aload_n (X := X_X12_passes) (pc := 137) d_X12_passes_137 rfl 0 rfl ?_
    replace h := g_bd h
    obtain ⟨v3, hv3, h⟩ := h
    refine GW_getR (X := X_X12_passes) (pc := 138) f_X12_39 d_X12_passes_138 hv3 (Or.inr ⟨_, ty_12_20⟩) ?_
    refine GW_bipush (X := X_X12_passes) (pc := 141) (v := 38) d_X12_passes_141 (by decide) ?_
    refine GW_iconst (X := X_X12_passes) (pc := 143) (v := 2) d_X12_passes_143 (by decide) ?_
    refine GW_iload_n (X := X_X12_passes) (pc := 144) d_X12_passes_144 rfl 2 rfl ?_
    refine GW_imul (X := X_X12_passes) (pc := 145) d_X12_passes_145 ?_
    refine GW_iadd (X := X_X12_passes) (pc := 146) d_X12_passes_146 ?_
    replace h := g_bd h
    obtain ⟨v4, hv4, h⟩ := h
    refine GW_iald (X := X_X12_passes) (pc := 147) d_X12_passes_147 hv4 ?_
    refine GW_bipush (X := X_X12_passes) (pc := 148) (v := 99) d_X12_passes_148 (by decide) ?_
    refine GW_icmp_ge (X := X_X12_passes) (pc := 150) 168 d_X12_passes_150 (by decide) (fun c => ?_) (fun c => ?_)
    · replace h := g_ip c h
      refine GW_sub [0, 1, 2] rfl ?_
      exact T_X12_passes_b168 k70 r hk70 l0 l1 l2 M h
    · replace h := g_ie c h
      refine GW_aload_n (X := X_X12_passes) (pc := 153) d_X12_passes_153 rfl 0 rfl ?_
      replace h := g_bd h
      obtain ⟨v5, hv5, h⟩ := h
      refine GW_getR (X := X_X12_passes) (pc := 154) f_X12_39 d_X12_passes_154 hv5 (Or.inr ⟨_, ty_12_20⟩) ?_
      refine GW_bipush (X := X_X12_passes) (pc := 157) (v := 38) d_X12_passes_157 (by decide) ?_
      refine GW_iconst (X := X_X12_passes) (pc := 159) (v := 2) d_X12_passes_159 (by decide) ?_
      refine GW_iload_n (X := X_X12_passes) (pc := 160) d_X12_passes_160 rfl 2 rfl ?_
      refine GW_imul (X := X_X12_passes) (pc := 161) d_X12_passes_161 ?_
      refine GW_iadd (X := X_X12_passes) (pc := 162) d_X12_passes_162 ?_
      refine GW_dup2 (X := X_X12_passes) (pc := 163) d_X12_passes_163 rfl rfl ?_
      replace h := g_bd h
      obtain ⟨v6, hv6, h⟩ := h
      refine GW_iald (X := X_X12_passes) (pc := 164) d_X12_passes_164 hv6 ?_
      refine GW_iconst (X := X_X12_passes) (pc := 165) (v := 1) d_X12_passes_165 (by decide) ?_
      refine GW_iadd (X := X_X12_passes) (pc := 166) d_X12_passes_166 ?_
      replace h := g_bd h
      obtain ⟨M7, hM7, h⟩ := h
      refine GW_iast (X := X_X12_passes) (pc := 167) d_X12_passes_167 hM7 ?_
      refine GW_sub [0, 1, 2] rfl ?_
      exact T_X12_passes_b168 k70 r hk70 l0 l1 l2 M7 h
  · replace h := g_ie c h
    refine GW_aload_n (X := X_X12_passes) (pc := 92) d_X12_passes_92 rfl 0 rfl ?_
    refine GW_iload_n (X := X_X12_passes) (pc := 93) d_X12_passes_93 rfl 2 rfl ?_
    refine GW_iload_n (X := X_X12_passes) (pc := 94) d_X12_passes_94 rfl 3 rfl ?_
    replace h := g_bd h
    obtain ⟨i8, hi8, h⟩ := h
    obtain ⟨rfl, ki8⟩ := g_gO hi8
    replace h := g_bd h
    obtain ⟨v9, hv9, h⟩ := h
    refine GW_callV (X := X_X12_passes) (pc := 95) (bc0 := 0) (bs0 := 0) (r := some (vi v9)) (M2 := M) (c0 := 12) (T_X12_knowsOf (some i8) l2 l3 M v9 hv9) (Nat.le_of_ble_eq_true rfl) (Nat.le_of_ble_eq_true rfl) rfl g_cok12 ki8 yc_X12_knowsOf ⟨m_1432, m_1434, m_80, m_127, m_1435⟩ d_X12_passes_95 rfl (st := []) rfl (Nat.le_of_ble_eq_true rfl) (Nat.le_of_ble_eq_true rfl) (Nat.le_of_ble_eq_true rfl) (st2 := [vi v9]) rfl ?_
    refine GW_if_eq (X := X_X12_passes) (pc := 98) 131 d_X12_passes_98 (by decide) (fun c => ?_) (fun c => ?_)
    · replace h := g_ip c h
      exact T_X12_passes_b131 k70 k82 r hk70 hk82 (some i8) l1 l2 l3 M h
    · replace h := g_ie c h
      refine GW_aload_n (X := X_X12_passes) (pc := 101) d_X12_passes_101 rfl 0 rfl ?_
      refine GW_iload_n (X := X_X12_passes) (pc := 102) d_X12_passes_102 rfl 2 rfl ?_
      refine GW_iload_n (X := X_X12_passes) (pc := 103) d_X12_passes_103 rfl 3 rfl ?_
      refine GW_aload_n (X := X_X12_passes) (pc := 104) d_X12_passes_104 rfl 0 rfl ?_
      refine GW_iload_n (X := X_X12_passes) (pc := 105) d_X12_passes_105 rfl 2 rfl ?_
      refine GW_iload_n (X := X_X12_passes) (pc := 106) d_X12_passes_106 rfl 3 rfl ?_
      replace h := g_bd h
      obtain ⟨v10, hv10, h⟩ := h
      refine GW_callV (X := X_X12_passes) (pc := 107) (bc0 := 0) (bs0 := 0) (r := some (vi v10)) (M2 := M) (c0 := 12) (T_X12_valueOf (some i8) l2 l3 M v10 hv10) (Nat.le_of_ble_eq_true rfl) (Nat.le_of_ble_eq_true rfl) rfl g_cok12 ki8 yc_X12_valueOf ⟨m_1436, m_1438, m_81, m_127, m_1439⟩ d_X12_passes_107 rfl (st := [vi l3, vi l2, vr (some i8)]) rfl (Nat.le_of_ble_eq_true rfl) (Nat.le_of_ble_eq_true rfl) (Nat.le_of_ble_eq_true rfl) (st2 := [vi v10, vi l3, vi l2, vr (some i8)]) rfl ?_
      refine GW_aload_n (X := X_X12_passes) (pc := 110) d_X12_passes_110 rfl 0 rfl ?_
      refine GW_iload_n (X := X_X12_passes) (pc := 111) d_X12_passes_111 rfl 2 rfl ?_
      refine GW_iload_n (X := X_X12_passes) (pc := 112) d_X12_passes_112 rfl 3 rfl ?_
      replace h := g_bd h
      obtain ⟨v11, hv11, h⟩ := h
      refine GW_callV (X := X_X12_passes) (pc := 113) (bc0 := 0) (bs0 := 0) (r := some (vi v11)) (M2 := M) (c0 := 12) (T_X12_strengthOf (some i8) l2 l3 M v11 hv11) (Nat.le_of_ble_eq_true rfl) (Nat.le_of_ble_eq_true rfl) rfl g_cok12 ki8 yc_X12_strengthOf ⟨m_1493, m_1495, m_91, m_127, m_1496⟩ d_X12_passes_113 rfl (st := [vi v10, vi l3, vi l2, vr (some i8)]) rfl (Nat.le_of_ble_eq_true rfl) (Nat.le_of_ble_eq_true rfl) (Nat.le_of_ble_eq_true rfl) (st2 := [vi v11, vi v10, vi l3, vi l2, vr (some i8)]) rfl ?_
      refine GW_aload_n (X := X_X12_passes) (pc := 116) d_X12_passes_116 rfl 0 rfl ?_
      replace h := g_bd h
      obtain ⟨v12, hv12, h⟩ := h
      refine GW_getR (X := X_X12_passes) (pc := 117) f_X12_46 d_X12_passes_117 hv12 (Or.inr ⟨_, ty_12_23⟩) ?_
      refine GW_bipush (X := X_X12_passes) (pc := 120) (v := 7) d_X12_passes_120 (by decide) ?_
      refine GW_iload_n (X := X_X12_passes) (pc := 122) d_X12_passes_122 rfl 2 rfl ?_
      refine GW_imul (X := X_X12_passes) (pc := 123) d_X12_passes_123 ?_
      refine GW_iload_n (X := X_X12_passes) (pc := 124) d_X12_passes_124 rfl 3 rfl ?_
      refine GW_iadd (X := X_X12_passes) (pc := 125) d_X12_passes_125 ?_
      replace h := g_bd h
      obtain ⟨v13, hv13, h⟩ := h
      refine GW_iald (X := X_X12_passes) (pc := 126) d_X12_passes_126 hv13 ?_
      refine GW_isub (X := X_X12_passes) (pc := 127) d_X12_passes_127 ?_
      replace h := g_bd h
      obtain ⟨M14, hM14, h⟩ := h
      refine GW_callV (X := X_X12_passes) (pc := 128) (bc0 := 0) (bs0 := 0) (r := none) (M2 := M14) (c0 := 12) (T_X12_knowsNow (some i8) l2 l3 v10 (v11 - v13) M M14 hM14) (Nat.le_of_ble_eq_true rfl) (Nat.le_of_ble_eq_true rfl) rfl g_cok12 ki8 yc_X12_knowsNow ⟨m_1517, m_1519, m_96, m_127, m_1520⟩ d_X12_passes_128 rfl (st := []) rfl (Nat.le_of_ble_eq_true rfl) (Nat.le_of_ble_eq_true rfl) (Nat.le_of_ble_eq_true rfl) (st2 := []) rfl ?_
      exact T_X12_passes_b131 k70 k82 r hk70 hk82 (some i8) l1 l2 l3 M14 h
def F_X12_passes_L82 (k70 : Option Nat → Int32 → Int32 → gM → Option (Int32 × gM)) : Nat → Option Nat → Int32 → Int32 → Int32 → gM → Option (Int32 × gM)
  | 0 => fun _ _ _ _ _ => none
  | n + 1 => F_X12_passes_b82 k70 (F_X12_passes_L82 k70 n)
theorem T_X12_passes_L82 (k70 : Option Nat → Int32 → Int32 → gM → Option (Int32 × gM)) (r : (Int32 × gM)) (hk70 : ∀ (l0 : Option Nat) (l1 : Int32) (l2 : Int32) (M : gM), k70 l0 l1 l2 M = some r → GW 4 0 0 X_X12_passes 70 [(0, vr l0), (1, vi l1), (2, vi l2)] [] M (some (vi r.1), r.2)) : ∀ (n : Nat) (l0 : Option Nat) (l1 : Int32) (l2 : Int32) (l3 : Int32) (M : gM), F_X12_passes_L82 k70 n l0 l1 l2 l3 M = some r → GW 4 0 0 X_X12_passes 82 [(0, vr l0), (1, vi l1), (2, vi l2), (3, vi l3)] [] M (some (vi r.1), r.2) := by
  intro n
  induction n with
  | zero => intro l0 l1 l2 l3 M h; exact g_no h
  | succ n ih => intro l0 l1 l2 l3 M h; exact T_X12_passes_b82 k70 (F_X12_passes_L82 k70 n) r hk70 ih l0 l1 l2 l3 M h
def F_X12_passes_b70 (k70 : Option Nat → Int32 → Int32 → gM → Option (Int32 × gM)) (l0 : Option Nat) (l1 : Int32) (l2 : Int32) (M : gM) : Option (Int32 × gM) :=
  (gR 12 M l0 20).bind fun v1 => (aI 20 M v1 (2 : Int32)).bind fun v2 => if v2 ≤ l2 then (F_X12_passes_L176 g_fuel l0 l1 (0 : Int32) M) else (F_X12_passes_L82 k70 g_fuel l0 l1 l2 (0 : Int32) M)
theorem T_X12_passes_b70 (k70 : Option Nat → Int32 → Int32 → gM → Option (Int32 × gM)) (r : (Int32 × gM)) (hk70 : ∀ (l0 : Option Nat) (l1 : Int32) (l2 : Int32) (M : gM), k70 l0 l1 l2 M = some r → GW 4 0 0 X_X12_passes 70 [(0, vr l0), (1, vi l1), (2, vi l2)] [] M (some (vi r.1), r.2)) (l0 : Option Nat) (l1 : Int32) (l2 : Int32) (M : gM) (h : F_X12_passes_b70 k70 l0 l1 l2 M = some r) : GW 4 0 0 X_X12_passes 70 [(0, vr l0), (1, vi l1), (2, vi l2)] [] M (some (vi r.1), r.2) := by
  delta F_X12_passes_b70 at h
  refine GW_iload_n (X := X_X12_passes) (pc := 70) d_X12_passes_70 rfl 2 rfl ?_
  refine GW_aload_n (X := X_X12_passes) (pc := 71) d_X12_passes_71 rfl 0 rfl ?_
  replace h := g_bd h
  obtain ⟨v1, hv1, h⟩ := h
  refine GW_getR (X := X_X12_passes) (pc := 72) f_X12_39 d_X12_passes_72 hv1 (Or.inr ⟨_, ty_12_20⟩) ?_
  refine GW_iconst (X := X_X12_passes) (pc := 75) (v := 2) d_X12_passes_75 (by decide) ?_
  replace h := g_bd h
  obtain ⟨v2, hv2, h⟩ := h
  refine GW_iald (X := X_X12_passes) (pc := 76) d_X12_passes_76 hv2 ?_
  refine GW_icmp_ge (X := X_X12_passes) (pc := 77) 174 d_X12_passes_77 (by decide) (fun c => ?_) (fun c => ?_)
  · replace h := g_ip c h
    refine GW_iconst (X := X_X12_passes) (pc := 174) (v := 0) d_X12_passes_174 (by decide) ?_
    refine GW_istore_n (X := X_X12_passes) (pc := 175) d_X12_passes_175 rfl (Nat.le_of_ble_eq_true rfl) (lv2 := [(2, vi (0 : Int32)), (0, vr l0), (1, vi l1)]) rfl ?_
    refine GW_sub [1, 2, 0] rfl ?_
    exact T_X12_passes_L176 r g_fuel l0 l1 (0 : Int32) M h
  · replace h := g_ie c h
    refine GW_iconst (X := X_X12_passes) (pc := 80) (v := 0) d_X12_passes_80 (by decide) ?_
    refine GW_istore_n (X := X_X12_passes) (pc := 81) d_X12_passes_81 rfl (Nat.le_of_ble_eq_true rfl) (lv2 := [(3, vi (0 : Int32)), (0, vr l0), (1, vi l1), (2, vi l2)]) rfl ?_
    refine GW_sub [1, 2, 3, 0] rfl ?_
    exact T_X12_passes_L82 k70 r hk70 g_fuel l0 l1 l2 (0 : Int32) M h
def F_X12_passes_L70 : Nat → Option Nat → Int32 → Int32 → gM → Option (Int32 × gM)
  | 0 => fun _ _ _ _ => none
  | n + 1 => F_X12_passes_b70 (F_X12_passes_L70 n)
theorem T_X12_passes_L70 (r : (Int32 × gM)) : ∀ (n : Nat) (l0 : Option Nat) (l1 : Int32) (l2 : Int32) (M : gM), F_X12_passes_L70 n l0 l1 l2 M = some r → GW 4 0 0 X_X12_passes 70 [(0, vr l0), (1, vi l1), (2, vi l2)] [] M (some (vi r.1), r.2) := by
  intro n
  induction n with
  | zero => intro l0 l1 l2 M h; exact g_no h
  | succ n ih => intro l0 l1 l2 M h; exact T_X12_passes_b70 (F_X12_passes_L70 n) r ih l0 l1 l2 M h
def F_X12_passes_b55 (k4 : Option Nat → Int32 → Int32 → gM → Option (Int32 × gM)) (k16 : Option Nat → Int32 → Int32 → Int32 → gM → Option (Int32 × gM)) (l0 : Option Nat) (l1 : Int32) (l2 : Int32) (l3 : Int32) (s0 : Option Nat) (s1 : Int32) (s2 : Int32) (M : gM) : Option (Int32 × gM) :=
  (sI M s0 s1 s2).bind fun M1 => k16 l0 l1 l2 (l3 + 1) M1
theorem T_X12_passes_b55 (k4 : Option Nat → Int32 → Int32 → gM → Option (Int32 × gM)) (k16 : Option Nat → Int32 → Int32 → Int32 → gM → Option (Int32 × gM)) (r : (Int32 × gM)) (hk4 : ∀ (l0 : Option Nat) (l1 : Int32) (l2 : Int32) (M : gM), k4 l0 l1 l2 M = some r → GW 4 0 0 X_X12_passes 4 [(0, vr l0), (1, vi l1), (2, vi l2)] [] M (some (vi r.1), r.2)) (hk16 : ∀ (l0 : Option Nat) (l1 : Int32) (l2 : Int32) (l3 : Int32) (M : gM), k16 l0 l1 l2 l3 M = some r → GW 4 0 0 X_X12_passes 16 [(0, vr l0), (1, vi l1), (2, vi l2), (3, vi l3)] [] M (some (vi r.1), r.2)) (l0 : Option Nat) (l1 : Int32) (l2 : Int32) (l3 : Int32) (s0 : Option Nat) (s1 : Int32) (s2 : Int32) (M : gM) (h : F_X12_passes_b55 k4 k16 l0 l1 l2 l3 s0 s1 s2 M = some r) : GW 4 0 0 X_X12_passes 55 [(0, vr l0), (1, vi l1), (2, vi l2), (3, vi l3)] [vi s2, vi s1, vr s0] M (some (vi r.1), r.2) := by
  delta F_X12_passes_b55 at h
  replace h := g_bd h
  obtain ⟨M1, hM1, h⟩ := h
  refine GW_iast (X := X_X12_passes) (pc := 55) d_X12_passes_55 hM1 ?_
  refine GW_iinc (j := 3) (X := X_X12_passes) (pc := 56) d_X12_passes_56 rfl (congrArg (fun z => _ + z) (by decide : Int32.ofInt 1 = (1 : Int32))) (Nat.le_of_ble_eq_true rfl) (lv2 := [(3, vi (l3 + 1)), (0, vr l0), (1, vi l1), (2, vi l2)]) rfl ?_
  refine GW_goto (X := X_X12_passes) (pc := 59) 16 d_X12_passes_59 (by decide) ?_
  refine GW_sub [1, 2, 3, 0] rfl ?_
  exact hk16 l0 l1 l2 (l3 + 1) M1 h
def F_X12_passes_b16 (k4 : Option Nat → Int32 → Int32 → gM → Option (Int32 × gM)) (k16 : Option Nat → Int32 → Int32 → Int32 → gM → Option (Int32 × gM)) (l0 : Option Nat) (l1 : Int32) (l2 : Int32) (l3 : Int32) (M : gM) : Option (Int32 × gM) :=
  (gR 12 M l0 20).bind fun v1 => (aI 20 M v1 (1 : Int32)).bind fun v2 => if v2 ≤ l3 then (k4 l0 l1 (l2 + 1) M) else ((gR 12 M l0 23).bind fun v3 => (gO 12 M l0).bind fun i4 => (F_X12_knowsOf (some i4) l2 l3 M).bind fun v5 => if v5 = 0 then (F_X12_passes_b55 k4 k16 (some i4) l1 l2 l3 v3 (((7 : Int32) * l2) + l3) (0 : Int32) M) else ((F_X12_lossOf (some i4) l2 l3 M).bind fun (v6, M7) => F_X12_passes_b55 k4 k16 (some i4) l1 l2 l3 v3 (((7 : Int32) * l2) + l3) v6 M7))
set_option maxHeartbeats 1000000 in
theorem T_X12_passes_b16 (k4 : Option Nat → Int32 → Int32 → gM → Option (Int32 × gM)) (k16 : Option Nat → Int32 → Int32 → Int32 → gM → Option (Int32 × gM)) (r : (Int32 × gM)) (hk4 : ∀ (l0 : Option Nat) (l1 : Int32) (l2 : Int32) (M : gM), k4 l0 l1 l2 M = some r → GW 4 0 0 X_X12_passes 4 [(0, vr l0), (1, vi l1), (2, vi l2)] [] M (some (vi r.1), r.2)) (hk16 : ∀ (l0 : Option Nat) (l1 : Int32) (l2 : Int32) (l3 : Int32) (M : gM), k16 l0 l1 l2 l3 M = some r → GW 4 0 0 X_X12_passes 16 [(0, vr l0), (1, vi l1), (2, vi l2), (3, vi l3)] [] M (some (vi r.1), r.2)) (l0 : Option Nat) (l1 : Int32) (l2 : Int32) (l3 : Int32) (M : gM) (h : F_X12_passes_b16 k4 k16 l0 l1 l2 l3 M = some r) : GW 4 0 0 X_X12_passes 16 [(0, vr l0), (1, vi l1), (2, vi l2), (3, vi l3)] [] M (some (vi r.1), r.2) := by
  delta F_X12_passes_b16 at h
  refine GW_iload_n (X := X_X12_passes) (pc := 16) d_X12_passes_16 rfl 3 rfl ?_
  refine GW_aload_n (X := X_X12_passes) (pc := 17) d_X12_passes_17 rfl 0 rfl ?_
  replace h := g_bd h
  obtain ⟨v1, hv1, h⟩ := h
  refine GW_getR (X := X_X12_passes) (pc := 18) f_X12_39 d_X12_passes_18 hv1 (Or.inr ⟨_, ty_12_20⟩) ?_
  refine GW_iconst (X := X_X12_passes) (pc := 21) (v := 1) d_X12_passes_21 (by decide) ?_
  replace h := g_bd h
  obtain ⟨v2, hv2, h⟩ := h
  refine GW_iald (X := X_X12_passes) (pc := 22) d_X12_passes_22 hv2 ?_
  refine GW_icmp_ge (X := X_X12_passes) (pc := 23) 62 d_X12_passes_23 (by decide) (fun c => ?_) (fun c => ?_)
  · replace h := g_ip c h
    refine GW_iinc (j := 2) (X := X_X12_passes) (pc := 62) d_X12_passes_62 rfl (congrArg (fun z => _ + z) (by decide : Int32.ofInt 1 = (1 : Int32))) (Nat.le_of_ble_eq_true rfl) (lv2 := [(2, vi (l2 + 1)), (0, vr l0), (1, vi l1), (3, vi l3)]) rfl ?_
    refine GW_goto (X := X_X12_passes) (pc := 65) 4 d_X12_passes_65 (by decide) ?_
    refine GW_sub [1, 2, 0] rfl ?_
    exact hk4 l0 l1 (l2 + 1) M h
  · replace h := g_ie c h
    refine GW_aload_n (X := X_X12_passes) (pc := 26) d_X12_passes_26 rfl 0 rfl ?_
    replace h := g_bd h
    obtain ⟨v3, hv3, h⟩ := h
    refine GW_getR (X := X_X12_passes) (pc := 27) f_X12_46 d_X12_passes_27 hv3 (Or.inr ⟨_, ty_12_23⟩) ?_
    refine GW_bipush (X := X_X12_passes) (pc := 30) (v := 7) d_X12_passes_30 (by decide) ?_
    refine GW_iload_n (X := X_X12_passes) (pc := 32) d_X12_passes_32 rfl 2 rfl ?_
    refine GW_imul (X := X_X12_passes) (pc := 33) d_X12_passes_33 ?_
    refine GW_iload_n (X := X_X12_passes) (pc := 34) d_X12_passes_34 rfl 3 rfl ?_
    refine GW_iadd (X := X_X12_passes) (pc := 35) d_X12_passes_35 ?_
    refine GW_aload_n (X := X_X12_passes) (pc := 36) d_X12_passes_36 rfl 0 rfl ?_
    refine GW_iload_n (X := X_X12_passes) (pc := 37) d_X12_passes_37 rfl 2 rfl ?_
    refine GW_iload_n (X := X_X12_passes) (pc := 38) d_X12_passes_38 rfl 3 rfl ?_
    replace h := g_bd h
    obtain ⟨i4, hi4, h⟩ := h
    obtain ⟨rfl, ki4⟩ := g_gO hi4
    replace h := g_bd h
    obtain ⟨v5, hv5, h⟩ := h
    refine GW_callV (X := X_X12_passes) (pc := 39) (bc0 := 0) (bs0 := 0) (r := some (vi v5)) (M2 := M) (c0 := 12) (T_X12_knowsOf (some i4) l2 l3 M v5 hv5) (Nat.le_of_ble_eq_true rfl) (Nat.le_of_ble_eq_true rfl) rfl g_cok12 ki4 yc_X12_knowsOf ⟨m_1432, m_1434, m_80, m_127, m_1435⟩ d_X12_passes_39 rfl (st := [vi (((7 : Int32) * l2) + l3), vr v3]) rfl (Nat.le_of_ble_eq_true rfl) (Nat.le_of_ble_eq_true rfl) (Nat.le_of_ble_eq_true rfl) (st2 := [vi v5, vi (((7 : Int32) * l2) + l3), vr v3]) rfl ?_
    refine GW_if_eq (X := X_X12_passes) (pc := 42) 54 d_X12_passes_42 (by decide) (fun c => ?_) (fun c => ?_)
    · replace h := g_ip c h
      refine GW_iconst (X := X_X12_passes) (pc := 54) (v := 0) d_X12_passes_54 (by decide) ?_
      exact T_X12_passes_b55 k4 k16 r hk4 hk16 (some i4) l1 l2 l3 v3 (((7 : Int32) * l2) + l3) (0 : Int32) M h
    · replace h := g_ie c h
      refine GW_aload_n (X := X_X12_passes) (pc := 45) d_X12_passes_45 rfl 0 rfl ?_
      refine GW_iload_n (X := X_X12_passes) (pc := 46) d_X12_passes_46 rfl 2 rfl ?_
      refine GW_iload_n (X := X_X12_passes) (pc := 47) d_X12_passes_47 rfl 3 rfl ?_
      replace h := g_bd h
      obtain ⟨⟨v6, M7⟩, hv6, h⟩ := h
      dsimp only at h
      refine GW_callV (X := X_X12_passes) (pc := 48) (bc0 := 0) (bs0 := 0) (r := some (vi v6)) (M2 := M7) (c0 := 12) (T_X12_lossOf (some i4) l2 l3 M (v6, M7) hv6) (Nat.le_of_ble_eq_true rfl) (Nat.le_of_ble_eq_true rfl) rfl g_cok12 ki4 yc_X12_lossOf ⟨m_1481, m_1483, m_88, m_127, m_1484⟩ d_X12_passes_48 rfl (st := [vi (((7 : Int32) * l2) + l3), vr v3]) rfl (Nat.le_of_ble_eq_true rfl) (Nat.le_of_ble_eq_true rfl) (Nat.le_of_ble_eq_true rfl) (st2 := [vi v6, vi (((7 : Int32) * l2) + l3), vr v3]) rfl ?_
      refine GW_goto (X := X_X12_passes) (pc := 51) 55 d_X12_passes_51 (by decide) ?_
      exact T_X12_passes_b55 k4 k16 r hk4 hk16 (some i4) l1 l2 l3 v3 (((7 : Int32) * l2) + l3) v6 M7 h
def F_X12_passes_L16 (k4 : Option Nat → Int32 → Int32 → gM → Option (Int32 × gM)) : Nat → Option Nat → Int32 → Int32 → Int32 → gM → Option (Int32 × gM)
  | 0 => fun _ _ _ _ _ => none
  | n + 1 => F_X12_passes_b16 k4 (F_X12_passes_L16 k4 n)
theorem T_X12_passes_L16 (k4 : Option Nat → Int32 → Int32 → gM → Option (Int32 × gM)) (r : (Int32 × gM)) (hk4 : ∀ (l0 : Option Nat) (l1 : Int32) (l2 : Int32) (M : gM), k4 l0 l1 l2 M = some r → GW 4 0 0 X_X12_passes 4 [(0, vr l0), (1, vi l1), (2, vi l2)] [] M (some (vi r.1), r.2)) : ∀ (n : Nat) (l0 : Option Nat) (l1 : Int32) (l2 : Int32) (l3 : Int32) (M : gM), F_X12_passes_L16 k4 n l0 l1 l2 l3 M = some r → GW 4 0 0 X_X12_passes 16 [(0, vr l0), (1, vi l1), (2, vi l2), (3, vi l3)] [] M (some (vi r.1), r.2) := by
  intro n
  induction n with
  | zero => intro l0 l1 l2 l3 M h; exact g_no h
  | succ n ih => intro l0 l1 l2 l3 M h; exact T_X12_passes_b16 k4 (F_X12_passes_L16 k4 n) r hk4 ih l0 l1 l2 l3 M h
def F_X12_passes_b4 (k4 : Option Nat → Int32 → Int32 → gM → Option (Int32 × gM)) (l0 : Option Nat) (l1 : Int32) (l2 : Int32) (M : gM) : Option (Int32 × gM) :=
  (gR 12 M l0 20).bind fun v1 => (aI 20 M v1 (2 : Int32)).bind fun v2 => if v2 ≤ l2 then (F_X12_passes_L70 g_fuel l0 l1 (0 : Int32) M) else (F_X12_passes_L16 k4 g_fuel l0 l1 l2 (0 : Int32) M)
theorem T_X12_passes_b4 (k4 : Option Nat → Int32 → Int32 → gM → Option (Int32 × gM)) (r : (Int32 × gM)) (hk4 : ∀ (l0 : Option Nat) (l1 : Int32) (l2 : Int32) (M : gM), k4 l0 l1 l2 M = some r → GW 4 0 0 X_X12_passes 4 [(0, vr l0), (1, vi l1), (2, vi l2)] [] M (some (vi r.1), r.2)) (l0 : Option Nat) (l1 : Int32) (l2 : Int32) (M : gM) (h : F_X12_passes_b4 k4 l0 l1 l2 M = some r) : GW 4 0 0 X_X12_passes 4 [(0, vr l0), (1, vi l1), (2, vi l2)] [] M (some (vi r.1), r.2) := by
  delta F_X12_passes_b4 at h
  refine GW_iload_n (X := X_X12_passes) (pc := 4) d_X12_passes_4 rfl 2 rfl ?_
  refine GW_aload_n (X := X_X12_passes) (pc := 5) d_X12_passes_5 rfl 0 rfl ?_
  replace h := g_bd h
  obtain ⟨v1, hv1, h⟩ := h
  refine GW_getR (X := X_X12_passes) (pc := 6) f_X12_39 d_X12_passes_6 hv1 (Or.inr ⟨_, ty_12_20⟩) ?_
  refine GW_iconst (X := X_X12_passes) (pc := 9) (v := 2) d_X12_passes_9 (by decide) ?_
  replace h := g_bd h
  obtain ⟨v2, hv2, h⟩ := h
  refine GW_iald (X := X_X12_passes) (pc := 10) d_X12_passes_10 hv2 ?_
  refine GW_icmp_ge (X := X_X12_passes) (pc := 11) 68 d_X12_passes_11 (by decide) (fun c => ?_) (fun c => ?_)
  · replace h := g_ip c h
    refine GW_iconst (X := X_X12_passes) (pc := 68) (v := 0) d_X12_passes_68 (by decide) ?_
    refine GW_istore_n (X := X_X12_passes) (pc := 69) d_X12_passes_69 rfl (Nat.le_of_ble_eq_true rfl) (lv2 := [(2, vi (0 : Int32)), (0, vr l0), (1, vi l1)]) rfl ?_
    refine GW_sub [1, 2, 0] rfl ?_
    exact T_X12_passes_L70 r g_fuel l0 l1 (0 : Int32) M h
  · replace h := g_ie c h
    refine GW_iconst (X := X_X12_passes) (pc := 14) (v := 0) d_X12_passes_14 (by decide) ?_
    refine GW_istore_n (X := X_X12_passes) (pc := 15) d_X12_passes_15 rfl (Nat.le_of_ble_eq_true rfl) (lv2 := [(3, vi (0 : Int32)), (0, vr l0), (1, vi l1), (2, vi l2)]) rfl ?_
    refine GW_sub [1, 2, 3, 0] rfl ?_
    exact T_X12_passes_L16 k4 r hk4 g_fuel l0 l1 l2 (0 : Int32) M h
def F_X12_passes_L4 : Nat → Option Nat → Int32 → Int32 → gM → Option (Int32 × gM)
  | 0 => fun _ _ _ _ => none
  | n + 1 => F_X12_passes_b4 (F_X12_passes_L4 n)
theorem T_X12_passes_L4 (r : (Int32 × gM)) : ∀ (n : Nat) (l0 : Option Nat) (l1 : Int32) (l2 : Int32) (M : gM), F_X12_passes_L4 n l0 l1 l2 M = some r → GW 4 0 0 X_X12_passes 4 [(0, vr l0), (1, vi l1), (2, vi l2)] [] M (some (vi r.1), r.2) := by
  intro n
  induction n with
  | zero => intro l0 l1 l2 M h; exact g_no h
  | succ n ih => intro l0 l1 l2 M h; exact T_X12_passes_b4 (F_X12_passes_L4 n) r ih l0 l1 l2 M h
def F_X12_passes_b0 (l0 : Option Nat) (M : gM) : Option (Int32 × gM) :=
  F_X12_passes_L4 g_fuel l0 (0 : Int32) (0 : Int32) M
theorem T_X12_passes_b0 (r : (Int32 × gM)) (l0 : Option Nat) (M : gM) (h : F_X12_passes_b0 l0 M = some r) : GW 4 0 0 X_X12_passes 0 [(0, vr l0)] [] M (some (vi r.1), r.2) := by
  delta F_X12_passes_b0 at h
  refine GW_iconst (X := X_X12_passes) (pc := 0) (v := 0) d_X12_passes_0 (by decide) ?_
  refine GW_istore_n (X := X_X12_passes) (pc := 1) d_X12_passes_1 rfl (Nat.le_of_ble_eq_true rfl) (lv2 := [(1, vi (0 : Int32)), (0, vr l0)]) rfl ?_
  refine GW_iconst (X := X_X12_passes) (pc := 2) (v := 0) d_X12_passes_2 (by decide) ?_
  refine GW_istore_n (X := X_X12_passes) (pc := 3) d_X12_passes_3 rfl (Nat.le_of_ble_eq_true rfl) (lv2 := [(2, vi (0 : Int32)), (1, vi (0 : Int32)), (0, vr l0)]) rfl ?_
  refine GW_sub [2, 1, 0] rfl ?_
  exact T_X12_passes_L4 r g_fuel l0 (0 : Int32) (0 : Int32) M h
def F_X12_passes (l0 : Option Nat) (M : gM) : Option (Int32 × gM) := F_X12_passes_b0 l0 M
theorem T_X12_passes (l0 : Option Nat) (M : gM) (r : (Int32 × gM)) (h : F_X12_passes l0 M = some r) : g_Met 4 0 0 yX12_passes X_X12_passes [vr l0] M (some (vi r.1), r.2) :=
  g_Met_of pn_RX12 rfl (Nat.le_of_ble_eq_true rfl) (fun h => by cases h) (GW_sub [0] rfl (T_X12_passes_b0 r l0 M h))
