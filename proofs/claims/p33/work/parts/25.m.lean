/-! ForgetHeirsModel.draw(I)I -/
theorem d_X12_draw_0 : decode cX12_draw 0 = .ok (.aload_n 0, 1) := by decide +kernel
theorem d_X12_draw_1 : decode cX12_draw 1 = .ok (.aload_n 0, 1) := by decide +kernel
theorem d_X12_draw_2 : decode cX12_draw 2 = .ok (.getfield 430, 3) := by decide +kernel
theorem d_X12_draw_5 : decode cX12_draw 5 = .ok (.ldc2_w 434, 3) := by decide +kernel
theorem d_X12_draw_8 : decode cX12_draw 8 = .ok (.lmul, 1) := by decide +kernel
theorem d_X12_draw_9 : decode cX12_draw 9 = .ok (.ldc2_w 436, 3) := by decide +kernel
theorem d_X12_draw_12 : decode cX12_draw 12 = .ok (.ladd, 1) := by decide +kernel
theorem d_X12_draw_13 : decode cX12_draw 13 = .ok (.ldc2_w 438, 3) := by decide +kernel
theorem d_X12_draw_16 : decode cX12_draw 16 = .ok (.lrem, 1) := by decide +kernel
theorem d_X12_draw_17 : decode cX12_draw 17 = .ok (.putfield 430, 3) := by decide +kernel
theorem d_X12_draw_20 : decode cX12_draw 20 = .ok (.aload_n 0, 1) := by decide +kernel
theorem d_X12_draw_21 : decode cX12_draw 21 = .ok (.getfield 430, 3) := by decide +kernel
theorem d_X12_draw_24 : decode cX12_draw 24 = .ok (.ldc2_w 440, 3) := by decide +kernel
theorem d_X12_draw_27 : decode cX12_draw 27 = .ok (.ldiv, 1) := by decide +kernel
theorem d_X12_draw_28 : decode cX12_draw 28 = .ok (.iload_n 1, 1) := by decide +kernel
theorem d_X12_draw_29 : decode cX12_draw 29 = .ok (.i2l, 1) := by decide +kernel
theorem d_X12_draw_30 : decode cX12_draw 30 = .ok (.lrem, 1) := by decide +kernel
theorem d_X12_draw_31 : decode cX12_draw 31 = .ok (.l2i, 1) := by decide +kernel
theorem d_X12_draw_32 : decode cX12_draw 32 = .ok (.ireturn, 1) := by decide +kernel
abbrev X_X12_draw : gX := (RX12, cX12_draw, 2, (some .int), false)
def F_X12_draw_b0 (l0 : Option Nat) (l1 : Int32) (M : gM) : Option (Int32 × gM) :=
  (gL 12 M l0 32).bind fun v1 => (pL 12 M l0 32 (((v1 * (1103515245 : Int64)) + (12345 : Int64)) - ((v1 * (1103515245 : Int64)) + (12345 : Int64)) / (2147483648 : Int64) * (2147483648 : Int64))).bind fun M2 => (gL 12 M2 l0 32).bind fun v3 => if (l1).toInt64 = 0 then none else some ((((v3 / (65536 : Int64)) - (v3 / (65536 : Int64)) / (l1).toInt64 * (l1).toInt64)).toInt32, M2)
theorem T_X12_draw_b0 (r : (Int32 × gM)) (l0 : Option Nat) (l1 : Int32) (M : gM) (h : F_X12_draw_b0 l0 l1 M = some r) : GW 0 0 0 X_X12_draw 0 [(0, vr l0), (1, vi l1)] [] M (some (vi r.1), r.2) := by
  delta F_X12_draw_b0 at h
  refine GW_aload_n (X := X_X12_draw) (pc := 0) d_X12_draw_0 rfl 0 rfl ?_
  refine GW_aload_n (X := X_X12_draw) (pc := 1) d_X12_draw_1 rfl 0 rfl ?_
  replace h := g_bd h
  obtain ⟨v1, hv1, h⟩ := h
  refine GW_getL (X := X_X12_draw) (pc := 2) f_X12_430 d_X12_draw_2 hv1 ty_12_32 ?_
  refine GW_ldc2 (X := X_X12_draw) (pc := 5) d_X12_draw_5 m_1674 ?_
  refine GW_lmul (X := X_X12_draw) (pc := 8) d_X12_draw_8 ?_
  refine GW_ldc2 (X := X_X12_draw) (pc := 9) d_X12_draw_9 m_1675 ?_
  refine GW_ladd (X := X_X12_draw) (pc := 12) d_X12_draw_12 ?_
  refine GW_ldc2 (X := X_X12_draw) (pc := 13) d_X12_draw_13 m_1676 ?_
  refine GW_lrem (X := X_X12_draw) (pc := 16) d_X12_draw_16 (by decide) ?_
  replace h := g_bd h
  obtain ⟨M2, hM2, h⟩ := h
  refine GW_putL (X := X_X12_draw) (pc := 17) f_X12_430 d_X12_draw_17 hM2 (Or.inl fi_12_32) ty_12_32 ?_
  refine GW_aload_n (X := X_X12_draw) (pc := 20) d_X12_draw_20 rfl 0 rfl ?_
  replace h := g_bd h
  obtain ⟨v3, hv3, h⟩ := h
  refine GW_getL (X := X_X12_draw) (pc := 21) f_X12_430 d_X12_draw_21 hv3 ty_12_32 ?_
  refine GW_ldc2 (X := X_X12_draw) (pc := 24) d_X12_draw_24 m_1677 ?_
  refine GW_ldiv (X := X_X12_draw) (pc := 27) d_X12_draw_27 (by decide) ?_
  refine GW_iload_n (X := X_X12_draw) (pc := 28) d_X12_draw_28 rfl 1 rfl ?_
  refine GW_i2l (X := X_X12_draw) (pc := 29) d_X12_draw_29 ?_
  replace h := g_ife h
  obtain ⟨hz4, h⟩ := h
  refine GW_lrem (X := X_X12_draw) (pc := 30) d_X12_draw_30 hz4 ?_
  refine GW_l2i (X := X_X12_draw) (pc := 31) d_X12_draw_31 ?_
  replace h := Option.some.inj h
  subst h
  exact GW_ret (X := X_X12_draw) (pc := 32) d_X12_draw_32 rfl trivial
def F_X12_draw (l0 : Option Nat) (l1 : Int32) (M : gM) : Option (Int32 × gM) := F_X12_draw_b0 l0 l1 M
theorem T_X12_draw (l0 : Option Nat) (l1 : Int32) (M : gM) (r : (Int32 × gM)) (h : F_X12_draw l0 l1 M = some r) : g_Met 0 0 0 yX12_draw X_X12_draw [vr l0, vi l1] M (some (vi r.1), r.2) :=
  g_Met_of pn_RX12 rfl (Nat.le_of_ble_eq_true rfl) (fun h => by cases h) (GW_sub [0, 1] rfl (T_X12_draw_b0 r l0 l1 M h))
/-! ForgetHeirsModel.drinks()V -/
theorem d_X12_drinks_0 : decode cX12_drinks 0 = .ok (.iconst 0, 1) := by decide +kernel
theorem d_X12_drinks_1 : decode cX12_drinks 1 = .ok (.istore_n 1, 1) := by decide +kernel
theorem d_X12_drinks_2 : decode cX12_drinks 2 = .ok (.iload_n 1, 1) := by decide +kernel
theorem d_X12_drinks_3 : decode cX12_drinks 3 = .ok (.aload_n 0, 1) := by decide +kernel
theorem d_X12_drinks_4 : decode cX12_drinks 4 = .ok (.getfield 39, 3) := by decide +kernel
theorem d_X12_drinks_7 : decode cX12_drinks 7 = .ok (.iconst 2, 1) := by decide +kernel
theorem d_X12_drinks_8 : decode cX12_drinks 8 = .ok (.iaload, 1) := by decide +kernel
theorem d_X12_drinks_9 : decode cX12_drinks 9 = .ok (.if_icmp .ge 67, 3) := by decide +kernel
theorem d_X12_drinks_12 : decode cX12_drinks 12 = .ok (.aload_n 0, 1) := by decide +kernel
theorem d_X12_drinks_13 : decode cX12_drinks 13 = .ok (.bipush 100, 2) := by decide +kernel
theorem d_X12_drinks_15 : decode cX12_drinks 15 = .ok (.invokevirtual 442, 3) := by decide +kernel
theorem d_X12_drinks_18 : decode cX12_drinks 18 = .ok (.aload_n 0, 1) := by decide +kernel
theorem d_X12_drinks_19 : decode cX12_drinks 19 = .ok (.getfield 39, 3) := by decide +kernel
theorem d_X12_drinks_22 : decode cX12_drinks 22 = .ok (.bipush 38, 2) := by decide +kernel
theorem d_X12_drinks_24 : decode cX12_drinks 24 = .ok (.iconst 2, 1) := by decide +kernel
theorem d_X12_drinks_25 : decode cX12_drinks 25 = .ok (.iload_n 1, 1) := by decide +kernel
theorem d_X12_drinks_26 : decode cX12_drinks 26 = .ok (.imul, 1) := by decide +kernel
theorem d_X12_drinks_27 : decode cX12_drinks 27 = .ok (.iadd, 1) := by decide +kernel
theorem d_X12_drinks_28 : decode cX12_drinks 28 = .ok (.iconst 1, 1) := by decide +kernel
theorem d_X12_drinks_29 : decode cX12_drinks 29 = .ok (.iadd, 1) := by decide +kernel
theorem d_X12_drinks_30 : decode cX12_drinks 30 = .ok (.iaload, 1) := by decide +kernel
theorem d_X12_drinks_31 : decode cX12_drinks 31 = .ok (.if_icmp .ge 16, 3) := by decide +kernel
theorem d_X12_drinks_34 : decode cX12_drinks 34 = .ok (.aload_n 0, 1) := by decide +kernel
theorem d_X12_drinks_35 : decode cX12_drinks 35 = .ok (.getfield 39, 3) := by decide +kernel
theorem d_X12_drinks_38 : decode cX12_drinks 38 = .ok (.iconst 1, 1) := by decide +kernel
theorem d_X12_drinks_39 : decode cX12_drinks 39 = .ok (.iaload, 1) := by decide +kernel
theorem d_X12_drinks_40 : decode cX12_drinks 40 = .ok (.ifCond .le 7, 3) := by decide +kernel
theorem d_X12_drinks_43 : decode cX12_drinks 43 = .ok (.iconst 1, 1) := by decide +kernel
theorem d_X12_drinks_44 : decode cX12_drinks 44 = .ok (.goto 4, 3) := by decide +kernel
theorem d_X12_drinks_47 : decode cX12_drinks 47 = .ok (.iconst 0, 1) := by decide +kernel
theorem d_X12_drinks_48 : decode cX12_drinks 48 = .ok (.istore_n 2, 1) := by decide +kernel
theorem d_X12_drinks_49 : decode cX12_drinks 49 = .ok (.iload_n 2, 1) := by decide +kernel
theorem d_X12_drinks_50 : decode cX12_drinks 50 = .ok (.ifCond .eq 20, 3) := by decide +kernel
theorem d_X12_drinks_53 : decode cX12_drinks 53 = .ok (.aload_n 0, 1) := by decide +kernel
theorem d_X12_drinks_54 : decode cX12_drinks 54 = .ok (.iload_n 1, 1) := by decide +kernel
theorem d_X12_drinks_55 : decode cX12_drinks 55 = .ok (.aload_n 0, 1) := by decide +kernel
theorem d_X12_drinks_56 : decode cX12_drinks 56 = .ok (.aload_n 0, 1) := by decide +kernel
theorem d_X12_drinks_57 : decode cX12_drinks 57 = .ok (.getfield 39, 3) := by decide +kernel
theorem d_X12_drinks_60 : decode cX12_drinks 60 = .ok (.iconst 1, 1) := by decide +kernel
theorem d_X12_drinks_61 : decode cX12_drinks 61 = .ok (.iaload, 1) := by decide +kernel
theorem d_X12_drinks_62 : decode cX12_drinks 62 = .ok (.invokevirtual 442, 3) := by decide +kernel
theorem d_X12_drinks_65 : decode cX12_drinks 65 = .ok (.iconst (-1), 1) := by decide +kernel
theorem d_X12_drinks_66 : decode cX12_drinks 66 = .ok (.iconst 0, 1) := by decide +kernel
theorem d_X12_drinks_67 : decode cX12_drinks 67 = .ok (.invokevirtual 358, 3) := by decide +kernel
theorem d_X12_drinks_70 : decode cX12_drinks 70 = .ok (.iinc 1 1, 3) := by decide +kernel
theorem d_X12_drinks_73 : decode cX12_drinks 73 = .ok (.goto (-71), 3) := by decide +kernel
theorem d_X12_drinks_76 : decode cX12_drinks 76 = .ok (.return_, 1) := by decide +kernel
abbrev X_X12_drinks : gX := (RX12, cX12_drinks, 3, none, false)
def F_X12_drinks_b70 (k2 : Option Nat → Int32 → gM → Option gM) (l0 : Option Nat) (l1 : Int32) (M : gM) : Option gM :=
  k2 l0 (l1 + 1) M
theorem T_X12_drinks_b70 (k2 : Option Nat → Int32 → gM → Option gM) (r : gM) (hk2 : ∀ (l0 : Option Nat) (l1 : Int32) (M : gM), k2 l0 l1 M = some r → GW 1 0 0 X_X12_drinks 2 [(0, vr l0), (1, vi l1)] [] M (none, r)) (l0 : Option Nat) (l1 : Int32) (M : gM) (h : F_X12_drinks_b70 k2 l0 l1 M = some r) : GW 1 0 0 X_X12_drinks 70 [(0, vr l0), (1, vi l1)] [] M (none, r) := by
  delta F_X12_drinks_b70 at h
  refine GW_iinc (j := 1) (X := X_X12_drinks) (pc := 70) d_X12_drinks_70 rfl (congrArg (fun z => _ + z) (by decide : Int32.ofInt 1 = (1 : Int32))) (Nat.le_of_ble_eq_true rfl) (lv2 := [(1, vi (l1 + 1)), (0, vr l0)]) rfl ?_
  refine GW_goto (X := X_X12_drinks) (pc := 73) 2 d_X12_drinks_73 (by decide) ?_
  refine GW_sub [1, 0] rfl ?_
  exact hk2 l0 (l1 + 1) M h
def F_X12_drinks_b48 (k2 : Option Nat → Int32 → gM → Option gM) (l0 : Option Nat) (l1 : Int32) (s0 : Int32) (M : gM) : Option gM :=
  if s0 = 0 then (F_X12_drinks_b70 k2 l0 l1 M) else ((gR 12 M l0 20).bind fun v1 => (aI 20 M v1 (1 : Int32)).bind fun v2 => (gO 12 M l0).bind fun i3 => (F_X12_draw (some i3) v2 M).bind fun (v4, M5) => (gC 12 M5 i3).bind fun _ => (F_X12_knowsNow (some i3) l1 v4 (-1 : Int32) (0 : Int32) M5).bind fun M7 => F_X12_drinks_b70 k2 (some i3) l1 M7)
theorem T_X12_drinks_b48 (k2 : Option Nat → Int32 → gM → Option gM) (r : gM) (hk2 : ∀ (l0 : Option Nat) (l1 : Int32) (M : gM), k2 l0 l1 M = some r → GW 1 0 0 X_X12_drinks 2 [(0, vr l0), (1, vi l1)] [] M (none, r)) (l0 : Option Nat) (l1 : Int32) (s0 : Int32) (M : gM) (h : F_X12_drinks_b48 k2 l0 l1 s0 M = some r) : GW 1 0 0 X_X12_drinks 48 [(0, vr l0), (1, vi l1)] [vi s0] M (none, r) := by
  delta F_X12_drinks_b48 at h
  refine GW_istore_n (X := X_X12_drinks) (pc := 48) d_X12_drinks_48 rfl (Nat.le_of_ble_eq_true rfl) (lv2 := [(2, vi s0), (0, vr l0), (1, vi l1)]) rfl ?_
  refine GW_iload_n (X := X_X12_drinks) (pc := 49) d_X12_drinks_49 rfl 0 rfl ?_
  refine GW_if_eq (X := X_X12_drinks) (pc := 50) 70 d_X12_drinks_50 (by decide) (fun c => ?_) (fun c => ?_)
  · replace h := g_ip c h
    refine GW_sub [1, 2] rfl ?_
    exact T_X12_drinks_b70 k2 r hk2 l0 l1 M h
  · replace h := g_ie c h
    refine GW_aload_n (X := X_X12_drinks) (pc := 53) d_X12_drinks_53 rfl 1 rfl ?_
    refine GW_iload_n (X := X_X12_drinks) (pc := 54) d_X12_drinks_54 rfl 2 rfl ?_
    refine GW_aload_n (X := X_X12_drinks) (pc := 55) d_X12_drinks_55 rfl 1 rfl ?_
    refine GW_aload_n (X := X_X12_drinks) (pc := 56) d_X12_drinks_56 rfl 1 rfl ?_
    replace h := g_bd h
    obtain ⟨v1, hv1, h⟩ := h
    refine GW_getR (X := X_X12_drinks) (pc := 57) f_X12_39 d_X12_drinks_57 hv1 (Or.inr ⟨_, ty_12_20⟩) ?_
    refine GW_iconst (X := X_X12_drinks) (pc := 60) (v := 1) d_X12_drinks_60 (by decide) ?_
    replace h := g_bd h
    obtain ⟨v2, hv2, h⟩ := h
    refine GW_iald (X := X_X12_drinks) (pc := 61) d_X12_drinks_61 hv2 ?_
    replace h := g_bd h
    obtain ⟨i3, hi3, h⟩ := h
    obtain ⟨rfl, ki3⟩ := g_gO hi3
    replace h := g_bd h
    obtain ⟨⟨v4, M5⟩, hv4, h⟩ := h
    dsimp only at h
    refine GW_callV (X := X_X12_drinks) (pc := 62) (bc0 := 0) (bs0 := 0) (r := some (vi v4)) (M2 := M5) (c0 := 12) (T_X12_draw (some i3) v2 M (v4, M5) hv4) (Nat.le_of_ble_eq_true rfl) (Nat.le_of_ble_eq_true rfl) rfl g_cok12 ki3 yc_X12_draw ⟨m_1670, m_1672, m_113, m_127, m_1673⟩ d_X12_drinks_62 rfl (st := [vi l1, vr (some i3)]) rfl (Nat.le_of_ble_eq_true rfl) (Nat.le_of_ble_eq_true rfl) (Nat.le_of_ble_eq_true rfl) (st2 := [vi v4, vi l1, vr (some i3)]) rfl ?_
    refine GW_iconst (X := X_X12_drinks) (pc := 65) (v := -1) d_X12_drinks_65 (by decide) ?_
    refine GW_iconst (X := X_X12_drinks) (pc := 66) (v := 0) d_X12_drinks_66 (by decide) ?_
    replace h := g_bd h
    obtain ⟨_, kk6, h⟩ := h
    replace kk6 := g_gC kk6
    replace h := g_bd h
    obtain ⟨M7, hM7, h⟩ := h
    refine GW_callV (X := X_X12_drinks) (pc := 67) (bc0 := 0) (bs0 := 0) (r := none) (M2 := M7) (c0 := 12) (T_X12_knowsNow (some i3) l1 v4 (-1 : Int32) (0 : Int32) M5 M7 hM7) (Nat.le_of_ble_eq_true rfl) (Nat.le_of_ble_eq_true rfl) rfl g_cok12 kk6 yc_X12_knowsNow ⟨m_1517, m_1519, m_96, m_127, m_1520⟩ d_X12_drinks_67 rfl (st := []) rfl (Nat.le_of_ble_eq_true rfl) (Nat.le_of_ble_eq_true rfl) (Nat.le_of_ble_eq_true rfl) (st2 := []) rfl ?_
    refine GW_sub [1, 2] rfl ?_
    exact T_X12_drinks_b70 k2 r hk2 (some i3) l1 M7 h
def F_X12_drinks_b47 (k2 : Option Nat → Int32 → gM → Option gM) (l0 : Option Nat) (l1 : Int32) (M : gM) : Option gM :=
  F_X12_drinks_b48 k2 l0 l1 (0 : Int32) M
theorem T_X12_drinks_b47 (k2 : Option Nat → Int32 → gM → Option gM) (r : gM) (hk2 : ∀ (l0 : Option Nat) (l1 : Int32) (M : gM), k2 l0 l1 M = some r → GW 1 0 0 X_X12_drinks 2 [(0, vr l0), (1, vi l1)] [] M (none, r)) (l0 : Option Nat) (l1 : Int32) (M : gM) (h : F_X12_drinks_b47 k2 l0 l1 M = some r) : GW 1 0 0 X_X12_drinks 47 [(0, vr l0), (1, vi l1)] [] M (none, r) := by
  delta F_X12_drinks_b47 at h
  refine GW_iconst (X := X_X12_drinks) (pc := 47) (v := 0) d_X12_drinks_47 (by decide) ?_
  exact T_X12_drinks_b48 k2 r hk2 l0 l1 (0 : Int32) M h
def F_X12_drinks_b2 (k2 : Option Nat → Int32 → gM → Option gM) (l0 : Option Nat) (l1 : Int32) (M : gM) : Option gM :=
  (gR 12 M l0 20).bind fun v1 => (aI 20 M v1 (2 : Int32)).bind fun v2 => if v2 ≤ l1 then (some M) else ((gO 12 M l0).bind fun i3 => (F_X12_draw (some i3) (100 : Int32) M).bind fun (v4, M5) => (gR 12 M5 (some i3) 20).bind fun v6 => (aI 20 M5 v6 (((38 : Int32) + ((2 : Int32) * l1)) + (1 : Int32))).bind fun v7 => if v7 ≤ v4 then (F_X12_drinks_b47 k2 (some i3) l1 M5) else ((gR 12 M5 (some i3) 20).bind fun v8 => (aI 20 M5 v8 (1 : Int32)).bind fun v9 => if v9 ≤ 0 then (F_X12_drinks_b47 k2 (some i3) l1 M5) else (F_X12_drinks_b48 k2 (some i3) l1 (1 : Int32) M5)))
set_option maxHeartbeats 1000000 in
theorem T_X12_drinks_b2 (k2 : Option Nat → Int32 → gM → Option gM) (r : gM) (hk2 : ∀ (l0 : Option Nat) (l1 : Int32) (M : gM), k2 l0 l1 M = some r → GW 1 0 0 X_X12_drinks 2 [(0, vr l0), (1, vi l1)] [] M (none, r)) (l0 : Option Nat) (l1 : Int32) (M : gM) (h : F_X12_drinks_b2 k2 l0 l1 M = some r) : GW 1 0 0 X_X12_drinks 2 [(0, vr l0), (1, vi l1)] [] M (none, r) := by
  delta F_X12_drinks_b2 at h
  refine GW_iload_n (X := X_X12_drinks) (pc := 2) d_X12_drinks_2 rfl 1 rfl ?_
  refine GW_aload_n (X := X_X12_drinks) (pc := 3) d_X12_drinks_3 rfl 0 rfl ?_
  replace h := g_bd h
  obtain ⟨v1, hv1, h⟩ := h
  refine GW_getR (X := X_X12_drinks) (pc := 4) f_X12_39 d_X12_drinks_4 hv1 (Or.inr ⟨_, ty_12_20⟩) ?_
  refine GW_iconst (X := X_X12_drinks) (pc := 7) (v := 2) d_X12_drinks_7 (by decide) ?_
  replace h := g_bd h
  obtain ⟨v2, hv2, h⟩ := h
  refine GW_iald (X := X_X12_drinks) (pc := 8) d_X12_drinks_8 hv2 ?_
  refine GW_icmp_ge (X := X_X12_drinks) (pc := 9) 76 d_X12_drinks_9 (by decide) (fun c => ?_) (fun c => ?_)
  · replace h := g_ip c h
    replace h := Option.some.inj h
    subst h
    exact GW_ret (X := X_X12_drinks) (pc := 76) d_X12_drinks_76 rfl trivial
  · replace h := g_ie c h
    refine GW_aload_n (X := X_X12_drinks) (pc := 12) d_X12_drinks_12 rfl 0 rfl ?_
    refine GW_bipush (X := X_X12_drinks) (pc := 13) (v := 100) d_X12_drinks_13 (by decide) ?_
    replace h := g_bd h
    obtain ⟨i3, hi3, h⟩ := h
    obtain ⟨rfl, ki3⟩ := g_gO hi3
    replace h := g_bd h
    obtain ⟨⟨v4, M5⟩, hv4, h⟩ := h
    dsimp only at h
    refine GW_callV (X := X_X12_drinks) (pc := 15) (bc0 := 0) (bs0 := 0) (r := some (vi v4)) (M2 := M5) (c0 := 12) (T_X12_draw (some i3) (100 : Int32) M (v4, M5) hv4) (Nat.le_of_ble_eq_true rfl) (Nat.le_of_ble_eq_true rfl) rfl g_cok12 ki3 yc_X12_draw ⟨m_1670, m_1672, m_113, m_127, m_1673⟩ d_X12_drinks_15 rfl (st := []) rfl (Nat.le_of_ble_eq_true rfl) (Nat.le_of_ble_eq_true rfl) (Nat.le_of_ble_eq_true rfl) (st2 := [vi v4]) rfl ?_
    refine GW_aload_n (X := X_X12_drinks) (pc := 18) d_X12_drinks_18 rfl 0 rfl ?_
    replace h := g_bd h
    obtain ⟨v6, hv6, h⟩ := h
    refine GW_getR (X := X_X12_drinks) (pc := 19) f_X12_39 d_X12_drinks_19 hv6 (Or.inr ⟨_, ty_12_20⟩) ?_
    refine GW_bipush (X := X_X12_drinks) (pc := 22) (v := 38) d_X12_drinks_22 (by decide) ?_
    refine GW_iconst (X := X_X12_drinks) (pc := 24) (v := 2) d_X12_drinks_24 (by decide) ?_
    refine GW_iload_n (X := X_X12_drinks) (pc := 25) d_X12_drinks_25 rfl 1 rfl ?_
    refine GW_imul (X := X_X12_drinks) (pc := 26) d_X12_drinks_26 ?_
    refine GW_iadd (X := X_X12_drinks) (pc := 27) d_X12_drinks_27 ?_
    refine GW_iconst (X := X_X12_drinks) (pc := 28) (v := 1) d_X12_drinks_28 (by decide) ?_
    refine GW_iadd (X := X_X12_drinks) (pc := 29) d_X12_drinks_29 ?_
    replace h := g_bd h
    obtain ⟨v7, hv7, h⟩ := h
    refine GW_iald (X := X_X12_drinks) (pc := 30) d_X12_drinks_30 hv7 ?_
    refine GW_icmp_ge (X := X_X12_drinks) (pc := 31) 47 d_X12_drinks_31 (by decide) (fun c => ?_) (fun c => ?_)
    · replace h := g_ip c h
      exact T_X12_drinks_b47 k2 r hk2 (some i3) l1 M5 h
    · replace h := g_ie c h
      refine GW_aload_n (X := X_X12_drinks) (pc := 34) d_X12_drinks_34 rfl 0 rfl ?_
      replace h := g_bd h
      obtain ⟨v8, hv8, h⟩ := h
      refine GW_getR (X := X_X12_drinks) (pc := 35) f_X12_39 d_X12_drinks_35 hv8 (Or.inr ⟨_, ty_12_20⟩) ?_
      refine GW_iconst (X := X_X12_drinks) (pc := 38) (v := 1) d_X12_drinks_38 (by decide) ?_
      replace h := g_bd h
      obtain ⟨v9, hv9, h⟩ := h
      refine GW_iald (X := X_X12_drinks) (pc := 39) d_X12_drinks_39 hv9 ?_
      refine GW_if_le (X := X_X12_drinks) (pc := 40) 47 d_X12_drinks_40 (by decide) (fun c => ?_) (fun c => ?_)
      · replace h := g_ip c h
        exact T_X12_drinks_b47 k2 r hk2 (some i3) l1 M5 h
      · replace h := g_ie c h
        refine GW_iconst (X := X_X12_drinks) (pc := 43) (v := 1) d_X12_drinks_43 (by decide) ?_
        refine GW_goto (X := X_X12_drinks) (pc := 44) 48 d_X12_drinks_44 (by decide) ?_
        exact T_X12_drinks_b48 k2 r hk2 (some i3) l1 (1 : Int32) M5 h
def F_X12_drinks_L2 : Nat → Option Nat → Int32 → gM → Option gM
  | 0 => fun _ _ _ => none
  | n + 1 => F_X12_drinks_b2 (F_X12_drinks_L2 n)
theorem T_X12_drinks_L2 (r : gM) : ∀ (n : Nat) (l0 : Option Nat) (l1 : Int32) (M : gM), F_X12_drinks_L2 n l0 l1 M = some r → GW 1 0 0 X_X12_drinks 2 [(0, vr l0), (1, vi l1)] [] M (none, r) := by
  intro n
  induction n with
  | zero => intro l0 l1 M h; exact g_no h
  | succ n ih => intro l0 l1 M h; exact T_X12_drinks_b2 (F_X12_drinks_L2 n) r ih l0 l1 M h
def F_X12_drinks_b0 (l0 : Option Nat) (M : gM) : Option gM :=
  F_X12_drinks_L2 g_fuel l0 (0 : Int32) M
theorem T_X12_drinks_b0 (r : gM) (l0 : Option Nat) (M : gM) (h : F_X12_drinks_b0 l0 M = some r) : GW 1 0 0 X_X12_drinks 0 [(0, vr l0)] [] M (none, r) := by
  delta F_X12_drinks_b0 at h
  refine GW_iconst (X := X_X12_drinks) (pc := 0) (v := 0) d_X12_drinks_0 (by decide) ?_
  refine GW_istore_n (X := X_X12_drinks) (pc := 1) d_X12_drinks_1 rfl (Nat.le_of_ble_eq_true rfl) (lv2 := [(1, vi (0 : Int32)), (0, vr l0)]) rfl ?_
  refine GW_sub [1, 0] rfl ?_
  exact T_X12_drinks_L2 r g_fuel l0 (0 : Int32) M h
def F_X12_drinks (l0 : Option Nat) (M : gM) : Option gM := F_X12_drinks_b0 l0 M
theorem T_X12_drinks (l0 : Option Nat) (M : gM) (r : gM) (h : F_X12_drinks l0 M = some r) : g_Met 1 0 0 yX12_drinks X_X12_drinks [vr l0] M (none, r) :=
  g_Met_of pn_RX12 rfl (Nat.le_of_ble_eq_true rfl) (fun h => by cases h) (GW_sub [0] rfl (T_X12_drinks_b0 r l0 M h))
/-! ForgetHeirsModel.standing()I -/
theorem d_X12_standing_0 : decode cX12_standing 0 = .ok (.iconst 0, 1) := by decide +kernel
theorem d_X12_standing_1 : decode cX12_standing 1 = .ok (.istore_n 1, 1) := by decide +kernel
theorem d_X12_standing_2 : decode cX12_standing 2 = .ok (.iconst 0, 1) := by decide +kernel
theorem d_X12_standing_3 : decode cX12_standing 3 = .ok (.istore_n 2, 1) := by decide +kernel
theorem d_X12_standing_4 : decode cX12_standing 4 = .ok (.iload_n 2, 1) := by decide +kernel
theorem d_X12_standing_5 : decode cX12_standing 5 = .ok (.aload_n 0, 1) := by decide +kernel
theorem d_X12_standing_6 : decode cX12_standing 6 = .ok (.getfield 39, 3) := by decide +kernel
theorem d_X12_standing_9 : decode cX12_standing 9 = .ok (.iconst 1, 1) := by decide +kernel
theorem d_X12_standing_10 : decode cX12_standing 10 = .ok (.iaload, 1) := by decide +kernel
theorem d_X12_standing_11 : decode cX12_standing 11 = .ok (.if_icmp .ge 28, 3) := by decide +kernel
theorem d_X12_standing_14 : decode cX12_standing 14 = .ok (.iload_n 1, 1) := by decide +kernel
theorem d_X12_standing_15 : decode cX12_standing 15 = .ok (.aload_n 0, 1) := by decide +kernel
theorem d_X12_standing_16 : decode cX12_standing 16 = .ok (.iload_n 2, 1) := by decide +kernel
theorem d_X12_standing_17 : decode cX12_standing 17 = .ok (.iconst 3, 1) := by decide +kernel
theorem d_X12_standing_18 : decode cX12_standing 18 = .ok (.invokevirtual 301, 3) := by decide +kernel
theorem d_X12_standing_21 : decode cX12_standing 21 = .ok (.ifCond .ge 9, 3) := by decide +kernel
theorem d_X12_standing_24 : decode cX12_standing 24 = .ok (.iconst 1, 1) := by decide +kernel
theorem d_X12_standing_25 : decode cX12_standing 25 = .ok (.iload_n 2, 1) := by decide +kernel
theorem d_X12_standing_26 : decode cX12_standing 26 = .ok (.ishl, 1) := by decide +kernel
theorem d_X12_standing_27 : decode cX12_standing 27 = .ok (.goto 4, 3) := by decide +kernel
theorem d_X12_standing_30 : decode cX12_standing 30 = .ok (.iconst 0, 1) := by decide +kernel
theorem d_X12_standing_31 : decode cX12_standing 31 = .ok (.ior, 1) := by decide +kernel
theorem d_X12_standing_32 : decode cX12_standing 32 = .ok (.istore_n 1, 1) := by decide +kernel
theorem d_X12_standing_33 : decode cX12_standing 33 = .ok (.iinc 2 1, 3) := by decide +kernel
theorem d_X12_standing_36 : decode cX12_standing 36 = .ok (.goto (-32), 3) := by decide +kernel
theorem d_X12_standing_39 : decode cX12_standing 39 = .ok (.iload_n 1, 1) := by decide +kernel
theorem d_X12_standing_40 : decode cX12_standing 40 = .ok (.ireturn, 1) := by decide +kernel
abbrev X_X12_standing : gX := (RX12, cX12_standing, 3, (some .int), false)
def F_X12_standing_b31 (k4 : Option Nat → Int32 → Int32 → Option Int32) (M : gM) (l0 : Option Nat) (l2 : Int32) (s0 : Int32) (s1 : Int32) : Option Int32 :=
  k4 l0 (s0 ||| s1) (l2 + 1)
theorem T_X12_standing_b31 (k4 : Option Nat → Int32 → Int32 → Option Int32) (M : gM) (r : Int32) (hk4 : ∀ (l0 : Option Nat) (l1 : Int32) (l2 : Int32), k4 l0 l1 l2 = some r → GW 1 0 0 X_X12_standing 4 [(0, vr l0), (1, vi l1), (2, vi l2)] [] M (some (vi r), M)) (l0 : Option Nat) (l2 : Int32) (s0 : Int32) (s1 : Int32) (h : F_X12_standing_b31 k4 M l0 l2 s0 s1 = some r) : GW 1 0 0 X_X12_standing 31 [(0, vr l0), (2, vi l2)] [vi s1, vi s0] M (some (vi r), M) := by
  delta F_X12_standing_b31 at h
  refine GW_ior (X := X_X12_standing) (pc := 31) d_X12_standing_31 ?_
  refine GW_istore_n (X := X_X12_standing) (pc := 32) d_X12_standing_32 rfl (Nat.le_of_ble_eq_true rfl) (lv2 := [(1, vi (s0 ||| s1)), (0, vr l0), (2, vi l2)]) rfl ?_
  refine GW_iinc (j := 2) (X := X_X12_standing) (pc := 33) d_X12_standing_33 rfl (congrArg (fun z => _ + z) (by decide : Int32.ofInt 1 = (1 : Int32))) (Nat.le_of_ble_eq_true rfl) (lv2 := [(2, vi (l2 + 1)), (1, vi (s0 ||| s1)), (0, vr l0)]) rfl ?_
  refine GW_goto (X := X_X12_standing) (pc := 36) 4 d_X12_standing_36 (by decide) ?_
  refine GW_sub [2, 1, 0] rfl ?_
  exact hk4 l0 (s0 ||| s1) (l2 + 1) h
def F_X12_standing_b4 (k4 : Option Nat → Int32 → Int32 → Option Int32) (M : gM) (l0 : Option Nat) (l1 : Int32) (l2 : Int32) : Option Int32 :=
  (gR 12 M l0 20).bind fun v1 => (aI 20 M v1 (1 : Int32)).bind fun v2 => if v2 ≤ l2 then (some l1) else ((gO 12 M l0).bind fun i3 => (F_X12_thingOf (some i3) l2 (3 : Int32) M).bind fun v4 => if 0 ≤ v4 then (F_X12_standing_b31 k4 M (some i3) l2 l1 (0 : Int32)) else (F_X12_standing_b31 k4 M (some i3) l2 l1 ((1 : Int32) <<< (l2 &&& 31))))
theorem T_X12_standing_b4 (k4 : Option Nat → Int32 → Int32 → Option Int32) (M : gM) (r : Int32) (hk4 : ∀ (l0 : Option Nat) (l1 : Int32) (l2 : Int32), k4 l0 l1 l2 = some r → GW 1 0 0 X_X12_standing 4 [(0, vr l0), (1, vi l1), (2, vi l2)] [] M (some (vi r), M)) (l0 : Option Nat) (l1 : Int32) (l2 : Int32) (h : F_X12_standing_b4 k4 M l0 l1 l2 = some r) : GW 1 0 0 X_X12_standing 4 [(0, vr l0), (1, vi l1), (2, vi l2)] [] M (some (vi r), M) := by
  delta F_X12_standing_b4 at h
  refine GW_iload_n (X := X_X12_standing) (pc := 4) d_X12_standing_4 rfl 2 rfl ?_
  refine GW_aload_n (X := X_X12_standing) (pc := 5) d_X12_standing_5 rfl 0 rfl ?_
  replace h := g_bd h
  obtain ⟨v1, hv1, h⟩ := h
  refine GW_getR (X := X_X12_standing) (pc := 6) f_X12_39 d_X12_standing_6 hv1 (Or.inr ⟨_, ty_12_20⟩) ?_
  refine GW_iconst (X := X_X12_standing) (pc := 9) (v := 1) d_X12_standing_9 (by decide) ?_
  replace h := g_bd h
  obtain ⟨v2, hv2, h⟩ := h
  refine GW_iald (X := X_X12_standing) (pc := 10) d_X12_standing_10 hv2 ?_
  refine GW_icmp_ge (X := X_X12_standing) (pc := 11) 39 d_X12_standing_11 (by decide) (fun c => ?_) (fun c => ?_)
  · replace h := g_ip c h
    refine GW_iload_n (X := X_X12_standing) (pc := 39) d_X12_standing_39 rfl 1 rfl ?_
    replace h := Option.some.inj h
    subst h
    exact GW_ret (X := X_X12_standing) (pc := 40) d_X12_standing_40 rfl trivial
  · replace h := g_ie c h
    refine GW_iload_n (X := X_X12_standing) (pc := 14) d_X12_standing_14 rfl 1 rfl ?_
    refine GW_aload_n (X := X_X12_standing) (pc := 15) d_X12_standing_15 rfl 0 rfl ?_
    refine GW_iload_n (X := X_X12_standing) (pc := 16) d_X12_standing_16 rfl 2 rfl ?_
    refine GW_iconst (X := X_X12_standing) (pc := 17) (v := 3) d_X12_standing_17 (by decide) ?_
    replace h := g_bd h
    obtain ⟨i3, hi3, h⟩ := h
    obtain ⟨rfl, ki3⟩ := g_gO hi3
    replace h := g_bd h
    obtain ⟨v4, hv4, h⟩ := h
    refine GW_callV (X := X_X12_standing) (pc := 18) (bc0 := 0) (bs0 := 0) (r := some (vi v4)) (M2 := M) (c0 := 12) (T_X12_thingOf (some i3) l2 (3 : Int32) M v4 hv4) (Nat.le_of_ble_eq_true rfl) (Nat.le_of_ble_eq_true rfl) rfl g_cok12 ki3 yc_X12_thingOf ⟨m_1428, m_1430, m_79, m_127, m_1431⟩ d_X12_standing_18 rfl (st := [vi l1]) rfl (Nat.le_of_ble_eq_true rfl) (Nat.le_of_ble_eq_true rfl) (Nat.le_of_ble_eq_true rfl) (st2 := [vi v4, vi l1]) rfl ?_
    refine GW_if_ge (X := X_X12_standing) (pc := 21) 30 d_X12_standing_21 (by decide) (fun c => ?_) (fun c => ?_)
    · replace h := g_ip c h
      refine GW_iconst (X := X_X12_standing) (pc := 30) (v := 0) d_X12_standing_30 (by decide) ?_
      refine GW_sub [0, 2] rfl ?_
      exact T_X12_standing_b31 k4 M r hk4 (some i3) l2 l1 (0 : Int32) h
    · replace h := g_ie c h
      refine GW_iconst (X := X_X12_standing) (pc := 24) (v := 1) d_X12_standing_24 (by decide) ?_
      refine GW_iload_n (X := X_X12_standing) (pc := 25) d_X12_standing_25 rfl 2 rfl ?_
      refine GW_ishl (X := X_X12_standing) (pc := 26) d_X12_standing_26 ?_
      refine GW_goto (X := X_X12_standing) (pc := 27) 31 d_X12_standing_27 (by decide) ?_
      refine GW_sub [0, 2] rfl ?_
      exact T_X12_standing_b31 k4 M r hk4 (some i3) l2 l1 ((1 : Int32) <<< (l2 &&& 31)) h
def F_X12_standing_L4 (M : gM) : Nat → Option Nat → Int32 → Int32 → Option Int32
  | 0 => fun _ _ _ => none
  | n + 1 => F_X12_standing_b4 (F_X12_standing_L4 M n) M
theorem T_X12_standing_L4 (M : gM) (r : Int32) : ∀ (n : Nat) (l0 : Option Nat) (l1 : Int32) (l2 : Int32), F_X12_standing_L4 M n l0 l1 l2 = some r → GW 1 0 0 X_X12_standing 4 [(0, vr l0), (1, vi l1), (2, vi l2)] [] M (some (vi r), M) := by
  intro n
  induction n with
  | zero => intro l0 l1 l2 h; exact g_no h
  | succ n ih => intro l0 l1 l2 h; exact T_X12_standing_b4 (F_X12_standing_L4 M n) M r ih l0 l1 l2 h
def F_X12_standing_b0 (M : gM) (l0 : Option Nat) : Option Int32 :=
  F_X12_standing_L4 M g_fuel l0 (0 : Int32) (0 : Int32)
theorem T_X12_standing_b0 (M : gM) (r : Int32) (l0 : Option Nat) (h : F_X12_standing_b0 M l0 = some r) : GW 1 0 0 X_X12_standing 0 [(0, vr l0)] [] M (some (vi r), M) := by
  delta F_X12_standing_b0 at h
  refine GW_iconst (X := X_X12_standing) (pc := 0) (v := 0) d_X12_standing_0 (by decide) ?_
  refine GW_istore_n (X := X_X12_standing) (pc := 1) d_X12_standing_1 rfl (Nat.le_of_ble_eq_true rfl) (lv2 := [(1, vi (0 : Int32)), (0, vr l0)]) rfl ?_
  refine GW_iconst (X := X_X12_standing) (pc := 2) (v := 0) d_X12_standing_2 (by decide) ?_
  refine GW_istore_n (X := X_X12_standing) (pc := 3) d_X12_standing_3 rfl (Nat.le_of_ble_eq_true rfl) (lv2 := [(2, vi (0 : Int32)), (1, vi (0 : Int32)), (0, vr l0)]) rfl ?_
  refine GW_sub [2, 1, 0] rfl ?_
  exact T_X12_standing_L4 M r g_fuel l0 (0 : Int32) (0 : Int32) h
def F_X12_standing (l0 : Option Nat) (M : gM) : Option Int32 := F_X12_standing_b0 M l0
theorem T_X12_standing (l0 : Option Nat) (M : gM) (r : Int32) (h : F_X12_standing l0 M = some r) : g_Met 1 0 0 yX12_standing X_X12_standing [vr l0] M (some (vi r), M) :=
  g_Met_of pn_RX12 rfl (Nat.le_of_ble_eq_true rfl) (fun h => by cases h) (GW_sub [0] rfl (T_X12_standing_b0 M r l0 h))
/-! ForgetHeirsModel.drawn(III)I -/
theorem d_X12_drawn_0 : decode cX12_drawn 0 = .ok (.aload_n 0, 1) := by decide +kernel
theorem d_X12_drawn_1 : decode cX12_drawn 1 = .ok (.invokevirtual 362, 3) := by decide +kernel
theorem d_X12_drawn_4 : decode cX12_drawn 4 = .ok (.ifCond .eq 37, 3) := by decide +kernel
theorem d_X12_drawn_7 : decode cX12_drawn 7 = .ok (.iload_n 1, 1) := by decide +kernel
theorem d_X12_drawn_8 : decode cX12_drawn 8 = .ok (.i2l, 1) := by decide +kernel
theorem d_X12_drawn_9 : decode cX12_drawn 9 = .ok (.lconst 1, 1) := by decide +kernel
theorem d_X12_drawn_10 : decode cX12_drawn 10 = .ok (.ldc2_w 445, 3) := by decide +kernel
theorem d_X12_drawn_13 : decode cX12_drawn 13 = .ok (.invokestatic 118, 3) := by decide +kernel
theorem d_X12_drawn_16 : decode cX12_drawn 16 = .ok (.ifCond .eq 25, 3) := by decide +kernel
theorem d_X12_drawn_19 : decode cX12_drawn 19 = .ok (.iload_n 2, 1) := by decide +kernel
theorem d_X12_drawn_20 : decode cX12_drawn 20 = .ok (.i2l, 1) := by decide +kernel
theorem d_X12_drawn_21 : decode cX12_drawn 21 = .ok (.lconst 1, 1) := by decide +kernel
theorem d_X12_drawn_22 : decode cX12_drawn 22 = .ok (.ldc2_w 447, 3) := by decide +kernel
theorem d_X12_drawn_25 : decode cX12_drawn 25 = .ok (.invokestatic 118, 3) := by decide +kernel
theorem d_X12_drawn_28 : decode cX12_drawn 28 = .ok (.ifCond .eq 13, 3) := by decide +kernel
theorem d_X12_drawn_31 : decode cX12_drawn 31 = .ok (.iload_n 3, 1) := by decide +kernel
theorem d_X12_drawn_32 : decode cX12_drawn 32 = .ok (.i2l, 1) := by decide +kernel
theorem d_X12_drawn_33 : decode cX12_drawn 33 = .ok (.lconst 0, 1) := by decide +kernel
theorem d_X12_drawn_34 : decode cX12_drawn 34 = .ok (.lconst 1, 1) := by decide +kernel
theorem d_X12_drawn_35 : decode cX12_drawn 35 = .ok (.invokestatic 118, 3) := by decide +kernel
theorem d_X12_drawn_38 : decode cX12_drawn 38 = .ok (.ifCond .ne 5, 3) := by decide +kernel
theorem d_X12_drawn_41 : decode cX12_drawn 41 = .ok (.iconst (-1), 1) := by decide +kernel
theorem d_X12_drawn_42 : decode cX12_drawn 42 = .ok (.ireturn, 1) := by decide +kernel
theorem d_X12_drawn_43 : decode cX12_drawn 43 = .ok (.aload_n 0, 1) := by decide +kernel
theorem d_X12_drawn_44 : decode cX12_drawn 44 = .ok (.aload_n 0, 1) := by decide +kernel
theorem d_X12_drawn_45 : decode cX12_drawn 45 = .ok (.getfield 427, 3) := by decide +kernel
theorem d_X12_drawn_48 : decode cX12_drawn 48 = .ok (.i2l, 1) := by decide +kernel
theorem d_X12_drawn_49 : decode cX12_drawn 49 = .ok (.putfield 430, 3) := by decide +kernel
theorem d_X12_drawn_52 : decode cX12_drawn 52 = .ok (.iconst 0, 1) := by decide +kernel
theorem d_X12_drawn_53 : decode cX12_drawn 53 = .ok (.istore 4, 2) := by decide +kernel
theorem d_X12_drawn_55 : decode cX12_drawn 55 = .ok (.iconst 0, 1) := by decide +kernel
theorem d_X12_drawn_56 : decode cX12_drawn 56 = .ok (.istore 5, 2) := by decide +kernel
theorem d_X12_drawn_58 : decode cX12_drawn 58 = .ok (.aload_n 0, 1) := by decide +kernel
theorem d_X12_drawn_59 : decode cX12_drawn 59 = .ok (.invokevirtual 383, 3) := by decide +kernel
theorem d_X12_drawn_62 : decode cX12_drawn 62 = .ok (.iconst 0, 1) := by decide +kernel
theorem d_X12_drawn_63 : decode cX12_drawn 63 = .ok (.istore 6, 2) := by decide +kernel
theorem d_X12_drawn_65 : decode cX12_drawn 65 = .ok (.iload 6, 2) := by decide +kernel
theorem d_X12_drawn_67 : decode cX12_drawn 67 = .ok (.iload_n 1, 1) := by decide +kernel
theorem d_X12_drawn_68 : decode cX12_drawn 68 = .ok (.if_icmp .ge 58, 3) := by decide +kernel
theorem d_X12_drawn_71 : decode cX12_drawn 71 = .ok (.iconst 0, 1) := by decide +kernel
theorem d_X12_drawn_72 : decode cX12_drawn 72 = .ok (.istore 7, 2) := by decide +kernel
theorem d_X12_drawn_74 : decode cX12_drawn 74 = .ok (.iload 7, 2) := by decide +kernel
theorem d_X12_drawn_76 : decode cX12_drawn 76 = .ok (.iload_n 2, 1) := by decide +kernel
theorem d_X12_drawn_77 : decode cX12_drawn 77 = .ok (.if_icmp .ge 18, 3) := by decide +kernel
theorem d_X12_drawn_80 : decode cX12_drawn 80 = .ok (.aload_n 0, 1) := by decide +kernel
theorem d_X12_drawn_81 : decode cX12_drawn 81 = .ok (.invokevirtual 449, 3) := by decide +kernel
theorem d_X12_drawn_84 : decode cX12_drawn 84 = .ok (.aload_n 0, 1) := by decide +kernel
theorem d_X12_drawn_85 : decode cX12_drawn 85 = .ok (.invokevirtual 368, 3) := by decide +kernel
theorem d_X12_drawn_88 : decode cX12_drawn 88 = .ok (.pop, 1) := by decide +kernel
theorem d_X12_drawn_89 : decode cX12_drawn 89 = .ok (.iinc 7 1, 3) := by decide +kernel
theorem d_X12_drawn_92 : decode cX12_drawn 92 = .ok (.goto (-18), 3) := by decide +kernel
theorem d_X12_drawn_95 : decode cX12_drawn 95 = .ok (.iload 4, 2) := by decide +kernel
theorem d_X12_drawn_97 : decode cX12_drawn 97 = .ok (.aload_n 0, 1) := by decide +kernel
theorem d_X12_drawn_98 : decode cX12_drawn 98 = .ok (.invokevirtual 452, 3) := by decide +kernel
theorem d_X12_drawn_101 : decode cX12_drawn 101 = .ok (.invokestatic 316, 3) := by decide +kernel
theorem d_X12_drawn_104 : decode cX12_drawn 104 = .ok (.iadd, 1) := by decide +kernel
theorem d_X12_drawn_105 : decode cX12_drawn 105 = .ok (.istore 4, 2) := by decide +kernel
theorem d_X12_drawn_107 : decode cX12_drawn 107 = .ok (.iload 5, 2) := by decide +kernel
theorem d_X12_drawn_109 : decode cX12_drawn 109 = .ok (.aload_n 0, 1) := by decide +kernel
theorem d_X12_drawn_110 : decode cX12_drawn 110 = .ok (.invokevirtual 398, 3) := by decide +kernel
theorem d_X12_drawn_113 : decode cX12_drawn 113 = .ok (.iadd, 1) := by decide +kernel
theorem d_X12_drawn_114 : decode cX12_drawn 114 = .ok (.istore 5, 2) := by decide +kernel
theorem d_X12_drawn_116 : decode cX12_drawn 116 = .ok (.aload_n 0, 1) := by decide +kernel
theorem d_X12_drawn_117 : decode cX12_drawn 117 = .ok (.invokevirtual 386, 3) := by decide +kernel
theorem d_X12_drawn_120 : decode cX12_drawn 120 = .ok (.iinc 6 1, 3) := by decide +kernel
theorem d_X12_drawn_123 : decode cX12_drawn 123 = .ok (.goto (-58), 3) := by decide +kernel
theorem d_X12_drawn_126 : decode cX12_drawn 126 = .ok (.iload_n 3, 1) := by decide +kernel
theorem d_X12_drawn_127 : decode cX12_drawn 127 = .ok (.ifCond .ne 8, 3) := by decide +kernel
theorem d_X12_drawn_130 : decode cX12_drawn 130 = .ok (.iload 4, 2) := by decide +kernel
theorem d_X12_drawn_132 : decode cX12_drawn 132 = .ok (.goto 5, 3) := by decide +kernel
theorem d_X12_drawn_135 : decode cX12_drawn 135 = .ok (.iload 5, 2) := by decide +kernel
theorem d_X12_drawn_137 : decode cX12_drawn 137 = .ok (.ireturn, 1) := by decide +kernel
abbrev X_X12_drawn : gX := (RX12, cX12_drawn, 8, (some .int), false)
def F_X12_drawn_b41 (M : gM) : Option (Int32 × gM) :=
  some ((-1 : Int32), M)
theorem T_X12_drawn_b41 (r : (Int32 × gM)) (M : gM) (h : F_X12_drawn_b41 M = some r) : GW 5 0 0 X_X12_drawn 41 [] [] M (some (vi r.1), r.2) := by
  delta F_X12_drawn_b41 at h
  refine GW_iconst (X := X_X12_drawn) (pc := 41) (v := -1) d_X12_drawn_41 (by decide) ?_
  replace h := Option.some.inj h
  subst h
  exact GW_ret (X := X_X12_drawn) (pc := 42) d_X12_drawn_42 rfl trivial
def F_X12_drawn_b74 (k65 : Option Nat → Int32 → Int32 → Int32 → Int32 → Int32 → Int32 → gM → Option (Int32 × gM)) (k74 : Option Nat → Int32 → Int32 → Int32 → Int32 → Int32 → Int32 → Int32 → gM → Option (Int32 × gM)) (l0 : Option Nat) (l1 : Int32) (l2 : Int32) (l3 : Int32) (l4 : Int32) (l5 : Int32) (l6 : Int32) (l7 : Int32) (M : gM) : Option (Int32 × gM) :=
  if l2 ≤ l7 then ((gO 12 M l0).bind fun i1 => (F_X12_standing (some i1) M).bind fun v2 => (F_X12_bits v2 M).bind fun v3 => (F_X12_allHolds (some i1) M).bind fun v4 => (F_X12_laysBack (some i1) M).bind fun M5 => k65 (some i1) l1 l2 l3 (l4 + v3) (l5 + v4) (l6 + 1) M5) else ((gO 12 M l0).bind fun i6 => (F_X12_drinks (some i6) M).bind fun M7 => (gC 12 M7 i6).bind fun _ => (F_X12_passes (some i6) M7).bind fun (v9, M10) => k74 (some i6) l1 l2 l3 l4 l5 l6 (l7 + 1) M10)
set_option maxHeartbeats 1000000 in
theorem T_X12_drawn_b74 (k65 : Option Nat → Int32 → Int32 → Int32 → Int32 → Int32 → Int32 → gM → Option (Int32 × gM)) (k74 : Option Nat → Int32 → Int32 → Int32 → Int32 → Int32 → Int32 → Int32 → gM → Option (Int32 × gM)) (r : (Int32 × gM)) (hk65 : ∀ (l0 : Option Nat) (l1 : Int32) (l2 : Int32) (l3 : Int32) (l4 : Int32) (l5 : Int32) (l6 : Int32) (M : gM), k65 l0 l1 l2 l3 l4 l5 l6 M = some r → GW 5 0 0 X_X12_drawn 65 [(0, vr l0), (1, vi l1), (2, vi l2), (3, vi l3), (4, vi l4), (5, vi l5), (6, vi l6)] [] M (some (vi r.1), r.2)) (hk74 : ∀ (l0 : Option Nat) (l1 : Int32) (l2 : Int32) (l3 : Int32) (l4 : Int32) (l5 : Int32) (l6 : Int32) (l7 : Int32) (M : gM), k74 l0 l1 l2 l3 l4 l5 l6 l7 M = some r → GW 5 0 0 X_X12_drawn 74 [(0, vr l0), (1, vi l1), (2, vi l2), (3, vi l3), (4, vi l4), (5, vi l5), (6, vi l6), (7, vi l7)] [] M (some (vi r.1), r.2)) (l0 : Option Nat) (l1 : Int32) (l2 : Int32) (l3 : Int32) (l4 : Int32) (l5 : Int32) (l6 : Int32) (l7 : Int32) (M : gM) (h : F_X12_drawn_b74 k65 k74 l0 l1 l2 l3 l4 l5 l6 l7 M = some r) : GW 5 0 0 X_X12_drawn 74 [(0, vr l0), (1, vi l1), (2, vi l2), (3, vi l3), (4, vi l4), (5, vi l5), (6, vi l6), (7, vi l7)] [] M (some (vi r.1), r.2) := by
  delta F_X12_drawn_b74 at h
  refine GW_iload (X := X_X12_drawn) (pc := 74) d_X12_drawn_74 7 rfl ?_
  refine GW_iload_n (X := X_X12_drawn) (pc := 76) d_X12_drawn_76 rfl 2 rfl ?_
  refine GW_icmp_ge (X := X_X12_drawn) (pc := 77) 95 d_X12_drawn_77 (by decide) (fun c => ?_) (fun c => ?_)
  · replace h := g_ip c h
    refine GW_iload (X := X_X12_drawn) (pc := 95) d_X12_drawn_95 4 rfl ?_
    refine GW_aload_n (X := X_X12_drawn) (pc := 97) d_X12_drawn_97 rfl 0 rfl ?_
    replace h := g_bd h
    obtain ⟨i1, hi1, h⟩ := h
    obtain ⟨rfl, ki1⟩ := g_gO hi1
    replace h := g_bd h
    obtain ⟨v2, hv2, h⟩ := h
    refine GW_callV (X := X_X12_drawn) (pc := 98) (bc0 := 0) (bs0 := 0) (r := some (vi v2)) (M2 := M) (c0 := 12) (T_X12_standing (some i1) M v2 hv2) (Nat.le_of_ble_eq_true rfl) (Nat.le_of_ble_eq_true rfl) rfl g_cok12 ki1 yc_X12_standing ⟨m_1678, m_1680, m_114, m_127, m_1681⟩ d_X12_drawn_98 rfl (st := [vi l4]) rfl (Nat.le_of_ble_eq_true rfl) (Nat.le_of_ble_eq_true rfl) (Nat.le_of_ble_eq_true rfl) (st2 := [vi v2, vi l4]) rfl ?_
    replace h := g_bd h
    obtain ⟨v3, hv3, h⟩ := h
    refine GW_callS (X := X_X12_drawn) (pc := 101) (bc0 := 0) (bs0 := 0) (r := some (vi v3)) (M2 := M) (T_X12_bits v2 M v3 hv3) (Nat.le_of_ble_eq_true rfl) (Nat.le_of_ble_eq_true rfl) yc_X12_bits ⟨m_1578, m_1579, m_127, m_1580⟩ d_X12_drawn_101 rfl (st := [vi l4]) rfl (Nat.le_of_ble_eq_true rfl) (Nat.le_of_ble_eq_true rfl) (Nat.le_of_ble_eq_true rfl) (st2 := [vi v3, vi l4]) rfl ?_
    refine GW_iadd (X := X_X12_drawn) (pc := 104) d_X12_drawn_104 ?_
    refine GW_istore (X := X_X12_drawn) (pc := 105) d_X12_drawn_105 (Nat.le_of_ble_eq_true rfl) (lv2 := [(4, vi (l4 + v3)), (0, vr (some i1)), (1, vi l1), (2, vi l2), (3, vi l3), (5, vi l5), (6, vi l6), (7, vi l7)]) rfl ?_
    refine GW_iload (X := X_X12_drawn) (pc := 107) d_X12_drawn_107 5 rfl ?_
    refine GW_aload_n (X := X_X12_drawn) (pc := 109) d_X12_drawn_109 rfl 1 rfl ?_
    replace h := g_bd h
    obtain ⟨v4, hv4, h⟩ := h
    refine GW_callV (X := X_X12_drawn) (pc := 110) (bc0 := 0) (bs0 := 0) (r := some (vi v4)) (M2 := M) (c0 := 12) (T_X12_allHolds (some i1) M v4 hv4) (Nat.le_of_ble_eq_true rfl) (Nat.le_of_ble_eq_true rfl) rfl g_cok12 ki1 yc_X12_allHolds ⟨m_1599, m_1601, m_104, m_127, m_1602⟩ d_X12_drawn_110 rfl (st := [vi l5]) rfl (Nat.le_of_ble_eq_true rfl) (Nat.le_of_ble_eq_true rfl) (Nat.le_of_ble_eq_true rfl) (st2 := [vi v4, vi l5]) rfl ?_
    refine GW_iadd (X := X_X12_drawn) (pc := 113) d_X12_drawn_113 ?_
    refine GW_istore (X := X_X12_drawn) (pc := 114) d_X12_drawn_114 (Nat.le_of_ble_eq_true rfl) (lv2 := [(5, vi (l5 + v4)), (4, vi (l4 + v3)), (0, vr (some i1)), (1, vi l1), (2, vi l2), (3, vi l3), (6, vi l6), (7, vi l7)]) rfl ?_
    refine GW_aload_n (X := X_X12_drawn) (pc := 116) d_X12_drawn_116 rfl 2 rfl ?_
    replace h := g_bd h
    obtain ⟨M5, hM5, h⟩ := h
    refine GW_callV (X := X_X12_drawn) (pc := 117) (bc0 := 0) (bs0 := 0) (r := none) (M2 := M5) (c0 := 12) (T_X12_laysBack (some i1) M M5 hM5) (Nat.le_of_ble_eq_true rfl) (Nat.le_of_ble_eq_true rfl) rfl g_cok12 ki1 yc_X12_laysBack ⟨m_1558, m_1560, m_101, m_127, m_1561⟩ d_X12_drawn_117 rfl (st := []) rfl (Nat.le_of_ble_eq_true rfl) (Nat.le_of_ble_eq_true rfl) (Nat.le_of_ble_eq_true rfl) (st2 := []) rfl ?_
    refine GW_iinc (j := 6) (X := X_X12_drawn) (pc := 120) d_X12_drawn_120 rfl (congrArg (fun z => _ + z) (by decide : Int32.ofInt 1 = (1 : Int32))) (Nat.le_of_ble_eq_true rfl) (lv2 := [(6, vi (l6 + 1)), (5, vi (l5 + v4)), (4, vi (l4 + v3)), (0, vr (some i1)), (1, vi l1), (2, vi l2), (3, vi l3), (7, vi l7)]) rfl ?_
    refine GW_goto (X := X_X12_drawn) (pc := 123) 65 d_X12_drawn_123 (by decide) ?_
    refine GW_sub [3, 4, 5, 6, 2, 1, 0] rfl ?_
    exact hk65 (some i1) l1 l2 l3 (l4 + v3) (l5 + v4) (l6 + 1) M5 h
  · replace h := g_ie c h
    refine GW_aload_n (X := X_X12_drawn) (pc := 80) d_X12_drawn_80 rfl 0 rfl ?_
    replace h := g_bd h
    obtain ⟨i6, hi6, h⟩ := h
    obtain ⟨rfl, ki6⟩ := g_gO hi6
    replace h := g_bd h
    obtain ⟨M7, hM7, h⟩ := h
    refine GW_callV (X := X_X12_drawn) (pc := 81) (bc0 := 0) (bs0 := 0) (r := none) (M2 := M7) (c0 := 12) (T_X12_drinks (some i6) M M7 hM7) (Nat.le_of_ble_eq_true rfl) (Nat.le_of_ble_eq_true rfl) rfl g_cok12 ki6 yc_X12_drinks ⟨m_1666, m_1668, m_112, m_127, m_1669⟩ d_X12_drawn_81 rfl (st := []) rfl (Nat.le_of_ble_eq_true rfl) (Nat.le_of_ble_eq_true rfl) (Nat.le_of_ble_eq_true rfl) (st2 := []) rfl ?_
    refine GW_aload_n (X := X_X12_drawn) (pc := 84) d_X12_drawn_84 rfl 0 rfl ?_
    replace h := g_bd h
    obtain ⟨_, kk8, h⟩ := h
    replace kk8 := g_gC kk8
    replace h := g_bd h
    obtain ⟨⟨v9, M10⟩, hv9, h⟩ := h
    dsimp only at h
    refine GW_callV (X := X_X12_drawn) (pc := 85) (bc0 := 0) (bs0 := 0) (r := some (vi v9)) (M2 := M10) (c0 := 12) (T_X12_passes (some i6) M7 (v9, M10) hv9) (Nat.le_of_ble_eq_true rfl) (Nat.le_of_ble_eq_true rfl) rfl g_cok12 kk8 yc_X12_passes ⟨m_1477, m_1479, m_87, m_127, m_1480⟩ d_X12_drawn_85 rfl (st := []) rfl (Nat.le_of_ble_eq_true rfl) (Nat.le_of_ble_eq_true rfl) (Nat.le_of_ble_eq_true rfl) (st2 := [vi v9]) rfl ?_
    refine GW_pop (X := X_X12_drawn) (pc := 88) d_X12_drawn_88 rfl ?_
    refine GW_iinc (j := 7) (X := X_X12_drawn) (pc := 89) d_X12_drawn_89 rfl (congrArg (fun z => _ + z) (by decide : Int32.ofInt 1 = (1 : Int32))) (Nat.le_of_ble_eq_true rfl) (lv2 := [(7, vi (l7 + 1)), (0, vr (some i6)), (1, vi l1), (2, vi l2), (3, vi l3), (4, vi l4), (5, vi l5), (6, vi l6)]) rfl ?_
    refine GW_goto (X := X_X12_drawn) (pc := 92) 74 d_X12_drawn_92 (by decide) ?_
    refine GW_sub [1, 2, 3, 4, 5, 6, 7, 0] rfl ?_
    exact hk74 (some i6) l1 l2 l3 l4 l5 l6 (l7 + 1) M10 h
def F_X12_drawn_L74 (k65 : Option Nat → Int32 → Int32 → Int32 → Int32 → Int32 → Int32 → gM → Option (Int32 × gM)) : Nat → Option Nat → Int32 → Int32 → Int32 → Int32 → Int32 → Int32 → Int32 → gM → Option (Int32 × gM)
  | 0 => fun _ _ _ _ _ _ _ _ _ => none
  | n + 1 => F_X12_drawn_b74 k65 (F_X12_drawn_L74 k65 n)
theorem T_X12_drawn_L74 (k65 : Option Nat → Int32 → Int32 → Int32 → Int32 → Int32 → Int32 → gM → Option (Int32 × gM)) (r : (Int32 × gM)) (hk65 : ∀ (l0 : Option Nat) (l1 : Int32) (l2 : Int32) (l3 : Int32) (l4 : Int32) (l5 : Int32) (l6 : Int32) (M : gM), k65 l0 l1 l2 l3 l4 l5 l6 M = some r → GW 5 0 0 X_X12_drawn 65 [(0, vr l0), (1, vi l1), (2, vi l2), (3, vi l3), (4, vi l4), (5, vi l5), (6, vi l6)] [] M (some (vi r.1), r.2)) : ∀ (n : Nat) (l0 : Option Nat) (l1 : Int32) (l2 : Int32) (l3 : Int32) (l4 : Int32) (l5 : Int32) (l6 : Int32) (l7 : Int32) (M : gM), F_X12_drawn_L74 k65 n l0 l1 l2 l3 l4 l5 l6 l7 M = some r → GW 5 0 0 X_X12_drawn 74 [(0, vr l0), (1, vi l1), (2, vi l2), (3, vi l3), (4, vi l4), (5, vi l5), (6, vi l6), (7, vi l7)] [] M (some (vi r.1), r.2) := by
  intro n
  induction n with
  | zero => intro l0 l1 l2 l3 l4 l5 l6 l7 M h; exact g_no h
  | succ n ih => intro l0 l1 l2 l3 l4 l5 l6 l7 M h; exact T_X12_drawn_b74 k65 (F_X12_drawn_L74 k65 n) r hk65 ih l0 l1 l2 l3 l4 l5 l6 l7 M h
def F_X12_drawn_b65 (k65 : Option Nat → Int32 → Int32 → Int32 → Int32 → Int32 → Int32 → gM → Option (Int32 × gM)) (l0 : Option Nat) (l1 : Int32) (l2 : Int32) (l3 : Int32) (l4 : Int32) (l5 : Int32) (l6 : Int32) (M : gM) : Option (Int32 × gM) :=
  if l1 ≤ l6 then (if l3 = 0 then (some (l4, M)) else (some (l5, M))) else (F_X12_drawn_L74 k65 g_fuel l0 l1 l2 l3 l4 l5 l6 (0 : Int32) M)
theorem T_X12_drawn_b65 (k65 : Option Nat → Int32 → Int32 → Int32 → Int32 → Int32 → Int32 → gM → Option (Int32 × gM)) (r : (Int32 × gM)) (hk65 : ∀ (l0 : Option Nat) (l1 : Int32) (l2 : Int32) (l3 : Int32) (l4 : Int32) (l5 : Int32) (l6 : Int32) (M : gM), k65 l0 l1 l2 l3 l4 l5 l6 M = some r → GW 5 0 0 X_X12_drawn 65 [(0, vr l0), (1, vi l1), (2, vi l2), (3, vi l3), (4, vi l4), (5, vi l5), (6, vi l6)] [] M (some (vi r.1), r.2)) (l0 : Option Nat) (l1 : Int32) (l2 : Int32) (l3 : Int32) (l4 : Int32) (l5 : Int32) (l6 : Int32) (M : gM) (h : F_X12_drawn_b65 k65 l0 l1 l2 l3 l4 l5 l6 M = some r) : GW 5 0 0 X_X12_drawn 65 [(0, vr l0), (1, vi l1), (2, vi l2), (3, vi l3), (4, vi l4), (5, vi l5), (6, vi l6)] [] M (some (vi r.1), r.2) := by
  delta F_X12_drawn_b65 at h
  refine GW_iload (X := X_X12_drawn) (pc := 65) d_X12_drawn_65 6 rfl ?_
  refine GW_iload_n (X := X_X12_drawn) (pc := 67) d_X12_drawn_67 rfl 1 rfl ?_
  refine GW_icmp_ge (X := X_X12_drawn) (pc := 68) 126 d_X12_drawn_68 (by decide) (fun c => ?_) (fun c => ?_)
  · replace h := g_ip c h
    refine GW_iload_n (X := X_X12_drawn) (pc := 126) d_X12_drawn_126 rfl 3 rfl ?_
    refine GW_if_ne (X := X_X12_drawn) (pc := 127) 135 d_X12_drawn_127 (by decide) (fun c => ?_) (fun c => ?_)
    · replace h := g_ie c h
      refine GW_iload (X := X_X12_drawn) (pc := 135) d_X12_drawn_135 5 rfl ?_
      replace h := Option.some.inj h
      subst h
      exact GW_ret (X := X_X12_drawn) (pc := 137) d_X12_drawn_137 rfl trivial
    · replace h := g_ip c h
      refine GW_iload (X := X_X12_drawn) (pc := 130) d_X12_drawn_130 4 rfl ?_
      refine GW_goto (X := X_X12_drawn) (pc := 132) 137 d_X12_drawn_132 (by decide) ?_
      replace h := Option.some.inj h
      subst h
      exact GW_ret (X := X_X12_drawn) (pc := 137) d_X12_drawn_137 rfl trivial
  · replace h := g_ie c h
    refine GW_iconst (X := X_X12_drawn) (pc := 71) (v := 0) d_X12_drawn_71 (by decide) ?_
    refine GW_istore (X := X_X12_drawn) (pc := 72) d_X12_drawn_72 (Nat.le_of_ble_eq_true rfl) (lv2 := [(7, vi (0 : Int32)), (0, vr l0), (1, vi l1), (2, vi l2), (3, vi l3), (4, vi l4), (5, vi l5), (6, vi l6)]) rfl ?_
    refine GW_sub [1, 2, 3, 4, 5, 6, 7, 0] rfl ?_
    exact T_X12_drawn_L74 k65 r hk65 g_fuel l0 l1 l2 l3 l4 l5 l6 (0 : Int32) M h
def F_X12_drawn_L65 : Nat → Option Nat → Int32 → Int32 → Int32 → Int32 → Int32 → Int32 → gM → Option (Int32 × gM)
  | 0 => fun _ _ _ _ _ _ _ _ => none
  | n + 1 => F_X12_drawn_b65 (F_X12_drawn_L65 n)
theorem T_X12_drawn_L65 (r : (Int32 × gM)) : ∀ (n : Nat) (l0 : Option Nat) (l1 : Int32) (l2 : Int32) (l3 : Int32) (l4 : Int32) (l5 : Int32) (l6 : Int32) (M : gM), F_X12_drawn_L65 n l0 l1 l2 l3 l4 l5 l6 M = some r → GW 5 0 0 X_X12_drawn 65 [(0, vr l0), (1, vi l1), (2, vi l2), (3, vi l3), (4, vi l4), (5, vi l5), (6, vi l6)] [] M (some (vi r.1), r.2) := by
  intro n
  induction n with
  | zero => intro l0 l1 l2 l3 l4 l5 l6 M h; exact g_no h
  | succ n ih => intro l0 l1 l2 l3 l4 l5 l6 M h; exact T_X12_drawn_b65 (F_X12_drawn_L65 n) r ih l0 l1 l2 l3 l4 l5 l6 M h
def F_X12_drawn_b0 (l0 : Option Nat) (l1 : Int32) (l2 : Int32) (l3 : Int32) (M : gM) : Option (Int32 × gM) :=
  (gO 12 M l0).bind fun i1 => (F_X12_isHouse (some i1) M).bind fun v2 => if v2 = 0 then (F_X12_drawn_b41 M) else ((F_X12_in (l1).toInt64 (1 : Int64) (10 : Int64) M).bind fun v3 => if v3 = 0 then (F_X12_drawn_b41 M) else ((F_X12_in (l2).toInt64 (1 : Int64) (60 : Int64) M).bind fun v4 => if v4 = 0 then (F_X12_drawn_b41 M) else ((F_X12_in (l3).toInt64 (0 : Int64) (1 : Int64) M).bind fun v5 => if v5 = 0 then (F_X12_drawn_b41 M) else ((gI 12 M (some i1) 22).bind fun v6 => (pL 12 M (some i1) 32 (v6).toInt64).bind fun M7 => (gC 12 M7 i1).bind fun _ => (F_X12_keeps (some i1) M7).bind fun M9 => F_X12_drawn_L65 g_fuel (some i1) l1 l2 l3 (0 : Int32) (0 : Int32) (0 : Int32) M9))))
set_option maxHeartbeats 1000000 in
theorem T_X12_drawn_b0 (r : (Int32 × gM)) (l0 : Option Nat) (l1 : Int32) (l2 : Int32) (l3 : Int32) (M : gM) (h : F_X12_drawn_b0 l0 l1 l2 l3 M = some r) : GW 5 0 0 X_X12_drawn 0 [(0, vr l0), (1, vi l1), (2, vi l2), (3, vi l3)] [] M (some (vi r.1), r.2) := by
  delta F_X12_drawn_b0 at h
  refine GW_aload_n (X := X_X12_drawn) (pc := 0) d_X12_drawn_0 rfl 0 rfl ?_
  replace h := g_bd h
  obtain ⟨i1, hi1, h⟩ := h
  obtain ⟨rfl, ki1⟩ := g_gO hi1
  replace h := g_bd h
  obtain ⟨v2, hv2, h⟩ := h
  refine GW_callV (X := X_X12_drawn) (pc := 1) (bc0 := 0) (bs0 := 0) (r := some (vi v2)) (M2 := M) (c0 := 12) (T_X12_isHouse (some i1) M v2 hv2) (Nat.le_of_ble_eq_true rfl) (Nat.le_of_ble_eq_true rfl) rfl g_cok12 ki1 yc_X12_isHouse ⟨m_1469, m_1471, m_85, m_127, m_1472⟩ d_X12_drawn_1 rfl (st := []) rfl (Nat.le_of_ble_eq_true rfl) (Nat.le_of_ble_eq_true rfl) (Nat.le_of_ble_eq_true rfl) (st2 := [vi v2]) rfl ?_
  refine GW_if_eq (X := X_X12_drawn) (pc := 4) 41 d_X12_drawn_4 (by decide) (fun c => ?_) (fun c => ?_)
  · replace h := g_ip c h
    refine GW_sub [] rfl ?_
    exact T_X12_drawn_b41 r M h
  · replace h := g_ie c h
    refine GW_iload_n (X := X_X12_drawn) (pc := 7) d_X12_drawn_7 rfl 1 rfl ?_
    refine GW_i2l (X := X_X12_drawn) (pc := 8) d_X12_drawn_8 ?_
    refine GW_lconst (X := X_X12_drawn) (pc := 9) (v := 1) d_X12_drawn_9 (by decide) ?_
    refine GW_ldc2 (X := X_X12_drawn) (pc := 10) d_X12_drawn_10 m_1664 ?_
    replace h := g_bd h
    obtain ⟨v3, hv3, h⟩ := h
    refine GW_callS (X := X_X12_drawn) (pc := 13) (bc0 := 0) (bs0 := 0) (r := some (vi v3)) (M2 := M) (T_X12_in (l1).toInt64 (1 : Int64) (10 : Int64) M v3 hv3) (Nat.le_of_ble_eq_true rfl) (Nat.le_of_ble_eq_true rfl) yc_X12_in ⟨m_1291, m_1292, m_127, m_1293⟩ d_X12_drawn_13 rfl (st := []) rfl (Nat.le_of_ble_eq_true rfl) (Nat.le_of_ble_eq_true rfl) (Nat.le_of_ble_eq_true rfl) (st2 := [vi v3]) rfl ?_
    refine GW_if_eq (X := X_X12_drawn) (pc := 16) 41 d_X12_drawn_16 (by decide) (fun c => ?_) (fun c => ?_)
    · replace h := g_ip c h
      refine GW_sub [] rfl ?_
      exact T_X12_drawn_b41 r M h
    · replace h := g_ie c h
      refine GW_iload_n (X := X_X12_drawn) (pc := 19) d_X12_drawn_19 rfl 2 rfl ?_
      refine GW_i2l (X := X_X12_drawn) (pc := 20) d_X12_drawn_20 ?_
      refine GW_lconst (X := X_X12_drawn) (pc := 21) (v := 1) d_X12_drawn_21 (by decide) ?_
      refine GW_ldc2 (X := X_X12_drawn) (pc := 22) d_X12_drawn_22 m_1665 ?_
      replace h := g_bd h
      obtain ⟨v4, hv4, h⟩ := h
      refine GW_callS (X := X_X12_drawn) (pc := 25) (bc0 := 0) (bs0 := 0) (r := some (vi v4)) (M2 := M) (T_X12_in (l2).toInt64 (1 : Int64) (60 : Int64) M v4 hv4) (Nat.le_of_ble_eq_true rfl) (Nat.le_of_ble_eq_true rfl) yc_X12_in ⟨m_1291, m_1292, m_127, m_1293⟩ d_X12_drawn_25 rfl (st := []) rfl (Nat.le_of_ble_eq_true rfl) (Nat.le_of_ble_eq_true rfl) (Nat.le_of_ble_eq_true rfl) (st2 := [vi v4]) rfl ?_
      refine GW_if_eq (X := X_X12_drawn) (pc := 28) 41 d_X12_drawn_28 (by decide) (fun c => ?_) (fun c => ?_)
      · replace h := g_ip c h
        refine GW_sub [] rfl ?_
        exact T_X12_drawn_b41 r M h
      · replace h := g_ie c h
        refine GW_iload_n (X := X_X12_drawn) (pc := 31) d_X12_drawn_31 rfl 3 rfl ?_
        refine GW_i2l (X := X_X12_drawn) (pc := 32) d_X12_drawn_32 ?_
        refine GW_lconst (X := X_X12_drawn) (pc := 33) (v := 0) d_X12_drawn_33 (by decide) ?_
        refine GW_lconst (X := X_X12_drawn) (pc := 34) (v := 1) d_X12_drawn_34 (by decide) ?_
        replace h := g_bd h
        obtain ⟨v5, hv5, h⟩ := h
        refine GW_callS (X := X_X12_drawn) (pc := 35) (bc0 := 0) (bs0 := 0) (r := some (vi v5)) (M2 := M) (T_X12_in (l3).toInt64 (0 : Int64) (1 : Int64) M v5 hv5) (Nat.le_of_ble_eq_true rfl) (Nat.le_of_ble_eq_true rfl) yc_X12_in ⟨m_1291, m_1292, m_127, m_1293⟩ d_X12_drawn_35 rfl (st := []) rfl (Nat.le_of_ble_eq_true rfl) (Nat.le_of_ble_eq_true rfl) (Nat.le_of_ble_eq_true rfl) (st2 := [vi v5]) rfl ?_
        refine GW_if_ne (X := X_X12_drawn) (pc := 38) 43 d_X12_drawn_38 (by decide) (fun c => ?_) (fun c => ?_)
        · replace h := g_ie c h
          refine GW_aload_n (X := X_X12_drawn) (pc := 43) d_X12_drawn_43 rfl 0 rfl ?_
          refine GW_aload_n (X := X_X12_drawn) (pc := 44) d_X12_drawn_44 rfl 0 rfl ?_
          replace h := g_bd h
          obtain ⟨v6, hv6, h⟩ := h
          refine GW_getI (X := X_X12_drawn) (pc := 45) f_X12_427 d_X12_drawn_45 hv6 (Or.inl ty_12_22) ?_
          refine GW_i2l (X := X_X12_drawn) (pc := 48) d_X12_drawn_48 ?_
          replace h := g_bd h
          obtain ⟨M7, hM7, h⟩ := h
          refine GW_putL (X := X_X12_drawn) (pc := 49) f_X12_430 d_X12_drawn_49 hM7 (Or.inl fi_12_32) ty_12_32 ?_
          refine GW_iconst (X := X_X12_drawn) (pc := 52) (v := 0) d_X12_drawn_52 (by decide) ?_
          refine GW_istore (X := X_X12_drawn) (pc := 53) d_X12_drawn_53 (Nat.le_of_ble_eq_true rfl) (lv2 := [(4, vi (0 : Int32)), (0, vr (some i1)), (1, vi l1), (2, vi l2), (3, vi l3)]) rfl ?_
          refine GW_iconst (X := X_X12_drawn) (pc := 55) (v := 0) d_X12_drawn_55 (by decide) ?_
          refine GW_istore (X := X_X12_drawn) (pc := 56) d_X12_drawn_56 (Nat.le_of_ble_eq_true rfl) (lv2 := [(5, vi (0 : Int32)), (4, vi (0 : Int32)), (0, vr (some i1)), (1, vi l1), (2, vi l2), (3, vi l3)]) rfl ?_
          refine GW_aload_n (X := X_X12_drawn) (pc := 58) d_X12_drawn_58 rfl 2 rfl ?_
          replace h := g_bd h
          obtain ⟨_, kk8, h⟩ := h
          replace kk8 := g_gC kk8
          replace h := g_bd h
          obtain ⟨M9, hM9, h⟩ := h
          refine GW_callV (X := X_X12_drawn) (pc := 59) (bc0 := 0) (bs0 := 0) (r := none) (M2 := M9) (c0 := 12) (T_X12_keeps (some i1) M7 M9 hM9) (Nat.le_of_ble_eq_true rfl) (Nat.le_of_ble_eq_true rfl) rfl g_cok12 kk8 yc_X12_keeps ⟨m_1554, m_1556, m_100, m_127, m_1557⟩ d_X12_drawn_59 rfl (st := []) rfl (Nat.le_of_ble_eq_true rfl) (Nat.le_of_ble_eq_true rfl) (Nat.le_of_ble_eq_true rfl) (st2 := []) rfl ?_
          refine GW_iconst (X := X_X12_drawn) (pc := 62) (v := 0) d_X12_drawn_62 (by decide) ?_
          refine GW_istore (X := X_X12_drawn) (pc := 63) d_X12_drawn_63 (Nat.le_of_ble_eq_true rfl) (lv2 := [(6, vi (0 : Int32)), (5, vi (0 : Int32)), (4, vi (0 : Int32)), (0, vr (some i1)), (1, vi l1), (2, vi l2), (3, vi l3)]) rfl ?_
          refine GW_sub [3, 4, 5, 6, 2, 1, 0] rfl ?_
          exact T_X12_drawn_L65 r g_fuel (some i1) l1 l2 l3 (0 : Int32) (0 : Int32) (0 : Int32) M9 h
        · replace h := g_ip c h
          refine GW_sub [] rfl ?_
          exact T_X12_drawn_b41 r M h
def F_X12_drawn (l0 : Option Nat) (l1 : Int32) (l2 : Int32) (l3 : Int32) (M : gM) : Option (Int32 × gM) := F_X12_drawn_b0 l0 l1 l2 l3 M
theorem T_X12_drawn (l0 : Option Nat) (l1 : Int32) (l2 : Int32) (l3 : Int32) (M : gM) (r : (Int32 × gM)) (h : F_X12_drawn l0 l1 l2 l3 M = some r) : g_Met 5 0 0 yX12_drawn X_X12_drawn [vr l0, vi l1, vi l2, vi l3] M (some (vi r.1), r.2) :=
  g_Met_of pn_RX12 rfl (Nat.le_of_ble_eq_true rfl) (fun h => by cases h) (GW_sub [0, 1, 2, 3] rfl (T_X12_drawn_b0 r l0 l1 l2 l3 M h))
/-! ForgetHeirs.count(I)I -/
theorem d_X11_count_0 : decode cX11_count 0 = .ok (.iload_n 1, 1) := by decide +kernel
theorem d_X11_count_1 : decode cX11_count 1 = .ok (.tableswitch 158 0 11 #[63, 71, 79, 87, 92, 97, 105, 113, 125, 137, 145, 150], 63) := by decide +kernel
theorem d_X11_count_64 : decode cX11_count 64 = .ok (.aload_n 0, 1) := by decide +kernel
theorem d_X11_count_65 : decode cX11_count 65 = .ok (.getfield 59, 3) := by decide +kernel
theorem d_X11_count_68 : decode cX11_count 68 = .ok (.getfield 184, 3) := by decide +kernel
theorem d_X11_count_71 : decode cX11_count 71 = .ok (.ireturn, 1) := by decide +kernel
theorem d_X11_count_72 : decode cX11_count 72 = .ok (.aload_n 0, 1) := by decide +kernel
theorem d_X11_count_73 : decode cX11_count 73 = .ok (.getfield 59, 3) := by decide +kernel
theorem d_X11_count_76 : decode cX11_count 76 = .ok (.getfield 121, 3) := by decide +kernel
theorem d_X11_count_79 : decode cX11_count 79 = .ok (.ireturn, 1) := by decide +kernel
theorem d_X11_count_80 : decode cX11_count 80 = .ok (.aload_n 0, 1) := by decide +kernel
theorem d_X11_count_81 : decode cX11_count 81 = .ok (.getfield 59, 3) := by decide +kernel
theorem d_X11_count_84 : decode cX11_count 84 = .ok (.getfield 187, 3) := by decide +kernel
theorem d_X11_count_87 : decode cX11_count 87 = .ok (.ireturn, 1) := by decide +kernel
theorem d_X11_count_88 : decode cX11_count 88 = .ok (.aload_n 0, 1) := by decide +kernel
theorem d_X11_count_89 : decode cX11_count 89 = .ok (.getfield 63, 3) := by decide +kernel
theorem d_X11_count_92 : decode cX11_count 92 = .ok (.ireturn, 1) := by decide +kernel
theorem d_X11_count_93 : decode cX11_count 93 = .ok (.aload_n 0, 1) := by decide +kernel
theorem d_X11_count_94 : decode cX11_count 94 = .ok (.getfield 67, 3) := by decide +kernel
theorem d_X11_count_97 : decode cX11_count 97 = .ok (.ireturn, 1) := by decide +kernel
theorem d_X11_count_98 : decode cX11_count 98 = .ok (.aload_n 0, 1) := by decide +kernel
theorem d_X11_count_99 : decode cX11_count 99 = .ok (.getfield 25, 3) := by decide +kernel
theorem d_X11_count_102 : decode cX11_count 102 = .ok (.getfield 190, 3) := by decide +kernel
theorem d_X11_count_105 : decode cX11_count 105 = .ok (.ireturn, 1) := by decide +kernel
theorem d_X11_count_106 : decode cX11_count 106 = .ok (.aload_n 0, 1) := by decide +kernel
theorem d_X11_count_107 : decode cX11_count 107 = .ok (.getfield 25, 3) := by decide +kernel
theorem d_X11_count_110 : decode cX11_count 110 = .ok (.getfield 193, 3) := by decide +kernel
theorem d_X11_count_113 : decode cX11_count 113 = .ok (.ireturn, 1) := by decide +kernel
theorem d_X11_count_114 : decode cX11_count 114 = .ok (.aload_n 0, 1) := by decide +kernel
theorem d_X11_count_115 : decode cX11_count 115 = .ok (.getfield 25, 3) := by decide +kernel
theorem d_X11_count_118 : decode cX11_count 118 = .ok (.aload_n 0, 1) := by decide +kernel
theorem d_X11_count_119 : decode cX11_count 119 = .ok (.getfield 59, 3) := by decide +kernel
theorem d_X11_count_122 : decode cX11_count 122 = .ok (.invokevirtual 196, 3) := by decide +kernel
theorem d_X11_count_125 : decode cX11_count 125 = .ok (.ireturn, 1) := by decide +kernel
theorem d_X11_count_126 : decode cX11_count 126 = .ok (.aload_n 0, 1) := by decide +kernel
theorem d_X11_count_127 : decode cX11_count 127 = .ok (.getfield 25, 3) := by decide +kernel
theorem d_X11_count_130 : decode cX11_count 130 = .ok (.aload_n 0, 1) := by decide +kernel
theorem d_X11_count_131 : decode cX11_count 131 = .ok (.getfield 59, 3) := by decide +kernel
theorem d_X11_count_134 : decode cX11_count 134 = .ok (.invokevirtual 200, 3) := by decide +kernel
theorem d_X11_count_137 : decode cX11_count 137 = .ok (.ireturn, 1) := by decide +kernel
theorem d_X11_count_138 : decode cX11_count 138 = .ok (.aload_n 0, 1) := by decide +kernel
theorem d_X11_count_139 : decode cX11_count 139 = .ok (.getfield 35, 3) := by decide +kernel
theorem d_X11_count_142 : decode cX11_count 142 = .ok (.getfield 203, 3) := by decide +kernel
theorem d_X11_count_145 : decode cX11_count 145 = .ok (.ireturn, 1) := by decide +kernel
theorem d_X11_count_146 : decode cX11_count 146 = .ok (.aload_n 0, 1) := by decide +kernel
theorem d_X11_count_147 : decode cX11_count 147 = .ok (.getfield 70, 3) := by decide +kernel
theorem d_X11_count_150 : decode cX11_count 150 = .ok (.ireturn, 1) := by decide +kernel
theorem d_X11_count_151 : decode cX11_count 151 = .ok (.aload_n 0, 1) := by decide +kernel
theorem d_X11_count_152 : decode cX11_count 152 = .ok (.getfield 76, 3) := by decide +kernel
theorem d_X11_count_155 : decode cX11_count 155 = .ok (.getfield 97, 3) := by decide +kernel
theorem d_X11_count_158 : decode cX11_count 158 = .ok (.ireturn, 1) := by decide +kernel
theorem d_X11_count_159 : decode cX11_count 159 = .ok (.iconst (-1), 1) := by decide +kernel
theorem d_X11_count_160 : decode cX11_count 160 = .ok (.ireturn, 1) := by decide +kernel
abbrev X_X11_count : gX := (RX11, cX11_count, 2, (some .int), false)
def F_X11_count_b0 (M : gM) (l0 : Option Nat) (l1 : Int32) : Option Int32 :=
  if l1 = (0 : Int32) then ((gR 11 M l0 11).bind fun v1 => (gI 1 M v1 6).bind fun v2 => some v2) else if l1 = (1 : Int32) then ((gR 11 M l0 11).bind fun v3 => (gI 1 M v3 7).bind fun v4 => some v4) else if l1 = (2 : Int32) then ((gR 11 M l0 11).bind fun v5 => (gI 1 M v5 8).bind fun v6 => some v6) else if l1 = (3 : Int32) then ((gI 11 M l0 12).bind fun v7 => some v7) else if l1 = (4 : Int32) then ((gI 11 M l0 13).bind fun v8 => some v8) else if l1 = (5 : Int32) then ((gR 11 M l0 5).bind fun v9 => (gI 8 M v9 5).bind fun v10 => some v10) else if l1 = (6 : Int32) then ((gR 11 M l0 5).bind fun v11 => (gI 8 M v11 6).bind fun v12 => some v12) else if l1 = (7 : Int32) then ((gR 11 M l0 5).bind fun v13 => (gR 11 M l0 11).bind fun v14 => (gO 8 M v13).bind fun i15 => (F_X8_standing (some i15) v14 M).bind fun v16 => some v16) else if l1 = (8 : Int32) then ((gR 11 M l0 5).bind fun v17 => (gR 11 M l0 11).bind fun v18 => (gO 8 M v17).bind fun i19 => (F_X8_heldTogether (some i19) v18 M).bind fun v20 => some v20) else if l1 = (9 : Int32) then ((gR 11 M l0 7).bind fun v21 => (gI 4 M v21 2).bind fun v22 => some v22) else if l1 = (10 : Int32) then ((gI 11 M l0 14).bind fun v23 => some v23) else if l1 = (11 : Int32) then ((gR 11 M l0 0).bind fun v24 => (gI 9 M v24 6).bind fun v25 => some v25) else (some (-1 : Int32))
set_option maxHeartbeats 4000000 in
theorem T_X11_count_b0 (M : gM) (r : Int32) (l0 : Option Nat) (l1 : Int32) (h : F_X11_count_b0 M l0 l1 = some r) : GW 3 0 0 X_X11_count 0 [(0, vr l0), (1, vi l1)] [] M (some (vi r), M) := by
  delta F_X11_count_b0 at h
  refine GW_iload_n (X := X_X11_count) (pc := 0) d_X11_count_0 rfl 1 rfl ?_
  by_cases c0 : l1 = (0 : Int32)
  · replace h := g_ip c0 h
    refine GW_tableIn (X := X_X11_count) (pc := 1) 64 d_X11_count_1 (by rw [c0]; decide) (by rw [c0]; decide) (off := 63) (by rw [c0]; rfl) (by decide) ?_
    refine GW_aload_n (X := X_X11_count) (pc := 64) d_X11_count_64 rfl 0 rfl ?_
    replace h := g_bd h
    obtain ⟨v1, hv1, h⟩ := h
    refine GW_getR (X := X_X11_count) (pc := 65) f_X11_59 d_X11_count_65 hv1 (Or.inl ⟨_, ty_11_11⟩) ?_
    replace h := g_bd h
    obtain ⟨v2, hv2, h⟩ := h
    refine GW_getI (X := X_X11_count) (pc := 68) f_X11_184 d_X11_count_68 hv2 (Or.inl ty_1_6) ?_
    replace h := Option.some.inj h
    subst h
    exact GW_ret (X := X_X11_count) (pc := 71) d_X11_count_71 rfl trivial
  · replace h := g_ie c0 h
    by_cases c1 : l1 = (1 : Int32)
    · replace h := g_ip c1 h
      refine GW_tableIn (X := X_X11_count) (pc := 1) 72 d_X11_count_1 (by rw [c1]; decide) (by rw [c1]; decide) (off := 71) (by rw [c1]; rfl) (by decide) ?_
      refine GW_aload_n (X := X_X11_count) (pc := 72) d_X11_count_72 rfl 0 rfl ?_
      replace h := g_bd h
      obtain ⟨v3, hv3, h⟩ := h
      refine GW_getR (X := X_X11_count) (pc := 73) f_X11_59 d_X11_count_73 hv3 (Or.inl ⟨_, ty_11_11⟩) ?_
      replace h := g_bd h
      obtain ⟨v4, hv4, h⟩ := h
      refine GW_getI (X := X_X11_count) (pc := 76) f_X11_121 d_X11_count_76 hv4 (Or.inl ty_1_7) ?_
      replace h := Option.some.inj h
      subst h
      exact GW_ret (X := X_X11_count) (pc := 79) d_X11_count_79 rfl trivial
    · replace h := g_ie c1 h
      by_cases c2 : l1 = (2 : Int32)
      · replace h := g_ip c2 h
        refine GW_tableIn (X := X_X11_count) (pc := 1) 80 d_X11_count_1 (by rw [c2]; decide) (by rw [c2]; decide) (off := 79) (by rw [c2]; rfl) (by decide) ?_
        refine GW_aload_n (X := X_X11_count) (pc := 80) d_X11_count_80 rfl 0 rfl ?_
        replace h := g_bd h
        obtain ⟨v5, hv5, h⟩ := h
        refine GW_getR (X := X_X11_count) (pc := 81) f_X11_59 d_X11_count_81 hv5 (Or.inl ⟨_, ty_11_11⟩) ?_
        replace h := g_bd h
        obtain ⟨v6, hv6, h⟩ := h
        refine GW_getI (X := X_X11_count) (pc := 84) f_X11_187 d_X11_count_84 hv6 (Or.inl ty_1_8) ?_
        replace h := Option.some.inj h
        subst h
        exact GW_ret (X := X_X11_count) (pc := 87) d_X11_count_87 rfl trivial
      · replace h := g_ie c2 h
        by_cases c3 : l1 = (3 : Int32)
        · replace h := g_ip c3 h
          refine GW_tableIn (X := X_X11_count) (pc := 1) 88 d_X11_count_1 (by rw [c3]; decide) (by rw [c3]; decide) (off := 87) (by rw [c3]; rfl) (by decide) ?_
          refine GW_aload_n (X := X_X11_count) (pc := 88) d_X11_count_88 rfl 0 rfl ?_
          replace h := g_bd h
          obtain ⟨v7, hv7, h⟩ := h
          refine GW_getI (X := X_X11_count) (pc := 89) f_X11_63 d_X11_count_89 hv7 (Or.inl ty_11_12) ?_
          replace h := Option.some.inj h
          subst h
          exact GW_ret (X := X_X11_count) (pc := 92) d_X11_count_92 rfl trivial
        · replace h := g_ie c3 h
          by_cases c4 : l1 = (4 : Int32)
          · replace h := g_ip c4 h
            refine GW_tableIn (X := X_X11_count) (pc := 1) 93 d_X11_count_1 (by rw [c4]; decide) (by rw [c4]; decide) (off := 92) (by rw [c4]; rfl) (by decide) ?_
            refine GW_aload_n (X := X_X11_count) (pc := 93) d_X11_count_93 rfl 0 rfl ?_
            replace h := g_bd h
            obtain ⟨v8, hv8, h⟩ := h
            refine GW_getI (X := X_X11_count) (pc := 94) f_X11_67 d_X11_count_94 hv8 (Or.inl ty_11_13) ?_
            replace h := Option.some.inj h
            subst h
            exact GW_ret (X := X_X11_count) (pc := 97) d_X11_count_97 rfl trivial
          · replace h := g_ie c4 h
            by_cases c5 : l1 = (5 : Int32)
            · replace h := g_ip c5 h
              refine GW_tableIn (X := X_X11_count) (pc := 1) 98 d_X11_count_1 (by rw [c5]; decide) (by rw [c5]; decide) (off := 97) (by rw [c5]; rfl) (by decide) ?_
              refine GW_aload_n (X := X_X11_count) (pc := 98) d_X11_count_98 rfl 0 rfl ?_
              replace h := g_bd h
              obtain ⟨v9, hv9, h⟩ := h
              refine GW_getR (X := X_X11_count) (pc := 99) f_X11_25 d_X11_count_99 hv9 (Or.inl ⟨_, ty_11_5⟩) ?_
              replace h := g_bd h
              obtain ⟨v10, hv10, h⟩ := h
              refine GW_getI (X := X_X11_count) (pc := 102) f_X11_190 d_X11_count_102 hv10 (Or.inl ty_8_5) ?_
              replace h := Option.some.inj h
              subst h
              exact GW_ret (X := X_X11_count) (pc := 105) d_X11_count_105 rfl trivial
            · replace h := g_ie c5 h
              by_cases c6 : l1 = (6 : Int32)
              · replace h := g_ip c6 h
                refine GW_tableIn (X := X_X11_count) (pc := 1) 106 d_X11_count_1 (by rw [c6]; decide) (by rw [c6]; decide) (off := 105) (by rw [c6]; rfl) (by decide) ?_
                refine GW_aload_n (X := X_X11_count) (pc := 106) d_X11_count_106 rfl 0 rfl ?_
                replace h := g_bd h
                obtain ⟨v11, hv11, h⟩ := h
                refine GW_getR (X := X_X11_count) (pc := 107) f_X11_25 d_X11_count_107 hv11 (Or.inl ⟨_, ty_11_5⟩) ?_
                replace h := g_bd h
                obtain ⟨v12, hv12, h⟩ := h
                refine GW_getI (X := X_X11_count) (pc := 110) f_X11_193 d_X11_count_110 hv12 (Or.inl ty_8_6) ?_
                replace h := Option.some.inj h
                subst h
                exact GW_ret (X := X_X11_count) (pc := 113) d_X11_count_113 rfl trivial
              · replace h := g_ie c6 h
                by_cases c7 : l1 = (7 : Int32)
                · replace h := g_ip c7 h
                  refine GW_tableIn (X := X_X11_count) (pc := 1) 114 d_X11_count_1 (by rw [c7]; decide) (by rw [c7]; decide) (off := 113) (by rw [c7]; rfl) (by decide) ?_
                  refine GW_aload_n (X := X_X11_count) (pc := 114) d_X11_count_114 rfl 0 rfl ?_
                  replace h := g_bd h
                  obtain ⟨v13, hv13, h⟩ := h
                  refine GW_getR (X := X_X11_count) (pc := 115) f_X11_25 d_X11_count_115 hv13 (Or.inl ⟨_, ty_11_5⟩) ?_
                  refine GW_aload_n (X := X_X11_count) (pc := 118) d_X11_count_118 rfl 0 rfl ?_
                  replace h := g_bd h
                  obtain ⟨v14, hv14, h⟩ := h
                  refine GW_getR (X := X_X11_count) (pc := 119) f_X11_59 d_X11_count_119 hv14 (Or.inl ⟨_, ty_11_11⟩) ?_
                  replace h := g_bd h
                  obtain ⟨i15, hi15, h⟩ := h
                  obtain ⟨rfl, ki15⟩ := g_gO hi15
                  replace h := g_bd h
                  obtain ⟨v16, hv16, h⟩ := h
                  refine GW_callV (X := X_X11_count) (pc := 122) (bc0 := 0) (bs0 := 0) (r := some (vi v16)) (M2 := M) (c0 := 8) (T_X8_standing (some i15) v14 M v16 hv16) (Nat.le_of_ble_eq_true rfl) (Nat.le_of_ble_eq_true rfl) rfl g_cok8 ki15 yc_X8_standing ⟨m_807, m_808, m_809, m_119, m_810⟩ d_X11_count_122 rfl (st := []) rfl (Nat.le_of_ble_eq_true rfl) (Nat.le_of_ble_eq_true rfl) (Nat.le_of_ble_eq_true rfl) (st2 := [vi v16]) rfl ?_
                  replace h := Option.some.inj h
                  subst h
                  exact GW_ret (X := X_X11_count) (pc := 125) d_X11_count_125 rfl trivial
                · replace h := g_ie c7 h
                  by_cases c8 : l1 = (8 : Int32)
                  · replace h := g_ip c8 h
                    refine GW_tableIn (X := X_X11_count) (pc := 1) 126 d_X11_count_1 (by rw [c8]; decide) (by rw [c8]; decide) (off := 125) (by rw [c8]; rfl) (by decide) ?_
                    refine GW_aload_n (X := X_X11_count) (pc := 126) d_X11_count_126 rfl 0 rfl ?_
                    replace h := g_bd h
                    obtain ⟨v17, hv17, h⟩ := h
                    refine GW_getR (X := X_X11_count) (pc := 127) f_X11_25 d_X11_count_127 hv17 (Or.inl ⟨_, ty_11_5⟩) ?_
                    refine GW_aload_n (X := X_X11_count) (pc := 130) d_X11_count_130 rfl 0 rfl ?_
                    replace h := g_bd h
                    obtain ⟨v18, hv18, h⟩ := h
                    refine GW_getR (X := X_X11_count) (pc := 131) f_X11_59 d_X11_count_131 hv18 (Or.inl ⟨_, ty_11_11⟩) ?_
                    replace h := g_bd h
                    obtain ⟨i19, hi19, h⟩ := h
                    obtain ⟨rfl, ki19⟩ := g_gO hi19
                    replace h := g_bd h
                    obtain ⟨v20, hv20, h⟩ := h
                    refine GW_callV (X := X_X11_count) (pc := 134) (bc0 := 0) (bs0 := 0) (r := some (vi v20)) (M2 := M) (c0 := 8) (T_X8_heldTogether (some i19) v18 M v20 hv20) (Nat.le_of_ble_eq_true rfl) (Nat.le_of_ble_eq_true rfl) rfl g_cok8 ki19 yc_X8_heldTogether ⟨m_811, m_812, m_813, m_119, m_814⟩ d_X11_count_134 rfl (st := []) rfl (Nat.le_of_ble_eq_true rfl) (Nat.le_of_ble_eq_true rfl) (Nat.le_of_ble_eq_true rfl) (st2 := [vi v20]) rfl ?_
                    replace h := Option.some.inj h
                    subst h
                    exact GW_ret (X := X_X11_count) (pc := 137) d_X11_count_137 rfl trivial
                  · replace h := g_ie c8 h
                    by_cases c9 : l1 = (9 : Int32)
                    · replace h := g_ip c9 h
                      refine GW_tableIn (X := X_X11_count) (pc := 1) 138 d_X11_count_1 (by rw [c9]; decide) (by rw [c9]; decide) (off := 137) (by rw [c9]; rfl) (by decide) ?_
                      refine GW_aload_n (X := X_X11_count) (pc := 138) d_X11_count_138 rfl 0 rfl ?_
                      replace h := g_bd h
                      obtain ⟨v21, hv21, h⟩ := h
                      refine GW_getR (X := X_X11_count) (pc := 139) f_X11_35 d_X11_count_139 hv21 (Or.inl ⟨_, ty_11_7⟩) ?_
                      replace h := g_bd h
                      obtain ⟨v22, hv22, h⟩ := h
                      refine GW_getI (X := X_X11_count) (pc := 142) f_X11_203 d_X11_count_142 hv22 (Or.inl ty_4_2) ?_
                      replace h := Option.some.inj h
                      subst h
                      exact GW_ret (X := X_X11_count) (pc := 145) d_X11_count_145 rfl trivial
                    · replace h := g_ie c9 h
                      by_cases c10 : l1 = (10 : Int32)
                      · replace h := g_ip c10 h
                        refine GW_tableIn (X := X_X11_count) (pc := 1) 146 d_X11_count_1 (by rw [c10]; decide) (by rw [c10]; decide) (off := 145) (by rw [c10]; rfl) (by decide) ?_
                        refine GW_aload_n (X := X_X11_count) (pc := 146) d_X11_count_146 rfl 0 rfl ?_
                        replace h := g_bd h
                        obtain ⟨v23, hv23, h⟩ := h
                        refine GW_getI (X := X_X11_count) (pc := 147) f_X11_70 d_X11_count_147 hv23 (Or.inl ty_11_14) ?_
                        replace h := Option.some.inj h
                        subst h
                        exact GW_ret (X := X_X11_count) (pc := 150) d_X11_count_150 rfl trivial
                      · replace h := g_ie c10 h
                        by_cases c11 : l1 = (11 : Int32)
                        · replace h := g_ip c11 h
                          refine GW_tableIn (X := X_X11_count) (pc := 1) 151 d_X11_count_1 (by rw [c11]; decide) (by rw [c11]; decide) (off := 150) (by rw [c11]; rfl) (by decide) ?_
                          refine GW_aload_n (X := X_X11_count) (pc := 151) d_X11_count_151 rfl 0 rfl ?_
                          replace h := g_bd h
                          obtain ⟨v24, hv24, h⟩ := h
                          refine GW_getR (X := X_X11_count) (pc := 152) f_X11_76 d_X11_count_152 hv24 (Or.inl ⟨_, ty_11_0⟩) ?_
                          replace h := g_bd h
                          obtain ⟨v25, hv25, h⟩ := h
                          refine GW_getI (X := X_X11_count) (pc := 155) f_X11_97 d_X11_count_155 hv25 (Or.inl ty_9_6) ?_
                          replace h := Option.some.inj h
                          subst h
                          exact GW_ret (X := X_X11_count) (pc := 158) d_X11_count_158 rfl trivial
                        · replace h := g_ie c11 h
                          have n0 := g_nk (k := 0) c0 (by decide)
                          have n1 := g_nk (k := 1) c1 (by decide)
                          have n2 := g_nk (k := 2) c2 (by decide)
                          have n3 := g_nk (k := 3) c3 (by decide)
                          have n4 := g_nk (k := 4) c4 (by decide)
                          have n5 := g_nk (k := 5) c5 (by decide)
                          have n6 := g_nk (k := 6) c6 (by decide)
                          have n7 := g_nk (k := 7) c7 (by decide)
                          have n8 := g_nk (k := 8) c8 (by decide)
                          have n9 := g_nk (k := 9) c9 (by decide)
                          have n10 := g_nk (k := 10) c10 (by decide)
                          have n11 := g_nk (k := 11) c11 (by decide)
                          refine GW_tableOut (X := X_X11_count) (pc := 1) 159 d_X11_count_1 (by omega) (by decide) ?_
                          refine GW_iconst (X := X_X11_count) (pc := 159) (v := -1) d_X11_count_159 (by decide) ?_
                          replace h := Option.some.inj h
                          subst h
                          exact GW_ret (X := X_X11_count) (pc := 160) d_X11_count_160 rfl trivial
def F_X11_count (l0 : Option Nat) (l1 : Int32) (M : gM) : Option Int32 := F_X11_count_b0 M l0 l1
theorem T_X11_count (l0 : Option Nat) (l1 : Int32) (M : gM) (r : Int32) (h : F_X11_count l0 l1 M = some r) : g_Met 3 0 0 yX11_count X_X11_count [vr l0, vi l1] M (some (vi r), M) :=
  g_Met_of pn_RX11 rfl (Nat.le_of_ble_eq_true rfl) (fun h => by cases h) (GW_sub [0, 1] rfl (T_X11_count_b0 M r l0 l1 h))
/-! ForgetHeirsModel.count(I)I -/
theorem d_X12_count_0 : decode cX12_count 0 = .ok (.iload_n 1, 1) := by decide +kernel
theorem d_X12_count_1 : decode cX12_count 1 = .ok (.tableswitch 121 0 11 #[63, 63, 63, 72, 77, 82, 89, 96, 101, 106, 111, 116], 63) := by decide +kernel
theorem d_X12_count_64 : decode cX12_count 64 = .ok (.aload_n 0, 1) := by decide +kernel
theorem d_X12_count_65 : decode cX12_count 65 = .ok (.getfield 39, 3) := by decide +kernel
theorem d_X12_count_68 : decode cX12_count 68 = .ok (.iload_n 1, 1) := by decide +kernel
theorem d_X12_count_69 : decode cX12_count 69 = .ok (.iconst 1, 1) := by decide +kernel
theorem d_X12_count_70 : decode cX12_count 70 = .ok (.iadd, 1) := by decide +kernel
theorem d_X12_count_71 : decode cX12_count 71 = .ok (.iaload, 1) := by decide +kernel
theorem d_X12_count_72 : decode cX12_count 72 = .ok (.ireturn, 1) := by decide +kernel
theorem d_X12_count_73 : decode cX12_count 73 = .ok (.aload_n 0, 1) := by decide +kernel
theorem d_X12_count_74 : decode cX12_count 74 = .ok (.getfield 273, 3) := by decide +kernel
theorem d_X12_count_77 : decode cX12_count 77 = .ok (.ireturn, 1) := by decide +kernel
theorem d_X12_count_78 : decode cX12_count 78 = .ok (.aload_n 0, 1) := by decide +kernel
theorem d_X12_count_79 : decode cX12_count 79 = .ok (.getfield 42, 3) := by decide +kernel
theorem d_X12_count_82 : decode cX12_count 82 = .ok (.ireturn, 1) := by decide +kernel
theorem d_X12_count_83 : decode cX12_count 83 = .ok (.aload_n 0, 1) := by decide +kernel
theorem d_X12_count_84 : decode cX12_count 84 = .ok (.getfield 39, 3) := by decide +kernel
theorem d_X12_count_87 : decode cX12_count 87 = .ok (.iconst 4, 1) := by decide +kernel
theorem d_X12_count_88 : decode cX12_count 88 = .ok (.iaload, 1) := by decide +kernel
theorem d_X12_count_89 : decode cX12_count 89 = .ok (.ireturn, 1) := by decide +kernel
theorem d_X12_count_90 : decode cX12_count 90 = .ok (.aload_n 0, 1) := by decide +kernel
theorem d_X12_count_91 : decode cX12_count 91 = .ok (.getfield 39, 3) := by decide +kernel
theorem d_X12_count_94 : decode cX12_count 94 = .ok (.iconst 5, 1) := by decide +kernel
theorem d_X12_count_95 : decode cX12_count 95 = .ok (.iaload, 1) := by decide +kernel
theorem d_X12_count_96 : decode cX12_count 96 = .ok (.ireturn, 1) := by decide +kernel
theorem d_X12_count_97 : decode cX12_count 97 = .ok (.aload_n 0, 1) := by decide +kernel
theorem d_X12_count_98 : decode cX12_count 98 = .ok (.invokevirtual 452, 3) := by decide +kernel
theorem d_X12_count_101 : decode cX12_count 101 = .ok (.ireturn, 1) := by decide +kernel
theorem d_X12_count_102 : decode cX12_count 102 = .ok (.aload_n 0, 1) := by decide +kernel
theorem d_X12_count_103 : decode cX12_count 103 = .ok (.invokevirtual 398, 3) := by decide +kernel
theorem d_X12_count_106 : decode cX12_count 106 = .ok (.ireturn, 1) := by decide +kernel
theorem d_X12_count_107 : decode cX12_count 107 = .ok (.aload_n 0, 1) := by decide +kernel
theorem d_X12_count_108 : decode cX12_count 108 = .ok (.getfield 279, 3) := by decide +kernel
theorem d_X12_count_111 : decode cX12_count 111 = .ok (.ireturn, 1) := by decide +kernel
theorem d_X12_count_112 : decode cX12_count 112 = .ok (.aload_n 0, 1) := by decide +kernel
theorem d_X12_count_113 : decode cX12_count 113 = .ok (.getfield 427, 3) := by decide +kernel
theorem d_X12_count_116 : decode cX12_count 116 = .ok (.ireturn, 1) := by decide +kernel
theorem d_X12_count_117 : decode cX12_count 117 = .ok (.aload_n 0, 1) := by decide +kernel
theorem d_X12_count_118 : decode cX12_count 118 = .ok (.getfield 80, 3) := by decide +kernel
theorem d_X12_count_121 : decode cX12_count 121 = .ok (.ireturn, 1) := by decide +kernel
theorem d_X12_count_122 : decode cX12_count 122 = .ok (.iconst (-1), 1) := by decide +kernel
theorem d_X12_count_123 : decode cX12_count 123 = .ok (.ireturn, 1) := by decide +kernel
abbrev X_X12_count : gX := (RX12, cX12_count, 2, (some .int), false)
def F_X12_count_b64 (M : gM) (l0 : Option Nat) (l1 : Int32) : Option Int32 :=
  (gR 12 M l0 20).bind fun v1 => (aI 20 M v1 (l1 + (1 : Int32))).bind fun v2 => some v2
theorem T_X12_count_b64 (M : gM) (r : Int32) (l0 : Option Nat) (l1 : Int32) (h : F_X12_count_b64 M l0 l1 = some r) : GW 5 0 0 X_X12_count 64 [(0, vr l0), (1, vi l1)] [] M (some (vi r), M) := by
  delta F_X12_count_b64 at h
  refine GW_aload_n (X := X_X12_count) (pc := 64) d_X12_count_64 rfl 0 rfl ?_
  replace h := g_bd h
  obtain ⟨v1, hv1, h⟩ := h
  refine GW_getR (X := X_X12_count) (pc := 65) f_X12_39 d_X12_count_65 hv1 (Or.inr ⟨_, ty_12_20⟩) ?_
  refine GW_iload_n (X := X_X12_count) (pc := 68) d_X12_count_68 rfl 1 rfl ?_
  refine GW_iconst (X := X_X12_count) (pc := 69) (v := 1) d_X12_count_69 (by decide) ?_
  refine GW_iadd (X := X_X12_count) (pc := 70) d_X12_count_70 ?_
  replace h := g_bd h
  obtain ⟨v2, hv2, h⟩ := h
  refine GW_iald (X := X_X12_count) (pc := 71) d_X12_count_71 hv2 ?_
  replace h := Option.some.inj h
  subst h
  exact GW_ret (X := X_X12_count) (pc := 72) d_X12_count_72 rfl trivial
def F_X12_count_b0 (M : gM) (l0 : Option Nat) (l1 : Int32) : Option Int32 :=
  if l1 = (0 : Int32) then (F_X12_count_b64 M l0 l1) else if l1 = (1 : Int32) then (F_X12_count_b64 M l0 l1) else if l1 = (2 : Int32) then (F_X12_count_b64 M l0 l1) else if l1 = (3 : Int32) then ((gI 12 M l0 2).bind fun v1 => some v1) else if l1 = (4 : Int32) then ((gI 12 M l0 21).bind fun v2 => some v2) else if l1 = (5 : Int32) then ((gR 12 M l0 20).bind fun v3 => (aI 20 M v3 (4 : Int32)).bind fun v4 => some v4) else if l1 = (6 : Int32) then ((gR 12 M l0 20).bind fun v5 => (aI 20 M v5 (5 : Int32)).bind fun v6 => some v6) else if l1 = (7 : Int32) then ((gO 12 M l0).bind fun i7 => (F_X12_standing (some i7) M).bind fun v8 => some v8) else if l1 = (8 : Int32) then ((gO 12 M l0).bind fun i9 => (F_X12_allHolds (some i9) M).bind fun v10 => some v10) else if l1 = (9 : Int32) then ((gI 12 M l0 25).bind fun v11 => some v11) else if l1 = (10 : Int32) then ((gI 12 M l0 22).bind fun v12 => some v12) else if l1 = (11 : Int32) then ((gI 12 M l0 1).bind fun v13 => some v13) else (some (-1 : Int32))
set_option maxHeartbeats 1000000 in
theorem T_X12_count_b0 (M : gM) (r : Int32) (l0 : Option Nat) (l1 : Int32) (h : F_X12_count_b0 M l0 l1 = some r) : GW 5 0 0 X_X12_count 0 [(0, vr l0), (1, vi l1)] [] M (some (vi r), M) := by
  delta F_X12_count_b0 at h
  refine GW_iload_n (X := X_X12_count) (pc := 0) d_X12_count_0 rfl 1 rfl ?_
  by_cases c0 : l1 = (0 : Int32)
  · replace h := g_ip c0 h
    refine GW_tableIn (X := X_X12_count) (pc := 1) 64 d_X12_count_1 (by rw [c0]; decide) (by rw [c0]; decide) (off := 63) (by rw [c0]; rfl) (by decide) ?_
    exact T_X12_count_b64 M r l0 l1 h
  · replace h := g_ie c0 h
    by_cases c1 : l1 = (1 : Int32)
    · replace h := g_ip c1 h
      refine GW_tableIn (X := X_X12_count) (pc := 1) 64 d_X12_count_1 (by rw [c1]; decide) (by rw [c1]; decide) (off := 63) (by rw [c1]; rfl) (by decide) ?_
      exact T_X12_count_b64 M r l0 l1 h
    · replace h := g_ie c1 h
      by_cases c2 : l1 = (2 : Int32)
      · replace h := g_ip c2 h
        refine GW_tableIn (X := X_X12_count) (pc := 1) 64 d_X12_count_1 (by rw [c2]; decide) (by rw [c2]; decide) (off := 63) (by rw [c2]; rfl) (by decide) ?_
        exact T_X12_count_b64 M r l0 l1 h
      · replace h := g_ie c2 h
        by_cases c3 : l1 = (3 : Int32)
        · replace h := g_ip c3 h
          refine GW_tableIn (X := X_X12_count) (pc := 1) 73 d_X12_count_1 (by rw [c3]; decide) (by rw [c3]; decide) (off := 72) (by rw [c3]; rfl) (by decide) ?_
          refine GW_aload_n (X := X_X12_count) (pc := 73) d_X12_count_73 rfl 0 rfl ?_
          replace h := g_bd h
          obtain ⟨v1, hv1, h⟩ := h
          refine GW_getI (X := X_X12_count) (pc := 74) f_X12_273 d_X12_count_74 hv1 (Or.inl ty_12_2) ?_
          replace h := Option.some.inj h
          subst h
          exact GW_ret (X := X_X12_count) (pc := 77) d_X12_count_77 rfl trivial
        · replace h := g_ie c3 h
          by_cases c4 : l1 = (4 : Int32)
          · replace h := g_ip c4 h
            refine GW_tableIn (X := X_X12_count) (pc := 1) 78 d_X12_count_1 (by rw [c4]; decide) (by rw [c4]; decide) (off := 77) (by rw [c4]; rfl) (by decide) ?_
            refine GW_aload_n (X := X_X12_count) (pc := 78) d_X12_count_78 rfl 0 rfl ?_
            replace h := g_bd h
            obtain ⟨v2, hv2, h⟩ := h
            refine GW_getI (X := X_X12_count) (pc := 79) f_X12_42 d_X12_count_79 hv2 (Or.inl ty_12_21) ?_
            replace h := Option.some.inj h
            subst h
            exact GW_ret (X := X_X12_count) (pc := 82) d_X12_count_82 rfl trivial
          · replace h := g_ie c4 h
            by_cases c5 : l1 = (5 : Int32)
            · replace h := g_ip c5 h
              refine GW_tableIn (X := X_X12_count) (pc := 1) 83 d_X12_count_1 (by rw [c5]; decide) (by rw [c5]; decide) (off := 82) (by rw [c5]; rfl) (by decide) ?_
              refine GW_aload_n (X := X_X12_count) (pc := 83) d_X12_count_83 rfl 0 rfl ?_
              replace h := g_bd h
              obtain ⟨v3, hv3, h⟩ := h
              refine GW_getR (X := X_X12_count) (pc := 84) f_X12_39 d_X12_count_84 hv3 (Or.inr ⟨_, ty_12_20⟩) ?_
              refine GW_iconst (X := X_X12_count) (pc := 87) (v := 4) d_X12_count_87 (by decide) ?_
              replace h := g_bd h
              obtain ⟨v4, hv4, h⟩ := h
              refine GW_iald (X := X_X12_count) (pc := 88) d_X12_count_88 hv4 ?_
              replace h := Option.some.inj h
              subst h
              exact GW_ret (X := X_X12_count) (pc := 89) d_X12_count_89 rfl trivial
            · replace h := g_ie c5 h
              by_cases c6 : l1 = (6 : Int32)
              · replace h := g_ip c6 h
                refine GW_tableIn (X := X_X12_count) (pc := 1) 90 d_X12_count_1 (by rw [c6]; decide) (by rw [c6]; decide) (off := 89) (by rw [c6]; rfl) (by decide) ?_
                refine GW_aload_n (X := X_X12_count) (pc := 90) d_X12_count_90 rfl 0 rfl ?_
                replace h := g_bd h
                obtain ⟨v5, hv5, h⟩ := h
                refine GW_getR (X := X_X12_count) (pc := 91) f_X12_39 d_X12_count_91 hv5 (Or.inr ⟨_, ty_12_20⟩) ?_
                refine GW_iconst (X := X_X12_count) (pc := 94) (v := 5) d_X12_count_94 (by decide) ?_
                replace h := g_bd h
                obtain ⟨v6, hv6, h⟩ := h
                refine GW_iald (X := X_X12_count) (pc := 95) d_X12_count_95 hv6 ?_
                replace h := Option.some.inj h
                subst h
                exact GW_ret (X := X_X12_count) (pc := 96) d_X12_count_96 rfl trivial
              · replace h := g_ie c6 h
                by_cases c7 : l1 = (7 : Int32)
                · replace h := g_ip c7 h
                  refine GW_tableIn (X := X_X12_count) (pc := 1) 97 d_X12_count_1 (by rw [c7]; decide) (by rw [c7]; decide) (off := 96) (by rw [c7]; rfl) (by decide) ?_
                  refine GW_aload_n (X := X_X12_count) (pc := 97) d_X12_count_97 rfl 0 rfl ?_
                  replace h := g_bd h
                  obtain ⟨i7, hi7, h⟩ := h
                  obtain ⟨rfl, ki7⟩ := g_gO hi7
                  replace h := g_bd h
                  obtain ⟨v8, hv8, h⟩ := h
                  refine GW_callV (X := X_X12_count) (pc := 98) (bc0 := 0) (bs0 := 0) (r := some (vi v8)) (M2 := M) (c0 := 12) (T_X12_standing (some i7) M v8 hv8) (Nat.le_of_ble_eq_true rfl) (Nat.le_of_ble_eq_true rfl) rfl g_cok12 ki7 yc_X12_standing ⟨m_1678, m_1680, m_114, m_127, m_1681⟩ d_X12_count_98 rfl (st := []) rfl (Nat.le_of_ble_eq_true rfl) (Nat.le_of_ble_eq_true rfl) (Nat.le_of_ble_eq_true rfl) (st2 := [vi v8]) rfl ?_
                  replace h := Option.some.inj h
                  subst h
                  exact GW_ret (X := X_X12_count) (pc := 101) d_X12_count_101 rfl trivial
                · replace h := g_ie c7 h
                  by_cases c8 : l1 = (8 : Int32)
                  · replace h := g_ip c8 h
                    refine GW_tableIn (X := X_X12_count) (pc := 1) 102 d_X12_count_1 (by rw [c8]; decide) (by rw [c8]; decide) (off := 101) (by rw [c8]; rfl) (by decide) ?_
                    refine GW_aload_n (X := X_X12_count) (pc := 102) d_X12_count_102 rfl 0 rfl ?_
                    replace h := g_bd h
                    obtain ⟨i9, hi9, h⟩ := h
                    obtain ⟨rfl, ki9⟩ := g_gO hi9
                    replace h := g_bd h
                    obtain ⟨v10, hv10, h⟩ := h
                    refine GW_callV (X := X_X12_count) (pc := 103) (bc0 := 0) (bs0 := 0) (r := some (vi v10)) (M2 := M) (c0 := 12) (T_X12_allHolds (some i9) M v10 hv10) (Nat.le_of_ble_eq_true rfl) (Nat.le_of_ble_eq_true rfl) rfl g_cok12 ki9 yc_X12_allHolds ⟨m_1599, m_1601, m_104, m_127, m_1602⟩ d_X12_count_103 rfl (st := []) rfl (Nat.le_of_ble_eq_true rfl) (Nat.le_of_ble_eq_true rfl) (Nat.le_of_ble_eq_true rfl) (st2 := [vi v10]) rfl ?_
                    replace h := Option.some.inj h
                    subst h
                    exact GW_ret (X := X_X12_count) (pc := 106) d_X12_count_106 rfl trivial
                  · replace h := g_ie c8 h
                    by_cases c9 : l1 = (9 : Int32)
                    · replace h := g_ip c9 h
                      refine GW_tableIn (X := X_X12_count) (pc := 1) 107 d_X12_count_1 (by rw [c9]; decide) (by rw [c9]; decide) (off := 106) (by rw [c9]; rfl) (by decide) ?_
                      refine GW_aload_n (X := X_X12_count) (pc := 107) d_X12_count_107 rfl 0 rfl ?_
                      replace h := g_bd h
                      obtain ⟨v11, hv11, h⟩ := h
                      refine GW_getI (X := X_X12_count) (pc := 108) f_X12_279 d_X12_count_108 hv11 (Or.inl ty_12_25) ?_
                      replace h := Option.some.inj h
                      subst h
                      exact GW_ret (X := X_X12_count) (pc := 111) d_X12_count_111 rfl trivial
                    · replace h := g_ie c9 h
                      by_cases c10 : l1 = (10 : Int32)
                      · replace h := g_ip c10 h
                        refine GW_tableIn (X := X_X12_count) (pc := 1) 112 d_X12_count_1 (by rw [c10]; decide) (by rw [c10]; decide) (off := 111) (by rw [c10]; rfl) (by decide) ?_
                        refine GW_aload_n (X := X_X12_count) (pc := 112) d_X12_count_112 rfl 0 rfl ?_
                        replace h := g_bd h
                        obtain ⟨v12, hv12, h⟩ := h
                        refine GW_getI (X := X_X12_count) (pc := 113) f_X12_427 d_X12_count_113 hv12 (Or.inl ty_12_22) ?_
                        replace h := Option.some.inj h
                        subst h
                        exact GW_ret (X := X_X12_count) (pc := 116) d_X12_count_116 rfl trivial
                      · replace h := g_ie c10 h
                        by_cases c11 : l1 = (11 : Int32)
                        · replace h := g_ip c11 h
                          refine GW_tableIn (X := X_X12_count) (pc := 1) 117 d_X12_count_1 (by rw [c11]; decide) (by rw [c11]; decide) (off := 116) (by rw [c11]; rfl) (by decide) ?_
                          refine GW_aload_n (X := X_X12_count) (pc := 117) d_X12_count_117 rfl 0 rfl ?_
                          replace h := g_bd h
                          obtain ⟨v13, hv13, h⟩ := h
                          refine GW_getI (X := X_X12_count) (pc := 118) f_X12_80 d_X12_count_118 hv13 (Or.inl ty_12_1) ?_
                          replace h := Option.some.inj h
                          subst h
                          exact GW_ret (X := X_X12_count) (pc := 121) d_X12_count_121 rfl trivial
                        · replace h := g_ie c11 h
                          have n0 := g_nk (k := 0) c0 (by decide)
                          have n1 := g_nk (k := 1) c1 (by decide)
                          have n2 := g_nk (k := 2) c2 (by decide)
                          have n3 := g_nk (k := 3) c3 (by decide)
                          have n4 := g_nk (k := 4) c4 (by decide)
                          have n5 := g_nk (k := 5) c5 (by decide)
                          have n6 := g_nk (k := 6) c6 (by decide)
                          have n7 := g_nk (k := 7) c7 (by decide)
                          have n8 := g_nk (k := 8) c8 (by decide)
                          have n9 := g_nk (k := 9) c9 (by decide)
                          have n10 := g_nk (k := 10) c10 (by decide)
                          have n11 := g_nk (k := 11) c11 (by decide)
                          refine GW_tableOut (X := X_X12_count) (pc := 1) 122 d_X12_count_1 (by omega) (by decide) ?_
                          refine GW_iconst (X := X_X12_count) (pc := 122) (v := -1) d_X12_count_122 (by decide) ?_
                          replace h := Option.some.inj h
                          subst h
                          exact GW_ret (X := X_X12_count) (pc := 123) d_X12_count_123 rfl trivial
def F_X12_count (l0 : Option Nat) (l1 : Int32) (M : gM) : Option Int32 := F_X12_count_b0 M l0 l1
theorem T_X12_count (l0 : Option Nat) (l1 : Int32) (M : gM) (r : Int32) (h : F_X12_count l0 l1 M = some r) : g_Met 5 0 0 yX12_count X_X12_count [vr l0, vi l1] M (some (vi r), M) :=
  g_Met_of pn_RX12 rfl (Nat.le_of_ble_eq_true rfl) (fun h => by cases h) (GW_sub [0, 1] rfl (T_X12_count_b0 M r l0 l1 h))
/-! ForgetHeirs.image(I)I -/
theorem d_X11_image_0 : decode cX11_image 0 = .ok (.iload_n 1, 1) := by decide +kernel
theorem d_X11_image_1 : decode cX11_image 1 = .ok (.ifCond .lt 12, 3) := by decide +kernel
theorem d_X11_image_4 : decode cX11_image 4 = .ok (.iload_n 1, 1) := by decide +kernel
theorem d_X11_image_5 : decode cX11_image 5 = .ok (.aload_n 0, 1) := by decide +kernel
theorem d_X11_image_6 : decode cX11_image 6 = .ok (.getfield 41, 3) := by decide +kernel
theorem d_X11_image_9 : decode cX11_image 9 = .ok (.arraylength, 1) := by decide +kernel
theorem d_X11_image_10 : decode cX11_image 10 = .ok (.if_icmp .lt 5, 3) := by decide +kernel
theorem d_X11_image_13 : decode cX11_image 13 = .ok (.iconst (-1), 1) := by decide +kernel
theorem d_X11_image_14 : decode cX11_image 14 = .ok (.ireturn, 1) := by decide +kernel
theorem d_X11_image_15 : decode cX11_image 15 = .ok (.aload_n 0, 1) := by decide +kernel
theorem d_X11_image_16 : decode cX11_image 16 = .ok (.getfield 41, 3) := by decide +kernel
theorem d_X11_image_19 : decode cX11_image 19 = .ok (.iload_n 1, 1) := by decide +kernel
theorem d_X11_image_20 : decode cX11_image 20 = .ok (.aaload, 1) := by decide +kernel
theorem d_X11_image_21 : decode cX11_image 21 = .ok (.astore_n 2, 1) := by decide +kernel
theorem d_X11_image_22 : decode cX11_image 22 = .ok (.aload_n 2, 1) := by decide +kernel
theorem d_X11_image_23 : decode cX11_image 23 = .ok (.aload_n 0, 1) := by decide +kernel
theorem d_X11_image_24 : decode cX11_image 24 = .ok (.getfield 59, 3) := by decide +kernel
theorem d_X11_image_27 : decode cX11_image 27 = .ok (.putfield 324, 3) := by decide +kernel
theorem d_X11_image_30 : decode cX11_image 30 = .ok (.aload_n 2, 1) := by decide +kernel
theorem d_X11_image_31 : decode cX11_image 31 = .ok (.getfield 325, 3) := by decide +kernel
theorem d_X11_image_34 : decode cX11_image 34 = .ok (.aload_n 0, 1) := by decide +kernel
theorem d_X11_image_35 : decode cX11_image 35 = .ok (.getfield 25, 3) := by decide +kernel
theorem d_X11_image_38 : decode cX11_image 38 = .ok (.invokevirtual 114, 3) := by decide +kernel
theorem d_X11_image_41 : decode cX11_image 41 = .ok (.aload_n 2, 1) := by decide +kernel
theorem d_X11_image_42 : decode cX11_image 42 = .ok (.aload_n 0, 1) := by decide +kernel
theorem d_X11_image_43 : decode cX11_image 43 = .ok (.getfield 67, 3) := by decide +kernel
theorem d_X11_image_46 : decode cX11_image 46 = .ok (.putfield 326, 3) := by decide +kernel
theorem d_X11_image_49 : decode cX11_image 49 = .ok (.aload_n 2, 1) := by decide +kernel
theorem d_X11_image_50 : decode cX11_image 50 = .ok (.aload_n 0, 1) := by decide +kernel
theorem d_X11_image_51 : decode cX11_image 51 = .ok (.getfield 70, 3) := by decide +kernel
theorem d_X11_image_54 : decode cX11_image 54 = .ok (.putfield 327, 3) := by decide +kernel
theorem d_X11_image_57 : decode cX11_image 57 = .ok (.aload_n 0, 1) := by decide +kernel
theorem d_X11_image_58 : decode cX11_image 58 = .ok (.getfield 25, 3) := by decide +kernel
theorem d_X11_image_61 : decode cX11_image 61 = .ok (.getfield 190, 3) := by decide +kernel
theorem d_X11_image_64 : decode cX11_image 64 = .ok (.ireturn, 1) := by decide +kernel
abbrev X_X11_image : gX := (RX11, cX11_image, 3, (some .int), false)
def F_X11_image_b13 (M : gM) : Option (Int32 × gM) :=
  some ((-1 : Int32), M)
theorem T_X11_image_b13 (r : (Int32 × gM)) (M : gM) (h : F_X11_image_b13 M = some r) : GW 2 0 0 X_X11_image 13 [] [] M (some (vi r.1), r.2) := by
  delta F_X11_image_b13 at h
  refine GW_iconst (X := X_X11_image) (pc := 13) (v := -1) d_X11_image_13 (by decide) ?_
  replace h := Option.some.inj h
  subst h
  exact GW_ret (X := X_X11_image) (pc := 14) d_X11_image_14 rfl trivial
def F_X11_image_b0 (l0 : Option Nat) (l1 : Int32) (M : gM) : Option (Int32 × gM) :=
  if l1 < 0 then (F_X11_image_b13 M) else ((gR 11 M l0 8).bind fun v1 => (aN M v1).bind fun v2 => if l1 < v2 then ((gR 11 M l0 8).bind fun v3 => (aR 26 M v3 l1).bind fun v4 => (gR 11 M l0 11).bind fun v5 => (pR 3 M v4 1 v5).bind fun M6 => (gR 3 M6 v4 0).bind fun v7 => (gR 11 M6 l0 5).bind fun v8 => (gO 8 M6 v7).bind fun i9 => (F_X8_copy (some i9) v8 M6).bind fun M10 => (gI 11 M10 l0 13).bind fun v11 => (pI 3 M10 v4 2 v11).bind fun M12 => (gI 11 M12 l0 14).bind fun v13 => (pI 3 M12 v4 3 v13).bind fun M14 => (gR 11 M14 l0 5).bind fun v15 => (gI 8 M14 v15 5).bind fun v16 => some (v16, M14)) else (F_X11_image_b13 M))
set_option maxHeartbeats 1000000 in
theorem T_X11_image_b0 (r : (Int32 × gM)) (l0 : Option Nat) (l1 : Int32) (M : gM) (h : F_X11_image_b0 l0 l1 M = some r) : GW 2 0 0 X_X11_image 0 [(0, vr l0), (1, vi l1)] [] M (some (vi r.1), r.2) := by
  delta F_X11_image_b0 at h
  refine GW_iload_n (X := X_X11_image) (pc := 0) d_X11_image_0 rfl 1 rfl ?_
  refine GW_if_lt (X := X_X11_image) (pc := 1) 13 d_X11_image_1 (by decide) (fun c => ?_) (fun c => ?_)
  · replace h := g_ip c h
    refine GW_sub [] rfl ?_
    exact T_X11_image_b13 r M h
  · replace h := g_ie c h
    refine GW_iload_n (X := X_X11_image) (pc := 4) d_X11_image_4 rfl 1 rfl ?_
    refine GW_aload_n (X := X_X11_image) (pc := 5) d_X11_image_5 rfl 0 rfl ?_
    replace h := g_bd h
    obtain ⟨v1, hv1, h⟩ := h
    refine GW_getR (X := X_X11_image) (pc := 6) f_X11_41 d_X11_image_6 hv1 (Or.inr ⟨_, ty_11_8⟩) ?_
    replace h := g_bd h
    obtain ⟨v2, hv2, h⟩ := h
    refine GW_alen (X := X_X11_image) (pc := 9) d_X11_image_9 hv2 ?_
    refine GW_icmp_lt (X := X_X11_image) (pc := 10) 15 d_X11_image_10 (by decide) (fun c => ?_) (fun c => ?_)
    · replace h := g_ip c h
      refine GW_aload_n (X := X_X11_image) (pc := 15) d_X11_image_15 rfl 0 rfl ?_
      replace h := g_bd h
      obtain ⟨v3, hv3, h⟩ := h
      refine GW_getR (X := X_X11_image) (pc := 16) f_X11_41 d_X11_image_16 hv3 (Or.inr ⟨_, ty_11_8⟩) ?_
      refine GW_iload_n (X := X_X11_image) (pc := 19) d_X11_image_19 rfl 1 rfl ?_
      replace h := g_bd h
      obtain ⟨v4, hv4, h⟩ := h
      refine GW_aald (X := X_X11_image) (pc := 20) (t := 26) (by decide) d_X11_image_20 hv4 ?_
      refine GW_astore_n (X := X_X11_image) (pc := 21) d_X11_image_21 rfl (Nat.le_of_ble_eq_true rfl) (lv2 := [(2, vr v4), (0, vr l0), (1, vi l1)]) rfl ?_
      refine GW_aload_n (X := X_X11_image) (pc := 22) d_X11_image_22 rfl 0 rfl ?_
      refine GW_aload_n (X := X_X11_image) (pc := 23) d_X11_image_23 rfl 1 rfl ?_
      replace h := g_bd h
      obtain ⟨v5, hv5, h⟩ := h
      refine GW_getR (X := X_X11_image) (pc := 24) f_X11_59 d_X11_image_24 hv5 (Or.inl ⟨_, ty_11_11⟩) ?_
      replace h := g_bd h
      obtain ⟨M6, hM6, h⟩ := h
      refine GW_putR (X := X_X11_image) (pc := 27) f_X11_324 d_X11_image_27 hM6 (Or.inl fi_3_1) (Or.inl ⟨_, ty_3_1⟩) ?_
      refine GW_aload_n (X := X_X11_image) (pc := 30) d_X11_image_30 rfl 0 rfl ?_
      replace h := g_bd h
      obtain ⟨v7, hv7, h⟩ := h
      refine GW_getR (X := X_X11_image) (pc := 31) f_X11_325 d_X11_image_31 hv7 (Or.inl ⟨_, ty_3_0⟩) ?_
      refine GW_aload_n (X := X_X11_image) (pc := 34) d_X11_image_34 rfl 1 rfl ?_
      replace h := g_bd h
      obtain ⟨v8, hv8, h⟩ := h
      refine GW_getR (X := X_X11_image) (pc := 35) f_X11_25 d_X11_image_35 hv8 (Or.inl ⟨_, ty_11_5⟩) ?_
      replace h := g_bd h
      obtain ⟨i9, hi9, h⟩ := h
      obtain ⟨rfl, ki9⟩ := g_gO hi9
      replace h := g_bd h
      obtain ⟨M10, hM10, h⟩ := h
      refine GW_callV (X := X_X11_image) (pc := 38) (bc0 := 0) (bs0 := 0) (r := none) (M2 := M10) (c0 := 8) (T_X8_copy (some i9) v8 M6 M10 hM10) (Nat.le_of_ble_eq_true rfl) (Nat.le_of_ble_eq_true rfl) rfl g_cok8 ki9 yc_X8_copy ⟨m_664, m_665, m_666, m_119, m_667⟩ d_X11_image_38 rfl (st := []) rfl (Nat.le_of_ble_eq_true rfl) (Nat.le_of_ble_eq_true rfl) (Nat.le_of_ble_eq_true rfl) (st2 := []) rfl ?_
      refine GW_aload_n (X := X_X11_image) (pc := 41) d_X11_image_41 rfl 0 rfl ?_
      refine GW_aload_n (X := X_X11_image) (pc := 42) d_X11_image_42 rfl 1 rfl ?_
      replace h := g_bd h
      obtain ⟨v11, hv11, h⟩ := h
      refine GW_getI (X := X_X11_image) (pc := 43) f_X11_67 d_X11_image_43 hv11 (Or.inl ty_11_13) ?_
      replace h := g_bd h
      obtain ⟨M12, hM12, h⟩ := h
      refine GW_putI (X := X_X11_image) (pc := 46) f_X11_326 d_X11_image_46 hM12 (Or.inl fi_3_2) (Or.inl ty_3_2) ?_
      refine GW_aload_n (X := X_X11_image) (pc := 49) d_X11_image_49 rfl 0 rfl ?_
      refine GW_aload_n (X := X_X11_image) (pc := 50) d_X11_image_50 rfl 1 rfl ?_
      replace h := g_bd h
      obtain ⟨v13, hv13, h⟩ := h
      refine GW_getI (X := X_X11_image) (pc := 51) f_X11_70 d_X11_image_51 hv13 (Or.inl ty_11_14) ?_
      replace h := g_bd h
      obtain ⟨M14, hM14, h⟩ := h
      refine GW_putI (X := X_X11_image) (pc := 54) f_X11_327 d_X11_image_54 hM14 (Or.inl fi_3_3) (Or.inl ty_3_3) ?_
      refine GW_aload_n (X := X_X11_image) (pc := 57) d_X11_image_57 rfl 1 rfl ?_
      replace h := g_bd h
      obtain ⟨v15, hv15, h⟩ := h
      refine GW_getR (X := X_X11_image) (pc := 58) f_X11_25 d_X11_image_58 hv15 (Or.inl ⟨_, ty_11_5⟩) ?_
      replace h := g_bd h
      obtain ⟨v16, hv16, h⟩ := h
      refine GW_getI (X := X_X11_image) (pc := 61) f_X11_190 d_X11_image_61 hv16 (Or.inl ty_8_5) ?_
      replace h := Option.some.inj h
      subst h
      exact GW_ret (X := X_X11_image) (pc := 64) d_X11_image_64 rfl trivial
    · replace h := g_ie c h
      refine GW_sub [] rfl ?_
      exact T_X11_image_b13 r M h
def F_X11_image (l0 : Option Nat) (l1 : Int32) (M : gM) : Option (Int32 × gM) := F_X11_image_b0 l0 l1 M
theorem T_X11_image (l0 : Option Nat) (l1 : Int32) (M : gM) (r : (Int32 × gM)) (h : F_X11_image l0 l1 M = some r) : g_Met 2 0 0 yX11_image X_X11_image [vr l0, vi l1] M (some (vi r.1), r.2) :=
  g_Met_of pn_RX11 rfl (Nat.le_of_ble_eq_true rfl) (fun h => by cases h) (GW_sub [0, 1] rfl (T_X11_image_b0 r l0 l1 M h))
/-! ForgetHeirsModel.image(I)I -/
theorem d_X12_image_0 : decode cX12_image 0 = .ok (.iload_n 1, 1) := by decide +kernel
theorem d_X12_image_1 : decode cX12_image 1 = .ok (.i2l, 1) := by decide +kernel
theorem d_X12_image_2 : decode cX12_image 2 = .ok (.lconst 0, 1) := by decide +kernel
theorem d_X12_image_3 : decode cX12_image 3 = .ok (.ldc2_w 455, 3) := by decide +kernel
theorem d_X12_image_6 : decode cX12_image 6 = .ok (.invokestatic 118, 3) := by decide +kernel
theorem d_X12_image_9 : decode cX12_image 9 = .ok (.ifCond .ne 5, 3) := by decide +kernel
theorem d_X12_image_12 : decode cX12_image 12 = .ok (.iconst (-1), 1) := by decide +kernel
theorem d_X12_image_13 : decode cX12_image 13 = .ok (.ireturn, 1) := by decide +kernel
theorem d_X12_image_14 : decode cX12_image 14 = .ok (.aload_n 0, 1) := by decide +kernel
theorem d_X12_image_15 : decode cX12_image 15 = .ok (.getfield 76, 3) := by decide +kernel
theorem d_X12_image_18 : decode cX12_image 18 = .ok (.iload_n 1, 1) := by decide +kernel
theorem d_X12_image_19 : decode cX12_image 19 = .ok (.iconst 1, 1) := by decide +kernel
theorem d_X12_image_20 : decode cX12_image 20 = .ok (.bastore, 1) := by decide +kernel
theorem d_X12_image_21 : decode cX12_image 21 = .ok (.aload_n 0, 1) := by decide +kernel
theorem d_X12_image_22 : decode cX12_image 22 = .ok (.getfield 70, 3) := by decide +kernel
theorem d_X12_image_25 : decode cX12_image 25 = .ok (.iload_n 1, 1) := by decide +kernel
theorem d_X12_image_26 : decode cX12_image 26 = .ok (.aload_n 0, 1) := by decide +kernel
theorem d_X12_image_27 : decode cX12_image 27 = .ok (.getfield 42, 3) := by decide +kernel
theorem d_X12_image_30 : decode cX12_image 30 = .ok (.iastore, 1) := by decide +kernel
theorem d_X12_image_31 : decode cX12_image 31 = .ok (.aload_n 0, 1) := by decide +kernel
theorem d_X12_image_32 : decode cX12_image 32 = .ok (.getfield 73, 3) := by decide +kernel
theorem d_X12_image_35 : decode cX12_image 35 = .ok (.iload_n 1, 1) := by decide +kernel
theorem d_X12_image_36 : decode cX12_image 36 = .ok (.aload_n 0, 1) := by decide +kernel
theorem d_X12_image_37 : decode cX12_image 37 = .ok (.getfield 427, 3) := by decide +kernel
theorem d_X12_image_40 : decode cX12_image 40 = .ok (.iastore, 1) := by decide +kernel
theorem d_X12_image_41 : decode cX12_image 41 = .ok (.iconst 0, 1) := by decide +kernel
theorem d_X12_image_42 : decode cX12_image 42 = .ok (.istore_n 2, 1) := by decide +kernel
theorem d_X12_image_43 : decode cX12_image 43 = .ok (.iload_n 2, 1) := by decide +kernel
theorem d_X12_image_44 : decode cX12_image 44 = .ok (.sipush 157, 3) := by decide +kernel
theorem d_X12_image_47 : decode cX12_image 47 = .ok (.if_icmp .ge 27, 3) := by decide +kernel
theorem d_X12_image_50 : decode cX12_image 50 = .ok (.aload_n 0, 1) := by decide +kernel
theorem d_X12_image_51 : decode cX12_image 51 = .ok (.getfield 67, 3) := by decide +kernel
theorem d_X12_image_54 : decode cX12_image 54 = .ok (.sipush 157, 3) := by decide +kernel
theorem d_X12_image_57 : decode cX12_image 57 = .ok (.iload_n 1, 1) := by decide +kernel
theorem d_X12_image_58 : decode cX12_image 58 = .ok (.imul, 1) := by decide +kernel
theorem d_X12_image_59 : decode cX12_image 59 = .ok (.iload_n 2, 1) := by decide +kernel
theorem d_X12_image_60 : decode cX12_image 60 = .ok (.iadd, 1) := by decide +kernel
theorem d_X12_image_61 : decode cX12_image 61 = .ok (.aload_n 0, 1) := by decide +kernel
theorem d_X12_image_62 : decode cX12_image 62 = .ok (.getfield 39, 3) := by decide +kernel
theorem d_X12_image_65 : decode cX12_image 65 = .ok (.iload_n 2, 1) := by decide +kernel
theorem d_X12_image_66 : decode cX12_image 66 = .ok (.iaload, 1) := by decide +kernel
theorem d_X12_image_67 : decode cX12_image 67 = .ok (.iastore, 1) := by decide +kernel
theorem d_X12_image_68 : decode cX12_image 68 = .ok (.iinc 2 1, 3) := by decide +kernel
theorem d_X12_image_71 : decode cX12_image 71 = .ok (.goto (-28), 3) := by decide +kernel
theorem d_X12_image_74 : decode cX12_image 74 = .ok (.aload_n 0, 1) := by decide +kernel
theorem d_X12_image_75 : decode cX12_image 75 = .ok (.getfield 39, 3) := by decide +kernel
theorem d_X12_image_78 : decode cX12_image 78 = .ok (.iconst 4, 1) := by decide +kernel
theorem d_X12_image_79 : decode cX12_image 79 = .ok (.iaload, 1) := by decide +kernel
theorem d_X12_image_80 : decode cX12_image 80 = .ok (.ireturn, 1) := by decide +kernel
abbrev X_X12_image : gX := (RX12, cX12_image, 3, (some .int), false)
def F_X12_image_b43 (k43 : Option Nat → Int32 → Int32 → gM → Option (Int32 × gM)) (l0 : Option Nat) (l1 : Int32) (l2 : Int32) (M : gM) : Option (Int32 × gM) :=
  if (157 : Int32) ≤ l2 then ((gR 12 M l0 20).bind fun v1 => (aI 20 M v1 (4 : Int32)).bind fun v2 => some (v2, M)) else ((gR 12 M l0 33).bind fun v3 => (gR 12 M l0 20).bind fun v4 => (aI 20 M v4 l2).bind fun v5 => (sI M v3 (((157 : Int32) * l1) + l2) v5).bind fun M6 => k43 l0 l1 (l2 + 1) M6)
theorem T_X12_image_b43 (k43 : Option Nat → Int32 → Int32 → gM → Option (Int32 × gM)) (r : (Int32 × gM)) (hk43 : ∀ (l0 : Option Nat) (l1 : Int32) (l2 : Int32) (M : gM), k43 l0 l1 l2 M = some r → GW 1 0 0 X_X12_image 43 [(0, vr l0), (1, vi l1), (2, vi l2)] [] M (some (vi r.1), r.2)) (l0 : Option Nat) (l1 : Int32) (l2 : Int32) (M : gM) (h : F_X12_image_b43 k43 l0 l1 l2 M = some r) : GW 1 0 0 X_X12_image 43 [(0, vr l0), (1, vi l1), (2, vi l2)] [] M (some (vi r.1), r.2) := by
  delta F_X12_image_b43 at h
  refine GW_iload_n (X := X_X12_image) (pc := 43) d_X12_image_43 rfl 2 rfl ?_
  refine GW_sipush (X := X_X12_image) (pc := 44) (v := 157) d_X12_image_44 (by decide) ?_
  refine GW_icmp_ge (X := X_X12_image) (pc := 47) 74 d_X12_image_47 (by decide) (fun c => ?_) (fun c => ?_)
  · replace h := g_ip c h
    refine GW_aload_n (X := X_X12_image) (pc := 74) d_X12_image_74 rfl 0 rfl ?_
    replace h := g_bd h
    obtain ⟨v1, hv1, h⟩ := h
    refine GW_getR (X := X_X12_image) (pc := 75) f_X12_39 d_X12_image_75 hv1 (Or.inr ⟨_, ty_12_20⟩) ?_
    refine GW_iconst (X := X_X12_image) (pc := 78) (v := 4) d_X12_image_78 (by decide) ?_
    replace h := g_bd h
    obtain ⟨v2, hv2, h⟩ := h
    refine GW_iald (X := X_X12_image) (pc := 79) d_X12_image_79 hv2 ?_
    replace h := Option.some.inj h
    subst h
    exact GW_ret (X := X_X12_image) (pc := 80) d_X12_image_80 rfl trivial
  · replace h := g_ie c h
    refine GW_aload_n (X := X_X12_image) (pc := 50) d_X12_image_50 rfl 0 rfl ?_
    replace h := g_bd h
    obtain ⟨v3, hv3, h⟩ := h
    refine GW_getR (X := X_X12_image) (pc := 51) f_X12_67 d_X12_image_51 hv3 (Or.inr ⟨_, ty_12_33⟩) ?_
    refine GW_sipush (X := X_X12_image) (pc := 54) (v := 157) d_X12_image_54 (by decide) ?_
    refine GW_iload_n (X := X_X12_image) (pc := 57) d_X12_image_57 rfl 1 rfl ?_
    refine GW_imul (X := X_X12_image) (pc := 58) d_X12_image_58 ?_
    refine GW_iload_n (X := X_X12_image) (pc := 59) d_X12_image_59 rfl 2 rfl ?_
    refine GW_iadd (X := X_X12_image) (pc := 60) d_X12_image_60 ?_
    refine GW_aload_n (X := X_X12_image) (pc := 61) d_X12_image_61 rfl 0 rfl ?_
    replace h := g_bd h
    obtain ⟨v4, hv4, h⟩ := h
    refine GW_getR (X := X_X12_image) (pc := 62) f_X12_39 d_X12_image_62 hv4 (Or.inr ⟨_, ty_12_20⟩) ?_
    refine GW_iload_n (X := X_X12_image) (pc := 65) d_X12_image_65 rfl 2 rfl ?_
    replace h := g_bd h
    obtain ⟨v5, hv5, h⟩ := h
    refine GW_iald (X := X_X12_image) (pc := 66) d_X12_image_66 hv5 ?_
    replace h := g_bd h
    obtain ⟨M6, hM6, h⟩ := h
    refine GW_iast (X := X_X12_image) (pc := 67) d_X12_image_67 hM6 ?_
    refine GW_iinc (j := 2) (X := X_X12_image) (pc := 68) d_X12_image_68 rfl (congrArg (fun z => _ + z) (by decide : Int32.ofInt 1 = (1 : Int32))) (Nat.le_of_ble_eq_true rfl) (lv2 := [(2, vi (l2 + 1)), (0, vr l0), (1, vi l1)]) rfl ?_
    refine GW_goto (X := X_X12_image) (pc := 71) 43 d_X12_image_71 (by decide) ?_
    refine GW_sub [1, 2, 0] rfl ?_
    exact hk43 l0 l1 (l2 + 1) M6 h
def F_X12_image_L43 : Nat → Option Nat → Int32 → Int32 → gM → Option (Int32 × gM)
  | 0 => fun _ _ _ _ => none
  | n + 1 => F_X12_image_b43 (F_X12_image_L43 n)
theorem T_X12_image_L43 (r : (Int32 × gM)) : ∀ (n : Nat) (l0 : Option Nat) (l1 : Int32) (l2 : Int32) (M : gM), F_X12_image_L43 n l0 l1 l2 M = some r → GW 1 0 0 X_X12_image 43 [(0, vr l0), (1, vi l1), (2, vi l2)] [] M (some (vi r.1), r.2) := by
  intro n
  induction n with
  | zero => intro l0 l1 l2 M h; exact g_no h
  | succ n ih => intro l0 l1 l2 M h; exact T_X12_image_b43 (F_X12_image_L43 n) r ih l0 l1 l2 M h
def F_X12_image_b0 (l0 : Option Nat) (l1 : Int32) (M : gM) : Option (Int32 × gM) :=
  (F_X12_in (l1).toInt64 (0 : Int64) (3 : Int64) M).bind fun v1 => if v1 = 0 then (some ((-1 : Int32), M)) else ((gR 12 M l0 36).bind fun v2 => (sZ M v2 l1 (1 : Int32)).bind fun M3 => (gR 12 M3 l0 34).bind fun v4 => (gI 12 M3 l0 21).bind fun v5 => (sI M3 v4 l1 v5).bind fun M6 => (gR 12 M6 l0 35).bind fun v7 => (gI 12 M6 l0 22).bind fun v8 => (sI M6 v7 l1 v8).bind fun M9 => F_X12_image_L43 g_fuel l0 l1 (0 : Int32) M9)
set_option maxHeartbeats 1000000 in
theorem T_X12_image_b0 (r : (Int32 × gM)) (l0 : Option Nat) (l1 : Int32) (M : gM) (h : F_X12_image_b0 l0 l1 M = some r) : GW 1 0 0 X_X12_image 0 [(0, vr l0), (1, vi l1)] [] M (some (vi r.1), r.2) := by
  delta F_X12_image_b0 at h
  refine GW_iload_n (X := X_X12_image) (pc := 0) d_X12_image_0 rfl 1 rfl ?_
  refine GW_i2l (X := X_X12_image) (pc := 1) d_X12_image_1 ?_
  refine GW_lconst (X := X_X12_image) (pc := 2) (v := 0) d_X12_image_2 (by decide) ?_
  refine GW_ldc2 (X := X_X12_image) (pc := 3) d_X12_image_3 m_1690 ?_
  replace h := g_bd h
  obtain ⟨v1, hv1, h⟩ := h
  refine GW_callS (X := X_X12_image) (pc := 6) (bc0 := 0) (bs0 := 0) (r := some (vi v1)) (M2 := M) (T_X12_in (l1).toInt64 (0 : Int64) (3 : Int64) M v1 hv1) (Nat.le_of_ble_eq_true rfl) (Nat.le_of_ble_eq_true rfl) yc_X12_in ⟨m_1291, m_1292, m_127, m_1293⟩ d_X12_image_6 rfl (st := []) rfl (Nat.le_of_ble_eq_true rfl) (Nat.le_of_ble_eq_true rfl) (Nat.le_of_ble_eq_true rfl) (st2 := [vi v1]) rfl ?_
  refine GW_if_ne (X := X_X12_image) (pc := 9) 14 d_X12_image_9 (by decide) (fun c => ?_) (fun c => ?_)
  · replace h := g_ie c h
    refine GW_aload_n (X := X_X12_image) (pc := 14) d_X12_image_14 rfl 0 rfl ?_
    replace h := g_bd h
    obtain ⟨v2, hv2, h⟩ := h
    refine GW_getR (X := X_X12_image) (pc := 15) f_X12_76 d_X12_image_15 hv2 (Or.inr ⟨_, ty_12_36⟩) ?_
    refine GW_iload_n (X := X_X12_image) (pc := 18) d_X12_image_18 rfl 1 rfl ?_
    refine GW_iconst (X := X_X12_image) (pc := 19) (v := 1) d_X12_image_19 (by decide) ?_
    replace h := g_bd h
    obtain ⟨M3, hM3, h⟩ := h
    refine GW_zast (X := X_X12_image) (pc := 20) d_X12_image_20 hM3 ?_
    refine GW_aload_n (X := X_X12_image) (pc := 21) d_X12_image_21 rfl 0 rfl ?_
    replace h := g_bd h
    obtain ⟨v4, hv4, h⟩ := h
    refine GW_getR (X := X_X12_image) (pc := 22) f_X12_70 d_X12_image_22 hv4 (Or.inr ⟨_, ty_12_34⟩) ?_
    refine GW_iload_n (X := X_X12_image) (pc := 25) d_X12_image_25 rfl 1 rfl ?_
    refine GW_aload_n (X := X_X12_image) (pc := 26) d_X12_image_26 rfl 0 rfl ?_
    replace h := g_bd h
    obtain ⟨v5, hv5, h⟩ := h
    refine GW_getI (X := X_X12_image) (pc := 27) f_X12_42 d_X12_image_27 hv5 (Or.inl ty_12_21) ?_
    replace h := g_bd h
    obtain ⟨M6, hM6, h⟩ := h
    refine GW_iast (X := X_X12_image) (pc := 30) d_X12_image_30 hM6 ?_
    refine GW_aload_n (X := X_X12_image) (pc := 31) d_X12_image_31 rfl 0 rfl ?_
    replace h := g_bd h
    obtain ⟨v7, hv7, h⟩ := h
    refine GW_getR (X := X_X12_image) (pc := 32) f_X12_73 d_X12_image_32 hv7 (Or.inr ⟨_, ty_12_35⟩) ?_
    refine GW_iload_n (X := X_X12_image) (pc := 35) d_X12_image_35 rfl 1 rfl ?_
    refine GW_aload_n (X := X_X12_image) (pc := 36) d_X12_image_36 rfl 0 rfl ?_
    replace h := g_bd h
    obtain ⟨v8, hv8, h⟩ := h
    refine GW_getI (X := X_X12_image) (pc := 37) f_X12_427 d_X12_image_37 hv8 (Or.inl ty_12_22) ?_
    replace h := g_bd h
    obtain ⟨M9, hM9, h⟩ := h
    refine GW_iast (X := X_X12_image) (pc := 40) d_X12_image_40 hM9 ?_
    refine GW_iconst (X := X_X12_image) (pc := 41) (v := 0) d_X12_image_41 (by decide) ?_
    refine GW_istore_n (X := X_X12_image) (pc := 42) d_X12_image_42 rfl (Nat.le_of_ble_eq_true rfl) (lv2 := [(2, vi (0 : Int32)), (0, vr l0), (1, vi l1)]) rfl ?_
    refine GW_sub [1, 2, 0] rfl ?_
    exact T_X12_image_L43 r g_fuel l0 l1 (0 : Int32) M9 h
  · replace h := g_ip c h
    refine GW_iconst (X := X_X12_image) (pc := 12) (v := -1) d_X12_image_12 (by decide) ?_
    replace h := Option.some.inj h
    subst h
    exact GW_ret (X := X_X12_image) (pc := 13) d_X12_image_13 rfl trivial
def F_X12_image (l0 : Option Nat) (l1 : Int32) (M : gM) : Option (Int32 × gM) := F_X12_image_b0 l0 l1 M
theorem T_X12_image (l0 : Option Nat) (l1 : Int32) (M : gM) (r : (Int32 × gM)) (h : F_X12_image l0 l1 M = some r) : g_Met 1 0 0 yX12_image X_X12_image [vr l0, vi l1] M (some (vi r.1), r.2) :=
  g_Met_of pn_RX12 rfl (Nat.le_of_ble_eq_true rfl) (fun h => by cases h) (GW_sub [0, 1] rfl (T_X12_image_b0 r l0 l1 M h))
/-! ForgetHeirs.back(I)I -/
theorem d_X11_back_0 : decode cX11_back 0 = .ok (.iload_n 1, 1) := by decide +kernel
theorem d_X11_back_1 : decode cX11_back 1 = .ok (.ifCond .lt 12, 3) := by decide +kernel
theorem d_X11_back_4 : decode cX11_back 4 = .ok (.iload_n 1, 1) := by decide +kernel
theorem d_X11_back_5 : decode cX11_back 5 = .ok (.aload_n 0, 1) := by decide +kernel
theorem d_X11_back_6 : decode cX11_back 6 = .ok (.getfield 41, 3) := by decide +kernel
theorem d_X11_back_9 : decode cX11_back 9 = .ok (.arraylength, 1) := by decide +kernel
theorem d_X11_back_10 : decode cX11_back 10 = .ok (.if_icmp .lt 5, 3) := by decide +kernel
theorem d_X11_back_13 : decode cX11_back 13 = .ok (.iconst (-1), 1) := by decide +kernel
theorem d_X11_back_14 : decode cX11_back 14 = .ok (.ireturn, 1) := by decide +kernel
theorem d_X11_back_15 : decode cX11_back 15 = .ok (.aload_n 0, 1) := by decide +kernel
theorem d_X11_back_16 : decode cX11_back 16 = .ok (.getfield 41, 3) := by decide +kernel
theorem d_X11_back_19 : decode cX11_back 19 = .ok (.iload_n 1, 1) := by decide +kernel
theorem d_X11_back_20 : decode cX11_back 20 = .ok (.aaload, 1) := by decide +kernel
theorem d_X11_back_21 : decode cX11_back 21 = .ok (.astore_n 2, 1) := by decide +kernel
theorem d_X11_back_22 : decode cX11_back 22 = .ok (.aload_n 2, 1) := by decide +kernel
theorem d_X11_back_23 : decode cX11_back 23 = .ok (.getfield 324, 3) := by decide +kernel
theorem d_X11_back_26 : decode cX11_back 26 = .ok (.ifnonnull 5, 3) := by decide +kernel
theorem d_X11_back_29 : decode cX11_back 29 = .ok (.iconst (-1), 1) := by decide +kernel
theorem d_X11_back_30 : decode cX11_back 30 = .ok (.ireturn, 1) := by decide +kernel
theorem d_X11_back_31 : decode cX11_back 31 = .ok (.aload_n 0, 1) := by decide +kernel
theorem d_X11_back_32 : decode cX11_back 32 = .ok (.aload_n 2, 1) := by decide +kernel
theorem d_X11_back_33 : decode cX11_back 33 = .ok (.getfield 324, 3) := by decide +kernel
theorem d_X11_back_36 : decode cX11_back 36 = .ok (.putfield 59, 3) := by decide +kernel
theorem d_X11_back_39 : decode cX11_back 39 = .ok (.aload_n 0, 1) := by decide +kernel
theorem d_X11_back_40 : decode cX11_back 40 = .ok (.getfield 25, 3) := by decide +kernel
theorem d_X11_back_43 : decode cX11_back 43 = .ok (.aload_n 2, 1) := by decide +kernel
theorem d_X11_back_44 : decode cX11_back 44 = .ok (.getfield 325, 3) := by decide +kernel
theorem d_X11_back_47 : decode cX11_back 47 = .ok (.invokevirtual 114, 3) := by decide +kernel
theorem d_X11_back_50 : decode cX11_back 50 = .ok (.aload_n 0, 1) := by decide +kernel
theorem d_X11_back_51 : decode cX11_back 51 = .ok (.aload_n 2, 1) := by decide +kernel
theorem d_X11_back_52 : decode cX11_back 52 = .ok (.getfield 326, 3) := by decide +kernel
theorem d_X11_back_55 : decode cX11_back 55 = .ok (.putfield 67, 3) := by decide +kernel
theorem d_X11_back_58 : decode cX11_back 58 = .ok (.aload_n 0, 1) := by decide +kernel
theorem d_X11_back_59 : decode cX11_back 59 = .ok (.aload_n 2, 1) := by decide +kernel
theorem d_X11_back_60 : decode cX11_back 60 = .ok (.getfield 327, 3) := by decide +kernel
theorem d_X11_back_63 : decode cX11_back 63 = .ok (.putfield 70, 3) := by decide +kernel
theorem d_X11_back_66 : decode cX11_back 66 = .ok (.aload_n 0, 1) := by decide +kernel
theorem d_X11_back_67 : decode cX11_back 67 = .ok (.getfield 35, 3) := by decide +kernel
theorem d_X11_back_70 : decode cX11_back 70 = .ok (.invokevirtual 118, 3) := by decide +kernel
theorem d_X11_back_73 : decode cX11_back 73 = .ok (.aload_n 0, 1) := by decide +kernel
theorem d_X11_back_74 : decode cX11_back 74 = .ok (.getfield 25, 3) := by decide +kernel
theorem d_X11_back_77 : decode cX11_back 77 = .ok (.getfield 190, 3) := by decide +kernel
theorem d_X11_back_80 : decode cX11_back 80 = .ok (.ireturn, 1) := by decide +kernel
abbrev X_X11_back : gX := (RX11, cX11_back, 3, (some .int), false)
def F_X11_back_b13 (M : gM) : Option (Int32 × gM) :=
  some ((-1 : Int32), M)
theorem T_X11_back_b13 (r : (Int32 × gM)) (M : gM) (h : F_X11_back_b13 M = some r) : GW 2 0 0 X_X11_back 13 [] [] M (some (vi r.1), r.2) := by
  delta F_X11_back_b13 at h
  refine GW_iconst (X := X_X11_back) (pc := 13) (v := -1) d_X11_back_13 (by decide) ?_
  replace h := Option.some.inj h
  subst h
  exact GW_ret (X := X_X11_back) (pc := 14) d_X11_back_14 rfl trivial
def F_X11_back_b0 (l0 : Option Nat) (l1 : Int32) (M : gM) : Option (Int32 × gM) :=
  if l1 < 0 then (F_X11_back_b13 M) else ((gR 11 M l0 8).bind fun v1 => (aN M v1).bind fun v2 => if l1 < v2 then ((gR 11 M l0 8).bind fun v3 => (aR 26 M v3 l1).bind fun v4 => (gR 3 M v4 1).bind fun v5 => if v5 = none then (some ((-1 : Int32), M)) else ((gR 3 M v4 1).bind fun v6 => (pR 11 M l0 11 v6).bind fun M7 => (gR 11 M7 l0 5).bind fun v8 => (gR 3 M7 v4 0).bind fun v9 => (gO 8 M7 v8).bind fun i10 => (F_X8_copy (some i10) v9 M7).bind fun M11 => (gI 3 M11 v4 2).bind fun v12 => (pI 11 M11 l0 13 v12).bind fun M13 => (gI 3 M13 v4 3).bind fun v14 => (pI 11 M13 l0 14 v14).bind fun M15 => (gR 11 M15 l0 7).bind fun v16 => (gO 4 M15 v16).bind fun i17 => (F_X4_clear (some i17) M15).bind fun M18 => (gR 11 M18 l0 5).bind fun v19 => (gI 8 M18 v19 5).bind fun v20 => some (v20, M18))) else (F_X11_back_b13 M))
set_option maxHeartbeats 1000000 in
theorem T_X11_back_b0 (r : (Int32 × gM)) (l0 : Option Nat) (l1 : Int32) (M : gM) (h : F_X11_back_b0 l0 l1 M = some r) : GW 2 0 0 X_X11_back 0 [(0, vr l0), (1, vi l1)] [] M (some (vi r.1), r.2) := by
  delta F_X11_back_b0 at h
  refine GW_iload_n (X := X_X11_back) (pc := 0) d_X11_back_0 rfl 1 rfl ?_
  refine GW_if_lt (X := X_X11_back) (pc := 1) 13 d_X11_back_1 (by decide) (fun c => ?_) (fun c => ?_)
  · replace h := g_ip c h
    refine GW_sub [] rfl ?_
    exact T_X11_back_b13 r M h
  · replace h := g_ie c h
    refine GW_iload_n (X := X_X11_back) (pc := 4) d_X11_back_4 rfl 1 rfl ?_
    refine GW_aload_n (X := X_X11_back) (pc := 5) d_X11_back_5 rfl 0 rfl ?_
    replace h := g_bd h
    obtain ⟨v1, hv1, h⟩ := h
    refine GW_getR (X := X_X11_back) (pc := 6) f_X11_41 d_X11_back_6 hv1 (Or.inr ⟨_, ty_11_8⟩) ?_
    replace h := g_bd h
    obtain ⟨v2, hv2, h⟩ := h
    refine GW_alen (X := X_X11_back) (pc := 9) d_X11_back_9 hv2 ?_
    refine GW_icmp_lt (X := X_X11_back) (pc := 10) 15 d_X11_back_10 (by decide) (fun c => ?_) (fun c => ?_)
    · replace h := g_ip c h
      refine GW_aload_n (X := X_X11_back) (pc := 15) d_X11_back_15 rfl 0 rfl ?_
      replace h := g_bd h
      obtain ⟨v3, hv3, h⟩ := h
      refine GW_getR (X := X_X11_back) (pc := 16) f_X11_41 d_X11_back_16 hv3 (Or.inr ⟨_, ty_11_8⟩) ?_
      refine GW_iload_n (X := X_X11_back) (pc := 19) d_X11_back_19 rfl 1 rfl ?_
      replace h := g_bd h
      obtain ⟨v4, hv4, h⟩ := h
      refine GW_aald (X := X_X11_back) (pc := 20) (t := 26) (by decide) d_X11_back_20 hv4 ?_
      refine GW_astore_n (X := X_X11_back) (pc := 21) d_X11_back_21 rfl (Nat.le_of_ble_eq_true rfl) (lv2 := [(2, vr v4), (0, vr l0), (1, vi l1)]) rfl ?_
      refine GW_aload_n (X := X_X11_back) (pc := 22) d_X11_back_22 rfl 0 rfl ?_
      replace h := g_bd h
      obtain ⟨v5, hv5, h⟩ := h
      refine GW_getR (X := X_X11_back) (pc := 23) f_X11_324 d_X11_back_23 hv5 (Or.inl ⟨_, ty_3_1⟩) ?_
      refine GW_ifnonnull (X := X_X11_back) (pc := 26) 31 d_X11_back_26 (by decide) (fun c => ?_) (fun c => ?_)
      · replace h := g_ie c h
        refine GW_aload_n (X := X_X11_back) (pc := 31) d_X11_back_31 rfl 1 rfl ?_
        refine GW_aload_n (X := X_X11_back) (pc := 32) d_X11_back_32 rfl 0 rfl ?_
        replace h := g_bd h
        obtain ⟨v6, hv6, h⟩ := h
        refine GW_getR (X := X_X11_back) (pc := 33) f_X11_324 d_X11_back_33 hv6 (Or.inl ⟨_, ty_3_1⟩) ?_
        replace h := g_bd h
        obtain ⟨M7, hM7, h⟩ := h
        refine GW_putR (X := X_X11_back) (pc := 36) f_X11_59 d_X11_back_36 hM7 (Or.inl fi_11_11) (Or.inl ⟨_, ty_11_11⟩) ?_
        refine GW_aload_n (X := X_X11_back) (pc := 39) d_X11_back_39 rfl 1 rfl ?_
        replace h := g_bd h
        obtain ⟨v8, hv8, h⟩ := h
        refine GW_getR (X := X_X11_back) (pc := 40) f_X11_25 d_X11_back_40 hv8 (Or.inl ⟨_, ty_11_5⟩) ?_
        refine GW_aload_n (X := X_X11_back) (pc := 43) d_X11_back_43 rfl 0 rfl ?_
        replace h := g_bd h
        obtain ⟨v9, hv9, h⟩ := h
        refine GW_getR (X := X_X11_back) (pc := 44) f_X11_325 d_X11_back_44 hv9 (Or.inl ⟨_, ty_3_0⟩) ?_
        replace h := g_bd h
        obtain ⟨i10, hi10, h⟩ := h
        obtain ⟨rfl, ki10⟩ := g_gO hi10
        replace h := g_bd h
        obtain ⟨M11, hM11, h⟩ := h
        refine GW_callV (X := X_X11_back) (pc := 47) (bc0 := 0) (bs0 := 0) (r := none) (M2 := M11) (c0 := 8) (T_X8_copy (some i10) v9 M7 M11 hM11) (Nat.le_of_ble_eq_true rfl) (Nat.le_of_ble_eq_true rfl) rfl g_cok8 ki10 yc_X8_copy ⟨m_664, m_665, m_666, m_119, m_667⟩ d_X11_back_47 rfl (st := []) rfl (Nat.le_of_ble_eq_true rfl) (Nat.le_of_ble_eq_true rfl) (Nat.le_of_ble_eq_true rfl) (st2 := []) rfl ?_
        refine GW_aload_n (X := X_X11_back) (pc := 50) d_X11_back_50 rfl 1 rfl ?_
        refine GW_aload_n (X := X_X11_back) (pc := 51) d_X11_back_51 rfl 0 rfl ?_
        replace h := g_bd h
        obtain ⟨v12, hv12, h⟩ := h
        refine GW_getI (X := X_X11_back) (pc := 52) f_X11_326 d_X11_back_52 hv12 (Or.inl ty_3_2) ?_
        replace h := g_bd h
        obtain ⟨M13, hM13, h⟩ := h
        refine GW_putI (X := X_X11_back) (pc := 55) f_X11_67 d_X11_back_55 hM13 (Or.inl fi_11_13) (Or.inl ty_11_13) ?_
        refine GW_aload_n (X := X_X11_back) (pc := 58) d_X11_back_58 rfl 1 rfl ?_
        refine GW_aload_n (X := X_X11_back) (pc := 59) d_X11_back_59 rfl 0 rfl ?_
        replace h := g_bd h
        obtain ⟨v14, hv14, h⟩ := h
        refine GW_getI (X := X_X11_back) (pc := 60) f_X11_327 d_X11_back_60 hv14 (Or.inl ty_3_3) ?_
        replace h := g_bd h
        obtain ⟨M15, hM15, h⟩ := h
        refine GW_putI (X := X_X11_back) (pc := 63) f_X11_70 d_X11_back_63 hM15 (Or.inl fi_11_14) (Or.inl ty_11_14) ?_
        refine GW_aload_n (X := X_X11_back) (pc := 66) d_X11_back_66 rfl 1 rfl ?_
        replace h := g_bd h
        obtain ⟨v16, hv16, h⟩ := h
        refine GW_getR (X := X_X11_back) (pc := 67) f_X11_35 d_X11_back_67 hv16 (Or.inl ⟨_, ty_11_7⟩) ?_
        replace h := g_bd h
        obtain ⟨i17, hi17, h⟩ := h
        obtain ⟨rfl, ki17⟩ := g_gO hi17
        replace h := g_bd h
        obtain ⟨M18, hM18, h⟩ := h
        refine GW_callV (X := X_X11_back) (pc := 70) (bc0 := 0) (bs0 := 0) (r := none) (M2 := M18) (c0 := 4) (T_X4_clear (some i17) M15 M18 hM18) (Nat.le_of_ble_eq_true rfl) (Nat.le_of_ble_eq_true rfl) rfl g_cok4 ki17 yc_X4_clear ⟨m_671, m_672, m_673, m_120, m_674⟩ d_X11_back_70 rfl (st := []) rfl (Nat.le_of_ble_eq_true rfl) (Nat.le_of_ble_eq_true rfl) (Nat.le_of_ble_eq_true rfl) (st2 := []) rfl ?_
        refine GW_aload_n (X := X_X11_back) (pc := 73) d_X11_back_73 rfl 1 rfl ?_
        replace h := g_bd h
        obtain ⟨v19, hv19, h⟩ := h
        refine GW_getR (X := X_X11_back) (pc := 74) f_X11_25 d_X11_back_74 hv19 (Or.inl ⟨_, ty_11_5⟩) ?_
        replace h := g_bd h
        obtain ⟨v20, hv20, h⟩ := h
        refine GW_getI (X := X_X11_back) (pc := 77) f_X11_190 d_X11_back_77 hv20 (Or.inl ty_8_5) ?_
        replace h := Option.some.inj h
        subst h
        exact GW_ret (X := X_X11_back) (pc := 80) d_X11_back_80 rfl trivial
      · replace h := g_ip c h
        refine GW_iconst (X := X_X11_back) (pc := 29) (v := -1) d_X11_back_29 (by decide) ?_
        replace h := Option.some.inj h
        subst h
        exact GW_ret (X := X_X11_back) (pc := 30) d_X11_back_30 rfl trivial
    · replace h := g_ie c h
      refine GW_sub [] rfl ?_
      exact T_X11_back_b13 r M h
def F_X11_back (l0 : Option Nat) (l1 : Int32) (M : gM) : Option (Int32 × gM) := F_X11_back_b0 l0 l1 M
theorem T_X11_back (l0 : Option Nat) (l1 : Int32) (M : gM) (r : (Int32 × gM)) (h : F_X11_back l0 l1 M = some r) : g_Met 2 0 0 yX11_back X_X11_back [vr l0, vi l1] M (some (vi r.1), r.2) :=
  g_Met_of pn_RX11 rfl (Nat.le_of_ble_eq_true rfl) (fun h => by cases h) (GW_sub [0, 1] rfl (T_X11_back_b0 r l0 l1 M h))
/-! ForgetHeirsModel.back(I)I -/
theorem d_X12_back_0 : decode cX12_back 0 = .ok (.iload_n 1, 1) := by decide +kernel
theorem d_X12_back_1 : decode cX12_back 1 = .ok (.i2l, 1) := by decide +kernel
theorem d_X12_back_2 : decode cX12_back 2 = .ok (.lconst 0, 1) := by decide +kernel
theorem d_X12_back_3 : decode cX12_back 3 = .ok (.ldc2_w 455, 3) := by decide +kernel
theorem d_X12_back_6 : decode cX12_back 6 = .ok (.invokestatic 118, 3) := by decide +kernel
theorem d_X12_back_9 : decode cX12_back 9 = .ok (.ifCond .eq 12, 3) := by decide +kernel
theorem d_X12_back_12 : decode cX12_back 12 = .ok (.aload_n 0, 1) := by decide +kernel
theorem d_X12_back_13 : decode cX12_back 13 = .ok (.getfield 76, 3) := by decide +kernel
theorem d_X12_back_16 : decode cX12_back 16 = .ok (.iload_n 1, 1) := by decide +kernel
theorem d_X12_back_17 : decode cX12_back 17 = .ok (.baload, 1) := by decide +kernel
theorem d_X12_back_18 : decode cX12_back 18 = .ok (.ifCond .ne 5, 3) := by decide +kernel
theorem d_X12_back_21 : decode cX12_back 21 = .ok (.iconst (-1), 1) := by decide +kernel
theorem d_X12_back_22 : decode cX12_back 22 = .ok (.ireturn, 1) := by decide +kernel
theorem d_X12_back_23 : decode cX12_back 23 = .ok (.aload_n 0, 1) := by decide +kernel
theorem d_X12_back_24 : decode cX12_back 24 = .ok (.aload_n 0, 1) := by decide +kernel
theorem d_X12_back_25 : decode cX12_back 25 = .ok (.getfield 70, 3) := by decide +kernel
theorem d_X12_back_28 : decode cX12_back 28 = .ok (.iload_n 1, 1) := by decide +kernel
theorem d_X12_back_29 : decode cX12_back 29 = .ok (.iaload, 1) := by decide +kernel
theorem d_X12_back_30 : decode cX12_back 30 = .ok (.putfield 42, 3) := by decide +kernel
theorem d_X12_back_33 : decode cX12_back 33 = .ok (.aload_n 0, 1) := by decide +kernel
theorem d_X12_back_34 : decode cX12_back 34 = .ok (.aload_n 0, 1) := by decide +kernel
theorem d_X12_back_35 : decode cX12_back 35 = .ok (.getfield 73, 3) := by decide +kernel
theorem d_X12_back_38 : decode cX12_back 38 = .ok (.iload_n 1, 1) := by decide +kernel
theorem d_X12_back_39 : decode cX12_back 39 = .ok (.iaload, 1) := by decide +kernel
theorem d_X12_back_40 : decode cX12_back 40 = .ok (.putfield 427, 3) := by decide +kernel
theorem d_X12_back_43 : decode cX12_back 43 = .ok (.aload_n 0, 1) := by decide +kernel
theorem d_X12_back_44 : decode cX12_back 44 = .ok (.iconst 0, 1) := by decide +kernel
theorem d_X12_back_45 : decode cX12_back 45 = .ok (.putfield 279, 3) := by decide +kernel
theorem d_X12_back_48 : decode cX12_back 48 = .ok (.iconst 0, 1) := by decide +kernel
theorem d_X12_back_49 : decode cX12_back 49 = .ok (.istore_n 2, 1) := by decide +kernel
theorem d_X12_back_50 : decode cX12_back 50 = .ok (.iload_n 2, 1) := by decide +kernel
theorem d_X12_back_51 : decode cX12_back 51 = .ok (.sipush 157, 3) := by decide +kernel
theorem d_X12_back_54 : decode cX12_back 54 = .ok (.if_icmp .ge 27, 3) := by decide +kernel
theorem d_X12_back_57 : decode cX12_back 57 = .ok (.aload_n 0, 1) := by decide +kernel
theorem d_X12_back_58 : decode cX12_back 58 = .ok (.getfield 39, 3) := by decide +kernel
theorem d_X12_back_61 : decode cX12_back 61 = .ok (.iload_n 2, 1) := by decide +kernel
theorem d_X12_back_62 : decode cX12_back 62 = .ok (.aload_n 0, 1) := by decide +kernel
theorem d_X12_back_63 : decode cX12_back 63 = .ok (.getfield 67, 3) := by decide +kernel
theorem d_X12_back_66 : decode cX12_back 66 = .ok (.sipush 157, 3) := by decide +kernel
theorem d_X12_back_69 : decode cX12_back 69 = .ok (.iload_n 1, 1) := by decide +kernel
theorem d_X12_back_70 : decode cX12_back 70 = .ok (.imul, 1) := by decide +kernel
theorem d_X12_back_71 : decode cX12_back 71 = .ok (.iload_n 2, 1) := by decide +kernel
theorem d_X12_back_72 : decode cX12_back 72 = .ok (.iadd, 1) := by decide +kernel
theorem d_X12_back_73 : decode cX12_back 73 = .ok (.iaload, 1) := by decide +kernel
theorem d_X12_back_74 : decode cX12_back 74 = .ok (.iastore, 1) := by decide +kernel
theorem d_X12_back_75 : decode cX12_back 75 = .ok (.iinc 2 1, 3) := by decide +kernel
theorem d_X12_back_78 : decode cX12_back 78 = .ok (.goto (-28), 3) := by decide +kernel
theorem d_X12_back_81 : decode cX12_back 81 = .ok (.aload_n 0, 1) := by decide +kernel
theorem d_X12_back_82 : decode cX12_back 82 = .ok (.getfield 39, 3) := by decide +kernel
theorem d_X12_back_85 : decode cX12_back 85 = .ok (.iconst 4, 1) := by decide +kernel
theorem d_X12_back_86 : decode cX12_back 86 = .ok (.iaload, 1) := by decide +kernel
theorem d_X12_back_87 : decode cX12_back 87 = .ok (.ireturn, 1) := by decide +kernel
abbrev X_X12_back : gX := (RX12, cX12_back, 3, (some .int), false)
def F_X12_back_b21 (M : gM) : Option (Int32 × gM) :=
  some ((-1 : Int32), M)
theorem T_X12_back_b21 (r : (Int32 × gM)) (M : gM) (h : F_X12_back_b21 M = some r) : GW 1 0 0 X_X12_back 21 [] [] M (some (vi r.1), r.2) := by
  delta F_X12_back_b21 at h
  refine GW_iconst (X := X_X12_back) (pc := 21) (v := -1) d_X12_back_21 (by decide) ?_
  replace h := Option.some.inj h
  subst h
  exact GW_ret (X := X_X12_back) (pc := 22) d_X12_back_22 rfl trivial
def F_X12_back_b50 (k50 : Option Nat → Int32 → Int32 → gM → Option (Int32 × gM)) (l0 : Option Nat) (l1 : Int32) (l2 : Int32) (M : gM) : Option (Int32 × gM) :=
  if (157 : Int32) ≤ l2 then ((gR 12 M l0 20).bind fun v1 => (aI 20 M v1 (4 : Int32)).bind fun v2 => some (v2, M)) else ((gR 12 M l0 20).bind fun v3 => (gR 12 M l0 33).bind fun v4 => (aI 20 M v4 (((157 : Int32) * l1) + l2)).bind fun v5 => (sI M v3 l2 v5).bind fun M6 => k50 l0 l1 (l2 + 1) M6)
theorem T_X12_back_b50 (k50 : Option Nat → Int32 → Int32 → gM → Option (Int32 × gM)) (r : (Int32 × gM)) (hk50 : ∀ (l0 : Option Nat) (l1 : Int32) (l2 : Int32) (M : gM), k50 l0 l1 l2 M = some r → GW 1 0 0 X_X12_back 50 [(0, vr l0), (1, vi l1), (2, vi l2)] [] M (some (vi r.1), r.2)) (l0 : Option Nat) (l1 : Int32) (l2 : Int32) (M : gM) (h : F_X12_back_b50 k50 l0 l1 l2 M = some r) : GW 1 0 0 X_X12_back 50 [(0, vr l0), (1, vi l1), (2, vi l2)] [] M (some (vi r.1), r.2) := by
  delta F_X12_back_b50 at h
  refine GW_iload_n (X := X_X12_back) (pc := 50) d_X12_back_50 rfl 2 rfl ?_
  refine GW_sipush (X := X_X12_back) (pc := 51) (v := 157) d_X12_back_51 (by decide) ?_
  refine GW_icmp_ge (X := X_X12_back) (pc := 54) 81 d_X12_back_54 (by decide) (fun c => ?_) (fun c => ?_)
  · replace h := g_ip c h
    refine GW_aload_n (X := X_X12_back) (pc := 81) d_X12_back_81 rfl 0 rfl ?_
    replace h := g_bd h
    obtain ⟨v1, hv1, h⟩ := h
    refine GW_getR (X := X_X12_back) (pc := 82) f_X12_39 d_X12_back_82 hv1 (Or.inr ⟨_, ty_12_20⟩) ?_
    refine GW_iconst (X := X_X12_back) (pc := 85) (v := 4) d_X12_back_85 (by decide) ?_
    replace h := g_bd h
    obtain ⟨v2, hv2, h⟩ := h
    refine GW_iald (X := X_X12_back) (pc := 86) d_X12_back_86 hv2 ?_
    replace h := Option.some.inj h
    subst h
    exact GW_ret (X := X_X12_back) (pc := 87) d_X12_back_87 rfl trivial
  · replace h := g_ie c h
    refine GW_aload_n (X := X_X12_back) (pc := 57) d_X12_back_57 rfl 0 rfl ?_
    replace h := g_bd h
    obtain ⟨v3, hv3, h⟩ := h
    refine GW_getR (X := X_X12_back) (pc := 58) f_X12_39 d_X12_back_58 hv3 (Or.inr ⟨_, ty_12_20⟩) ?_
    refine GW_iload_n (X := X_X12_back) (pc := 61) d_X12_back_61 rfl 2 rfl ?_
    refine GW_aload_n (X := X_X12_back) (pc := 62) d_X12_back_62 rfl 0 rfl ?_
    replace h := g_bd h
    obtain ⟨v4, hv4, h⟩ := h
    refine GW_getR (X := X_X12_back) (pc := 63) f_X12_67 d_X12_back_63 hv4 (Or.inr ⟨_, ty_12_33⟩) ?_
    refine GW_sipush (X := X_X12_back) (pc := 66) (v := 157) d_X12_back_66 (by decide) ?_
    refine GW_iload_n (X := X_X12_back) (pc := 69) d_X12_back_69 rfl 1 rfl ?_
    refine GW_imul (X := X_X12_back) (pc := 70) d_X12_back_70 ?_
    refine GW_iload_n (X := X_X12_back) (pc := 71) d_X12_back_71 rfl 2 rfl ?_
    refine GW_iadd (X := X_X12_back) (pc := 72) d_X12_back_72 ?_
    replace h := g_bd h
    obtain ⟨v5, hv5, h⟩ := h
    refine GW_iald (X := X_X12_back) (pc := 73) d_X12_back_73 hv5 ?_
    replace h := g_bd h
    obtain ⟨M6, hM6, h⟩ := h
    refine GW_iast (X := X_X12_back) (pc := 74) d_X12_back_74 hM6 ?_
    refine GW_iinc (j := 2) (X := X_X12_back) (pc := 75) d_X12_back_75 rfl (congrArg (fun z => _ + z) (by decide : Int32.ofInt 1 = (1 : Int32))) (Nat.le_of_ble_eq_true rfl) (lv2 := [(2, vi (l2 + 1)), (0, vr l0), (1, vi l1)]) rfl ?_
    refine GW_goto (X := X_X12_back) (pc := 78) 50 d_X12_back_78 (by decide) ?_
    refine GW_sub [1, 2, 0] rfl ?_
    exact hk50 l0 l1 (l2 + 1) M6 h
def F_X12_back_L50 : Nat → Option Nat → Int32 → Int32 → gM → Option (Int32 × gM)
  | 0 => fun _ _ _ _ => none
  | n + 1 => F_X12_back_b50 (F_X12_back_L50 n)
theorem T_X12_back_L50 (r : (Int32 × gM)) : ∀ (n : Nat) (l0 : Option Nat) (l1 : Int32) (l2 : Int32) (M : gM), F_X12_back_L50 n l0 l1 l2 M = some r → GW 1 0 0 X_X12_back 50 [(0, vr l0), (1, vi l1), (2, vi l2)] [] M (some (vi r.1), r.2) := by
  intro n
  induction n with
  | zero => intro l0 l1 l2 M h; exact g_no h
  | succ n ih => intro l0 l1 l2 M h; exact T_X12_back_b50 (F_X12_back_L50 n) r ih l0 l1 l2 M h
def F_X12_back_b0 (l0 : Option Nat) (l1 : Int32) (M : gM) : Option (Int32 × gM) :=
  (F_X12_in (l1).toInt64 (0 : Int64) (3 : Int64) M).bind fun v1 => if v1 = 0 then (F_X12_back_b21 M) else ((gR 12 M l0 36).bind fun v2 => (aI 23 M v2 l1).bind fun v3 => if v3 = 0 then (F_X12_back_b21 M) else ((gR 12 M l0 34).bind fun v4 => (aI 20 M v4 l1).bind fun v5 => (pI 12 M l0 21 v5).bind fun M6 => (gR 12 M6 l0 35).bind fun v7 => (aI 20 M6 v7 l1).bind fun v8 => (pI 12 M6 l0 22 v8).bind fun M9 => (pI 12 M9 l0 25 (0 : Int32)).bind fun M10 => F_X12_back_L50 g_fuel l0 l1 (0 : Int32) M10))
set_option maxHeartbeats 1000000 in
theorem T_X12_back_b0 (r : (Int32 × gM)) (l0 : Option Nat) (l1 : Int32) (M : gM) (h : F_X12_back_b0 l0 l1 M = some r) : GW 1 0 0 X_X12_back 0 [(0, vr l0), (1, vi l1)] [] M (some (vi r.1), r.2) := by
  delta F_X12_back_b0 at h
  refine GW_iload_n (X := X_X12_back) (pc := 0) d_X12_back_0 rfl 1 rfl ?_
  refine GW_i2l (X := X_X12_back) (pc := 1) d_X12_back_1 ?_
  refine GW_lconst (X := X_X12_back) (pc := 2) (v := 0) d_X12_back_2 (by decide) ?_
  refine GW_ldc2 (X := X_X12_back) (pc := 3) d_X12_back_3 m_1690 ?_
  replace h := g_bd h
  obtain ⟨v1, hv1, h⟩ := h
  refine GW_callS (X := X_X12_back) (pc := 6) (bc0 := 0) (bs0 := 0) (r := some (vi v1)) (M2 := M) (T_X12_in (l1).toInt64 (0 : Int64) (3 : Int64) M v1 hv1) (Nat.le_of_ble_eq_true rfl) (Nat.le_of_ble_eq_true rfl) yc_X12_in ⟨m_1291, m_1292, m_127, m_1293⟩ d_X12_back_6 rfl (st := []) rfl (Nat.le_of_ble_eq_true rfl) (Nat.le_of_ble_eq_true rfl) (Nat.le_of_ble_eq_true rfl) (st2 := [vi v1]) rfl ?_
  refine GW_if_eq (X := X_X12_back) (pc := 9) 21 d_X12_back_9 (by decide) (fun c => ?_) (fun c => ?_)
  · replace h := g_ip c h
    refine GW_sub [] rfl ?_
    exact T_X12_back_b21 r M h
  · replace h := g_ie c h
    refine GW_aload_n (X := X_X12_back) (pc := 12) d_X12_back_12 rfl 0 rfl ?_
    replace h := g_bd h
    obtain ⟨v2, hv2, h⟩ := h
    refine GW_getR (X := X_X12_back) (pc := 13) f_X12_76 d_X12_back_13 hv2 (Or.inr ⟨_, ty_12_36⟩) ?_
    refine GW_iload_n (X := X_X12_back) (pc := 16) d_X12_back_16 rfl 1 rfl ?_
    replace h := g_bd h
    obtain ⟨v3, hv3, h⟩ := h
    refine GW_zald (X := X_X12_back) (pc := 17) d_X12_back_17 hv3 ?_
    refine GW_if_ne (X := X_X12_back) (pc := 18) 23 d_X12_back_18 (by decide) (fun c => ?_) (fun c => ?_)
    · replace h := g_ie c h
      refine GW_aload_n (X := X_X12_back) (pc := 23) d_X12_back_23 rfl 0 rfl ?_
      refine GW_aload_n (X := X_X12_back) (pc := 24) d_X12_back_24 rfl 0 rfl ?_
      replace h := g_bd h
      obtain ⟨v4, hv4, h⟩ := h
      refine GW_getR (X := X_X12_back) (pc := 25) f_X12_70 d_X12_back_25 hv4 (Or.inr ⟨_, ty_12_34⟩) ?_
      refine GW_iload_n (X := X_X12_back) (pc := 28) d_X12_back_28 rfl 1 rfl ?_
      replace h := g_bd h
      obtain ⟨v5, hv5, h⟩ := h
      refine GW_iald (X := X_X12_back) (pc := 29) d_X12_back_29 hv5 ?_
      replace h := g_bd h
      obtain ⟨M6, hM6, h⟩ := h
      refine GW_putI (X := X_X12_back) (pc := 30) f_X12_42 d_X12_back_30 hM6 (Or.inl fi_12_21) (Or.inl ty_12_21) ?_
      refine GW_aload_n (X := X_X12_back) (pc := 33) d_X12_back_33 rfl 0 rfl ?_
      refine GW_aload_n (X := X_X12_back) (pc := 34) d_X12_back_34 rfl 0 rfl ?_
      replace h := g_bd h
      obtain ⟨v7, hv7, h⟩ := h
      refine GW_getR (X := X_X12_back) (pc := 35) f_X12_73 d_X12_back_35 hv7 (Or.inr ⟨_, ty_12_35⟩) ?_
      refine GW_iload_n (X := X_X12_back) (pc := 38) d_X12_back_38 rfl 1 rfl ?_
      replace h := g_bd h
      obtain ⟨v8, hv8, h⟩ := h
      refine GW_iald (X := X_X12_back) (pc := 39) d_X12_back_39 hv8 ?_
      replace h := g_bd h
      obtain ⟨M9, hM9, h⟩ := h
      refine GW_putI (X := X_X12_back) (pc := 40) f_X12_427 d_X12_back_40 hM9 (Or.inl fi_12_22) (Or.inl ty_12_22) ?_
      refine GW_aload_n (X := X_X12_back) (pc := 43) d_X12_back_43 rfl 0 rfl ?_
      refine GW_iconst (X := X_X12_back) (pc := 44) (v := 0) d_X12_back_44 (by decide) ?_
      replace h := g_bd h
      obtain ⟨M10, hM10, h⟩ := h
      refine GW_putI (X := X_X12_back) (pc := 45) f_X12_279 d_X12_back_45 hM10 (Or.inl fi_12_25) (Or.inl ty_12_25) ?_
      refine GW_iconst (X := X_X12_back) (pc := 48) (v := 0) d_X12_back_48 (by decide) ?_
      refine GW_istore_n (X := X_X12_back) (pc := 49) d_X12_back_49 rfl (Nat.le_of_ble_eq_true rfl) (lv2 := [(2, vi (0 : Int32)), (0, vr l0), (1, vi l1)]) rfl ?_
      refine GW_sub [1, 2, 0] rfl ?_
      exact T_X12_back_L50 r g_fuel l0 l1 (0 : Int32) M10 h
    · replace h := g_ip c h
      refine GW_sub [] rfl ?_
      exact T_X12_back_b21 r M h
def F_X12_back (l0 : Option Nat) (l1 : Int32) (M : gM) : Option (Int32 × gM) := F_X12_back_b0 l0 l1 M
theorem T_X12_back (l0 : Option Nat) (l1 : Int32) (M : gM) (r : (Int32 × gM)) (h : F_X12_back l0 l1 M = some r) : g_Met 1 0 0 yX12_back X_X12_back [vr l0, vi l1] M (some (vi r.1), r.2) :=
  g_Met_of pn_RX12 rfl (Nat.le_of_ble_eq_true rfl) (fun h => by cases h) (GW_sub [0, 1] rfl (T_X12_back_b0 r l0 l1 M h))
