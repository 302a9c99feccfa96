/-! ForgetHeirsModel.year()I -/
theorem d_X12_year_0 : decode cX12_year 0 = .ok (.aload_n 0, 1) := by decide +kernel
theorem d_X12_year_1 : decode cX12_year 1 = .ok (.invokevirtual 362, 3) := by decide +kernel
theorem d_X12_year_4 : decode cX12_year 4 = .ok (.ifCond .eq 15, 3) := by decide +kernel
theorem d_X12_year_7 : decode cX12_year 7 = .ok (.aload_n 0, 1) := by decide +kernel
theorem d_X12_year_8 : decode cX12_year 8 = .ok (.getfield 39, 3) := by decide +kernel
theorem d_X12_year_11 : decode cX12_year 11 = .ok (.iconst 4, 1) := by decide +kernel
theorem d_X12_year_12 : decode cX12_year 12 = .ok (.iaload, 1) := by decide +kernel
theorem d_X12_year_13 : decode cX12_year 13 = .ok (.sipush 999, 3) := by decide +kernel
theorem d_X12_year_16 : decode cX12_year 16 = .ok (.if_icmp .ne 5, 3) := by decide +kernel
theorem d_X12_year_19 : decode cX12_year 19 = .ok (.iconst (-1), 1) := by decide +kernel
theorem d_X12_year_20 : decode cX12_year 20 = .ok (.ireturn, 1) := by decide +kernel
theorem d_X12_year_21 : decode cX12_year 21 = .ok (.aload_n 0, 1) := by decide +kernel
theorem d_X12_year_22 : decode cX12_year 22 = .ok (.invokevirtual 365, 3) := by decide +kernel
theorem d_X12_year_25 : decode cX12_year 25 = .ok (.aload_n 0, 1) := by decide +kernel
theorem d_X12_year_26 : decode cX12_year 26 = .ok (.invokevirtual 368, 3) := by decide +kernel
theorem d_X12_year_29 : decode cX12_year 29 = .ok (.ireturn, 1) := by decide +kernel
abbrev X_X12_year : gX := (RX12, cX12_year, 1, (some .int), false)
def F_X12_year_b19 (M : gM) : Option (Int32 × gM) :=
  some ((-1 : Int32), M)
theorem T_X12_year_b19 (r : (Int32 × gM)) (M : gM) (h : F_X12_year_b19 M = some r) : GW 5 0 0 X_X12_year 19 [] [] M (some (vi r.1), r.2) := by
  delta F_X12_year_b19 at h
  refine GW_iconst (X := X_X12_year) (pc := 19) (v := -1) d_X12_year_19 (by decide) ?_
  replace h := Option.some.inj h
  subst h
  exact GW_ret (X := X_X12_year) (pc := 20) d_X12_year_20 rfl trivial
def F_X12_year_b0 (l0 : Option Nat) (M : gM) : Option (Int32 × gM) :=
  (gO 12 M l0).bind fun i1 => (F_X12_isHouse (some i1) M).bind fun v2 => if v2 = 0 then (F_X12_year_b19 M) else ((gR 12 M (some i1) 20).bind fun v3 => (aI 20 M v3 (4 : Int32)).bind fun v4 => if v4 = (999 : Int32) then (F_X12_year_b19 M) else ((F_X12_keepsAct (some i1) M).bind fun M5 => (gC 12 M5 i1).bind fun _ => (F_X12_passes (some i1) M5).bind fun (v7, M8) => some (v7, M8)))
set_option maxHeartbeats 1000000 in
theorem T_X12_year_b0 (r : (Int32 × gM)) (l0 : Option Nat) (M : gM) (h : F_X12_year_b0 l0 M = some r) : GW 5 0 0 X_X12_year 0 [(0, vr l0)] [] M (some (vi r.1), r.2) := by
  delta F_X12_year_b0 at h
  refine GW_aload_n (X := X_X12_year) (pc := 0) d_X12_year_0 rfl 0 rfl ?_
  replace h := g_bd h
  obtain ⟨i1, hi1, h⟩ := h
  obtain ⟨rfl, ki1⟩ := g_gO hi1
  replace h := g_bd h
  obtain ⟨v2, hv2, h⟩ := h
  refine GW_callV (X := X_X12_year) (pc := 1) (bc0 := 0) (bs0 := 0) (r := some (vi v2)) (M2 := M) (c0 := 12) (T_X12_isHouse (some i1) M v2 hv2) (Nat.le_of_ble_eq_true rfl) (Nat.le_of_ble_eq_true rfl) rfl g_cok12 ki1 yc_X12_isHouse ⟨m_1469, m_1471, m_85, m_127, m_1472⟩ d_X12_year_1 rfl (st := []) rfl (Nat.le_of_ble_eq_true rfl) (Nat.le_of_ble_eq_true rfl) (Nat.le_of_ble_eq_true rfl) (st2 := [vi v2]) rfl ?_
  refine GW_if_eq (X := X_X12_year) (pc := 4) 19 d_X12_year_4 (by decide) (fun c => ?_) (fun c => ?_)
  · replace h := g_ip c h
    refine GW_sub [] rfl ?_
    exact T_X12_year_b19 r M h
  · replace h := g_ie c h
    refine GW_aload_n (X := X_X12_year) (pc := 7) d_X12_year_7 rfl 0 rfl ?_
    replace h := g_bd h
    obtain ⟨v3, hv3, h⟩ := h
    refine GW_getR (X := X_X12_year) (pc := 8) f_X12_39 d_X12_year_8 hv3 (Or.inr ⟨_, ty_12_20⟩) ?_
    refine GW_iconst (X := X_X12_year) (pc := 11) (v := 4) d_X12_year_11 (by decide) ?_
    replace h := g_bd h
    obtain ⟨v4, hv4, h⟩ := h
    refine GW_iald (X := X_X12_year) (pc := 12) d_X12_year_12 hv4 ?_
    refine GW_sipush (X := X_X12_year) (pc := 13) (v := 999) d_X12_year_13 (by decide) ?_
    refine GW_icmp_ne (X := X_X12_year) (pc := 16) 21 d_X12_year_16 (by decide) (fun c => ?_) (fun c => ?_)
    · replace h := g_ie c h
      refine GW_aload_n (X := X_X12_year) (pc := 21) d_X12_year_21 rfl 0 rfl ?_
      replace h := g_bd h
      obtain ⟨M5, hM5, h⟩ := h
      refine GW_callV (X := X_X12_year) (pc := 22) (bc0 := 0) (bs0 := 0) (r := none) (M2 := M5) (c0 := 12) (T_X12_keepsAct (some i1) M M5 hM5) (Nat.le_of_ble_eq_true rfl) (Nat.le_of_ble_eq_true rfl) rfl g_cok12 ki1 yc_X12_keepsAct ⟨m_1473, m_1475, m_86, m_127, m_1476⟩ d_X12_year_22 rfl (st := []) rfl (Nat.le_of_ble_eq_true rfl) (Nat.le_of_ble_eq_true rfl) (Nat.le_of_ble_eq_true rfl) (st2 := []) rfl ?_
      refine GW_aload_n (X := X_X12_year) (pc := 25) d_X12_year_25 rfl 0 rfl ?_
      replace h := g_bd h
      obtain ⟨_, kk6, h⟩ := h
      replace kk6 := g_gC kk6
      replace h := g_bd h
      obtain ⟨⟨v7, M8⟩, hv7, h⟩ := h
      dsimp only at h
      refine GW_callV (X := X_X12_year) (pc := 26) (bc0 := 0) (bs0 := 0) (r := some (vi v7)) (M2 := M8) (c0 := 12) (T_X12_passes (some i1) M5 (v7, M8) hv7) (Nat.le_of_ble_eq_true rfl) (Nat.le_of_ble_eq_true rfl) rfl g_cok12 kk6 yc_X12_passes ⟨m_1477, m_1479, m_87, m_127, m_1480⟩ d_X12_year_26 rfl (st := []) rfl (Nat.le_of_ble_eq_true rfl) (Nat.le_of_ble_eq_true rfl) (Nat.le_of_ble_eq_true rfl) (st2 := [vi v7]) rfl ?_
      replace h := Option.some.inj h
      subst h
      exact GW_ret (X := X_X12_year) (pc := 29) d_X12_year_29 rfl trivial
    · replace h := g_ip c h
      refine GW_sub [] rfl ?_
      exact T_X12_year_b19 r M h
def F_X12_year (l0 : Option Nat) (M : gM) : Option (Int32 × gM) := F_X12_year_b0 l0 M
theorem T_X12_year (l0 : Option Nat) (M : gM) (r : (Int32 × gM)) (h : F_X12_year l0 M = some r) : g_Met 5 0 0 yX12_year X_X12_year [vr l0] M (some (vi r.1), r.2) :=
  g_Met_of pn_RX12 rfl (Nat.le_of_ble_eq_true rfl) (fun h => by cases h) (GW_sub [0] rfl (T_X12_year_b0 r l0 M h))
/-! ForgetHeirs.isKnown(II)Z -/
theorem d_X11_isKnown_0 : decode cX11_isKnown 0 = .ok (.aload_n 0, 1) := by decide +kernel
theorem d_X11_isKnown_1 : decode cX11_isKnown 1 = .ok (.iload_n 1, 1) := by decide +kernel
theorem d_X11_isKnown_2 : decode cX11_isKnown 2 = .ok (.invokevirtual 127, 3) := by decide +kernel
theorem d_X11_isKnown_5 : decode cX11_isKnown 5 = .ok (.ifCond .eq 32, 3) := by decide +kernel
theorem d_X11_isKnown_8 : decode cX11_isKnown 8 = .ok (.aload_n 0, 1) := by decide +kernel
theorem d_X11_isKnown_9 : decode cX11_isKnown 9 = .ok (.iload_n 2, 1) := by decide +kernel
theorem d_X11_isKnown_10 : decode cX11_isKnown 10 = .ok (.invokevirtual 154, 3) := by decide +kernel
theorem d_X11_isKnown_13 : decode cX11_isKnown 13 = .ok (.ifCond .eq 24, 3) := by decide +kernel
theorem d_X11_isKnown_16 : decode cX11_isKnown 16 = .ok (.aload_n 0, 1) := by decide +kernel
theorem d_X11_isKnown_17 : decode cX11_isKnown 17 = .ok (.getfield 25, 3) := by decide +kernel
theorem d_X11_isKnown_20 : decode cX11_isKnown 20 = .ok (.getfield 178, 3) := by decide +kernel
theorem d_X11_isKnown_23 : decode cX11_isKnown 23 = .ok (.iload_n 1, 1) := by decide +kernel
theorem d_X11_isKnown_24 : decode cX11_isKnown 24 = .ok (.bipush 7, 2) := by decide +kernel
theorem d_X11_isKnown_26 : decode cX11_isKnown 26 = .ok (.imul, 1) := by decide +kernel
theorem d_X11_isKnown_27 : decode cX11_isKnown 27 = .ok (.iload_n 2, 1) := by decide +kernel
theorem d_X11_isKnown_28 : decode cX11_isKnown 28 = .ok (.iadd, 1) := by decide +kernel
theorem d_X11_isKnown_29 : decode cX11_isKnown 29 = .ok (.iaload, 1) := by decide +kernel
theorem d_X11_isKnown_30 : decode cX11_isKnown 30 = .ok (.ifCond .le 7, 3) := by decide +kernel
theorem d_X11_isKnown_33 : decode cX11_isKnown 33 = .ok (.iconst 1, 1) := by decide +kernel
theorem d_X11_isKnown_34 : decode cX11_isKnown 34 = .ok (.goto 4, 3) := by decide +kernel
theorem d_X11_isKnown_37 : decode cX11_isKnown 37 = .ok (.iconst 0, 1) := by decide +kernel
theorem d_X11_isKnown_38 : decode cX11_isKnown 38 = .ok (.ireturn, 1) := by decide +kernel
abbrev X_X11_isKnown : gX := (RX11, cX11_isKnown, 3, (some .boolean), false)
def F_X11_isKnown_b37 (M : gM) : Option Int32 :=
  some (0 : Int32)
theorem T_X11_isKnown_b37 (M : gM) (r : Int32) (h : F_X11_isKnown_b37 M = some r) : GW 1 0 0 X_X11_isKnown 37 [] [] M (some (vi r), M) := by
  delta F_X11_isKnown_b37 at h
  refine GW_iconst (X := X_X11_isKnown) (pc := 37) (v := 0) d_X11_isKnown_37 (by decide) ?_
  replace h := Option.some.inj h
  subst h
  exact GW_ret (X := X_X11_isKnown) (pc := 38) d_X11_isKnown_38 rfl g_rok0
def F_X11_isKnown_b0 (M : gM) (l0 : Option Nat) (l1 : Int32) (l2 : Int32) : Option Int32 :=
  (gO 11 M l0).bind fun i1 => (F_X11_isHeir (some i1) l1 M).bind fun v2 => if v2 = 0 then (F_X11_isKnown_b37 M ) else ((F_X11_isThing (some i1) l2 M).bind fun v3 => if v3 = 0 then (F_X11_isKnown_b37 M ) else ((gR 11 M (some i1) 5).bind fun v4 => (gR 8 M v4 1).bind fun v5 => (aI 20 M v5 ((l1 * (7 : Int32)) + l2)).bind fun v6 => if v6 ≤ 0 then (F_X11_isKnown_b37 M ) else (some (1 : Int32))))
set_option maxHeartbeats 1000000 in
theorem T_X11_isKnown_b0 (M : gM) (r : Int32) (l0 : Option Nat) (l1 : Int32) (l2 : Int32) (h : F_X11_isKnown_b0 M l0 l1 l2 = some r) : GW 1 0 0 X_X11_isKnown 0 [(0, vr l0), (1, vi l1), (2, vi l2)] [] M (some (vi r), M) := by
  delta F_X11_isKnown_b0 at h
  refine GW_aload_n (X := X_X11_isKnown) (pc := 0) d_X11_isKnown_0 rfl 0 rfl ?_
  refine GW_iload_n (X := X_X11_isKnown) (pc := 1) d_X11_isKnown_1 rfl 1 rfl ?_
  replace h := g_bd h
  obtain ⟨i1, hi1, h⟩ := h
  obtain ⟨rfl, ki1⟩ := g_gO hi1
  replace h := g_bd h
  obtain ⟨v2, hv2, h⟩ := h
  refine GW_callV (X := X_X11_isKnown) (pc := 2) (bc0 := 0) (bs0 := 0) (r := some (vi v2)) (M2 := M) (c0 := 11) (T_X11_isHeir (some i1) l1 M v2 hv2) (Nat.le_of_ble_eq_true rfl) (Nat.le_of_ble_eq_true rfl) rfl g_cok11 ki1 yc_X11_isHeir ⟨m_768, m_770, m_20, m_116, m_771⟩ d_X11_isKnown_2 rfl (st := []) rfl (Nat.le_of_ble_eq_true rfl) (Nat.le_of_ble_eq_true rfl) (Nat.le_of_ble_eq_true rfl) (st2 := [vi v2]) rfl ?_
  refine GW_if_eq (X := X_X11_isKnown) (pc := 5) 37 d_X11_isKnown_5 (by decide) (fun c => ?_) (fun c => ?_)
  · replace h := g_ip c h
    refine GW_sub [] rfl ?_
    exact T_X11_isKnown_b37 M r  h
  · replace h := g_ie c h
    refine GW_aload_n (X := X_X11_isKnown) (pc := 8) d_X11_isKnown_8 rfl 0 rfl ?_
    refine GW_iload_n (X := X_X11_isKnown) (pc := 9) d_X11_isKnown_9 rfl 2 rfl ?_
    replace h := g_bd h
    obtain ⟨v3, hv3, h⟩ := h
    refine GW_callV (X := X_X11_isKnown) (pc := 10) (bc0 := 0) (bs0 := 0) (r := some (vi v3)) (M2 := M) (c0 := 11) (T_X11_isThing (some i1) l2 M v3 hv3) (Nat.le_of_ble_eq_true rfl) (Nat.le_of_ble_eq_true rfl) rfl g_cok11 ki1 yc_X11_isThing ⟨m_794, m_796, m_22, m_116, m_797⟩ d_X11_isKnown_10 rfl (st := []) rfl (Nat.le_of_ble_eq_true rfl) (Nat.le_of_ble_eq_true rfl) (Nat.le_of_ble_eq_true rfl) (st2 := [vi v3]) rfl ?_
    refine GW_if_eq (X := X_X11_isKnown) (pc := 13) 37 d_X11_isKnown_13 (by decide) (fun c => ?_) (fun c => ?_)
    · replace h := g_ip c h
      refine GW_sub [] rfl ?_
      exact T_X11_isKnown_b37 M r  h
    · replace h := g_ie c h
      refine GW_aload_n (X := X_X11_isKnown) (pc := 16) d_X11_isKnown_16 rfl 0 rfl ?_
      replace h := g_bd h
      obtain ⟨v4, hv4, h⟩ := h
      refine GW_getR (X := X_X11_isKnown) (pc := 17) f_X11_25 d_X11_isKnown_17 hv4 (Or.inl ⟨_, ty_11_5⟩) ?_
      replace h := g_bd h
      obtain ⟨v5, hv5, h⟩ := h
      refine GW_getR (X := X_X11_isKnown) (pc := 20) f_X11_178 d_X11_isKnown_20 hv5 (Or.inr ⟨_, ty_8_1⟩) ?_
      refine GW_iload_n (X := X_X11_isKnown) (pc := 23) d_X11_isKnown_23 rfl 1 rfl ?_
      refine GW_bipush (X := X_X11_isKnown) (pc := 24) (v := 7) d_X11_isKnown_24 (by decide) ?_
      refine GW_imul (X := X_X11_isKnown) (pc := 26) d_X11_isKnown_26 ?_
      refine GW_iload_n (X := X_X11_isKnown) (pc := 27) d_X11_isKnown_27 rfl 2 rfl ?_
      refine GW_iadd (X := X_X11_isKnown) (pc := 28) d_X11_isKnown_28 ?_
      replace h := g_bd h
      obtain ⟨v6, hv6, h⟩ := h
      refine GW_iald (X := X_X11_isKnown) (pc := 29) d_X11_isKnown_29 hv6 ?_
      refine GW_if_le (X := X_X11_isKnown) (pc := 30) 37 d_X11_isKnown_30 (by decide) (fun c => ?_) (fun c => ?_)
      · replace h := g_ip c h
        refine GW_sub [] rfl ?_
        exact T_X11_isKnown_b37 M r  h
      · replace h := g_ie c h
        refine GW_iconst (X := X_X11_isKnown) (pc := 33) (v := 1) d_X11_isKnown_33 (by decide) ?_
        refine GW_goto (X := X_X11_isKnown) (pc := 34) 38 d_X11_isKnown_34 (by decide) ?_
        replace h := Option.some.inj h
        subst h
        exact GW_ret (X := X_X11_isKnown) (pc := 38) d_X11_isKnown_38 rfl g_rok1
def F_X11_isKnown (l0 : Option Nat) (l1 : Int32) (l2 : Int32) (M : gM) : Option Int32 := F_X11_isKnown_b0 M l0 l1 l2
theorem T_X11_isKnown (l0 : Option Nat) (l1 : Int32) (l2 : Int32) (M : gM) (r : Int32) (h : F_X11_isKnown l0 l1 l2 M = some r) : g_Met 1 0 0 yX11_isKnown X_X11_isKnown [vr l0, vi l1, vi l2] M (some (vi r), M) :=
  g_Met_of pn_RX11 rfl (Nat.le_of_ble_eq_true rfl) (fun h => by cases h) (GW_sub [0, 1, 2] rfl (T_X11_isKnown_b0 M r l0 l1 l2 h))
/-! ForgetHeirs$State.takes(IIIZ)Z -/
theorem d_X8_takes_0 : decode cX8_takes 0 = .ok (.aload_n 0, 1) := by decide +kernel
theorem d_X8_takes_1 : decode cX8_takes 1 = .ok (.getfield 15, 3) := by decide +kernel
theorem d_X8_takes_4 : decode cX8_takes 4 = .ok (.iload_n 2, 1) := by decide +kernel
theorem d_X8_takes_5 : decode cX8_takes 5 = .ok (.bipush 7, 2) := by decide +kernel
theorem d_X8_takes_7 : decode cX8_takes 7 = .ok (.imul, 1) := by decide +kernel
theorem d_X8_takes_8 : decode cX8_takes 8 = .ok (.iload_n 3, 1) := by decide +kernel
theorem d_X8_takes_9 : decode cX8_takes 9 = .ok (.iadd, 1) := by decide +kernel
theorem d_X8_takes_10 : decode cX8_takes 10 = .ok (.iaload, 1) := by decide +kernel
theorem d_X8_takes_11 : decode cX8_takes 11 = .ok (.istore 5, 2) := by decide +kernel
theorem d_X8_takes_13 : decode cX8_takes 13 = .ok (.aload_n 0, 1) := by decide +kernel
theorem d_X8_takes_14 : decode cX8_takes 14 = .ok (.getfield 15, 3) := by decide +kernel
theorem d_X8_takes_17 : decode cX8_takes 17 = .ok (.iload_n 1, 1) := by decide +kernel
theorem d_X8_takes_18 : decode cX8_takes 18 = .ok (.bipush 7, 2) := by decide +kernel
theorem d_X8_takes_20 : decode cX8_takes 20 = .ok (.imul, 1) := by decide +kernel
theorem d_X8_takes_21 : decode cX8_takes 21 = .ok (.iload_n 3, 1) := by decide +kernel
theorem d_X8_takes_22 : decode cX8_takes 22 = .ok (.iadd, 1) := by decide +kernel
theorem d_X8_takes_23 : decode cX8_takes 23 = .ok (.iaload, 1) := by decide +kernel
theorem d_X8_takes_24 : decode cX8_takes 24 = .ok (.iload 5, 2) := by decide +kernel
theorem d_X8_takes_26 : decode cX8_takes 26 = .ok (.if_icmp .lt 5, 3) := by decide +kernel
theorem d_X8_takes_29 : decode cX8_takes 29 = .ok (.iconst 0, 1) := by decide +kernel
theorem d_X8_takes_30 : decode cX8_takes 30 = .ok (.ireturn, 1) := by decide +kernel
theorem d_X8_takes_31 : decode cX8_takes 31 = .ok (.aload_n 0, 1) := by decide +kernel
theorem d_X8_takes_32 : decode cX8_takes 32 = .ok (.iload_n 1, 1) := by decide +kernel
theorem d_X8_takes_33 : decode cX8_takes 33 = .ok (.iload_n 3, 1) := by decide +kernel
theorem d_X8_takes_34 : decode cX8_takes 34 = .ok (.aload_n 0, 1) := by decide +kernel
theorem d_X8_takes_35 : decode cX8_takes 35 = .ok (.getfield 9, 3) := by decide +kernel
theorem d_X8_takes_38 : decode cX8_takes 38 = .ok (.iload_n 2, 1) := by decide +kernel
theorem d_X8_takes_39 : decode cX8_takes 39 = .ok (.bipush 7, 2) := by decide +kernel
theorem d_X8_takes_41 : decode cX8_takes 41 = .ok (.imul, 1) := by decide +kernel
theorem d_X8_takes_42 : decode cX8_takes 42 = .ok (.iload_n 3, 1) := by decide +kernel
theorem d_X8_takes_43 : decode cX8_takes 43 = .ok (.iadd, 1) := by decide +kernel
theorem d_X8_takes_44 : decode cX8_takes 44 = .ok (.iaload, 1) := by decide +kernel
theorem d_X8_takes_45 : decode cX8_takes 45 = .ok (.iload 4, 2) := by decide +kernel
theorem d_X8_takes_47 : decode cX8_takes 47 = .ok (.ifCond .eq 8, 3) := by decide +kernel
theorem d_X8_takes_50 : decode cX8_takes 50 = .ok (.iload 5, 2) := by decide +kernel
theorem d_X8_takes_52 : decode cX8_takes 52 = .ok (.goto 11, 3) := by decide +kernel
theorem d_X8_takes_55 : decode cX8_takes 55 = .ok (.iconst 1, 1) := by decide +kernel
theorem d_X8_takes_56 : decode cX8_takes 56 = .ok (.iload 5, 2) := by decide +kernel
theorem d_X8_takes_58 : decode cX8_takes 58 = .ok (.iconst 2, 1) := by decide +kernel
theorem d_X8_takes_59 : decode cX8_takes 59 = .ok (.idiv, 1) := by decide +kernel
theorem d_X8_takes_60 : decode cX8_takes 60 = .ok (.invokestatic 44, 3) := by decide +kernel
theorem d_X8_takes_63 : decode cX8_takes 63 = .ok (.invokevirtual 40, 3) := by decide +kernel
theorem d_X8_takes_66 : decode cX8_takes 66 = .ok (.iconst 1, 1) := by decide +kernel
theorem d_X8_takes_67 : decode cX8_takes 67 = .ok (.ireturn, 1) := by decide +kernel
abbrev X_X8_takes : gX := (RX8, cX8_takes, 6, (some .boolean), false)
def F_X8_takes_b63 (s0 : Option Nat) (s1 : Int32) (s2 : Int32) (s3 : Int32) (s4 : Int32) (M : gM) : Option (Int32 × gM) :=
  (gO 8 M s0).bind fun i1 => (F_X8_learn (some i1) s1 s2 s3 s4 M).bind fun M2 => some ((1 : Int32), M2)
theorem T_X8_takes_b63 (r : (Int32 × gM)) (s0 : Option Nat) (s1 : Int32) (s2 : Int32) (s3 : Int32) (s4 : Int32) (M : gM) (h : F_X8_takes_b63 s0 s1 s2 s3 s4 M = some r) : GW 1 0 0 X_X8_takes 63 [] [vi s4, vi s3, vi s2, vi s1, vr s0] M (some (vi r.1), r.2) := by
  delta F_X8_takes_b63 at h
  replace h := g_bd h
  obtain ⟨i1, hi1, h⟩ := h
  obtain ⟨rfl, ki1⟩ := g_gO hi1
  replace h := g_bd h
  obtain ⟨M2, hM2, h⟩ := h
  refine GW_callV (X := X_X8_takes) (pc := 63) (bc0 := 0) (bs0 := 0) (r := none) (M2 := M2) (c0 := 8) (T_X8_learn (some i1) s1 s2 s3 s4 M M2 hM2) (Nat.le_of_ble_eq_true rfl) (Nat.le_of_ble_eq_true rfl) rfl g_cok8 ki1 yc_X8_learn ⟨m_893, m_653, m_654, m_119, m_655⟩ d_X8_takes_63 rfl (st := []) rfl (Nat.le_of_ble_eq_true rfl) (Nat.le_of_ble_eq_true rfl) (Nat.le_of_ble_eq_true rfl) (st2 := []) rfl ?_
  refine GW_iconst (X := X_X8_takes) (pc := 66) (v := 1) d_X8_takes_66 (by decide) ?_
  replace h := Option.some.inj h
  subst h
  exact GW_ret (X := X_X8_takes) (pc := 67) d_X8_takes_67 rfl g_rok1
def F_X8_takes_b0 (l0 : Option Nat) (l1 : Int32) (l2 : Int32) (l3 : Int32) (l4 : Int32) (M : gM) : Option (Int32 × gM) :=
  (gR 8 M l0 1).bind fun v1 => (aI 20 M v1 ((l2 * (7 : Int32)) + l3)).bind fun v2 => (gR 8 M l0 1).bind fun v3 => (aI 20 M v3 ((l1 * (7 : Int32)) + l3)).bind fun v4 => if v4 < v2 then ((gR 8 M l0 0).bind fun v5 => (aI 20 M v5 ((l2 * (7 : Int32)) + l3)).bind fun v6 => if l4 = 0 then (F_X8_takes_b63 l0 l1 l3 v6 (if (1 : Int32) < (v2 / (2 : Int32)) then (v2 / (2 : Int32)) else (1 : Int32)) M) else (F_X8_takes_b63 l0 l1 l3 v6 v2 M)) else (some ((0 : Int32), M))
set_option maxHeartbeats 1000000 in
theorem T_X8_takes_b0 (r : (Int32 × gM)) (l0 : Option Nat) (l1 : Int32) (l2 : Int32) (l3 : Int32) (l4 : Int32) (M : gM) (h : F_X8_takes_b0 l0 l1 l2 l3 l4 M = some r) : GW 1 0 0 X_X8_takes 0 [(0, vr l0), (1, vi l1), (2, vi l2), (3, vi l3), (4, vi l4)] [] M (some (vi r.1), r.2) := by
  delta F_X8_takes_b0 at h
  refine GW_aload_n (X := X_X8_takes) (pc := 0) d_X8_takes_0 rfl 0 rfl ?_
  replace h := g_bd h
  obtain ⟨v1, hv1, h⟩ := h
  refine GW_getR (X := X_X8_takes) (pc := 1) f_X8_15 d_X8_takes_1 hv1 (Or.inr ⟨_, ty_8_1⟩) ?_
  refine GW_iload_n (X := X_X8_takes) (pc := 4) d_X8_takes_4 rfl 2 rfl ?_
  refine GW_bipush (X := X_X8_takes) (pc := 5) (v := 7) d_X8_takes_5 (by decide) ?_
  refine GW_imul (X := X_X8_takes) (pc := 7) d_X8_takes_7 ?_
  refine GW_iload_n (X := X_X8_takes) (pc := 8) d_X8_takes_8 rfl 3 rfl ?_
  refine GW_iadd (X := X_X8_takes) (pc := 9) d_X8_takes_9 ?_
  replace h := g_bd h
  obtain ⟨v2, hv2, h⟩ := h
  refine GW_iald (X := X_X8_takes) (pc := 10) d_X8_takes_10 hv2 ?_
  refine GW_istore (X := X_X8_takes) (pc := 11) d_X8_takes_11 (Nat.le_of_ble_eq_true rfl) (lv2 := [(5, vi v2), (0, vr l0), (1, vi l1), (2, vi l2), (3, vi l3), (4, vi l4)]) rfl ?_
  refine GW_aload_n (X := X_X8_takes) (pc := 13) d_X8_takes_13 rfl 1 rfl ?_
  replace h := g_bd h
  obtain ⟨v3, hv3, h⟩ := h
  refine GW_getR (X := X_X8_takes) (pc := 14) f_X8_15 d_X8_takes_14 hv3 (Or.inr ⟨_, ty_8_1⟩) ?_
  refine GW_iload_n (X := X_X8_takes) (pc := 17) d_X8_takes_17 rfl 2 rfl ?_
  refine GW_bipush (X := X_X8_takes) (pc := 18) (v := 7) d_X8_takes_18 (by decide) ?_
  refine GW_imul (X := X_X8_takes) (pc := 20) d_X8_takes_20 ?_
  refine GW_iload_n (X := X_X8_takes) (pc := 21) d_X8_takes_21 rfl 4 rfl ?_
  refine GW_iadd (X := X_X8_takes) (pc := 22) d_X8_takes_22 ?_
  replace h := g_bd h
  obtain ⟨v4, hv4, h⟩ := h
  refine GW_iald (X := X_X8_takes) (pc := 23) d_X8_takes_23 hv4 ?_
  refine GW_iload (X := X_X8_takes) (pc := 24) d_X8_takes_24 0 rfl ?_
  refine GW_icmp_lt (X := X_X8_takes) (pc := 26) 31 d_X8_takes_26 (by decide) (fun c => ?_) (fun c => ?_)
  · replace h := g_ip c h
    refine GW_aload_n (X := X_X8_takes) (pc := 31) d_X8_takes_31 rfl 1 rfl ?_
    refine GW_iload_n (X := X_X8_takes) (pc := 32) d_X8_takes_32 rfl 2 rfl ?_
    refine GW_iload_n (X := X_X8_takes) (pc := 33) d_X8_takes_33 rfl 4 rfl ?_
    refine GW_aload_n (X := X_X8_takes) (pc := 34) d_X8_takes_34 rfl 1 rfl ?_
    replace h := g_bd h
    obtain ⟨v5, hv5, h⟩ := h
    refine GW_getR (X := X_X8_takes) (pc := 35) f_X8_9 d_X8_takes_35 hv5 (Or.inr ⟨_, ty_8_0⟩) ?_
    refine GW_iload_n (X := X_X8_takes) (pc := 38) d_X8_takes_38 rfl 3 rfl ?_
    refine GW_bipush (X := X_X8_takes) (pc := 39) (v := 7) d_X8_takes_39 (by decide) ?_
    refine GW_imul (X := X_X8_takes) (pc := 41) d_X8_takes_41 ?_
    refine GW_iload_n (X := X_X8_takes) (pc := 42) d_X8_takes_42 rfl 4 rfl ?_
    refine GW_iadd (X := X_X8_takes) (pc := 43) d_X8_takes_43 ?_
    replace h := g_bd h
    obtain ⟨v6, hv6, h⟩ := h
    refine GW_iald (X := X_X8_takes) (pc := 44) d_X8_takes_44 hv6 ?_
    refine GW_iload (X := X_X8_takes) (pc := 45) d_X8_takes_45 5 rfl ?_
    refine GW_if_eq (X := X_X8_takes) (pc := 47) 55 d_X8_takes_47 (by decide) (fun c => ?_) (fun c => ?_)
    · replace h := g_ip c h
      refine GW_iconst (X := X_X8_takes) (pc := 55) (v := 1) d_X8_takes_55 (by decide) ?_
      refine GW_iload (X := X_X8_takes) (pc := 56) d_X8_takes_56 0 rfl ?_
      refine GW_iconst (X := X_X8_takes) (pc := 58) (v := 2) d_X8_takes_58 (by decide) ?_
      refine GW_idiv (X := X_X8_takes) (pc := 59) d_X8_takes_59 (by decide) ?_
      refine GW_mmax (X := X_X8_takes) (pc := 60) m_912 d_X8_takes_60 (Nat.le_of_ble_eq_true rfl) (Nat.le_of_ble_eq_true rfl) ?_
      refine GW_sub [] rfl ?_
      exact T_X8_takes_b63 r l0 l1 l3 v6 (if (1 : Int32) < (v2 / (2 : Int32)) then (v2 / (2 : Int32)) else (1 : Int32)) M h
    · replace h := g_ie c h
      refine GW_iload (X := X_X8_takes) (pc := 50) d_X8_takes_50 0 rfl ?_
      refine GW_goto (X := X_X8_takes) (pc := 52) 63 d_X8_takes_52 (by decide) ?_
      refine GW_sub [] rfl ?_
      exact T_X8_takes_b63 r l0 l1 l3 v6 v2 M h
  · replace h := g_ie c h
    refine GW_iconst (X := X_X8_takes) (pc := 29) (v := 0) d_X8_takes_29 (by decide) ?_
    replace h := Option.some.inj h
    subst h
    exact GW_ret (X := X_X8_takes) (pc := 30) d_X8_takes_30 rfl g_rok0
def F_X8_takes (l0 : Option Nat) (l1 : Int32) (l2 : Int32) (l3 : Int32) (l4 : Int32) (M : gM) : Option (Int32 × gM) := F_X8_takes_b0 l0 l1 l2 l3 l4 M
theorem T_X8_takes (l0 : Option Nat) (l1 : Int32) (l2 : Int32) (l3 : Int32) (l4 : Int32) (M : gM) (r : (Int32 × gM)) (h : F_X8_takes l0 l1 l2 l3 l4 M = some r) : g_Met 1 0 0 yX8_takes X_X8_takes [vr l0, vi l1, vi l2, vi l3, vi l4] M (some (vi r.1), r.2) :=
  g_Met_of pn_RX8 rfl (Nat.le_of_ble_eq_true rfl) (fun h => by cases h) (GW_sub [0, 1, 2, 3, 4] rfl (T_X8_takes_b0 r l0 l1 l2 l3 l4 M h))
/-! ForgetHeirs.spread(III)I -/
theorem d_X11_spread_0 : decode cX11_spread 0 = .ok (.iconst 0, 1) := by decide +kernel
theorem d_X11_spread_1 : decode cX11_spread 1 = .ok (.istore 4, 2) := by decide +kernel
theorem d_X11_spread_3 : decode cX11_spread 3 = .ok (.iconst 0, 1) := by decide +kernel
theorem d_X11_spread_4 : decode cX11_spread 4 = .ok (.istore 5, 2) := by decide +kernel
theorem d_X11_spread_6 : decode cX11_spread 6 = .ok (.iconst 0, 1) := by decide +kernel
theorem d_X11_spread_7 : decode cX11_spread 7 = .ok (.istore 6, 2) := by decide +kernel
theorem d_X11_spread_9 : decode cX11_spread 9 = .ok (.iload 6, 2) := by decide +kernel
theorem d_X11_spread_11 : decode cX11_spread 11 = .ok (.aload_n 0, 1) := by decide +kernel
theorem d_X11_spread_12 : decode cX11_spread 12 = .ok (.getfield 59, 3) := by decide +kernel
theorem d_X11_spread_15 : decode cX11_spread 15 = .ok (.getfield 121, 3) := by decide +kernel
theorem d_X11_spread_18 : decode cX11_spread 18 = .ok (.if_icmp .ge 60, 3) := by decide +kernel
theorem d_X11_spread_21 : decode cX11_spread 21 = .ok (.iload 5, 2) := by decide +kernel
theorem d_X11_spread_23 : decode cX11_spread 23 = .ok (.iconst 3, 1) := by decide +kernel
theorem d_X11_spread_24 : decode cX11_spread 24 = .ok (.if_icmp .ge 54, 3) := by decide +kernel
theorem d_X11_spread_27 : decode cX11_spread 27 = .ok (.iload 6, 2) := by decide +kernel
theorem d_X11_spread_29 : decode cX11_spread 29 = .ok (.iload_n 2, 1) := by decide +kernel
theorem d_X11_spread_30 : decode cX11_spread 30 = .ok (.if_icmp .eq 42, 3) := by decide +kernel
theorem d_X11_spread_33 : decode cX11_spread 33 = .ok (.aload_n 0, 1) := by decide +kernel
theorem d_X11_spread_34 : decode cX11_spread 34 = .ok (.getfield 59, 3) := by decide +kernel
theorem d_X11_spread_37 : decode cX11_spread 37 = .ok (.getfield 144, 3) := by decide +kernel
theorem d_X11_spread_40 : decode cX11_spread 40 = .ok (.iload_n 1, 1) := by decide +kernel
theorem d_X11_spread_41 : decode cX11_spread 41 = .ok (.iaload, 1) := by decide +kernel
theorem d_X11_spread_42 : decode cX11_spread 42 = .ok (.iload 6, 2) := by decide +kernel
theorem d_X11_spread_44 : decode cX11_spread 44 = .ok (.invokestatic 140, 3) := by decide +kernel
theorem d_X11_spread_47 : decode cX11_spread 47 = .ok (.iconst 1, 1) := by decide +kernel
theorem d_X11_spread_48 : decode cX11_spread 48 = .ok (.if_icmp .ne 24, 3) := by decide +kernel
theorem d_X11_spread_51 : decode cX11_spread 51 = .ok (.iinc 5 1, 3) := by decide +kernel
theorem d_X11_spread_54 : decode cX11_spread 54 = .ok (.aload_n 0, 1) := by decide +kernel
theorem d_X11_spread_55 : decode cX11_spread 55 = .ok (.getfield 25, 3) := by decide +kernel
theorem d_X11_spread_58 : decode cX11_spread 58 = .ok (.iload 6, 2) := by decide +kernel
theorem d_X11_spread_60 : decode cX11_spread 60 = .ok (.iload_n 1, 1) := by decide +kernel
theorem d_X11_spread_61 : decode cX11_spread 61 = .ok (.iload_n 3, 1) := by decide +kernel
theorem d_X11_spread_62 : decode cX11_spread 62 = .ok (.iconst 0, 1) := by decide +kernel
theorem d_X11_spread_63 : decode cX11_spread 63 = .ok (.invokevirtual 222, 3) := by decide +kernel
theorem d_X11_spread_66 : decode cX11_spread 66 = .ok (.ifCond .eq 6, 3) := by decide +kernel
theorem d_X11_spread_69 : decode cX11_spread 69 = .ok (.iinc 4 1, 3) := by decide +kernel
theorem d_X11_spread_72 : decode cX11_spread 72 = .ok (.iinc 6 1, 3) := by decide +kernel
theorem d_X11_spread_75 : decode cX11_spread 75 = .ok (.goto (-66), 3) := by decide +kernel
theorem d_X11_spread_78 : decode cX11_spread 78 = .ok (.iload 4, 2) := by decide +kernel
theorem d_X11_spread_80 : decode cX11_spread 80 = .ok (.ireturn, 1) := by decide +kernel
abbrev X_X11_spread : gX := (RX11, cX11_spread, 7, (some .int), false)
def F_X11_spread_b78 (l4 : Int32) (M : gM) : Option (Int32 × gM) :=
  some (l4, M)
theorem T_X11_spread_b78 (r : (Int32 × gM)) (l4 : Int32) (M : gM) (h : F_X11_spread_b78 l4 M = some r) : GW 2 0 0 X_X11_spread 78 [(4, vi l4)] [] M (some (vi r.1), r.2) := by
  delta F_X11_spread_b78 at h
  refine GW_iload (X := X_X11_spread) (pc := 78) d_X11_spread_78 0 rfl ?_
  replace h := Option.some.inj h
  subst h
  exact GW_ret (X := X_X11_spread) (pc := 80) d_X11_spread_80 rfl trivial
def F_X11_spread_b72 (k9 : Option Nat → Int32 → Int32 → Int32 → Int32 → Int32 → Int32 → gM → Option (Int32 × gM)) (l0 : Option Nat) (l1 : Int32) (l2 : Int32) (l3 : Int32) (l4 : Int32) (l5 : Int32) (l6 : Int32) (M : gM) : Option (Int32 × gM) :=
  k9 l0 l1 l2 l3 l4 l5 (l6 + 1) M
theorem T_X11_spread_b72 (k9 : Option Nat → Int32 → Int32 → Int32 → Int32 → Int32 → Int32 → gM → Option (Int32 × gM)) (r : (Int32 × gM)) (hk9 : ∀ (l0 : Option Nat) (l1 : Int32) (l2 : Int32) (l3 : Int32) (l4 : Int32) (l5 : Int32) (l6 : Int32) (M : gM), k9 l0 l1 l2 l3 l4 l5 l6 M = some r → GW 2 0 0 X_X11_spread 9 [(0, vr l0), (1, vi l1), (2, vi l2), (3, vi l3), (4, vi l4), (5, vi l5), (6, vi l6)] [] M (some (vi r.1), r.2)) (l0 : Option Nat) (l1 : Int32) (l2 : Int32) (l3 : Int32) (l4 : Int32) (l5 : Int32) (l6 : Int32) (M : gM) (h : F_X11_spread_b72 k9 l0 l1 l2 l3 l4 l5 l6 M = some r) : GW 2 0 0 X_X11_spread 72 [(0, vr l0), (1, vi l1), (2, vi l2), (3, vi l3), (4, vi l4), (5, vi l5), (6, vi l6)] [] M (some (vi r.1), r.2) := by
  delta F_X11_spread_b72 at h
  refine GW_iinc (j := 6) (X := X_X11_spread) (pc := 72) d_X11_spread_72 rfl (congrArg (fun z => _ + z) (by decide : Int32.ofInt 1 = (1 : Int32))) (Nat.le_of_ble_eq_true rfl) (lv2 := [(6, vi (l6 + 1)), (0, vr l0), (1, vi l1), (2, vi l2), (3, vi l3), (4, vi l4), (5, vi l5)]) rfl ?_
  refine GW_goto (X := X_X11_spread) (pc := 75) 9 d_X11_spread_75 (by decide) ?_
  refine GW_sub [1, 2, 3, 4, 5, 6, 0] rfl ?_
  exact hk9 l0 l1 l2 l3 l4 l5 (l6 + 1) M h
def F_X11_spread_b9 (k9 : Option Nat → Int32 → Int32 → Int32 → Int32 → Int32 → Int32 → gM → Option (Int32 × gM)) (l0 : Option Nat) (l1 : Int32) (l2 : Int32) (l3 : Int32) (l4 : Int32) (l5 : Int32) (l6 : Int32) (M : gM) : Option (Int32 × gM) :=
  (gR 11 M l0 11).bind fun v1 => (gI 1 M v1 7).bind fun v2 => if v2 ≤ l6 then (F_X11_spread_b78 l4 M) else (if (3 : Int32) ≤ l5 then (F_X11_spread_b78 l4 M) else (if l6 = l2 then (F_X11_spread_b72 k9 l0 l1 l2 l3 l4 l5 l6 M) else ((gR 11 M l0 11).bind fun v3 => (gR 1 M v3 4).bind fun v4 => (aI 20 M v4 l1).bind fun v5 => (F_X11_bit v5 l6 M).bind fun v6 => if v6 = (1 : Int32) then ((gR 11 M l0 5).bind fun v7 => (gO 8 M v7).bind fun i8 => (F_X8_takes (some i8) l6 l1 l3 (0 : Int32) M).bind fun (v9, M10) => if v9 = 0 then (F_X11_spread_b72 k9 l0 l1 l2 l3 l4 (l5 + 1) l6 M10) else (F_X11_spread_b72 k9 l0 l1 l2 l3 (l4 + 1) (l5 + 1) l6 M10)) else (F_X11_spread_b72 k9 l0 l1 l2 l3 l4 l5 l6 M))))
set_option maxHeartbeats 1000000 in
theorem T_X11_spread_b9 (k9 : Option Nat → Int32 → Int32 → Int32 → Int32 → Int32 → Int32 → gM → Option (Int32 × gM)) (r : (Int32 × gM)) (hk9 : ∀ (l0 : Option Nat) (l1 : Int32) (l2 : Int32) (l3 : Int32) (l4 : Int32) (l5 : Int32) (l6 : Int32) (M : gM), k9 l0 l1 l2 l3 l4 l5 l6 M = some r → GW 2 0 0 X_X11_spread 9 [(0, vr l0), (1, vi l1), (2, vi l2), (3, vi l3), (4, vi l4), (5, vi l5), (6, vi l6)] [] M (some (vi r.1), r.2)) (l0 : Option Nat) (l1 : Int32) (l2 : Int32) (l3 : Int32) (l4 : Int32) (l5 : Int32) (l6 : Int32) (M : gM) (h : F_X11_spread_b9 k9 l0 l1 l2 l3 l4 l5 l6 M = some r) : GW 2 0 0 X_X11_spread 9 [(0, vr l0), (1, vi l1), (2, vi l2), (3, vi l3), (4, vi l4), (5, vi l5), (6, vi l6)] [] M (some (vi r.1), r.2) := by
  delta F_X11_spread_b9 at h
  refine GW_iload (X := X_X11_spread) (pc := 9) d_X11_spread_9 6 rfl ?_
  refine GW_aload_n (X := X_X11_spread) (pc := 11) d_X11_spread_11 rfl 0 rfl ?_
  replace h := g_bd h
  obtain ⟨v1, hv1, h⟩ := h
  refine GW_getR (X := X_X11_spread) (pc := 12) f_X11_59 d_X11_spread_12 hv1 (Or.inl ⟨_, ty_11_11⟩) ?_
  replace h := g_bd h
  obtain ⟨v2, hv2, h⟩ := h
  refine GW_getI (X := X_X11_spread) (pc := 15) f_X11_121 d_X11_spread_15 hv2 (Or.inl ty_1_7) ?_
  refine GW_icmp_ge (X := X_X11_spread) (pc := 18) 78 d_X11_spread_18 (by decide) (fun c => ?_) (fun c => ?_)
  · replace h := g_ip c h
    refine GW_sub [4] rfl ?_
    exact T_X11_spread_b78 r l4 M h
  · replace h := g_ie c h
    refine GW_iload (X := X_X11_spread) (pc := 21) d_X11_spread_21 5 rfl ?_
    refine GW_iconst (X := X_X11_spread) (pc := 23) (v := 3) d_X11_spread_23 (by decide) ?_
    refine GW_icmp_ge (X := X_X11_spread) (pc := 24) 78 d_X11_spread_24 (by decide) (fun c => ?_) (fun c => ?_)
    · replace h := g_ip c h
      refine GW_sub [4] rfl ?_
      exact T_X11_spread_b78 r l4 M h
    · replace h := g_ie c h
      refine GW_iload (X := X_X11_spread) (pc := 27) d_X11_spread_27 6 rfl ?_
      refine GW_iload_n (X := X_X11_spread) (pc := 29) d_X11_spread_29 rfl 2 rfl ?_
      refine GW_icmp_eq (X := X_X11_spread) (pc := 30) 72 d_X11_spread_30 (by decide) (fun c => ?_) (fun c => ?_)
      · replace h := g_ip c h
        exact T_X11_spread_b72 k9 r hk9 l0 l1 l2 l3 l4 l5 l6 M h
      · replace h := g_ie c h
        refine GW_aload_n (X := X_X11_spread) (pc := 33) d_X11_spread_33 rfl 0 rfl ?_
        replace h := g_bd h
        obtain ⟨v3, hv3, h⟩ := h
        refine GW_getR (X := X_X11_spread) (pc := 34) f_X11_59 d_X11_spread_34 hv3 (Or.inl ⟨_, ty_11_11⟩) ?_
        replace h := g_bd h
        obtain ⟨v4, hv4, h⟩ := h
        refine GW_getR (X := X_X11_spread) (pc := 37) f_X11_144 d_X11_spread_37 hv4 (Or.inr ⟨_, ty_1_4⟩) ?_
        refine GW_iload_n (X := X_X11_spread) (pc := 40) d_X11_spread_40 rfl 1 rfl ?_
        replace h := g_bd h
        obtain ⟨v5, hv5, h⟩ := h
        refine GW_iald (X := X_X11_spread) (pc := 41) d_X11_spread_41 hv5 ?_
        refine GW_iload (X := X_X11_spread) (pc := 42) d_X11_spread_42 6 rfl ?_
        replace h := g_bd h
        obtain ⟨v6, hv6, h⟩ := h
        refine GW_callS (X := X_X11_spread) (pc := 44) (bc0 := 0) (bs0 := 0) (r := some (vi v6)) (M2 := M) (T_X11_bit v5 l6 M v6 hv6) (Nat.le_of_ble_eq_true rfl) (Nat.le_of_ble_eq_true rfl) yc_X11_bit ⟨m_772, m_646, m_116, m_647⟩ d_X11_spread_44 rfl (st := []) rfl (Nat.le_of_ble_eq_true rfl) (Nat.le_of_ble_eq_true rfl) (Nat.le_of_ble_eq_true rfl) (st2 := [vi v6]) rfl ?_
        refine GW_iconst (X := X_X11_spread) (pc := 47) (v := 1) d_X11_spread_47 (by decide) ?_
        refine GW_icmp_ne (X := X_X11_spread) (pc := 48) 72 d_X11_spread_48 (by decide) (fun c => ?_) (fun c => ?_)
        · replace h := g_ie c h
          exact T_X11_spread_b72 k9 r hk9 l0 l1 l2 l3 l4 l5 l6 M h
        · replace h := g_ip c h
          refine GW_iinc (j := 5) (X := X_X11_spread) (pc := 51) d_X11_spread_51 rfl (congrArg (fun z => _ + z) (by decide : Int32.ofInt 1 = (1 : Int32))) (Nat.le_of_ble_eq_true rfl) (lv2 := [(5, vi (l5 + 1)), (0, vr l0), (1, vi l1), (2, vi l2), (3, vi l3), (4, vi l4), (6, vi l6)]) rfl ?_
          refine GW_aload_n (X := X_X11_spread) (pc := 54) d_X11_spread_54 rfl 1 rfl ?_
          replace h := g_bd h
          obtain ⟨v7, hv7, h⟩ := h
          refine GW_getR (X := X_X11_spread) (pc := 55) f_X11_25 d_X11_spread_55 hv7 (Or.inl ⟨_, ty_11_5⟩) ?_
          refine GW_iload (X := X_X11_spread) (pc := 58) d_X11_spread_58 6 rfl ?_
          refine GW_iload_n (X := X_X11_spread) (pc := 60) d_X11_spread_60 rfl 2 rfl ?_
          refine GW_iload_n (X := X_X11_spread) (pc := 61) d_X11_spread_61 rfl 4 rfl ?_
          refine GW_iconst (X := X_X11_spread) (pc := 62) (v := 0) d_X11_spread_62 (by decide) ?_
          replace h := g_bd h
          obtain ⟨i8, hi8, h⟩ := h
          obtain ⟨rfl, ki8⟩ := g_gO hi8
          replace h := g_bd h
          obtain ⟨⟨v9, M10⟩, hv9, h⟩ := h
          dsimp only at h
          refine GW_callV (X := X_X11_spread) (pc := 63) (bc0 := 0) (bs0 := 0) (r := some (vi v9)) (M2 := M10) (c0 := 8) (T_X8_takes (some i8) l6 l1 l3 (0 : Int32) M (v9, M10) hv9) (Nat.le_of_ble_eq_true rfl) (Nat.le_of_ble_eq_true rfl) rfl g_cok8 ki8 yc_X8_takes ⟨m_908, m_909, m_910, m_119, m_911⟩ d_X11_spread_63 rfl (st := []) rfl (Nat.le_of_ble_eq_true rfl) (Nat.le_of_ble_eq_true rfl) (Nat.le_of_ble_eq_true rfl) (st2 := [vi v9]) rfl ?_
          refine GW_if_eq (X := X_X11_spread) (pc := 66) 72 d_X11_spread_66 (by decide) (fun c => ?_) (fun c => ?_)
          · replace h := g_ip c h
            refine GW_sub [1, 2, 3, 4, 5, 0, 6] rfl ?_
            exact T_X11_spread_b72 k9 r hk9 l0 l1 l2 l3 l4 (l5 + 1) l6 M10 h
          · replace h := g_ie c h
            refine GW_iinc (j := 5) (X := X_X11_spread) (pc := 69) d_X11_spread_69 rfl (congrArg (fun z => _ + z) (by decide : Int32.ofInt 1 = (1 : Int32))) (Nat.le_of_ble_eq_true rfl) (lv2 := [(4, vi (l4 + 1)), (5, vi (l5 + 1)), (0, vr l0), (1, vi l1), (2, vi l2), (3, vi l3), (6, vi l6)]) rfl ?_
            refine GW_sub [2, 3, 4, 5, 0, 1, 6] rfl ?_
            exact T_X11_spread_b72 k9 r hk9 l0 l1 l2 l3 (l4 + 1) (l5 + 1) l6 M10 h
def F_X11_spread_L9 : Nat → Option Nat → Int32 → Int32 → Int32 → Int32 → Int32 → Int32 → gM → Option (Int32 × gM)
  | 0 => fun _ _ _ _ _ _ _ _ => none
  | n + 1 => F_X11_spread_b9 (F_X11_spread_L9 n)
theorem T_X11_spread_L9 (r : (Int32 × gM)) : ∀ (n : Nat) (l0 : Option Nat) (l1 : Int32) (l2 : Int32) (l3 : Int32) (l4 : Int32) (l5 : Int32) (l6 : Int32) (M : gM), F_X11_spread_L9 n l0 l1 l2 l3 l4 l5 l6 M = some r → GW 2 0 0 X_X11_spread 9 [(0, vr l0), (1, vi l1), (2, vi l2), (3, vi l3), (4, vi l4), (5, vi l5), (6, vi l6)] [] M (some (vi r.1), r.2) := by
  intro n
  induction n with
  | zero => intro l0 l1 l2 l3 l4 l5 l6 M h; exact g_no h
  | succ n ih => intro l0 l1 l2 l3 l4 l5 l6 M h; exact T_X11_spread_b9 (F_X11_spread_L9 n) r ih l0 l1 l2 l3 l4 l5 l6 M h
def F_X11_spread_b0 (l0 : Option Nat) (l1 : Int32) (l2 : Int32) (l3 : Int32) (M : gM) : Option (Int32 × gM) :=
  F_X11_spread_L9 g_fuel l0 l1 l2 l3 (0 : Int32) (0 : Int32) (0 : Int32) M
theorem T_X11_spread_b0 (r : (Int32 × gM)) (l0 : Option Nat) (l1 : Int32) (l2 : Int32) (l3 : Int32) (M : gM) (h : F_X11_spread_b0 l0 l1 l2 l3 M = some r) : GW 2 0 0 X_X11_spread 0 [(0, vr l0), (1, vi l1), (2, vi l2), (3, vi l3)] [] M (some (vi r.1), r.2) := by
  delta F_X11_spread_b0 at h
  refine GW_iconst (X := X_X11_spread) (pc := 0) (v := 0) d_X11_spread_0 (by decide) ?_
  refine GW_istore (X := X_X11_spread) (pc := 1) d_X11_spread_1 (Nat.le_of_ble_eq_true rfl) (lv2 := [(4, vi (0 : Int32)), (0, vr l0), (1, vi l1), (2, vi l2), (3, vi l3)]) rfl ?_
  refine GW_iconst (X := X_X11_spread) (pc := 3) (v := 0) d_X11_spread_3 (by decide) ?_
  refine GW_istore (X := X_X11_spread) (pc := 4) d_X11_spread_4 (Nat.le_of_ble_eq_true rfl) (lv2 := [(5, vi (0 : Int32)), (4, vi (0 : Int32)), (0, vr l0), (1, vi l1), (2, vi l2), (3, vi l3)]) rfl ?_
  refine GW_iconst (X := X_X11_spread) (pc := 6) (v := 0) d_X11_spread_6 (by decide) ?_
  refine GW_istore (X := X_X11_spread) (pc := 7) d_X11_spread_7 (Nat.le_of_ble_eq_true rfl) (lv2 := [(6, vi (0 : Int32)), (5, vi (0 : Int32)), (4, vi (0 : Int32)), (0, vr l0), (1, vi l1), (2, vi l2), (3, vi l3)]) rfl ?_
  refine GW_sub [3, 4, 5, 6, 2, 1, 0] rfl ?_
  exact T_X11_spread_L9 r g_fuel l0 l1 l2 l3 (0 : Int32) (0 : Int32) (0 : Int32) M h
def F_X11_spread (l0 : Option Nat) (l1 : Int32) (l2 : Int32) (l3 : Int32) (M : gM) : Option (Int32 × gM) := F_X11_spread_b0 l0 l1 l2 l3 M
theorem T_X11_spread (l0 : Option Nat) (l1 : Int32) (l2 : Int32) (l3 : Int32) (M : gM) (r : (Int32 × gM)) (h : F_X11_spread l0 l1 l2 l3 M = some r) : g_Met 2 0 0 yX11_spread X_X11_spread [vr l0, vi l1, vi l2, vi l3] M (some (vi r.1), r.2) :=
  g_Met_of pn_RX11 rfl (Nat.le_of_ble_eq_true rfl) (fun h => by cases h) (GW_sub [0, 1, 2, 3] rfl (T_X11_spread_b0 r l0 l1 l2 l3 M h))
/-! ForgetHeirs.tell(IIIZ)I -/
theorem d_X11_tell_0 : decode cX11_tell 0 = .ok (.aload_n 0, 1) := by decide +kernel
theorem d_X11_tell_1 : decode cX11_tell 1 = .ok (.iload_n 2, 1) := by decide +kernel
theorem d_X11_tell_2 : decode cX11_tell 2 = .ok (.invokevirtual 127, 3) := by decide +kernel
theorem d_X11_tell_5 : decode cX11_tell 5 = .ok (.ifCond .eq 28, 3) := by decide +kernel
theorem d_X11_tell_8 : decode cX11_tell 8 = .ok (.aload_n 0, 1) := by decide +kernel
theorem d_X11_tell_9 : decode cX11_tell 9 = .ok (.iload_n 1, 1) := by decide +kernel
theorem d_X11_tell_10 : decode cX11_tell 10 = .ok (.iload_n 3, 1) := by decide +kernel
theorem d_X11_tell_11 : decode cX11_tell 11 = .ok (.invokevirtual 218, 3) := by decide +kernel
theorem d_X11_tell_14 : decode cX11_tell 14 = .ok (.ifCond .eq 19, 3) := by decide +kernel
theorem d_X11_tell_17 : decode cX11_tell 17 = .ok (.aload_n 0, 1) := by decide +kernel
theorem d_X11_tell_18 : decode cX11_tell 18 = .ok (.getfield 59, 3) := by decide +kernel
theorem d_X11_tell_21 : decode cX11_tell 21 = .ok (.getfield 144, 3) := by decide +kernel
theorem d_X11_tell_24 : decode cX11_tell 24 = .ok (.iload_n 1, 1) := by decide +kernel
theorem d_X11_tell_25 : decode cX11_tell 25 = .ok (.iaload, 1) := by decide +kernel
theorem d_X11_tell_26 : decode cX11_tell 26 = .ok (.iload_n 2, 1) := by decide +kernel
theorem d_X11_tell_27 : decode cX11_tell 27 = .ok (.invokestatic 140, 3) := by decide +kernel
theorem d_X11_tell_30 : decode cX11_tell 30 = .ok (.ifCond .ne 5, 3) := by decide +kernel
theorem d_X11_tell_33 : decode cX11_tell 33 = .ok (.iconst (-1), 1) := by decide +kernel
theorem d_X11_tell_34 : decode cX11_tell 34 = .ok (.ireturn, 1) := by decide +kernel
theorem d_X11_tell_35 : decode cX11_tell 35 = .ok (.aload_n 0, 1) := by decide +kernel
theorem d_X11_tell_36 : decode cX11_tell 36 = .ok (.getfield 35, 3) := by decide +kernel
theorem d_X11_tell_39 : decode cX11_tell 39 = .ok (.aload_n 0, 1) := by decide +kernel
theorem d_X11_tell_40 : decode cX11_tell 40 = .ok (.getfield 25, 3) := by decide +kernel
theorem d_X11_tell_43 : decode cX11_tell 43 = .ok (.invokevirtual 208, 3) := by decide +kernel
theorem d_X11_tell_46 : decode cX11_tell 46 = .ok (.aload_n 0, 1) := by decide +kernel
theorem d_X11_tell_47 : decode cX11_tell 47 = .ok (.getfield 25, 3) := by decide +kernel
theorem d_X11_tell_50 : decode cX11_tell 50 = .ok (.iload_n 2, 1) := by decide +kernel
theorem d_X11_tell_51 : decode cX11_tell 51 = .ok (.iload_n 1, 1) := by decide +kernel
theorem d_X11_tell_52 : decode cX11_tell 52 = .ok (.iload_n 3, 1) := by decide +kernel
theorem d_X11_tell_53 : decode cX11_tell 53 = .ok (.iload 4, 2) := by decide +kernel
theorem d_X11_tell_55 : decode cX11_tell 55 = .ok (.invokevirtual 222, 3) := by decide +kernel
theorem d_X11_tell_58 : decode cX11_tell 58 = .ok (.ifCond .ne 5, 3) := by decide +kernel
theorem d_X11_tell_61 : decode cX11_tell 61 = .ok (.iconst 0, 1) := by decide +kernel
theorem d_X11_tell_62 : decode cX11_tell 62 = .ok (.ireturn, 1) := by decide +kernel
theorem d_X11_tell_63 : decode cX11_tell 63 = .ok (.iload 4, 2) := by decide +kernel
theorem d_X11_tell_65 : decode cX11_tell 65 = .ok (.ifCond .eq 29, 3) := by decide +kernel
theorem d_X11_tell_68 : decode cX11_tell 68 = .ok (.aload_n 0, 1) := by decide +kernel
theorem d_X11_tell_69 : decode cX11_tell 69 = .ok (.getfield 25, 3) := by decide +kernel
theorem d_X11_tell_72 : decode cX11_tell 72 = .ok (.getfield 181, 3) := by decide +kernel
theorem d_X11_tell_75 : decode cX11_tell 75 = .ok (.iload_n 1, 1) := by decide +kernel
theorem d_X11_tell_76 : decode cX11_tell 76 = .ok (.bipush 7, 2) := by decide +kernel
theorem d_X11_tell_78 : decode cX11_tell 78 = .ok (.imul, 1) := by decide +kernel
theorem d_X11_tell_79 : decode cX11_tell 79 = .ok (.iload_n 3, 1) := by decide +kernel
theorem d_X11_tell_80 : decode cX11_tell 80 = .ok (.iadd, 1) := by decide +kernel
theorem d_X11_tell_81 : decode cX11_tell 81 = .ok (.iaload, 1) := by decide +kernel
theorem d_X11_tell_82 : decode cX11_tell 82 = .ok (.aload_n 0, 1) := by decide +kernel
theorem d_X11_tell_83 : decode cX11_tell 83 = .ok (.getfield 59, 3) := by decide +kernel
theorem d_X11_tell_86 : decode cX11_tell 86 = .ok (.getfield 157, 3) := by decide +kernel
theorem d_X11_tell_89 : decode cX11_tell 89 = .ok (.iload_n 3, 1) := by decide +kernel
theorem d_X11_tell_90 : decode cX11_tell 90 = .ok (.iaload, 1) := by decide +kernel
theorem d_X11_tell_91 : decode cX11_tell 91 = .ok (.if_icmp .ne 5, 3) := by decide +kernel
theorem d_X11_tell_94 : decode cX11_tell 94 = .ok (.iconst 1, 1) := by decide +kernel
theorem d_X11_tell_95 : decode cX11_tell 95 = .ok (.ireturn, 1) := by decide +kernel
theorem d_X11_tell_96 : decode cX11_tell 96 = .ok (.iconst 1, 1) := by decide +kernel
theorem d_X11_tell_97 : decode cX11_tell 97 = .ok (.aload_n 0, 1) := by decide +kernel
theorem d_X11_tell_98 : decode cX11_tell 98 = .ok (.iload_n 2, 1) := by decide +kernel
theorem d_X11_tell_99 : decode cX11_tell 99 = .ok (.iload_n 1, 1) := by decide +kernel
theorem d_X11_tell_100 : decode cX11_tell 100 = .ok (.iload_n 3, 1) := by decide +kernel
theorem d_X11_tell_101 : decode cX11_tell 101 = .ok (.invokevirtual 226, 3) := by decide +kernel
theorem d_X11_tell_104 : decode cX11_tell 104 = .ok (.iadd, 1) := by decide +kernel
theorem d_X11_tell_105 : decode cX11_tell 105 = .ok (.ireturn, 1) := by decide +kernel
abbrev X_X11_tell : gX := (RX11, cX11_tell, 5, (some .int), false)
def F_X11_tell_b33 (M : gM) : Option (Int32 × gM) :=
  some ((-1 : Int32), M)
theorem T_X11_tell_b33 (r : (Int32 × gM)) (M : gM) (h : F_X11_tell_b33 M = some r) : GW 3 0 0 X_X11_tell 33 [] [] M (some (vi r.1), r.2) := by
  delta F_X11_tell_b33 at h
  refine GW_iconst (X := X_X11_tell) (pc := 33) (v := -1) d_X11_tell_33 (by decide) ?_
  replace h := Option.some.inj h
  subst h
  exact GW_ret (X := X_X11_tell) (pc := 34) d_X11_tell_34 rfl trivial
def F_X11_tell_b94 (M : gM) : Option (Int32 × gM) :=
  some ((1 : Int32), M)
theorem T_X11_tell_b94 (r : (Int32 × gM)) (M : gM) (h : F_X11_tell_b94 M = some r) : GW 3 0 0 X_X11_tell 94 [] [] M (some (vi r.1), r.2) := by
  delta F_X11_tell_b94 at h
  refine GW_iconst (X := X_X11_tell) (pc := 94) (v := 1) d_X11_tell_94 (by decide) ?_
  replace h := Option.some.inj h
  subst h
  exact GW_ret (X := X_X11_tell) (pc := 95) d_X11_tell_95 rfl trivial
def F_X11_tell_b0 (l0 : Option Nat) (l1 : Int32) (l2 : Int32) (l3 : Int32) (l4 : Int32) (M : gM) : Option (Int32 × gM) :=
  (gO 11 M l0).bind fun i1 => (F_X11_isHeir (some i1) l2 M).bind fun v2 => if v2 = 0 then (F_X11_tell_b33 M) else ((F_X11_isKnown (some i1) l1 l3 M).bind fun v3 => if v3 = 0 then (F_X11_tell_b33 M) else ((gR 11 M (some i1) 11).bind fun v4 => (gR 1 M v4 4).bind fun v5 => (aI 20 M v5 l1).bind fun v6 => (F_X11_bit v6 l2 M).bind fun v7 => if v7 = 0 then (F_X11_tell_b33 M) else ((gR 11 M (some i1) 7).bind fun v8 => (gR 11 M (some i1) 5).bind fun v9 => (gO 4 M v8).bind fun i10 => (F_X4_keep (some i10) v9 M).bind fun M11 => (gR 11 M11 (some i1) 5).bind fun v12 => (gO 8 M11 v12).bind fun i13 => (F_X8_takes (some i13) l2 l1 l3 l4 M11).bind fun (v14, M15) => if v14 = 0 then (some ((0 : Int32), M15)) else (if l4 = 0 then (F_X11_tell_b94 M15) else ((gR 11 M15 (some i1) 5).bind fun v16 => (gR 8 M15 v16 0).bind fun v17 => (aI 20 M15 v17 ((l1 * (7 : Int32)) + l3)).bind fun v18 => (gR 11 M15 (some i1) 11).bind fun v19 => (gR 1 M15 v19 0).bind fun v20 => (aI 20 M15 v20 l3).bind fun v21 => if v18 = v21 then (F_X11_tell_b94 M15) else ((gC 11 M15 i1).bind fun _ => (F_X11_spread (some i1) l2 l1 l3 M15).bind fun (v23, M24) => some (((1 : Int32) + v23), M24)))))))
set_option maxHeartbeats 1000000 in
theorem T_X11_tell_b0 (r : (Int32 × gM)) (l0 : Option Nat) (l1 : Int32) (l2 : Int32) (l3 : Int32) (l4 : Int32) (M : gM) (h : F_X11_tell_b0 l0 l1 l2 l3 l4 M = some r) : GW 3 0 0 X_X11_tell 0 [(0, vr l0), (1, vi l1), (2, vi l2), (3, vi l3), (4, vi l4)] [] M (some (vi r.1), r.2) := by
  delta F_X11_tell_b0 at h
  refine GW_aload_n (X := X_X11_tell) (pc := 0) d_X11_tell_0 rfl 0 rfl ?_
  refine GW_iload_n (X := X_X11_tell) (pc := 1) d_X11_tell_1 rfl 2 rfl ?_
  replace h := g_bd h
  obtain ⟨i1, hi1, h⟩ := h
  obtain ⟨rfl, ki1⟩ := g_gO hi1
  replace h := g_bd h
  obtain ⟨v2, hv2, h⟩ := h
  refine GW_callV (X := X_X11_tell) (pc := 2) (bc0 := 0) (bs0 := 0) (r := some (vi v2)) (M2 := M) (c0 := 11) (T_X11_isHeir (some i1) l2 M v2 hv2) (Nat.le_of_ble_eq_true rfl) (Nat.le_of_ble_eq_true rfl) rfl g_cok11 ki1 yc_X11_isHeir ⟨m_768, m_770, m_20, m_116, m_771⟩ d_X11_tell_2 rfl (st := []) rfl (Nat.le_of_ble_eq_true rfl) (Nat.le_of_ble_eq_true rfl) (Nat.le_of_ble_eq_true rfl) (st2 := [vi v2]) rfl ?_
  refine GW_if_eq (X := X_X11_tell) (pc := 5) 33 d_X11_tell_5 (by decide) (fun c => ?_) (fun c => ?_)
  · replace h := g_ip c h
    refine GW_sub [] rfl ?_
    exact T_X11_tell_b33 r M h
  · replace h := g_ie c h
    refine GW_aload_n (X := X_X11_tell) (pc := 8) d_X11_tell_8 rfl 0 rfl ?_
    refine GW_iload_n (X := X_X11_tell) (pc := 9) d_X11_tell_9 rfl 1 rfl ?_
    refine GW_iload_n (X := X_X11_tell) (pc := 10) d_X11_tell_10 rfl 3 rfl ?_
    replace h := g_bd h
    obtain ⟨v3, hv3, h⟩ := h
    refine GW_callV (X := X_X11_tell) (pc := 11) (bc0 := 0) (bs0 := 0) (r := some (vi v3)) (M2 := M) (c0 := 11) (T_X11_isKnown (some i1) l1 l3 M v3 hv3) (Nat.le_of_ble_eq_true rfl) (Nat.le_of_ble_eq_true rfl) rfl g_cok11 ki1 yc_X11_isKnown ⟨m_904, m_906, m_30, m_116, m_907⟩ d_X11_tell_11 rfl (st := []) rfl (Nat.le_of_ble_eq_true rfl) (Nat.le_of_ble_eq_true rfl) (Nat.le_of_ble_eq_true rfl) (st2 := [vi v3]) rfl ?_
    refine GW_if_eq (X := X_X11_tell) (pc := 14) 33 d_X11_tell_14 (by decide) (fun c => ?_) (fun c => ?_)
    · replace h := g_ip c h
      refine GW_sub [] rfl ?_
      exact T_X11_tell_b33 r M h
    · replace h := g_ie c h
      refine GW_aload_n (X := X_X11_tell) (pc := 17) d_X11_tell_17 rfl 0 rfl ?_
      replace h := g_bd h
      obtain ⟨v4, hv4, h⟩ := h
      refine GW_getR (X := X_X11_tell) (pc := 18) f_X11_59 d_X11_tell_18 hv4 (Or.inl ⟨_, ty_11_11⟩) ?_
      replace h := g_bd h
      obtain ⟨v5, hv5, h⟩ := h
      refine GW_getR (X := X_X11_tell) (pc := 21) f_X11_144 d_X11_tell_21 hv5 (Or.inr ⟨_, ty_1_4⟩) ?_
      refine GW_iload_n (X := X_X11_tell) (pc := 24) d_X11_tell_24 rfl 1 rfl ?_
      replace h := g_bd h
      obtain ⟨v6, hv6, h⟩ := h
      refine GW_iald (X := X_X11_tell) (pc := 25) d_X11_tell_25 hv6 ?_
      refine GW_iload_n (X := X_X11_tell) (pc := 26) d_X11_tell_26 rfl 2 rfl ?_
      replace h := g_bd h
      obtain ⟨v7, hv7, h⟩ := h
      refine GW_callS (X := X_X11_tell) (pc := 27) (bc0 := 0) (bs0 := 0) (r := some (vi v7)) (M2 := M) (T_X11_bit v6 l2 M v7 hv7) (Nat.le_of_ble_eq_true rfl) (Nat.le_of_ble_eq_true rfl) yc_X11_bit ⟨m_772, m_646, m_116, m_647⟩ d_X11_tell_27 rfl (st := []) rfl (Nat.le_of_ble_eq_true rfl) (Nat.le_of_ble_eq_true rfl) (Nat.le_of_ble_eq_true rfl) (st2 := [vi v7]) rfl ?_
      refine GW_if_ne (X := X_X11_tell) (pc := 30) 35 d_X11_tell_30 (by decide) (fun c => ?_) (fun c => ?_)
      · replace h := g_ie c h
        refine GW_aload_n (X := X_X11_tell) (pc := 35) d_X11_tell_35 rfl 0 rfl ?_
        replace h := g_bd h
        obtain ⟨v8, hv8, h⟩ := h
        refine GW_getR (X := X_X11_tell) (pc := 36) f_X11_35 d_X11_tell_36 hv8 (Or.inl ⟨_, ty_11_7⟩) ?_
        refine GW_aload_n (X := X_X11_tell) (pc := 39) d_X11_tell_39 rfl 0 rfl ?_
        replace h := g_bd h
        obtain ⟨v9, hv9, h⟩ := h
        refine GW_getR (X := X_X11_tell) (pc := 40) f_X11_25 d_X11_tell_40 hv9 (Or.inl ⟨_, ty_11_5⟩) ?_
        replace h := g_bd h
        obtain ⟨i10, hi10, h⟩ := h
        obtain ⟨rfl, ki10⟩ := g_gO hi10
        replace h := g_bd h
        obtain ⟨M11, hM11, h⟩ := h
        refine GW_callV (X := X_X11_tell) (pc := 43) (bc0 := 0) (bs0 := 0) (r := none) (M2 := M11) (c0 := 4) (T_X4_keep (some i10) v9 M M11 hM11) (Nat.le_of_ble_eq_true rfl) (Nat.le_of_ble_eq_true rfl) rfl g_cok4 ki10 yc_X4_keep ⟨m_825, m_826, m_827, m_120, m_828⟩ d_X11_tell_43 rfl (st := []) rfl (Nat.le_of_ble_eq_true rfl) (Nat.le_of_ble_eq_true rfl) (Nat.le_of_ble_eq_true rfl) (st2 := []) rfl ?_
        refine GW_aload_n (X := X_X11_tell) (pc := 46) d_X11_tell_46 rfl 0 rfl ?_
        replace h := g_bd h
        obtain ⟨v12, hv12, h⟩ := h
        refine GW_getR (X := X_X11_tell) (pc := 47) f_X11_25 d_X11_tell_47 hv12 (Or.inl ⟨_, ty_11_5⟩) ?_
        refine GW_iload_n (X := X_X11_tell) (pc := 50) d_X11_tell_50 rfl 2 rfl ?_
        refine GW_iload_n (X := X_X11_tell) (pc := 51) d_X11_tell_51 rfl 1 rfl ?_
        refine GW_iload_n (X := X_X11_tell) (pc := 52) d_X11_tell_52 rfl 3 rfl ?_
        refine GW_iload (X := X_X11_tell) (pc := 53) d_X11_tell_53 4 rfl ?_
        replace h := g_bd h
        obtain ⟨i13, hi13, h⟩ := h
        obtain ⟨rfl, ki13⟩ := g_gO hi13
        replace h := g_bd h
        obtain ⟨⟨v14, M15⟩, hv14, h⟩ := h
        dsimp only at h
        refine GW_callV (X := X_X11_tell) (pc := 55) (bc0 := 0) (bs0 := 0) (r := some (vi v14)) (M2 := M15) (c0 := 8) (T_X8_takes (some i13) l2 l1 l3 l4 M11 (v14, M15) hv14) (Nat.le_of_ble_eq_true rfl) (Nat.le_of_ble_eq_true rfl) rfl g_cok8 ki13 yc_X8_takes ⟨m_908, m_909, m_910, m_119, m_911⟩ d_X11_tell_55 rfl (st := []) rfl (Nat.le_of_ble_eq_true rfl) (Nat.le_of_ble_eq_true rfl) (Nat.le_of_ble_eq_true rfl) (st2 := [vi v14]) rfl ?_
        refine GW_if_ne (X := X_X11_tell) (pc := 58) 63 d_X11_tell_58 (by decide) (fun c => ?_) (fun c => ?_)
        · replace h := g_ie c h
          refine GW_iload (X := X_X11_tell) (pc := 63) d_X11_tell_63 4 rfl ?_
          refine GW_if_eq (X := X_X11_tell) (pc := 65) 94 d_X11_tell_65 (by decide) (fun c => ?_) (fun c => ?_)
          · replace h := g_ip c h
            refine GW_sub [] rfl ?_
            exact T_X11_tell_b94 r M15 h
          · replace h := g_ie c h
            refine GW_aload_n (X := X_X11_tell) (pc := 68) d_X11_tell_68 rfl 0 rfl ?_
            replace h := g_bd h
            obtain ⟨v16, hv16, h⟩ := h
            refine GW_getR (X := X_X11_tell) (pc := 69) f_X11_25 d_X11_tell_69 hv16 (Or.inl ⟨_, ty_11_5⟩) ?_
            replace h := g_bd h
            obtain ⟨v17, hv17, h⟩ := h
            refine GW_getR (X := X_X11_tell) (pc := 72) f_X11_181 d_X11_tell_72 hv17 (Or.inr ⟨_, ty_8_0⟩) ?_
            refine GW_iload_n (X := X_X11_tell) (pc := 75) d_X11_tell_75 rfl 1 rfl ?_
            refine GW_bipush (X := X_X11_tell) (pc := 76) (v := 7) d_X11_tell_76 (by decide) ?_
            refine GW_imul (X := X_X11_tell) (pc := 78) d_X11_tell_78 ?_
            refine GW_iload_n (X := X_X11_tell) (pc := 79) d_X11_tell_79 rfl 3 rfl ?_
            refine GW_iadd (X := X_X11_tell) (pc := 80) d_X11_tell_80 ?_
            replace h := g_bd h
            obtain ⟨v18, hv18, h⟩ := h
            refine GW_iald (X := X_X11_tell) (pc := 81) d_X11_tell_81 hv18 ?_
            refine GW_aload_n (X := X_X11_tell) (pc := 82) d_X11_tell_82 rfl 0 rfl ?_
            replace h := g_bd h
            obtain ⟨v19, hv19, h⟩ := h
            refine GW_getR (X := X_X11_tell) (pc := 83) f_X11_59 d_X11_tell_83 hv19 (Or.inl ⟨_, ty_11_11⟩) ?_
            replace h := g_bd h
            obtain ⟨v20, hv20, h⟩ := h
            refine GW_getR (X := X_X11_tell) (pc := 86) f_X11_157 d_X11_tell_86 hv20 (Or.inr ⟨_, ty_1_0⟩) ?_
            refine GW_iload_n (X := X_X11_tell) (pc := 89) d_X11_tell_89 rfl 3 rfl ?_
            replace h := g_bd h
            obtain ⟨v21, hv21, h⟩ := h
            refine GW_iald (X := X_X11_tell) (pc := 90) d_X11_tell_90 hv21 ?_
            refine GW_icmp_ne (X := X_X11_tell) (pc := 91) 96 d_X11_tell_91 (by decide) (fun c => ?_) (fun c => ?_)
            · replace h := g_ie c h
              refine GW_iconst (X := X_X11_tell) (pc := 96) (v := 1) d_X11_tell_96 (by decide) ?_
              refine GW_aload_n (X := X_X11_tell) (pc := 97) d_X11_tell_97 rfl 0 rfl ?_
              refine GW_iload_n (X := X_X11_tell) (pc := 98) d_X11_tell_98 rfl 2 rfl ?_
              refine GW_iload_n (X := X_X11_tell) (pc := 99) d_X11_tell_99 rfl 1 rfl ?_
              refine GW_iload_n (X := X_X11_tell) (pc := 100) d_X11_tell_100 rfl 3 rfl ?_
              replace h := g_bd h
              obtain ⟨_, kk22, h⟩ := h
              replace kk22 := g_gC kk22
              replace h := g_bd h
              obtain ⟨⟨v23, M24⟩, hv23, h⟩ := h
              dsimp only at h
              refine GW_callV (X := X_X11_tell) (pc := 101) (bc0 := 0) (bs0 := 0) (r := some (vi v23)) (M2 := M24) (c0 := 11) (T_X11_spread (some i1) l2 l1 l3 M15 (v23, M24) hv23) (Nat.le_of_ble_eq_true rfl) (Nat.le_of_ble_eq_true rfl) rfl g_cok11 kk22 yc_X11_spread ⟨m_915, m_917, m_31, m_116, m_918⟩ d_X11_tell_101 rfl (st := [vi (1 : Int32)]) rfl (Nat.le_of_ble_eq_true rfl) (Nat.le_of_ble_eq_true rfl) (Nat.le_of_ble_eq_true rfl) (st2 := [vi v23, vi (1 : Int32)]) rfl ?_
              refine GW_iadd (X := X_X11_tell) (pc := 104) d_X11_tell_104 ?_
              replace h := Option.some.inj h
              subst h
              exact GW_ret (X := X_X11_tell) (pc := 105) d_X11_tell_105 rfl trivial
            · replace h := g_ip c h
              refine GW_sub [] rfl ?_
              exact T_X11_tell_b94 r M15 h
        · replace h := g_ip c h
          refine GW_iconst (X := X_X11_tell) (pc := 61) (v := 0) d_X11_tell_61 (by decide) ?_
          replace h := Option.some.inj h
          subst h
          exact GW_ret (X := X_X11_tell) (pc := 62) d_X11_tell_62 rfl trivial
      · replace h := g_ip c h
        refine GW_sub [] rfl ?_
        exact T_X11_tell_b33 r M h
def F_X11_tell (l0 : Option Nat) (l1 : Int32) (l2 : Int32) (l3 : Int32) (l4 : Int32) (M : gM) : Option (Int32 × gM) := F_X11_tell_b0 l0 l1 l2 l3 l4 M
theorem T_X11_tell (l0 : Option Nat) (l1 : Int32) (l2 : Int32) (l3 : Int32) (l4 : Int32) (M : gM) (r : (Int32 × gM)) (h : F_X11_tell l0 l1 l2 l3 l4 M = some r) : g_Met 3 0 0 yX11_tell X_X11_tell [vr l0, vi l1, vi l2, vi l3, vi l4] M (some (vi r.1), r.2) :=
  g_Met_of pn_RX11 rfl (Nat.le_of_ble_eq_true rfl) (fun h => by cases h) (GW_sub [0, 1, 2, 3, 4] rfl (T_X11_tell_b0 r l0 l1 l2 l3 l4 M h))
/-! ForgetHeirsModel.takes(IIII)Z -/
theorem d_X12_takes_0 : decode cX12_takes 0 = .ok (.aload_n 0, 1) := by decide +kernel
theorem d_X12_takes_1 : decode cX12_takes 1 = .ok (.iload_n 2, 1) := by decide +kernel
theorem d_X12_takes_2 : decode cX12_takes 2 = .ok (.iload_n 3, 1) := by decide +kernel
theorem d_X12_takes_3 : decode cX12_takes 3 = .ok (.invokevirtual 304, 3) := by decide +kernel
theorem d_X12_takes_6 : decode cX12_takes 6 = .ok (.ifCond .eq 20, 3) := by decide +kernel
theorem d_X12_takes_9 : decode cX12_takes 9 = .ok (.aload_n 0, 1) := by decide +kernel
theorem d_X12_takes_10 : decode cX12_takes 10 = .ok (.iload_n 2, 1) := by decide +kernel
theorem d_X12_takes_11 : decode cX12_takes 11 = .ok (.iload_n 3, 1) := by decide +kernel
theorem d_X12_takes_12 : decode cX12_takes 12 = .ok (.invokevirtual 335, 3) := by decide +kernel
theorem d_X12_takes_15 : decode cX12_takes 15 = .ok (.aload_n 0, 1) := by decide +kernel
theorem d_X12_takes_16 : decode cX12_takes 16 = .ok (.iload_n 1, 1) := by decide +kernel
theorem d_X12_takes_17 : decode cX12_takes 17 = .ok (.iload_n 3, 1) := by decide +kernel
theorem d_X12_takes_18 : decode cX12_takes 18 = .ok (.invokevirtual 335, 3) := by decide +kernel
theorem d_X12_takes_21 : decode cX12_takes 21 = .ok (.if_icmp .lt 5, 3) := by decide +kernel
theorem d_X12_takes_24 : decode cX12_takes 24 = .ok (.iconst 0, 1) := by decide +kernel
theorem d_X12_takes_25 : decode cX12_takes 25 = .ok (.ireturn, 1) := by decide +kernel
theorem d_X12_takes_26 : decode cX12_takes 26 = .ok (.aload_n 0, 1) := by decide +kernel
theorem d_X12_takes_27 : decode cX12_takes 27 = .ok (.iload_n 2, 1) := by decide +kernel
theorem d_X12_takes_28 : decode cX12_takes 28 = .ok (.iload_n 3, 1) := by decide +kernel
theorem d_X12_takes_29 : decode cX12_takes 29 = .ok (.aload_n 0, 1) := by decide +kernel
theorem d_X12_takes_30 : decode cX12_takes 30 = .ok (.iload_n 1, 1) := by decide +kernel
theorem d_X12_takes_31 : decode cX12_takes 31 = .ok (.iload_n 3, 1) := by decide +kernel
theorem d_X12_takes_32 : decode cX12_takes 32 = .ok (.invokevirtual 297, 3) := by decide +kernel
theorem d_X12_takes_35 : decode cX12_takes 35 = .ok (.iload 4, 2) := by decide +kernel
theorem d_X12_takes_37 : decode cX12_takes 37 = .ok (.iconst 1, 1) := by decide +kernel
theorem d_X12_takes_38 : decode cX12_takes 38 = .ok (.if_icmp .ge 7, 3) := by decide +kernel
theorem d_X12_takes_41 : decode cX12_takes 41 = .ok (.iconst 1, 1) := by decide +kernel
theorem d_X12_takes_42 : decode cX12_takes 42 = .ok (.goto 5, 3) := by decide +kernel
theorem d_X12_takes_45 : decode cX12_takes 45 = .ok (.iload 4, 2) := by decide +kernel
theorem d_X12_takes_47 : decode cX12_takes 47 = .ok (.invokevirtual 358, 3) := by decide +kernel
theorem d_X12_takes_50 : decode cX12_takes 50 = .ok (.iconst 1, 1) := by decide +kernel
theorem d_X12_takes_51 : decode cX12_takes 51 = .ok (.ireturn, 1) := by decide +kernel
abbrev X_X12_takes : gX := (RX12, cX12_takes, 5, (some .boolean), false)
def F_X12_takes_b47 (s0 : Option Nat) (s1 : Int32) (s2 : Int32) (s3 : Int32) (s4 : Int32) (M : gM) : Option (Int32 × gM) :=
  (gO 12 M s0).bind fun i1 => (F_X12_knowsNow (some i1) s1 s2 s3 s4 M).bind fun M2 => some ((1 : Int32), M2)
theorem T_X12_takes_b47 (r : (Int32 × gM)) (s0 : Option Nat) (s1 : Int32) (s2 : Int32) (s3 : Int32) (s4 : Int32) (M : gM) (h : F_X12_takes_b47 s0 s1 s2 s3 s4 M = some r) : GW 2 0 0 X_X12_takes 47 [] [vi s4, vi s3, vi s2, vi s1, vr s0] M (some (vi r.1), r.2) := by
  delta F_X12_takes_b47 at h
  replace h := g_bd h
  obtain ⟨i1, hi1, h⟩ := h
  obtain ⟨rfl, ki1⟩ := g_gO hi1
  replace h := g_bd h
  obtain ⟨M2, hM2, h⟩ := h
  refine GW_callV (X := X_X12_takes) (pc := 47) (bc0 := 0) (bs0 := 0) (r := none) (M2 := M2) (c0 := 12) (T_X12_knowsNow (some i1) s1 s2 s3 s4 M M2 hM2) (Nat.le_of_ble_eq_true rfl) (Nat.le_of_ble_eq_true rfl) rfl g_cok12 ki1 yc_X12_knowsNow ⟨m_1517, m_1519, m_96, m_127, m_1520⟩ d_X12_takes_47 rfl (st := []) rfl (Nat.le_of_ble_eq_true rfl) (Nat.le_of_ble_eq_true rfl) (Nat.le_of_ble_eq_true rfl) (st2 := []) rfl ?_
  refine GW_iconst (X := X_X12_takes) (pc := 50) (v := 1) d_X12_takes_50 (by decide) ?_
  replace h := Option.some.inj h
  subst h
  exact GW_ret (X := X_X12_takes) (pc := 51) d_X12_takes_51 rfl g_rok1
def F_X12_takes_b26 (l0 : Option Nat) (l1 : Int32) (l2 : Int32) (l3 : Int32) (l4 : Int32) (M : gM) : Option (Int32 × gM) :=
  (gO 12 M l0).bind fun i1 => (F_X12_valueOf (some i1) l1 l3 M).bind fun v2 => if (1 : Int32) ≤ l4 then (F_X12_takes_b47 (some i1) l2 l3 v2 l4 M) else (F_X12_takes_b47 (some i1) l2 l3 v2 (1 : Int32) M)
theorem T_X12_takes_b26 (r : (Int32 × gM)) (l0 : Option Nat) (l1 : Int32) (l2 : Int32) (l3 : Int32) (l4 : Int32) (M : gM) (h : F_X12_takes_b26 l0 l1 l2 l3 l4 M = some r) : GW 2 0 0 X_X12_takes 26 [(0, vr l0), (1, vi l1), (2, vi l2), (3, vi l3), (4, vi l4)] [] M (some (vi r.1), r.2) := by
  delta F_X12_takes_b26 at h
  refine GW_aload_n (X := X_X12_takes) (pc := 26) d_X12_takes_26 rfl 0 rfl ?_
  refine GW_iload_n (X := X_X12_takes) (pc := 27) d_X12_takes_27 rfl 2 rfl ?_
  refine GW_iload_n (X := X_X12_takes) (pc := 28) d_X12_takes_28 rfl 3 rfl ?_
  refine GW_aload_n (X := X_X12_takes) (pc := 29) d_X12_takes_29 rfl 0 rfl ?_
  refine GW_iload_n (X := X_X12_takes) (pc := 30) d_X12_takes_30 rfl 1 rfl ?_
  refine GW_iload_n (X := X_X12_takes) (pc := 31) d_X12_takes_31 rfl 3 rfl ?_
  replace h := g_bd h
  obtain ⟨i1, hi1, h⟩ := h
  obtain ⟨rfl, ki1⟩ := g_gO hi1
  replace h := g_bd h
  obtain ⟨v2, hv2, h⟩ := h
  refine GW_callV (X := X_X12_takes) (pc := 32) (bc0 := 0) (bs0 := 0) (r := some (vi v2)) (M2 := M) (c0 := 12) (T_X12_valueOf (some i1) l1 l3 M v2 hv2) (Nat.le_of_ble_eq_true rfl) (Nat.le_of_ble_eq_true rfl) rfl g_cok12 ki1 yc_X12_valueOf ⟨m_1436, m_1438, m_81, m_127, m_1439⟩ d_X12_takes_32 rfl (st := [vi l3, vi l2, vr (some i1)]) rfl (Nat.le_of_ble_eq_true rfl) (Nat.le_of_ble_eq_true rfl) (Nat.le_of_ble_eq_true rfl) (st2 := [vi v2, vi l3, vi l2, vr (some i1)]) rfl ?_
  refine GW_iload (X := X_X12_takes) (pc := 35) d_X12_takes_35 4 rfl ?_
  refine GW_iconst (X := X_X12_takes) (pc := 37) (v := 1) d_X12_takes_37 (by decide) ?_
  refine GW_icmp_ge (X := X_X12_takes) (pc := 38) 45 d_X12_takes_38 (by decide) (fun c => ?_) (fun c => ?_)
  · replace h := g_ip c h
    refine GW_iload (X := X_X12_takes) (pc := 45) d_X12_takes_45 4 rfl ?_
    refine GW_sub [] rfl ?_
    exact T_X12_takes_b47 r (some i1) l2 l3 v2 l4 M h
  · replace h := g_ie c h
    refine GW_iconst (X := X_X12_takes) (pc := 41) (v := 1) d_X12_takes_41 (by decide) ?_
    refine GW_goto (X := X_X12_takes) (pc := 42) 47 d_X12_takes_42 (by decide) ?_
    refine GW_sub [] rfl ?_
    exact T_X12_takes_b47 r (some i1) l2 l3 v2 (1 : Int32) M h
def F_X12_takes_b0 (l0 : Option Nat) (l1 : Int32) (l2 : Int32) (l3 : Int32) (l4 : Int32) (M : gM) : Option (Int32 × gM) :=
  (gO 12 M l0).bind fun i1 => (F_X12_knowsOf (some i1) l2 l3 M).bind fun v2 => if v2 = 0 then (F_X12_takes_b26 (some i1) l1 l2 l3 l4 M) else ((F_X12_strengthOf (some i1) l2 l3 M).bind fun v3 => (F_X12_strengthOf (some i1) l1 l3 M).bind fun v4 => if v3 < v4 then (F_X12_takes_b26 (some i1) l1 l2 l3 l4 M) else (some ((0 : Int32), M)))
theorem T_X12_takes_b0 (r : (Int32 × gM)) (l0 : Option Nat) (l1 : Int32) (l2 : Int32) (l3 : Int32) (l4 : Int32) (M : gM) (h : F_X12_takes_b0 l0 l1 l2 l3 l4 M = some r) : GW 2 0 0 X_X12_takes 0 [(0, vr l0), (1, vi l1), (2, vi l2), (3, vi l3), (4, vi l4)] [] M (some (vi r.1), r.2) := by
  delta F_X12_takes_b0 at h
  refine GW_aload_n (X := X_X12_takes) (pc := 0) d_X12_takes_0 rfl 0 rfl ?_
  refine GW_iload_n (X := X_X12_takes) (pc := 1) d_X12_takes_1 rfl 2 rfl ?_
  refine GW_iload_n (X := X_X12_takes) (pc := 2) d_X12_takes_2 rfl 3 rfl ?_
  replace h := g_bd h
  obtain ⟨i1, hi1, h⟩ := h
  obtain ⟨rfl, ki1⟩ := g_gO hi1
  replace h := g_bd h
  obtain ⟨v2, hv2, h⟩ := h
  refine GW_callV (X := X_X12_takes) (pc := 3) (bc0 := 0) (bs0 := 0) (r := some (vi v2)) (M2 := M) (c0 := 12) (T_X12_knowsOf (some i1) l2 l3 M v2 hv2) (Nat.le_of_ble_eq_true rfl) (Nat.le_of_ble_eq_true rfl) rfl g_cok12 ki1 yc_X12_knowsOf ⟨m_1432, m_1434, m_80, m_127, m_1435⟩ d_X12_takes_3 rfl (st := []) rfl (Nat.le_of_ble_eq_true rfl) (Nat.le_of_ble_eq_true rfl) (Nat.le_of_ble_eq_true rfl) (st2 := [vi v2]) rfl ?_
  refine GW_if_eq (X := X_X12_takes) (pc := 6) 26 d_X12_takes_6 (by decide) (fun c => ?_) (fun c => ?_)
  · replace h := g_ip c h
    exact T_X12_takes_b26 r (some i1) l1 l2 l3 l4 M h
  · replace h := g_ie c h
    refine GW_aload_n (X := X_X12_takes) (pc := 9) d_X12_takes_9 rfl 0 rfl ?_
    refine GW_iload_n (X := X_X12_takes) (pc := 10) d_X12_takes_10 rfl 2 rfl ?_
    refine GW_iload_n (X := X_X12_takes) (pc := 11) d_X12_takes_11 rfl 3 rfl ?_
    replace h := g_bd h
    obtain ⟨v3, hv3, h⟩ := h
    refine GW_callV (X := X_X12_takes) (pc := 12) (bc0 := 0) (bs0 := 0) (r := some (vi v3)) (M2 := M) (c0 := 12) (T_X12_strengthOf (some i1) l2 l3 M v3 hv3) (Nat.le_of_ble_eq_true rfl) (Nat.le_of_ble_eq_true rfl) rfl g_cok12 ki1 yc_X12_strengthOf ⟨m_1493, m_1495, m_91, m_127, m_1496⟩ d_X12_takes_12 rfl (st := []) rfl (Nat.le_of_ble_eq_true rfl) (Nat.le_of_ble_eq_true rfl) (Nat.le_of_ble_eq_true rfl) (st2 := [vi v3]) rfl ?_
    refine GW_aload_n (X := X_X12_takes) (pc := 15) d_X12_takes_15 rfl 0 rfl ?_
    refine GW_iload_n (X := X_X12_takes) (pc := 16) d_X12_takes_16 rfl 1 rfl ?_
    refine GW_iload_n (X := X_X12_takes) (pc := 17) d_X12_takes_17 rfl 3 rfl ?_
    replace h := g_bd h
    obtain ⟨v4, hv4, h⟩ := h
    refine GW_callV (X := X_X12_takes) (pc := 18) (bc0 := 0) (bs0 := 0) (r := some (vi v4)) (M2 := M) (c0 := 12) (T_X12_strengthOf (some i1) l1 l3 M v4 hv4) (Nat.le_of_ble_eq_true rfl) (Nat.le_of_ble_eq_true rfl) rfl g_cok12 ki1 yc_X12_strengthOf ⟨m_1493, m_1495, m_91, m_127, m_1496⟩ d_X12_takes_18 rfl (st := [vi v3]) rfl (Nat.le_of_ble_eq_true rfl) (Nat.le_of_ble_eq_true rfl) (Nat.le_of_ble_eq_true rfl) (st2 := [vi v4, vi v3]) rfl ?_
    refine GW_icmp_lt (X := X_X12_takes) (pc := 21) 26 d_X12_takes_21 (by decide) (fun c => ?_) (fun c => ?_)
    · replace h := g_ip c h
      exact T_X12_takes_b26 r (some i1) l1 l2 l3 l4 M h
    · replace h := g_ie c h
      refine GW_iconst (X := X_X12_takes) (pc := 24) (v := 0) d_X12_takes_24 (by decide) ?_
      replace h := Option.some.inj h
      subst h
      exact GW_ret (X := X_X12_takes) (pc := 25) d_X12_takes_25 rfl g_rok0
def F_X12_takes (l0 : Option Nat) (l1 : Int32) (l2 : Int32) (l3 : Int32) (l4 : Int32) (M : gM) : Option (Int32 × gM) := F_X12_takes_b0 l0 l1 l2 l3 l4 M
theorem T_X12_takes (l0 : Option Nat) (l1 : Int32) (l2 : Int32) (l3 : Int32) (l4 : Int32) (M : gM) (r : (Int32 × gM)) (h : F_X12_takes l0 l1 l2 l3 l4 M = some r) : g_Met 2 0 0 yX12_takes X_X12_takes [vr l0, vi l1, vi l2, vi l3, vi l4] M (some (vi r.1), r.2) :=
  g_Met_of pn_RX12 rfl (Nat.le_of_ble_eq_true rfl) (fun h => by cases h) (GW_sub [0, 1, 2, 3, 4] rfl (T_X12_takes_b0 r l0 l1 l2 l3 l4 M h))
/-! ForgetHeirsModel.goesOn(III)I -/
theorem d_X12_goesOn_0 : decode cX12_goesOn 0 = .ok (.iconst 0, 1) := by decide +kernel
theorem d_X12_goesOn_1 : decode cX12_goesOn 1 = .ok (.istore 4, 2) := by decide +kernel
theorem d_X12_goesOn_3 : decode cX12_goesOn 3 = .ok (.iconst 0, 1) := by decide +kernel
theorem d_X12_goesOn_4 : decode cX12_goesOn 4 = .ok (.istore 5, 2) := by decide +kernel
theorem d_X12_goesOn_6 : decode cX12_goesOn 6 = .ok (.iconst 0, 1) := by decide +kernel
theorem d_X12_goesOn_7 : decode cX12_goesOn 7 = .ok (.istore 6, 2) := by decide +kernel
theorem d_X12_goesOn_9 : decode cX12_goesOn 9 = .ok (.iload 6, 2) := by decide +kernel
theorem d_X12_goesOn_11 : decode cX12_goesOn 11 = .ok (.aload_n 0, 1) := by decide +kernel
theorem d_X12_goesOn_12 : decode cX12_goesOn 12 = .ok (.getfield 39, 3) := by decide +kernel
theorem d_X12_goesOn_15 : decode cX12_goesOn 15 = .ok (.iconst 2, 1) := by decide +kernel
theorem d_X12_goesOn_16 : decode cX12_goesOn 16 = .ok (.iaload, 1) := by decide +kernel
theorem d_X12_goesOn_17 : decode cX12_goesOn 17 = .ok (.if_icmp .ge 73, 3) := by decide +kernel
theorem d_X12_goesOn_20 : decode cX12_goesOn 20 = .ok (.iload 5, 2) := by decide +kernel
theorem d_X12_goesOn_22 : decode cX12_goesOn 22 = .ok (.iconst 3, 1) := by decide +kernel
theorem d_X12_goesOn_23 : decode cX12_goesOn 23 = .ok (.if_icmp .ge 67, 3) := by decide +kernel
theorem d_X12_goesOn_26 : decode cX12_goesOn 26 = .ok (.iload 6, 2) := by decide +kernel
theorem d_X12_goesOn_28 : decode cX12_goesOn 28 = .ok (.iload_n 2, 1) := by decide +kernel
theorem d_X12_goesOn_29 : decode cX12_goesOn 29 = .ok (.if_icmp .eq 55, 3) := by decide +kernel
theorem d_X12_goesOn_32 : decode cX12_goesOn 32 = .ok (.aload_n 0, 1) := by decide +kernel
theorem d_X12_goesOn_33 : decode cX12_goesOn 33 = .ok (.getfield 39, 3) := by decide +kernel
theorem d_X12_goesOn_36 : decode cX12_goesOn 36 = .ok (.bipush 52, 2) := by decide +kernel
theorem d_X12_goesOn_38 : decode cX12_goesOn 38 = .ok (.iload_n 1, 1) := by decide +kernel
theorem d_X12_goesOn_39 : decode cX12_goesOn 39 = .ok (.iadd, 1) := by decide +kernel
theorem d_X12_goesOn_40 : decode cX12_goesOn 40 = .ok (.iaload, 1) := by decide +kernel
theorem d_X12_goesOn_41 : decode cX12_goesOn 41 = .ok (.iload 6, 2) := by decide +kernel
theorem d_X12_goesOn_43 : decode cX12_goesOn 43 = .ok (.invokestatic 226, 3) := by decide +kernel
theorem d_X12_goesOn_46 : decode cX12_goesOn 46 = .ok (.ifCond .ne 6, 3) := by decide +kernel
theorem d_X12_goesOn_49 : decode cX12_goesOn 49 = .ok (.goto 35, 3) := by decide +kernel
theorem d_X12_goesOn_52 : decode cX12_goesOn 52 = .ok (.iinc 5 1, 3) := by decide +kernel
theorem d_X12_goesOn_55 : decode cX12_goesOn 55 = .ok (.iload 4, 2) := by decide +kernel
theorem d_X12_goesOn_57 : decode cX12_goesOn 57 = .ok (.aload_n 0, 1) := by decide +kernel
theorem d_X12_goesOn_58 : decode cX12_goesOn 58 = .ok (.iload_n 1, 1) := by decide +kernel
theorem d_X12_goesOn_59 : decode cX12_goesOn 59 = .ok (.iload 6, 2) := by decide +kernel
theorem d_X12_goesOn_61 : decode cX12_goesOn 61 = .ok (.iload_n 3, 1) := by decide +kernel
theorem d_X12_goesOn_62 : decode cX12_goesOn 62 = .ok (.aload_n 0, 1) := by decide +kernel
theorem d_X12_goesOn_63 : decode cX12_goesOn 63 = .ok (.iload_n 1, 1) := by decide +kernel
theorem d_X12_goesOn_64 : decode cX12_goesOn 64 = .ok (.iload_n 3, 1) := by decide +kernel
theorem d_X12_goesOn_65 : decode cX12_goesOn 65 = .ok (.invokevirtual 335, 3) := by decide +kernel
theorem d_X12_goesOn_68 : decode cX12_goesOn 68 = .ok (.iconst 2, 1) := by decide +kernel
theorem d_X12_goesOn_69 : decode cX12_goesOn 69 = .ok (.idiv, 1) := by decide +kernel
theorem d_X12_goesOn_70 : decode cX12_goesOn 70 = .ok (.invokevirtual 371, 3) := by decide +kernel
theorem d_X12_goesOn_73 : decode cX12_goesOn 73 = .ok (.ifCond .eq 7, 3) := by decide +kernel
theorem d_X12_goesOn_76 : decode cX12_goesOn 76 = .ok (.iconst 1, 1) := by decide +kernel
theorem d_X12_goesOn_77 : decode cX12_goesOn 77 = .ok (.goto 4, 3) := by decide +kernel
theorem d_X12_goesOn_80 : decode cX12_goesOn 80 = .ok (.iconst 0, 1) := by decide +kernel
theorem d_X12_goesOn_81 : decode cX12_goesOn 81 = .ok (.iadd, 1) := by decide +kernel
theorem d_X12_goesOn_82 : decode cX12_goesOn 82 = .ok (.istore 4, 2) := by decide +kernel
theorem d_X12_goesOn_84 : decode cX12_goesOn 84 = .ok (.iinc 6 1, 3) := by decide +kernel
theorem d_X12_goesOn_87 : decode cX12_goesOn 87 = .ok (.goto (-78), 3) := by decide +kernel
theorem d_X12_goesOn_90 : decode cX12_goesOn 90 = .ok (.iload 4, 2) := by decide +kernel
theorem d_X12_goesOn_92 : decode cX12_goesOn 92 = .ok (.ireturn, 1) := by decide +kernel
abbrev X_X12_goesOn : gX := (RX12, cX12_goesOn, 7, (some .int), false)
def F_X12_goesOn_b90 (l4 : Int32) (M : gM) : Option (Int32 × gM) :=
  some (l4, M)
theorem T_X12_goesOn_b90 (r : (Int32 × gM)) (l4 : Int32) (M : gM) (h : F_X12_goesOn_b90 l4 M = some r) : GW 3 0 0 X_X12_goesOn 90 [(4, vi l4)] [] M (some (vi r.1), r.2) := by
  delta F_X12_goesOn_b90 at h
  refine GW_iload (X := X_X12_goesOn) (pc := 90) d_X12_goesOn_90 0 rfl ?_
  replace h := Option.some.inj h
  subst h
  exact GW_ret (X := X_X12_goesOn) (pc := 92) d_X12_goesOn_92 rfl trivial
def F_X12_goesOn_b84 (k9 : Option Nat → Int32 → Int32 → Int32 → Int32 → Int32 → Int32 → gM → Option (Int32 × gM)) (l0 : Option Nat) (l1 : Int32) (l2 : Int32) (l3 : Int32) (l4 : Int32) (l5 : Int32) (l6 : Int32) (M : gM) : Option (Int32 × gM) :=
  k9 l0 l1 l2 l3 l4 l5 (l6 + 1) M
theorem T_X12_goesOn_b84 (k9 : Option Nat → Int32 → Int32 → Int32 → Int32 → Int32 → Int32 → gM → Option (Int32 × gM)) (r : (Int32 × gM)) (hk9 : ∀ (l0 : Option Nat) (l1 : Int32) (l2 : Int32) (l3 : Int32) (l4 : Int32) (l5 : Int32) (l6 : Int32) (M : gM), k9 l0 l1 l2 l3 l4 l5 l6 M = some r → GW 3 0 0 X_X12_goesOn 9 [(0, vr l0), (1, vi l1), (2, vi l2), (3, vi l3), (4, vi l4), (5, vi l5), (6, vi l6)] [] M (some (vi r.1), r.2)) (l0 : Option Nat) (l1 : Int32) (l2 : Int32) (l3 : Int32) (l4 : Int32) (l5 : Int32) (l6 : Int32) (M : gM) (h : F_X12_goesOn_b84 k9 l0 l1 l2 l3 l4 l5 l6 M = some r) : GW 3 0 0 X_X12_goesOn 84 [(0, vr l0), (1, vi l1), (2, vi l2), (3, vi l3), (4, vi l4), (5, vi l5), (6, vi l6)] [] M (some (vi r.1), r.2) := by
  delta F_X12_goesOn_b84 at h
  refine GW_iinc (j := 6) (X := X_X12_goesOn) (pc := 84) d_X12_goesOn_84 rfl (congrArg (fun z => _ + z) (by decide : Int32.ofInt 1 = (1 : Int32))) (Nat.le_of_ble_eq_true rfl) (lv2 := [(6, vi (l6 + 1)), (0, vr l0), (1, vi l1), (2, vi l2), (3, vi l3), (4, vi l4), (5, vi l5)]) rfl ?_
  refine GW_goto (X := X_X12_goesOn) (pc := 87) 9 d_X12_goesOn_87 (by decide) ?_
  refine GW_sub [1, 2, 3, 4, 5, 6, 0] rfl ?_
  exact hk9 l0 l1 l2 l3 l4 l5 (l6 + 1) M h
def F_X12_goesOn_b81 (k9 : Option Nat → Int32 → Int32 → Int32 → Int32 → Int32 → Int32 → gM → Option (Int32 × gM)) (l0 : Option Nat) (l1 : Int32) (l2 : Int32) (l3 : Int32) (l5 : Int32) (l6 : Int32) (s0 : Int32) (s1 : Int32) (M : gM) : Option (Int32 × gM) :=
  F_X12_goesOn_b84 k9 l0 l1 l2 l3 (s0 + s1) l5 l6 M
theorem T_X12_goesOn_b81 (k9 : Option Nat → Int32 → Int32 → Int32 → Int32 → Int32 → Int32 → gM → Option (Int32 × gM)) (r : (Int32 × gM)) (hk9 : ∀ (l0 : Option Nat) (l1 : Int32) (l2 : Int32) (l3 : Int32) (l4 : Int32) (l5 : Int32) (l6 : Int32) (M : gM), k9 l0 l1 l2 l3 l4 l5 l6 M = some r → GW 3 0 0 X_X12_goesOn 9 [(0, vr l0), (1, vi l1), (2, vi l2), (3, vi l3), (4, vi l4), (5, vi l5), (6, vi l6)] [] M (some (vi r.1), r.2)) (l0 : Option Nat) (l1 : Int32) (l2 : Int32) (l3 : Int32) (l5 : Int32) (l6 : Int32) (s0 : Int32) (s1 : Int32) (M : gM) (h : F_X12_goesOn_b81 k9 l0 l1 l2 l3 l5 l6 s0 s1 M = some r) : GW 3 0 0 X_X12_goesOn 81 [(0, vr l0), (1, vi l1), (2, vi l2), (3, vi l3), (5, vi l5), (6, vi l6)] [vi s1, vi s0] M (some (vi r.1), r.2) := by
  delta F_X12_goesOn_b81 at h
  refine GW_iadd (X := X_X12_goesOn) (pc := 81) d_X12_goesOn_81 ?_
  refine GW_istore (X := X_X12_goesOn) (pc := 82) d_X12_goesOn_82 (Nat.le_of_ble_eq_true rfl) (lv2 := [(4, vi (s0 + s1)), (0, vr l0), (1, vi l1), (2, vi l2), (3, vi l3), (5, vi l5), (6, vi l6)]) rfl ?_
  refine GW_sub [1, 2, 3, 4, 0, 5, 6] rfl ?_
  exact T_X12_goesOn_b84 k9 r hk9 l0 l1 l2 l3 (s0 + s1) l5 l6 M h
def F_X12_goesOn_b9 (k9 : Option Nat → Int32 → Int32 → Int32 → Int32 → Int32 → Int32 → gM → Option (Int32 × gM)) (l0 : Option Nat) (l1 : Int32) (l2 : Int32) (l3 : Int32) (l4 : Int32) (l5 : Int32) (l6 : Int32) (M : gM) : Option (Int32 × gM) :=
  (gR 12 M l0 20).bind fun v1 => (aI 20 M v1 (2 : Int32)).bind fun v2 => if v2 ≤ l6 then (F_X12_goesOn_b90 l4 M) else (if (3 : Int32) ≤ l5 then (F_X12_goesOn_b90 l4 M) else (if l6 = l2 then (F_X12_goesOn_b84 k9 l0 l1 l2 l3 l4 l5 l6 M) else ((gR 12 M l0 20).bind fun v3 => (aI 20 M v3 ((52 : Int32) + l1)).bind fun v4 => (F_X12_isOf v4 l6 M).bind fun v5 => if v5 = 0 then (F_X12_goesOn_b84 k9 l0 l1 l2 l3 l4 l5 l6 M) else ((gO 12 M l0).bind fun i6 => (F_X12_strengthOf (some i6) l1 l3 M).bind fun v7 => (F_X12_takes (some i6) l1 l6 l3 (v7 / (2 : Int32)) M).bind fun (v8, M9) => if v8 = 0 then (F_X12_goesOn_b81 k9 (some i6) l1 l2 l3 (l5 + 1) l6 l4 (0 : Int32) M9) else (F_X12_goesOn_b81 k9 (some i6) l1 l2 l3 (l5 + 1) l6 l4 (1 : Int32) M9)))))
set_option maxHeartbeats 1000000 in
theorem T_X12_goesOn_b9 (k9 : Option Nat → Int32 → Int32 → Int32 → Int32 → Int32 → Int32 → gM → Option (Int32 × gM)) (r : (Int32 × gM)) (hk9 : ∀ (l0 : Option Nat) (l1 : Int32) (l2 : Int32) (l3 : Int32) (l4 : Int32) (l5 : Int32) (l6 : Int32) (M : gM), k9 l0 l1 l2 l3 l4 l5 l6 M = some r → GW 3 0 0 X_X12_goesOn 9 [(0, vr l0), (1, vi l1), (2, vi l2), (3, vi l3), (4, vi l4), (5, vi l5), (6, vi l6)] [] M (some (vi r.1), r.2)) (l0 : Option Nat) (l1 : Int32) (l2 : Int32) (l3 : Int32) (l4 : Int32) (l5 : Int32) (l6 : Int32) (M : gM) (h : F_X12_goesOn_b9 k9 l0 l1 l2 l3 l4 l5 l6 M = some r) : GW 3 0 0 X_X12_goesOn 9 [(0, vr l0), (1, vi l1), (2, vi l2), (3, vi l3), (4, vi l4), (5, vi l5), (6, vi l6)] [] M (some (vi r.1), r.2) := by
  delta F_X12_goesOn_b9 at h
  refine GW_iload (X := X_X12_goesOn) (pc := 9) d_X12_goesOn_9 6 rfl ?_
  refine GW_aload_n (X := X_X12_goesOn) (pc := 11) d_X12_goesOn_11 rfl 0 rfl ?_
  replace h := g_bd h
  obtain ⟨v1, hv1, h⟩ := h
  refine GW_getR (X := X_X12_goesOn) (pc := 12) f_X12_39 d_X12_goesOn_12 hv1 (Or.inr ⟨_, ty_12_20⟩) ?_
  refine GW_iconst (X := X_X12_goesOn) (pc := 15) (v := 2) d_X12_goesOn_15 (by decide) ?_
  replace h := g_bd h
  obtain ⟨v2, hv2, h⟩ := h
  refine GW_iald (X := X_X12_goesOn) (pc := 16) d_X12_goesOn_16 hv2 ?_
  refine GW_icmp_ge (X := X_X12_goesOn) (pc := 17) 90 d_X12_goesOn_17 (by decide) (fun c => ?_) (fun c => ?_)
  · replace h := g_ip c h
    refine GW_sub [4] rfl ?_
    exact T_X12_goesOn_b90 r l4 M h
  · replace h := g_ie c h
    refine GW_iload (X := X_X12_goesOn) (pc := 20) d_X12_goesOn_20 5 rfl ?_
    refine GW_iconst (X := X_X12_goesOn) (pc := 22) (v := 3) d_X12_goesOn_22 (by decide) ?_
    refine GW_icmp_ge (X := X_X12_goesOn) (pc := 23) 90 d_X12_goesOn_23 (by decide) (fun c => ?_) (fun c => ?_)
    · replace h := g_ip c h
      refine GW_sub [4] rfl ?_
      exact T_X12_goesOn_b90 r l4 M h
    · replace h := g_ie c h
      refine GW_iload (X := X_X12_goesOn) (pc := 26) d_X12_goesOn_26 6 rfl ?_
      refine GW_iload_n (X := X_X12_goesOn) (pc := 28) d_X12_goesOn_28 rfl 2 rfl ?_
      refine GW_icmp_eq (X := X_X12_goesOn) (pc := 29) 84 d_X12_goesOn_29 (by decide) (fun c => ?_) (fun c => ?_)
      · replace h := g_ip c h
        exact T_X12_goesOn_b84 k9 r hk9 l0 l1 l2 l3 l4 l5 l6 M h
      · replace h := g_ie c h
        refine GW_aload_n (X := X_X12_goesOn) (pc := 32) d_X12_goesOn_32 rfl 0 rfl ?_
        replace h := g_bd h
        obtain ⟨v3, hv3, h⟩ := h
        refine GW_getR (X := X_X12_goesOn) (pc := 33) f_X12_39 d_X12_goesOn_33 hv3 (Or.inr ⟨_, ty_12_20⟩) ?_
        refine GW_bipush (X := X_X12_goesOn) (pc := 36) (v := 52) d_X12_goesOn_36 (by decide) ?_
        refine GW_iload_n (X := X_X12_goesOn) (pc := 38) d_X12_goesOn_38 rfl 1 rfl ?_
        refine GW_iadd (X := X_X12_goesOn) (pc := 39) d_X12_goesOn_39 ?_
        replace h := g_bd h
        obtain ⟨v4, hv4, h⟩ := h
        refine GW_iald (X := X_X12_goesOn) (pc := 40) d_X12_goesOn_40 hv4 ?_
        refine GW_iload (X := X_X12_goesOn) (pc := 41) d_X12_goesOn_41 6 rfl ?_
        replace h := g_bd h
        obtain ⟨v5, hv5, h⟩ := h
        refine GW_callS (X := X_X12_goesOn) (pc := 43) (bc0 := 0) (bs0 := 0) (r := some (vi v5)) (M2 := M) (T_X12_isOf v4 l6 M v5 hv5) (Nat.le_of_ble_eq_true rfl) (Nat.le_of_ble_eq_true rfl) yc_X12_isOf ⟨m_1314, m_1315, m_127, m_1316⟩ d_X12_goesOn_43 rfl (st := []) rfl (Nat.le_of_ble_eq_true rfl) (Nat.le_of_ble_eq_true rfl) (Nat.le_of_ble_eq_true rfl) (st2 := [vi v5]) rfl ?_
        refine GW_if_ne (X := X_X12_goesOn) (pc := 46) 52 d_X12_goesOn_46 (by decide) (fun c => ?_) (fun c => ?_)
        · replace h := g_ie c h
          refine GW_iinc (j := 5) (X := X_X12_goesOn) (pc := 52) d_X12_goesOn_52 rfl (congrArg (fun z => _ + z) (by decide : Int32.ofInt 1 = (1 : Int32))) (Nat.le_of_ble_eq_true rfl) (lv2 := [(5, vi (l5 + 1)), (0, vr l0), (1, vi l1), (2, vi l2), (3, vi l3), (4, vi l4), (6, vi l6)]) rfl ?_
          refine GW_iload (X := X_X12_goesOn) (pc := 55) d_X12_goesOn_55 5 rfl ?_
          refine GW_aload_n (X := X_X12_goesOn) (pc := 57) d_X12_goesOn_57 rfl 1 rfl ?_
          refine GW_iload_n (X := X_X12_goesOn) (pc := 58) d_X12_goesOn_58 rfl 2 rfl ?_
          refine GW_iload (X := X_X12_goesOn) (pc := 59) d_X12_goesOn_59 6 rfl ?_
          refine GW_iload_n (X := X_X12_goesOn) (pc := 61) d_X12_goesOn_61 rfl 4 rfl ?_
          refine GW_aload_n (X := X_X12_goesOn) (pc := 62) d_X12_goesOn_62 rfl 1 rfl ?_
          refine GW_iload_n (X := X_X12_goesOn) (pc := 63) d_X12_goesOn_63 rfl 2 rfl ?_
          refine GW_iload_n (X := X_X12_goesOn) (pc := 64) d_X12_goesOn_64 rfl 4 rfl ?_
          replace h := g_bd h
          obtain ⟨i6, hi6, h⟩ := h
          obtain ⟨rfl, ki6⟩ := g_gO hi6
          replace h := g_bd h
          obtain ⟨v7, hv7, h⟩ := h
          refine GW_callV (X := X_X12_goesOn) (pc := 65) (bc0 := 0) (bs0 := 0) (r := some (vi v7)) (M2 := M) (c0 := 12) (T_X12_strengthOf (some i6) l1 l3 M v7 hv7) (Nat.le_of_ble_eq_true rfl) (Nat.le_of_ble_eq_true rfl) rfl g_cok12 ki6 yc_X12_strengthOf ⟨m_1493, m_1495, m_91, m_127, m_1496⟩ d_X12_goesOn_65 rfl (st := [vi l3, vi l6, vi l1, vr (some i6), vi l4]) rfl (Nat.le_of_ble_eq_true rfl) (Nat.le_of_ble_eq_true rfl) (Nat.le_of_ble_eq_true rfl) (st2 := [vi v7, vi l3, vi l6, vi l1, vr (some i6), vi l4]) rfl ?_
          refine GW_iconst (X := X_X12_goesOn) (pc := 68) (v := 2) d_X12_goesOn_68 (by decide) ?_
          refine GW_idiv (X := X_X12_goesOn) (pc := 69) d_X12_goesOn_69 (by decide) ?_
          replace h := g_bd h
          obtain ⟨⟨v8, M9⟩, hv8, h⟩ := h
          dsimp only at h
          refine GW_callV (X := X_X12_goesOn) (pc := 70) (bc0 := 0) (bs0 := 0) (r := some (vi v8)) (M2 := M9) (c0 := 12) (T_X12_takes (some i6) l1 l6 l3 (v7 / (2 : Int32)) M (v8, M9) hv8) (Nat.le_of_ble_eq_true rfl) (Nat.le_of_ble_eq_true rfl) rfl g_cok12 ki6 yc_X12_takes ⟨m_1525, m_1527, m_97, m_127, m_1528⟩ d_X12_goesOn_70 rfl (st := [vi l4]) rfl (Nat.le_of_ble_eq_true rfl) (Nat.le_of_ble_eq_true rfl) (Nat.le_of_ble_eq_true rfl) (st2 := [vi v8, vi l4]) rfl ?_
          refine GW_if_eq (X := X_X12_goesOn) (pc := 73) 80 d_X12_goesOn_73 (by decide) (fun c => ?_) (fun c => ?_)
          · replace h := g_ip c h
            refine GW_iconst (X := X_X12_goesOn) (pc := 80) (v := 0) d_X12_goesOn_80 (by decide) ?_
            refine GW_sub [1, 2, 3, 4, 0, 6] rfl ?_
            exact T_X12_goesOn_b81 k9 r hk9 (some i6) l1 l2 l3 (l5 + 1) l6 l4 (0 : Int32) M9 h
          · replace h := g_ie c h
            refine GW_iconst (X := X_X12_goesOn) (pc := 76) (v := 1) d_X12_goesOn_76 (by decide) ?_
            refine GW_goto (X := X_X12_goesOn) (pc := 77) 81 d_X12_goesOn_77 (by decide) ?_
            refine GW_sub [1, 2, 3, 4, 0, 6] rfl ?_
            exact T_X12_goesOn_b81 k9 r hk9 (some i6) l1 l2 l3 (l5 + 1) l6 l4 (1 : Int32) M9 h
        · replace h := g_ip c h
          refine GW_goto (X := X_X12_goesOn) (pc := 49) 84 d_X12_goesOn_49 (by decide) ?_
          exact T_X12_goesOn_b84 k9 r hk9 l0 l1 l2 l3 l4 l5 l6 M h
def F_X12_goesOn_L9 : Nat → Option Nat → Int32 → Int32 → Int32 → Int32 → Int32 → Int32 → gM → Option (Int32 × gM)
  | 0 => fun _ _ _ _ _ _ _ _ => none
  | n + 1 => F_X12_goesOn_b9 (F_X12_goesOn_L9 n)
theorem T_X12_goesOn_L9 (r : (Int32 × gM)) : ∀ (n : Nat) (l0 : Option Nat) (l1 : Int32) (l2 : Int32) (l3 : Int32) (l4 : Int32) (l5 : Int32) (l6 : Int32) (M : gM), F_X12_goesOn_L9 n l0 l1 l2 l3 l4 l5 l6 M = some r → GW 3 0 0 X_X12_goesOn 9 [(0, vr l0), (1, vi l1), (2, vi l2), (3, vi l3), (4, vi l4), (5, vi l5), (6, vi l6)] [] M (some (vi r.1), r.2) := by
  intro n
  induction n with
  | zero => intro l0 l1 l2 l3 l4 l5 l6 M h; exact g_no h
  | succ n ih => intro l0 l1 l2 l3 l4 l5 l6 M h; exact T_X12_goesOn_b9 (F_X12_goesOn_L9 n) r ih l0 l1 l2 l3 l4 l5 l6 M h
def F_X12_goesOn_b0 (l0 : Option Nat) (l1 : Int32) (l2 : Int32) (l3 : Int32) (M : gM) : Option (Int32 × gM) :=
  F_X12_goesOn_L9 g_fuel l0 l1 l2 l3 (0 : Int32) (0 : Int32) (0 : Int32) M
theorem T_X12_goesOn_b0 (r : (Int32 × gM)) (l0 : Option Nat) (l1 : Int32) (l2 : Int32) (l3 : Int32) (M : gM) (h : F_X12_goesOn_b0 l0 l1 l2 l3 M = some r) : GW 3 0 0 X_X12_goesOn 0 [(0, vr l0), (1, vi l1), (2, vi l2), (3, vi l3)] [] M (some (vi r.1), r.2) := by
  delta F_X12_goesOn_b0 at h
  refine GW_iconst (X := X_X12_goesOn) (pc := 0) (v := 0) d_X12_goesOn_0 (by decide) ?_
  refine GW_istore (X := X_X12_goesOn) (pc := 1) d_X12_goesOn_1 (Nat.le_of_ble_eq_true rfl) (lv2 := [(4, vi (0 : Int32)), (0, vr l0), (1, vi l1), (2, vi l2), (3, vi l3)]) rfl ?_
  refine GW_iconst (X := X_X12_goesOn) (pc := 3) (v := 0) d_X12_goesOn_3 (by decide) ?_
  refine GW_istore (X := X_X12_goesOn) (pc := 4) d_X12_goesOn_4 (Nat.le_of_ble_eq_true rfl) (lv2 := [(5, vi (0 : Int32)), (4, vi (0 : Int32)), (0, vr l0), (1, vi l1), (2, vi l2), (3, vi l3)]) rfl ?_
  refine GW_iconst (X := X_X12_goesOn) (pc := 6) (v := 0) d_X12_goesOn_6 (by decide) ?_
  refine GW_istore (X := X_X12_goesOn) (pc := 7) d_X12_goesOn_7 (Nat.le_of_ble_eq_true rfl) (lv2 := [(6, vi (0 : Int32)), (5, vi (0 : Int32)), (4, vi (0 : Int32)), (0, vr l0), (1, vi l1), (2, vi l2), (3, vi l3)]) rfl ?_
  refine GW_sub [3, 4, 5, 6, 2, 1, 0] rfl ?_
  exact T_X12_goesOn_L9 r g_fuel l0 l1 l2 l3 (0 : Int32) (0 : Int32) (0 : Int32) M h
def F_X12_goesOn (l0 : Option Nat) (l1 : Int32) (l2 : Int32) (l3 : Int32) (M : gM) : Option (Int32 × gM) := F_X12_goesOn_b0 l0 l1 l2 l3 M
theorem T_X12_goesOn (l0 : Option Nat) (l1 : Int32) (l2 : Int32) (l3 : Int32) (M : gM) (r : (Int32 × gM)) (h : F_X12_goesOn l0 l1 l2 l3 M = some r) : g_Met 3 0 0 yX12_goesOn X_X12_goesOn [vr l0, vi l1, vi l2, vi l3] M (some (vi r.1), r.2) :=
  g_Met_of pn_RX12 rfl (Nat.le_of_ble_eq_true rfl) (fun h => by cases h) (GW_sub [0, 1, 2, 3] rfl (T_X12_goesOn_b0 r l0 l1 l2 l3 M h))
/-! ForgetHeirsModel.tell(IIIZ)I -/
theorem d_X12_tell_0 : decode cX12_tell 0 = .ok (.aload_n 0, 1) := by decide +kernel
theorem d_X12_tell_1 : decode cX12_tell 1 = .ok (.iload_n 1, 1) := by decide +kernel
theorem d_X12_tell_2 : decode cX12_tell 2 = .ok (.invokevirtual 322, 3) := by decide +kernel
theorem d_X12_tell_5 : decode cX12_tell 5 = .ok (.ifCond .eq 44, 3) := by decide +kernel
theorem d_X12_tell_8 : decode cX12_tell 8 = .ok (.aload_n 0, 1) := by decide +kernel
theorem d_X12_tell_9 : decode cX12_tell 9 = .ok (.iload_n 2, 1) := by decide +kernel
theorem d_X12_tell_10 : decode cX12_tell 10 = .ok (.invokevirtual 322, 3) := by decide +kernel
theorem d_X12_tell_13 : decode cX12_tell 13 = .ok (.ifCond .eq 36, 3) := by decide +kernel
theorem d_X12_tell_16 : decode cX12_tell 16 = .ok (.aload_n 0, 1) := by decide +kernel
theorem d_X12_tell_17 : decode cX12_tell 17 = .ok (.iload_n 3, 1) := by decide +kernel
theorem d_X12_tell_18 : decode cX12_tell 18 = .ok (.invokevirtual 327, 3) := by decide +kernel
theorem d_X12_tell_21 : decode cX12_tell 21 = .ok (.ifCond .eq 28, 3) := by decide +kernel
theorem d_X12_tell_24 : decode cX12_tell 24 = .ok (.aload_n 0, 1) := by decide +kernel
theorem d_X12_tell_25 : decode cX12_tell 25 = .ok (.getfield 39, 3) := by decide +kernel
theorem d_X12_tell_28 : decode cX12_tell 28 = .ok (.bipush 52, 2) := by decide +kernel
theorem d_X12_tell_30 : decode cX12_tell 30 = .ok (.iload_n 1, 1) := by decide +kernel
theorem d_X12_tell_31 : decode cX12_tell 31 = .ok (.iadd, 1) := by decide +kernel
theorem d_X12_tell_32 : decode cX12_tell 32 = .ok (.iaload, 1) := by decide +kernel
theorem d_X12_tell_33 : decode cX12_tell 33 = .ok (.iload_n 2, 1) := by decide +kernel
theorem d_X12_tell_34 : decode cX12_tell 34 = .ok (.invokestatic 226, 3) := by decide +kernel
theorem d_X12_tell_37 : decode cX12_tell 37 = .ok (.ifCond .eq 12, 3) := by decide +kernel
theorem d_X12_tell_40 : decode cX12_tell 40 = .ok (.aload_n 0, 1) := by decide +kernel
theorem d_X12_tell_41 : decode cX12_tell 41 = .ok (.iload_n 1, 1) := by decide +kernel
theorem d_X12_tell_42 : decode cX12_tell 42 = .ok (.iload_n 3, 1) := by decide +kernel
theorem d_X12_tell_43 : decode cX12_tell 43 = .ok (.invokevirtual 304, 3) := by decide +kernel
theorem d_X12_tell_46 : decode cX12_tell 46 = .ok (.ifCond .ne 5, 3) := by decide +kernel
theorem d_X12_tell_49 : decode cX12_tell 49 = .ok (.iconst (-1), 1) := by decide +kernel
theorem d_X12_tell_50 : decode cX12_tell 50 = .ok (.ireturn, 1) := by decide +kernel
theorem d_X12_tell_51 : decode cX12_tell 51 = .ok (.aload_n 0, 1) := by decide +kernel
theorem d_X12_tell_52 : decode cX12_tell 52 = .ok (.invokevirtual 365, 3) := by decide +kernel
theorem d_X12_tell_55 : decode cX12_tell 55 = .ok (.aload_n 0, 1) := by decide +kernel
theorem d_X12_tell_56 : decode cX12_tell 56 = .ok (.iload_n 1, 1) := by decide +kernel
theorem d_X12_tell_57 : decode cX12_tell 57 = .ok (.iload_n 2, 1) := by decide +kernel
theorem d_X12_tell_58 : decode cX12_tell 58 = .ok (.iload_n 3, 1) := by decide +kernel
theorem d_X12_tell_59 : decode cX12_tell 59 = .ok (.iload 4, 2) := by decide +kernel
theorem d_X12_tell_61 : decode cX12_tell 61 = .ok (.ifCond .eq 12, 3) := by decide +kernel
theorem d_X12_tell_64 : decode cX12_tell 64 = .ok (.aload_n 0, 1) := by decide +kernel
theorem d_X12_tell_65 : decode cX12_tell 65 = .ok (.iload_n 1, 1) := by decide +kernel
theorem d_X12_tell_66 : decode cX12_tell 66 = .ok (.iload_n 3, 1) := by decide +kernel
theorem d_X12_tell_67 : decode cX12_tell 67 = .ok (.invokevirtual 335, 3) := by decide +kernel
theorem d_X12_tell_70 : decode cX12_tell 70 = .ok (.goto 11, 3) := by decide +kernel
theorem d_X12_tell_73 : decode cX12_tell 73 = .ok (.aload_n 0, 1) := by decide +kernel
theorem d_X12_tell_74 : decode cX12_tell 74 = .ok (.iload_n 1, 1) := by decide +kernel
theorem d_X12_tell_75 : decode cX12_tell 75 = .ok (.iload_n 3, 1) := by decide +kernel
theorem d_X12_tell_76 : decode cX12_tell 76 = .ok (.invokevirtual 335, 3) := by decide +kernel
theorem d_X12_tell_79 : decode cX12_tell 79 = .ok (.iconst 2, 1) := by decide +kernel
theorem d_X12_tell_80 : decode cX12_tell 80 = .ok (.idiv, 1) := by decide +kernel
theorem d_X12_tell_81 : decode cX12_tell 81 = .ok (.invokevirtual 371, 3) := by decide +kernel
theorem d_X12_tell_84 : decode cX12_tell 84 = .ok (.ifCond .ne 5, 3) := by decide +kernel
theorem d_X12_tell_87 : decode cX12_tell 87 = .ok (.iconst 0, 1) := by decide +kernel
theorem d_X12_tell_88 : decode cX12_tell 88 = .ok (.ireturn, 1) := by decide +kernel
theorem d_X12_tell_89 : decode cX12_tell 89 = .ok (.iconst 1, 1) := by decide +kernel
theorem d_X12_tell_90 : decode cX12_tell 90 = .ok (.iload 4, 2) := by decide +kernel
theorem d_X12_tell_92 : decode cX12_tell 92 = .ok (.ifCond .eq 28, 3) := by decide +kernel
theorem d_X12_tell_95 : decode cX12_tell 95 = .ok (.aload_n 0, 1) := by decide +kernel
theorem d_X12_tell_96 : decode cX12_tell 96 = .ok (.iload_n 1, 1) := by decide +kernel
theorem d_X12_tell_97 : decode cX12_tell 97 = .ok (.iload_n 3, 1) := by decide +kernel
theorem d_X12_tell_98 : decode cX12_tell 98 = .ok (.invokevirtual 297, 3) := by decide +kernel
theorem d_X12_tell_101 : decode cX12_tell 101 = .ok (.aload_n 0, 1) := by decide +kernel
theorem d_X12_tell_102 : decode cX12_tell 102 = .ok (.iload_n 3, 1) := by decide +kernel
theorem d_X12_tell_103 : decode cX12_tell 103 = .ok (.iconst 0, 1) := by decide +kernel
theorem d_X12_tell_104 : decode cX12_tell 104 = .ok (.invokevirtual 301, 3) := by decide +kernel
theorem d_X12_tell_107 : decode cX12_tell 107 = .ok (.if_icmp .eq 13, 3) := by decide +kernel
theorem d_X12_tell_110 : decode cX12_tell 110 = .ok (.aload_n 0, 1) := by decide +kernel
theorem d_X12_tell_111 : decode cX12_tell 111 = .ok (.iload_n 2, 1) := by decide +kernel
theorem d_X12_tell_112 : decode cX12_tell 112 = .ok (.iload_n 1, 1) := by decide +kernel
theorem d_X12_tell_113 : decode cX12_tell 113 = .ok (.iload_n 3, 1) := by decide +kernel
theorem d_X12_tell_114 : decode cX12_tell 114 = .ok (.invokevirtual 375, 3) := by decide +kernel
theorem d_X12_tell_117 : decode cX12_tell 117 = .ok (.goto 4, 3) := by decide +kernel
theorem d_X12_tell_120 : decode cX12_tell 120 = .ok (.iconst 0, 1) := by decide +kernel
theorem d_X12_tell_121 : decode cX12_tell 121 = .ok (.iadd, 1) := by decide +kernel
theorem d_X12_tell_122 : decode cX12_tell 122 = .ok (.ireturn, 1) := by decide +kernel
abbrev X_X12_tell : gX := (RX12, cX12_tell, 5, (some .int), false)
def F_X12_tell_b49 (M : gM) : Option (Int32 × gM) :=
  some ((-1 : Int32), M)
theorem T_X12_tell_b49 (r : (Int32 × gM)) (M : gM) (h : F_X12_tell_b49 M = some r) : GW 4 0 0 X_X12_tell 49 [] [] M (some (vi r.1), r.2) := by
  delta F_X12_tell_b49 at h
  refine GW_iconst (X := X_X12_tell) (pc := 49) (v := -1) d_X12_tell_49 (by decide) ?_
  replace h := Option.some.inj h
  subst h
  exact GW_ret (X := X_X12_tell) (pc := 50) d_X12_tell_50 rfl trivial
def F_X12_tell_b121 (s0 : Int32) (s1 : Int32) (M : gM) : Option (Int32 × gM) :=
  some ((s0 + s1), M)
theorem T_X12_tell_b121 (r : (Int32 × gM)) (s0 : Int32) (s1 : Int32) (M : gM) (h : F_X12_tell_b121 s0 s1 M = some r) : GW 4 0 0 X_X12_tell 121 [] [vi s1, vi s0] M (some (vi r.1), r.2) := by
  delta F_X12_tell_b121 at h
  refine GW_iadd (X := X_X12_tell) (pc := 121) d_X12_tell_121 ?_
  replace h := Option.some.inj h
  subst h
  exact GW_ret (X := X_X12_tell) (pc := 122) d_X12_tell_122 rfl trivial
def F_X12_tell_b120 (s0 : Int32) (M : gM) : Option (Int32 × gM) :=
  F_X12_tell_b121 s0 (0 : Int32) M
theorem T_X12_tell_b120 (r : (Int32 × gM)) (s0 : Int32) (M : gM) (h : F_X12_tell_b120 s0 M = some r) : GW 4 0 0 X_X12_tell 120 [] [vi s0] M (some (vi r.1), r.2) := by
  delta F_X12_tell_b120 at h
  refine GW_iconst (X := X_X12_tell) (pc := 120) (v := 0) d_X12_tell_120 (by decide) ?_
  exact T_X12_tell_b121 r s0 (0 : Int32) M h
def F_X12_tell_b81 (l0 : Option Nat) (l1 : Int32) (l2 : Int32) (l3 : Int32) (l4 : Int32) (s0 : Option Nat) (s1 : Int32) (s2 : Int32) (s3 : Int32) (s4 : Int32) (M : gM) : Option (Int32 × gM) :=
  (gO 12 M s0).bind fun i1 => (F_X12_takes (some i1) s1 s2 s3 s4 M).bind fun (v2, M3) => if v2 = 0 then (some ((0 : Int32), M3)) else (if l4 = 0 then (F_X12_tell_b120 (1 : Int32) M3) else ((gO 12 M3 l0).bind fun i4 => (F_X12_valueOf (some i4) l1 l3 M3).bind fun v5 => (F_X12_thingOf (some i4) l3 (0 : Int32) M3).bind fun v6 => if v5 = v6 then (F_X12_tell_b120 (1 : Int32) M3) else ((F_X12_goesOn (some i4) l2 l1 l3 M3).bind fun (v7, M8) => F_X12_tell_b121 (1 : Int32) v7 M8)))
set_option maxHeartbeats 1000000 in
theorem T_X12_tell_b81 (r : (Int32 × gM)) (l0 : Option Nat) (l1 : Int32) (l2 : Int32) (l3 : Int32) (l4 : Int32) (s0 : Option Nat) (s1 : Int32) (s2 : Int32) (s3 : Int32) (s4 : Int32) (M : gM) (h : F_X12_tell_b81 l0 l1 l2 l3 l4 s0 s1 s2 s3 s4 M = some r) : GW 4 0 0 X_X12_tell 81 [(0, vr l0), (1, vi l1), (2, vi l2), (3, vi l3), (4, vi l4)] [vi s4, vi s3, vi s2, vi s1, vr s0] M (some (vi r.1), r.2) := by
  delta F_X12_tell_b81 at h
  replace h := g_bd h
  obtain ⟨i1, hi1, h⟩ := h
  obtain ⟨rfl, ki1⟩ := g_gO hi1
  replace h := g_bd h
  obtain ⟨⟨v2, M3⟩, hv2, h⟩ := h
  dsimp only at h
  refine GW_callV (X := X_X12_tell) (pc := 81) (bc0 := 0) (bs0 := 0) (r := some (vi v2)) (M2 := M3) (c0 := 12) (T_X12_takes (some i1) s1 s2 s3 s4 M (v2, M3) hv2) (Nat.le_of_ble_eq_true rfl) (Nat.le_of_ble_eq_true rfl) rfl g_cok12 ki1 yc_X12_takes ⟨m_1525, m_1527, m_97, m_127, m_1528⟩ d_X12_tell_81 rfl (st := []) rfl (Nat.le_of_ble_eq_true rfl) (Nat.le_of_ble_eq_true rfl) (Nat.le_of_ble_eq_true rfl) (st2 := [vi v2]) rfl ?_
  refine GW_if_ne (X := X_X12_tell) (pc := 84) 89 d_X12_tell_84 (by decide) (fun c => ?_) (fun c => ?_)
  · replace h := g_ie c h
    refine GW_iconst (X := X_X12_tell) (pc := 89) (v := 1) d_X12_tell_89 (by decide) ?_
    refine GW_iload (X := X_X12_tell) (pc := 90) d_X12_tell_90 4 rfl ?_
    refine GW_if_eq (X := X_X12_tell) (pc := 92) 120 d_X12_tell_92 (by decide) (fun c => ?_) (fun c => ?_)
    · replace h := g_ip c h
      refine GW_sub [] rfl ?_
      exact T_X12_tell_b120 r (1 : Int32) M3 h
    · replace h := g_ie c h
      refine GW_aload_n (X := X_X12_tell) (pc := 95) d_X12_tell_95 rfl 0 rfl ?_
      refine GW_iload_n (X := X_X12_tell) (pc := 96) d_X12_tell_96 rfl 1 rfl ?_
      refine GW_iload_n (X := X_X12_tell) (pc := 97) d_X12_tell_97 rfl 3 rfl ?_
      replace h := g_bd h
      obtain ⟨i4, hi4, h⟩ := h
      obtain ⟨rfl, ki4⟩ := g_gO hi4
      replace h := g_bd h
      obtain ⟨v5, hv5, h⟩ := h
      refine GW_callV (X := X_X12_tell) (pc := 98) (bc0 := 0) (bs0 := 0) (r := some (vi v5)) (M2 := M3) (c0 := 12) (T_X12_valueOf (some i4) l1 l3 M3 v5 hv5) (Nat.le_of_ble_eq_true rfl) (Nat.le_of_ble_eq_true rfl) rfl g_cok12 ki4 yc_X12_valueOf ⟨m_1436, m_1438, m_81, m_127, m_1439⟩ d_X12_tell_98 rfl (st := [vi (1 : Int32)]) rfl (Nat.le_of_ble_eq_true rfl) (Nat.le_of_ble_eq_true rfl) (Nat.le_of_ble_eq_true rfl) (st2 := [vi v5, vi (1 : Int32)]) rfl ?_
      refine GW_aload_n (X := X_X12_tell) (pc := 101) d_X12_tell_101 rfl 0 rfl ?_
      refine GW_iload_n (X := X_X12_tell) (pc := 102) d_X12_tell_102 rfl 3 rfl ?_
      refine GW_iconst (X := X_X12_tell) (pc := 103) (v := 0) d_X12_tell_103 (by decide) ?_
      replace h := g_bd h
      obtain ⟨v6, hv6, h⟩ := h
      refine GW_callV (X := X_X12_tell) (pc := 104) (bc0 := 0) (bs0 := 0) (r := some (vi v6)) (M2 := M3) (c0 := 12) (T_X12_thingOf (some i4) l3 (0 : Int32) M3 v6 hv6) (Nat.le_of_ble_eq_true rfl) (Nat.le_of_ble_eq_true rfl) rfl g_cok12 ki4 yc_X12_thingOf ⟨m_1428, m_1430, m_79, m_127, m_1431⟩ d_X12_tell_104 rfl (st := [vi v5, vi (1 : Int32)]) rfl (Nat.le_of_ble_eq_true rfl) (Nat.le_of_ble_eq_true rfl) (Nat.le_of_ble_eq_true rfl) (st2 := [vi v6, vi v5, vi (1 : Int32)]) rfl ?_
      refine GW_icmp_eq (X := X_X12_tell) (pc := 107) 120 d_X12_tell_107 (by decide) (fun c => ?_) (fun c => ?_)
      · replace h := g_ip c h
        refine GW_sub [] rfl ?_
        exact T_X12_tell_b120 r (1 : Int32) M3 h
      · replace h := g_ie c h
        refine GW_aload_n (X := X_X12_tell) (pc := 110) d_X12_tell_110 rfl 0 rfl ?_
        refine GW_iload_n (X := X_X12_tell) (pc := 111) d_X12_tell_111 rfl 2 rfl ?_
        refine GW_iload_n (X := X_X12_tell) (pc := 112) d_X12_tell_112 rfl 1 rfl ?_
        refine GW_iload_n (X := X_X12_tell) (pc := 113) d_X12_tell_113 rfl 3 rfl ?_
        replace h := g_bd h
        obtain ⟨⟨v7, M8⟩, hv7, h⟩ := h
        dsimp only at h
        refine GW_callV (X := X_X12_tell) (pc := 114) (bc0 := 0) (bs0 := 0) (r := some (vi v7)) (M2 := M8) (c0 := 12) (T_X12_goesOn (some i4) l2 l1 l3 M3 (v7, M8) hv7) (Nat.le_of_ble_eq_true rfl) (Nat.le_of_ble_eq_true rfl) rfl g_cok12 ki4 yc_X12_goesOn ⟨m_1529, m_1531, m_98, m_127, m_1532⟩ d_X12_tell_114 rfl (st := [vi (1 : Int32)]) rfl (Nat.le_of_ble_eq_true rfl) (Nat.le_of_ble_eq_true rfl) (Nat.le_of_ble_eq_true rfl) (st2 := [vi v7, vi (1 : Int32)]) rfl ?_
        refine GW_goto (X := X_X12_tell) (pc := 117) 121 d_X12_tell_117 (by decide) ?_
        refine GW_sub [] rfl ?_
        exact T_X12_tell_b121 r (1 : Int32) v7 M8 h
  · replace h := g_ip c h
    refine GW_iconst (X := X_X12_tell) (pc := 87) (v := 0) d_X12_tell_87 (by decide) ?_
    replace h := Option.some.inj h
    subst h
    exact GW_ret (X := X_X12_tell) (pc := 88) d_X12_tell_88 rfl trivial
def F_X12_tell_b0 (l0 : Option Nat) (l1 : Int32) (l2 : Int32) (l3 : Int32) (l4 : Int32) (M : gM) : Option (Int32 × gM) :=
  (gO 12 M l0).bind fun i1 => (F_X12_isHeir (some i1) l1 M).bind fun v2 => if v2 = 0 then (F_X12_tell_b49 M) else ((F_X12_isHeir (some i1) l2 M).bind fun v3 => if v3 = 0 then (F_X12_tell_b49 M) else ((F_X12_isThing (some i1) l3 M).bind fun v4 => if v4 = 0 then (F_X12_tell_b49 M) else ((gR 12 M (some i1) 20).bind fun v5 => (aI 20 M v5 ((52 : Int32) + l1)).bind fun v6 => (F_X12_isOf v6 l2 M).bind fun v7 => if v7 = 0 then (F_X12_tell_b49 M) else ((F_X12_knowsOf (some i1) l1 l3 M).bind fun v8 => if v8 = 0 then (F_X12_tell_b49 M) else ((F_X12_keepsAct (some i1) M).bind fun M9 => if l4 = 0 then ((gC 12 M9 i1).bind fun _ => (F_X12_strengthOf (some i1) l1 l3 M9).bind fun v11 => F_X12_tell_b81 (some i1) l1 l2 l3 l4 (some i1) l1 l2 l3 (v11 / (2 : Int32)) M9) else ((gC 12 M9 i1).bind fun _ => (F_X12_strengthOf (some i1) l1 l3 M9).bind fun v13 => F_X12_tell_b81 (some i1) l1 l2 l3 l4 (some i1) l1 l2 l3 v13 M9))))))
set_option maxHeartbeats 1000000 in
theorem T_X12_tell_b0 (r : (Int32 × gM)) (l0 : Option Nat) (l1 : Int32) (l2 : Int32) (l3 : Int32) (l4 : Int32) (M : gM) (h : F_X12_tell_b0 l0 l1 l2 l3 l4 M = some r) : GW 4 0 0 X_X12_tell 0 [(0, vr l0), (1, vi l1), (2, vi l2), (3, vi l3), (4, vi l4)] [] M (some (vi r.1), r.2) := by
  delta F_X12_tell_b0 at h
  refine GW_aload_n (X := X_X12_tell) (pc := 0) d_X12_tell_0 rfl 0 rfl ?_
  refine GW_iload_n (X := X_X12_tell) (pc := 1) d_X12_tell_1 rfl 1 rfl ?_
  replace h := g_bd h
  obtain ⟨i1, hi1, h⟩ := h
  obtain ⟨rfl, ki1⟩ := g_gO hi1
  replace h := g_bd h
  obtain ⟨v2, hv2, h⟩ := h
  refine GW_callV (X := X_X12_tell) (pc := 2) (bc0 := 0) (bs0 := 0) (r := some (vi v2)) (M2 := M) (c0 := 12) (T_X12_isHeir (some i1) l1 M v2 hv2) (Nat.le_of_ble_eq_true rfl) (Nat.le_of_ble_eq_true rfl) rfl g_cok12 ki1 yc_X12_isHeir ⟨m_1415, m_1417, m_76, m_127, m_1418⟩ d_X12_tell_2 rfl (st := []) rfl (Nat.le_of_ble_eq_true rfl) (Nat.le_of_ble_eq_true rfl) (Nat.le_of_ble_eq_true rfl) (st2 := [vi v2]) rfl ?_
  refine GW_if_eq (X := X_X12_tell) (pc := 5) 49 d_X12_tell_5 (by decide) (fun c => ?_) (fun c => ?_)
  · replace h := g_ip c h
    refine GW_sub [] rfl ?_
    exact T_X12_tell_b49 r M h
  · replace h := g_ie c h
    refine GW_aload_n (X := X_X12_tell) (pc := 8) d_X12_tell_8 rfl 0 rfl ?_
    refine GW_iload_n (X := X_X12_tell) (pc := 9) d_X12_tell_9 rfl 2 rfl ?_
    replace h := g_bd h
    obtain ⟨v3, hv3, h⟩ := h
    refine GW_callV (X := X_X12_tell) (pc := 10) (bc0 := 0) (bs0 := 0) (r := some (vi v3)) (M2 := M) (c0 := 12) (T_X12_isHeir (some i1) l2 M v3 hv3) (Nat.le_of_ble_eq_true rfl) (Nat.le_of_ble_eq_true rfl) rfl g_cok12 ki1 yc_X12_isHeir ⟨m_1415, m_1417, m_76, m_127, m_1418⟩ d_X12_tell_10 rfl (st := []) rfl (Nat.le_of_ble_eq_true rfl) (Nat.le_of_ble_eq_true rfl) (Nat.le_of_ble_eq_true rfl) (st2 := [vi v3]) rfl ?_
    refine GW_if_eq (X := X_X12_tell) (pc := 13) 49 d_X12_tell_13 (by decide) (fun c => ?_) (fun c => ?_)
    · replace h := g_ip c h
      refine GW_sub [] rfl ?_
      exact T_X12_tell_b49 r M h
    · replace h := g_ie c h
      refine GW_aload_n (X := X_X12_tell) (pc := 16) d_X12_tell_16 rfl 0 rfl ?_
      refine GW_iload_n (X := X_X12_tell) (pc := 17) d_X12_tell_17 rfl 3 rfl ?_
      replace h := g_bd h
      obtain ⟨v4, hv4, h⟩ := h
      refine GW_callV (X := X_X12_tell) (pc := 18) (bc0 := 0) (bs0 := 0) (r := some (vi v4)) (M2 := M) (c0 := 12) (T_X12_isThing (some i1) l3 M v4 hv4) (Nat.le_of_ble_eq_true rfl) (Nat.le_of_ble_eq_true rfl) rfl g_cok12 ki1 yc_X12_isThing ⟨m_1448, m_1450, m_83, m_127, m_1451⟩ d_X12_tell_18 rfl (st := []) rfl (Nat.le_of_ble_eq_true rfl) (Nat.le_of_ble_eq_true rfl) (Nat.le_of_ble_eq_true rfl) (st2 := [vi v4]) rfl ?_
      refine GW_if_eq (X := X_X12_tell) (pc := 21) 49 d_X12_tell_21 (by decide) (fun c => ?_) (fun c => ?_)
      · replace h := g_ip c h
        refine GW_sub [] rfl ?_
        exact T_X12_tell_b49 r M h
      · replace h := g_ie c h
        refine GW_aload_n (X := X_X12_tell) (pc := 24) d_X12_tell_24 rfl 0 rfl ?_
        replace h := g_bd h
        obtain ⟨v5, hv5, h⟩ := h
        refine GW_getR (X := X_X12_tell) (pc := 25) f_X12_39 d_X12_tell_25 hv5 (Or.inr ⟨_, ty_12_20⟩) ?_
        refine GW_bipush (X := X_X12_tell) (pc := 28) (v := 52) d_X12_tell_28 (by decide) ?_
        refine GW_iload_n (X := X_X12_tell) (pc := 30) d_X12_tell_30 rfl 1 rfl ?_
        refine GW_iadd (X := X_X12_tell) (pc := 31) d_X12_tell_31 ?_
        replace h := g_bd h
        obtain ⟨v6, hv6, h⟩ := h
        refine GW_iald (X := X_X12_tell) (pc := 32) d_X12_tell_32 hv6 ?_
        refine GW_iload_n (X := X_X12_tell) (pc := 33) d_X12_tell_33 rfl 2 rfl ?_
        replace h := g_bd h
        obtain ⟨v7, hv7, h⟩ := h
        refine GW_callS (X := X_X12_tell) (pc := 34) (bc0 := 0) (bs0 := 0) (r := some (vi v7)) (M2 := M) (T_X12_isOf v6 l2 M v7 hv7) (Nat.le_of_ble_eq_true rfl) (Nat.le_of_ble_eq_true rfl) yc_X12_isOf ⟨m_1314, m_1315, m_127, m_1316⟩ d_X12_tell_34 rfl (st := []) rfl (Nat.le_of_ble_eq_true rfl) (Nat.le_of_ble_eq_true rfl) (Nat.le_of_ble_eq_true rfl) (st2 := [vi v7]) rfl ?_
        refine GW_if_eq (X := X_X12_tell) (pc := 37) 49 d_X12_tell_37 (by decide) (fun c => ?_) (fun c => ?_)
        · replace h := g_ip c h
          refine GW_sub [] rfl ?_
          exact T_X12_tell_b49 r M h
        · replace h := g_ie c h
          refine GW_aload_n (X := X_X12_tell) (pc := 40) d_X12_tell_40 rfl 0 rfl ?_
          refine GW_iload_n (X := X_X12_tell) (pc := 41) d_X12_tell_41 rfl 1 rfl ?_
          refine GW_iload_n (X := X_X12_tell) (pc := 42) d_X12_tell_42 rfl 3 rfl ?_
          replace h := g_bd h
          obtain ⟨v8, hv8, h⟩ := h
          refine GW_callV (X := X_X12_tell) (pc := 43) (bc0 := 0) (bs0 := 0) (r := some (vi v8)) (M2 := M) (c0 := 12) (T_X12_knowsOf (some i1) l1 l3 M v8 hv8) (Nat.le_of_ble_eq_true rfl) (Nat.le_of_ble_eq_true rfl) rfl g_cok12 ki1 yc_X12_knowsOf ⟨m_1432, m_1434, m_80, m_127, m_1435⟩ d_X12_tell_43 rfl (st := []) rfl (Nat.le_of_ble_eq_true rfl) (Nat.le_of_ble_eq_true rfl) (Nat.le_of_ble_eq_true rfl) (st2 := [vi v8]) rfl ?_
          refine GW_if_ne (X := X_X12_tell) (pc := 46) 51 d_X12_tell_46 (by decide) (fun c => ?_) (fun c => ?_)
          · replace h := g_ie c h
            refine GW_aload_n (X := X_X12_tell) (pc := 51) d_X12_tell_51 rfl 0 rfl ?_
            replace h := g_bd h
            obtain ⟨M9, hM9, h⟩ := h
            refine GW_callV (X := X_X12_tell) (pc := 52) (bc0 := 0) (bs0 := 0) (r := none) (M2 := M9) (c0 := 12) (T_X12_keepsAct (some i1) M M9 hM9) (Nat.le_of_ble_eq_true rfl) (Nat.le_of_ble_eq_true rfl) rfl g_cok12 ki1 yc_X12_keepsAct ⟨m_1473, m_1475, m_86, m_127, m_1476⟩ d_X12_tell_52 rfl (st := []) rfl (Nat.le_of_ble_eq_true rfl) (Nat.le_of_ble_eq_true rfl) (Nat.le_of_ble_eq_true rfl) (st2 := []) rfl ?_
            refine GW_aload_n (X := X_X12_tell) (pc := 55) d_X12_tell_55 rfl 0 rfl ?_
            refine GW_iload_n (X := X_X12_tell) (pc := 56) d_X12_tell_56 rfl 1 rfl ?_
            refine GW_iload_n (X := X_X12_tell) (pc := 57) d_X12_tell_57 rfl 2 rfl ?_
            refine GW_iload_n (X := X_X12_tell) (pc := 58) d_X12_tell_58 rfl 3 rfl ?_
            refine GW_iload (X := X_X12_tell) (pc := 59) d_X12_tell_59 4 rfl ?_
            refine GW_if_eq (X := X_X12_tell) (pc := 61) 73 d_X12_tell_61 (by decide) (fun c => ?_) (fun c => ?_)
            · replace h := g_ip c h
              refine GW_aload_n (X := X_X12_tell) (pc := 73) d_X12_tell_73 rfl 0 rfl ?_
              refine GW_iload_n (X := X_X12_tell) (pc := 74) d_X12_tell_74 rfl 1 rfl ?_
              refine GW_iload_n (X := X_X12_tell) (pc := 75) d_X12_tell_75 rfl 3 rfl ?_
              replace h := g_bd h
              obtain ⟨_, kk10, h⟩ := h
              replace kk10 := g_gC kk10
              replace h := g_bd h
              obtain ⟨v11, hv11, h⟩ := h
              refine GW_callV (X := X_X12_tell) (pc := 76) (bc0 := 0) (bs0 := 0) (r := some (vi v11)) (M2 := M9) (c0 := 12) (T_X12_strengthOf (some i1) l1 l3 M9 v11 hv11) (Nat.le_of_ble_eq_true rfl) (Nat.le_of_ble_eq_true rfl) rfl g_cok12 kk10 yc_X12_strengthOf ⟨m_1493, m_1495, m_91, m_127, m_1496⟩ d_X12_tell_76 rfl (st := [vi l3, vi l2, vi l1, vr (some i1)]) rfl (Nat.le_of_ble_eq_true rfl) (Nat.le_of_ble_eq_true rfl) (Nat.le_of_ble_eq_true rfl) (st2 := [vi v11, vi l3, vi l2, vi l1, vr (some i1)]) rfl ?_
              refine GW_iconst (X := X_X12_tell) (pc := 79) (v := 2) d_X12_tell_79 (by decide) ?_
              refine GW_idiv (X := X_X12_tell) (pc := 80) d_X12_tell_80 (by decide) ?_
              exact T_X12_tell_b81 r (some i1) l1 l2 l3 l4 (some i1) l1 l2 l3 (v11 / (2 : Int32)) M9 h
            · replace h := g_ie c h
              refine GW_aload_n (X := X_X12_tell) (pc := 64) d_X12_tell_64 rfl 0 rfl ?_
              refine GW_iload_n (X := X_X12_tell) (pc := 65) d_X12_tell_65 rfl 1 rfl ?_
              refine GW_iload_n (X := X_X12_tell) (pc := 66) d_X12_tell_66 rfl 3 rfl ?_
              replace h := g_bd h
              obtain ⟨_, kk12, h⟩ := h
              replace kk12 := g_gC kk12
              replace h := g_bd h
              obtain ⟨v13, hv13, h⟩ := h
              refine GW_callV (X := X_X12_tell) (pc := 67) (bc0 := 0) (bs0 := 0) (r := some (vi v13)) (M2 := M9) (c0 := 12) (T_X12_strengthOf (some i1) l1 l3 M9 v13 hv13) (Nat.le_of_ble_eq_true rfl) (Nat.le_of_ble_eq_true rfl) rfl g_cok12 kk12 yc_X12_strengthOf ⟨m_1493, m_1495, m_91, m_127, m_1496⟩ d_X12_tell_67 rfl (st := [vi l3, vi l2, vi l1, vr (some i1)]) rfl (Nat.le_of_ble_eq_true rfl) (Nat.le_of_ble_eq_true rfl) (Nat.le_of_ble_eq_true rfl) (st2 := [vi v13, vi l3, vi l2, vi l1, vr (some i1)]) rfl ?_
              refine GW_goto (X := X_X12_tell) (pc := 70) 81 d_X12_tell_70 (by decide) ?_
              exact T_X12_tell_b81 r (some i1) l1 l2 l3 l4 (some i1) l1 l2 l3 v13 M9 h
          · replace h := g_ip c h
            refine GW_sub [] rfl ?_
            exact T_X12_tell_b49 r M h
def F_X12_tell (l0 : Option Nat) (l1 : Int32) (l2 : Int32) (l3 : Int32) (l4 : Int32) (M : gM) : Option (Int32 × gM) := F_X12_tell_b0 l0 l1 l2 l3 l4 M
theorem T_X12_tell (l0 : Option Nat) (l1 : Int32) (l2 : Int32) (l3 : Int32) (l4 : Int32) (M : gM) (r : (Int32 × gM)) (h : F_X12_tell l0 l1 l2 l3 l4 M = some r) : g_Met 4 0 0 yX12_tell X_X12_tell [vr l0, vi l1, vi l2, vi l3, vi l4] M (some (vi r.1), r.2) :=
  g_Met_of pn_RX12 rfl (Nat.le_of_ble_eq_true rfl) (fun h => by cases h) (GW_sub [0, 1, 2, 3, 4] rfl (T_X12_tell_b0 r l0 l1 l2 l3 l4 M h))
/-! ForgetHeirs.prompted(I)I -/
theorem d_X11_prompted_0 : decode cX11_prompted 0 = .ok (.bipush 99, 2) := by decide +kernel
theorem d_X11_prompted_2 : decode cX11_prompted 2 = .ok (.iload_n 0, 1) := by decide +kernel
theorem d_X11_prompted_3 : decode cX11_prompted 3 = .ok (.bipush 10, 2) := by decide +kernel
theorem d_X11_prompted_5 : decode cX11_prompted 5 = .ok (.iadd, 1) := by decide +kernel
theorem d_X11_prompted_6 : decode cX11_prompted 6 = .ok (.invokestatic 258, 3) := by decide +kernel
theorem d_X11_prompted_9 : decode cX11_prompted 9 = .ok (.ireturn, 1) := by decide +kernel
abbrev X_X11_prompted : gX := (RX11, cX11_prompted, 1, (some .int), false)
def F_X11_prompted_b0 (M : gM) (l0 : Int32) : Option Int32 :=
  some (if (l0 + (10 : Int32)) < (99 : Int32) then (l0 + (10 : Int32)) else (99 : Int32))
theorem T_X11_prompted_b0 (M : gM) (r : Int32) (l0 : Int32) (h : F_X11_prompted_b0 M l0 = some r) : GW 1 0 0 X_X11_prompted 0 [(0, vi l0)] [] M (some (vi r), M) := by
  delta F_X11_prompted_b0 at h
  refine GW_bipush (X := X_X11_prompted) (pc := 0) (v := 99) d_X11_prompted_0 (by decide) ?_
  refine GW_iload_n (X := X_X11_prompted) (pc := 2) d_X11_prompted_2 rfl 0 rfl ?_
  refine GW_bipush (X := X_X11_prompted) (pc := 3) (v := 10) d_X11_prompted_3 (by decide) ?_
  refine GW_iadd (X := X_X11_prompted) (pc := 5) d_X11_prompted_5 ?_
  refine GW_mmin (X := X_X11_prompted) (pc := 6) m_926 d_X11_prompted_6 (Nat.le_of_ble_eq_true rfl) (Nat.le_of_ble_eq_true rfl) ?_
  replace h := Option.some.inj h
  subst h
  exact GW_ret (X := X_X11_prompted) (pc := 9) d_X11_prompted_9 rfl trivial
def F_X11_prompted (l0 : Int32) (M : gM) : Option Int32 := F_X11_prompted_b0 M l0
theorem T_X11_prompted (l0 : Int32) (M : gM) (r : Int32) (h : F_X11_prompted l0 M = some r) : g_Met 1 0 0 yX11_prompted X_X11_prompted [vi l0] M (some (vi r), M) :=
  g_Met_of pn_RX11 rfl (Nat.le_of_ble_eq_true rfl) (fun h => by cases h) (GW_sub [0] rfl (T_X11_prompted_b0 M r l0 h))
/-! ForgetHeirs.prompt(II)I -/
theorem d_X11_prompt_0 : decode cX11_prompt 0 = .ok (.aload_n 0, 1) := by decide +kernel
theorem d_X11_prompt_1 : decode cX11_prompt 1 = .ok (.iload_n 1, 1) := by decide +kernel
theorem d_X11_prompt_2 : decode cX11_prompt 2 = .ok (.iload_n 2, 1) := by decide +kernel
theorem d_X11_prompt_3 : decode cX11_prompt 3 = .ok (.invokevirtual 218, 3) := by decide +kernel
theorem d_X11_prompt_6 : decode cX11_prompt 6 = .ok (.ifCond .ne 5, 3) := by decide +kernel
theorem d_X11_prompt_9 : decode cX11_prompt 9 = .ok (.iconst (-1), 1) := by decide +kernel
theorem d_X11_prompt_10 : decode cX11_prompt 10 = .ok (.ireturn, 1) := by decide +kernel
theorem d_X11_prompt_11 : decode cX11_prompt 11 = .ok (.aload_n 0, 1) := by decide +kernel
theorem d_X11_prompt_12 : decode cX11_prompt 12 = .ok (.getfield 35, 3) := by decide +kernel
theorem d_X11_prompt_15 : decode cX11_prompt 15 = .ok (.aload_n 0, 1) := by decide +kernel
theorem d_X11_prompt_16 : decode cX11_prompt 16 = .ok (.getfield 25, 3) := by decide +kernel
theorem d_X11_prompt_19 : decode cX11_prompt 19 = .ok (.invokevirtual 208, 3) := by decide +kernel
theorem d_X11_prompt_22 : decode cX11_prompt 22 = .ok (.iload_n 1, 1) := by decide +kernel
theorem d_X11_prompt_23 : decode cX11_prompt 23 = .ok (.bipush 7, 2) := by decide +kernel
theorem d_X11_prompt_25 : decode cX11_prompt 25 = .ok (.imul, 1) := by decide +kernel
theorem d_X11_prompt_26 : decode cX11_prompt 26 = .ok (.iload_n 2, 1) := by decide +kernel
theorem d_X11_prompt_27 : decode cX11_prompt 27 = .ok (.iadd, 1) := by decide +kernel
theorem d_X11_prompt_28 : decode cX11_prompt 28 = .ok (.istore_n 3, 1) := by decide +kernel
theorem d_X11_prompt_29 : decode cX11_prompt 29 = .ok (.aload_n 0, 1) := by decide +kernel
theorem d_X11_prompt_30 : decode cX11_prompt 30 = .ok (.getfield 25, 3) := by decide +kernel
theorem d_X11_prompt_33 : decode cX11_prompt 33 = .ok (.getfield 178, 3) := by decide +kernel
theorem d_X11_prompt_36 : decode cX11_prompt 36 = .ok (.iload_n 3, 1) := by decide +kernel
theorem d_X11_prompt_37 : decode cX11_prompt 37 = .ok (.aload_n 0, 1) := by decide +kernel
theorem d_X11_prompt_38 : decode cX11_prompt 38 = .ok (.getfield 25, 3) := by decide +kernel
theorem d_X11_prompt_41 : decode cX11_prompt 41 = .ok (.getfield 178, 3) := by decide +kernel
theorem d_X11_prompt_44 : decode cX11_prompt 44 = .ok (.iload_n 3, 1) := by decide +kernel
theorem d_X11_prompt_45 : decode cX11_prompt 45 = .ok (.iaload, 1) := by decide +kernel
theorem d_X11_prompt_46 : decode cX11_prompt 46 = .ok (.invokestatic 230, 3) := by decide +kernel
theorem d_X11_prompt_49 : decode cX11_prompt 49 = .ok (.iastore, 1) := by decide +kernel
theorem d_X11_prompt_50 : decode cX11_prompt 50 = .ok (.aload_n 0, 1) := by decide +kernel
theorem d_X11_prompt_51 : decode cX11_prompt 51 = .ok (.getfield 25, 3) := by decide +kernel
theorem d_X11_prompt_54 : decode cX11_prompt 54 = .ok (.getfield 178, 3) := by decide +kernel
theorem d_X11_prompt_57 : decode cX11_prompt 57 = .ok (.iload_n 3, 1) := by decide +kernel
theorem d_X11_prompt_58 : decode cX11_prompt 58 = .ok (.iaload, 1) := by decide +kernel
theorem d_X11_prompt_59 : decode cX11_prompt 59 = .ok (.ireturn, 1) := by decide +kernel
abbrev X_X11_prompt : gX := (RX11, cX11_prompt, 4, (some .int), false)
def F_X11_prompt_b0 (l0 : Option Nat) (l1 : Int32) (l2 : Int32) (M : gM) : Option (Int32 × gM) :=
  (gO 11 M l0).bind fun i1 => (F_X11_isKnown (some i1) l1 l2 M).bind fun v2 => if v2 = 0 then (some ((-1 : Int32), M)) else ((gR 11 M (some i1) 7).bind fun v3 => (gR 11 M (some i1) 5).bind fun v4 => (gO 4 M v3).bind fun i5 => (F_X4_keep (some i5) v4 M).bind fun M6 => (gR 11 M6 (some i1) 5).bind fun v7 => (gR 8 M6 v7 1).bind fun v8 => (gR 11 M6 (some i1) 5).bind fun v9 => (gR 8 M6 v9 1).bind fun v10 => (aI 20 M6 v10 ((l1 * (7 : Int32)) + l2)).bind fun v11 => (F_X11_prompted v11 M6).bind fun v12 => (sI M6 v8 ((l1 * (7 : Int32)) + l2) v12).bind fun M13 => (gR 11 M13 (some i1) 5).bind fun v14 => (gR 8 M13 v14 1).bind fun v15 => (aI 20 M13 v15 ((l1 * (7 : Int32)) + l2)).bind fun v16 => some (v16, M13))
set_option maxHeartbeats 1000000 in
theorem T_X11_prompt_b0 (r : (Int32 × gM)) (l0 : Option Nat) (l1 : Int32) (l2 : Int32) (M : gM) (h : F_X11_prompt_b0 l0 l1 l2 M = some r) : GW 3 0 0 X_X11_prompt 0 [(0, vr l0), (1, vi l1), (2, vi l2)] [] M (some (vi r.1), r.2) := by
  delta F_X11_prompt_b0 at h
  refine GW_aload_n (X := X_X11_prompt) (pc := 0) d_X11_prompt_0 rfl 0 rfl ?_
  refine GW_iload_n (X := X_X11_prompt) (pc := 1) d_X11_prompt_1 rfl 1 rfl ?_
  refine GW_iload_n (X := X_X11_prompt) (pc := 2) d_X11_prompt_2 rfl 2 rfl ?_
  replace h := g_bd h
  obtain ⟨i1, hi1, h⟩ := h
  obtain ⟨rfl, ki1⟩ := g_gO hi1
  replace h := g_bd h
  obtain ⟨v2, hv2, h⟩ := h
  refine GW_callV (X := X_X11_prompt) (pc := 3) (bc0 := 0) (bs0 := 0) (r := some (vi v2)) (M2 := M) (c0 := 11) (T_X11_isKnown (some i1) l1 l2 M v2 hv2) (Nat.le_of_ble_eq_true rfl) (Nat.le_of_ble_eq_true rfl) rfl g_cok11 ki1 yc_X11_isKnown ⟨m_904, m_906, m_30, m_116, m_907⟩ d_X11_prompt_3 rfl (st := []) rfl (Nat.le_of_ble_eq_true rfl) (Nat.le_of_ble_eq_true rfl) (Nat.le_of_ble_eq_true rfl) (st2 := [vi v2]) rfl ?_
  refine GW_if_ne (X := X_X11_prompt) (pc := 6) 11 d_X11_prompt_6 (by decide) (fun c => ?_) (fun c => ?_)
  · replace h := g_ie c h
    refine GW_aload_n (X := X_X11_prompt) (pc := 11) d_X11_prompt_11 rfl 0 rfl ?_
    replace h := g_bd h
    obtain ⟨v3, hv3, h⟩ := h
    refine GW_getR (X := X_X11_prompt) (pc := 12) f_X11_35 d_X11_prompt_12 hv3 (Or.inl ⟨_, ty_11_7⟩) ?_
    refine GW_aload_n (X := X_X11_prompt) (pc := 15) d_X11_prompt_15 rfl 0 rfl ?_
    replace h := g_bd h
    obtain ⟨v4, hv4, h⟩ := h
    refine GW_getR (X := X_X11_prompt) (pc := 16) f_X11_25 d_X11_prompt_16 hv4 (Or.inl ⟨_, ty_11_5⟩) ?_
    replace h := g_bd h
    obtain ⟨i5, hi5, h⟩ := h
    obtain ⟨rfl, ki5⟩ := g_gO hi5
    replace h := g_bd h
    obtain ⟨M6, hM6, h⟩ := h
    refine GW_callV (X := X_X11_prompt) (pc := 19) (bc0 := 0) (bs0 := 0) (r := none) (M2 := M6) (c0 := 4) (T_X4_keep (some i5) v4 M M6 hM6) (Nat.le_of_ble_eq_true rfl) (Nat.le_of_ble_eq_true rfl) rfl g_cok4 ki5 yc_X4_keep ⟨m_825, m_826, m_827, m_120, m_828⟩ d_X11_prompt_19 rfl (st := []) rfl (Nat.le_of_ble_eq_true rfl) (Nat.le_of_ble_eq_true rfl) (Nat.le_of_ble_eq_true rfl) (st2 := []) rfl ?_
    refine GW_iload_n (X := X_X11_prompt) (pc := 22) d_X11_prompt_22 rfl 1 rfl ?_
    refine GW_bipush (X := X_X11_prompt) (pc := 23) (v := 7) d_X11_prompt_23 (by decide) ?_
    refine GW_imul (X := X_X11_prompt) (pc := 25) d_X11_prompt_25 ?_
    refine GW_iload_n (X := X_X11_prompt) (pc := 26) d_X11_prompt_26 rfl 2 rfl ?_
    refine GW_iadd (X := X_X11_prompt) (pc := 27) d_X11_prompt_27 ?_
    refine GW_istore_n (X := X_X11_prompt) (pc := 28) d_X11_prompt_28 rfl (Nat.le_of_ble_eq_true rfl) (lv2 := [(3, vi ((l1 * (7 : Int32)) + l2)), (0, vr (some i1)), (1, vi l1), (2, vi l2)]) rfl ?_
    refine GW_aload_n (X := X_X11_prompt) (pc := 29) d_X11_prompt_29 rfl 1 rfl ?_
    replace h := g_bd h
    obtain ⟨v7, hv7, h⟩ := h
    refine GW_getR (X := X_X11_prompt) (pc := 30) f_X11_25 d_X11_prompt_30 hv7 (Or.inl ⟨_, ty_11_5⟩) ?_
    replace h := g_bd h
    obtain ⟨v8, hv8, h⟩ := h
    refine GW_getR (X := X_X11_prompt) (pc := 33) f_X11_178 d_X11_prompt_33 hv8 (Or.inr ⟨_, ty_8_1⟩) ?_
    refine GW_iload_n (X := X_X11_prompt) (pc := 36) d_X11_prompt_36 rfl 0 rfl ?_
    refine GW_aload_n (X := X_X11_prompt) (pc := 37) d_X11_prompt_37 rfl 1 rfl ?_
    replace h := g_bd h
    obtain ⟨v9, hv9, h⟩ := h
    refine GW_getR (X := X_X11_prompt) (pc := 38) f_X11_25 d_X11_prompt_38 hv9 (Or.inl ⟨_, ty_11_5⟩) ?_
    replace h := g_bd h
    obtain ⟨v10, hv10, h⟩ := h
    refine GW_getR (X := X_X11_prompt) (pc := 41) f_X11_178 d_X11_prompt_41 hv10 (Or.inr ⟨_, ty_8_1⟩) ?_
    refine GW_iload_n (X := X_X11_prompt) (pc := 44) d_X11_prompt_44 rfl 0 rfl ?_
    replace h := g_bd h
    obtain ⟨v11, hv11, h⟩ := h
    refine GW_iald (X := X_X11_prompt) (pc := 45) d_X11_prompt_45 hv11 ?_
    replace h := g_bd h
    obtain ⟨v12, hv12, h⟩ := h
    refine GW_callS (X := X_X11_prompt) (pc := 46) (bc0 := 0) (bs0 := 0) (r := some (vi v12)) (M2 := M6) (T_X11_prompted v11 M6 v12 hv12) (Nat.le_of_ble_eq_true rfl) (Nat.le_of_ble_eq_true rfl) yc_X11_prompted ⟨m_923, m_924, m_116, m_925⟩ d_X11_prompt_46 rfl (st := [vi ((l1 * (7 : Int32)) + l2), vr v8]) rfl (Nat.le_of_ble_eq_true rfl) (Nat.le_of_ble_eq_true rfl) (Nat.le_of_ble_eq_true rfl) (st2 := [vi v12, vi ((l1 * (7 : Int32)) + l2), vr v8]) rfl ?_
    replace h := g_bd h
    obtain ⟨M13, hM13, h⟩ := h
    refine GW_iast (X := X_X11_prompt) (pc := 49) d_X11_prompt_49 hM13 ?_
    refine GW_aload_n (X := X_X11_prompt) (pc := 50) d_X11_prompt_50 rfl 1 rfl ?_
    replace h := g_bd h
    obtain ⟨v14, hv14, h⟩ := h
    refine GW_getR (X := X_X11_prompt) (pc := 51) f_X11_25 d_X11_prompt_51 hv14 (Or.inl ⟨_, ty_11_5⟩) ?_
    replace h := g_bd h
    obtain ⟨v15, hv15, h⟩ := h
    refine GW_getR (X := X_X11_prompt) (pc := 54) f_X11_178 d_X11_prompt_54 hv15 (Or.inr ⟨_, ty_8_1⟩) ?_
    refine GW_iload_n (X := X_X11_prompt) (pc := 57) d_X11_prompt_57 rfl 0 rfl ?_
    replace h := g_bd h
    obtain ⟨v16, hv16, h⟩ := h
    refine GW_iald (X := X_X11_prompt) (pc := 58) d_X11_prompt_58 hv16 ?_
    replace h := Option.some.inj h
    subst h
    exact GW_ret (X := X_X11_prompt) (pc := 59) d_X11_prompt_59 rfl trivial
  · replace h := g_ip c h
    refine GW_iconst (X := X_X11_prompt) (pc := 9) (v := -1) d_X11_prompt_9 (by decide) ?_
    replace h := Option.some.inj h
    subst h
    exact GW_ret (X := X_X11_prompt) (pc := 10) d_X11_prompt_10 rfl trivial
def F_X11_prompt (l0 : Option Nat) (l1 : Int32) (l2 : Int32) (M : gM) : Option (Int32 × gM) := F_X11_prompt_b0 l0 l1 l2 M
theorem T_X11_prompt (l0 : Option Nat) (l1 : Int32) (l2 : Int32) (M : gM) (r : (Int32 × gM)) (h : F_X11_prompt l0 l1 l2 M = some r) : g_Met 3 0 0 yX11_prompt X_X11_prompt [vr l0, vi l1, vi l2] M (some (vi r.1), r.2) :=
  g_Met_of pn_RX11 rfl (Nat.le_of_ble_eq_true rfl) (fun h => by cases h) (GW_sub [0, 1, 2] rfl (T_X11_prompt_b0 r l0 l1 l2 M h))
/-! ForgetHeirsModel.prompt(II)I -/
theorem d_X12_prompt_0 : decode cX12_prompt 0 = .ok (.aload_n 0, 1) := by decide +kernel
theorem d_X12_prompt_1 : decode cX12_prompt 1 = .ok (.iload_n 1, 1) := by decide +kernel
theorem d_X12_prompt_2 : decode cX12_prompt 2 = .ok (.invokevirtual 322, 3) := by decide +kernel
theorem d_X12_prompt_5 : decode cX12_prompt 5 = .ok (.ifCond .eq 20, 3) := by decide +kernel
theorem d_X12_prompt_8 : decode cX12_prompt 8 = .ok (.aload_n 0, 1) := by decide +kernel
theorem d_X12_prompt_9 : decode cX12_prompt 9 = .ok (.iload_n 2, 1) := by decide +kernel
theorem d_X12_prompt_10 : decode cX12_prompt 10 = .ok (.invokevirtual 327, 3) := by decide +kernel
theorem d_X12_prompt_13 : decode cX12_prompt 13 = .ok (.ifCond .eq 12, 3) := by decide +kernel
theorem d_X12_prompt_16 : decode cX12_prompt 16 = .ok (.aload_n 0, 1) := by decide +kernel
theorem d_X12_prompt_17 : decode cX12_prompt 17 = .ok (.iload_n 1, 1) := by decide +kernel
theorem d_X12_prompt_18 : decode cX12_prompt 18 = .ok (.iload_n 2, 1) := by decide +kernel
theorem d_X12_prompt_19 : decode cX12_prompt 19 = .ok (.invokevirtual 304, 3) := by decide +kernel
theorem d_X12_prompt_22 : decode cX12_prompt 22 = .ok (.ifCond .ne 5, 3) := by decide +kernel
theorem d_X12_prompt_25 : decode cX12_prompt 25 = .ok (.iconst (-1), 1) := by decide +kernel
theorem d_X12_prompt_26 : decode cX12_prompt 26 = .ok (.ireturn, 1) := by decide +kernel
theorem d_X12_prompt_27 : decode cX12_prompt 27 = .ok (.aload_n 0, 1) := by decide +kernel
theorem d_X12_prompt_28 : decode cX12_prompt 28 = .ok (.invokevirtual 365, 3) := by decide +kernel
theorem d_X12_prompt_31 : decode cX12_prompt 31 = .ok (.aload_n 0, 1) := by decide +kernel
theorem d_X12_prompt_32 : decode cX12_prompt 32 = .ok (.iload_n 1, 1) := by decide +kernel
theorem d_X12_prompt_33 : decode cX12_prompt 33 = .ok (.iload_n 2, 1) := by decide +kernel
theorem d_X12_prompt_34 : decode cX12_prompt 34 = .ok (.invokevirtual 335, 3) := by decide +kernel
theorem d_X12_prompt_37 : decode cX12_prompt 37 = .ok (.bipush 10, 2) := by decide +kernel
theorem d_X12_prompt_39 : decode cX12_prompt 39 = .ok (.iadd, 1) := by decide +kernel
theorem d_X12_prompt_40 : decode cX12_prompt 40 = .ok (.istore_n 3, 1) := by decide +kernel
theorem d_X12_prompt_41 : decode cX12_prompt 41 = .ok (.aload_n 0, 1) := by decide +kernel
theorem d_X12_prompt_42 : decode cX12_prompt 42 = .ok (.iload_n 1, 1) := by decide +kernel
theorem d_X12_prompt_43 : decode cX12_prompt 43 = .ok (.iload_n 2, 1) := by decide +kernel
theorem d_X12_prompt_44 : decode cX12_prompt 44 = .ok (.aload_n 0, 1) := by decide +kernel
theorem d_X12_prompt_45 : decode cX12_prompt 45 = .ok (.iload_n 1, 1) := by decide +kernel
theorem d_X12_prompt_46 : decode cX12_prompt 46 = .ok (.iload_n 2, 1) := by decide +kernel
theorem d_X12_prompt_47 : decode cX12_prompt 47 = .ok (.invokevirtual 297, 3) := by decide +kernel
theorem d_X12_prompt_50 : decode cX12_prompt 50 = .ok (.iload_n 3, 1) := by decide +kernel
theorem d_X12_prompt_51 : decode cX12_prompt 51 = .ok (.bipush 99, 2) := by decide +kernel
theorem d_X12_prompt_53 : decode cX12_prompt 53 = .ok (.if_icmp .le 8, 3) := by decide +kernel
theorem d_X12_prompt_56 : decode cX12_prompt 56 = .ok (.bipush 99, 2) := by decide +kernel
theorem d_X12_prompt_58 : decode cX12_prompt 58 = .ok (.goto 4, 3) := by decide +kernel
theorem d_X12_prompt_61 : decode cX12_prompt 61 = .ok (.iload_n 3, 1) := by decide +kernel
theorem d_X12_prompt_62 : decode cX12_prompt 62 = .ok (.invokevirtual 358, 3) := by decide +kernel
theorem d_X12_prompt_65 : decode cX12_prompt 65 = .ok (.aload_n 0, 1) := by decide +kernel
theorem d_X12_prompt_66 : decode cX12_prompt 66 = .ok (.iload_n 1, 1) := by decide +kernel
theorem d_X12_prompt_67 : decode cX12_prompt 67 = .ok (.iload_n 2, 1) := by decide +kernel
theorem d_X12_prompt_68 : decode cX12_prompt 68 = .ok (.invokevirtual 335, 3) := by decide +kernel
theorem d_X12_prompt_71 : decode cX12_prompt 71 = .ok (.ireturn, 1) := by decide +kernel
abbrev X_X12_prompt : gX := (RX12, cX12_prompt, 4, (some .int), false)
def F_X12_prompt_b25 (M : gM) : Option (Int32 × gM) :=
  some ((-1 : Int32), M)
theorem T_X12_prompt_b25 (r : (Int32 × gM)) (M : gM) (h : F_X12_prompt_b25 M = some r) : GW 2 0 0 X_X12_prompt 25 [] [] M (some (vi r.1), r.2) := by
  delta F_X12_prompt_b25 at h
  refine GW_iconst (X := X_X12_prompt) (pc := 25) (v := -1) d_X12_prompt_25 (by decide) ?_
  replace h := Option.some.inj h
  subst h
  exact GW_ret (X := X_X12_prompt) (pc := 26) d_X12_prompt_26 rfl trivial
def F_X12_prompt_b62 (l0 : Option Nat) (l1 : Int32) (l2 : Int32) (s0 : Option Nat) (s1 : Int32) (s2 : Int32) (s3 : Int32) (s4 : Int32) (M : gM) : Option (Int32 × gM) :=
  (gO 12 M s0).bind fun i1 => (F_X12_knowsNow (some i1) s1 s2 s3 s4 M).bind fun M2 => (gO 12 M2 l0).bind fun i3 => (F_X12_strengthOf (some i3) l1 l2 M2).bind fun v4 => some (v4, M2)
theorem T_X12_prompt_b62 (r : (Int32 × gM)) (l0 : Option Nat) (l1 : Int32) (l2 : Int32) (s0 : Option Nat) (s1 : Int32) (s2 : Int32) (s3 : Int32) (s4 : Int32) (M : gM) (h : F_X12_prompt_b62 l0 l1 l2 s0 s1 s2 s3 s4 M = some r) : GW 2 0 0 X_X12_prompt 62 [(0, vr l0), (1, vi l1), (2, vi l2)] [vi s4, vi s3, vi s2, vi s1, vr s0] M (some (vi r.1), r.2) := by
  delta F_X12_prompt_b62 at h
  replace h := g_bd h
  obtain ⟨i1, hi1, h⟩ := h
  obtain ⟨rfl, ki1⟩ := g_gO hi1
  replace h := g_bd h
  obtain ⟨M2, hM2, h⟩ := h
  refine GW_callV (X := X_X12_prompt) (pc := 62) (bc0 := 0) (bs0 := 0) (r := none) (M2 := M2) (c0 := 12) (T_X12_knowsNow (some i1) s1 s2 s3 s4 M M2 hM2) (Nat.le_of_ble_eq_true rfl) (Nat.le_of_ble_eq_true rfl) rfl g_cok12 ki1 yc_X12_knowsNow ⟨m_1517, m_1519, m_96, m_127, m_1520⟩ d_X12_prompt_62 rfl (st := []) rfl (Nat.le_of_ble_eq_true rfl) (Nat.le_of_ble_eq_true rfl) (Nat.le_of_ble_eq_true rfl) (st2 := []) rfl ?_
  refine GW_aload_n (X := X_X12_prompt) (pc := 65) d_X12_prompt_65 rfl 0 rfl ?_
  refine GW_iload_n (X := X_X12_prompt) (pc := 66) d_X12_prompt_66 rfl 1 rfl ?_
  refine GW_iload_n (X := X_X12_prompt) (pc := 67) d_X12_prompt_67 rfl 2 rfl ?_
  replace h := g_bd h
  obtain ⟨i3, hi3, h⟩ := h
  obtain ⟨rfl, ki3⟩ := g_gO hi3
  replace h := g_bd h
  obtain ⟨v4, hv4, h⟩ := h
  refine GW_callV (X := X_X12_prompt) (pc := 68) (bc0 := 0) (bs0 := 0) (r := some (vi v4)) (M2 := M2) (c0 := 12) (T_X12_strengthOf (some i3) l1 l2 M2 v4 hv4) (Nat.le_of_ble_eq_true rfl) (Nat.le_of_ble_eq_true rfl) rfl g_cok12 ki3 yc_X12_strengthOf ⟨m_1493, m_1495, m_91, m_127, m_1496⟩ d_X12_prompt_68 rfl (st := []) rfl (Nat.le_of_ble_eq_true rfl) (Nat.le_of_ble_eq_true rfl) (Nat.le_of_ble_eq_true rfl) (st2 := [vi v4]) rfl ?_
  replace h := Option.some.inj h
  subst h
  exact GW_ret (X := X_X12_prompt) (pc := 71) d_X12_prompt_71 rfl trivial
def F_X12_prompt_b0 (l0 : Option Nat) (l1 : Int32) (l2 : Int32) (M : gM) : Option (Int32 × gM) :=
  (gO 12 M l0).bind fun i1 => (F_X12_isHeir (some i1) l1 M).bind fun v2 => if v2 = 0 then (F_X12_prompt_b25 M) else ((F_X12_isThing (some i1) l2 M).bind fun v3 => if v3 = 0 then (F_X12_prompt_b25 M) else ((F_X12_knowsOf (some i1) l1 l2 M).bind fun v4 => if v4 = 0 then (F_X12_prompt_b25 M) else ((F_X12_keepsAct (some i1) M).bind fun M5 => (gC 12 M5 i1).bind fun _ => (F_X12_strengthOf (some i1) l1 l2 M5).bind fun v7 => (F_X12_valueOf (some i1) l1 l2 M5).bind fun v8 => if (v7 + (10 : Int32)) ≤ (99 : Int32) then (F_X12_prompt_b62 (some i1) l1 l2 (some i1) l1 l2 v8 (v7 + (10 : Int32)) M5) else (F_X12_prompt_b62 (some i1) l1 l2 (some i1) l1 l2 v8 (99 : Int32) M5))))
set_option maxHeartbeats 1000000 in
theorem T_X12_prompt_b0 (r : (Int32 × gM)) (l0 : Option Nat) (l1 : Int32) (l2 : Int32) (M : gM) (h : F_X12_prompt_b0 l0 l1 l2 M = some r) : GW 2 0 0 X_X12_prompt 0 [(0, vr l0), (1, vi l1), (2, vi l2)] [] M (some (vi r.1), r.2) := by
  delta F_X12_prompt_b0 at h
  refine GW_aload_n (X := X_X12_prompt) (pc := 0) d_X12_prompt_0 rfl 0 rfl ?_
  refine GW_iload_n (X := X_X12_prompt) (pc := 1) d_X12_prompt_1 rfl 1 rfl ?_
  replace h := g_bd h
  obtain ⟨i1, hi1, h⟩ := h
  obtain ⟨rfl, ki1⟩ := g_gO hi1
  replace h := g_bd h
  obtain ⟨v2, hv2, h⟩ := h
  refine GW_callV (X := X_X12_prompt) (pc := 2) (bc0 := 0) (bs0 := 0) (r := some (vi v2)) (M2 := M) (c0 := 12) (T_X12_isHeir (some i1) l1 M v2 hv2) (Nat.le_of_ble_eq_true rfl) (Nat.le_of_ble_eq_true rfl) rfl g_cok12 ki1 yc_X12_isHeir ⟨m_1415, m_1417, m_76, m_127, m_1418⟩ d_X12_prompt_2 rfl (st := []) rfl (Nat.le_of_ble_eq_true rfl) (Nat.le_of_ble_eq_true rfl) (Nat.le_of_ble_eq_true rfl) (st2 := [vi v2]) rfl ?_
  refine GW_if_eq (X := X_X12_prompt) (pc := 5) 25 d_X12_prompt_5 (by decide) (fun c => ?_) (fun c => ?_)
  · replace h := g_ip c h
    refine GW_sub [] rfl ?_
    exact T_X12_prompt_b25 r M h
  · replace h := g_ie c h
    refine GW_aload_n (X := X_X12_prompt) (pc := 8) d_X12_prompt_8 rfl 0 rfl ?_
    refine GW_iload_n (X := X_X12_prompt) (pc := 9) d_X12_prompt_9 rfl 2 rfl ?_
    replace h := g_bd h
    obtain ⟨v3, hv3, h⟩ := h
    refine GW_callV (X := X_X12_prompt) (pc := 10) (bc0 := 0) (bs0 := 0) (r := some (vi v3)) (M2 := M) (c0 := 12) (T_X12_isThing (some i1) l2 M v3 hv3) (Nat.le_of_ble_eq_true rfl) (Nat.le_of_ble_eq_true rfl) rfl g_cok12 ki1 yc_X12_isThing ⟨m_1448, m_1450, m_83, m_127, m_1451⟩ d_X12_prompt_10 rfl (st := []) rfl (Nat.le_of_ble_eq_true rfl) (Nat.le_of_ble_eq_true rfl) (Nat.le_of_ble_eq_true rfl) (st2 := [vi v3]) rfl ?_
    refine GW_if_eq (X := X_X12_prompt) (pc := 13) 25 d_X12_prompt_13 (by decide) (fun c => ?_) (fun c => ?_)
    · replace h := g_ip c h
      refine GW_sub [] rfl ?_
      exact T_X12_prompt_b25 r M h
    · replace h := g_ie c h
      refine GW_aload_n (X := X_X12_prompt) (pc := 16) d_X12_prompt_16 rfl 0 rfl ?_
      refine GW_iload_n (X := X_X12_prompt) (pc := 17) d_X12_prompt_17 rfl 1 rfl ?_
      refine GW_iload_n (X := X_X12_prompt) (pc := 18) d_X12_prompt_18 rfl 2 rfl ?_
      replace h := g_bd h
      obtain ⟨v4, hv4, h⟩ := h
      refine GW_callV (X := X_X12_prompt) (pc := 19) (bc0 := 0) (bs0 := 0) (r := some (vi v4)) (M2 := M) (c0 := 12) (T_X12_knowsOf (some i1) l1 l2 M v4 hv4) (Nat.le_of_ble_eq_true rfl) (Nat.le_of_ble_eq_true rfl) rfl g_cok12 ki1 yc_X12_knowsOf ⟨m_1432, m_1434, m_80, m_127, m_1435⟩ d_X12_prompt_19 rfl (st := []) rfl (Nat.le_of_ble_eq_true rfl) (Nat.le_of_ble_eq_true rfl) (Nat.le_of_ble_eq_true rfl) (st2 := [vi v4]) rfl ?_
      refine GW_if_ne (X := X_X12_prompt) (pc := 22) 27 d_X12_prompt_22 (by decide) (fun c => ?_) (fun c => ?_)
      · replace h := g_ie c h
        refine GW_aload_n (X := X_X12_prompt) (pc := 27) d_X12_prompt_27 rfl 0 rfl ?_
        replace h := g_bd h
        obtain ⟨M5, hM5, h⟩ := h
        refine GW_callV (X := X_X12_prompt) (pc := 28) (bc0 := 0) (bs0 := 0) (r := none) (M2 := M5) (c0 := 12) (T_X12_keepsAct (some i1) M M5 hM5) (Nat.le_of_ble_eq_true rfl) (Nat.le_of_ble_eq_true rfl) rfl g_cok12 ki1 yc_X12_keepsAct ⟨m_1473, m_1475, m_86, m_127, m_1476⟩ d_X12_prompt_28 rfl (st := []) rfl (Nat.le_of_ble_eq_true rfl) (Nat.le_of_ble_eq_true rfl) (Nat.le_of_ble_eq_true rfl) (st2 := []) rfl ?_
        refine GW_aload_n (X := X_X12_prompt) (pc := 31) d_X12_prompt_31 rfl 0 rfl ?_
        refine GW_iload_n (X := X_X12_prompt) (pc := 32) d_X12_prompt_32 rfl 1 rfl ?_
        refine GW_iload_n (X := X_X12_prompt) (pc := 33) d_X12_prompt_33 rfl 2 rfl ?_
        replace h := g_bd h
        obtain ⟨_, kk6, h⟩ := h
        replace kk6 := g_gC kk6
        replace h := g_bd h
        obtain ⟨v7, hv7, h⟩ := h
        refine GW_callV (X := X_X12_prompt) (pc := 34) (bc0 := 0) (bs0 := 0) (r := some (vi v7)) (M2 := M5) (c0 := 12) (T_X12_strengthOf (some i1) l1 l2 M5 v7 hv7) (Nat.le_of_ble_eq_true rfl) (Nat.le_of_ble_eq_true rfl) rfl g_cok12 kk6 yc_X12_strengthOf ⟨m_1493, m_1495, m_91, m_127, m_1496⟩ d_X12_prompt_34 rfl (st := []) rfl (Nat.le_of_ble_eq_true rfl) (Nat.le_of_ble_eq_true rfl) (Nat.le_of_ble_eq_true rfl) (st2 := [vi v7]) rfl ?_
        refine GW_bipush (X := X_X12_prompt) (pc := 37) (v := 10) d_X12_prompt_37 (by decide) ?_
        refine GW_iadd (X := X_X12_prompt) (pc := 39) d_X12_prompt_39 ?_
        refine GW_istore_n (X := X_X12_prompt) (pc := 40) d_X12_prompt_40 rfl (Nat.le_of_ble_eq_true rfl) (lv2 := [(3, vi (v7 + (10 : Int32))), (0, vr (some i1)), (1, vi l1), (2, vi l2)]) rfl ?_
        refine GW_aload_n (X := X_X12_prompt) (pc := 41) d_X12_prompt_41 rfl 1 rfl ?_
        refine GW_iload_n (X := X_X12_prompt) (pc := 42) d_X12_prompt_42 rfl 2 rfl ?_
        refine GW_iload_n (X := X_X12_prompt) (pc := 43) d_X12_prompt_43 rfl 3 rfl ?_
        refine GW_aload_n (X := X_X12_prompt) (pc := 44) d_X12_prompt_44 rfl 1 rfl ?_
        refine GW_iload_n (X := X_X12_prompt) (pc := 45) d_X12_prompt_45 rfl 2 rfl ?_
        refine GW_iload_n (X := X_X12_prompt) (pc := 46) d_X12_prompt_46 rfl 3 rfl ?_
        replace h := g_bd h
        obtain ⟨v8, hv8, h⟩ := h
        refine GW_callV (X := X_X12_prompt) (pc := 47) (bc0 := 0) (bs0 := 0) (r := some (vi v8)) (M2 := M5) (c0 := 12) (T_X12_valueOf (some i1) l1 l2 M5 v8 hv8) (Nat.le_of_ble_eq_true rfl) (Nat.le_of_ble_eq_true rfl) rfl g_cok12 kk6 yc_X12_valueOf ⟨m_1436, m_1438, m_81, m_127, m_1439⟩ d_X12_prompt_47 rfl (st := [vi l2, vi l1, vr (some i1)]) rfl (Nat.le_of_ble_eq_true rfl) (Nat.le_of_ble_eq_true rfl) (Nat.le_of_ble_eq_true rfl) (st2 := [vi v8, vi l2, vi l1, vr (some i1)]) rfl ?_
        refine GW_iload_n (X := X_X12_prompt) (pc := 50) d_X12_prompt_50 rfl 0 rfl ?_
        refine GW_bipush (X := X_X12_prompt) (pc := 51) (v := 99) d_X12_prompt_51 (by decide) ?_
        refine GW_icmp_le (X := X_X12_prompt) (pc := 53) 61 d_X12_prompt_53 (by decide) (fun c => ?_) (fun c => ?_)
        · replace h := g_ip c h
          refine GW_iload_n (X := X_X12_prompt) (pc := 61) d_X12_prompt_61 rfl 0 rfl ?_
          refine GW_sub [1, 2, 3] rfl ?_
          exact T_X12_prompt_b62 r (some i1) l1 l2 (some i1) l1 l2 v8 (v7 + (10 : Int32)) M5 h
        · replace h := g_ie c h
          refine GW_bipush (X := X_X12_prompt) (pc := 56) (v := 99) d_X12_prompt_56 (by decide) ?_
          refine GW_goto (X := X_X12_prompt) (pc := 58) 62 d_X12_prompt_58 (by decide) ?_
          refine GW_sub [1, 2, 3] rfl ?_
          exact T_X12_prompt_b62 r (some i1) l1 l2 (some i1) l1 l2 v8 (99 : Int32) M5 h
      · replace h := g_ip c h
        refine GW_sub [] rfl ?_
        exact T_X12_prompt_b25 r M h
def F_X12_prompt (l0 : Option Nat) (l1 : Int32) (l2 : Int32) (M : gM) : Option (Int32 × gM) := F_X12_prompt_b0 l0 l1 l2 M
theorem T_X12_prompt (l0 : Option Nat) (l1 : Int32) (l2 : Int32) (M : gM) (r : (Int32 × gM)) (h : F_X12_prompt l0 l1 l2 M = some r) : g_Met 2 0 0 yX12_prompt X_X12_prompt [vr l0, vi l1, vi l2] M (some (vi r.1), r.2) :=
  g_Met_of pn_RX12 rfl (Nat.le_of_ble_eq_true rfl) (fun h => by cases h) (GW_sub [0, 1, 2] rfl (T_X12_prompt_b0 r l0 l1 l2 M h))
/-! ForgetHeirs$State.errs(LForgetHeirs$House;II)Z -/
theorem d_X8_errs_0 : decode cX8_errs 0 = .ok (.iload_n 2, 1) := by decide +kernel
theorem d_X8_errs_1 : decode cX8_errs 1 = .ok (.bipush 7, 2) := by decide +kernel
theorem d_X8_errs_3 : decode cX8_errs 3 = .ok (.imul, 1) := by decide +kernel
theorem d_X8_errs_4 : decode cX8_errs 4 = .ok (.iload_n 3, 1) := by decide +kernel
theorem d_X8_errs_5 : decode cX8_errs 5 = .ok (.iadd, 1) := by decide +kernel
theorem d_X8_errs_6 : decode cX8_errs 6 = .ok (.istore 4, 2) := by decide +kernel
theorem d_X8_errs_8 : decode cX8_errs 8 = .ok (.aload_n 0, 1) := by decide +kernel
theorem d_X8_errs_9 : decode cX8_errs 9 = .ok (.getfield 15, 3) := by decide +kernel
theorem d_X8_errs_12 : decode cX8_errs 12 = .ok (.iload 4, 2) := by decide +kernel
theorem d_X8_errs_14 : decode cX8_errs 14 = .ok (.iaload, 1) := by decide +kernel
theorem d_X8_errs_15 : decode cX8_errs 15 = .ok (.ifCond .le 23, 3) := by decide +kernel
theorem d_X8_errs_18 : decode cX8_errs 18 = .ok (.aload_n 0, 1) := by decide +kernel
theorem d_X8_errs_19 : decode cX8_errs 19 = .ok (.getfield 9, 3) := by decide +kernel
theorem d_X8_errs_22 : decode cX8_errs 22 = .ok (.iload 4, 2) := by decide +kernel
theorem d_X8_errs_24 : decode cX8_errs 24 = .ok (.iaload, 1) := by decide +kernel
theorem d_X8_errs_25 : decode cX8_errs 25 = .ok (.aload_n 1, 1) := by decide +kernel
theorem d_X8_errs_26 : decode cX8_errs 26 = .ok (.getfield 58, 3) := by decide +kernel
theorem d_X8_errs_29 : decode cX8_errs 29 = .ok (.iload_n 3, 1) := by decide +kernel
theorem d_X8_errs_30 : decode cX8_errs 30 = .ok (.iaload, 1) := by decide +kernel
theorem d_X8_errs_31 : decode cX8_errs 31 = .ok (.if_icmp .eq 7, 3) := by decide +kernel
theorem d_X8_errs_34 : decode cX8_errs 34 = .ok (.iconst 1, 1) := by decide +kernel
theorem d_X8_errs_35 : decode cX8_errs 35 = .ok (.goto 4, 3) := by decide +kernel
theorem d_X8_errs_38 : decode cX8_errs 38 = .ok (.iconst 0, 1) := by decide +kernel
theorem d_X8_errs_39 : decode cX8_errs 39 = .ok (.ireturn, 1) := by decide +kernel
abbrev X_X8_errs : gX := (RX8, cX8_errs, 5, (some .boolean), false)
def F_X8_errs_b38 (M : gM) : Option Int32 :=
  some (0 : Int32)
theorem T_X8_errs_b38 (M : gM) (r : Int32) (h : F_X8_errs_b38 M = some r) : GW 0 0 0 X_X8_errs 38 [] [] M (some (vi r), M) := by
  delta F_X8_errs_b38 at h
  refine GW_iconst (X := X_X8_errs) (pc := 38) (v := 0) d_X8_errs_38 (by decide) ?_
  replace h := Option.some.inj h
  subst h
  exact GW_ret (X := X_X8_errs) (pc := 39) d_X8_errs_39 rfl g_rok0
def F_X8_errs_b0 (M : gM) (l0 : Option Nat) (l1 : Option Nat) (l2 : Int32) (l3 : Int32) : Option Int32 :=
  (gR 8 M l0 1).bind fun v1 => (aI 20 M v1 ((l2 * (7 : Int32)) + l3)).bind fun v2 => if v2 ≤ 0 then (F_X8_errs_b38 M ) else ((gR 8 M l0 0).bind fun v3 => (aI 20 M v3 ((l2 * (7 : Int32)) + l3)).bind fun v4 => (gR 1 M l1 0).bind fun v5 => (aI 20 M v5 l3).bind fun v6 => if v4 = v6 then (F_X8_errs_b38 M ) else (some (1 : Int32)))
set_option maxHeartbeats 1000000 in
theorem T_X8_errs_b0 (M : gM) (r : Int32) (l0 : Option Nat) (l1 : Option Nat) (l2 : Int32) (l3 : Int32) (h : F_X8_errs_b0 M l0 l1 l2 l3 = some r) : GW 0 0 0 X_X8_errs 0 [(0, vr l0), (1, vr l1), (2, vi l2), (3, vi l3)] [] M (some (vi r), M) := by
  delta F_X8_errs_b0 at h
  refine GW_iload_n (X := X_X8_errs) (pc := 0) d_X8_errs_0 rfl 2 rfl ?_
  refine GW_bipush (X := X_X8_errs) (pc := 1) (v := 7) d_X8_errs_1 (by decide) ?_
  refine GW_imul (X := X_X8_errs) (pc := 3) d_X8_errs_3 ?_
  refine GW_iload_n (X := X_X8_errs) (pc := 4) d_X8_errs_4 rfl 3 rfl ?_
  refine GW_iadd (X := X_X8_errs) (pc := 5) d_X8_errs_5 ?_
  refine GW_istore (X := X_X8_errs) (pc := 6) d_X8_errs_6 (Nat.le_of_ble_eq_true rfl) (lv2 := [(4, vi ((l2 * (7 : Int32)) + l3)), (0, vr l0), (1, vr l1), (2, vi l2), (3, vi l3)]) rfl ?_
  refine GW_aload_n (X := X_X8_errs) (pc := 8) d_X8_errs_8 rfl 1 rfl ?_
  replace h := g_bd h
  obtain ⟨v1, hv1, h⟩ := h
  refine GW_getR (X := X_X8_errs) (pc := 9) f_X8_15 d_X8_errs_9 hv1 (Or.inr ⟨_, ty_8_1⟩) ?_
  refine GW_iload (X := X_X8_errs) (pc := 12) d_X8_errs_12 0 rfl ?_
  replace h := g_bd h
  obtain ⟨v2, hv2, h⟩ := h
  refine GW_iald (X := X_X8_errs) (pc := 14) d_X8_errs_14 hv2 ?_
  refine GW_if_le (X := X_X8_errs) (pc := 15) 38 d_X8_errs_15 (by decide) (fun c => ?_) (fun c => ?_)
  · replace h := g_ip c h
    refine GW_sub [] rfl ?_
    exact T_X8_errs_b38 M r  h
  · replace h := g_ie c h
    refine GW_aload_n (X := X_X8_errs) (pc := 18) d_X8_errs_18 rfl 1 rfl ?_
    replace h := g_bd h
    obtain ⟨v3, hv3, h⟩ := h
    refine GW_getR (X := X_X8_errs) (pc := 19) f_X8_9 d_X8_errs_19 hv3 (Or.inr ⟨_, ty_8_0⟩) ?_
    refine GW_iload (X := X_X8_errs) (pc := 22) d_X8_errs_22 0 rfl ?_
    replace h := g_bd h
    obtain ⟨v4, hv4, h⟩ := h
    refine GW_iald (X := X_X8_errs) (pc := 24) d_X8_errs_24 hv4 ?_
    refine GW_aload_n (X := X_X8_errs) (pc := 25) d_X8_errs_25 rfl 2 rfl ?_
    replace h := g_bd h
    obtain ⟨v5, hv5, h⟩ := h
    refine GW_getR (X := X_X8_errs) (pc := 26) f_X8_58 d_X8_errs_26 hv5 (Or.inr ⟨_, ty_1_0⟩) ?_
    refine GW_iload_n (X := X_X8_errs) (pc := 29) d_X8_errs_29 rfl 4 rfl ?_
    replace h := g_bd h
    obtain ⟨v6, hv6, h⟩ := h
    refine GW_iald (X := X_X8_errs) (pc := 30) d_X8_errs_30 hv6 ?_
    refine GW_icmp_eq (X := X_X8_errs) (pc := 31) 38 d_X8_errs_31 (by decide) (fun c => ?_) (fun c => ?_)
    · replace h := g_ip c h
      refine GW_sub [] rfl ?_
      exact T_X8_errs_b38 M r  h
    · replace h := g_ie c h
      refine GW_iconst (X := X_X8_errs) (pc := 34) (v := 1) d_X8_errs_34 (by decide) ?_
      refine GW_goto (X := X_X8_errs) (pc := 35) 39 d_X8_errs_35 (by decide) ?_
      replace h := Option.some.inj h
      subst h
      exact GW_ret (X := X_X8_errs) (pc := 39) d_X8_errs_39 rfl g_rok1
def F_X8_errs (l0 : Option Nat) (l1 : Option Nat) (l2 : Int32) (l3 : Int32) (M : gM) : Option Int32 := F_X8_errs_b0 M l0 l1 l2 l3
theorem T_X8_errs (l0 : Option Nat) (l1 : Option Nat) (l2 : Int32) (l3 : Int32) (M : gM) (r : Int32) (h : F_X8_errs l0 l1 l2 l3 M = some r) : g_Met 0 0 0 yX8_errs X_X8_errs [vr l0, vr l1, vi l2, vi l3] M (some (vi r), M) :=
  g_Met_of pn_RX8 rfl (Nat.le_of_ble_eq_true rfl) (fun h => by cases h) (GW_sub [0, 1, 2, 3] rfl (T_X8_errs_b0 M r l0 l1 l2 l3 h))
/-! ForgetHeirs$State.isAsked(LForgetHeirs$House;II)V -/
theorem d_X8_isAsked_0 : decode cX8_isAsked 0 = .ok (.aload_n 0, 1) := by decide +kernel
theorem d_X8_isAsked_1 : decode cX8_isAsked 1 = .ok (.aload_n 1, 1) := by decide +kernel
theorem d_X8_isAsked_2 : decode cX8_isAsked 2 = .ok (.iload_n 2, 1) := by decide +kernel
theorem d_X8_isAsked_3 : decode cX8_isAsked 3 = .ok (.iload_n 3, 1) := by decide +kernel
theorem d_X8_isAsked_4 : decode cX8_isAsked 4 = .ok (.invokevirtual 50, 3) := by decide +kernel
theorem d_X8_isAsked_7 : decode cX8_isAsked 7 = .ok (.ifCond .eq 9, 3) := by decide +kernel
theorem d_X8_isAsked_10 : decode cX8_isAsked 10 = .ok (.aload_n 0, 1) := by decide +kernel
theorem d_X8_isAsked_11 : decode cX8_isAsked 11 = .ok (.iload_n 2, 1) := by decide +kernel
theorem d_X8_isAsked_12 : decode cX8_isAsked 12 = .ok (.iload_n 3, 1) := by decide +kernel
theorem d_X8_isAsked_13 : decode cX8_isAsked 13 = .ok (.invokevirtual 54, 3) := by decide +kernel
theorem d_X8_isAsked_16 : decode cX8_isAsked 16 = .ok (.return_, 1) := by decide +kernel
abbrev X_X8_isAsked : gX := (RX8, cX8_isAsked, 4, none, false)
def F_X8_isAsked_b0 (l0 : Option Nat) (l1 : Option Nat) (l2 : Int32) (l3 : Int32) (M : gM) : Option gM :=
  (gO 8 M l0).bind fun i1 => (F_X8_errs (some i1) l1 l2 l3 M).bind fun v2 => if v2 = 0 then (some M) else ((F_X8_forget (some i1) l2 l3 M).bind fun M3 => some M3)
theorem T_X8_isAsked_b0 (r : gM) (l0 : Option Nat) (l1 : Option Nat) (l2 : Int32) (l3 : Int32) (M : gM) (h : F_X8_isAsked_b0 l0 l1 l2 l3 M = some r) : GW 2 0 0 X_X8_isAsked 0 [(0, vr l0), (1, vr l1), (2, vi l2), (3, vi l3)] [] M (none, r) := by
  delta F_X8_isAsked_b0 at h
  refine GW_aload_n (X := X_X8_isAsked) (pc := 0) d_X8_isAsked_0 rfl 0 rfl ?_
  refine GW_aload_n (X := X_X8_isAsked) (pc := 1) d_X8_isAsked_1 rfl 1 rfl ?_
  refine GW_iload_n (X := X_X8_isAsked) (pc := 2) d_X8_isAsked_2 rfl 2 rfl ?_
  refine GW_iload_n (X := X_X8_isAsked) (pc := 3) d_X8_isAsked_3 rfl 3 rfl ?_
  replace h := g_bd h
  obtain ⟨i1, hi1, h⟩ := h
  obtain ⟨rfl, ki1⟩ := g_gO hi1
  replace h := g_bd h
  obtain ⟨v2, hv2, h⟩ := h
  refine GW_callV (X := X_X8_isAsked) (pc := 4) (bc0 := 0) (bs0 := 0) (r := some (vi v2)) (M2 := M) (c0 := 8) (T_X8_errs (some i1) l1 l2 l3 M v2 hv2) (Nat.le_of_ble_eq_true rfl) (Nat.le_of_ble_eq_true rfl) rfl g_cok8 ki1 yc_X8_errs ⟨m_935, m_936, m_937, m_119, m_938⟩ d_X8_isAsked_4 rfl (st := []) rfl (Nat.le_of_ble_eq_true rfl) (Nat.le_of_ble_eq_true rfl) (Nat.le_of_ble_eq_true rfl) (st2 := [vi v2]) rfl ?_
  refine GW_if_eq (X := X_X8_isAsked) (pc := 7) 16 d_X8_isAsked_7 (by decide) (fun c => ?_) (fun c => ?_)
  · replace h := g_ip c h
    replace h := Option.some.inj h
    subst h
    exact GW_ret (X := X_X8_isAsked) (pc := 16) d_X8_isAsked_16 rfl trivial
  · replace h := g_ie c h
    refine GW_aload_n (X := X_X8_isAsked) (pc := 10) d_X8_isAsked_10 rfl 0 rfl ?_
    refine GW_iload_n (X := X_X8_isAsked) (pc := 11) d_X8_isAsked_11 rfl 2 rfl ?_
    refine GW_iload_n (X := X_X8_isAsked) (pc := 12) d_X8_isAsked_12 rfl 3 rfl ?_
    replace h := g_bd h
    obtain ⟨M3, hM3, h⟩ := h
    refine GW_callV (X := X_X8_isAsked) (pc := 13) (bc0 := 0) (bs0 := 0) (r := none) (M2 := M3) (c0 := 8) (T_X8_forget (some i1) l2 l3 M M3 hM3) (Nat.le_of_ble_eq_true rfl) (Nat.le_of_ble_eq_true rfl) rfl g_cok8 ki1 yc_X8_forget ⟨m_939, m_890, m_891, m_119, m_892⟩ d_X8_isAsked_13 rfl (st := []) rfl (Nat.le_of_ble_eq_true rfl) (Nat.le_of_ble_eq_true rfl) (Nat.le_of_ble_eq_true rfl) (st2 := []) rfl ?_
    replace h := Option.some.inj h
    subst h
    exact GW_ret (X := X_X8_isAsked) (pc := 16) d_X8_isAsked_16 rfl trivial
def F_X8_isAsked (l0 : Option Nat) (l1 : Option Nat) (l2 : Int32) (l3 : Int32) (M : gM) : Option gM := F_X8_isAsked_b0 l0 l1 l2 l3 M
theorem T_X8_isAsked (l0 : Option Nat) (l1 : Option Nat) (l2 : Int32) (l3 : Int32) (M : gM) (r : gM) (h : F_X8_isAsked l0 l1 l2 l3 M = some r) : g_Met 2 0 0 yX8_isAsked X_X8_isAsked [vr l0, vr l1, vi l2, vi l3] M (none, r) :=
  g_Met_of pn_RX8 rfl (Nat.le_of_ble_eq_true rfl) (fun h => by cases h) (GW_sub [0, 1, 2, 3] rfl (T_X8_isAsked_b0 r l0 l1 l2 l3 M h))
/-! ForgetHeirs.ask(II)I -/
theorem d_X11_ask_0 : decode cX11_ask 0 = .ok (.aload_n 0, 1) := by decide +kernel
theorem d_X11_ask_1 : decode cX11_ask 1 = .ok (.iload_n 1, 1) := by decide +kernel
theorem d_X11_ask_2 : decode cX11_ask 2 = .ok (.invokevirtual 127, 3) := by decide +kernel
theorem d_X11_ask_5 : decode cX11_ask 5 = .ok (.ifCond .eq 22, 3) := by decide +kernel
theorem d_X11_ask_8 : decode cX11_ask 8 = .ok (.aload_n 0, 1) := by decide +kernel
theorem d_X11_ask_9 : decode cX11_ask 9 = .ok (.iload_n 2, 1) := by decide +kernel
theorem d_X11_ask_10 : decode cX11_ask 10 = .ok (.invokevirtual 154, 3) := by decide +kernel
theorem d_X11_ask_13 : decode cX11_ask 13 = .ok (.ifCond .eq 14, 3) := by decide +kernel
theorem d_X11_ask_16 : decode cX11_ask 16 = .ok (.aload_n 0, 1) := by decide +kernel
theorem d_X11_ask_17 : decode cX11_ask 17 = .ok (.getfield 25, 3) := by decide +kernel
theorem d_X11_ask_20 : decode cX11_ask 20 = .ok (.getfield 193, 3) := by decide +kernel
theorem d_X11_ask_23 : decode cX11_ask 23 = .ok (.iconst 1, 1) := by decide +kernel
theorem d_X11_ask_24 : decode cX11_ask 24 = .ok (.if_icmp .ge 5, 3) := by decide +kernel
theorem d_X11_ask_27 : decode cX11_ask 27 = .ok (.iconst (-1), 1) := by decide +kernel
theorem d_X11_ask_28 : decode cX11_ask 28 = .ok (.ireturn, 1) := by decide +kernel
theorem d_X11_ask_29 : decode cX11_ask 29 = .ok (.aload_n 0, 1) := by decide +kernel
theorem d_X11_ask_30 : decode cX11_ask 30 = .ok (.getfield 35, 3) := by decide +kernel
theorem d_X11_ask_33 : decode cX11_ask 33 = .ok (.aload_n 0, 1) := by decide +kernel
theorem d_X11_ask_34 : decode cX11_ask 34 = .ok (.getfield 25, 3) := by decide +kernel
theorem d_X11_ask_37 : decode cX11_ask 37 = .ok (.invokevirtual 208, 3) := by decide +kernel
theorem d_X11_ask_40 : decode cX11_ask 40 = .ok (.aload_n 0, 1) := by decide +kernel
theorem d_X11_ask_41 : decode cX11_ask 41 = .ok (.iload_n 1, 1) := by decide +kernel
theorem d_X11_ask_42 : decode cX11_ask 42 = .ok (.iload_n 2, 1) := by decide +kernel
theorem d_X11_ask_43 : decode cX11_ask 43 = .ok (.invokevirtual 218, 3) := by decide +kernel
theorem d_X11_ask_46 : decode cX11_ask 46 = .ok (.ifCond .eq 20, 3) := by decide +kernel
theorem d_X11_ask_49 : decode cX11_ask 49 = .ok (.aload_n 0, 1) := by decide +kernel
theorem d_X11_ask_50 : decode cX11_ask 50 = .ok (.getfield 25, 3) := by decide +kernel
theorem d_X11_ask_53 : decode cX11_ask 53 = .ok (.getfield 181, 3) := by decide +kernel
theorem d_X11_ask_56 : decode cX11_ask 56 = .ok (.iload_n 1, 1) := by decide +kernel
theorem d_X11_ask_57 : decode cX11_ask 57 = .ok (.bipush 7, 2) := by decide +kernel
theorem d_X11_ask_59 : decode cX11_ask 59 = .ok (.imul, 1) := by decide +kernel
theorem d_X11_ask_60 : decode cX11_ask 60 = .ok (.iload_n 2, 1) := by decide +kernel
theorem d_X11_ask_61 : decode cX11_ask 61 = .ok (.iadd, 1) := by decide +kernel
theorem d_X11_ask_62 : decode cX11_ask 62 = .ok (.iaload, 1) := by decide +kernel
theorem d_X11_ask_63 : decode cX11_ask 63 = .ok (.goto 5, 3) := by decide +kernel
theorem d_X11_ask_66 : decode cX11_ask 66 = .ok (.bipush 10, 2) := by decide +kernel
theorem d_X11_ask_68 : decode cX11_ask 68 = .ok (.istore_n 3, 1) := by decide +kernel
theorem d_X11_ask_69 : decode cX11_ask 69 = .ok (.aload_n 0, 1) := by decide +kernel
theorem d_X11_ask_70 : decode cX11_ask 70 = .ok (.getfield 25, 3) := by decide +kernel
theorem d_X11_ask_73 : decode cX11_ask 73 = .ok (.dup, 1) := by decide +kernel
theorem d_X11_ask_74 : decode cX11_ask 74 = .ok (.getfield 193, 3) := by decide +kernel
theorem d_X11_ask_77 : decode cX11_ask 77 = .ok (.iconst 1, 1) := by decide +kernel
theorem d_X11_ask_78 : decode cX11_ask 78 = .ok (.isub, 1) := by decide +kernel
theorem d_X11_ask_79 : decode cX11_ask 79 = .ok (.putfield 193, 3) := by decide +kernel
theorem d_X11_ask_82 : decode cX11_ask 82 = .ok (.aload_n 0, 1) := by decide +kernel
theorem d_X11_ask_83 : decode cX11_ask 83 = .ok (.getfield 25, 3) := by decide +kernel
theorem d_X11_ask_86 : decode cX11_ask 86 = .ok (.aload_n 0, 1) := by decide +kernel
theorem d_X11_ask_87 : decode cX11_ask 87 = .ok (.getfield 59, 3) := by decide +kernel
theorem d_X11_ask_90 : decode cX11_ask 90 = .ok (.iload_n 1, 1) := by decide +kernel
theorem d_X11_ask_91 : decode cX11_ask 91 = .ok (.iload_n 2, 1) := by decide +kernel
theorem d_X11_ask_92 : decode cX11_ask 92 = .ok (.invokevirtual 234, 3) := by decide +kernel
theorem d_X11_ask_95 : decode cX11_ask 95 = .ok (.iload_n 3, 1) := by decide +kernel
theorem d_X11_ask_96 : decode cX11_ask 96 = .ok (.ireturn, 1) := by decide +kernel
abbrev X_X11_ask : gX := (RX11, cX11_ask, 4, (some .int), false)
def F_X11_ask_b27 (M : gM) : Option (Int32 × gM) :=
  some ((-1 : Int32), M)
theorem T_X11_ask_b27 (r : (Int32 × gM)) (M : gM) (h : F_X11_ask_b27 M = some r) : GW 3 0 0 X_X11_ask 27 [] [] M (some (vi r.1), r.2) := by
  delta F_X11_ask_b27 at h
  refine GW_iconst (X := X_X11_ask) (pc := 27) (v := -1) d_X11_ask_27 (by decide) ?_
  replace h := Option.some.inj h
  subst h
  exact GW_ret (X := X_X11_ask) (pc := 28) d_X11_ask_28 rfl trivial
def F_X11_ask_b68 (l0 : Option Nat) (l1 : Int32) (l2 : Int32) (s0 : Int32) (M : gM) : Option (Int32 × gM) :=
  (gR 11 M l0 5).bind fun v1 => (gI 8 M v1 6).bind fun v2 => (pI 8 M v1 6 (v2 - (1 : Int32))).bind fun M3 => (gR 11 M3 l0 5).bind fun v4 => (gR 11 M3 l0 11).bind fun v5 => (gO 8 M3 v4).bind fun i6 => (F_X8_isAsked (some i6) v5 l1 l2 M3).bind fun M7 => some (s0, M7)
theorem T_X11_ask_b68 (r : (Int32 × gM)) (l0 : Option Nat) (l1 : Int32) (l2 : Int32) (s0 : Int32) (M : gM) (h : F_X11_ask_b68 l0 l1 l2 s0 M = some r) : GW 3 0 0 X_X11_ask 68 [(0, vr l0), (1, vi l1), (2, vi l2)] [vi s0] M (some (vi r.1), r.2) := by
  delta F_X11_ask_b68 at h
  refine GW_istore_n (X := X_X11_ask) (pc := 68) d_X11_ask_68 rfl (Nat.le_of_ble_eq_true rfl) (lv2 := [(3, vi s0), (0, vr l0), (1, vi l1), (2, vi l2)]) rfl ?_
  refine GW_aload_n (X := X_X11_ask) (pc := 69) d_X11_ask_69 rfl 1 rfl ?_
  replace h := g_bd h
  obtain ⟨v1, hv1, h⟩ := h
  refine GW_getR (X := X_X11_ask) (pc := 70) f_X11_25 d_X11_ask_70 hv1 (Or.inl ⟨_, ty_11_5⟩) ?_
  refine GW_dup (X := X_X11_ask) (pc := 73) d_X11_ask_73 rfl ?_
  replace h := g_bd h
  obtain ⟨v2, hv2, h⟩ := h
  refine GW_getI (X := X_X11_ask) (pc := 74) f_X11_193 d_X11_ask_74 hv2 (Or.inl ty_8_6) ?_
  refine GW_iconst (X := X_X11_ask) (pc := 77) (v := 1) d_X11_ask_77 (by decide) ?_
  refine GW_isub (X := X_X11_ask) (pc := 78) d_X11_ask_78 ?_
  replace h := g_bd h
  obtain ⟨M3, hM3, h⟩ := h
  refine GW_putI (X := X_X11_ask) (pc := 79) f_X11_193 d_X11_ask_79 hM3 (Or.inl fi_8_6) (Or.inl ty_8_6) ?_
  refine GW_aload_n (X := X_X11_ask) (pc := 82) d_X11_ask_82 rfl 1 rfl ?_
  replace h := g_bd h
  obtain ⟨v4, hv4, h⟩ := h
  refine GW_getR (X := X_X11_ask) (pc := 83) f_X11_25 d_X11_ask_83 hv4 (Or.inl ⟨_, ty_11_5⟩) ?_
  refine GW_aload_n (X := X_X11_ask) (pc := 86) d_X11_ask_86 rfl 1 rfl ?_
  replace h := g_bd h
  obtain ⟨v5, hv5, h⟩ := h
  refine GW_getR (X := X_X11_ask) (pc := 87) f_X11_59 d_X11_ask_87 hv5 (Or.inl ⟨_, ty_11_11⟩) ?_
  refine GW_iload_n (X := X_X11_ask) (pc := 90) d_X11_ask_90 rfl 2 rfl ?_
  refine GW_iload_n (X := X_X11_ask) (pc := 91) d_X11_ask_91 rfl 3 rfl ?_
  replace h := g_bd h
  obtain ⟨i6, hi6, h⟩ := h
  obtain ⟨rfl, ki6⟩ := g_gO hi6
  replace h := g_bd h
  obtain ⟨M7, hM7, h⟩ := h
  refine GW_callV (X := X_X11_ask) (pc := 92) (bc0 := 0) (bs0 := 0) (r := none) (M2 := M7) (c0 := 8) (T_X8_isAsked (some i6) v5 l1 l2 M3 M7 hM7) (Nat.le_of_ble_eq_true rfl) (Nat.le_of_ble_eq_true rfl) rfl g_cok8 ki6 yc_X8_isAsked ⟨m_931, m_932, m_933, m_119, m_934⟩ d_X11_ask_92 rfl (st := []) rfl (Nat.le_of_ble_eq_true rfl) (Nat.le_of_ble_eq_true rfl) (Nat.le_of_ble_eq_true rfl) (st2 := []) rfl ?_
  refine GW_iload_n (X := X_X11_ask) (pc := 95) d_X11_ask_95 rfl 0 rfl ?_
  replace h := Option.some.inj h
  subst h
  exact GW_ret (X := X_X11_ask) (pc := 96) d_X11_ask_96 rfl trivial
def F_X11_ask_b0 (l0 : Option Nat) (l1 : Int32) (l2 : Int32) (M : gM) : Option (Int32 × gM) :=
  (gO 11 M l0).bind fun i1 => (F_X11_isHeir (some i1) l1 M).bind fun v2 => if v2 = 0 then (F_X11_ask_b27 M) else ((F_X11_isThing (some i1) l2 M).bind fun v3 => if v3 = 0 then (F_X11_ask_b27 M) else ((gR 11 M (some i1) 5).bind fun v4 => (gI 8 M v4 6).bind fun v5 => if (1 : Int32) ≤ v5 then ((gR 11 M (some i1) 7).bind fun v6 => (gR 11 M (some i1) 5).bind fun v7 => (gO 4 M v6).bind fun i8 => (F_X4_keep (some i8) v7 M).bind fun M9 => (gC 11 M9 i1).bind fun _ => (F_X11_isKnown (some i1) l1 l2 M9).bind fun v11 => if v11 = 0 then (F_X11_ask_b68 (some i1) l1 l2 (10 : Int32) M9) else ((gR 11 M9 (some i1) 5).bind fun v12 => (gR 8 M9 v12 0).bind fun v13 => (aI 20 M9 v13 ((l1 * (7 : Int32)) + l2)).bind fun v14 => F_X11_ask_b68 (some i1) l1 l2 v14 M9)) else (F_X11_ask_b27 M)))
set_option maxHeartbeats 1000000 in
theorem T_X11_ask_b0 (r : (Int32 × gM)) (l0 : Option Nat) (l1 : Int32) (l2 : Int32) (M : gM) (h : F_X11_ask_b0 l0 l1 l2 M = some r) : GW 3 0 0 X_X11_ask 0 [(0, vr l0), (1, vi l1), (2, vi l2)] [] M (some (vi r.1), r.2) := by
  delta F_X11_ask_b0 at h
  refine GW_aload_n (X := X_X11_ask) (pc := 0) d_X11_ask_0 rfl 0 rfl ?_
  refine GW_iload_n (X := X_X11_ask) (pc := 1) d_X11_ask_1 rfl 1 rfl ?_
  replace h := g_bd h
  obtain ⟨i1, hi1, h⟩ := h
  obtain ⟨rfl, ki1⟩ := g_gO hi1
  replace h := g_bd h
  obtain ⟨v2, hv2, h⟩ := h
  refine GW_callV (X := X_X11_ask) (pc := 2) (bc0 := 0) (bs0 := 0) (r := some (vi v2)) (M2 := M) (c0 := 11) (T_X11_isHeir (some i1) l1 M v2 hv2) (Nat.le_of_ble_eq_true rfl) (Nat.le_of_ble_eq_true rfl) rfl g_cok11 ki1 yc_X11_isHeir ⟨m_768, m_770, m_20, m_116, m_771⟩ d_X11_ask_2 rfl (st := []) rfl (Nat.le_of_ble_eq_true rfl) (Nat.le_of_ble_eq_true rfl) (Nat.le_of_ble_eq_true rfl) (st2 := [vi v2]) rfl ?_
  refine GW_if_eq (X := X_X11_ask) (pc := 5) 27 d_X11_ask_5 (by decide) (fun c => ?_) (fun c => ?_)
  · replace h := g_ip c h
    refine GW_sub [] rfl ?_
    exact T_X11_ask_b27 r M h
  · replace h := g_ie c h
    refine GW_aload_n (X := X_X11_ask) (pc := 8) d_X11_ask_8 rfl 0 rfl ?_
    refine GW_iload_n (X := X_X11_ask) (pc := 9) d_X11_ask_9 rfl 2 rfl ?_
    replace h := g_bd h
    obtain ⟨v3, hv3, h⟩ := h
    refine GW_callV (X := X_X11_ask) (pc := 10) (bc0 := 0) (bs0 := 0) (r := some (vi v3)) (M2 := M) (c0 := 11) (T_X11_isThing (some i1) l2 M v3 hv3) (Nat.le_of_ble_eq_true rfl) (Nat.le_of_ble_eq_true rfl) rfl g_cok11 ki1 yc_X11_isThing ⟨m_794, m_796, m_22, m_116, m_797⟩ d_X11_ask_10 rfl (st := []) rfl (Nat.le_of_ble_eq_true rfl) (Nat.le_of_ble_eq_true rfl) (Nat.le_of_ble_eq_true rfl) (st2 := [vi v3]) rfl ?_
    refine GW_if_eq (X := X_X11_ask) (pc := 13) 27 d_X11_ask_13 (by decide) (fun c => ?_) (fun c => ?_)
    · replace h := g_ip c h
      refine GW_sub [] rfl ?_
      exact T_X11_ask_b27 r M h
    · replace h := g_ie c h
      refine GW_aload_n (X := X_X11_ask) (pc := 16) d_X11_ask_16 rfl 0 rfl ?_
      replace h := g_bd h
      obtain ⟨v4, hv4, h⟩ := h
      refine GW_getR (X := X_X11_ask) (pc := 17) f_X11_25 d_X11_ask_17 hv4 (Or.inl ⟨_, ty_11_5⟩) ?_
      replace h := g_bd h
      obtain ⟨v5, hv5, h⟩ := h
      refine GW_getI (X := X_X11_ask) (pc := 20) f_X11_193 d_X11_ask_20 hv5 (Or.inl ty_8_6) ?_
      refine GW_iconst (X := X_X11_ask) (pc := 23) (v := 1) d_X11_ask_23 (by decide) ?_
      refine GW_icmp_ge (X := X_X11_ask) (pc := 24) 29 d_X11_ask_24 (by decide) (fun c => ?_) (fun c => ?_)
      · replace h := g_ip c h
        refine GW_aload_n (X := X_X11_ask) (pc := 29) d_X11_ask_29 rfl 0 rfl ?_
        replace h := g_bd h
        obtain ⟨v6, hv6, h⟩ := h
        refine GW_getR (X := X_X11_ask) (pc := 30) f_X11_35 d_X11_ask_30 hv6 (Or.inl ⟨_, ty_11_7⟩) ?_
        refine GW_aload_n (X := X_X11_ask) (pc := 33) d_X11_ask_33 rfl 0 rfl ?_
        replace h := g_bd h
        obtain ⟨v7, hv7, h⟩ := h
        refine GW_getR (X := X_X11_ask) (pc := 34) f_X11_25 d_X11_ask_34 hv7 (Or.inl ⟨_, ty_11_5⟩) ?_
        replace h := g_bd h
        obtain ⟨i8, hi8, h⟩ := h
        obtain ⟨rfl, ki8⟩ := g_gO hi8
        replace h := g_bd h
        obtain ⟨M9, hM9, h⟩ := h
        refine GW_callV (X := X_X11_ask) (pc := 37) (bc0 := 0) (bs0 := 0) (r := none) (M2 := M9) (c0 := 4) (T_X4_keep (some i8) v7 M M9 hM9) (Nat.le_of_ble_eq_true rfl) (Nat.le_of_ble_eq_true rfl) rfl g_cok4 ki8 yc_X4_keep ⟨m_825, m_826, m_827, m_120, m_828⟩ d_X11_ask_37 rfl (st := []) rfl (Nat.le_of_ble_eq_true rfl) (Nat.le_of_ble_eq_true rfl) (Nat.le_of_ble_eq_true rfl) (st2 := []) rfl ?_
        refine GW_aload_n (X := X_X11_ask) (pc := 40) d_X11_ask_40 rfl 0 rfl ?_
        refine GW_iload_n (X := X_X11_ask) (pc := 41) d_X11_ask_41 rfl 1 rfl ?_
        refine GW_iload_n (X := X_X11_ask) (pc := 42) d_X11_ask_42 rfl 2 rfl ?_
        replace h := g_bd h
        obtain ⟨_, kk10, h⟩ := h
        replace kk10 := g_gC kk10
        replace h := g_bd h
        obtain ⟨v11, hv11, h⟩ := h
        refine GW_callV (X := X_X11_ask) (pc := 43) (bc0 := 0) (bs0 := 0) (r := some (vi v11)) (M2 := M9) (c0 := 11) (T_X11_isKnown (some i1) l1 l2 M9 v11 hv11) (Nat.le_of_ble_eq_true rfl) (Nat.le_of_ble_eq_true rfl) rfl g_cok11 kk10 yc_X11_isKnown ⟨m_904, m_906, m_30, m_116, m_907⟩ d_X11_ask_43 rfl (st := []) rfl (Nat.le_of_ble_eq_true rfl) (Nat.le_of_ble_eq_true rfl) (Nat.le_of_ble_eq_true rfl) (st2 := [vi v11]) rfl ?_
        refine GW_if_eq (X := X_X11_ask) (pc := 46) 66 d_X11_ask_46 (by decide) (fun c => ?_) (fun c => ?_)
        · replace h := g_ip c h
          refine GW_bipush (X := X_X11_ask) (pc := 66) (v := 10) d_X11_ask_66 (by decide) ?_
          exact T_X11_ask_b68 r (some i1) l1 l2 (10 : Int32) M9 h
        · replace h := g_ie c h
          refine GW_aload_n (X := X_X11_ask) (pc := 49) d_X11_ask_49 rfl 0 rfl ?_
          replace h := g_bd h
          obtain ⟨v12, hv12, h⟩ := h
          refine GW_getR (X := X_X11_ask) (pc := 50) f_X11_25 d_X11_ask_50 hv12 (Or.inl ⟨_, ty_11_5⟩) ?_
          replace h := g_bd h
          obtain ⟨v13, hv13, h⟩ := h
          refine GW_getR (X := X_X11_ask) (pc := 53) f_X11_181 d_X11_ask_53 hv13 (Or.inr ⟨_, ty_8_0⟩) ?_
          refine GW_iload_n (X := X_X11_ask) (pc := 56) d_X11_ask_56 rfl 1 rfl ?_
          refine GW_bipush (X := X_X11_ask) (pc := 57) (v := 7) d_X11_ask_57 (by decide) ?_
          refine GW_imul (X := X_X11_ask) (pc := 59) d_X11_ask_59 ?_
          refine GW_iload_n (X := X_X11_ask) (pc := 60) d_X11_ask_60 rfl 2 rfl ?_
          refine GW_iadd (X := X_X11_ask) (pc := 61) d_X11_ask_61 ?_
          replace h := g_bd h
          obtain ⟨v14, hv14, h⟩ := h
          refine GW_iald (X := X_X11_ask) (pc := 62) d_X11_ask_62 hv14 ?_
          refine GW_goto (X := X_X11_ask) (pc := 63) 68 d_X11_ask_63 (by decide) ?_
          exact T_X11_ask_b68 r (some i1) l1 l2 v14 M9 h
      · replace h := g_ie c h
        refine GW_sub [] rfl ?_
        exact T_X11_ask_b27 r M h
def F_X11_ask (l0 : Option Nat) (l1 : Int32) (l2 : Int32) (M : gM) : Option (Int32 × gM) := F_X11_ask_b0 l0 l1 l2 M
theorem T_X11_ask (l0 : Option Nat) (l1 : Int32) (l2 : Int32) (M : gM) (r : (Int32 × gM)) (h : F_X11_ask l0 l1 l2 M = some r) : g_Met 3 0 0 yX11_ask X_X11_ask [vr l0, vi l1, vi l2] M (some (vi r.1), r.2) :=
  g_Met_of pn_RX11 rfl (Nat.le_of_ble_eq_true rfl) (fun h => by cases h) (GW_sub [0, 1, 2] rfl (T_X11_ask_b0 r l0 l1 l2 M h))
/-! ForgetHeirsModel.asks(II)I -/
theorem d_X12_asks_0 : decode cX12_asks 0 = .ok (.aload_n 0, 1) := by decide +kernel
theorem d_X12_asks_1 : decode cX12_asks 1 = .ok (.iload_n 1, 1) := by decide +kernel
theorem d_X12_asks_2 : decode cX12_asks 2 = .ok (.iload_n 2, 1) := by decide +kernel
theorem d_X12_asks_3 : decode cX12_asks 3 = .ok (.invokevirtual 297, 3) := by decide +kernel
theorem d_X12_asks_6 : decode cX12_asks 6 = .ok (.istore_n 3, 1) := by decide +kernel
theorem d_X12_asks_7 : decode cX12_asks 7 = .ok (.iload_n 3, 1) := by decide +kernel
theorem d_X12_asks_8 : decode cX12_asks 8 = .ok (.ifCond .lt 21, 3) := by decide +kernel
theorem d_X12_asks_11 : decode cX12_asks 11 = .ok (.iload_n 3, 1) := by decide +kernel
theorem d_X12_asks_12 : decode cX12_asks 12 = .ok (.aload_n 0, 1) := by decide +kernel
theorem d_X12_asks_13 : decode cX12_asks 13 = .ok (.iload_n 2, 1) := by decide +kernel
theorem d_X12_asks_14 : decode cX12_asks 14 = .ok (.iconst 0, 1) := by decide +kernel
theorem d_X12_asks_15 : decode cX12_asks 15 = .ok (.invokevirtual 301, 3) := by decide +kernel
theorem d_X12_asks_18 : decode cX12_asks 18 = .ok (.if_icmp .eq 11, 3) := by decide +kernel
theorem d_X12_asks_21 : decode cX12_asks 21 = .ok (.aload_n 0, 1) := by decide +kernel
theorem d_X12_asks_22 : decode cX12_asks 22 = .ok (.iload_n 1, 1) := by decide +kernel
theorem d_X12_asks_23 : decode cX12_asks 23 = .ok (.iload_n 2, 1) := by decide +kernel
theorem d_X12_asks_24 : decode cX12_asks 24 = .ok (.iconst (-1), 1) := by decide +kernel
theorem d_X12_asks_25 : decode cX12_asks 25 = .ok (.iconst 0, 1) := by decide +kernel
theorem d_X12_asks_26 : decode cX12_asks 26 = .ok (.invokevirtual 358, 3) := by decide +kernel
theorem d_X12_asks_29 : decode cX12_asks 29 = .ok (.iload_n 3, 1) := by decide +kernel
theorem d_X12_asks_30 : decode cX12_asks 30 = .ok (.ifCond .ge 8, 3) := by decide +kernel
theorem d_X12_asks_33 : decode cX12_asks 33 = .ok (.bipush 10, 2) := by decide +kernel
theorem d_X12_asks_35 : decode cX12_asks 35 = .ok (.goto 4, 3) := by decide +kernel
theorem d_X12_asks_38 : decode cX12_asks 38 = .ok (.iload_n 3, 1) := by decide +kernel
theorem d_X12_asks_39 : decode cX12_asks 39 = .ok (.ireturn, 1) := by decide +kernel
abbrev X_X12_asks : gX := (RX12, cX12_asks, 4, (some .int), false)
def F_X12_asks_b29 (l3 : Int32) (M : gM) : Option (Int32 × gM) :=
  if 0 ≤ l3 then (some (l3, M)) else (some ((10 : Int32), M))
theorem T_X12_asks_b29 (r : (Int32 × gM)) (l3 : Int32) (M : gM) (h : F_X12_asks_b29 l3 M = some r) : GW 1 0 0 X_X12_asks 29 [(3, vi l3)] [] M (some (vi r.1), r.2) := by
  delta F_X12_asks_b29 at h
  refine GW_iload_n (X := X_X12_asks) (pc := 29) d_X12_asks_29 rfl 0 rfl ?_
  refine GW_if_ge (X := X_X12_asks) (pc := 30) 38 d_X12_asks_30 (by decide) (fun c => ?_) (fun c => ?_)
  · replace h := g_ip c h
    refine GW_iload_n (X := X_X12_asks) (pc := 38) d_X12_asks_38 rfl 0 rfl ?_
    replace h := Option.some.inj h
    subst h
    exact GW_ret (X := X_X12_asks) (pc := 39) d_X12_asks_39 rfl trivial
  · replace h := g_ie c h
    refine GW_bipush (X := X_X12_asks) (pc := 33) (v := 10) d_X12_asks_33 (by decide) ?_
    refine GW_goto (X := X_X12_asks) (pc := 35) 39 d_X12_asks_35 (by decide) ?_
    replace h := Option.some.inj h
    subst h
    exact GW_ret (X := X_X12_asks) (pc := 39) d_X12_asks_39 rfl trivial
def F_X12_asks_b0 (l0 : Option Nat) (l1 : Int32) (l2 : Int32) (M : gM) : Option (Int32 × gM) :=
  (gO 12 M l0).bind fun i1 => (F_X12_valueOf (some i1) l1 l2 M).bind fun v2 => if v2 < 0 then (F_X12_asks_b29 v2 M) else ((F_X12_thingOf (some i1) l2 (0 : Int32) M).bind fun v3 => if v2 = v3 then (F_X12_asks_b29 v2 M) else ((F_X12_knowsNow (some i1) l1 l2 (-1 : Int32) (0 : Int32) M).bind fun M4 => F_X12_asks_b29 v2 M4))
theorem T_X12_asks_b0 (r : (Int32 × gM)) (l0 : Option Nat) (l1 : Int32) (l2 : Int32) (M : gM) (h : F_X12_asks_b0 l0 l1 l2 M = some r) : GW 1 0 0 X_X12_asks 0 [(0, vr l0), (1, vi l1), (2, vi l2)] [] M (some (vi r.1), r.2) := by
  delta F_X12_asks_b0 at h
  refine GW_aload_n (X := X_X12_asks) (pc := 0) d_X12_asks_0 rfl 0 rfl ?_
  refine GW_iload_n (X := X_X12_asks) (pc := 1) d_X12_asks_1 rfl 1 rfl ?_
  refine GW_iload_n (X := X_X12_asks) (pc := 2) d_X12_asks_2 rfl 2 rfl ?_
  replace h := g_bd h
  obtain ⟨i1, hi1, h⟩ := h
  obtain ⟨rfl, ki1⟩ := g_gO hi1
  replace h := g_bd h
  obtain ⟨v2, hv2, h⟩ := h
  refine GW_callV (X := X_X12_asks) (pc := 3) (bc0 := 0) (bs0 := 0) (r := some (vi v2)) (M2 := M) (c0 := 12) (T_X12_valueOf (some i1) l1 l2 M v2 hv2) (Nat.le_of_ble_eq_true rfl) (Nat.le_of_ble_eq_true rfl) rfl g_cok12 ki1 yc_X12_valueOf ⟨m_1436, m_1438, m_81, m_127, m_1439⟩ d_X12_asks_3 rfl (st := []) rfl (Nat.le_of_ble_eq_true rfl) (Nat.le_of_ble_eq_true rfl) (Nat.le_of_ble_eq_true rfl) (st2 := [vi v2]) rfl ?_
  refine GW_istore_n (X := X_X12_asks) (pc := 6) d_X12_asks_6 rfl (Nat.le_of_ble_eq_true rfl) (lv2 := [(3, vi v2), (0, vr (some i1)), (1, vi l1), (2, vi l2)]) rfl ?_
  refine GW_iload_n (X := X_X12_asks) (pc := 7) d_X12_asks_7 rfl 0 rfl ?_
  refine GW_if_lt (X := X_X12_asks) (pc := 8) 29 d_X12_asks_8 (by decide) (fun c => ?_) (fun c => ?_)
  · replace h := g_ip c h
    refine GW_sub [0] rfl ?_
    exact T_X12_asks_b29 r v2 M h
  · replace h := g_ie c h
    refine GW_iload_n (X := X_X12_asks) (pc := 11) d_X12_asks_11 rfl 0 rfl ?_
    refine GW_aload_n (X := X_X12_asks) (pc := 12) d_X12_asks_12 rfl 1 rfl ?_
    refine GW_iload_n (X := X_X12_asks) (pc := 13) d_X12_asks_13 rfl 3 rfl ?_
    refine GW_iconst (X := X_X12_asks) (pc := 14) (v := 0) d_X12_asks_14 (by decide) ?_
    replace h := g_bd h
    obtain ⟨v3, hv3, h⟩ := h
    refine GW_callV (X := X_X12_asks) (pc := 15) (bc0 := 0) (bs0 := 0) (r := some (vi v3)) (M2 := M) (c0 := 12) (T_X12_thingOf (some i1) l2 (0 : Int32) M v3 hv3) (Nat.le_of_ble_eq_true rfl) (Nat.le_of_ble_eq_true rfl) rfl g_cok12 ki1 yc_X12_thingOf ⟨m_1428, m_1430, m_79, m_127, m_1431⟩ d_X12_asks_15 rfl (st := [vi v2]) rfl (Nat.le_of_ble_eq_true rfl) (Nat.le_of_ble_eq_true rfl) (Nat.le_of_ble_eq_true rfl) (st2 := [vi v3, vi v2]) rfl ?_
    refine GW_icmp_eq (X := X_X12_asks) (pc := 18) 29 d_X12_asks_18 (by decide) (fun c => ?_) (fun c => ?_)
    · replace h := g_ip c h
      refine GW_sub [0] rfl ?_
      exact T_X12_asks_b29 r v2 M h
    · replace h := g_ie c h
      refine GW_aload_n (X := X_X12_asks) (pc := 21) d_X12_asks_21 rfl 1 rfl ?_
      refine GW_iload_n (X := X_X12_asks) (pc := 22) d_X12_asks_22 rfl 2 rfl ?_
      refine GW_iload_n (X := X_X12_asks) (pc := 23) d_X12_asks_23 rfl 3 rfl ?_
      refine GW_iconst (X := X_X12_asks) (pc := 24) (v := -1) d_X12_asks_24 (by decide) ?_
      refine GW_iconst (X := X_X12_asks) (pc := 25) (v := 0) d_X12_asks_25 (by decide) ?_
      replace h := g_bd h
      obtain ⟨M4, hM4, h⟩ := h
      refine GW_callV (X := X_X12_asks) (pc := 26) (bc0 := 0) (bs0 := 0) (r := none) (M2 := M4) (c0 := 12) (T_X12_knowsNow (some i1) l1 l2 (-1 : Int32) (0 : Int32) M M4 hM4) (Nat.le_of_ble_eq_true rfl) (Nat.le_of_ble_eq_true rfl) rfl g_cok12 ki1 yc_X12_knowsNow ⟨m_1517, m_1519, m_96, m_127, m_1520⟩ d_X12_asks_26 rfl (st := []) rfl (Nat.le_of_ble_eq_true rfl) (Nat.le_of_ble_eq_true rfl) (Nat.le_of_ble_eq_true rfl) (st2 := []) rfl ?_
      refine GW_sub [0] rfl ?_
      exact T_X12_asks_b29 r v2 M4 h
def F_X12_asks (l0 : Option Nat) (l1 : Int32) (l2 : Int32) (M : gM) : Option (Int32 × gM) := F_X12_asks_b0 l0 l1 l2 M
theorem T_X12_asks (l0 : Option Nat) (l1 : Int32) (l2 : Int32) (M : gM) (r : (Int32 × gM)) (h : F_X12_asks l0 l1 l2 M = some r) : g_Met 1 0 0 yX12_asks X_X12_asks [vr l0, vi l1, vi l2] M (some (vi r.1), r.2) :=
  g_Met_of pn_RX12 rfl (Nat.le_of_ble_eq_true rfl) (fun h => by cases h) (GW_sub [0, 1, 2] rfl (T_X12_asks_b0 r l0 l1 l2 M h))
/-! ForgetHeirsModel.ask(II)I -/
theorem d_X12_ask_0 : decode cX12_ask 0 = .ok (.aload_n 0, 1) := by decide +kernel
theorem d_X12_ask_1 : decode cX12_ask 1 = .ok (.iload_n 1, 1) := by decide +kernel
theorem d_X12_ask_2 : decode cX12_ask 2 = .ok (.invokevirtual 322, 3) := by decide +kernel
theorem d_X12_ask_5 : decode cX12_ask 5 = .ok (.ifCond .eq 20, 3) := by decide +kernel
theorem d_X12_ask_8 : decode cX12_ask 8 = .ok (.aload_n 0, 1) := by decide +kernel
theorem d_X12_ask_9 : decode cX12_ask 9 = .ok (.iload_n 2, 1) := by decide +kernel
theorem d_X12_ask_10 : decode cX12_ask 10 = .ok (.invokevirtual 327, 3) := by decide +kernel
theorem d_X12_ask_13 : decode cX12_ask 13 = .ok (.ifCond .eq 12, 3) := by decide +kernel
theorem d_X12_ask_16 : decode cX12_ask 16 = .ok (.aload_n 0, 1) := by decide +kernel
theorem d_X12_ask_17 : decode cX12_ask 17 = .ok (.getfield 39, 3) := by decide +kernel
theorem d_X12_ask_20 : decode cX12_ask 20 = .ok (.iconst 5, 1) := by decide +kernel
theorem d_X12_ask_21 : decode cX12_ask 21 = .ok (.iaload, 1) := by decide +kernel
theorem d_X12_ask_22 : decode cX12_ask 22 = .ok (.ifCond .ne 5, 3) := by decide +kernel
theorem d_X12_ask_25 : decode cX12_ask 25 = .ok (.iconst (-1), 1) := by decide +kernel
theorem d_X12_ask_26 : decode cX12_ask 26 = .ok (.ireturn, 1) := by decide +kernel
theorem d_X12_ask_27 : decode cX12_ask 27 = .ok (.aload_n 0, 1) := by decide +kernel
theorem d_X12_ask_28 : decode cX12_ask 28 = .ok (.invokevirtual 365, 3) := by decide +kernel
theorem d_X12_ask_31 : decode cX12_ask 31 = .ok (.aload_n 0, 1) := by decide +kernel
theorem d_X12_ask_32 : decode cX12_ask 32 = .ok (.getfield 39, 3) := by decide +kernel
theorem d_X12_ask_35 : decode cX12_ask 35 = .ok (.iconst 5, 1) := by decide +kernel
theorem d_X12_ask_36 : decode cX12_ask 36 = .ok (.dup2, 1) := by decide +kernel
theorem d_X12_ask_37 : decode cX12_ask 37 = .ok (.iaload, 1) := by decide +kernel
theorem d_X12_ask_38 : decode cX12_ask 38 = .ok (.iconst 1, 1) := by decide +kernel
theorem d_X12_ask_39 : decode cX12_ask 39 = .ok (.isub, 1) := by decide +kernel
theorem d_X12_ask_40 : decode cX12_ask 40 = .ok (.iastore, 1) := by decide +kernel
theorem d_X12_ask_41 : decode cX12_ask 41 = .ok (.aload_n 0, 1) := by decide +kernel
theorem d_X12_ask_42 : decode cX12_ask 42 = .ok (.iload_n 1, 1) := by decide +kernel
theorem d_X12_ask_43 : decode cX12_ask 43 = .ok (.iload_n 2, 1) := by decide +kernel
theorem d_X12_ask_44 : decode cX12_ask 44 = .ok (.invokevirtual 378, 3) := by decide +kernel
theorem d_X12_ask_47 : decode cX12_ask 47 = .ok (.ireturn, 1) := by decide +kernel
abbrev X_X12_ask : gX := (RX12, cX12_ask, 3, (some .int), false)
def F_X12_ask_b25 (M : gM) : Option (Int32 × gM) :=
  some ((-1 : Int32), M)
theorem T_X12_ask_b25 (r : (Int32 × gM)) (M : gM) (h : F_X12_ask_b25 M = some r) : GW 2 0 0 X_X12_ask 25 [] [] M (some (vi r.1), r.2) := by
  delta F_X12_ask_b25 at h
  refine GW_iconst (X := X_X12_ask) (pc := 25) (v := -1) d_X12_ask_25 (by decide) ?_
  replace h := Option.some.inj h
  subst h
  exact GW_ret (X := X_X12_ask) (pc := 26) d_X12_ask_26 rfl trivial
def F_X12_ask_b0 (l0 : Option Nat) (l1 : Int32) (l2 : Int32) (M : gM) : Option (Int32 × gM) :=
  (gO 12 M l0).bind fun i1 => (F_X12_isHeir (some i1) l1 M).bind fun v2 => if v2 = 0 then (F_X12_ask_b25 M) else ((F_X12_isThing (some i1) l2 M).bind fun v3 => if v3 = 0 then (F_X12_ask_b25 M) else ((gR 12 M (some i1) 20).bind fun v4 => (aI 20 M v4 (5 : Int32)).bind fun v5 => if v5 = 0 then (F_X12_ask_b25 M) else ((F_X12_keepsAct (some i1) M).bind fun M6 => (gR 12 M6 (some i1) 20).bind fun v7 => (aI 20 M6 v7 (5 : Int32)).bind fun v8 => (sI M6 v7 (5 : Int32) (v8 - (1 : Int32))).bind fun M9 => (gC 12 M9 i1).bind fun _ => (F_X12_asks (some i1) l1 l2 M9).bind fun (v11, M12) => some (v11, M12))))
set_option maxHeartbeats 1000000 in
theorem T_X12_ask_b0 (r : (Int32 × gM)) (l0 : Option Nat) (l1 : Int32) (l2 : Int32) (M : gM) (h : F_X12_ask_b0 l0 l1 l2 M = some r) : GW 2 0 0 X_X12_ask 0 [(0, vr l0), (1, vi l1), (2, vi l2)] [] M (some (vi r.1), r.2) := by
  delta F_X12_ask_b0 at h
  refine GW_aload_n (X := X_X12_ask) (pc := 0) d_X12_ask_0 rfl 0 rfl ?_
  refine GW_iload_n (X := X_X12_ask) (pc := 1) d_X12_ask_1 rfl 1 rfl ?_
  replace h := g_bd h
  obtain ⟨i1, hi1, h⟩ := h
  obtain ⟨rfl, ki1⟩ := g_gO hi1
  replace h := g_bd h
  obtain ⟨v2, hv2, h⟩ := h
  refine GW_callV (X := X_X12_ask) (pc := 2) (bc0 := 0) (bs0 := 0) (r := some (vi v2)) (M2 := M) (c0 := 12) (T_X12_isHeir (some i1) l1 M v2 hv2) (Nat.le_of_ble_eq_true rfl) (Nat.le_of_ble_eq_true rfl) rfl g_cok12 ki1 yc_X12_isHeir ⟨m_1415, m_1417, m_76, m_127, m_1418⟩ d_X12_ask_2 rfl (st := []) rfl (Nat.le_of_ble_eq_true rfl) (Nat.le_of_ble_eq_true rfl) (Nat.le_of_ble_eq_true rfl) (st2 := [vi v2]) rfl ?_
  refine GW_if_eq (X := X_X12_ask) (pc := 5) 25 d_X12_ask_5 (by decide) (fun c => ?_) (fun c => ?_)
  · replace h := g_ip c h
    refine GW_sub [] rfl ?_
    exact T_X12_ask_b25 r M h
  · replace h := g_ie c h
    refine GW_aload_n (X := X_X12_ask) (pc := 8) d_X12_ask_8 rfl 0 rfl ?_
    refine GW_iload_n (X := X_X12_ask) (pc := 9) d_X12_ask_9 rfl 2 rfl ?_
    replace h := g_bd h
    obtain ⟨v3, hv3, h⟩ := h
    refine GW_callV (X := X_X12_ask) (pc := 10) (bc0 := 0) (bs0 := 0) (r := some (vi v3)) (M2 := M) (c0 := 12) (T_X12_isThing (some i1) l2 M v3 hv3) (Nat.le_of_ble_eq_true rfl) (Nat.le_of_ble_eq_true rfl) rfl g_cok12 ki1 yc_X12_isThing ⟨m_1448, m_1450, m_83, m_127, m_1451⟩ d_X12_ask_10 rfl (st := []) rfl (Nat.le_of_ble_eq_true rfl) (Nat.le_of_ble_eq_true rfl) (Nat.le_of_ble_eq_true rfl) (st2 := [vi v3]) rfl ?_
    refine GW_if_eq (X := X_X12_ask) (pc := 13) 25 d_X12_ask_13 (by decide) (fun c => ?_) (fun c => ?_)
    · replace h := g_ip c h
      refine GW_sub [] rfl ?_
      exact T_X12_ask_b25 r M h
    · replace h := g_ie c h
      refine GW_aload_n (X := X_X12_ask) (pc := 16) d_X12_ask_16 rfl 0 rfl ?_
      replace h := g_bd h
      obtain ⟨v4, hv4, h⟩ := h
      refine GW_getR (X := X_X12_ask) (pc := 17) f_X12_39 d_X12_ask_17 hv4 (Or.inr ⟨_, ty_12_20⟩) ?_
      refine GW_iconst (X := X_X12_ask) (pc := 20) (v := 5) d_X12_ask_20 (by decide) ?_
      replace h := g_bd h
      obtain ⟨v5, hv5, h⟩ := h
      refine GW_iald (X := X_X12_ask) (pc := 21) d_X12_ask_21 hv5 ?_
      refine GW_if_ne (X := X_X12_ask) (pc := 22) 27 d_X12_ask_22 (by decide) (fun c => ?_) (fun c => ?_)
      · replace h := g_ie c h
        refine GW_aload_n (X := X_X12_ask) (pc := 27) d_X12_ask_27 rfl 0 rfl ?_
        replace h := g_bd h
        obtain ⟨M6, hM6, h⟩ := h
        refine GW_callV (X := X_X12_ask) (pc := 28) (bc0 := 0) (bs0 := 0) (r := none) (M2 := M6) (c0 := 12) (T_X12_keepsAct (some i1) M M6 hM6) (Nat.le_of_ble_eq_true rfl) (Nat.le_of_ble_eq_true rfl) rfl g_cok12 ki1 yc_X12_keepsAct ⟨m_1473, m_1475, m_86, m_127, m_1476⟩ d_X12_ask_28 rfl (st := []) rfl (Nat.le_of_ble_eq_true rfl) (Nat.le_of_ble_eq_true rfl) (Nat.le_of_ble_eq_true rfl) (st2 := []) rfl ?_
        refine GW_aload_n (X := X_X12_ask) (pc := 31) d_X12_ask_31 rfl 0 rfl ?_
        replace h := g_bd h
        obtain ⟨v7, hv7, h⟩ := h
        refine GW_getR (X := X_X12_ask) (pc := 32) f_X12_39 d_X12_ask_32 hv7 (Or.inr ⟨_, ty_12_20⟩) ?_
        refine GW_iconst (X := X_X12_ask) (pc := 35) (v := 5) d_X12_ask_35 (by decide) ?_
        refine GW_dup2 (X := X_X12_ask) (pc := 36) d_X12_ask_36 rfl rfl ?_
        replace h := g_bd h
        obtain ⟨v8, hv8, h⟩ := h
        refine GW_iald (X := X_X12_ask) (pc := 37) d_X12_ask_37 hv8 ?_
        refine GW_iconst (X := X_X12_ask) (pc := 38) (v := 1) d_X12_ask_38 (by decide) ?_
        refine GW_isub (X := X_X12_ask) (pc := 39) d_X12_ask_39 ?_
        replace h := g_bd h
        obtain ⟨M9, hM9, h⟩ := h
        refine GW_iast (X := X_X12_ask) (pc := 40) d_X12_ask_40 hM9 ?_
        refine GW_aload_n (X := X_X12_ask) (pc := 41) d_X12_ask_41 rfl 0 rfl ?_
        refine GW_iload_n (X := X_X12_ask) (pc := 42) d_X12_ask_42 rfl 1 rfl ?_
        refine GW_iload_n (X := X_X12_ask) (pc := 43) d_X12_ask_43 rfl 2 rfl ?_
        replace h := g_bd h
        obtain ⟨_, kk10, h⟩ := h
        replace kk10 := g_gC kk10
        replace h := g_bd h
        obtain ⟨⟨v11, M12⟩, hv11, h⟩ := h
        dsimp only at h
        refine GW_callV (X := X_X12_ask) (pc := 44) (bc0 := 0) (bs0 := 0) (r := some (vi v11)) (M2 := M12) (c0 := 12) (T_X12_asks (some i1) l1 l2 M9 (v11, M12) hv11) (Nat.le_of_ble_eq_true rfl) (Nat.le_of_ble_eq_true rfl) rfl g_cok12 kk10 yc_X12_asks ⟨m_1541, m_1543, m_99, m_127, m_1544⟩ d_X12_ask_44 rfl (st := []) rfl (Nat.le_of_ble_eq_true rfl) (Nat.le_of_ble_eq_true rfl) (Nat.le_of_ble_eq_true rfl) (st2 := [vi v11]) rfl ?_
        replace h := Option.some.inj h
        subst h
        exact GW_ret (X := X_X12_ask) (pc := 47) d_X12_ask_47 rfl trivial
      · replace h := g_ip c h
        refine GW_sub [] rfl ?_
        exact T_X12_ask_b25 r M h
def F_X12_ask (l0 : Option Nat) (l1 : Int32) (l2 : Int32) (M : gM) : Option (Int32 × gM) := F_X12_ask_b0 l0 l1 l2 M
theorem T_X12_ask (l0 : Option Nat) (l1 : Int32) (l2 : Int32) (M : gM) (r : (Int32 × gM)) (h : F_X12_ask l0 l1 l2 M = some r) : g_Met 2 0 0 yX12_ask X_X12_ask [vr l0, vi l1, vi l2] M (some (vi r.1), r.2) :=
  g_Met_of pn_RX12 rfl (Nat.le_of_ble_eq_true rfl) (fun h => by cases h) (GW_sub [0, 1, 2] rfl (T_X12_ask_b0 r l0 l1 l2 M h))
/-! ForgetHeirs.burn(I)Z -/
theorem d_X11_burn_0 : decode cX11_burn 0 = .ok (.aload_n 0, 1) := by decide +kernel
theorem d_X11_burn_1 : decode cX11_burn 1 = .ok (.iload_n 1, 1) := by decide +kernel
theorem d_X11_burn_2 : decode cX11_burn 2 = .ok (.invokevirtual 154, 3) := by decide +kernel
theorem d_X11_burn_5 : decode cX11_burn 5 = .ok (.ifCond .eq 18, 3) := by decide +kernel
theorem d_X11_burn_8 : decode cX11_burn 8 = .ok (.aload_n 0, 1) := by decide +kernel
theorem d_X11_burn_9 : decode cX11_burn 9 = .ok (.getfield 25, 3) := by decide +kernel
theorem d_X11_burn_12 : decode cX11_burn 12 = .ok (.getfield 169, 3) := by decide +kernel
theorem d_X11_burn_15 : decode cX11_burn 15 = .ok (.iload_n 1, 1) := by decide +kernel
theorem d_X11_burn_16 : decode cX11_burn 16 = .ok (.invokestatic 140, 3) := by decide +kernel
theorem d_X11_burn_19 : decode cX11_burn 19 = .ok (.iconst 1, 1) := by decide +kernel
theorem d_X11_burn_20 : decode cX11_burn 20 = .ok (.if_icmp .ne 5, 3) := by decide +kernel
theorem d_X11_burn_23 : decode cX11_burn 23 = .ok (.iconst 0, 1) := by decide +kernel
theorem d_X11_burn_24 : decode cX11_burn 24 = .ok (.ireturn, 1) := by decide +kernel
theorem d_X11_burn_25 : decode cX11_burn 25 = .ok (.aload_n 0, 1) := by decide +kernel
theorem d_X11_burn_26 : decode cX11_burn 26 = .ok (.getfield 35, 3) := by decide +kernel
theorem d_X11_burn_29 : decode cX11_burn 29 = .ok (.aload_n 0, 1) := by decide +kernel
theorem d_X11_burn_30 : decode cX11_burn 30 = .ok (.getfield 25, 3) := by decide +kernel
theorem d_X11_burn_33 : decode cX11_burn 33 = .ok (.invokevirtual 208, 3) := by decide +kernel
theorem d_X11_burn_36 : decode cX11_burn 36 = .ok (.aload_n 0, 1) := by decide +kernel
theorem d_X11_burn_37 : decode cX11_burn 37 = .ok (.getfield 25, 3) := by decide +kernel
theorem d_X11_burn_40 : decode cX11_burn 40 = .ok (.dup, 1) := by decide +kernel
theorem d_X11_burn_41 : decode cX11_burn 41 = .ok (.getfield 169, 3) := by decide +kernel
theorem d_X11_burn_44 : decode cX11_burn 44 = .ok (.iconst 1, 1) := by decide +kernel
theorem d_X11_burn_45 : decode cX11_burn 45 = .ok (.iload_n 1, 1) := by decide +kernel
theorem d_X11_burn_46 : decode cX11_burn 46 = .ok (.ishl, 1) := by decide +kernel
theorem d_X11_burn_47 : decode cX11_burn 47 = .ok (.ior, 1) := by decide +kernel
theorem d_X11_burn_48 : decode cX11_burn 48 = .ok (.putfield 169, 3) := by decide +kernel
theorem d_X11_burn_51 : decode cX11_burn 51 = .ok (.iconst 1, 1) := by decide +kernel
theorem d_X11_burn_52 : decode cX11_burn 52 = .ok (.ireturn, 1) := by decide +kernel
abbrev X_X11_burn : gX := (RX11, cX11_burn, 2, (some .boolean), false)
def F_X11_burn_b23 (M : gM) : Option (Int32 × gM) :=
  some ((0 : Int32), M)
theorem T_X11_burn_b23 (r : (Int32 × gM)) (M : gM) (h : F_X11_burn_b23 M = some r) : GW 3 0 0 X_X11_burn 23 [] [] M (some (vi r.1), r.2) := by
  delta F_X11_burn_b23 at h
  refine GW_iconst (X := X_X11_burn) (pc := 23) (v := 0) d_X11_burn_23 (by decide) ?_
  replace h := Option.some.inj h
  subst h
  exact GW_ret (X := X_X11_burn) (pc := 24) d_X11_burn_24 rfl g_rok0
def F_X11_burn_b0 (l0 : Option Nat) (l1 : Int32) (M : gM) : Option (Int32 × gM) :=
  (gO 11 M l0).bind fun i1 => (F_X11_isThing (some i1) l1 M).bind fun v2 => if v2 = 0 then (F_X11_burn_b23 M) else ((gR 11 M (some i1) 5).bind fun v3 => (gI 8 M v3 4).bind fun v4 => (F_X11_bit v4 l1 M).bind fun v5 => if v5 = (1 : Int32) then (F_X11_burn_b23 M) else ((gR 11 M (some i1) 7).bind fun v6 => (gR 11 M (some i1) 5).bind fun v7 => (gO 4 M v6).bind fun i8 => (F_X4_keep (some i8) v7 M).bind fun M9 => (gR 11 M9 (some i1) 5).bind fun v10 => (gI 8 M9 v10 4).bind fun v11 => (pI 8 M9 v10 4 (v11 ||| ((1 : Int32) <<< (l1 &&& 31)))).bind fun M12 => some ((1 : Int32), M12)))
set_option maxHeartbeats 1000000 in
theorem T_X11_burn_b0 (r : (Int32 × gM)) (l0 : Option Nat) (l1 : Int32) (M : gM) (h : F_X11_burn_b0 l0 l1 M = some r) : GW 3 0 0 X_X11_burn 0 [(0, vr l0), (1, vi l1)] [] M (some (vi r.1), r.2) := by
  delta F_X11_burn_b0 at h
  refine GW_aload_n (X := X_X11_burn) (pc := 0) d_X11_burn_0 rfl 0 rfl ?_
  refine GW_iload_n (X := X_X11_burn) (pc := 1) d_X11_burn_1 rfl 1 rfl ?_
  replace h := g_bd h
  obtain ⟨i1, hi1, h⟩ := h
  obtain ⟨rfl, ki1⟩ := g_gO hi1
  replace h := g_bd h
  obtain ⟨v2, hv2, h⟩ := h
  refine GW_callV (X := X_X11_burn) (pc := 2) (bc0 := 0) (bs0 := 0) (r := some (vi v2)) (M2 := M) (c0 := 11) (T_X11_isThing (some i1) l1 M v2 hv2) (Nat.le_of_ble_eq_true rfl) (Nat.le_of_ble_eq_true rfl) rfl g_cok11 ki1 yc_X11_isThing ⟨m_794, m_796, m_22, m_116, m_797⟩ d_X11_burn_2 rfl (st := []) rfl (Nat.le_of_ble_eq_true rfl) (Nat.le_of_ble_eq_true rfl) (Nat.le_of_ble_eq_true rfl) (st2 := [vi v2]) rfl ?_
  refine GW_if_eq (X := X_X11_burn) (pc := 5) 23 d_X11_burn_5 (by decide) (fun c => ?_) (fun c => ?_)
  · replace h := g_ip c h
    refine GW_sub [] rfl ?_
    exact T_X11_burn_b23 r M h
  · replace h := g_ie c h
    refine GW_aload_n (X := X_X11_burn) (pc := 8) d_X11_burn_8 rfl 0 rfl ?_
    replace h := g_bd h
    obtain ⟨v3, hv3, h⟩ := h
    refine GW_getR (X := X_X11_burn) (pc := 9) f_X11_25 d_X11_burn_9 hv3 (Or.inl ⟨_, ty_11_5⟩) ?_
    replace h := g_bd h
    obtain ⟨v4, hv4, h⟩ := h
    refine GW_getI (X := X_X11_burn) (pc := 12) f_X11_169 d_X11_burn_12 hv4 (Or.inl ty_8_4) ?_
    refine GW_iload_n (X := X_X11_burn) (pc := 15) d_X11_burn_15 rfl 1 rfl ?_
    replace h := g_bd h
    obtain ⟨v5, hv5, h⟩ := h
    refine GW_callS (X := X_X11_burn) (pc := 16) (bc0 := 0) (bs0 := 0) (r := some (vi v5)) (M2 := M) (T_X11_bit v4 l1 M v5 hv5) (Nat.le_of_ble_eq_true rfl) (Nat.le_of_ble_eq_true rfl) yc_X11_bit ⟨m_772, m_646, m_116, m_647⟩ d_X11_burn_16 rfl (st := []) rfl (Nat.le_of_ble_eq_true rfl) (Nat.le_of_ble_eq_true rfl) (Nat.le_of_ble_eq_true rfl) (st2 := [vi v5]) rfl ?_
    refine GW_iconst (X := X_X11_burn) (pc := 19) (v := 1) d_X11_burn_19 (by decide) ?_
    refine GW_icmp_ne (X := X_X11_burn) (pc := 20) 25 d_X11_burn_20 (by decide) (fun c => ?_) (fun c => ?_)
    · replace h := g_ie c h
      refine GW_aload_n (X := X_X11_burn) (pc := 25) d_X11_burn_25 rfl 0 rfl ?_
      replace h := g_bd h
      obtain ⟨v6, hv6, h⟩ := h
      refine GW_getR (X := X_X11_burn) (pc := 26) f_X11_35 d_X11_burn_26 hv6 (Or.inl ⟨_, ty_11_7⟩) ?_
      refine GW_aload_n (X := X_X11_burn) (pc := 29) d_X11_burn_29 rfl 0 rfl ?_
      replace h := g_bd h
      obtain ⟨v7, hv7, h⟩ := h
      refine GW_getR (X := X_X11_burn) (pc := 30) f_X11_25 d_X11_burn_30 hv7 (Or.inl ⟨_, ty_11_5⟩) ?_
      replace h := g_bd h
      obtain ⟨i8, hi8, h⟩ := h
      obtain ⟨rfl, ki8⟩ := g_gO hi8
      replace h := g_bd h
      obtain ⟨M9, hM9, h⟩ := h
      refine GW_callV (X := X_X11_burn) (pc := 33) (bc0 := 0) (bs0 := 0) (r := none) (M2 := M9) (c0 := 4) (T_X4_keep (some i8) v7 M M9 hM9) (Nat.le_of_ble_eq_true rfl) (Nat.le_of_ble_eq_true rfl) rfl g_cok4 ki8 yc_X4_keep ⟨m_825, m_826, m_827, m_120, m_828⟩ d_X11_burn_33 rfl (st := []) rfl (Nat.le_of_ble_eq_true rfl) (Nat.le_of_ble_eq_true rfl) (Nat.le_of_ble_eq_true rfl) (st2 := []) rfl ?_
      refine GW_aload_n (X := X_X11_burn) (pc := 36) d_X11_burn_36 rfl 0 rfl ?_
      replace h := g_bd h
      obtain ⟨v10, hv10, h⟩ := h
      refine GW_getR (X := X_X11_burn) (pc := 37) f_X11_25 d_X11_burn_37 hv10 (Or.inl ⟨_, ty_11_5⟩) ?_
      refine GW_dup (X := X_X11_burn) (pc := 40) d_X11_burn_40 rfl ?_
      replace h := g_bd h
      obtain ⟨v11, hv11, h⟩ := h
      refine GW_getI (X := X_X11_burn) (pc := 41) f_X11_169 d_X11_burn_41 hv11 (Or.inl ty_8_4) ?_
      refine GW_iconst (X := X_X11_burn) (pc := 44) (v := 1) d_X11_burn_44 (by decide) ?_
      refine GW_iload_n (X := X_X11_burn) (pc := 45) d_X11_burn_45 rfl 1 rfl ?_
      refine GW_ishl (X := X_X11_burn) (pc := 46) d_X11_burn_46 ?_
      refine GW_ior (X := X_X11_burn) (pc := 47) d_X11_burn_47 ?_
      replace h := g_bd h
      obtain ⟨M12, hM12, h⟩ := h
      refine GW_putI (X := X_X11_burn) (pc := 48) f_X11_169 d_X11_burn_48 hM12 (Or.inl fi_8_4) (Or.inl ty_8_4) ?_
      refine GW_iconst (X := X_X11_burn) (pc := 51) (v := 1) d_X11_burn_51 (by decide) ?_
      replace h := Option.some.inj h
      subst h
      exact GW_ret (X := X_X11_burn) (pc := 52) d_X11_burn_52 rfl g_rok1
    · replace h := g_ip c h
      refine GW_sub [] rfl ?_
      exact T_X11_burn_b23 r M h
def F_X11_burn (l0 : Option Nat) (l1 : Int32) (M : gM) : Option (Int32 × gM) := F_X11_burn_b0 l0 l1 M
theorem T_X11_burn (l0 : Option Nat) (l1 : Int32) (M : gM) (r : (Int32 × gM)) (h : F_X11_burn l0 l1 M = some r) : g_Met 3 0 0 yX11_burn X_X11_burn [vr l0, vi l1] M (some (vi r.1), r.2) :=
  g_Met_of pn_RX11 rfl (Nat.le_of_ble_eq_true rfl) (fun h => by cases h) (GW_sub [0, 1] rfl (T_X11_burn_b0 r l0 l1 M h))
/-! ForgetHeirsModel.burn(I)Z -/
theorem d_X12_burn_0 : decode cX12_burn 0 = .ok (.aload_n 0, 1) := by decide +kernel
theorem d_X12_burn_1 : decode cX12_burn 1 = .ok (.iload_n 1, 1) := by decide +kernel
theorem d_X12_burn_2 : decode cX12_burn 2 = .ok (.invokevirtual 327, 3) := by decide +kernel
theorem d_X12_burn_5 : decode cX12_burn 5 = .ok (.ifCond .eq 17, 3) := by decide +kernel
theorem d_X12_burn_8 : decode cX12_burn 8 = .ok (.aload_n 0, 1) := by decide +kernel
theorem d_X12_burn_9 : decode cX12_burn 9 = .ok (.getfield 39, 3) := by decide +kernel
theorem d_X12_burn_12 : decode cX12_burn 12 = .ok (.bipush 8, 2) := by decide +kernel
theorem d_X12_burn_14 : decode cX12_burn 14 = .ok (.iaload, 1) := by decide +kernel
theorem d_X12_burn_15 : decode cX12_burn 15 = .ok (.iload_n 1, 1) := by decide +kernel
theorem d_X12_burn_16 : decode cX12_burn 16 = .ok (.invokestatic 226, 3) := by decide +kernel
theorem d_X12_burn_19 : decode cX12_burn 19 = .ok (.ifCond .eq 5, 3) := by decide +kernel
theorem d_X12_burn_22 : decode cX12_burn 22 = .ok (.iconst 0, 1) := by decide +kernel
theorem d_X12_burn_23 : decode cX12_burn 23 = .ok (.ireturn, 1) := by decide +kernel
theorem d_X12_burn_24 : decode cX12_burn 24 = .ok (.aload_n 0, 1) := by decide +kernel
theorem d_X12_burn_25 : decode cX12_burn 25 = .ok (.invokevirtual 365, 3) := by decide +kernel
theorem d_X12_burn_28 : decode cX12_burn 28 = .ok (.aload_n 0, 1) := by decide +kernel
theorem d_X12_burn_29 : decode cX12_burn 29 = .ok (.getfield 39, 3) := by decide +kernel
theorem d_X12_burn_32 : decode cX12_burn 32 = .ok (.bipush 8, 2) := by decide +kernel
theorem d_X12_burn_34 : decode cX12_burn 34 = .ok (.dup2, 1) := by decide +kernel
theorem d_X12_burn_35 : decode cX12_burn 35 = .ok (.iaload, 1) := by decide +kernel
theorem d_X12_burn_36 : decode cX12_burn 36 = .ok (.iconst 1, 1) := by decide +kernel
theorem d_X12_burn_37 : decode cX12_burn 37 = .ok (.iload_n 1, 1) := by decide +kernel
theorem d_X12_burn_38 : decode cX12_burn 38 = .ok (.ishl, 1) := by decide +kernel
theorem d_X12_burn_39 : decode cX12_burn 39 = .ok (.ior, 1) := by decide +kernel
theorem d_X12_burn_40 : decode cX12_burn 40 = .ok (.iastore, 1) := by decide +kernel
theorem d_X12_burn_41 : decode cX12_burn 41 = .ok (.iconst 1, 1) := by decide +kernel
theorem d_X12_burn_42 : decode cX12_burn 42 = .ok (.ireturn, 1) := by decide +kernel
abbrev X_X12_burn : gX := (RX12, cX12_burn, 2, (some .boolean), false)
def F_X12_burn_b22 (M : gM) : Option (Int32 × gM) :=
  some ((0 : Int32), M)
theorem T_X12_burn_b22 (r : (Int32 × gM)) (M : gM) (h : F_X12_burn_b22 M = some r) : GW 1 0 0 X_X12_burn 22 [] [] M (some (vi r.1), r.2) := by
  delta F_X12_burn_b22 at h
  refine GW_iconst (X := X_X12_burn) (pc := 22) (v := 0) d_X12_burn_22 (by decide) ?_
  replace h := Option.some.inj h
  subst h
  exact GW_ret (X := X_X12_burn) (pc := 23) d_X12_burn_23 rfl g_rok0
def F_X12_burn_b0 (l0 : Option Nat) (l1 : Int32) (M : gM) : Option (Int32 × gM) :=
  (gO 12 M l0).bind fun i1 => (F_X12_isThing (some i1) l1 M).bind fun v2 => if v2 = 0 then (F_X12_burn_b22 M) else ((gR 12 M (some i1) 20).bind fun v3 => (aI 20 M v3 (8 : Int32)).bind fun v4 => (F_X12_isOf v4 l1 M).bind fun v5 => if v5 = 0 then ((F_X12_keepsAct (some i1) M).bind fun M6 => (gR 12 M6 (some i1) 20).bind fun v7 => (aI 20 M6 v7 (8 : Int32)).bind fun v8 => (sI M6 v7 (8 : Int32) (v8 ||| ((1 : Int32) <<< (l1 &&& 31)))).bind fun M9 => some ((1 : Int32), M9)) else (F_X12_burn_b22 M))
set_option maxHeartbeats 1000000 in
theorem T_X12_burn_b0 (r : (Int32 × gM)) (l0 : Option Nat) (l1 : Int32) (M : gM) (h : F_X12_burn_b0 l0 l1 M = some r) : GW 1 0 0 X_X12_burn 0 [(0, vr l0), (1, vi l1)] [] M (some (vi r.1), r.2) := by
  delta F_X12_burn_b0 at h
  refine GW_aload_n (X := X_X12_burn) (pc := 0) d_X12_burn_0 rfl 0 rfl ?_
  refine GW_iload_n (X := X_X12_burn) (pc := 1) d_X12_burn_1 rfl 1 rfl ?_
  replace h := g_bd h
  obtain ⟨i1, hi1, h⟩ := h
  obtain ⟨rfl, ki1⟩ := g_gO hi1
  replace h := g_bd h
  obtain ⟨v2, hv2, h⟩ := h
  refine GW_callV (X := X_X12_burn) (pc := 2) (bc0 := 0) (bs0 := 0) (r := some (vi v2)) (M2 := M) (c0 := 12) (T_X12_isThing (some i1) l1 M v2 hv2) (Nat.le_of_ble_eq_true rfl) (Nat.le_of_ble_eq_true rfl) rfl g_cok12 ki1 yc_X12_isThing ⟨m_1448, m_1450, m_83, m_127, m_1451⟩ d_X12_burn_2 rfl (st := []) rfl (Nat.le_of_ble_eq_true rfl) (Nat.le_of_ble_eq_true rfl) (Nat.le_of_ble_eq_true rfl) (st2 := [vi v2]) rfl ?_
  refine GW_if_eq (X := X_X12_burn) (pc := 5) 22 d_X12_burn_5 (by decide) (fun c => ?_) (fun c => ?_)
  · replace h := g_ip c h
    refine GW_sub [] rfl ?_
    exact T_X12_burn_b22 r M h
  · replace h := g_ie c h
    refine GW_aload_n (X := X_X12_burn) (pc := 8) d_X12_burn_8 rfl 0 rfl ?_
    replace h := g_bd h
    obtain ⟨v3, hv3, h⟩ := h
    refine GW_getR (X := X_X12_burn) (pc := 9) f_X12_39 d_X12_burn_9 hv3 (Or.inr ⟨_, ty_12_20⟩) ?_
    refine GW_bipush (X := X_X12_burn) (pc := 12) (v := 8) d_X12_burn_12 (by decide) ?_
    replace h := g_bd h
    obtain ⟨v4, hv4, h⟩ := h
    refine GW_iald (X := X_X12_burn) (pc := 14) d_X12_burn_14 hv4 ?_
    refine GW_iload_n (X := X_X12_burn) (pc := 15) d_X12_burn_15 rfl 1 rfl ?_
    replace h := g_bd h
    obtain ⟨v5, hv5, h⟩ := h
    refine GW_callS (X := X_X12_burn) (pc := 16) (bc0 := 0) (bs0 := 0) (r := some (vi v5)) (M2 := M) (T_X12_isOf v4 l1 M v5 hv5) (Nat.le_of_ble_eq_true rfl) (Nat.le_of_ble_eq_true rfl) yc_X12_isOf ⟨m_1314, m_1315, m_127, m_1316⟩ d_X12_burn_16 rfl (st := []) rfl (Nat.le_of_ble_eq_true rfl) (Nat.le_of_ble_eq_true rfl) (Nat.le_of_ble_eq_true rfl) (st2 := [vi v5]) rfl ?_
    refine GW_if_eq (X := X_X12_burn) (pc := 19) 24 d_X12_burn_19 (by decide) (fun c => ?_) (fun c => ?_)
    · replace h := g_ip c h
      refine GW_aload_n (X := X_X12_burn) (pc := 24) d_X12_burn_24 rfl 0 rfl ?_
      replace h := g_bd h
      obtain ⟨M6, hM6, h⟩ := h
      refine GW_callV (X := X_X12_burn) (pc := 25) (bc0 := 0) (bs0 := 0) (r := none) (M2 := M6) (c0 := 12) (T_X12_keepsAct (some i1) M M6 hM6) (Nat.le_of_ble_eq_true rfl) (Nat.le_of_ble_eq_true rfl) rfl g_cok12 ki1 yc_X12_keepsAct ⟨m_1473, m_1475, m_86, m_127, m_1476⟩ d_X12_burn_25 rfl (st := []) rfl (Nat.le_of_ble_eq_true rfl) (Nat.le_of_ble_eq_true rfl) (Nat.le_of_ble_eq_true rfl) (st2 := []) rfl ?_
      refine GW_aload_n (X := X_X12_burn) (pc := 28) d_X12_burn_28 rfl 0 rfl ?_
      replace h := g_bd h
      obtain ⟨v7, hv7, h⟩ := h
      refine GW_getR (X := X_X12_burn) (pc := 29) f_X12_39 d_X12_burn_29 hv7 (Or.inr ⟨_, ty_12_20⟩) ?_
      refine GW_bipush (X := X_X12_burn) (pc := 32) (v := 8) d_X12_burn_32 (by decide) ?_
      refine GW_dup2 (X := X_X12_burn) (pc := 34) d_X12_burn_34 rfl rfl ?_
      replace h := g_bd h
      obtain ⟨v8, hv8, h⟩ := h
      refine GW_iald (X := X_X12_burn) (pc := 35) d_X12_burn_35 hv8 ?_
      refine GW_iconst (X := X_X12_burn) (pc := 36) (v := 1) d_X12_burn_36 (by decide) ?_
      refine GW_iload_n (X := X_X12_burn) (pc := 37) d_X12_burn_37 rfl 1 rfl ?_
      refine GW_ishl (X := X_X12_burn) (pc := 38) d_X12_burn_38 ?_
      refine GW_ior (X := X_X12_burn) (pc := 39) d_X12_burn_39 ?_
      replace h := g_bd h
      obtain ⟨M9, hM9, h⟩ := h
      refine GW_iast (X := X_X12_burn) (pc := 40) d_X12_burn_40 hM9 ?_
      refine GW_iconst (X := X_X12_burn) (pc := 41) (v := 1) d_X12_burn_41 (by decide) ?_
      replace h := Option.some.inj h
      subst h
      exact GW_ret (X := X_X12_burn) (pc := 42) d_X12_burn_42 rfl g_rok1
    · replace h := g_ie c h
      refine GW_sub [] rfl ?_
      exact T_X12_burn_b22 r M h
def F_X12_burn (l0 : Option Nat) (l1 : Int32) (M : gM) : Option (Int32 × gM) := F_X12_burn_b0 l0 l1 M
theorem T_X12_burn (l0 : Option Nat) (l1 : Int32) (M : gM) (r : (Int32 × gM)) (h : F_X12_burn l0 l1 M = some r) : g_Met 1 0 0 yX12_burn X_X12_burn [vr l0, vi l1] M (some (vi r.1), r.2) :=
  g_Met_of pn_RX12 rfl (Nat.le_of_ble_eq_true rfl) (fun h => by cases h) (GW_sub [0, 1] rfl (T_X12_burn_b0 r l0 l1 M h))
/-! ForgetHeirs$Past.giveBack(LForgetHeirs$State;)Z -/
theorem d_X4_giveBack_0 : decode cX4_giveBack 0 = .ok (.aload_n 0, 1) := by decide +kernel
theorem d_X4_giveBack_1 : decode cX4_giveBack 1 = .ok (.getfield 19, 3) := by decide +kernel
theorem d_X4_giveBack_4 : decode cX4_giveBack 4 = .ok (.ifCond .ne 5, 3) := by decide +kernel
theorem d_X4_giveBack_7 : decode cX4_giveBack 7 = .ok (.iconst 0, 1) := by decide +kernel
theorem d_X4_giveBack_8 : decode cX4_giveBack 8 = .ok (.ireturn, 1) := by decide +kernel
theorem d_X4_giveBack_9 : decode cX4_giveBack 9 = .ok (.aload_n 0, 1) := by decide +kernel
theorem d_X4_giveBack_10 : decode cX4_giveBack 10 = .ok (.dup, 1) := by decide +kernel
theorem d_X4_giveBack_11 : decode cX4_giveBack 11 = .ok (.getfield 19, 3) := by decide +kernel
theorem d_X4_giveBack_14 : decode cX4_giveBack 14 = .ok (.iconst 1, 1) := by decide +kernel
theorem d_X4_giveBack_15 : decode cX4_giveBack 15 = .ok (.isub, 1) := by decide +kernel
theorem d_X4_giveBack_16 : decode cX4_giveBack 16 = .ok (.putfield 19, 3) := by decide +kernel
theorem d_X4_giveBack_19 : decode cX4_giveBack 19 = .ok (.aload_n 0, 1) := by decide +kernel
theorem d_X4_giveBack_20 : decode cX4_giveBack 20 = .ok (.aload_n 0, 1) := by decide +kernel
theorem d_X4_giveBack_21 : decode cX4_giveBack 21 = .ok (.getfield 15, 3) := by decide +kernel
theorem d_X4_giveBack_24 : decode cX4_giveBack 24 = .ok (.bipush 20, 2) := by decide +kernel
theorem d_X4_giveBack_26 : decode cX4_giveBack 26 = .ok (.iadd, 1) := by decide +kernel
theorem d_X4_giveBack_27 : decode cX4_giveBack 27 = .ok (.iconst 1, 1) := by decide +kernel
theorem d_X4_giveBack_28 : decode cX4_giveBack 28 = .ok (.isub, 1) := by decide +kernel
theorem d_X4_giveBack_29 : decode cX4_giveBack 29 = .ok (.bipush 20, 2) := by decide +kernel
theorem d_X4_giveBack_31 : decode cX4_giveBack 31 = .ok (.irem, 1) := by decide +kernel
theorem d_X4_giveBack_32 : decode cX4_giveBack 32 = .ok (.putfield 15, 3) := by decide +kernel
theorem d_X4_giveBack_35 : decode cX4_giveBack 35 = .ok (.aload_n 1, 1) := by decide +kernel
theorem d_X4_giveBack_36 : decode cX4_giveBack 36 = .ok (.aload_n 0, 1) := by decide +kernel
theorem d_X4_giveBack_37 : decode cX4_giveBack 37 = .ok (.getfield 11, 3) := by decide +kernel
theorem d_X4_giveBack_40 : decode cX4_giveBack 40 = .ok (.aload_n 0, 1) := by decide +kernel
theorem d_X4_giveBack_41 : decode cX4_giveBack 41 = .ok (.getfield 15, 3) := by decide +kernel
theorem d_X4_giveBack_44 : decode cX4_giveBack 44 = .ok (.aaload, 1) := by decide +kernel
theorem d_X4_giveBack_45 : decode cX4_giveBack 45 = .ok (.invokevirtual 23, 3) := by decide +kernel
theorem d_X4_giveBack_48 : decode cX4_giveBack 48 = .ok (.iconst 1, 1) := by decide +kernel
theorem d_X4_giveBack_49 : decode cX4_giveBack 49 = .ok (.ireturn, 1) := by decide +kernel
abbrev X_X4_giveBack : gX := (RX4, cX4_giveBack, 2, (some .boolean), false)
def F_X4_giveBack_b0 (l0 : Option Nat) (l1 : Option Nat) (M : gM) : Option (Int32 × gM) :=
  (gI 4 M l0 2).bind fun v1 => if v1 = 0 then (some ((0 : Int32), M)) else ((gI 4 M l0 2).bind fun v2 => (pI 4 M l0 2 (v2 - (1 : Int32))).bind fun M3 => (gI 4 M3 l0 1).bind fun v4 => (pI 4 M3 l0 1 (((v4 + (20 : Int32)) - (1 : Int32)) - ((v4 + (20 : Int32)) - (1 : Int32)) / (20 : Int32) * (20 : Int32))).bind fun M5 => (gR 4 M5 l0 0).bind fun v6 => (gI 4 M5 l0 1).bind fun v7 => (aR 24 M5 v6 v7).bind fun v8 => (gO 8 M5 l1).bind fun i9 => (F_X8_copy (some i9) v8 M5).bind fun M10 => some ((1 : Int32), M10))
set_option maxHeartbeats 1000000 in
theorem T_X4_giveBack_b0 (r : (Int32 × gM)) (l0 : Option Nat) (l1 : Option Nat) (M : gM) (h : F_X4_giveBack_b0 l0 l1 M = some r) : GW 2 0 0 X_X4_giveBack 0 [(0, vr l0), (1, vr l1)] [] M (some (vi r.1), r.2) := by
  delta F_X4_giveBack_b0 at h
  refine GW_aload_n (X := X_X4_giveBack) (pc := 0) d_X4_giveBack_0 rfl 0 rfl ?_
  replace h := g_bd h
  obtain ⟨v1, hv1, h⟩ := h
  refine GW_getI (X := X_X4_giveBack) (pc := 1) f_X4_19 d_X4_giveBack_1 hv1 (Or.inl ty_4_2) ?_
  refine GW_if_ne (X := X_X4_giveBack) (pc := 4) 9 d_X4_giveBack_4 (by decide) (fun c => ?_) (fun c => ?_)
  · replace h := g_ie c h
    refine GW_aload_n (X := X_X4_giveBack) (pc := 9) d_X4_giveBack_9 rfl 0 rfl ?_
    refine GW_dup (X := X_X4_giveBack) (pc := 10) d_X4_giveBack_10 rfl ?_
    replace h := g_bd h
    obtain ⟨v2, hv2, h⟩ := h
    refine GW_getI (X := X_X4_giveBack) (pc := 11) f_X4_19 d_X4_giveBack_11 hv2 (Or.inl ty_4_2) ?_
    refine GW_iconst (X := X_X4_giveBack) (pc := 14) (v := 1) d_X4_giveBack_14 (by decide) ?_
    refine GW_isub (X := X_X4_giveBack) (pc := 15) d_X4_giveBack_15 ?_
    replace h := g_bd h
    obtain ⟨M3, hM3, h⟩ := h
    refine GW_putI (X := X_X4_giveBack) (pc := 16) f_X4_19 d_X4_giveBack_16 hM3 (Or.inl fi_4_2) (Or.inl ty_4_2) ?_
    refine GW_aload_n (X := X_X4_giveBack) (pc := 19) d_X4_giveBack_19 rfl 0 rfl ?_
    refine GW_aload_n (X := X_X4_giveBack) (pc := 20) d_X4_giveBack_20 rfl 0 rfl ?_
    replace h := g_bd h
    obtain ⟨v4, hv4, h⟩ := h
    refine GW_getI (X := X_X4_giveBack) (pc := 21) f_X4_15 d_X4_giveBack_21 hv4 (Or.inl ty_4_1) ?_
    refine GW_bipush (X := X_X4_giveBack) (pc := 24) (v := 20) d_X4_giveBack_24 (by decide) ?_
    refine GW_iadd (X := X_X4_giveBack) (pc := 26) d_X4_giveBack_26 ?_
    refine GW_iconst (X := X_X4_giveBack) (pc := 27) (v := 1) d_X4_giveBack_27 (by decide) ?_
    refine GW_isub (X := X_X4_giveBack) (pc := 28) d_X4_giveBack_28 ?_
    refine GW_bipush (X := X_X4_giveBack) (pc := 29) (v := 20) d_X4_giveBack_29 (by decide) ?_
    refine GW_irem (X := X_X4_giveBack) (pc := 31) d_X4_giveBack_31 (by decide) ?_
    replace h := g_bd h
    obtain ⟨M5, hM5, h⟩ := h
    refine GW_putI (X := X_X4_giveBack) (pc := 32) f_X4_15 d_X4_giveBack_32 hM5 (Or.inl fi_4_1) (Or.inl ty_4_1) ?_
    refine GW_aload_n (X := X_X4_giveBack) (pc := 35) d_X4_giveBack_35 rfl 1 rfl ?_
    refine GW_aload_n (X := X_X4_giveBack) (pc := 36) d_X4_giveBack_36 rfl 0 rfl ?_
    replace h := g_bd h
    obtain ⟨v6, hv6, h⟩ := h
    refine GW_getR (X := X_X4_giveBack) (pc := 37) f_X4_11 d_X4_giveBack_37 hv6 (Or.inr ⟨_, ty_4_0⟩) ?_
    refine GW_aload_n (X := X_X4_giveBack) (pc := 40) d_X4_giveBack_40 rfl 0 rfl ?_
    replace h := g_bd h
    obtain ⟨v7, hv7, h⟩ := h
    refine GW_getI (X := X_X4_giveBack) (pc := 41) f_X4_15 d_X4_giveBack_41 hv7 (Or.inl ty_4_1) ?_
    replace h := g_bd h
    obtain ⟨v8, hv8, h⟩ := h
    refine GW_aald (X := X_X4_giveBack) (pc := 44) (t := 24) (by decide) d_X4_giveBack_44 hv8 ?_
    replace h := g_bd h
    obtain ⟨i9, hi9, h⟩ := h
    obtain ⟨rfl, ki9⟩ := g_gO hi9
    replace h := g_bd h
    obtain ⟨M10, hM10, h⟩ := h
    refine GW_callV (X := X_X4_giveBack) (pc := 45) (bc0 := 0) (bs0 := 0) (r := none) (M2 := M10) (c0 := 8) (T_X8_copy (some i9) v8 M5 M10 hM10) (Nat.le_of_ble_eq_true rfl) (Nat.le_of_ble_eq_true rfl) rfl g_cok8 ki9 yc_X8_copy ⟨m_829, m_665, m_666, m_119, m_667⟩ d_X4_giveBack_45 rfl (st := []) rfl (Nat.le_of_ble_eq_true rfl) (Nat.le_of_ble_eq_true rfl) (Nat.le_of_ble_eq_true rfl) (st2 := []) rfl ?_
    refine GW_iconst (X := X_X4_giveBack) (pc := 48) (v := 1) d_X4_giveBack_48 (by decide) ?_
    replace h := Option.some.inj h
    subst h
    exact GW_ret (X := X_X4_giveBack) (pc := 49) d_X4_giveBack_49 rfl g_rok1
  · replace h := g_ip c h
    refine GW_iconst (X := X_X4_giveBack) (pc := 7) (v := 0) d_X4_giveBack_7 (by decide) ?_
    replace h := Option.some.inj h
    subst h
    exact GW_ret (X := X_X4_giveBack) (pc := 8) d_X4_giveBack_8 rfl g_rok0
def F_X4_giveBack (l0 : Option Nat) (l1 : Option Nat) (M : gM) : Option (Int32 × gM) := F_X4_giveBack_b0 l0 l1 M
theorem T_X4_giveBack (l0 : Option Nat) (l1 : Option Nat) (M : gM) (r : (Int32 × gM)) (h : F_X4_giveBack l0 l1 M = some r) : g_Met 2 0 0 yX4_giveBack X_X4_giveBack [vr l0, vr l1] M (some (vi r.1), r.2) :=
  g_Met_of pn_RX4 rfl (Nat.le_of_ble_eq_true rfl) (fun h => by cases h) (GW_sub [0, 1] rfl (T_X4_giveBack_b0 r l0 l1 M h))
/-! ForgetHeirs.undo()I -/
theorem d_X11_undo_0 : decode cX11_undo 0 = .ok (.aload_n 0, 1) := by decide +kernel
theorem d_X11_undo_1 : decode cX11_undo 1 = .ok (.getfield 35, 3) := by decide +kernel
theorem d_X11_undo_4 : decode cX11_undo 4 = .ok (.aload_n 0, 1) := by decide +kernel
theorem d_X11_undo_5 : decode cX11_undo 5 = .ok (.getfield 25, 3) := by decide +kernel
theorem d_X11_undo_8 : decode cX11_undo 8 = .ok (.invokevirtual 238, 3) := by decide +kernel
theorem d_X11_undo_11 : decode cX11_undo 11 = .ok (.ifCond .eq 13, 3) := by decide +kernel
theorem d_X11_undo_14 : decode cX11_undo 14 = .ok (.aload_n 0, 1) := by decide +kernel
theorem d_X11_undo_15 : decode cX11_undo 15 = .ok (.getfield 35, 3) := by decide +kernel
theorem d_X11_undo_18 : decode cX11_undo 18 = .ok (.getfield 203, 3) := by decide +kernel
theorem d_X11_undo_21 : decode cX11_undo 21 = .ok (.goto 4, 3) := by decide +kernel
theorem d_X11_undo_24 : decode cX11_undo 24 = .ok (.iconst (-1), 1) := by decide +kernel
theorem d_X11_undo_25 : decode cX11_undo 25 = .ok (.ireturn, 1) := by decide +kernel
abbrev X_X11_undo : gX := (RX11, cX11_undo, 1, (some .int), false)
def F_X11_undo_b0 (l0 : Option Nat) (M : gM) : Option (Int32 × gM) :=
  (gR 11 M l0 7).bind fun v1 => (gR 11 M l0 5).bind fun v2 => (gO 4 M v1).bind fun i3 => (F_X4_giveBack (some i3) v2 M).bind fun (v4, M5) => if v4 = 0 then (some ((-1 : Int32), M5)) else ((gR 11 M5 l0 7).bind fun v6 => (gI 4 M5 v6 2).bind fun v7 => some (v7, M5))
theorem T_X11_undo_b0 (r : (Int32 × gM)) (l0 : Option Nat) (M : gM) (h : F_X11_undo_b0 l0 M = some r) : GW 3 0 0 X_X11_undo 0 [(0, vr l0)] [] M (some (vi r.1), r.2) := by
  delta F_X11_undo_b0 at h
  refine GW_aload_n (X := X_X11_undo) (pc := 0) d_X11_undo_0 rfl 0 rfl ?_
  replace h := g_bd h
  obtain ⟨v1, hv1, h⟩ := h
  refine GW_getR (X := X_X11_undo) (pc := 1) f_X11_35 d_X11_undo_1 hv1 (Or.inl ⟨_, ty_11_7⟩) ?_
  refine GW_aload_n (X := X_X11_undo) (pc := 4) d_X11_undo_4 rfl 0 rfl ?_
  replace h := g_bd h
  obtain ⟨v2, hv2, h⟩ := h
  refine GW_getR (X := X_X11_undo) (pc := 5) f_X11_25 d_X11_undo_5 hv2 (Or.inl ⟨_, ty_11_5⟩) ?_
  replace h := g_bd h
  obtain ⟨i3, hi3, h⟩ := h
  obtain ⟨rfl, ki3⟩ := g_gO hi3
  replace h := g_bd h
  obtain ⟨⟨v4, M5⟩, hv4, h⟩ := h
  dsimp only at h
  refine GW_callV (X := X_X11_undo) (pc := 8) (bc0 := 0) (bs0 := 0) (r := some (vi v4)) (M2 := M5) (c0 := 4) (T_X4_giveBack (some i3) v2 M (v4, M5) hv4) (Nat.le_of_ble_eq_true rfl) (Nat.le_of_ble_eq_true rfl) rfl g_cok4 ki3 yc_X4_giveBack ⟨m_948, m_949, m_950, m_120, m_951⟩ d_X11_undo_8 rfl (st := []) rfl (Nat.le_of_ble_eq_true rfl) (Nat.le_of_ble_eq_true rfl) (Nat.le_of_ble_eq_true rfl) (st2 := [vi v4]) rfl ?_
  refine GW_if_eq (X := X_X11_undo) (pc := 11) 24 d_X11_undo_11 (by decide) (fun c => ?_) (fun c => ?_)
  · replace h := g_ip c h
    refine GW_iconst (X := X_X11_undo) (pc := 24) (v := -1) d_X11_undo_24 (by decide) ?_
    replace h := Option.some.inj h
    subst h
    exact GW_ret (X := X_X11_undo) (pc := 25) d_X11_undo_25 rfl trivial
  · replace h := g_ie c h
    refine GW_aload_n (X := X_X11_undo) (pc := 14) d_X11_undo_14 rfl 0 rfl ?_
    replace h := g_bd h
    obtain ⟨v6, hv6, h⟩ := h
    refine GW_getR (X := X_X11_undo) (pc := 15) f_X11_35 d_X11_undo_15 hv6 (Or.inl ⟨_, ty_11_7⟩) ?_
    replace h := g_bd h
    obtain ⟨v7, hv7, h⟩ := h
    refine GW_getI (X := X_X11_undo) (pc := 18) f_X11_203 d_X11_undo_18 hv7 (Or.inl ty_4_2) ?_
    refine GW_goto (X := X_X11_undo) (pc := 21) 25 d_X11_undo_21 (by decide) ?_
    replace h := Option.some.inj h
    subst h
    exact GW_ret (X := X_X11_undo) (pc := 25) d_X11_undo_25 rfl trivial
def F_X11_undo (l0 : Option Nat) (M : gM) : Option (Int32 × gM) := F_X11_undo_b0 l0 M
theorem T_X11_undo (l0 : Option Nat) (M : gM) (r : (Int32 × gM)) (h : F_X11_undo l0 M = some r) : g_Met 3 0 0 yX11_undo X_X11_undo [vr l0] M (some (vi r.1), r.2) :=
  g_Met_of pn_RX11 rfl (Nat.le_of_ble_eq_true rfl) (fun h => by cases h) (GW_sub [0] rfl (T_X11_undo_b0 r l0 M h))
/-! ForgetHeirsModel.undo()I -/
theorem d_X12_undo_0 : decode cX12_undo 0 = .ok (.aload_n 0, 1) := by decide +kernel
theorem d_X12_undo_1 : decode cX12_undo 1 = .ok (.getfield 279, 3) := by decide +kernel
theorem d_X12_undo_4 : decode cX12_undo 4 = .ok (.ifCond .ne 5, 3) := by decide +kernel
theorem d_X12_undo_7 : decode cX12_undo 7 = .ok (.iconst (-1), 1) := by decide +kernel
theorem d_X12_undo_8 : decode cX12_undo 8 = .ok (.ireturn, 1) := by decide +kernel
theorem d_X12_undo_9 : decode cX12_undo 9 = .ok (.aload_n 0, 1) := by decide +kernel
theorem d_X12_undo_10 : decode cX12_undo 10 = .ok (.dup, 1) := by decide +kernel
theorem d_X12_undo_11 : decode cX12_undo 11 = .ok (.getfield 279, 3) := by decide +kernel
theorem d_X12_undo_14 : decode cX12_undo 14 = .ok (.iconst 1, 1) := by decide +kernel
theorem d_X12_undo_15 : decode cX12_undo 15 = .ok (.isub, 1) := by decide +kernel
theorem d_X12_undo_16 : decode cX12_undo 16 = .ok (.putfield 279, 3) := by decide +kernel
theorem d_X12_undo_19 : decode cX12_undo 19 = .ok (.iconst 0, 1) := by decide +kernel
theorem d_X12_undo_20 : decode cX12_undo 20 = .ok (.istore_n 1, 1) := by decide +kernel
theorem d_X12_undo_21 : decode cX12_undo 21 = .ok (.iload_n 1, 1) := by decide +kernel
theorem d_X12_undo_22 : decode cX12_undo 22 = .ok (.sipush 157, 3) := by decide +kernel
theorem d_X12_undo_25 : decode cX12_undo 25 = .ok (.if_icmp .ge 30, 3) := by decide +kernel
theorem d_X12_undo_28 : decode cX12_undo 28 = .ok (.aload_n 0, 1) := by decide +kernel
theorem d_X12_undo_29 : decode cX12_undo 29 = .ok (.getfield 39, 3) := by decide +kernel
theorem d_X12_undo_32 : decode cX12_undo 32 = .ok (.iload_n 1, 1) := by decide +kernel
theorem d_X12_undo_33 : decode cX12_undo 33 = .ok (.aload_n 0, 1) := by decide +kernel
theorem d_X12_undo_34 : decode cX12_undo 34 = .ok (.getfield 49, 3) := by decide +kernel
theorem d_X12_undo_37 : decode cX12_undo 37 = .ok (.sipush 157, 3) := by decide +kernel
theorem d_X12_undo_40 : decode cX12_undo 40 = .ok (.aload_n 0, 1) := by decide +kernel
theorem d_X12_undo_41 : decode cX12_undo 41 = .ok (.getfield 279, 3) := by decide +kernel
theorem d_X12_undo_44 : decode cX12_undo 44 = .ok (.imul, 1) := by decide +kernel
theorem d_X12_undo_45 : decode cX12_undo 45 = .ok (.iload_n 1, 1) := by decide +kernel
theorem d_X12_undo_46 : decode cX12_undo 46 = .ok (.iadd, 1) := by decide +kernel
theorem d_X12_undo_47 : decode cX12_undo 47 = .ok (.iaload, 1) := by decide +kernel
theorem d_X12_undo_48 : decode cX12_undo 48 = .ok (.iastore, 1) := by decide +kernel
theorem d_X12_undo_49 : decode cX12_undo 49 = .ok (.iinc 1 1, 3) := by decide +kernel
theorem d_X12_undo_52 : decode cX12_undo 52 = .ok (.goto (-31), 3) := by decide +kernel
theorem d_X12_undo_55 : decode cX12_undo 55 = .ok (.aload_n 0, 1) := by decide +kernel
theorem d_X12_undo_56 : decode cX12_undo 56 = .ok (.getfield 279, 3) := by decide +kernel
theorem d_X12_undo_59 : decode cX12_undo 59 = .ok (.ireturn, 1) := by decide +kernel
abbrev X_X12_undo : gX := (RX12, cX12_undo, 2, (some .int), false)
def F_X12_undo_b21 (k21 : Option Nat → Int32 → gM → Option (Int32 × gM)) (l0 : Option Nat) (l1 : Int32) (M : gM) : Option (Int32 × gM) :=
  if (157 : Int32) ≤ l1 then ((gI 12 M l0 25).bind fun v1 => some (v1, M)) else ((gR 12 M l0 20).bind fun v2 => (gR 12 M l0 24).bind fun v3 => (gI 12 M l0 25).bind fun v4 => (aI 20 M v3 (((157 : Int32) * v4) + l1)).bind fun v5 => (sI M v2 l1 v5).bind fun M6 => k21 l0 (l1 + 1) M6)
theorem T_X12_undo_b21 (k21 : Option Nat → Int32 → gM → Option (Int32 × gM)) (r : (Int32 × gM)) (hk21 : ∀ (l0 : Option Nat) (l1 : Int32) (M : gM), k21 l0 l1 M = some r → GW 0 0 0 X_X12_undo 21 [(0, vr l0), (1, vi l1)] [] M (some (vi r.1), r.2)) (l0 : Option Nat) (l1 : Int32) (M : gM) (h : F_X12_undo_b21 k21 l0 l1 M = some r) : GW 0 0 0 X_X12_undo 21 [(0, vr l0), (1, vi l1)] [] M (some (vi r.1), r.2) := by
  delta F_X12_undo_b21 at h
  refine GW_iload_n (X := X_X12_undo) (pc := 21) d_X12_undo_21 rfl 1 rfl ?_
  refine GW_sipush (X := X_X12_undo) (pc := 22) (v := 157) d_X12_undo_22 (by decide) ?_
  refine GW_icmp_ge (X := X_X12_undo) (pc := 25) 55 d_X12_undo_25 (by decide) (fun c => ?_) (fun c => ?_)
  · replace h := g_ip c h
    refine GW_aload_n (X := X_X12_undo) (pc := 55) d_X12_undo_55 rfl 0 rfl ?_
    replace h := g_bd h
    obtain ⟨v1, hv1, h⟩ := h
    refine GW_getI (X := X_X12_undo) (pc := 56) f_X12_279 d_X12_undo_56 hv1 (Or.inl ty_12_25) ?_
    replace h := Option.some.inj h
    subst h
    exact GW_ret (X := X_X12_undo) (pc := 59) d_X12_undo_59 rfl trivial
  · replace h := g_ie c h
    refine GW_aload_n (X := X_X12_undo) (pc := 28) d_X12_undo_28 rfl 0 rfl ?_
    replace h := g_bd h
    obtain ⟨v2, hv2, h⟩ := h
    refine GW_getR (X := X_X12_undo) (pc := 29) f_X12_39 d_X12_undo_29 hv2 (Or.inr ⟨_, ty_12_20⟩) ?_
    refine GW_iload_n (X := X_X12_undo) (pc := 32) d_X12_undo_32 rfl 1 rfl ?_
    refine GW_aload_n (X := X_X12_undo) (pc := 33) d_X12_undo_33 rfl 0 rfl ?_
    replace h := g_bd h
    obtain ⟨v3, hv3, h⟩ := h
    refine GW_getR (X := X_X12_undo) (pc := 34) f_X12_49 d_X12_undo_34 hv3 (Or.inr ⟨_, ty_12_24⟩) ?_
    refine GW_sipush (X := X_X12_undo) (pc := 37) (v := 157) d_X12_undo_37 (by decide) ?_
    refine GW_aload_n (X := X_X12_undo) (pc := 40) d_X12_undo_40 rfl 0 rfl ?_
    replace h := g_bd h
    obtain ⟨v4, hv4, h⟩ := h
    refine GW_getI (X := X_X12_undo) (pc := 41) f_X12_279 d_X12_undo_41 hv4 (Or.inl ty_12_25) ?_
    refine GW_imul (X := X_X12_undo) (pc := 44) d_X12_undo_44 ?_
    refine GW_iload_n (X := X_X12_undo) (pc := 45) d_X12_undo_45 rfl 1 rfl ?_
    refine GW_iadd (X := X_X12_undo) (pc := 46) d_X12_undo_46 ?_
    replace h := g_bd h
    obtain ⟨v5, hv5, h⟩ := h
    refine GW_iald (X := X_X12_undo) (pc := 47) d_X12_undo_47 hv5 ?_
    replace h := g_bd h
    obtain ⟨M6, hM6, h⟩ := h
    refine GW_iast (X := X_X12_undo) (pc := 48) d_X12_undo_48 hM6 ?_
    refine GW_iinc (j := 1) (X := X_X12_undo) (pc := 49) d_X12_undo_49 rfl (congrArg (fun z => _ + z) (by decide : Int32.ofInt 1 = (1 : Int32))) (Nat.le_of_ble_eq_true rfl) (lv2 := [(1, vi (l1 + 1)), (0, vr l0)]) rfl ?_
    refine GW_goto (X := X_X12_undo) (pc := 52) 21 d_X12_undo_52 (by decide) ?_
    refine GW_sub [1, 0] rfl ?_
    exact hk21 l0 (l1 + 1) M6 h
def F_X12_undo_L21 : Nat → Option Nat → Int32 → gM → Option (Int32 × gM)
  | 0 => fun _ _ _ => none
  | n + 1 => F_X12_undo_b21 (F_X12_undo_L21 n)
theorem T_X12_undo_L21 (r : (Int32 × gM)) : ∀ (n : Nat) (l0 : Option Nat) (l1 : Int32) (M : gM), F_X12_undo_L21 n l0 l1 M = some r → GW 0 0 0 X_X12_undo 21 [(0, vr l0), (1, vi l1)] [] M (some (vi r.1), r.2) := by
  intro n
  induction n with
  | zero => intro l0 l1 M h; exact g_no h
  | succ n ih => intro l0 l1 M h; exact T_X12_undo_b21 (F_X12_undo_L21 n) r ih l0 l1 M h
def F_X12_undo_b0 (l0 : Option Nat) (M : gM) : Option (Int32 × gM) :=
  (gI 12 M l0 25).bind fun v1 => if v1 = 0 then (some ((-1 : Int32), M)) else ((gI 12 M l0 25).bind fun v2 => (pI 12 M l0 25 (v2 - (1 : Int32))).bind fun M3 => F_X12_undo_L21 g_fuel l0 (0 : Int32) M3)
theorem T_X12_undo_b0 (r : (Int32 × gM)) (l0 : Option Nat) (M : gM) (h : F_X12_undo_b0 l0 M = some r) : GW 0 0 0 X_X12_undo 0 [(0, vr l0)] [] M (some (vi r.1), r.2) := by
  delta F_X12_undo_b0 at h
  refine GW_aload_n (X := X_X12_undo) (pc := 0) d_X12_undo_0 rfl 0 rfl ?_
  replace h := g_bd h
  obtain ⟨v1, hv1, h⟩ := h
  refine GW_getI (X := X_X12_undo) (pc := 1) f_X12_279 d_X12_undo_1 hv1 (Or.inl ty_12_25) ?_
  refine GW_if_ne (X := X_X12_undo) (pc := 4) 9 d_X12_undo_4 (by decide) (fun c => ?_) (fun c => ?_)
  · replace h := g_ie c h
    refine GW_aload_n (X := X_X12_undo) (pc := 9) d_X12_undo_9 rfl 0 rfl ?_
    refine GW_dup (X := X_X12_undo) (pc := 10) d_X12_undo_10 rfl ?_
    replace h := g_bd h
    obtain ⟨v2, hv2, h⟩ := h
    refine GW_getI (X := X_X12_undo) (pc := 11) f_X12_279 d_X12_undo_11 hv2 (Or.inl ty_12_25) ?_
    refine GW_iconst (X := X_X12_undo) (pc := 14) (v := 1) d_X12_undo_14 (by decide) ?_
    refine GW_isub (X := X_X12_undo) (pc := 15) d_X12_undo_15 ?_
    replace h := g_bd h
    obtain ⟨M3, hM3, h⟩ := h
    refine GW_putI (X := X_X12_undo) (pc := 16) f_X12_279 d_X12_undo_16 hM3 (Or.inl fi_12_25) (Or.inl ty_12_25) ?_
    refine GW_iconst (X := X_X12_undo) (pc := 19) (v := 0) d_X12_undo_19 (by decide) ?_
    refine GW_istore_n (X := X_X12_undo) (pc := 20) d_X12_undo_20 rfl (Nat.le_of_ble_eq_true rfl) (lv2 := [(1, vi (0 : Int32)), (0, vr l0)]) rfl ?_
    refine GW_sub [1, 0] rfl ?_
    exact T_X12_undo_L21 r g_fuel l0 (0 : Int32) M3 h
  · replace h := g_ip c h
    refine GW_iconst (X := X_X12_undo) (pc := 7) (v := -1) d_X12_undo_7 (by decide) ?_
    replace h := Option.some.inj h
    subst h
    exact GW_ret (X := X_X12_undo) (pc := 8) d_X12_undo_8 rfl trivial
def F_X12_undo (l0 : Option Nat) (M : gM) : Option (Int32 × gM) := F_X12_undo_b0 l0 M
theorem T_X12_undo (l0 : Option Nat) (M : gM) (r : (Int32 × gM)) (h : F_X12_undo l0 M = some r) : g_Met 0 0 0 yX12_undo X_X12_undo [vr l0] M (some (vi r.1), r.2) :=
  g_Met_of pn_RX12 rfl (Nat.le_of_ble_eq_true rfl) (fun h => by cases h) (GW_sub [0] rfl (T_X12_undo_b0 r l0 M h))
/-! ForgetHeirs$State.standing(LForgetHeirs$House;)I -/
theorem d_X8_standing_0 : decode cX8_standing 0 = .ok (.iconst 0, 1) := by decide +kernel
theorem d_X8_standing_1 : decode cX8_standing 1 = .ok (.istore_n 2, 1) := by decide +kernel
theorem d_X8_standing_2 : decode cX8_standing 2 = .ok (.iconst 0, 1) := by decide +kernel
theorem d_X8_standing_3 : decode cX8_standing 3 = .ok (.istore_n 3, 1) := by decide +kernel
theorem d_X8_standing_4 : decode cX8_standing 4 = .ok (.iload_n 3, 1) := by decide +kernel
theorem d_X8_standing_5 : decode cX8_standing 5 = .ok (.aload_n 1, 1) := by decide +kernel
theorem d_X8_standing_6 : decode cX8_standing 6 = .ok (.getfield 63, 3) := by decide +kernel
theorem d_X8_standing_9 : decode cX8_standing 9 = .ok (.if_icmp .ge 25, 3) := by decide +kernel
theorem d_X8_standing_12 : decode cX8_standing 12 = .ok (.aload_n 0, 1) := by decide +kernel
theorem d_X8_standing_13 : decode cX8_standing 13 = .ok (.getfield 21, 3) := by decide +kernel
theorem d_X8_standing_16 : decode cX8_standing 16 = .ok (.iload_n 3, 1) := by decide +kernel
theorem d_X8_standing_17 : decode cX8_standing 17 = .ok (.iaload, 1) := by decide +kernel
theorem d_X8_standing_18 : decode cX8_standing 18 = .ok (.iconst (-1), 1) := by decide +kernel
theorem d_X8_standing_19 : decode cX8_standing 19 = .ok (.if_icmp .ne 9, 3) := by decide +kernel
theorem d_X8_standing_22 : decode cX8_standing 22 = .ok (.iload_n 2, 1) := by decide +kernel
theorem d_X8_standing_23 : decode cX8_standing 23 = .ok (.iconst 1, 1) := by decide +kernel
theorem d_X8_standing_24 : decode cX8_standing 24 = .ok (.iload_n 3, 1) := by decide +kernel
theorem d_X8_standing_25 : decode cX8_standing 25 = .ok (.ishl, 1) := by decide +kernel
theorem d_X8_standing_26 : decode cX8_standing 26 = .ok (.ior, 1) := by decide +kernel
theorem d_X8_standing_27 : decode cX8_standing 27 = .ok (.istore_n 2, 1) := by decide +kernel
theorem d_X8_standing_28 : decode cX8_standing 28 = .ok (.iinc 3 1, 3) := by decide +kernel
theorem d_X8_standing_31 : decode cX8_standing 31 = .ok (.goto (-27), 3) := by decide +kernel
theorem d_X8_standing_34 : decode cX8_standing 34 = .ok (.iload_n 2, 1) := by decide +kernel
theorem d_X8_standing_35 : decode cX8_standing 35 = .ok (.ireturn, 1) := by decide +kernel
abbrev X_X8_standing : gX := (RX8, cX8_standing, 4, (some .int), false)
def F_X8_standing_b28 (k4 : Option Nat → Option Nat → Int32 → Int32 → Option Int32) (M : gM) (l0 : Option Nat) (l1 : Option Nat) (l2 : Int32) (l3 : Int32) : Option Int32 :=
  k4 l0 l1 l2 (l3 + 1)
theorem T_X8_standing_b28 (k4 : Option Nat → Option Nat → Int32 → Int32 → Option Int32) (M : gM) (r : Int32) (hk4 : ∀ (l0 : Option Nat) (l1 : Option Nat) (l2 : Int32) (l3 : Int32), k4 l0 l1 l2 l3 = some r → GW 0 0 0 X_X8_standing 4 [(0, vr l0), (1, vr l1), (2, vi l2), (3, vi l3)] [] M (some (vi r), M)) (l0 : Option Nat) (l1 : Option Nat) (l2 : Int32) (l3 : Int32) (h : F_X8_standing_b28 k4 M l0 l1 l2 l3 = some r) : GW 0 0 0 X_X8_standing 28 [(0, vr l0), (1, vr l1), (2, vi l2), (3, vi l3)] [] M (some (vi r), M) := by
  delta F_X8_standing_b28 at h
  refine GW_iinc (j := 3) (X := X_X8_standing) (pc := 28) d_X8_standing_28 rfl (congrArg (fun z => _ + z) (by decide : Int32.ofInt 1 = (1 : Int32))) (Nat.le_of_ble_eq_true rfl) (lv2 := [(3, vi (l3 + 1)), (0, vr l0), (1, vr l1), (2, vi l2)]) rfl ?_
  refine GW_goto (X := X_X8_standing) (pc := 31) 4 d_X8_standing_31 (by decide) ?_
  refine GW_sub [1, 2, 3, 0] rfl ?_
  exact hk4 l0 l1 l2 (l3 + 1) h
def F_X8_standing_b4 (k4 : Option Nat → Option Nat → Int32 → Int32 → Option Int32) (M : gM) (l0 : Option Nat) (l1 : Option Nat) (l2 : Int32) (l3 : Int32) : Option Int32 :=
  (gI 1 M l1 6).bind fun v1 => if v1 ≤ l3 then (some l2) else ((gR 8 M l0 3).bind fun v2 => (aI 20 M v2 l3).bind fun v3 => if v3 = (-1 : Int32) then (F_X8_standing_b28 k4 M l0 l1 (l2 ||| ((1 : Int32) <<< (l3 &&& 31))) l3) else (F_X8_standing_b28 k4 M l0 l1 l2 l3))
theorem T_X8_standing_b4 (k4 : Option Nat → Option Nat → Int32 → Int32 → Option Int32) (M : gM) (r : Int32) (hk4 : ∀ (l0 : Option Nat) (l1 : Option Nat) (l2 : Int32) (l3 : Int32), k4 l0 l1 l2 l3 = some r → GW 0 0 0 X_X8_standing 4 [(0, vr l0), (1, vr l1), (2, vi l2), (3, vi l3)] [] M (some (vi r), M)) (l0 : Option Nat) (l1 : Option Nat) (l2 : Int32) (l3 : Int32) (h : F_X8_standing_b4 k4 M l0 l1 l2 l3 = some r) : GW 0 0 0 X_X8_standing 4 [(0, vr l0), (1, vr l1), (2, vi l2), (3, vi l3)] [] M (some (vi r), M) := by
  delta F_X8_standing_b4 at h
  refine GW_iload_n (X := X_X8_standing) (pc := 4) d_X8_standing_4 rfl 3 rfl ?_
  refine GW_aload_n (X := X_X8_standing) (pc := 5) d_X8_standing_5 rfl 1 rfl ?_
  replace h := g_bd h
  obtain ⟨v1, hv1, h⟩ := h
  refine GW_getI (X := X_X8_standing) (pc := 6) f_X8_63 d_X8_standing_6 hv1 (Or.inl ty_1_6) ?_
  refine GW_icmp_ge (X := X_X8_standing) (pc := 9) 34 d_X8_standing_9 (by decide) (fun c => ?_) (fun c => ?_)
  · replace h := g_ip c h
    refine GW_iload_n (X := X_X8_standing) (pc := 34) d_X8_standing_34 rfl 2 rfl ?_
    replace h := Option.some.inj h
    subst h
    exact GW_ret (X := X_X8_standing) (pc := 35) d_X8_standing_35 rfl trivial
  · replace h := g_ie c h
    refine GW_aload_n (X := X_X8_standing) (pc := 12) d_X8_standing_12 rfl 0 rfl ?_
    replace h := g_bd h
    obtain ⟨v2, hv2, h⟩ := h
    refine GW_getR (X := X_X8_standing) (pc := 13) f_X8_21 d_X8_standing_13 hv2 (Or.inr ⟨_, ty_8_3⟩) ?_
    refine GW_iload_n (X := X_X8_standing) (pc := 16) d_X8_standing_16 rfl 3 rfl ?_
    replace h := g_bd h
    obtain ⟨v3, hv3, h⟩ := h
    refine GW_iald (X := X_X8_standing) (pc := 17) d_X8_standing_17 hv3 ?_
    refine GW_iconst (X := X_X8_standing) (pc := 18) (v := -1) d_X8_standing_18 (by decide) ?_
    refine GW_icmp_ne (X := X_X8_standing) (pc := 19) 28 d_X8_standing_19 (by decide) (fun c => ?_) (fun c => ?_)
    · replace h := g_ie c h
      exact T_X8_standing_b28 k4 M r hk4 l0 l1 l2 l3 h
    · replace h := g_ip c h
      refine GW_iload_n (X := X_X8_standing) (pc := 22) d_X8_standing_22 rfl 2 rfl ?_
      refine GW_iconst (X := X_X8_standing) (pc := 23) (v := 1) d_X8_standing_23 (by decide) ?_
      refine GW_iload_n (X := X_X8_standing) (pc := 24) d_X8_standing_24 rfl 3 rfl ?_
      refine GW_ishl (X := X_X8_standing) (pc := 25) d_X8_standing_25 ?_
      refine GW_ior (X := X_X8_standing) (pc := 26) d_X8_standing_26 ?_
      refine GW_istore_n (X := X_X8_standing) (pc := 27) d_X8_standing_27 rfl (Nat.le_of_ble_eq_true rfl) (lv2 := [(2, vi (l2 ||| ((1 : Int32) <<< (l3 &&& 31)))), (0, vr l0), (1, vr l1), (3, vi l3)]) rfl ?_
      refine GW_sub [1, 2, 0, 3] rfl ?_
      exact T_X8_standing_b28 k4 M r hk4 l0 l1 (l2 ||| ((1 : Int32) <<< (l3 &&& 31))) l3 h
def F_X8_standing_L4 (M : gM) : Nat → Option Nat → Option Nat → Int32 → Int32 → Option Int32
  | 0 => fun _ _ _ _ => none
  | n + 1 => F_X8_standing_b4 (F_X8_standing_L4 M n) M
theorem T_X8_standing_L4 (M : gM) (r : Int32) : ∀ (n : Nat) (l0 : Option Nat) (l1 : Option Nat) (l2 : Int32) (l3 : Int32), F_X8_standing_L4 M n l0 l1 l2 l3 = some r → GW 0 0 0 X_X8_standing 4 [(0, vr l0), (1, vr l1), (2, vi l2), (3, vi l3)] [] M (some (vi r), M) := by
  intro n
  induction n with
  | zero => intro l0 l1 l2 l3 h; exact g_no h
  | succ n ih => intro l0 l1 l2 l3 h; exact T_X8_standing_b4 (F_X8_standing_L4 M n) M r ih l0 l1 l2 l3 h
def F_X8_standing_b0 (M : gM) (l0 : Option Nat) (l1 : Option Nat) : Option Int32 :=
  F_X8_standing_L4 M g_fuel l0 l1 (0 : Int32) (0 : Int32)
theorem T_X8_standing_b0 (M : gM) (r : Int32) (l0 : Option Nat) (l1 : Option Nat) (h : F_X8_standing_b0 M l0 l1 = some r) : GW 0 0 0 X_X8_standing 0 [(0, vr l0), (1, vr l1)] [] M (some (vi r), M) := by
  delta F_X8_standing_b0 at h
  refine GW_iconst (X := X_X8_standing) (pc := 0) (v := 0) d_X8_standing_0 (by decide) ?_
  refine GW_istore_n (X := X_X8_standing) (pc := 1) d_X8_standing_1 rfl (Nat.le_of_ble_eq_true rfl) (lv2 := [(2, vi (0 : Int32)), (0, vr l0), (1, vr l1)]) rfl ?_
  refine GW_iconst (X := X_X8_standing) (pc := 2) (v := 0) d_X8_standing_2 (by decide) ?_
  refine GW_istore_n (X := X_X8_standing) (pc := 3) d_X8_standing_3 rfl (Nat.le_of_ble_eq_true rfl) (lv2 := [(3, vi (0 : Int32)), (2, vi (0 : Int32)), (0, vr l0), (1, vr l1)]) rfl ?_
  refine GW_sub [2, 3, 1, 0] rfl ?_
  exact T_X8_standing_L4 M r g_fuel l0 l1 (0 : Int32) (0 : Int32) h
def F_X8_standing (l0 : Option Nat) (l1 : Option Nat) (M : gM) : Option Int32 := F_X8_standing_b0 M l0 l1
theorem T_X8_standing (l0 : Option Nat) (l1 : Option Nat) (M : gM) (r : Int32) (h : F_X8_standing l0 l1 M = some r) : g_Met 0 0 0 yX8_standing X_X8_standing [vr l0, vr l1] M (some (vi r), M) :=
  g_Met_of pn_RX8 rfl (Nat.le_of_ble_eq_true rfl) (fun h => by cases h) (GW_sub [0, 1] rfl (T_X8_standing_b0 M r l0 l1 h))
/-! ForgetHeirs.lookAhead(I)V -/
theorem d_X11_lookAhead_0 : decode cX11_lookAhead 0 = .ok (.aload_n 0, 1) := by decide +kernel
theorem d_X11_lookAhead_1 : decode cX11_lookAhead 1 = .ok (.getfield 29, 3) := by decide +kernel
theorem d_X11_lookAhead_4 : decode cX11_lookAhead 4 = .ok (.aload_n 0, 1) := by decide +kernel
theorem d_X11_lookAhead_5 : decode cX11_lookAhead 5 = .ok (.getfield 25, 3) := by decide +kernel
theorem d_X11_lookAhead_8 : decode cX11_lookAhead 8 = .ok (.invokevirtual 114, 3) := by decide +kernel
theorem d_X11_lookAhead_11 : decode cX11_lookAhead 11 = .ok (.iconst 0, 1) := by decide +kernel
theorem d_X11_lookAhead_12 : decode cX11_lookAhead 12 = .ok (.istore_n 2, 1) := by decide +kernel
theorem d_X11_lookAhead_13 : decode cX11_lookAhead 13 = .ok (.iload_n 2, 1) := by decide +kernel
theorem d_X11_lookAhead_14 : decode cX11_lookAhead 14 = .ok (.iload_n 1, 1) := by decide +kernel
theorem d_X11_lookAhead_15 : decode cX11_lookAhead 15 = .ok (.if_icmp .ge 43, 3) := by decide +kernel
theorem d_X11_lookAhead_18 : decode cX11_lookAhead 18 = .ok (.aload_n 0, 1) := by decide +kernel
theorem d_X11_lookAhead_19 : decode cX11_lookAhead 19 = .ok (.getfield 29, 3) := by decide +kernel
theorem d_X11_lookAhead_22 : decode cX11_lookAhead 22 = .ok (.aload_n 0, 1) := by decide +kernel
theorem d_X11_lookAhead_23 : decode cX11_lookAhead 23 = .ok (.getfield 59, 3) := by decide +kernel
theorem d_X11_lookAhead_26 : decode cX11_lookAhead 26 = .ok (.invokevirtual 196, 3) := by decide +kernel
theorem d_X11_lookAhead_29 : decode cX11_lookAhead 29 = .ok (.ifCond .eq 29, 3) := by decide +kernel
theorem d_X11_lookAhead_32 : decode cX11_lookAhead 32 = .ok (.aload_n 0, 1) := by decide +kernel
theorem d_X11_lookAhead_33 : decode cX11_lookAhead 33 = .ok (.getfield 18, 3) := by decide +kernel
theorem d_X11_lookAhead_36 : decode cX11_lookAhead 36 = .ok (.aload_n 0, 1) := by decide +kernel
theorem d_X11_lookAhead_37 : decode cX11_lookAhead 37 = .ok (.getfield 59, 3) := by decide +kernel
theorem d_X11_lookAhead_40 : decode cX11_lookAhead 40 = .ok (.aload_n 0, 1) := by decide +kernel
theorem d_X11_lookAhead_41 : decode cX11_lookAhead 41 = .ok (.getfield 29, 3) := by decide +kernel
theorem d_X11_lookAhead_44 : decode cX11_lookAhead 44 = .ok (.aload_n 0, 1) := by decide +kernel
theorem d_X11_lookAhead_45 : decode cX11_lookAhead 45 = .ok (.invokevirtual 211, 3) := by decide +kernel
theorem d_X11_lookAhead_48 : decode cX11_lookAhead 48 = .ok (.invokevirtual 214, 3) := by decide +kernel
theorem d_X11_lookAhead_51 : decode cX11_lookAhead 51 = .ok (.pop, 1) := by decide +kernel
theorem d_X11_lookAhead_52 : decode cX11_lookAhead 52 = .ok (.iinc 2 1, 3) := by decide +kernel
theorem d_X11_lookAhead_55 : decode cX11_lookAhead 55 = .ok (.goto (-42), 3) := by decide +kernel
theorem d_X11_lookAhead_58 : decode cX11_lookAhead 58 = .ok (.return_, 1) := by decide +kernel
abbrev X_X11_lookAhead : gX := (RX11, cX11_lookAhead, 3, none, false)
def F_X11_lookAhead_b13 (k13 : Option Nat → Int32 → Int32 → gM → Option gM) (l0 : Option Nat) (l1 : Int32) (l2 : Int32) (M : gM) : Option gM :=
  if l1 ≤ l2 then (some M) else ((gR 11 M l0 6).bind fun v1 => (gR 11 M l0 11).bind fun v2 => (gO 8 M v1).bind fun i3 => (F_X8_standing (some i3) v2 M).bind fun v4 => if v4 = 0 then (some M) else ((gR 11 M l0 4).bind fun v5 => (gR 11 M l0 11).bind fun v6 => (gR 11 M l0 6).bind fun v7 => (gO 11 M l0).bind fun i8 => (F_X11_ruleInForce (some i8) M).bind fun v9 => (gO 10 M v5).bind fun i10 => (F_X10_pass (some i10) v6 v7 v9 M).bind fun (v11, M12) => k13 (some i8) l1 (l2 + 1) M12))
set_option maxHeartbeats 1000000 in
theorem T_X11_lookAhead_b13 (k13 : Option Nat → Int32 → Int32 → gM → Option gM) (r : gM) (hk13 : ∀ (l0 : Option Nat) (l1 : Int32) (l2 : Int32) (M : gM), k13 l0 l1 l2 M = some r → GW 5 0 0 X_X11_lookAhead 13 [(0, vr l0), (1, vi l1), (2, vi l2)] [] M (none, r)) (l0 : Option Nat) (l1 : Int32) (l2 : Int32) (M : gM) (h : F_X11_lookAhead_b13 k13 l0 l1 l2 M = some r) : GW 5 0 0 X_X11_lookAhead 13 [(0, vr l0), (1, vi l1), (2, vi l2)] [] M (none, r) := by
  delta F_X11_lookAhead_b13 at h
  refine GW_iload_n (X := X_X11_lookAhead) (pc := 13) d_X11_lookAhead_13 rfl 2 rfl ?_
  refine GW_iload_n (X := X_X11_lookAhead) (pc := 14) d_X11_lookAhead_14 rfl 1 rfl ?_
  refine GW_icmp_ge (X := X_X11_lookAhead) (pc := 15) 58 d_X11_lookAhead_15 (by decide) (fun c => ?_) (fun c => ?_)
  · replace h := g_ip c h
    replace h := Option.some.inj h
    subst h
    exact GW_ret (X := X_X11_lookAhead) (pc := 58) d_X11_lookAhead_58 rfl trivial
  · replace h := g_ie c h
    refine GW_aload_n (X := X_X11_lookAhead) (pc := 18) d_X11_lookAhead_18 rfl 0 rfl ?_
    replace h := g_bd h
    obtain ⟨v1, hv1, h⟩ := h
    refine GW_getR (X := X_X11_lookAhead) (pc := 19) f_X11_29 d_X11_lookAhead_19 hv1 (Or.inl ⟨_, ty_11_6⟩) ?_
    refine GW_aload_n (X := X_X11_lookAhead) (pc := 22) d_X11_lookAhead_22 rfl 0 rfl ?_
    replace h := g_bd h
    obtain ⟨v2, hv2, h⟩ := h
    refine GW_getR (X := X_X11_lookAhead) (pc := 23) f_X11_59 d_X11_lookAhead_23 hv2 (Or.inl ⟨_, ty_11_11⟩) ?_
    replace h := g_bd h
    obtain ⟨i3, hi3, h⟩ := h
    obtain ⟨rfl, ki3⟩ := g_gO hi3
    replace h := g_bd h
    obtain ⟨v4, hv4, h⟩ := h
    refine GW_callV (X := X_X11_lookAhead) (pc := 26) (bc0 := 0) (bs0 := 0) (r := some (vi v4)) (M2 := M) (c0 := 8) (T_X8_standing (some i3) v2 M v4 hv4) (Nat.le_of_ble_eq_true rfl) (Nat.le_of_ble_eq_true rfl) rfl g_cok8 ki3 yc_X8_standing ⟨m_807, m_808, m_809, m_119, m_810⟩ d_X11_lookAhead_26 rfl (st := []) rfl (Nat.le_of_ble_eq_true rfl) (Nat.le_of_ble_eq_true rfl) (Nat.le_of_ble_eq_true rfl) (st2 := [vi v4]) rfl ?_
    refine GW_if_eq (X := X_X11_lookAhead) (pc := 29) 58 d_X11_lookAhead_29 (by decide) (fun c => ?_) (fun c => ?_)
    · replace h := g_ip c h
      replace h := Option.some.inj h
      subst h
      exact GW_ret (X := X_X11_lookAhead) (pc := 58) d_X11_lookAhead_58 rfl trivial
    · replace h := g_ie c h
      refine GW_aload_n (X := X_X11_lookAhead) (pc := 32) d_X11_lookAhead_32 rfl 0 rfl ?_
      replace h := g_bd h
      obtain ⟨v5, hv5, h⟩ := h
      refine GW_getR (X := X_X11_lookAhead) (pc := 33) f_X11_18 d_X11_lookAhead_33 hv5 (Or.inl ⟨_, ty_11_4⟩) ?_
      refine GW_aload_n (X := X_X11_lookAhead) (pc := 36) d_X11_lookAhead_36 rfl 0 rfl ?_
      replace h := g_bd h
      obtain ⟨v6, hv6, h⟩ := h
      refine GW_getR (X := X_X11_lookAhead) (pc := 37) f_X11_59 d_X11_lookAhead_37 hv6 (Or.inl ⟨_, ty_11_11⟩) ?_
      refine GW_aload_n (X := X_X11_lookAhead) (pc := 40) d_X11_lookAhead_40 rfl 0 rfl ?_
      replace h := g_bd h
      obtain ⟨v7, hv7, h⟩ := h
      refine GW_getR (X := X_X11_lookAhead) (pc := 41) f_X11_29 d_X11_lookAhead_41 hv7 (Or.inl ⟨_, ty_11_6⟩) ?_
      refine GW_aload_n (X := X_X11_lookAhead) (pc := 44) d_X11_lookAhead_44 rfl 0 rfl ?_
      replace h := g_bd h
      obtain ⟨i8, hi8, h⟩ := h
      obtain ⟨rfl, ki8⟩ := g_gO hi8
      replace h := g_bd h
      obtain ⟨v9, hv9, h⟩ := h
      refine GW_callV (X := X_X11_lookAhead) (pc := 45) (bc0 := 0) (bs0 := 0) (r := some (vr v9)) (M2 := M) (c0 := 11) (T_X11_ruleInForce (some i8) M v9 hv9) (Nat.le_of_ble_eq_true rfl) (Nat.le_of_ble_eq_true rfl) rfl g_cok11 ki8 yc_X11_ruleInForce ⟨m_831, m_833, m_23, m_116, m_834⟩ d_X11_lookAhead_45 rfl (st := [vr v7, vr v6, vr v5]) rfl (Nat.le_of_ble_eq_true rfl) (Nat.le_of_ble_eq_true rfl) (Nat.le_of_ble_eq_true rfl) (st2 := [vr v9, vr v7, vr v6, vr v5]) rfl ?_
      replace h := g_bd h
      obtain ⟨i10, hi10, h⟩ := h
      obtain ⟨rfl, ki10⟩ := g_gO hi10
      replace h := g_bd h
      obtain ⟨⟨v11, M12⟩, hv11, h⟩ := h
      dsimp only at h
      refine GW_callV (X := X_X11_lookAhead) (pc := 48) (bc0 := 0) (bs0 := 0) (r := some (vi v11)) (M2 := M12) (c0 := 10) (T_X10_pass (some i10) v6 v7 v9 M (v11, M12) hv11) (Nat.le_of_ble_eq_true rfl) (Nat.le_of_ble_eq_true rfl) rfl g_cok10 ki10 yc_X10_pass ⟨m_835, m_836, m_837, m_117, m_838⟩ d_X11_lookAhead_48 rfl (st := []) rfl (Nat.le_of_ble_eq_true rfl) (Nat.le_of_ble_eq_true rfl) (Nat.le_of_ble_eq_true rfl) (st2 := [vi v11]) rfl ?_
      refine GW_pop (X := X_X11_lookAhead) (pc := 51) d_X11_lookAhead_51 rfl ?_
      refine GW_iinc (j := 2) (X := X_X11_lookAhead) (pc := 52) d_X11_lookAhead_52 rfl (congrArg (fun z => _ + z) (by decide : Int32.ofInt 1 = (1 : Int32))) (Nat.le_of_ble_eq_true rfl) (lv2 := [(2, vi (l2 + 1)), (0, vr (some i8)), (1, vi l1)]) rfl ?_
      refine GW_goto (X := X_X11_lookAhead) (pc := 55) 13 d_X11_lookAhead_55 (by decide) ?_
      refine GW_sub [1, 2, 0] rfl ?_
      exact hk13 (some i8) l1 (l2 + 1) M12 h
def F_X11_lookAhead_L13 : Nat → Option Nat → Int32 → Int32 → gM → Option gM
  | 0 => fun _ _ _ _ => none
  | n + 1 => F_X11_lookAhead_b13 (F_X11_lookAhead_L13 n)
theorem T_X11_lookAhead_L13 (r : gM) : ∀ (n : Nat) (l0 : Option Nat) (l1 : Int32) (l2 : Int32) (M : gM), F_X11_lookAhead_L13 n l0 l1 l2 M = some r → GW 5 0 0 X_X11_lookAhead 13 [(0, vr l0), (1, vi l1), (2, vi l2)] [] M (none, r) := by
  intro n
  induction n with
  | zero => intro l0 l1 l2 M h; exact g_no h
  | succ n ih => intro l0 l1 l2 M h; exact T_X11_lookAhead_b13 (F_X11_lookAhead_L13 n) r ih l0 l1 l2 M h
def F_X11_lookAhead_b0 (l0 : Option Nat) (l1 : Int32) (M : gM) : Option gM :=
  (gR 11 M l0 6).bind fun v1 => (gR 11 M l0 5).bind fun v2 => (gO 8 M v1).bind fun i3 => (F_X8_copy (some i3) v2 M).bind fun M4 => F_X11_lookAhead_L13 g_fuel l0 l1 (0 : Int32) M4
theorem T_X11_lookAhead_b0 (r : gM) (l0 : Option Nat) (l1 : Int32) (M : gM) (h : F_X11_lookAhead_b0 l0 l1 M = some r) : GW 5 0 0 X_X11_lookAhead 0 [(0, vr l0), (1, vi l1)] [] M (none, r) := by
  delta F_X11_lookAhead_b0 at h
  refine GW_aload_n (X := X_X11_lookAhead) (pc := 0) d_X11_lookAhead_0 rfl 0 rfl ?_
  replace h := g_bd h
  obtain ⟨v1, hv1, h⟩ := h
  refine GW_getR (X := X_X11_lookAhead) (pc := 1) f_X11_29 d_X11_lookAhead_1 hv1 (Or.inl ⟨_, ty_11_6⟩) ?_
  refine GW_aload_n (X := X_X11_lookAhead) (pc := 4) d_X11_lookAhead_4 rfl 0 rfl ?_
  replace h := g_bd h
  obtain ⟨v2, hv2, h⟩ := h
  refine GW_getR (X := X_X11_lookAhead) (pc := 5) f_X11_25 d_X11_lookAhead_5 hv2 (Or.inl ⟨_, ty_11_5⟩) ?_
  replace h := g_bd h
  obtain ⟨i3, hi3, h⟩ := h
  obtain ⟨rfl, ki3⟩ := g_gO hi3
  replace h := g_bd h
  obtain ⟨M4, hM4, h⟩ := h
  refine GW_callV (X := X_X11_lookAhead) (pc := 8) (bc0 := 0) (bs0 := 0) (r := none) (M2 := M4) (c0 := 8) (T_X8_copy (some i3) v2 M M4 hM4) (Nat.le_of_ble_eq_true rfl) (Nat.le_of_ble_eq_true rfl) rfl g_cok8 ki3 yc_X8_copy ⟨m_664, m_665, m_666, m_119, m_667⟩ d_X11_lookAhead_8 rfl (st := []) rfl (Nat.le_of_ble_eq_true rfl) (Nat.le_of_ble_eq_true rfl) (Nat.le_of_ble_eq_true rfl) (st2 := []) rfl ?_
  refine GW_iconst (X := X_X11_lookAhead) (pc := 11) (v := 0) d_X11_lookAhead_11 (by decide) ?_
  refine GW_istore_n (X := X_X11_lookAhead) (pc := 12) d_X11_lookAhead_12 rfl (Nat.le_of_ble_eq_true rfl) (lv2 := [(2, vi (0 : Int32)), (0, vr l0), (1, vi l1)]) rfl ?_
  refine GW_sub [1, 2, 0] rfl ?_
  exact T_X11_lookAhead_L13 r g_fuel l0 l1 (0 : Int32) M4 h
def F_X11_lookAhead (l0 : Option Nat) (l1 : Int32) (M : gM) : Option gM := F_X11_lookAhead_b0 l0 l1 M
theorem T_X11_lookAhead (l0 : Option Nat) (l1 : Int32) (M : gM) (r : gM) (h : F_X11_lookAhead l0 l1 M = some r) : g_Met 5 0 0 yX11_lookAhead X_X11_lookAhead [vr l0, vi l1] M (none, r) :=
  g_Met_of pn_RX11 rfl (Nat.le_of_ble_eq_true rfl) (fun h => by cases h) (GW_sub [0, 1] rfl (T_X11_lookAhead_b0 r l0 l1 M h))
/-! ForgetHeirs.ahead(II)I -/
theorem d_X11_ahead_0 : decode cX11_ahead 0 = .ok (.aload_n 0, 1) := by decide +kernel
theorem d_X11_ahead_1 : decode cX11_ahead 1 = .ok (.iload_n 1, 1) := by decide +kernel
theorem d_X11_ahead_2 : decode cX11_ahead 2 = .ok (.invokevirtual 127, 3) := by decide +kernel
theorem d_X11_ahead_5 : decode cX11_ahead 5 = .ok (.ifCond .eq 14, 3) := by decide +kernel
theorem d_X11_ahead_8 : decode cX11_ahead 8 = .ok (.iload_n 2, 1) := by decide +kernel
theorem d_X11_ahead_9 : decode cX11_ahead 9 = .ok (.ifCond .lt 10, 3) := by decide +kernel
theorem d_X11_ahead_12 : decode cX11_ahead 12 = .ok (.iload_n 2, 1) := by decide +kernel
theorem d_X11_ahead_13 : decode cX11_ahead 13 = .ok (.sipush 200, 3) := by decide +kernel
theorem d_X11_ahead_16 : decode cX11_ahead 16 = .ok (.if_icmp .le 5, 3) := by decide +kernel
theorem d_X11_ahead_19 : decode cX11_ahead 19 = .ok (.iconst (-1), 1) := by decide +kernel
theorem d_X11_ahead_20 : decode cX11_ahead 20 = .ok (.ireturn, 1) := by decide +kernel
theorem d_X11_ahead_21 : decode cX11_ahead 21 = .ok (.aload_n 0, 1) := by decide +kernel
theorem d_X11_ahead_22 : decode cX11_ahead 22 = .ok (.iload_n 2, 1) := by decide +kernel
theorem d_X11_ahead_23 : decode cX11_ahead 23 = .ok (.invokevirtual 242, 3) := by decide +kernel
theorem d_X11_ahead_26 : decode cX11_ahead 26 = .ok (.aload_n 0, 1) := by decide +kernel
theorem d_X11_ahead_27 : decode cX11_ahead 27 = .ok (.getfield 29, 3) := by decide +kernel
theorem d_X11_ahead_30 : decode cX11_ahead 30 = .ok (.aload_n 0, 1) := by decide +kernel
theorem d_X11_ahead_31 : decode cX11_ahead 31 = .ok (.getfield 59, 3) := by decide +kernel
theorem d_X11_ahead_34 : decode cX11_ahead 34 = .ok (.iload_n 1, 1) := by decide +kernel
theorem d_X11_ahead_35 : decode cX11_ahead 35 = .ok (.invokevirtual 151, 3) := by decide +kernel
theorem d_X11_ahead_38 : decode cX11_ahead 38 = .ok (.ireturn, 1) := by decide +kernel
abbrev X_X11_ahead : gX := (RX11, cX11_ahead, 3, (some .int), false)
def F_X11_ahead_b19 (M : gM) : Option (Int32 × gM) :=
  some ((-1 : Int32), M)
theorem T_X11_ahead_b19 (r : (Int32 × gM)) (M : gM) (h : F_X11_ahead_b19 M = some r) : GW 6 0 0 X_X11_ahead 19 [] [] M (some (vi r.1), r.2) := by
  delta F_X11_ahead_b19 at h
  refine GW_iconst (X := X_X11_ahead) (pc := 19) (v := -1) d_X11_ahead_19 (by decide) ?_
  replace h := Option.some.inj h
  subst h
  exact GW_ret (X := X_X11_ahead) (pc := 20) d_X11_ahead_20 rfl trivial
def F_X11_ahead_b0 (l0 : Option Nat) (l1 : Int32) (l2 : Int32) (M : gM) : Option (Int32 × gM) :=
  (gO 11 M l0).bind fun i1 => (F_X11_isHeir (some i1) l1 M).bind fun v2 => if v2 = 0 then (F_X11_ahead_b19 M) else (if l2 < 0 then (F_X11_ahead_b19 M) else (if l2 ≤ (200 : Int32) then ((F_X11_lookAhead (some i1) l2 M).bind fun M3 => (gR 11 M3 (some i1) 6).bind fun v4 => (gR 11 M3 (some i1) 11).bind fun v5 => (gO 8 M3 v4).bind fun i6 => (F_X8_heldBy (some i6) v5 l1 M3).bind fun v7 => some (v7, M3)) else (F_X11_ahead_b19 M)))
set_option maxHeartbeats 1000000 in
theorem T_X11_ahead_b0 (r : (Int32 × gM)) (l0 : Option Nat) (l1 : Int32) (l2 : Int32) (M : gM) (h : F_X11_ahead_b0 l0 l1 l2 M = some r) : GW 6 0 0 X_X11_ahead 0 [(0, vr l0), (1, vi l1), (2, vi l2)] [] M (some (vi r.1), r.2) := by
  delta F_X11_ahead_b0 at h
  refine GW_aload_n (X := X_X11_ahead) (pc := 0) d_X11_ahead_0 rfl 0 rfl ?_
  refine GW_iload_n (X := X_X11_ahead) (pc := 1) d_X11_ahead_1 rfl 1 rfl ?_
  replace h := g_bd h
  obtain ⟨i1, hi1, h⟩ := h
  obtain ⟨rfl, ki1⟩ := g_gO hi1
  replace h := g_bd h
  obtain ⟨v2, hv2, h⟩ := h
  refine GW_callV (X := X_X11_ahead) (pc := 2) (bc0 := 0) (bs0 := 0) (r := some (vi v2)) (M2 := M) (c0 := 11) (T_X11_isHeir (some i1) l1 M v2 hv2) (Nat.le_of_ble_eq_true rfl) (Nat.le_of_ble_eq_true rfl) rfl g_cok11 ki1 yc_X11_isHeir ⟨m_768, m_770, m_20, m_116, m_771⟩ d_X11_ahead_2 rfl (st := []) rfl (Nat.le_of_ble_eq_true rfl) (Nat.le_of_ble_eq_true rfl) (Nat.le_of_ble_eq_true rfl) (st2 := [vi v2]) rfl ?_
  refine GW_if_eq (X := X_X11_ahead) (pc := 5) 19 d_X11_ahead_5 (by decide) (fun c => ?_) (fun c => ?_)
  · replace h := g_ip c h
    refine GW_sub [] rfl ?_
    exact T_X11_ahead_b19 r M h
  · replace h := g_ie c h
    refine GW_iload_n (X := X_X11_ahead) (pc := 8) d_X11_ahead_8 rfl 2 rfl ?_
    refine GW_if_lt (X := X_X11_ahead) (pc := 9) 19 d_X11_ahead_9 (by decide) (fun c => ?_) (fun c => ?_)
    · replace h := g_ip c h
      refine GW_sub [] rfl ?_
      exact T_X11_ahead_b19 r M h
    · replace h := g_ie c h
      refine GW_iload_n (X := X_X11_ahead) (pc := 12) d_X11_ahead_12 rfl 2 rfl ?_
      refine GW_sipush (X := X_X11_ahead) (pc := 13) (v := 200) d_X11_ahead_13 (by decide) ?_
      refine GW_icmp_le (X := X_X11_ahead) (pc := 16) 21 d_X11_ahead_16 (by decide) (fun c => ?_) (fun c => ?_)
      · replace h := g_ip c h
        refine GW_aload_n (X := X_X11_ahead) (pc := 21) d_X11_ahead_21 rfl 0 rfl ?_
        refine GW_iload_n (X := X_X11_ahead) (pc := 22) d_X11_ahead_22 rfl 2 rfl ?_
        replace h := g_bd h
        obtain ⟨M3, hM3, h⟩ := h
        refine GW_callV (X := X_X11_ahead) (pc := 23) (bc0 := 0) (bs0 := 0) (r := none) (M2 := M3) (c0 := 11) (T_X11_lookAhead (some i1) l2 M M3 hM3) (Nat.le_of_ble_eq_true rfl) (Nat.le_of_ble_eq_true rfl) rfl g_cok11 ki1 yc_X11_lookAhead ⟨m_956, m_958, m_32, m_116, m_959⟩ d_X11_ahead_23 rfl (st := []) rfl (Nat.le_of_ble_eq_true rfl) (Nat.le_of_ble_eq_true rfl) (Nat.le_of_ble_eq_true rfl) (st2 := []) rfl ?_
        refine GW_aload_n (X := X_X11_ahead) (pc := 26) d_X11_ahead_26 rfl 0 rfl ?_
        replace h := g_bd h
        obtain ⟨v4, hv4, h⟩ := h
        refine GW_getR (X := X_X11_ahead) (pc := 27) f_X11_29 d_X11_ahead_27 hv4 (Or.inl ⟨_, ty_11_6⟩) ?_
        refine GW_aload_n (X := X_X11_ahead) (pc := 30) d_X11_ahead_30 rfl 0 rfl ?_
        replace h := g_bd h
        obtain ⟨v5, hv5, h⟩ := h
        refine GW_getR (X := X_X11_ahead) (pc := 31) f_X11_59 d_X11_ahead_31 hv5 (Or.inl ⟨_, ty_11_11⟩) ?_
        refine GW_iload_n (X := X_X11_ahead) (pc := 34) d_X11_ahead_34 rfl 1 rfl ?_
        replace h := g_bd h
        obtain ⟨i6, hi6, h⟩ := h
        obtain ⟨rfl, ki6⟩ := g_gO hi6
        replace h := g_bd h
        obtain ⟨v7, hv7, h⟩ := h
        refine GW_callV (X := X_X11_ahead) (pc := 35) (bc0 := 0) (bs0 := 0) (r := some (vi v7)) (M2 := M3) (c0 := 8) (T_X8_heldBy (some i6) v5 l1 M3 v7 hv7) (Nat.le_of_ble_eq_true rfl) (Nat.le_of_ble_eq_true rfl) rfl g_cok8 ki6 yc_X8_heldBy ⟨m_777, m_778, m_779, m_119, m_780⟩ d_X11_ahead_35 rfl (st := []) rfl (Nat.le_of_ble_eq_true rfl) (Nat.le_of_ble_eq_true rfl) (Nat.le_of_ble_eq_true rfl) (st2 := [vi v7]) rfl ?_
        replace h := Option.some.inj h
        subst h
        exact GW_ret (X := X_X11_ahead) (pc := 38) d_X11_ahead_38 rfl trivial
      · replace h := g_ie c h
        refine GW_sub [] rfl ?_
        exact T_X11_ahead_b19 r M h
def F_X11_ahead (l0 : Option Nat) (l1 : Int32) (l2 : Int32) (M : gM) : Option (Int32 × gM) := F_X11_ahead_b0 l0 l1 l2 M
theorem T_X11_ahead (l0 : Option Nat) (l1 : Int32) (l2 : Int32) (M : gM) (r : (Int32 × gM)) (h : F_X11_ahead l0 l1 l2 M = some r) : g_Met 6 0 0 yX11_ahead X_X11_ahead [vr l0, vi l1, vi l2] M (some (vi r.1), r.2) :=
  g_Met_of pn_RX11 rfl (Nat.le_of_ble_eq_true rfl) (fun h => by cases h) (GW_sub [0, 1, 2] rfl (T_X11_ahead_b0 r l0 l1 l2 M h))
/-! ForgetHeirsModel.keeps()V -/
theorem d_X12_keeps_0 : decode cX12_keeps 0 = .ok (.iconst 0, 1) := by decide +kernel
theorem d_X12_keeps_1 : decode cX12_keeps 1 = .ok (.istore_n 1, 1) := by decide +kernel
theorem d_X12_keeps_2 : decode cX12_keeps 2 = .ok (.iload_n 1, 1) := by decide +kernel
theorem d_X12_keeps_3 : decode cX12_keeps 3 = .ok (.sipush 157, 3) := by decide +kernel
theorem d_X12_keeps_6 : decode cX12_keeps 6 = .ok (.if_icmp .ge 21, 3) := by decide +kernel
theorem d_X12_keeps_9 : decode cX12_keeps 9 = .ok (.aload_n 0, 1) := by decide +kernel
theorem d_X12_keeps_10 : decode cX12_keeps 10 = .ok (.getfield 52, 3) := by decide +kernel
theorem d_X12_keeps_13 : decode cX12_keeps 13 = .ok (.iload_n 1, 1) := by decide +kernel
theorem d_X12_keeps_14 : decode cX12_keeps 14 = .ok (.aload_n 0, 1) := by decide +kernel
theorem d_X12_keeps_15 : decode cX12_keeps 15 = .ok (.getfield 39, 3) := by decide +kernel
theorem d_X12_keeps_18 : decode cX12_keeps 18 = .ok (.iload_n 1, 1) := by decide +kernel
theorem d_X12_keeps_19 : decode cX12_keeps 19 = .ok (.iaload, 1) := by decide +kernel
theorem d_X12_keeps_20 : decode cX12_keeps 20 = .ok (.iastore, 1) := by decide +kernel
theorem d_X12_keeps_21 : decode cX12_keeps 21 = .ok (.iinc 1 1, 3) := by decide +kernel
theorem d_X12_keeps_24 : decode cX12_keeps 24 = .ok (.goto (-22), 3) := by decide +kernel
theorem d_X12_keeps_27 : decode cX12_keeps 27 = .ok (.return_, 1) := by decide +kernel
abbrev X_X12_keeps : gX := (RX12, cX12_keeps, 2, none, false)
def F_X12_keeps_b2 (k2 : Option Nat → Int32 → gM → Option gM) (l0 : Option Nat) (l1 : Int32) (M : gM) : Option gM :=
  if (157 : Int32) ≤ l1 then (some M) else ((gR 12 M l0 26).bind fun v1 => (gR 12 M l0 20).bind fun v2 => (aI 20 M v2 l1).bind fun v3 => (sI M v1 l1 v3).bind fun M4 => k2 l0 (l1 + 1) M4)
theorem T_X12_keeps_b2 (k2 : Option Nat → Int32 → gM → Option gM) (r : gM) (hk2 : ∀ (l0 : Option Nat) (l1 : Int32) (M : gM), k2 l0 l1 M = some r → GW 0 0 0 X_X12_keeps 2 [(0, vr l0), (1, vi l1)] [] M (none, r)) (l0 : Option Nat) (l1 : Int32) (M : gM) (h : F_X12_keeps_b2 k2 l0 l1 M = some r) : GW 0 0 0 X_X12_keeps 2 [(0, vr l0), (1, vi l1)] [] M (none, r) := by
  delta F_X12_keeps_b2 at h
  refine GW_iload_n (X := X_X12_keeps) (pc := 2) d_X12_keeps_2 rfl 1 rfl ?_
  refine GW_sipush (X := X_X12_keeps) (pc := 3) (v := 157) d_X12_keeps_3 (by decide) ?_
  refine GW_icmp_ge (X := X_X12_keeps) (pc := 6) 27 d_X12_keeps_6 (by decide) (fun c => ?_) (fun c => ?_)
  · replace h := g_ip c h
    replace h := Option.some.inj h
    subst h
    exact GW_ret (X := X_X12_keeps) (pc := 27) d_X12_keeps_27 rfl trivial
  · replace h := g_ie c h
    refine GW_aload_n (X := X_X12_keeps) (pc := 9) d_X12_keeps_9 rfl 0 rfl ?_
    replace h := g_bd h
    obtain ⟨v1, hv1, h⟩ := h
    refine GW_getR (X := X_X12_keeps) (pc := 10) f_X12_52 d_X12_keeps_10 hv1 (Or.inr ⟨_, ty_12_26⟩) ?_
    refine GW_iload_n (X := X_X12_keeps) (pc := 13) d_X12_keeps_13 rfl 1 rfl ?_
    refine GW_aload_n (X := X_X12_keeps) (pc := 14) d_X12_keeps_14 rfl 0 rfl ?_
    replace h := g_bd h
    obtain ⟨v2, hv2, h⟩ := h
    refine GW_getR (X := X_X12_keeps) (pc := 15) f_X12_39 d_X12_keeps_15 hv2 (Or.inr ⟨_, ty_12_20⟩) ?_
    refine GW_iload_n (X := X_X12_keeps) (pc := 18) d_X12_keeps_18 rfl 1 rfl ?_
    replace h := g_bd h
    obtain ⟨v3, hv3, h⟩ := h
    refine GW_iald (X := X_X12_keeps) (pc := 19) d_X12_keeps_19 hv3 ?_
    replace h := g_bd h
    obtain ⟨M4, hM4, h⟩ := h
    refine GW_iast (X := X_X12_keeps) (pc := 20) d_X12_keeps_20 hM4 ?_
    refine GW_iinc (j := 1) (X := X_X12_keeps) (pc := 21) d_X12_keeps_21 rfl (congrArg (fun z => _ + z) (by decide : Int32.ofInt 1 = (1 : Int32))) (Nat.le_of_ble_eq_true rfl) (lv2 := [(1, vi (l1 + 1)), (0, vr l0)]) rfl ?_
    refine GW_goto (X := X_X12_keeps) (pc := 24) 2 d_X12_keeps_24 (by decide) ?_
    refine GW_sub [1, 0] rfl ?_
    exact hk2 l0 (l1 + 1) M4 h
def F_X12_keeps_L2 : Nat → Option Nat → Int32 → gM → Option gM
  | 0 => fun _ _ _ => none
  | n + 1 => F_X12_keeps_b2 (F_X12_keeps_L2 n)
theorem T_X12_keeps_L2 (r : gM) : ∀ (n : Nat) (l0 : Option Nat) (l1 : Int32) (M : gM), F_X12_keeps_L2 n l0 l1 M = some r → GW 0 0 0 X_X12_keeps 2 [(0, vr l0), (1, vi l1)] [] M (none, r) := by
  intro n
  induction n with
  | zero => intro l0 l1 M h; exact g_no h
  | succ n ih => intro l0 l1 M h; exact T_X12_keeps_b2 (F_X12_keeps_L2 n) r ih l0 l1 M h
def F_X12_keeps_b0 (l0 : Option Nat) (M : gM) : Option gM :=
  F_X12_keeps_L2 g_fuel l0 (0 : Int32) M
theorem T_X12_keeps_b0 (r : gM) (l0 : Option Nat) (M : gM) (h : F_X12_keeps_b0 l0 M = some r) : GW 0 0 0 X_X12_keeps 0 [(0, vr l0)] [] M (none, r) := by
  delta F_X12_keeps_b0 at h
  refine GW_iconst (X := X_X12_keeps) (pc := 0) (v := 0) d_X12_keeps_0 (by decide) ?_
  refine GW_istore_n (X := X_X12_keeps) (pc := 1) d_X12_keeps_1 rfl (Nat.le_of_ble_eq_true rfl) (lv2 := [(1, vi (0 : Int32)), (0, vr l0)]) rfl ?_
  refine GW_sub [1, 0] rfl ?_
  exact T_X12_keeps_L2 r g_fuel l0 (0 : Int32) M h
def F_X12_keeps (l0 : Option Nat) (M : gM) : Option gM := F_X12_keeps_b0 l0 M
theorem T_X12_keeps (l0 : Option Nat) (M : gM) (r : gM) (h : F_X12_keeps l0 M = some r) : g_Met 0 0 0 yX12_keeps X_X12_keeps [vr l0] M (none, r) :=
  g_Met_of pn_RX12 rfl (Nat.le_of_ble_eq_true rfl) (fun h => by cases h) (GW_sub [0] rfl (T_X12_keeps_b0 r l0 M h))
/-! ForgetHeirsModel.laysBack()V -/
theorem d_X12_laysBack_0 : decode cX12_laysBack 0 = .ok (.iconst 0, 1) := by decide +kernel
theorem d_X12_laysBack_1 : decode cX12_laysBack 1 = .ok (.istore_n 1, 1) := by decide +kernel
theorem d_X12_laysBack_2 : decode cX12_laysBack 2 = .ok (.iload_n 1, 1) := by decide +kernel
theorem d_X12_laysBack_3 : decode cX12_laysBack 3 = .ok (.sipush 157, 3) := by decide +kernel
theorem d_X12_laysBack_6 : decode cX12_laysBack 6 = .ok (.if_icmp .ge 21, 3) := by decide +kernel
theorem d_X12_laysBack_9 : decode cX12_laysBack 9 = .ok (.aload_n 0, 1) := by decide +kernel
theorem d_X12_laysBack_10 : decode cX12_laysBack 10 = .ok (.getfield 39, 3) := by decide +kernel
theorem d_X12_laysBack_13 : decode cX12_laysBack 13 = .ok (.iload_n 1, 1) := by decide +kernel
theorem d_X12_laysBack_14 : decode cX12_laysBack 14 = .ok (.aload_n 0, 1) := by decide +kernel
theorem d_X12_laysBack_15 : decode cX12_laysBack 15 = .ok (.getfield 52, 3) := by decide +kernel
theorem d_X12_laysBack_18 : decode cX12_laysBack 18 = .ok (.iload_n 1, 1) := by decide +kernel
theorem d_X12_laysBack_19 : decode cX12_laysBack 19 = .ok (.iaload, 1) := by decide +kernel
theorem d_X12_laysBack_20 : decode cX12_laysBack 20 = .ok (.iastore, 1) := by decide +kernel
theorem d_X12_laysBack_21 : decode cX12_laysBack 21 = .ok (.iinc 1 1, 3) := by decide +kernel
theorem d_X12_laysBack_24 : decode cX12_laysBack 24 = .ok (.goto (-22), 3) := by decide +kernel
theorem d_X12_laysBack_27 : decode cX12_laysBack 27 = .ok (.return_, 1) := by decide +kernel
abbrev X_X12_laysBack : gX := (RX12, cX12_laysBack, 2, none, false)
def F_X12_laysBack_b2 (k2 : Option Nat → Int32 → gM → Option gM) (l0 : Option Nat) (l1 : Int32) (M : gM) : Option gM :=
  if (157 : Int32) ≤ l1 then (some M) else ((gR 12 M l0 20).bind fun v1 => (gR 12 M l0 26).bind fun v2 => (aI 20 M v2 l1).bind fun v3 => (sI M v1 l1 v3).bind fun M4 => k2 l0 (l1 + 1) M4)
theorem T_X12_laysBack_b2 (k2 : Option Nat → Int32 → gM → Option gM) (r : gM) (hk2 : ∀ (l0 : Option Nat) (l1 : Int32) (M : gM), k2 l0 l1 M = some r → GW 0 0 0 X_X12_laysBack 2 [(0, vr l0), (1, vi l1)] [] M (none, r)) (l0 : Option Nat) (l1 : Int32) (M : gM) (h : F_X12_laysBack_b2 k2 l0 l1 M = some r) : GW 0 0 0 X_X12_laysBack 2 [(0, vr l0), (1, vi l1)] [] M (none, r) := by
  delta F_X12_laysBack_b2 at h
  refine GW_iload_n (X := X_X12_laysBack) (pc := 2) d_X12_laysBack_2 rfl 1 rfl ?_
  refine GW_sipush (X := X_X12_laysBack) (pc := 3) (v := 157) d_X12_laysBack_3 (by decide) ?_
  refine GW_icmp_ge (X := X_X12_laysBack) (pc := 6) 27 d_X12_laysBack_6 (by decide) (fun c => ?_) (fun c => ?_)
  · replace h := g_ip c h
    replace h := Option.some.inj h
    subst h
    exact GW_ret (X := X_X12_laysBack) (pc := 27) d_X12_laysBack_27 rfl trivial
  · replace h := g_ie c h
    refine GW_aload_n (X := X_X12_laysBack) (pc := 9) d_X12_laysBack_9 rfl 0 rfl ?_
    replace h := g_bd h
    obtain ⟨v1, hv1, h⟩ := h
    refine GW_getR (X := X_X12_laysBack) (pc := 10) f_X12_39 d_X12_laysBack_10 hv1 (Or.inr ⟨_, ty_12_20⟩) ?_
    refine GW_iload_n (X := X_X12_laysBack) (pc := 13) d_X12_laysBack_13 rfl 1 rfl ?_
    refine GW_aload_n (X := X_X12_laysBack) (pc := 14) d_X12_laysBack_14 rfl 0 rfl ?_
    replace h := g_bd h
    obtain ⟨v2, hv2, h⟩ := h
    refine GW_getR (X := X_X12_laysBack) (pc := 15) f_X12_52 d_X12_laysBack_15 hv2 (Or.inr ⟨_, ty_12_26⟩) ?_
    refine GW_iload_n (X := X_X12_laysBack) (pc := 18) d_X12_laysBack_18 rfl 1 rfl ?_
    replace h := g_bd h
    obtain ⟨v3, hv3, h⟩ := h
    refine GW_iald (X := X_X12_laysBack) (pc := 19) d_X12_laysBack_19 hv3 ?_
    replace h := g_bd h
    obtain ⟨M4, hM4, h⟩ := h
    refine GW_iast (X := X_X12_laysBack) (pc := 20) d_X12_laysBack_20 hM4 ?_
    refine GW_iinc (j := 1) (X := X_X12_laysBack) (pc := 21) d_X12_laysBack_21 rfl (congrArg (fun z => _ + z) (by decide : Int32.ofInt 1 = (1 : Int32))) (Nat.le_of_ble_eq_true rfl) (lv2 := [(1, vi (l1 + 1)), (0, vr l0)]) rfl ?_
    refine GW_goto (X := X_X12_laysBack) (pc := 24) 2 d_X12_laysBack_24 (by decide) ?_
    refine GW_sub [1, 0] rfl ?_
    exact hk2 l0 (l1 + 1) M4 h
def F_X12_laysBack_L2 : Nat → Option Nat → Int32 → gM → Option gM
  | 0 => fun _ _ _ => none
  | n + 1 => F_X12_laysBack_b2 (F_X12_laysBack_L2 n)
theorem T_X12_laysBack_L2 (r : gM) : ∀ (n : Nat) (l0 : Option Nat) (l1 : Int32) (M : gM), F_X12_laysBack_L2 n l0 l1 M = some r → GW 0 0 0 X_X12_laysBack 2 [(0, vr l0), (1, vi l1)] [] M (none, r) := by
  intro n
  induction n with
  | zero => intro l0 l1 M h; exact g_no h
  | succ n ih => intro l0 l1 M h; exact T_X12_laysBack_b2 (F_X12_laysBack_L2 n) r ih l0 l1 M h
def F_X12_laysBack_b0 (l0 : Option Nat) (M : gM) : Option gM :=
  F_X12_laysBack_L2 g_fuel l0 (0 : Int32) M
theorem T_X12_laysBack_b0 (r : gM) (l0 : Option Nat) (M : gM) (h : F_X12_laysBack_b0 l0 M = some r) : GW 0 0 0 X_X12_laysBack 0 [(0, vr l0)] [] M (none, r) := by
  delta F_X12_laysBack_b0 at h
  refine GW_iconst (X := X_X12_laysBack) (pc := 0) (v := 0) d_X12_laysBack_0 (by decide) ?_
  refine GW_istore_n (X := X_X12_laysBack) (pc := 1) d_X12_laysBack_1 rfl (Nat.le_of_ble_eq_true rfl) (lv2 := [(1, vi (0 : Int32)), (0, vr l0)]) rfl ?_
  refine GW_sub [1, 0] rfl ?_
  exact T_X12_laysBack_L2 r g_fuel l0 (0 : Int32) M h
def F_X12_laysBack (l0 : Option Nat) (M : gM) : Option gM := F_X12_laysBack_b0 l0 M
theorem T_X12_laysBack (l0 : Option Nat) (M : gM) (r : gM) (h : F_X12_laysBack l0 M = some r) : g_Met 0 0 0 yX12_laysBack X_X12_laysBack [vr l0] M (none, r) :=
  g_Met_of pn_RX12 rfl (Nat.le_of_ble_eq_true rfl) (fun h => by cases h) (GW_sub [0] rfl (T_X12_laysBack_b0 r l0 M h))
/-! ForgetHeirsModel.ahead(II)I -/
theorem d_X12_ahead_0 : decode cX12_ahead 0 = .ok (.aload_n 0, 1) := by decide +kernel
theorem d_X12_ahead_1 : decode cX12_ahead 1 = .ok (.iload_n 1, 1) := by decide +kernel
theorem d_X12_ahead_2 : decode cX12_ahead 2 = .ok (.invokevirtual 322, 3) := by decide +kernel
theorem d_X12_ahead_5 : decode cX12_ahead 5 = .ok (.ifCond .eq 15, 3) := by decide +kernel
theorem d_X12_ahead_8 : decode cX12_ahead 8 = .ok (.iload_n 2, 1) := by decide +kernel
theorem d_X12_ahead_9 : decode cX12_ahead 9 = .ok (.i2l, 1) := by decide +kernel
theorem d_X12_ahead_10 : decode cX12_ahead 10 = .ok (.lconst 0, 1) := by decide +kernel
theorem d_X12_ahead_11 : decode cX12_ahead 11 = .ok (.ldc2_w 381, 3) := by decide +kernel
theorem d_X12_ahead_14 : decode cX12_ahead 14 = .ok (.invokestatic 118, 3) := by decide +kernel
theorem d_X12_ahead_17 : decode cX12_ahead 17 = .ok (.ifCond .ne 5, 3) := by decide +kernel
theorem d_X12_ahead_20 : decode cX12_ahead 20 = .ok (.iconst (-1), 1) := by decide +kernel
theorem d_X12_ahead_21 : decode cX12_ahead 21 = .ok (.ireturn, 1) := by decide +kernel
theorem d_X12_ahead_22 : decode cX12_ahead 22 = .ok (.aload_n 0, 1) := by decide +kernel
theorem d_X12_ahead_23 : decode cX12_ahead 23 = .ok (.invokevirtual 383, 3) := by decide +kernel
theorem d_X12_ahead_26 : decode cX12_ahead 26 = .ok (.iconst 0, 1) := by decide +kernel
theorem d_X12_ahead_27 : decode cX12_ahead 27 = .ok (.istore_n 3, 1) := by decide +kernel
theorem d_X12_ahead_28 : decode cX12_ahead 28 = .ok (.iload_n 3, 1) := by decide +kernel
theorem d_X12_ahead_29 : decode cX12_ahead 29 = .ok (.iload_n 2, 1) := by decide +kernel
theorem d_X12_ahead_30 : decode cX12_ahead 30 = .ok (.if_icmp .ge 14, 3) := by decide +kernel
theorem d_X12_ahead_33 : decode cX12_ahead 33 = .ok (.aload_n 0, 1) := by decide +kernel
theorem d_X12_ahead_34 : decode cX12_ahead 34 = .ok (.invokevirtual 368, 3) := by decide +kernel
theorem d_X12_ahead_37 : decode cX12_ahead 37 = .ok (.pop, 1) := by decide +kernel
theorem d_X12_ahead_38 : decode cX12_ahead 38 = .ok (.iinc 3 1, 3) := by decide +kernel
theorem d_X12_ahead_41 : decode cX12_ahead 41 = .ok (.goto (-13), 3) := by decide +kernel
theorem d_X12_ahead_44 : decode cX12_ahead 44 = .ok (.aload_n 0, 1) := by decide +kernel
theorem d_X12_ahead_45 : decode cX12_ahead 45 = .ok (.iload_n 1, 1) := by decide +kernel
theorem d_X12_ahead_46 : decode cX12_ahead 46 = .ok (.invokevirtual 313, 3) := by decide +kernel
theorem d_X12_ahead_49 : decode cX12_ahead 49 = .ok (.istore_n 3, 1) := by decide +kernel
theorem d_X12_ahead_50 : decode cX12_ahead 50 = .ok (.aload_n 0, 1) := by decide +kernel
theorem d_X12_ahead_51 : decode cX12_ahead 51 = .ok (.invokevirtual 386, 3) := by decide +kernel
theorem d_X12_ahead_54 : decode cX12_ahead 54 = .ok (.iload_n 3, 1) := by decide +kernel
theorem d_X12_ahead_55 : decode cX12_ahead 55 = .ok (.ireturn, 1) := by decide +kernel
abbrev X_X12_ahead : gX := (RX12, cX12_ahead, 4, (some .int), false)
def F_X12_ahead_b20 (M : gM) : Option (Int32 × gM) :=
  some ((-1 : Int32), M)
theorem T_X12_ahead_b20 (r : (Int32 × gM)) (M : gM) (h : F_X12_ahead_b20 M = some r) : GW 5 0 0 X_X12_ahead 20 [] [] M (some (vi r.1), r.2) := by
  delta F_X12_ahead_b20 at h
  refine GW_iconst (X := X_X12_ahead) (pc := 20) (v := -1) d_X12_ahead_20 (by decide) ?_
  replace h := Option.some.inj h
  subst h
  exact GW_ret (X := X_X12_ahead) (pc := 21) d_X12_ahead_21 rfl trivial
def F_X12_ahead_b28 (k28 : Option Nat → Int32 → Int32 → Int32 → gM → Option (Int32 × gM)) (l0 : Option Nat) (l1 : Int32) (l2 : Int32) (l3 : Int32) (M : gM) : Option (Int32 × gM) :=
  if l2 ≤ l3 then ((gO 12 M l0).bind fun i1 => (F_X12_holdsOf (some i1) l1 M).bind fun v2 => (F_X12_laysBack (some i1) M).bind fun M3 => some (v2, M3)) else ((gO 12 M l0).bind fun i4 => (F_X12_passes (some i4) M).bind fun (v5, M6) => k28 (some i4) l1 l2 (l3 + 1) M6)
theorem T_X12_ahead_b28 (k28 : Option Nat → Int32 → Int32 → Int32 → gM → Option (Int32 × gM)) (r : (Int32 × gM)) (hk28 : ∀ (l0 : Option Nat) (l1 : Int32) (l2 : Int32) (l3 : Int32) (M : gM), k28 l0 l1 l2 l3 M = some r → GW 5 0 0 X_X12_ahead 28 [(0, vr l0), (1, vi l1), (2, vi l2), (3, vi l3)] [] M (some (vi r.1), r.2)) (l0 : Option Nat) (l1 : Int32) (l2 : Int32) (l3 : Int32) (M : gM) (h : F_X12_ahead_b28 k28 l0 l1 l2 l3 M = some r) : GW 5 0 0 X_X12_ahead 28 [(0, vr l0), (1, vi l1), (2, vi l2), (3, vi l3)] [] M (some (vi r.1), r.2) := by
  delta F_X12_ahead_b28 at h
  refine GW_iload_n (X := X_X12_ahead) (pc := 28) d_X12_ahead_28 rfl 3 rfl ?_
  refine GW_iload_n (X := X_X12_ahead) (pc := 29) d_X12_ahead_29 rfl 2 rfl ?_
  refine GW_icmp_ge (X := X_X12_ahead) (pc := 30) 44 d_X12_ahead_30 (by decide) (fun c => ?_) (fun c => ?_)
  · replace h := g_ip c h
    refine GW_aload_n (X := X_X12_ahead) (pc := 44) d_X12_ahead_44 rfl 0 rfl ?_
    refine GW_iload_n (X := X_X12_ahead) (pc := 45) d_X12_ahead_45 rfl 1 rfl ?_
    replace h := g_bd h
    obtain ⟨i1, hi1, h⟩ := h
    obtain ⟨rfl, ki1⟩ := g_gO hi1
    replace h := g_bd h
    obtain ⟨v2, hv2, h⟩ := h
    refine GW_callV (X := X_X12_ahead) (pc := 46) (bc0 := 0) (bs0 := 0) (r := some (vi v2)) (M2 := M) (c0 := 12) (T_X12_holdsOf (some i1) l1 M v2 hv2) (Nat.le_of_ble_eq_true rfl) (Nat.le_of_ble_eq_true rfl) rfl g_cok12 ki1 yc_X12_holdsOf ⟨m_1420, m_1422, m_77, m_127, m_1423⟩ d_X12_ahead_46 rfl (st := []) rfl (Nat.le_of_ble_eq_true rfl) (Nat.le_of_ble_eq_true rfl) (Nat.le_of_ble_eq_true rfl) (st2 := [vi v2]) rfl ?_
    refine GW_istore_n (X := X_X12_ahead) (pc := 49) d_X12_ahead_49 rfl (Nat.le_of_ble_eq_true rfl) (lv2 := [(3, vi v2), (0, vr (some i1)), (1, vi l1), (2, vi l2)]) rfl ?_
    refine GW_aload_n (X := X_X12_ahead) (pc := 50) d_X12_ahead_50 rfl 1 rfl ?_
    replace h := g_bd h
    obtain ⟨M3, hM3, h⟩ := h
    refine GW_callV (X := X_X12_ahead) (pc := 51) (bc0 := 0) (bs0 := 0) (r := none) (M2 := M3) (c0 := 12) (T_X12_laysBack (some i1) M M3 hM3) (Nat.le_of_ble_eq_true rfl) (Nat.le_of_ble_eq_true rfl) rfl g_cok12 ki1 yc_X12_laysBack ⟨m_1558, m_1560, m_101, m_127, m_1561⟩ d_X12_ahead_51 rfl (st := []) rfl (Nat.le_of_ble_eq_true rfl) (Nat.le_of_ble_eq_true rfl) (Nat.le_of_ble_eq_true rfl) (st2 := []) rfl ?_
    refine GW_iload_n (X := X_X12_ahead) (pc := 54) d_X12_ahead_54 rfl 0 rfl ?_
    replace h := Option.some.inj h
    subst h
    exact GW_ret (X := X_X12_ahead) (pc := 55) d_X12_ahead_55 rfl trivial
  · replace h := g_ie c h
    refine GW_aload_n (X := X_X12_ahead) (pc := 33) d_X12_ahead_33 rfl 0 rfl ?_
    replace h := g_bd h
    obtain ⟨i4, hi4, h⟩ := h
    obtain ⟨rfl, ki4⟩ := g_gO hi4
    replace h := g_bd h
    obtain ⟨⟨v5, M6⟩, hv5, h⟩ := h
    dsimp only at h
    refine GW_callV (X := X_X12_ahead) (pc := 34) (bc0 := 0) (bs0 := 0) (r := some (vi v5)) (M2 := M6) (c0 := 12) (T_X12_passes (some i4) M (v5, M6) hv5) (Nat.le_of_ble_eq_true rfl) (Nat.le_of_ble_eq_true rfl) rfl g_cok12 ki4 yc_X12_passes ⟨m_1477, m_1479, m_87, m_127, m_1480⟩ d_X12_ahead_34 rfl (st := []) rfl (Nat.le_of_ble_eq_true rfl) (Nat.le_of_ble_eq_true rfl) (Nat.le_of_ble_eq_true rfl) (st2 := [vi v5]) rfl ?_
    refine GW_pop (X := X_X12_ahead) (pc := 37) d_X12_ahead_37 rfl ?_
    refine GW_iinc (j := 3) (X := X_X12_ahead) (pc := 38) d_X12_ahead_38 rfl (congrArg (fun z => _ + z) (by decide : Int32.ofInt 1 = (1 : Int32))) (Nat.le_of_ble_eq_true rfl) (lv2 := [(3, vi (l3 + 1)), (0, vr (some i4)), (1, vi l1), (2, vi l2)]) rfl ?_
    refine GW_goto (X := X_X12_ahead) (pc := 41) 28 d_X12_ahead_41 (by decide) ?_
    refine GW_sub [1, 2, 3, 0] rfl ?_
    exact hk28 (some i4) l1 l2 (l3 + 1) M6 h
def F_X12_ahead_L28 : Nat → Option Nat → Int32 → Int32 → Int32 → gM → Option (Int32 × gM)
  | 0 => fun _ _ _ _ _ => none
  | n + 1 => F_X12_ahead_b28 (F_X12_ahead_L28 n)
theorem T_X12_ahead_L28 (r : (Int32 × gM)) : ∀ (n : Nat) (l0 : Option Nat) (l1 : Int32) (l2 : Int32) (l3 : Int32) (M : gM), F_X12_ahead_L28 n l0 l1 l2 l3 M = some r → GW 5 0 0 X_X12_ahead 28 [(0, vr l0), (1, vi l1), (2, vi l2), (3, vi l3)] [] M (some (vi r.1), r.2) := by
  intro n
  induction n with
  | zero => intro l0 l1 l2 l3 M h; exact g_no h
  | succ n ih => intro l0 l1 l2 l3 M h; exact T_X12_ahead_b28 (F_X12_ahead_L28 n) r ih l0 l1 l2 l3 M h
def F_X12_ahead_b0 (l0 : Option Nat) (l1 : Int32) (l2 : Int32) (M : gM) : Option (Int32 × gM) :=
  (gO 12 M l0).bind fun i1 => (F_X12_isHeir (some i1) l1 M).bind fun v2 => if v2 = 0 then (F_X12_ahead_b20 M) else ((F_X12_in (l2).toInt64 (0 : Int64) (200 : Int64) M).bind fun v3 => if v3 = 0 then (F_X12_ahead_b20 M) else ((F_X12_keeps (some i1) M).bind fun M4 => F_X12_ahead_L28 g_fuel (some i1) l1 l2 (0 : Int32) M4))
theorem T_X12_ahead_b0 (r : (Int32 × gM)) (l0 : Option Nat) (l1 : Int32) (l2 : Int32) (M : gM) (h : F_X12_ahead_b0 l0 l1 l2 M = some r) : GW 5 0 0 X_X12_ahead 0 [(0, vr l0), (1, vi l1), (2, vi l2)] [] M (some (vi r.1), r.2) := by
  delta F_X12_ahead_b0 at h
  refine GW_aload_n (X := X_X12_ahead) (pc := 0) d_X12_ahead_0 rfl 0 rfl ?_
  refine GW_iload_n (X := X_X12_ahead) (pc := 1) d_X12_ahead_1 rfl 1 rfl ?_
  replace h := g_bd h
  obtain ⟨i1, hi1, h⟩ := h
  obtain ⟨rfl, ki1⟩ := g_gO hi1
  replace h := g_bd h
  obtain ⟨v2, hv2, h⟩ := h
  refine GW_callV (X := X_X12_ahead) (pc := 2) (bc0 := 0) (bs0 := 0) (r := some (vi v2)) (M2 := M) (c0 := 12) (T_X12_isHeir (some i1) l1 M v2 hv2) (Nat.le_of_ble_eq_true rfl) (Nat.le_of_ble_eq_true rfl) rfl g_cok12 ki1 yc_X12_isHeir ⟨m_1415, m_1417, m_76, m_127, m_1418⟩ d_X12_ahead_2 rfl (st := []) rfl (Nat.le_of_ble_eq_true rfl) (Nat.le_of_ble_eq_true rfl) (Nat.le_of_ble_eq_true rfl) (st2 := [vi v2]) rfl ?_
  refine GW_if_eq (X := X_X12_ahead) (pc := 5) 20 d_X12_ahead_5 (by decide) (fun c => ?_) (fun c => ?_)
  · replace h := g_ip c h
    refine GW_sub [] rfl ?_
    exact T_X12_ahead_b20 r M h
  · replace h := g_ie c h
    refine GW_iload_n (X := X_X12_ahead) (pc := 8) d_X12_ahead_8 rfl 2 rfl ?_
    refine GW_i2l (X := X_X12_ahead) (pc := 9) d_X12_ahead_9 ?_
    refine GW_lconst (X := X_X12_ahead) (pc := 10) (v := 0) d_X12_ahead_10 (by decide) ?_
    refine GW_ldc2 (X := X_X12_ahead) (pc := 11) d_X12_ahead_11 m_1553 ?_
    replace h := g_bd h
    obtain ⟨v3, hv3, h⟩ := h
    refine GW_callS (X := X_X12_ahead) (pc := 14) (bc0 := 0) (bs0 := 0) (r := some (vi v3)) (M2 := M) (T_X12_in (l2).toInt64 (0 : Int64) (200 : Int64) M v3 hv3) (Nat.le_of_ble_eq_true rfl) (Nat.le_of_ble_eq_true rfl) yc_X12_in ⟨m_1291, m_1292, m_127, m_1293⟩ d_X12_ahead_14 rfl (st := []) rfl (Nat.le_of_ble_eq_true rfl) (Nat.le_of_ble_eq_true rfl) (Nat.le_of_ble_eq_true rfl) (st2 := [vi v3]) rfl ?_
    refine GW_if_ne (X := X_X12_ahead) (pc := 17) 22 d_X12_ahead_17 (by decide) (fun c => ?_) (fun c => ?_)
    · replace h := g_ie c h
      refine GW_aload_n (X := X_X12_ahead) (pc := 22) d_X12_ahead_22 rfl 0 rfl ?_
      replace h := g_bd h
      obtain ⟨M4, hM4, h⟩ := h
      refine GW_callV (X := X_X12_ahead) (pc := 23) (bc0 := 0) (bs0 := 0) (r := none) (M2 := M4) (c0 := 12) (T_X12_keeps (some i1) M M4 hM4) (Nat.le_of_ble_eq_true rfl) (Nat.le_of_ble_eq_true rfl) rfl g_cok12 ki1 yc_X12_keeps ⟨m_1554, m_1556, m_100, m_127, m_1557⟩ d_X12_ahead_23 rfl (st := []) rfl (Nat.le_of_ble_eq_true rfl) (Nat.le_of_ble_eq_true rfl) (Nat.le_of_ble_eq_true rfl) (st2 := []) rfl ?_
      refine GW_iconst (X := X_X12_ahead) (pc := 26) (v := 0) d_X12_ahead_26 (by decide) ?_
      refine GW_istore_n (X := X_X12_ahead) (pc := 27) d_X12_ahead_27 rfl (Nat.le_of_ble_eq_true rfl) (lv2 := [(3, vi (0 : Int32)), (0, vr (some i1)), (1, vi l1), (2, vi l2)]) rfl ?_
      refine GW_sub [1, 2, 3, 0] rfl ?_
      exact T_X12_ahead_L28 r g_fuel (some i1) l1 l2 (0 : Int32) M4 h
    · replace h := g_ip c h
      refine GW_sub [] rfl ?_
      exact T_X12_ahead_b20 r M h
def F_X12_ahead (l0 : Option Nat) (l1 : Int32) (l2 : Int32) (M : gM) : Option (Int32 × gM) := F_X12_ahead_b0 l0 l1 l2 M
theorem T_X12_ahead (l0 : Option Nat) (l1 : Int32) (l2 : Int32) (M : gM) (r : (Int32 × gM)) (h : F_X12_ahead l0 l1 l2 M = some r) : g_Met 5 0 0 yX12_ahead X_X12_ahead [vr l0, vi l1, vi l2] M (some (vi r.1), r.2) :=
  g_Met_of pn_RX12 rfl (Nat.le_of_ble_eq_true rfl) (fun h => by cases h) (GW_sub [0, 1, 2] rfl (T_X12_ahead_b0 r l0 l1 l2 M h))
