/-! ForgetHeirsModel.isWord(J)Z -/
theorem d_X12_isWord_0 : decode cX12_isWord 0 = .ok (.aload_n 0, 1) := by decide +kernel
theorem d_X12_isWord_1 : decode cX12_isWord 1 = .ok (.invokevirtual 93, 3) := by decide +kernel
theorem d_X12_isWord_4 : decode cX12_isWord 4 = .ok (.pop, 1) := by decide +kernel
theorem d_X12_isWord_5 : decode cX12_isWord 5 = .ok (.lconst 0, 1) := by decide +kernel
theorem d_X12_isWord_6 : decode cX12_isWord 6 = .ok (.lstore_n 3, 1) := by decide +kernel
theorem d_X12_isWord_7 : decode cX12_isWord 7 = .ok (.iconst 0, 1) := by decide +kernel
theorem d_X12_isWord_8 : decode cX12_isWord 8 = .ok (.istore 5, 2) := by decide +kernel
theorem d_X12_isWord_10 : decode cX12_isWord 10 = .ok (.aload_n 0, 1) := by decide +kernel
theorem d_X12_isWord_11 : decode cX12_isWord 11 = .ok (.aload_n 0, 1) := by decide +kernel
theorem d_X12_isWord_12 : decode cX12_isWord 12 = .ok (.getfield 90, 3) := by decide +kernel
theorem d_X12_isWord_15 : decode cX12_isWord 15 = .ok (.iload 5, 2) := by decide +kernel
theorem d_X12_isWord_17 : decode cX12_isWord 17 = .ok (.iadd, 1) := by decide +kernel
theorem d_X12_isWord_18 : decode cX12_isWord 18 = .ok (.invokevirtual 97, 3) := by decide +kernel
theorem d_X12_isWord_21 : decode cX12_isWord 21 = .ok (.ifCond .eq 35, 3) := by decide +kernel
theorem d_X12_isWord_24 : decode cX12_isWord 24 = .ok (.iload 5, 2) := by decide +kernel
theorem d_X12_isWord_26 : decode cX12_isWord 26 = .ok (.bipush 8, 2) := by decide +kernel
theorem d_X12_isWord_28 : decode cX12_isWord 28 = .ok (.if_icmp .ge 22, 3) := by decide +kernel
theorem d_X12_isWord_31 : decode cX12_isWord 31 = .ok (.lload_n 3, 1) := by decide +kernel
theorem d_X12_isWord_32 : decode cX12_isWord 32 = .ok (.bipush 8, 2) := by decide +kernel
theorem d_X12_isWord_34 : decode cX12_isWord 34 = .ok (.lshl, 1) := by decide +kernel
theorem d_X12_isWord_35 : decode cX12_isWord 35 = .ok (.aload_n 0, 1) := by decide +kernel
theorem d_X12_isWord_36 : decode cX12_isWord 36 = .ok (.getfield 7, 3) := by decide +kernel
theorem d_X12_isWord_39 : decode cX12_isWord 39 = .ok (.aload_n 0, 1) := by decide +kernel
theorem d_X12_isWord_40 : decode cX12_isWord 40 = .ok (.getfield 90, 3) := by decide +kernel
theorem d_X12_isWord_43 : decode cX12_isWord 43 = .ok (.iload 5, 2) := by decide +kernel
theorem d_X12_isWord_45 : decode cX12_isWord 45 = .ok (.iadd, 1) := by decide +kernel
theorem d_X12_isWord_46 : decode cX12_isWord 46 = .ok (.baload, 1) := by decide +kernel
theorem d_X12_isWord_47 : decode cX12_isWord 47 = .ok (.i2l, 1) := by decide +kernel
theorem d_X12_isWord_48 : decode cX12_isWord 48 = .ok (.lor, 1) := by decide +kernel
theorem d_X12_isWord_49 : decode cX12_isWord 49 = .ok (.lstore_n 3, 1) := by decide +kernel
theorem d_X12_isWord_50 : decode cX12_isWord 50 = .ok (.iinc 5 1, 3) := by decide +kernel
theorem d_X12_isWord_53 : decode cX12_isWord 53 = .ok (.goto (-43), 3) := by decide +kernel
theorem d_X12_isWord_56 : decode cX12_isWord 56 = .ok (.iload 5, 2) := by decide +kernel
theorem d_X12_isWord_58 : decode cX12_isWord 58 = .ok (.ifCond .le 20, 3) := by decide +kernel
theorem d_X12_isWord_61 : decode cX12_isWord 61 = .ok (.iload 5, 2) := by decide +kernel
theorem d_X12_isWord_63 : decode cX12_isWord 63 = .ok (.bipush 9, 2) := by decide +kernel
theorem d_X12_isWord_65 : decode cX12_isWord 65 = .ok (.if_icmp .ge 13, 3) := by decide +kernel
theorem d_X12_isWord_68 : decode cX12_isWord 68 = .ok (.lload_n 3, 1) := by decide +kernel
theorem d_X12_isWord_69 : decode cX12_isWord 69 = .ok (.lload_n 1, 1) := by decide +kernel
theorem d_X12_isWord_70 : decode cX12_isWord 70 = .ok (.lcmp, 1) := by decide +kernel
theorem d_X12_isWord_71 : decode cX12_isWord 71 = .ok (.ifCond .ne 7, 3) := by decide +kernel
theorem d_X12_isWord_74 : decode cX12_isWord 74 = .ok (.iconst 1, 1) := by decide +kernel
theorem d_X12_isWord_75 : decode cX12_isWord 75 = .ok (.goto 4, 3) := by decide +kernel
theorem d_X12_isWord_78 : decode cX12_isWord 78 = .ok (.iconst 0, 1) := by decide +kernel
theorem d_X12_isWord_79 : decode cX12_isWord 79 = .ok (.ireturn, 1) := by decide +kernel
abbrev X_X12_isWord : gX := (RX12, cX12_isWord, 6, (some .boolean), false)
def F_X12_isWord_b78 (M : gM) : Option (Int32 × gM) :=
  some ((0 : Int32), M)
theorem T_X12_isWord_b78 (r : (Int32 × gM)) (M : gM) (h : F_X12_isWord_b78 M = some r) : GW 1 0 0 X_X12_isWord 78 [] [] M (some (vi r.1), r.2) := by
  delta F_X12_isWord_b78 at h
  refine GW_iconst (X := X_X12_isWord) (pc := 78) (v := 0) d_X12_isWord_78 (by decide) ?_
  replace h := Option.some.inj h
  subst h
  exact GW_ret (X := X_X12_isWord) (pc := 79) d_X12_isWord_79 rfl g_rok0
def F_X12_isWord_b50 (k10 : Option Nat → Int64 → Int64 → Int32 → gM → Option (Int32 × gM)) (l0 : Option Nat) (l1 : Int64) (l3 : Int64) (l5 : Int32) (M : gM) : Option (Int32 × gM) :=
  k10 l0 l1 l3 (l5 + 1) M
theorem T_X12_isWord_b50 (k10 : Option Nat → Int64 → Int64 → Int32 → gM → Option (Int32 × gM)) (r : (Int32 × gM)) (hk10 : ∀ (l0 : Option Nat) (l1 : Int64) (l3 : Int64) (l5 : Int32) (M : gM), k10 l0 l1 l3 l5 M = some r → GW 1 0 0 X_X12_isWord 10 [(0, vr l0), (1, vl l1), (3, vl l3), (5, vi l5)] [] M (some (vi r.1), r.2)) (l0 : Option Nat) (l1 : Int64) (l3 : Int64) (l5 : Int32) (M : gM) (h : F_X12_isWord_b50 k10 l0 l1 l3 l5 M = some r) : GW 1 0 0 X_X12_isWord 50 [(0, vr l0), (1, vl l1), (3, vl l3), (5, vi l5)] [] M (some (vi r.1), r.2) := by
  delta F_X12_isWord_b50 at h
  refine GW_iinc (j := 3) (X := X_X12_isWord) (pc := 50) d_X12_isWord_50 rfl (congrArg (fun z => _ + z) (by decide : Int32.ofInt 1 = (1 : Int32))) (Nat.le_of_ble_eq_true rfl) (lv2 := [(5, vi (l5 + 1)), (0, vr l0), (1, vl l1), (3, vl l3)]) rfl ?_
  refine GW_goto (X := X_X12_isWord) (pc := 53) 10 d_X12_isWord_53 (by decide) ?_
  refine GW_sub [1, 2, 3, 0] rfl ?_
  exact hk10 l0 l1 l3 (l5 + 1) M h
def F_X12_isWord_b10 (k10 : Option Nat → Int64 → Int64 → Int32 → gM → Option (Int32 × gM)) (l0 : Option Nat) (l1 : Int64) (l3 : Int64) (l5 : Int32) (M : gM) : Option (Int32 × gM) :=
  (gI 12 M l0 8).bind fun v1 => (gO 12 M l0).bind fun i2 => (F_X12_isLetter (some i2) (v1 + l5) M).bind fun v3 => if v3 = 0 then (if l5 ≤ 0 then (F_X12_isWord_b78 M) else (if (9 : Int32) ≤ l5 then (F_X12_isWord_b78 M) else (if (lg_cmp l3 l1) = 0 then (some ((1 : Int32), M)) else (F_X12_isWord_b78 M)))) else (if (8 : Int32) ≤ l5 then (F_X12_isWord_b50 k10 (some i2) l1 l3 l5 M) else ((gR 12 M (some i2) 0).bind fun v4 => (gI 12 M (some i2) 8).bind fun v5 => (aI 22 M v4 (v5 + l5)).bind fun v6 => F_X12_isWord_b50 k10 (some i2) l1 ((l3 <<< (((8 : Int32)).toInt64 &&& 63)) ||| (v6).toInt64) l5 M))
set_option maxHeartbeats 1000000 in
theorem T_X12_isWord_b10 (k10 : Option Nat → Int64 → Int64 → Int32 → gM → Option (Int32 × gM)) (r : (Int32 × gM)) (hk10 : ∀ (l0 : Option Nat) (l1 : Int64) (l3 : Int64) (l5 : Int32) (M : gM), k10 l0 l1 l3 l5 M = some r → GW 1 0 0 X_X12_isWord 10 [(0, vr l0), (1, vl l1), (3, vl l3), (5, vi l5)] [] M (some (vi r.1), r.2)) (l0 : Option Nat) (l1 : Int64) (l3 : Int64) (l5 : Int32) (M : gM) (h : F_X12_isWord_b10 k10 l0 l1 l3 l5 M = some r) : GW 1 0 0 X_X12_isWord 10 [(0, vr l0), (1, vl l1), (3, vl l3), (5, vi l5)] [] M (some (vi r.1), r.2) := by
  delta F_X12_isWord_b10 at h
  refine GW_aload_n (X := X_X12_isWord) (pc := 10) d_X12_isWord_10 rfl 0 rfl ?_
  refine GW_aload_n (X := X_X12_isWord) (pc := 11) d_X12_isWord_11 rfl 0 rfl ?_
  replace h := g_bd h
  obtain ⟨v1, hv1, h⟩ := h
  refine GW_getI (X := X_X12_isWord) (pc := 12) f_X12_90 d_X12_isWord_12 hv1 (Or.inl ty_12_8) ?_
  refine GW_iload (X := X_X12_isWord) (pc := 15) d_X12_isWord_15 3 rfl ?_
  refine GW_iadd (X := X_X12_isWord) (pc := 17) d_X12_isWord_17 ?_
  replace h := g_bd h
  obtain ⟨i2, hi2, h⟩ := h
  obtain ⟨rfl, ki2⟩ := g_gO hi2
  replace h := g_bd h
  obtain ⟨v3, hv3, h⟩ := h
  refine GW_callV (X := X_X12_isWord) (pc := 18) (bc0 := 0) (bs0 := 0) (r := some (vi v3)) (M2 := M) (c0 := 12) (T_X12_isLetter (some i2) (v1 + l5) M v3 hv3) (Nat.le_of_ble_eq_true rfl) (Nat.le_of_ble_eq_true rfl) rfl g_cok12 ki2 yc_X12_isLetter ⟨m_1252, m_1254, m_46, m_127, m_1255⟩ d_X12_isWord_18 rfl (st := []) rfl (Nat.le_of_ble_eq_true rfl) (Nat.le_of_ble_eq_true rfl) (Nat.le_of_ble_eq_true rfl) (st2 := [vi v3]) rfl ?_
  refine GW_if_eq (X := X_X12_isWord) (pc := 21) 56 d_X12_isWord_21 (by decide) (fun c => ?_) (fun c => ?_)
  · replace h := g_ip c h
    refine GW_iload (X := X_X12_isWord) (pc := 56) d_X12_isWord_56 3 rfl ?_
    refine GW_if_le (X := X_X12_isWord) (pc := 58) 78 d_X12_isWord_58 (by decide) (fun c => ?_) (fun c => ?_)
    · replace h := g_ip c h
      refine GW_sub [] rfl ?_
      exact T_X12_isWord_b78 r M h
    · replace h := g_ie c h
      refine GW_iload (X := X_X12_isWord) (pc := 61) d_X12_isWord_61 3 rfl ?_
      refine GW_bipush (X := X_X12_isWord) (pc := 63) (v := 9) d_X12_isWord_63 (by decide) ?_
      refine GW_icmp_ge (X := X_X12_isWord) (pc := 65) 78 d_X12_isWord_65 (by decide) (fun c => ?_) (fun c => ?_)
      · replace h := g_ip c h
        refine GW_sub [] rfl ?_
        exact T_X12_isWord_b78 r M h
      · replace h := g_ie c h
        refine GW_lload_n (X := X_X12_isWord) (pc := 68) d_X12_isWord_68 rfl 2 rfl ?_
        refine GW_lload_n (X := X_X12_isWord) (pc := 69) d_X12_isWord_69 rfl 1 rfl ?_
        refine GW_lcmp (X := X_X12_isWord) (pc := 70) d_X12_isWord_70 ?_
        refine GW_if_ne (X := X_X12_isWord) (pc := 71) 78 d_X12_isWord_71 (by decide) (fun c => ?_) (fun c => ?_)
        · replace h := g_ie c h
          refine GW_sub [] rfl ?_
          exact T_X12_isWord_b78 r M h
        · replace h := g_ip c h
          refine GW_iconst (X := X_X12_isWord) (pc := 74) (v := 1) d_X12_isWord_74 (by decide) ?_
          refine GW_goto (X := X_X12_isWord) (pc := 75) 79 d_X12_isWord_75 (by decide) ?_
          replace h := Option.some.inj h
          subst h
          exact GW_ret (X := X_X12_isWord) (pc := 79) d_X12_isWord_79 rfl g_rok1
  · replace h := g_ie c h
    refine GW_iload (X := X_X12_isWord) (pc := 24) d_X12_isWord_24 3 rfl ?_
    refine GW_bipush (X := X_X12_isWord) (pc := 26) (v := 8) d_X12_isWord_26 (by decide) ?_
    refine GW_icmp_ge (X := X_X12_isWord) (pc := 28) 50 d_X12_isWord_28 (by decide) (fun c => ?_) (fun c => ?_)
    · replace h := g_ip c h
      exact T_X12_isWord_b50 k10 r hk10 (some i2) l1 l3 l5 M h
    · replace h := g_ie c h
      refine GW_lload_n (X := X_X12_isWord) (pc := 31) d_X12_isWord_31 rfl 2 rfl ?_
      refine GW_bipush (X := X_X12_isWord) (pc := 32) (v := 8) d_X12_isWord_32 (by decide) ?_
      refine GW_lshl (X := X_X12_isWord) (pc := 34) d_X12_isWord_34 ?_
      refine GW_aload_n (X := X_X12_isWord) (pc := 35) d_X12_isWord_35 rfl 0 rfl ?_
      replace h := g_bd h
      obtain ⟨v4, hv4, h⟩ := h
      refine GW_getR (X := X_X12_isWord) (pc := 36) f_X12_7 d_X12_isWord_36 hv4 (Or.inr ⟨_, ty_12_0⟩) ?_
      refine GW_aload_n (X := X_X12_isWord) (pc := 39) d_X12_isWord_39 rfl 0 rfl ?_
      replace h := g_bd h
      obtain ⟨v5, hv5, h⟩ := h
      refine GW_getI (X := X_X12_isWord) (pc := 40) f_X12_90 d_X12_isWord_40 hv5 (Or.inl ty_12_8) ?_
      refine GW_iload (X := X_X12_isWord) (pc := 43) d_X12_isWord_43 3 rfl ?_
      refine GW_iadd (X := X_X12_isWord) (pc := 45) d_X12_isWord_45 ?_
      replace h := g_bd h
      obtain ⟨v6, hv6, h⟩ := h
      refine GW_bald (X := X_X12_isWord) (pc := 46) d_X12_isWord_46 hv6 ?_
      refine GW_i2l (X := X_X12_isWord) (pc := 47) d_X12_isWord_47 ?_
      refine GW_lor (X := X_X12_isWord) (pc := 48) d_X12_isWord_48 ?_
      refine GW_lstore_n (X := X_X12_isWord) (pc := 49) d_X12_isWord_49 rfl (Nat.le_of_ble_eq_true rfl) (lv2 := [(3, vl ((l3 <<< (((8 : Int32)).toInt64 &&& 63)) ||| (v6).toInt64)), (0, vr (some i2)), (1, vl l1), (5, vi l5)]) rfl ?_
      refine GW_sub [1, 2, 0, 3] rfl ?_
      exact T_X12_isWord_b50 k10 r hk10 (some i2) l1 ((l3 <<< (((8 : Int32)).toInt64 &&& 63)) ||| (v6).toInt64) l5 M h
def F_X12_isWord_L10 : Nat → Option Nat → Int64 → Int64 → Int32 → gM → Option (Int32 × gM)
  | 0 => fun _ _ _ _ _ => none
  | n + 1 => F_X12_isWord_b10 (F_X12_isWord_L10 n)
theorem T_X12_isWord_L10 (r : (Int32 × gM)) : ∀ (n : Nat) (l0 : Option Nat) (l1 : Int64) (l3 : Int64) (l5 : Int32) (M : gM), F_X12_isWord_L10 n l0 l1 l3 l5 M = some r → GW 1 0 0 X_X12_isWord 10 [(0, vr l0), (1, vl l1), (3, vl l3), (5, vi l5)] [] M (some (vi r.1), r.2) := by
  intro n
  induction n with
  | zero => intro l0 l1 l3 l5 M h; exact g_no h
  | succ n ih => intro l0 l1 l3 l5 M h; exact T_X12_isWord_b10 (F_X12_isWord_L10 n) r ih l0 l1 l3 l5 M h
def F_X12_isWord_b0 (l0 : Option Nat) (l1 : Int64) (M : gM) : Option (Int32 × gM) :=
  (gO 12 M l0).bind fun i1 => (F_X12_see (some i1) M).bind fun (v2, M3) => F_X12_isWord_L10 g_fuel (some i1) l1 (0 : Int64) (0 : Int32) M3
theorem T_X12_isWord_b0 (r : (Int32 × gM)) (l0 : Option Nat) (l1 : Int64) (M : gM) (h : F_X12_isWord_b0 l0 l1 M = some r) : GW 1 0 0 X_X12_isWord 0 [(0, vr l0), (1, vl l1)] [] M (some (vi r.1), r.2) := by
  delta F_X12_isWord_b0 at h
  refine GW_aload_n (X := X_X12_isWord) (pc := 0) d_X12_isWord_0 rfl 0 rfl ?_
  replace h := g_bd h
  obtain ⟨i1, hi1, h⟩ := h
  obtain ⟨rfl, ki1⟩ := g_gO hi1
  replace h := g_bd h
  obtain ⟨⟨v2, M3⟩, hv2, h⟩ := h
  dsimp only at h
  refine GW_callV (X := X_X12_isWord) (pc := 1) (bc0 := 0) (bs0 := 0) (r := some (vi v2)) (M2 := M3) (c0 := 12) (T_X12_see (some i1) M (v2, M3) hv2) (Nat.le_of_ble_eq_true rfl) (Nat.le_of_ble_eq_true rfl) rfl g_cok12 ki1 yc_X12_see ⟨m_1239, m_1241, m_43, m_127, m_1242⟩ d_X12_isWord_1 rfl (st := []) rfl (Nat.le_of_ble_eq_true rfl) (Nat.le_of_ble_eq_true rfl) (Nat.le_of_ble_eq_true rfl) (st2 := [vi v2]) rfl ?_
  refine GW_pop (X := X_X12_isWord) (pc := 4) d_X12_isWord_4 rfl ?_
  refine GW_lconst (X := X_X12_isWord) (pc := 5) (v := 0) d_X12_isWord_5 (by decide) ?_
  refine GW_lstore_n (X := X_X12_isWord) (pc := 6) d_X12_isWord_6 rfl (Nat.le_of_ble_eq_true rfl) (lv2 := [(3, vl (0 : Int64)), (0, vr (some i1)), (1, vl l1)]) rfl ?_
  refine GW_iconst (X := X_X12_isWord) (pc := 7) (v := 0) d_X12_isWord_7 (by decide) ?_
  refine GW_istore (X := X_X12_isWord) (pc := 8) d_X12_isWord_8 (Nat.le_of_ble_eq_true rfl) (lv2 := [(5, vi (0 : Int32)), (3, vl (0 : Int64)), (0, vr (some i1)), (1, vl l1)]) rfl ?_
  refine GW_sub [2, 3, 1, 0] rfl ?_
  exact T_X12_isWord_L10 r g_fuel (some i1) l1 (0 : Int64) (0 : Int32) M3 h
def F_X12_isWord (l0 : Option Nat) (l1 : Int64) (M : gM) : Option (Int32 × gM) := F_X12_isWord_b0 l0 l1 M
theorem T_X12_isWord (l0 : Option Nat) (l1 : Int64) (M : gM) (r : (Int32 × gM)) (h : F_X12_isWord l0 l1 M = some r) : g_Met 1 0 0 yX12_isWord X_X12_isWord [vr l0, vl l1] M (some (vi r.1), r.2) :=
  g_Met_of pn_RX12 rfl (Nat.le_of_ble_eq_true rfl) (fun h => by cases h) (GW_sub [0, 1] rfl (T_X12_isWord_b0 r l0 l1 M h))
/-! ForgetHeirsModel.isHouseWord()Z -/
theorem d_X12_isHouseWord_0 : decode cX12_isHouseWord 0 = .ok (.aload_n 0, 1) := by decide +kernel
theorem d_X12_isHouseWord_1 : decode cX12_isHouseWord 1 = .ok (.ldc2_w 229, 3) := by decide +kernel
theorem d_X12_isHouseWord_4 : decode cX12_isHouseWord 4 = .ok (.invokevirtual 101, 3) := by decide +kernel
theorem d_X12_isHouseWord_7 : decode cX12_isHouseWord 7 = .ok (.ifCond .ne 33, 3) := by decide +kernel
theorem d_X12_isHouseWord_10 : decode cX12_isHouseWord 10 = .ok (.aload_n 0, 1) := by decide +kernel
theorem d_X12_isHouseWord_11 : decode cX12_isHouseWord 11 = .ok (.ldc2_w 124, 3) := by decide +kernel
theorem d_X12_isHouseWord_14 : decode cX12_isHouseWord 14 = .ok (.invokevirtual 101, 3) := by decide +kernel
theorem d_X12_isHouseWord_17 : decode cX12_isHouseWord 17 = .ok (.ifCond .ne 23, 3) := by decide +kernel
theorem d_X12_isHouseWord_20 : decode cX12_isHouseWord 20 = .ok (.aload_n 0, 1) := by decide +kernel
theorem d_X12_isHouseWord_21 : decode cX12_isHouseWord 21 = .ok (.ldc2_w 136, 3) := by decide +kernel
theorem d_X12_isHouseWord_24 : decode cX12_isHouseWord 24 = .ok (.invokevirtual 101, 3) := by decide +kernel
theorem d_X12_isHouseWord_27 : decode cX12_isHouseWord 27 = .ok (.ifCond .ne 13, 3) := by decide +kernel
theorem d_X12_isHouseWord_30 : decode cX12_isHouseWord 30 = .ok (.aload_n 0, 1) := by decide +kernel
theorem d_X12_isHouseWord_31 : decode cX12_isHouseWord 31 = .ok (.ldc2_w 122, 3) := by decide +kernel
theorem d_X12_isHouseWord_34 : decode cX12_isHouseWord 34 = .ok (.invokevirtual 101, 3) := by decide +kernel
theorem d_X12_isHouseWord_37 : decode cX12_isHouseWord 37 = .ok (.ifCond .eq 7, 3) := by decide +kernel
theorem d_X12_isHouseWord_40 : decode cX12_isHouseWord 40 = .ok (.iconst 1, 1) := by decide +kernel
theorem d_X12_isHouseWord_41 : decode cX12_isHouseWord 41 = .ok (.goto 4, 3) := by decide +kernel
theorem d_X12_isHouseWord_44 : decode cX12_isHouseWord 44 = .ok (.iconst 0, 1) := by decide +kernel
theorem d_X12_isHouseWord_45 : decode cX12_isHouseWord 45 = .ok (.istore_n 1, 1) := by decide +kernel
theorem d_X12_isHouseWord_46 : decode cX12_isHouseWord 46 = .ok (.iload_n 1, 1) := by decide +kernel
theorem d_X12_isHouseWord_47 : decode cX12_isHouseWord 47 = .ok (.ifCond .ne 33, 3) := by decide +kernel
theorem d_X12_isHouseWord_50 : decode cX12_isHouseWord 50 = .ok (.aload_n 0, 1) := by decide +kernel
theorem d_X12_isHouseWord_51 : decode cX12_isHouseWord 51 = .ok (.ldc2_w 134, 3) := by decide +kernel
theorem d_X12_isHouseWord_54 : decode cX12_isHouseWord 54 = .ok (.invokevirtual 101, 3) := by decide +kernel
theorem d_X12_isHouseWord_57 : decode cX12_isHouseWord 57 = .ok (.ifCond .ne 23, 3) := by decide +kernel
theorem d_X12_isHouseWord_60 : decode cX12_isHouseWord 60 = .ok (.aload_n 0, 1) := by decide +kernel
theorem d_X12_isHouseWord_61 : decode cX12_isHouseWord 61 = .ok (.ldc2_w 246, 3) := by decide +kernel
theorem d_X12_isHouseWord_64 : decode cX12_isHouseWord 64 = .ok (.invokevirtual 101, 3) := by decide +kernel
theorem d_X12_isHouseWord_67 : decode cX12_isHouseWord 67 = .ok (.ifCond .ne 13, 3) := by decide +kernel
theorem d_X12_isHouseWord_70 : decode cX12_isHouseWord 70 = .ok (.aload_n 0, 1) := by decide +kernel
theorem d_X12_isHouseWord_71 : decode cX12_isHouseWord 71 = .ok (.ldc2_w 254, 3) := by decide +kernel
theorem d_X12_isHouseWord_74 : decode cX12_isHouseWord 74 = .ok (.invokevirtual 101, 3) := by decide +kernel
theorem d_X12_isHouseWord_77 : decode cX12_isHouseWord 77 = .ok (.ifCond .eq 7, 3) := by decide +kernel
theorem d_X12_isHouseWord_80 : decode cX12_isHouseWord 80 = .ok (.iconst 1, 1) := by decide +kernel
theorem d_X12_isHouseWord_81 : decode cX12_isHouseWord 81 = .ok (.goto 4, 3) := by decide +kernel
theorem d_X12_isHouseWord_84 : decode cX12_isHouseWord 84 = .ok (.iconst 0, 1) := by decide +kernel
theorem d_X12_isHouseWord_85 : decode cX12_isHouseWord 85 = .ok (.ireturn, 1) := by decide +kernel
abbrev X_X12_isHouseWord : gX := (RX12, cX12_isHouseWord, 2, (some .boolean), false)
def F_X12_isHouseWord_b80 (M : gM) : Option (Int32 × gM) :=
  some ((1 : Int32), M)
theorem T_X12_isHouseWord_b80 (r : (Int32 × gM)) (M : gM) (h : F_X12_isHouseWord_b80 M = some r) : GW 2 0 0 X_X12_isHouseWord 80 [] [] M (some (vi r.1), r.2) := by
  delta F_X12_isHouseWord_b80 at h
  refine GW_iconst (X := X_X12_isHouseWord) (pc := 80) (v := 1) d_X12_isHouseWord_80 (by decide) ?_
  refine GW_goto (X := X_X12_isHouseWord) (pc := 81) 85 d_X12_isHouseWord_81 (by decide) ?_
  replace h := Option.some.inj h
  subst h
  exact GW_ret (X := X_X12_isHouseWord) (pc := 85) d_X12_isHouseWord_85 rfl g_rok1
def F_X12_isHouseWord_b45 (l0 : Option Nat) (s0 : Int32) (M : gM) : Option (Int32 × gM) :=
  if s0 = 0 then ((gO 12 M l0).bind fun i1 => (F_X12_isWord (some i1) (448311616883 : Int64) M).bind fun (v2, M3) => if v2 = 0 then ((gC 12 M3 i1).bind fun _ => (F_X12_isWord (some i1) (27988572932501107 : Int64) M3).bind fun (v5, M6) => if v5 = 0 then ((gC 12 M6 i1).bind fun _ => (F_X12_isWord (some i1) (461414299507 : Int64) M6).bind fun (v8, M9) => if v8 = 0 then (some ((0 : Int32), M9)) else (F_X12_isHouseWord_b80 M9)) else (F_X12_isHouseWord_b80 M6)) else (F_X12_isHouseWord_b80 M3)) else (F_X12_isHouseWord_b80 M)
set_option maxHeartbeats 1000000 in
theorem T_X12_isHouseWord_b45 (r : (Int32 × gM)) (l0 : Option Nat) (s0 : Int32) (M : gM) (h : F_X12_isHouseWord_b45 l0 s0 M = some r) : GW 2 0 0 X_X12_isHouseWord 45 [(0, vr l0)] [vi s0] M (some (vi r.1), r.2) := by
  delta F_X12_isHouseWord_b45 at h
  refine GW_istore_n (X := X_X12_isHouseWord) (pc := 45) d_X12_isHouseWord_45 rfl (Nat.le_of_ble_eq_true rfl) (lv2 := [(1, vi s0), (0, vr l0)]) rfl ?_
  refine GW_iload_n (X := X_X12_isHouseWord) (pc := 46) d_X12_isHouseWord_46 rfl 0 rfl ?_
  refine GW_if_ne (X := X_X12_isHouseWord) (pc := 47) 80 d_X12_isHouseWord_47 (by decide) (fun c => ?_) (fun c => ?_)
  · replace h := g_ie c h
    refine GW_sub [] rfl ?_
    exact T_X12_isHouseWord_b80 r M h
  · replace h := g_ip c h
    refine GW_aload_n (X := X_X12_isHouseWord) (pc := 50) d_X12_isHouseWord_50 rfl 1 rfl ?_
    refine GW_ldc2 (X := X_X12_isHouseWord) (pc := 51) d_X12_isHouseWord_51 m_1259 ?_
    replace h := g_bd h
    obtain ⟨i1, hi1, h⟩ := h
    obtain ⟨rfl, ki1⟩ := g_gO hi1
    replace h := g_bd h
    obtain ⟨⟨v2, M3⟩, hv2, h⟩ := h
    dsimp only at h
    refine GW_callV (X := X_X12_isHouseWord) (pc := 54) (bc0 := 0) (bs0 := 0) (r := some (vi v2)) (M2 := M3) (c0 := 12) (T_X12_isWord (some i1) (448311616883 : Int64) M (v2, M3) hv2) (Nat.le_of_ble_eq_true rfl) (Nat.le_of_ble_eq_true rfl) rfl g_cok12 ki1 yc_X12_isWord ⟨m_1248, m_1250, m_45, m_127, m_1251⟩ d_X12_isHouseWord_54 rfl (st := []) rfl (Nat.le_of_ble_eq_true rfl) (Nat.le_of_ble_eq_true rfl) (Nat.le_of_ble_eq_true rfl) (st2 := [vi v2]) rfl ?_
    refine GW_if_ne (X := X_X12_isHouseWord) (pc := 57) 80 d_X12_isHouseWord_57 (by decide) (fun c => ?_) (fun c => ?_)
    · replace h := g_ie c h
      refine GW_sub [] rfl ?_
      exact T_X12_isHouseWord_b80 r M3 h
    · replace h := g_ip c h
      refine GW_aload_n (X := X_X12_isHouseWord) (pc := 60) d_X12_isHouseWord_60 rfl 1 rfl ?_
      refine GW_ldc2 (X := X_X12_isHouseWord) (pc := 61) d_X12_isHouseWord_61 m_1260 ?_
      replace h := g_bd h
      obtain ⟨_, kk4, h⟩ := h
      replace kk4 := g_gC kk4
      replace h := g_bd h
      obtain ⟨⟨v5, M6⟩, hv5, h⟩ := h
      dsimp only at h
      refine GW_callV (X := X_X12_isHouseWord) (pc := 64) (bc0 := 0) (bs0 := 0) (r := some (vi v5)) (M2 := M6) (c0 := 12) (T_X12_isWord (some i1) (27988572932501107 : Int64) M3 (v5, M6) hv5) (Nat.le_of_ble_eq_true rfl) (Nat.le_of_ble_eq_true rfl) rfl g_cok12 kk4 yc_X12_isWord ⟨m_1248, m_1250, m_45, m_127, m_1251⟩ d_X12_isHouseWord_64 rfl (st := []) rfl (Nat.le_of_ble_eq_true rfl) (Nat.le_of_ble_eq_true rfl) (Nat.le_of_ble_eq_true rfl) (st2 := [vi v5]) rfl ?_
      refine GW_if_ne (X := X_X12_isHouseWord) (pc := 67) 80 d_X12_isHouseWord_67 (by decide) (fun c => ?_) (fun c => ?_)
      · replace h := g_ie c h
        refine GW_sub [] rfl ?_
        exact T_X12_isHouseWord_b80 r M6 h
      · replace h := g_ip c h
        refine GW_aload_n (X := X_X12_isHouseWord) (pc := 70) d_X12_isHouseWord_70 rfl 1 rfl ?_
        refine GW_ldc2 (X := X_X12_isHouseWord) (pc := 71) d_X12_isHouseWord_71 m_1261 ?_
        replace h := g_bd h
        obtain ⟨_, kk7, h⟩ := h
        replace kk7 := g_gC kk7
        replace h := g_bd h
        obtain ⟨⟨v8, M9⟩, hv8, h⟩ := h
        dsimp only at h
        refine GW_callV (X := X_X12_isHouseWord) (pc := 74) (bc0 := 0) (bs0 := 0) (r := some (vi v8)) (M2 := M9) (c0 := 12) (T_X12_isWord (some i1) (461414299507 : Int64) M6 (v8, M9) hv8) (Nat.le_of_ble_eq_true rfl) (Nat.le_of_ble_eq_true rfl) rfl g_cok12 kk7 yc_X12_isWord ⟨m_1248, m_1250, m_45, m_127, m_1251⟩ d_X12_isHouseWord_74 rfl (st := []) rfl (Nat.le_of_ble_eq_true rfl) (Nat.le_of_ble_eq_true rfl) (Nat.le_of_ble_eq_true rfl) (st2 := [vi v8]) rfl ?_
        refine GW_if_eq (X := X_X12_isHouseWord) (pc := 77) 84 d_X12_isHouseWord_77 (by decide) (fun c => ?_) (fun c => ?_)
        · replace h := g_ip c h
          refine GW_iconst (X := X_X12_isHouseWord) (pc := 84) (v := 0) d_X12_isHouseWord_84 (by decide) ?_
          replace h := Option.some.inj h
          subst h
          exact GW_ret (X := X_X12_isHouseWord) (pc := 85) d_X12_isHouseWord_85 rfl g_rok0
        · replace h := g_ie c h
          refine GW_sub [] rfl ?_
          exact T_X12_isHouseWord_b80 r M9 h
def F_X12_isHouseWord_b40 (l0 : Option Nat) (M : gM) : Option (Int32 × gM) :=
  F_X12_isHouseWord_b45 l0 (1 : Int32) M
theorem T_X12_isHouseWord_b40 (r : (Int32 × gM)) (l0 : Option Nat) (M : gM) (h : F_X12_isHouseWord_b40 l0 M = some r) : GW 2 0 0 X_X12_isHouseWord 40 [(0, vr l0)] [] M (some (vi r.1), r.2) := by
  delta F_X12_isHouseWord_b40 at h
  refine GW_iconst (X := X_X12_isHouseWord) (pc := 40) (v := 1) d_X12_isHouseWord_40 (by decide) ?_
  refine GW_goto (X := X_X12_isHouseWord) (pc := 41) 45 d_X12_isHouseWord_41 (by decide) ?_
  exact T_X12_isHouseWord_b45 r l0 (1 : Int32) M h
def F_X12_isHouseWord_b0 (l0 : Option Nat) (M : gM) : Option (Int32 × gM) :=
  (gO 12 M l0).bind fun i1 => (F_X12_isWord (some i1) (448546567013 : Int64) M).bind fun (v2, M3) => if v2 = 0 then ((gC 12 M3 i1).bind fun _ => (F_X12_isWord (some i1) (499967946343 : Int64) M3).bind fun (v5, M6) => if v5 = 0 then ((gC 12 M6 i1).bind fun _ => (F_X12_isWord (some i1) (1936682599 : Int64) M6).bind fun (v8, M9) => if v8 = 0 then ((gC 12 M9 i1).bind fun _ => (F_X12_isWord (some i1) (1751476594 : Int64) M9).bind fun (v11, M12) => if v11 = 0 then (F_X12_isHouseWord_b45 (some i1) (0 : Int32) M12) else (F_X12_isHouseWord_b40 (some i1) M12)) else (F_X12_isHouseWord_b40 (some i1) M9)) else (F_X12_isHouseWord_b40 (some i1) M6)) else (F_X12_isHouseWord_b40 (some i1) M3)
set_option maxHeartbeats 1000000 in
theorem T_X12_isHouseWord_b0 (r : (Int32 × gM)) (l0 : Option Nat) (M : gM) (h : F_X12_isHouseWord_b0 l0 M = some r) : GW 2 0 0 X_X12_isHouseWord 0 [(0, vr l0)] [] M (some (vi r.1), r.2) := by
  delta F_X12_isHouseWord_b0 at h
  refine GW_aload_n (X := X_X12_isHouseWord) (pc := 0) d_X12_isHouseWord_0 rfl 0 rfl ?_
  refine GW_ldc2 (X := X_X12_isHouseWord) (pc := 1) d_X12_isHouseWord_1 m_1247 ?_
  replace h := g_bd h
  obtain ⟨i1, hi1, h⟩ := h
  obtain ⟨rfl, ki1⟩ := g_gO hi1
  replace h := g_bd h
  obtain ⟨⟨v2, M3⟩, hv2, h⟩ := h
  dsimp only at h
  refine GW_callV (X := X_X12_isHouseWord) (pc := 4) (bc0 := 0) (bs0 := 0) (r := some (vi v2)) (M2 := M3) (c0 := 12) (T_X12_isWord (some i1) (448546567013 : Int64) M (v2, M3) hv2) (Nat.le_of_ble_eq_true rfl) (Nat.le_of_ble_eq_true rfl) rfl g_cok12 ki1 yc_X12_isWord ⟨m_1248, m_1250, m_45, m_127, m_1251⟩ d_X12_isHouseWord_4 rfl (st := []) rfl (Nat.le_of_ble_eq_true rfl) (Nat.le_of_ble_eq_true rfl) (Nat.le_of_ble_eq_true rfl) (st2 := [vi v2]) rfl ?_
  refine GW_if_ne (X := X_X12_isHouseWord) (pc := 7) 40 d_X12_isHouseWord_7 (by decide) (fun c => ?_) (fun c => ?_)
  · replace h := g_ie c h
    exact T_X12_isHouseWord_b40 r (some i1) M3 h
  · replace h := g_ip c h
    refine GW_aload_n (X := X_X12_isHouseWord) (pc := 10) d_X12_isHouseWord_10 rfl 0 rfl ?_
    refine GW_ldc2 (X := X_X12_isHouseWord) (pc := 11) d_X12_isHouseWord_11 m_1256 ?_
    replace h := g_bd h
    obtain ⟨_, kk4, h⟩ := h
    replace kk4 := g_gC kk4
    replace h := g_bd h
    obtain ⟨⟨v5, M6⟩, hv5, h⟩ := h
    dsimp only at h
    refine GW_callV (X := X_X12_isHouseWord) (pc := 14) (bc0 := 0) (bs0 := 0) (r := some (vi v5)) (M2 := M6) (c0 := 12) (T_X12_isWord (some i1) (499967946343 : Int64) M3 (v5, M6) hv5) (Nat.le_of_ble_eq_true rfl) (Nat.le_of_ble_eq_true rfl) rfl g_cok12 kk4 yc_X12_isWord ⟨m_1248, m_1250, m_45, m_127, m_1251⟩ d_X12_isHouseWord_14 rfl (st := []) rfl (Nat.le_of_ble_eq_true rfl) (Nat.le_of_ble_eq_true rfl) (Nat.le_of_ble_eq_true rfl) (st2 := [vi v5]) rfl ?_
    refine GW_if_ne (X := X_X12_isHouseWord) (pc := 17) 40 d_X12_isHouseWord_17 (by decide) (fun c => ?_) (fun c => ?_)
    · replace h := g_ie c h
      exact T_X12_isHouseWord_b40 r (some i1) M6 h
    · replace h := g_ip c h
      refine GW_aload_n (X := X_X12_isHouseWord) (pc := 20) d_X12_isHouseWord_20 rfl 0 rfl ?_
      refine GW_ldc2 (X := X_X12_isHouseWord) (pc := 21) d_X12_isHouseWord_21 m_1257 ?_
      replace h := g_bd h
      obtain ⟨_, kk7, h⟩ := h
      replace kk7 := g_gC kk7
      replace h := g_bd h
      obtain ⟨⟨v8, M9⟩, hv8, h⟩ := h
      dsimp only at h
      refine GW_callV (X := X_X12_isHouseWord) (pc := 24) (bc0 := 0) (bs0 := 0) (r := some (vi v8)) (M2 := M9) (c0 := 12) (T_X12_isWord (some i1) (1936682599 : Int64) M6 (v8, M9) hv8) (Nat.le_of_ble_eq_true rfl) (Nat.le_of_ble_eq_true rfl) rfl g_cok12 kk7 yc_X12_isWord ⟨m_1248, m_1250, m_45, m_127, m_1251⟩ d_X12_isHouseWord_24 rfl (st := []) rfl (Nat.le_of_ble_eq_true rfl) (Nat.le_of_ble_eq_true rfl) (Nat.le_of_ble_eq_true rfl) (st2 := [vi v8]) rfl ?_
      refine GW_if_ne (X := X_X12_isHouseWord) (pc := 27) 40 d_X12_isHouseWord_27 (by decide) (fun c => ?_) (fun c => ?_)
      · replace h := g_ie c h
        exact T_X12_isHouseWord_b40 r (some i1) M9 h
      · replace h := g_ip c h
        refine GW_aload_n (X := X_X12_isHouseWord) (pc := 30) d_X12_isHouseWord_30 rfl 0 rfl ?_
        refine GW_ldc2 (X := X_X12_isHouseWord) (pc := 31) d_X12_isHouseWord_31 m_1258 ?_
        replace h := g_bd h
        obtain ⟨_, kk10, h⟩ := h
        replace kk10 := g_gC kk10
        replace h := g_bd h
        obtain ⟨⟨v11, M12⟩, hv11, h⟩ := h
        dsimp only at h
        refine GW_callV (X := X_X12_isHouseWord) (pc := 34) (bc0 := 0) (bs0 := 0) (r := some (vi v11)) (M2 := M12) (c0 := 12) (T_X12_isWord (some i1) (1751476594 : Int64) M9 (v11, M12) hv11) (Nat.le_of_ble_eq_true rfl) (Nat.le_of_ble_eq_true rfl) rfl g_cok12 kk10 yc_X12_isWord ⟨m_1248, m_1250, m_45, m_127, m_1251⟩ d_X12_isHouseWord_34 rfl (st := []) rfl (Nat.le_of_ble_eq_true rfl) (Nat.le_of_ble_eq_true rfl) (Nat.le_of_ble_eq_true rfl) (st2 := [vi v11]) rfl ?_
        refine GW_if_eq (X := X_X12_isHouseWord) (pc := 37) 44 d_X12_isHouseWord_37 (by decide) (fun c => ?_) (fun c => ?_)
        · replace h := g_ip c h
          refine GW_iconst (X := X_X12_isHouseWord) (pc := 44) (v := 0) d_X12_isHouseWord_44 (by decide) ?_
          exact T_X12_isHouseWord_b45 r (some i1) (0 : Int32) M12 h
        · replace h := g_ie c h
          exact T_X12_isHouseWord_b40 r (some i1) M12 h
def F_X12_isHouseWord (l0 : Option Nat) (M : gM) : Option (Int32 × gM) := F_X12_isHouseWord_b0 l0 M
theorem T_X12_isHouseWord (l0 : Option Nat) (M : gM) (r : (Int32 × gM)) (h : F_X12_isHouseWord l0 M = some r) : g_Met 2 0 0 yX12_isHouseWord X_X12_isHouseWord [vr l0] M (some (vi r.1), r.2) :=
  g_Met_of pn_RX12 rfl (Nat.le_of_ble_eq_true rfl) (fun h => by cases h) (GW_sub [0] rfl (T_X12_isHouseWord_b0 r l0 M h))
/-! ForgetHeirsModel.fails(II)Z -/
theorem d_X12_fails_0 : decode cX12_fails 0 = .ok (.aload_n 0, 1) := by decide +kernel
theorem d_X12_fails_1 : decode cX12_fails 1 = .ok (.getfield 87, 3) := by decide +kernel
theorem d_X12_fails_4 : decode cX12_fails 4 = .ok (.ifCond .ne 15, 3) := by decide +kernel
theorem d_X12_fails_7 : decode cX12_fails 7 = .ok (.aload_n 0, 1) := by decide +kernel
theorem d_X12_fails_8 : decode cX12_fails 8 = .ok (.iconst 1, 1) := by decide +kernel
theorem d_X12_fails_9 : decode cX12_fails 9 = .ok (.bipush 8, 2) := by decide +kernel
theorem d_X12_fails_11 : decode cX12_fails 11 = .ok (.iload_n 2, 1) := by decide +kernel
theorem d_X12_fails_12 : decode cX12_fails 12 = .ok (.imul, 1) := by decide +kernel
theorem d_X12_fails_13 : decode cX12_fails 13 = .ok (.iadd, 1) := by decide +kernel
theorem d_X12_fails_14 : decode cX12_fails 14 = .ok (.iload_n 1, 1) := by decide +kernel
theorem d_X12_fails_15 : decode cX12_fails 15 = .ok (.iadd, 1) := by decide +kernel
theorem d_X12_fails_16 : decode cX12_fails 16 = .ok (.putfield 87, 3) := by decide +kernel
theorem d_X12_fails_19 : decode cX12_fails 19 = .ok (.iconst 0, 1) := by decide +kernel
theorem d_X12_fails_20 : decode cX12_fails 20 = .ok (.ireturn, 1) := by decide +kernel
abbrev X_X12_fails : gX := (RX12, cX12_fails, 3, (some .boolean), false)
def F_X12_fails_b19 (M : gM) : Option (Int32 × gM) :=
  some ((0 : Int32), M)
theorem T_X12_fails_b19 (r : (Int32 × gM)) (M : gM) (h : F_X12_fails_b19 M = some r) : GW 0 0 0 X_X12_fails 19 [] [] M (some (vi r.1), r.2) := by
  delta F_X12_fails_b19 at h
  refine GW_iconst (X := X_X12_fails) (pc := 19) (v := 0) d_X12_fails_19 (by decide) ?_
  replace h := Option.some.inj h
  subst h
  exact GW_ret (X := X_X12_fails) (pc := 20) d_X12_fails_20 rfl g_rok0
def F_X12_fails_b0 (l0 : Option Nat) (l1 : Int32) (l2 : Int32) (M : gM) : Option (Int32 × gM) :=
  (gI 12 M l0 9).bind fun v1 => if v1 = 0 then ((pI 12 M l0 9 (((1 : Int32) + ((8 : Int32) * l2)) + l1)).bind fun M2 => F_X12_fails_b19 M2) else (F_X12_fails_b19 M)
theorem T_X12_fails_b0 (r : (Int32 × gM)) (l0 : Option Nat) (l1 : Int32) (l2 : Int32) (M : gM) (h : F_X12_fails_b0 l0 l1 l2 M = some r) : GW 0 0 0 X_X12_fails 0 [(0, vr l0), (1, vi l1), (2, vi l2)] [] M (some (vi r.1), r.2) := by
  delta F_X12_fails_b0 at h
  refine GW_aload_n (X := X_X12_fails) (pc := 0) d_X12_fails_0 rfl 0 rfl ?_
  replace h := g_bd h
  obtain ⟨v1, hv1, h⟩ := h
  refine GW_getI (X := X_X12_fails) (pc := 1) f_X12_87 d_X12_fails_1 hv1 (Or.inl ty_12_9) ?_
  refine GW_if_ne (X := X_X12_fails) (pc := 4) 19 d_X12_fails_4 (by decide) (fun c => ?_) (fun c => ?_)
  · replace h := g_ie c h
    refine GW_sub [] rfl ?_
    exact T_X12_fails_b19 r M h
  · replace h := g_ip c h
    refine GW_aload_n (X := X_X12_fails) (pc := 7) d_X12_fails_7 rfl 0 rfl ?_
    refine GW_iconst (X := X_X12_fails) (pc := 8) (v := 1) d_X12_fails_8 (by decide) ?_
    refine GW_bipush (X := X_X12_fails) (pc := 9) (v := 8) d_X12_fails_9 (by decide) ?_
    refine GW_iload_n (X := X_X12_fails) (pc := 11) d_X12_fails_11 rfl 2 rfl ?_
    refine GW_imul (X := X_X12_fails) (pc := 12) d_X12_fails_12 ?_
    refine GW_iadd (X := X_X12_fails) (pc := 13) d_X12_fails_13 ?_
    refine GW_iload_n (X := X_X12_fails) (pc := 14) d_X12_fails_14 rfl 1 rfl ?_
    refine GW_iadd (X := X_X12_fails) (pc := 15) d_X12_fails_15 ?_
    replace h := g_bd h
    obtain ⟨M2, hM2, h⟩ := h
    refine GW_putI (X := X_X12_fails) (pc := 16) f_X12_87 d_X12_fails_16 hM2 (Or.inl fi_12_9) (Or.inl ty_12_9) ?_
    refine GW_sub [] rfl ?_
    exact T_X12_fails_b19 r M2 h
def F_X12_fails (l0 : Option Nat) (l1 : Int32) (l2 : Int32) (M : gM) : Option (Int32 × gM) := F_X12_fails_b0 l0 l1 l2 M
theorem T_X12_fails (l0 : Option Nat) (l1 : Int32) (l2 : Int32) (M : gM) (r : (Int32 × gM)) (h : F_X12_fails l0 l1 l2 M = some r) : g_Met 0 0 0 yX12_fails X_X12_fails [vr l0, vi l1, vi l2] M (some (vi r.1), r.2) :=
  g_Met_of pn_RX12 rfl (Nat.le_of_ble_eq_true rfl) (fun h => by cases h) (GW_sub [0, 1, 2] rfl (T_X12_fails_b0 r l0 l1 l2 M h))
/-! ForgetHeirsModel.passWord()V -/
theorem d_X12_passWord_0 : decode cX12_passWord 0 = .ok (.aload_n 0, 1) := by decide +kernel
theorem d_X12_passWord_1 : decode cX12_passWord 1 = .ok (.aload_n 0, 1) := by decide +kernel
theorem d_X12_passWord_2 : decode cX12_passWord 2 = .ok (.getfield 90, 3) := by decide +kernel
theorem d_X12_passWord_5 : decode cX12_passWord 5 = .ok (.invokevirtual 97, 3) := by decide +kernel
theorem d_X12_passWord_8 : decode cX12_passWord 8 = .ok (.ifCond .eq 16, 3) := by decide +kernel
theorem d_X12_passWord_11 : decode cX12_passWord 11 = .ok (.aload_n 0, 1) := by decide +kernel
theorem d_X12_passWord_12 : decode cX12_passWord 12 = .ok (.dup, 1) := by decide +kernel
theorem d_X12_passWord_13 : decode cX12_passWord 13 = .ok (.getfield 90, 3) := by decide +kernel
theorem d_X12_passWord_16 : decode cX12_passWord 16 = .ok (.iconst 1, 1) := by decide +kernel
theorem d_X12_passWord_17 : decode cX12_passWord 17 = .ok (.iadd, 1) := by decide +kernel
theorem d_X12_passWord_18 : decode cX12_passWord 18 = .ok (.putfield 90, 3) := by decide +kernel
theorem d_X12_passWord_21 : decode cX12_passWord 21 = .ok (.goto (-21), 3) := by decide +kernel
theorem d_X12_passWord_24 : decode cX12_passWord 24 = .ok (.return_, 1) := by decide +kernel
abbrev X_X12_passWord : gX := (RX12, cX12_passWord, 1, none, false)
def F_X12_passWord_b0 (k0 : Option Nat → gM → Option gM) (l0 : Option Nat) (M : gM) : Option gM :=
  (gI 12 M l0 8).bind fun v1 => (gO 12 M l0).bind fun i2 => (F_X12_isLetter (some i2) v1 M).bind fun v3 => if v3 = 0 then (some M) else ((gI 12 M (some i2) 8).bind fun v4 => (pI 12 M (some i2) 8 (v4 + (1 : Int32))).bind fun M5 => k0 (some i2) M5)
theorem T_X12_passWord_b0 (k0 : Option Nat → gM → Option gM) (r : gM) (hk0 : ∀ (l0 : Option Nat) (M : gM), k0 l0 M = some r → GW 1 0 0 X_X12_passWord 0 [(0, vr l0)] [] M (none, r)) (l0 : Option Nat) (M : gM) (h : F_X12_passWord_b0 k0 l0 M = some r) : GW 1 0 0 X_X12_passWord 0 [(0, vr l0)] [] M (none, r) := by
  delta F_X12_passWord_b0 at h
  refine GW_aload_n (X := X_X12_passWord) (pc := 0) d_X12_passWord_0 rfl 0 rfl ?_
  refine GW_aload_n (X := X_X12_passWord) (pc := 1) d_X12_passWord_1 rfl 0 rfl ?_
  replace h := g_bd h
  obtain ⟨v1, hv1, h⟩ := h
  refine GW_getI (X := X_X12_passWord) (pc := 2) f_X12_90 d_X12_passWord_2 hv1 (Or.inl ty_12_8) ?_
  replace h := g_bd h
  obtain ⟨i2, hi2, h⟩ := h
  obtain ⟨rfl, ki2⟩ := g_gO hi2
  replace h := g_bd h
  obtain ⟨v3, hv3, h⟩ := h
  refine GW_callV (X := X_X12_passWord) (pc := 5) (bc0 := 0) (bs0 := 0) (r := some (vi v3)) (M2 := M) (c0 := 12) (T_X12_isLetter (some i2) v1 M v3 hv3) (Nat.le_of_ble_eq_true rfl) (Nat.le_of_ble_eq_true rfl) rfl g_cok12 ki2 yc_X12_isLetter ⟨m_1252, m_1254, m_46, m_127, m_1255⟩ d_X12_passWord_5 rfl (st := []) rfl (Nat.le_of_ble_eq_true rfl) (Nat.le_of_ble_eq_true rfl) (Nat.le_of_ble_eq_true rfl) (st2 := [vi v3]) rfl ?_
  refine GW_if_eq (X := X_X12_passWord) (pc := 8) 24 d_X12_passWord_8 (by decide) (fun c => ?_) (fun c => ?_)
  · replace h := g_ip c h
    replace h := Option.some.inj h
    subst h
    exact GW_ret (X := X_X12_passWord) (pc := 24) d_X12_passWord_24 rfl trivial
  · replace h := g_ie c h
    refine GW_aload_n (X := X_X12_passWord) (pc := 11) d_X12_passWord_11 rfl 0 rfl ?_
    refine GW_dup (X := X_X12_passWord) (pc := 12) d_X12_passWord_12 rfl ?_
    replace h := g_bd h
    obtain ⟨v4, hv4, h⟩ := h
    refine GW_getI (X := X_X12_passWord) (pc := 13) f_X12_90 d_X12_passWord_13 hv4 (Or.inl ty_12_8) ?_
    refine GW_iconst (X := X_X12_passWord) (pc := 16) (v := 1) d_X12_passWord_16 (by decide) ?_
    refine GW_iadd (X := X_X12_passWord) (pc := 17) d_X12_passWord_17 ?_
    replace h := g_bd h
    obtain ⟨M5, hM5, h⟩ := h
    refine GW_putI (X := X_X12_passWord) (pc := 18) f_X12_90 d_X12_passWord_18 hM5 (Or.inl fi_12_8) (Or.inl ty_12_8) ?_
    refine GW_goto (X := X_X12_passWord) (pc := 21) 0 d_X12_passWord_21 (by decide) ?_
    exact hk0 (some i2) M5 h
def F_X12_passWord_L0 : Nat → Option Nat → gM → Option gM
  | 0 => fun _ _ => none
  | n + 1 => F_X12_passWord_b0 (F_X12_passWord_L0 n)
theorem T_X12_passWord_L0 (r : gM) : ∀ (n : Nat) (l0 : Option Nat) (M : gM), F_X12_passWord_L0 n l0 M = some r → GW 1 0 0 X_X12_passWord 0 [(0, vr l0)] [] M (none, r) := by
  intro n
  induction n with
  | zero => intro l0 M h; exact g_no h
  | succ n ih => intro l0 M h; exact T_X12_passWord_b0 (F_X12_passWord_L0 n) r ih l0 M h
def F_X12_passWord (l0 : Option Nat) (M : gM) : Option gM := F_X12_passWord_L0 g_fuel l0 M
theorem T_X12_passWord (l0 : Option Nat) (M : gM) (r : gM) (h : F_X12_passWord l0 M = some r) : g_Met 1 0 0 yX12_passWord X_X12_passWord [vr l0] M (none, r) :=
  g_Met_of pn_RX12 rfl (Nat.le_of_ble_eq_true rfl) (fun h => by cases h) (GW_sub [0] rfl (T_X12_passWord_L0 r g_fuel l0 M h))
/-! ForgetHeirsModel.isDigit(I)Z -/
theorem d_X12_isDigit_0 : decode cX12_isDigit 0 = .ok (.iload_n 1, 1) := by decide +kernel
theorem d_X12_isDigit_1 : decode cX12_isDigit 1 = .ok (.aload_n 0, 1) := by decide +kernel
theorem d_X12_isDigit_2 : decode cX12_isDigit 2 = .ok (.getfield 80, 3) := by decide +kernel
theorem d_X12_isDigit_5 : decode cX12_isDigit 5 = .ok (.if_icmp .ge 29, 3) := by decide +kernel
theorem d_X12_isDigit_8 : decode cX12_isDigit 8 = .ok (.aload_n 0, 1) := by decide +kernel
theorem d_X12_isDigit_9 : decode cX12_isDigit 9 = .ok (.getfield 7, 3) := by decide +kernel
theorem d_X12_isDigit_12 : decode cX12_isDigit 12 = .ok (.iload_n 1, 1) := by decide +kernel
theorem d_X12_isDigit_13 : decode cX12_isDigit 13 = .ok (.baload, 1) := by decide +kernel
theorem d_X12_isDigit_14 : decode cX12_isDigit 14 = .ok (.bipush 48, 2) := by decide +kernel
theorem d_X12_isDigit_16 : decode cX12_isDigit 16 = .ok (.if_icmp .lt 18, 3) := by decide +kernel
theorem d_X12_isDigit_19 : decode cX12_isDigit 19 = .ok (.aload_n 0, 1) := by decide +kernel
theorem d_X12_isDigit_20 : decode cX12_isDigit 20 = .ok (.getfield 7, 3) := by decide +kernel
theorem d_X12_isDigit_23 : decode cX12_isDigit 23 = .ok (.iload_n 1, 1) := by decide +kernel
theorem d_X12_isDigit_24 : decode cX12_isDigit 24 = .ok (.baload, 1) := by decide +kernel
theorem d_X12_isDigit_25 : decode cX12_isDigit 25 = .ok (.bipush 57, 2) := by decide +kernel
theorem d_X12_isDigit_27 : decode cX12_isDigit 27 = .ok (.if_icmp .gt 7, 3) := by decide +kernel
theorem d_X12_isDigit_30 : decode cX12_isDigit 30 = .ok (.iconst 1, 1) := by decide +kernel
theorem d_X12_isDigit_31 : decode cX12_isDigit 31 = .ok (.goto 4, 3) := by decide +kernel
theorem d_X12_isDigit_34 : decode cX12_isDigit 34 = .ok (.iconst 0, 1) := by decide +kernel
theorem d_X12_isDigit_35 : decode cX12_isDigit 35 = .ok (.ireturn, 1) := by decide +kernel
abbrev X_X12_isDigit : gX := (RX12, cX12_isDigit, 2, (some .boolean), false)
def F_X12_isDigit_b34 (M : gM) : Option Int32 :=
  some (0 : Int32)
theorem T_X12_isDigit_b34 (M : gM) (r : Int32) (h : F_X12_isDigit_b34 M = some r) : GW 0 0 0 X_X12_isDigit 34 [] [] M (some (vi r), M) := by
  delta F_X12_isDigit_b34 at h
  refine GW_iconst (X := X_X12_isDigit) (pc := 34) (v := 0) d_X12_isDigit_34 (by decide) ?_
  replace h := Option.some.inj h
  subst h
  exact GW_ret (X := X_X12_isDigit) (pc := 35) d_X12_isDigit_35 rfl g_rok0
def F_X12_isDigit_b0 (M : gM) (l0 : Option Nat) (l1 : Int32) : Option Int32 :=
  (gI 12 M l0 1).bind fun v1 => if v1 ≤ l1 then (F_X12_isDigit_b34 M ) else ((gR 12 M l0 0).bind fun v2 => (aI 22 M v2 l1).bind fun v3 => if v3 < (48 : Int32) then (F_X12_isDigit_b34 M ) else ((gR 12 M l0 0).bind fun v4 => (aI 22 M v4 l1).bind fun v5 => if (57 : Int32) < v5 then (F_X12_isDigit_b34 M ) else (some (1 : Int32))))
set_option maxHeartbeats 1000000 in
theorem T_X12_isDigit_b0 (M : gM) (r : Int32) (l0 : Option Nat) (l1 : Int32) (h : F_X12_isDigit_b0 M l0 l1 = some r) : GW 0 0 0 X_X12_isDigit 0 [(0, vr l0), (1, vi l1)] [] M (some (vi r), M) := by
  delta F_X12_isDigit_b0 at h
  refine GW_iload_n (X := X_X12_isDigit) (pc := 0) d_X12_isDigit_0 rfl 1 rfl ?_
  refine GW_aload_n (X := X_X12_isDigit) (pc := 1) d_X12_isDigit_1 rfl 0 rfl ?_
  replace h := g_bd h
  obtain ⟨v1, hv1, h⟩ := h
  refine GW_getI (X := X_X12_isDigit) (pc := 2) f_X12_80 d_X12_isDigit_2 hv1 (Or.inl ty_12_1) ?_
  refine GW_icmp_ge (X := X_X12_isDigit) (pc := 5) 34 d_X12_isDigit_5 (by decide) (fun c => ?_) (fun c => ?_)
  · replace h := g_ip c h
    refine GW_sub [] rfl ?_
    exact T_X12_isDigit_b34 M r  h
  · replace h := g_ie c h
    refine GW_aload_n (X := X_X12_isDigit) (pc := 8) d_X12_isDigit_8 rfl 0 rfl ?_
    replace h := g_bd h
    obtain ⟨v2, hv2, h⟩ := h
    refine GW_getR (X := X_X12_isDigit) (pc := 9) f_X12_7 d_X12_isDigit_9 hv2 (Or.inr ⟨_, ty_12_0⟩) ?_
    refine GW_iload_n (X := X_X12_isDigit) (pc := 12) d_X12_isDigit_12 rfl 1 rfl ?_
    replace h := g_bd h
    obtain ⟨v3, hv3, h⟩ := h
    refine GW_bald (X := X_X12_isDigit) (pc := 13) d_X12_isDigit_13 hv3 ?_
    refine GW_bipush (X := X_X12_isDigit) (pc := 14) (v := 48) d_X12_isDigit_14 (by decide) ?_
    refine GW_icmp_lt (X := X_X12_isDigit) (pc := 16) 34 d_X12_isDigit_16 (by decide) (fun c => ?_) (fun c => ?_)
    · replace h := g_ip c h
      refine GW_sub [] rfl ?_
      exact T_X12_isDigit_b34 M r  h
    · replace h := g_ie c h
      refine GW_aload_n (X := X_X12_isDigit) (pc := 19) d_X12_isDigit_19 rfl 0 rfl ?_
      replace h := g_bd h
      obtain ⟨v4, hv4, h⟩ := h
      refine GW_getR (X := X_X12_isDigit) (pc := 20) f_X12_7 d_X12_isDigit_20 hv4 (Or.inr ⟨_, ty_12_0⟩) ?_
      refine GW_iload_n (X := X_X12_isDigit) (pc := 23) d_X12_isDigit_23 rfl 1 rfl ?_
      replace h := g_bd h
      obtain ⟨v5, hv5, h⟩ := h
      refine GW_bald (X := X_X12_isDigit) (pc := 24) d_X12_isDigit_24 hv5 ?_
      refine GW_bipush (X := X_X12_isDigit) (pc := 25) (v := 57) d_X12_isDigit_25 (by decide) ?_
      refine GW_icmp_gt (X := X_X12_isDigit) (pc := 27) 34 d_X12_isDigit_27 (by decide) (fun c => ?_) (fun c => ?_)
      · replace h := g_ip c h
        refine GW_sub [] rfl ?_
        exact T_X12_isDigit_b34 M r  h
      · replace h := g_ie c h
        refine GW_iconst (X := X_X12_isDigit) (pc := 30) (v := 1) d_X12_isDigit_30 (by decide) ?_
        refine GW_goto (X := X_X12_isDigit) (pc := 31) 35 d_X12_isDigit_31 (by decide) ?_
        replace h := Option.some.inj h
        subst h
        exact GW_ret (X := X_X12_isDigit) (pc := 35) d_X12_isDigit_35 rfl g_rok1
def F_X12_isDigit (l0 : Option Nat) (l1 : Int32) (M : gM) : Option Int32 := F_X12_isDigit_b0 M l0 l1
theorem T_X12_isDigit (l0 : Option Nat) (l1 : Int32) (M : gM) (r : Int32) (h : F_X12_isDigit l0 l1 M = some r) : g_Met 0 0 0 yX12_isDigit X_X12_isDigit [vr l0, vi l1] M (some (vi r), M) :=
  g_Met_of pn_RX12 rfl (Nat.le_of_ble_eq_true rfl) (fun h => by cases h) (GW_sub [0, 1] rfl (T_X12_isDigit_b0 M r l0 l1 h))
/-! ForgetHeirsModel.in(JJJ)Z -/
theorem d_X12_in_0 : decode cX12_in 0 = .ok (.lload_n 0, 1) := by decide +kernel
theorem d_X12_in_1 : decode cX12_in 1 = .ok (.lload_n 2, 1) := by decide +kernel
theorem d_X12_in_2 : decode cX12_in 2 = .ok (.lcmp, 1) := by decide +kernel
theorem d_X12_in_3 : decode cX12_in 3 = .ok (.ifCond .lt 14, 3) := by decide +kernel
theorem d_X12_in_6 : decode cX12_in 6 = .ok (.lload_n 0, 1) := by decide +kernel
theorem d_X12_in_7 : decode cX12_in 7 = .ok (.lload 4, 2) := by decide +kernel
theorem d_X12_in_9 : decode cX12_in 9 = .ok (.lcmp, 1) := by decide +kernel
theorem d_X12_in_10 : decode cX12_in 10 = .ok (.ifCond .gt 7, 3) := by decide +kernel
theorem d_X12_in_13 : decode cX12_in 13 = .ok (.iconst 1, 1) := by decide +kernel
theorem d_X12_in_14 : decode cX12_in 14 = .ok (.goto 4, 3) := by decide +kernel
theorem d_X12_in_17 : decode cX12_in 17 = .ok (.iconst 0, 1) := by decide +kernel
theorem d_X12_in_18 : decode cX12_in 18 = .ok (.ireturn, 1) := by decide +kernel
abbrev X_X12_in : gX := (RX12, cX12_in, 6, (some .boolean), false)
def F_X12_in_b17 (M : gM) : Option Int32 :=
  some (0 : Int32)
theorem T_X12_in_b17 (M : gM) (r : Int32) (h : F_X12_in_b17 M = some r) : GW 0 0 0 X_X12_in 17 [] [] M (some (vi r), M) := by
  delta F_X12_in_b17 at h
  refine GW_iconst (X := X_X12_in) (pc := 17) (v := 0) d_X12_in_17 (by decide) ?_
  replace h := Option.some.inj h
  subst h
  exact GW_ret (X := X_X12_in) (pc := 18) d_X12_in_18 rfl g_rok0
def F_X12_in_b0 (M : gM) (l0 : Int64) (l2 : Int64) (l4 : Int64) : Option Int32 :=
  if (lg_cmp l0 l2) < 0 then (F_X12_in_b17 M ) else (if 0 < (lg_cmp l0 l4) then (F_X12_in_b17 M ) else (some (1 : Int32)))
theorem T_X12_in_b0 (M : gM) (r : Int32) (l0 : Int64) (l2 : Int64) (l4 : Int64) (h : F_X12_in_b0 M l0 l2 l4 = some r) : GW 0 0 0 X_X12_in 0 [(0, vl l0), (2, vl l2), (4, vl l4)] [] M (some (vi r), M) := by
  delta F_X12_in_b0 at h
  refine GW_lload_n (X := X_X12_in) (pc := 0) d_X12_in_0 rfl 0 rfl ?_
  refine GW_lload_n (X := X_X12_in) (pc := 1) d_X12_in_1 rfl 1 rfl ?_
  refine GW_lcmp (X := X_X12_in) (pc := 2) d_X12_in_2 ?_
  refine GW_if_lt (X := X_X12_in) (pc := 3) 17 d_X12_in_3 (by decide) (fun c => ?_) (fun c => ?_)
  · replace h := g_ip c h
    refine GW_sub [] rfl ?_
    exact T_X12_in_b17 M r  h
  · replace h := g_ie c h
    refine GW_lload_n (X := X_X12_in) (pc := 6) d_X12_in_6 rfl 0 rfl ?_
    refine GW_lload (X := X_X12_in) (pc := 7) d_X12_in_7 2 rfl ?_
    refine GW_lcmp (X := X_X12_in) (pc := 9) d_X12_in_9 ?_
    refine GW_if_gt (X := X_X12_in) (pc := 10) 17 d_X12_in_10 (by decide) (fun c => ?_) (fun c => ?_)
    · replace h := g_ip c h
      refine GW_sub [] rfl ?_
      exact T_X12_in_b17 M r  h
    · replace h := g_ie c h
      refine GW_iconst (X := X_X12_in) (pc := 13) (v := 1) d_X12_in_13 (by decide) ?_
      refine GW_goto (X := X_X12_in) (pc := 14) 18 d_X12_in_14 (by decide) ?_
      replace h := Option.some.inj h
      subst h
      exact GW_ret (X := X_X12_in) (pc := 18) d_X12_in_18 rfl g_rok1
def F_X12_in (l0 : Int64) (l2 : Int64) (l4 : Int64) (M : gM) : Option Int32 := F_X12_in_b0 M l0 l2 l4
theorem T_X12_in (l0 : Int64) (l2 : Int64) (l4 : Int64) (M : gM) (r : Int32) (h : F_X12_in l0 l2 l4 M = some r) : g_Met 0 0 0 yX12_in X_X12_in [vl l0, vl l2, vl l4] M (some (vi r), M) :=
  g_Met_of pn_RX12 rfl (Nat.le_of_ble_eq_true rfl) (fun h => by cases h) (GW_sub [0, 1, 2] rfl (T_X12_in_b0 M r l0 l2 l4 h))
/-! ForgetHeirsModel.numberHere(II)Z -/
theorem d_X12_numberHere_0 : decode cX12_numberHere 0 = .ok (.aload_n 0, 1) := by decide +kernel
theorem d_X12_numberHere_1 : decode cX12_numberHere 1 = .ok (.invokevirtual 93, 3) := by decide +kernel
theorem d_X12_numberHere_4 : decode cX12_numberHere 4 = .ok (.pop, 1) := by decide +kernel
theorem d_X12_numberHere_5 : decode cX12_numberHere 5 = .ok (.aload_n 0, 1) := by decide +kernel
theorem d_X12_numberHere_6 : decode cX12_numberHere 6 = .ok (.aload_n 0, 1) := by decide +kernel
theorem d_X12_numberHere_7 : decode cX12_numberHere 7 = .ok (.getfield 90, 3) := by decide +kernel
theorem d_X12_numberHere_10 : decode cX12_numberHere 10 = .ok (.invokevirtual 108, 3) := by decide +kernel
theorem d_X12_numberHere_13 : decode cX12_numberHere 13 = .ok (.ifCond .ne 13, 3) := by decide +kernel
theorem d_X12_numberHere_16 : decode cX12_numberHere 16 = .ok (.aload_n 0, 1) := by decide +kernel
theorem d_X12_numberHere_17 : decode cX12_numberHere 17 = .ok (.iconst 0, 1) := by decide +kernel
theorem d_X12_numberHere_18 : decode cX12_numberHere 18 = .ok (.aload_n 0, 1) := by decide +kernel
theorem d_X12_numberHere_19 : decode cX12_numberHere 19 = .ok (.getfield 90, 3) := by decide +kernel
theorem d_X12_numberHere_22 : decode cX12_numberHere 22 = .ok (.invokevirtual 111, 3) := by decide +kernel
theorem d_X12_numberHere_25 : decode cX12_numberHere 25 = .ok (.ireturn, 1) := by decide +kernel
theorem d_X12_numberHere_26 : decode cX12_numberHere 26 = .ok (.aload_n 0, 1) := by decide +kernel
theorem d_X12_numberHere_27 : decode cX12_numberHere 27 = .ok (.getfield 90, 3) := by decide +kernel
theorem d_X12_numberHere_30 : decode cX12_numberHere 30 = .ok (.istore_n 3, 1) := by decide +kernel
theorem d_X12_numberHere_31 : decode cX12_numberHere 31 = .ok (.iconst 0, 1) := by decide +kernel
theorem d_X12_numberHere_32 : decode cX12_numberHere 32 = .ok (.istore 4, 2) := by decide +kernel
theorem d_X12_numberHere_34 : decode cX12_numberHere 34 = .ok (.aload_n 0, 1) := by decide +kernel
theorem d_X12_numberHere_35 : decode cX12_numberHere 35 = .ok (.aload_n 0, 1) := by decide +kernel
theorem d_X12_numberHere_36 : decode cX12_numberHere 36 = .ok (.getfield 90, 3) := by decide +kernel
theorem d_X12_numberHere_39 : decode cX12_numberHere 39 = .ok (.invokevirtual 108, 3) := by decide +kernel
theorem d_X12_numberHere_42 : decode cX12_numberHere 42 = .ok (.ifCond .eq 46, 3) := by decide +kernel
theorem d_X12_numberHere_45 : decode cX12_numberHere 45 = .ok (.aload_n 0, 1) := by decide +kernel
theorem d_X12_numberHere_46 : decode cX12_numberHere 46 = .ok (.getfield 90, 3) := by decide +kernel
theorem d_X12_numberHere_49 : decode cX12_numberHere 49 = .ok (.iload_n 3, 1) := by decide +kernel
theorem d_X12_numberHere_50 : decode cX12_numberHere 50 = .ok (.isub, 1) := by decide +kernel
theorem d_X12_numberHere_51 : decode cX12_numberHere 51 = .ok (.iconst 5, 1) := by decide +kernel
theorem d_X12_numberHere_52 : decode cX12_numberHere 52 = .ok (.if_icmp .ge 23, 3) := by decide +kernel
theorem d_X12_numberHere_55 : decode cX12_numberHere 55 = .ok (.bipush 10, 2) := by decide +kernel
theorem d_X12_numberHere_57 : decode cX12_numberHere 57 = .ok (.iload 4, 2) := by decide +kernel
theorem d_X12_numberHere_59 : decode cX12_numberHere 59 = .ok (.imul, 1) := by decide +kernel
theorem d_X12_numberHere_60 : decode cX12_numberHere 60 = .ok (.aload_n 0, 1) := by decide +kernel
theorem d_X12_numberHere_61 : decode cX12_numberHere 61 = .ok (.getfield 7, 3) := by decide +kernel
theorem d_X12_numberHere_64 : decode cX12_numberHere 64 = .ok (.aload_n 0, 1) := by decide +kernel
theorem d_X12_numberHere_65 : decode cX12_numberHere 65 = .ok (.getfield 90, 3) := by decide +kernel
theorem d_X12_numberHere_68 : decode cX12_numberHere 68 = .ok (.baload, 1) := by decide +kernel
theorem d_X12_numberHere_69 : decode cX12_numberHere 69 = .ok (.iadd, 1) := by decide +kernel
theorem d_X12_numberHere_70 : decode cX12_numberHere 70 = .ok (.bipush 48, 2) := by decide +kernel
theorem d_X12_numberHere_72 : decode cX12_numberHere 72 = .ok (.isub, 1) := by decide +kernel
theorem d_X12_numberHere_73 : decode cX12_numberHere 73 = .ok (.istore 4, 2) := by decide +kernel
theorem d_X12_numberHere_75 : decode cX12_numberHere 75 = .ok (.aload_n 0, 1) := by decide +kernel
theorem d_X12_numberHere_76 : decode cX12_numberHere 76 = .ok (.dup, 1) := by decide +kernel
theorem d_X12_numberHere_77 : decode cX12_numberHere 77 = .ok (.getfield 90, 3) := by decide +kernel
theorem d_X12_numberHere_80 : decode cX12_numberHere 80 = .ok (.iconst 1, 1) := by decide +kernel
theorem d_X12_numberHere_81 : decode cX12_numberHere 81 = .ok (.iadd, 1) := by decide +kernel
theorem d_X12_numberHere_82 : decode cX12_numberHere 82 = .ok (.putfield 90, 3) := by decide +kernel
theorem d_X12_numberHere_85 : decode cX12_numberHere 85 = .ok (.goto (-51), 3) := by decide +kernel
theorem d_X12_numberHere_88 : decode cX12_numberHere 88 = .ok (.aload_n 0, 1) := by decide +kernel
theorem d_X12_numberHere_89 : decode cX12_numberHere 89 = .ok (.iload 4, 2) := by decide +kernel
theorem d_X12_numberHere_91 : decode cX12_numberHere 91 = .ok (.putfield 115, 3) := by decide +kernel
theorem d_X12_numberHere_94 : decode cX12_numberHere 94 = .ok (.aload_n 0, 1) := by decide +kernel
theorem d_X12_numberHere_95 : decode cX12_numberHere 95 = .ok (.getfield 90, 3) := by decide +kernel
theorem d_X12_numberHere_98 : decode cX12_numberHere 98 = .ok (.iload_n 3, 1) := by decide +kernel
theorem d_X12_numberHere_99 : decode cX12_numberHere 99 = .ok (.isub, 1) := by decide +kernel
theorem d_X12_numberHere_100 : decode cX12_numberHere 100 = .ok (.iconst 5, 1) := by decide +kernel
theorem d_X12_numberHere_101 : decode cX12_numberHere 101 = .ok (.if_icmp .gt 16, 3) := by decide +kernel
theorem d_X12_numberHere_104 : decode cX12_numberHere 104 = .ok (.iload 4, 2) := by decide +kernel
theorem d_X12_numberHere_106 : decode cX12_numberHere 106 = .ok (.i2l, 1) := by decide +kernel
theorem d_X12_numberHere_107 : decode cX12_numberHere 107 = .ok (.iload_n 1, 1) := by decide +kernel
theorem d_X12_numberHere_108 : decode cX12_numberHere 108 = .ok (.i2l, 1) := by decide +kernel
theorem d_X12_numberHere_109 : decode cX12_numberHere 109 = .ok (.iload_n 2, 1) := by decide +kernel
theorem d_X12_numberHere_110 : decode cX12_numberHere 110 = .ok (.i2l, 1) := by decide +kernel
theorem d_X12_numberHere_111 : decode cX12_numberHere 111 = .ok (.invokestatic 118, 3) := by decide +kernel
theorem d_X12_numberHere_114 : decode cX12_numberHere 114 = .ok (.ifCond .ne 12, 3) := by decide +kernel
theorem d_X12_numberHere_117 : decode cX12_numberHere 117 = .ok (.aload_n 0, 1) := by decide +kernel
theorem d_X12_numberHere_118 : decode cX12_numberHere 118 = .ok (.iconst 1, 1) := by decide +kernel
theorem d_X12_numberHere_119 : decode cX12_numberHere 119 = .ok (.iload_n 3, 1) := by decide +kernel
theorem d_X12_numberHere_120 : decode cX12_numberHere 120 = .ok (.invokevirtual 111, 3) := by decide +kernel
theorem d_X12_numberHere_123 : decode cX12_numberHere 123 = .ok (.ifCond .eq 7, 3) := by decide +kernel
theorem d_X12_numberHere_126 : decode cX12_numberHere 126 = .ok (.iconst 1, 1) := by decide +kernel
theorem d_X12_numberHere_127 : decode cX12_numberHere 127 = .ok (.goto 4, 3) := by decide +kernel
theorem d_X12_numberHere_130 : decode cX12_numberHere 130 = .ok (.iconst 0, 1) := by decide +kernel
theorem d_X12_numberHere_131 : decode cX12_numberHere 131 = .ok (.ireturn, 1) := by decide +kernel
abbrev X_X12_numberHere : gX := (RX12, cX12_numberHere, 5, (some .boolean), false)
def F_X12_numberHere_b126 (M : gM) : Option (Int32 × gM) :=
  some ((1 : Int32), M)
theorem T_X12_numberHere_b126 (r : (Int32 × gM)) (M : gM) (h : F_X12_numberHere_b126 M = some r) : GW 1 0 0 X_X12_numberHere 126 [] [] M (some (vi r.1), r.2) := by
  delta F_X12_numberHere_b126 at h
  refine GW_iconst (X := X_X12_numberHere) (pc := 126) (v := 1) d_X12_numberHere_126 (by decide) ?_
  refine GW_goto (X := X_X12_numberHere) (pc := 127) 131 d_X12_numberHere_127 (by decide) ?_
  replace h := Option.some.inj h
  subst h
  exact GW_ret (X := X_X12_numberHere) (pc := 131) d_X12_numberHere_131 rfl g_rok1
def F_X12_numberHere_b117 (l0 : Option Nat) (l3 : Int32) (M : gM) : Option (Int32 × gM) :=
  (gO 12 M l0).bind fun i1 => (F_X12_fails (some i1) (1 : Int32) l3 M).bind fun (v2, M3) => if v2 = 0 then (some ((0 : Int32), M3)) else (F_X12_numberHere_b126 M3)
theorem T_X12_numberHere_b117 (r : (Int32 × gM)) (l0 : Option Nat) (l3 : Int32) (M : gM) (h : F_X12_numberHere_b117 l0 l3 M = some r) : GW 1 0 0 X_X12_numberHere 117 [(0, vr l0), (3, vi l3)] [] M (some (vi r.1), r.2) := by
  delta F_X12_numberHere_b117 at h
  refine GW_aload_n (X := X_X12_numberHere) (pc := 117) d_X12_numberHere_117 rfl 0 rfl ?_
  refine GW_iconst (X := X_X12_numberHere) (pc := 118) (v := 1) d_X12_numberHere_118 (by decide) ?_
  refine GW_iload_n (X := X_X12_numberHere) (pc := 119) d_X12_numberHere_119 rfl 1 rfl ?_
  replace h := g_bd h
  obtain ⟨i1, hi1, h⟩ := h
  obtain ⟨rfl, ki1⟩ := g_gO hi1
  replace h := g_bd h
  obtain ⟨⟨v2, M3⟩, hv2, h⟩ := h
  dsimp only at h
  refine GW_callV (X := X_X12_numberHere) (pc := 120) (bc0 := 0) (bs0 := 0) (r := some (vi v2)) (M2 := M3) (c0 := 12) (T_X12_fails (some i1) (1 : Int32) l3 M (v2, M3) hv2) (Nat.le_of_ble_eq_true rfl) (Nat.le_of_ble_eq_true rfl) rfl g_cok12 ki1 yc_X12_fails ⟨m_1263, m_1265, m_47, m_127, m_1266⟩ d_X12_numberHere_120 rfl (st := []) rfl (Nat.le_of_ble_eq_true rfl) (Nat.le_of_ble_eq_true rfl) (Nat.le_of_ble_eq_true rfl) (st2 := [vi v2]) rfl ?_
  refine GW_if_eq (X := X_X12_numberHere) (pc := 123) 130 d_X12_numberHere_123 (by decide) (fun c => ?_) (fun c => ?_)
  · replace h := g_ip c h
    refine GW_iconst (X := X_X12_numberHere) (pc := 130) (v := 0) d_X12_numberHere_130 (by decide) ?_
    replace h := Option.some.inj h
    subst h
    exact GW_ret (X := X_X12_numberHere) (pc := 131) d_X12_numberHere_131 rfl g_rok0
  · replace h := g_ie c h
    refine GW_sub [] rfl ?_
    exact T_X12_numberHere_b126 r M3 h
def F_X12_numberHere_b75 (k34 : Option Nat → Int32 → Int32 → Int32 → Int32 → gM → Option (Int32 × gM)) (l0 : Option Nat) (l1 : Int32) (l2 : Int32) (l3 : Int32) (l4 : Int32) (M : gM) : Option (Int32 × gM) :=
  (gI 12 M l0 8).bind fun v1 => (pI 12 M l0 8 (v1 + (1 : Int32))).bind fun M2 => k34 l0 l1 l2 l3 l4 M2
theorem T_X12_numberHere_b75 (k34 : Option Nat → Int32 → Int32 → Int32 → Int32 → gM → Option (Int32 × gM)) (r : (Int32 × gM)) (hk34 : ∀ (l0 : Option Nat) (l1 : Int32) (l2 : Int32) (l3 : Int32) (l4 : Int32) (M : gM), k34 l0 l1 l2 l3 l4 M = some r → GW 1 0 0 X_X12_numberHere 34 [(0, vr l0), (1, vi l1), (2, vi l2), (3, vi l3), (4, vi l4)] [] M (some (vi r.1), r.2)) (l0 : Option Nat) (l1 : Int32) (l2 : Int32) (l3 : Int32) (l4 : Int32) (M : gM) (h : F_X12_numberHere_b75 k34 l0 l1 l2 l3 l4 M = some r) : GW 1 0 0 X_X12_numberHere 75 [(0, vr l0), (1, vi l1), (2, vi l2), (3, vi l3), (4, vi l4)] [] M (some (vi r.1), r.2) := by
  delta F_X12_numberHere_b75 at h
  refine GW_aload_n (X := X_X12_numberHere) (pc := 75) d_X12_numberHere_75 rfl 0 rfl ?_
  refine GW_dup (X := X_X12_numberHere) (pc := 76) d_X12_numberHere_76 rfl ?_
  replace h := g_bd h
  obtain ⟨v1, hv1, h⟩ := h
  refine GW_getI (X := X_X12_numberHere) (pc := 77) f_X12_90 d_X12_numberHere_77 hv1 (Or.inl ty_12_8) ?_
  refine GW_iconst (X := X_X12_numberHere) (pc := 80) (v := 1) d_X12_numberHere_80 (by decide) ?_
  refine GW_iadd (X := X_X12_numberHere) (pc := 81) d_X12_numberHere_81 ?_
  replace h := g_bd h
  obtain ⟨M2, hM2, h⟩ := h
  refine GW_putI (X := X_X12_numberHere) (pc := 82) f_X12_90 d_X12_numberHere_82 hM2 (Or.inl fi_12_8) (Or.inl ty_12_8) ?_
  refine GW_goto (X := X_X12_numberHere) (pc := 85) 34 d_X12_numberHere_85 (by decide) ?_
  exact hk34 l0 l1 l2 l3 l4 M2 h
def F_X12_numberHere_b34 (k34 : Option Nat → Int32 → Int32 → Int32 → Int32 → gM → Option (Int32 × gM)) (l0 : Option Nat) (l1 : Int32) (l2 : Int32) (l3 : Int32) (l4 : Int32) (M : gM) : Option (Int32 × gM) :=
  (gI 12 M l0 8).bind fun v1 => (gO 12 M l0).bind fun i2 => (F_X12_isDigit (some i2) v1 M).bind fun v3 => if v3 = 0 then ((pI 12 M (some i2) 10 l4).bind fun M4 => (gI 12 M4 (some i2) 8).bind fun v5 => if (5 : Int32) < (v5 - l3) then (F_X12_numberHere_b117 (some i2) l3 M4) else ((F_X12_in (l4).toInt64 (l1).toInt64 (l2).toInt64 M4).bind fun v6 => if v6 = 0 then (F_X12_numberHere_b117 (some i2) l3 M4) else (F_X12_numberHere_b126 M4))) else ((gI 12 M (some i2) 8).bind fun v7 => if (5 : Int32) ≤ (v7 - l3) then (F_X12_numberHere_b75 k34 (some i2) l1 l2 l3 l4 M) else ((gR 12 M (some i2) 0).bind fun v8 => (gI 12 M (some i2) 8).bind fun v9 => (aI 22 M v8 v9).bind fun v10 => F_X12_numberHere_b75 k34 (some i2) l1 l2 l3 ((((10 : Int32) * l4) + v10) - (48 : Int32)) M))
set_option maxHeartbeats 1000000 in
theorem T_X12_numberHere_b34 (k34 : Option Nat → Int32 → Int32 → Int32 → Int32 → gM → Option (Int32 × gM)) (r : (Int32 × gM)) (hk34 : ∀ (l0 : Option Nat) (l1 : Int32) (l2 : Int32) (l3 : Int32) (l4 : Int32) (M : gM), k34 l0 l1 l2 l3 l4 M = some r → GW 1 0 0 X_X12_numberHere 34 [(0, vr l0), (1, vi l1), (2, vi l2), (3, vi l3), (4, vi l4)] [] M (some (vi r.1), r.2)) (l0 : Option Nat) (l1 : Int32) (l2 : Int32) (l3 : Int32) (l4 : Int32) (M : gM) (h : F_X12_numberHere_b34 k34 l0 l1 l2 l3 l4 M = some r) : GW 1 0 0 X_X12_numberHere 34 [(0, vr l0), (1, vi l1), (2, vi l2), (3, vi l3), (4, vi l4)] [] M (some (vi r.1), r.2) := by
  delta F_X12_numberHere_b34 at h
  refine GW_aload_n (X := X_X12_numberHere) (pc := 34) d_X12_numberHere_34 rfl 0 rfl ?_
  refine GW_aload_n (X := X_X12_numberHere) (pc := 35) d_X12_numberHere_35 rfl 0 rfl ?_
  replace h := g_bd h
  obtain ⟨v1, hv1, h⟩ := h
  refine GW_getI (X := X_X12_numberHere) (pc := 36) f_X12_90 d_X12_numberHere_36 hv1 (Or.inl ty_12_8) ?_
  replace h := g_bd h
  obtain ⟨i2, hi2, h⟩ := h
  obtain ⟨rfl, ki2⟩ := g_gO hi2
  replace h := g_bd h
  obtain ⟨v3, hv3, h⟩ := h
  refine GW_callV (X := X_X12_numberHere) (pc := 39) (bc0 := 0) (bs0 := 0) (r := some (vi v3)) (M2 := M) (c0 := 12) (T_X12_isDigit (some i2) v1 M v3 hv3) (Nat.le_of_ble_eq_true rfl) (Nat.le_of_ble_eq_true rfl) rfl g_cok12 ki2 yc_X12_isDigit ⟨m_1287, m_1289, m_53, m_127, m_1290⟩ d_X12_numberHere_39 rfl (st := []) rfl (Nat.le_of_ble_eq_true rfl) (Nat.le_of_ble_eq_true rfl) (Nat.le_of_ble_eq_true rfl) (st2 := [vi v3]) rfl ?_
  refine GW_if_eq (X := X_X12_numberHere) (pc := 42) 88 d_X12_numberHere_42 (by decide) (fun c => ?_) (fun c => ?_)
  · replace h := g_ip c h
    refine GW_aload_n (X := X_X12_numberHere) (pc := 88) d_X12_numberHere_88 rfl 0 rfl ?_
    refine GW_iload (X := X_X12_numberHere) (pc := 89) d_X12_numberHere_89 4 rfl ?_
    replace h := g_bd h
    obtain ⟨M4, hM4, h⟩ := h
    refine GW_putI (X := X_X12_numberHere) (pc := 91) f_X12_115 d_X12_numberHere_91 hM4 (Or.inl fi_12_10) (Or.inl ty_12_10) ?_
    refine GW_aload_n (X := X_X12_numberHere) (pc := 94) d_X12_numberHere_94 rfl 0 rfl ?_
    replace h := g_bd h
    obtain ⟨v5, hv5, h⟩ := h
    refine GW_getI (X := X_X12_numberHere) (pc := 95) f_X12_90 d_X12_numberHere_95 hv5 (Or.inl ty_12_8) ?_
    refine GW_iload_n (X := X_X12_numberHere) (pc := 98) d_X12_numberHere_98 rfl 3 rfl ?_
    refine GW_isub (X := X_X12_numberHere) (pc := 99) d_X12_numberHere_99 ?_
    refine GW_iconst (X := X_X12_numberHere) (pc := 100) (v := 5) d_X12_numberHere_100 (by decide) ?_
    refine GW_icmp_gt (X := X_X12_numberHere) (pc := 101) 117 d_X12_numberHere_101 (by decide) (fun c => ?_) (fun c => ?_)
    · replace h := g_ip c h
      refine GW_sub [0, 3] rfl ?_
      exact T_X12_numberHere_b117 r (some i2) l3 M4 h
    · replace h := g_ie c h
      refine GW_iload (X := X_X12_numberHere) (pc := 104) d_X12_numberHere_104 4 rfl ?_
      refine GW_i2l (X := X_X12_numberHere) (pc := 106) d_X12_numberHere_106 ?_
      refine GW_iload_n (X := X_X12_numberHere) (pc := 107) d_X12_numberHere_107 rfl 1 rfl ?_
      refine GW_i2l (X := X_X12_numberHere) (pc := 108) d_X12_numberHere_108 ?_
      refine GW_iload_n (X := X_X12_numberHere) (pc := 109) d_X12_numberHere_109 rfl 2 rfl ?_
      refine GW_i2l (X := X_X12_numberHere) (pc := 110) d_X12_numberHere_110 ?_
      replace h := g_bd h
      obtain ⟨v6, hv6, h⟩ := h
      refine GW_callS (X := X_X12_numberHere) (pc := 111) (bc0 := 0) (bs0 := 0) (r := some (vi v6)) (M2 := M4) (T_X12_in (l4).toInt64 (l1).toInt64 (l2).toInt64 M4 v6 hv6) (Nat.le_of_ble_eq_true rfl) (Nat.le_of_ble_eq_true rfl) yc_X12_in ⟨m_1291, m_1292, m_127, m_1293⟩ d_X12_numberHere_111 rfl (st := []) rfl (Nat.le_of_ble_eq_true rfl) (Nat.le_of_ble_eq_true rfl) (Nat.le_of_ble_eq_true rfl) (st2 := [vi v6]) rfl ?_
      refine GW_if_ne (X := X_X12_numberHere) (pc := 114) 126 d_X12_numberHere_114 (by decide) (fun c => ?_) (fun c => ?_)
      · replace h := g_ie c h
        refine GW_sub [] rfl ?_
        exact T_X12_numberHere_b126 r M4 h
      · replace h := g_ip c h
        refine GW_sub [0, 3] rfl ?_
        exact T_X12_numberHere_b117 r (some i2) l3 M4 h
  · replace h := g_ie c h
    refine GW_aload_n (X := X_X12_numberHere) (pc := 45) d_X12_numberHere_45 rfl 0 rfl ?_
    replace h := g_bd h
    obtain ⟨v7, hv7, h⟩ := h
    refine GW_getI (X := X_X12_numberHere) (pc := 46) f_X12_90 d_X12_numberHere_46 hv7 (Or.inl ty_12_8) ?_
    refine GW_iload_n (X := X_X12_numberHere) (pc := 49) d_X12_numberHere_49 rfl 3 rfl ?_
    refine GW_isub (X := X_X12_numberHere) (pc := 50) d_X12_numberHere_50 ?_
    refine GW_iconst (X := X_X12_numberHere) (pc := 51) (v := 5) d_X12_numberHere_51 (by decide) ?_
    refine GW_icmp_ge (X := X_X12_numberHere) (pc := 52) 75 d_X12_numberHere_52 (by decide) (fun c => ?_) (fun c => ?_)
    · replace h := g_ip c h
      exact T_X12_numberHere_b75 k34 r hk34 (some i2) l1 l2 l3 l4 M h
    · replace h := g_ie c h
      refine GW_bipush (X := X_X12_numberHere) (pc := 55) (v := 10) d_X12_numberHere_55 (by decide) ?_
      refine GW_iload (X := X_X12_numberHere) (pc := 57) d_X12_numberHere_57 4 rfl ?_
      refine GW_imul (X := X_X12_numberHere) (pc := 59) d_X12_numberHere_59 ?_
      refine GW_aload_n (X := X_X12_numberHere) (pc := 60) d_X12_numberHere_60 rfl 0 rfl ?_
      replace h := g_bd h
      obtain ⟨v8, hv8, h⟩ := h
      refine GW_getR (X := X_X12_numberHere) (pc := 61) f_X12_7 d_X12_numberHere_61 hv8 (Or.inr ⟨_, ty_12_0⟩) ?_
      refine GW_aload_n (X := X_X12_numberHere) (pc := 64) d_X12_numberHere_64 rfl 0 rfl ?_
      replace h := g_bd h
      obtain ⟨v9, hv9, h⟩ := h
      refine GW_getI (X := X_X12_numberHere) (pc := 65) f_X12_90 d_X12_numberHere_65 hv9 (Or.inl ty_12_8) ?_
      replace h := g_bd h
      obtain ⟨v10, hv10, h⟩ := h
      refine GW_bald (X := X_X12_numberHere) (pc := 68) d_X12_numberHere_68 hv10 ?_
      refine GW_iadd (X := X_X12_numberHere) (pc := 69) d_X12_numberHere_69 ?_
      refine GW_bipush (X := X_X12_numberHere) (pc := 70) (v := 48) d_X12_numberHere_70 (by decide) ?_
      refine GW_isub (X := X_X12_numberHere) (pc := 72) d_X12_numberHere_72 ?_
      refine GW_istore (X := X_X12_numberHere) (pc := 73) d_X12_numberHere_73 (Nat.le_of_ble_eq_true rfl) (lv2 := [(4, vi ((((10 : Int32) * l4) + v10) - (48 : Int32))), (0, vr (some i2)), (1, vi l1), (2, vi l2), (3, vi l3)]) rfl ?_
      refine GW_sub [1, 2, 3, 4, 0] rfl ?_
      exact T_X12_numberHere_b75 k34 r hk34 (some i2) l1 l2 l3 ((((10 : Int32) * l4) + v10) - (48 : Int32)) M h
def F_X12_numberHere_L34 : Nat → Option Nat → Int32 → Int32 → Int32 → Int32 → gM → Option (Int32 × gM)
  | 0 => fun _ _ _ _ _ _ => none
  | n + 1 => F_X12_numberHere_b34 (F_X12_numberHere_L34 n)
theorem T_X12_numberHere_L34 (r : (Int32 × gM)) : ∀ (n : Nat) (l0 : Option Nat) (l1 : Int32) (l2 : Int32) (l3 : Int32) (l4 : Int32) (M : gM), F_X12_numberHere_L34 n l0 l1 l2 l3 l4 M = some r → GW 1 0 0 X_X12_numberHere 34 [(0, vr l0), (1, vi l1), (2, vi l2), (3, vi l3), (4, vi l4)] [] M (some (vi r.1), r.2) := by
  intro n
  induction n with
  | zero => intro l0 l1 l2 l3 l4 M h; exact g_no h
  | succ n ih => intro l0 l1 l2 l3 l4 M h; exact T_X12_numberHere_b34 (F_X12_numberHere_L34 n) r ih l0 l1 l2 l3 l4 M h
def F_X12_numberHere_b0 (l0 : Option Nat) (l1 : Int32) (l2 : Int32) (M : gM) : Option (Int32 × gM) :=
  (gO 12 M l0).bind fun i1 => (F_X12_see (some i1) M).bind fun (v2, M3) => (gI 12 M3 (some i1) 8).bind fun v4 => (gC 12 M3 i1).bind fun _ => (F_X12_isDigit (some i1) v4 M3).bind fun v6 => if v6 = 0 then ((gI 12 M3 (some i1) 8).bind fun v8 => (F_X12_fails (some i1) (0 : Int32) v8 M3).bind fun (v9, M10) => if v9 = 0 ∨ v9 = 1 then some (v9, M10) else none) else ((gI 12 M3 (some i1) 8).bind fun v7 => F_X12_numberHere_L34 g_fuel (some i1) l1 l2 v7 (0 : Int32) M3)
set_option maxHeartbeats 1000000 in
theorem T_X12_numberHere_b0 (r : (Int32 × gM)) (l0 : Option Nat) (l1 : Int32) (l2 : Int32) (M : gM) (h : F_X12_numberHere_b0 l0 l1 l2 M = some r) : GW 1 0 0 X_X12_numberHere 0 [(0, vr l0), (1, vi l1), (2, vi l2)] [] M (some (vi r.1), r.2) := by
  delta F_X12_numberHere_b0 at h
  refine GW_aload_n (X := X_X12_numberHere) (pc := 0) d_X12_numberHere_0 rfl 0 rfl ?_
  replace h := g_bd h
  obtain ⟨i1, hi1, h⟩ := h
  obtain ⟨rfl, ki1⟩ := g_gO hi1
  replace h := g_bd h
  obtain ⟨⟨v2, M3⟩, hv2, h⟩ := h
  dsimp only at h
  refine GW_callV (X := X_X12_numberHere) (pc := 1) (bc0 := 0) (bs0 := 0) (r := some (vi v2)) (M2 := M3) (c0 := 12) (T_X12_see (some i1) M (v2, M3) hv2) (Nat.le_of_ble_eq_true rfl) (Nat.le_of_ble_eq_true rfl) rfl g_cok12 ki1 yc_X12_see ⟨m_1239, m_1241, m_43, m_127, m_1242⟩ d_X12_numberHere_1 rfl (st := []) rfl (Nat.le_of_ble_eq_true rfl) (Nat.le_of_ble_eq_true rfl) (Nat.le_of_ble_eq_true rfl) (st2 := [vi v2]) rfl ?_
  refine GW_pop (X := X_X12_numberHere) (pc := 4) d_X12_numberHere_4 rfl ?_
  refine GW_aload_n (X := X_X12_numberHere) (pc := 5) d_X12_numberHere_5 rfl 0 rfl ?_
  refine GW_aload_n (X := X_X12_numberHere) (pc := 6) d_X12_numberHere_6 rfl 0 rfl ?_
  replace h := g_bd h
  obtain ⟨v4, hv4, h⟩ := h
  refine GW_getI (X := X_X12_numberHere) (pc := 7) f_X12_90 d_X12_numberHere_7 hv4 (Or.inl ty_12_8) ?_
  replace h := g_bd h
  obtain ⟨_, kk5, h⟩ := h
  replace kk5 := g_gC kk5
  replace h := g_bd h
  obtain ⟨v6, hv6, h⟩ := h
  refine GW_callV (X := X_X12_numberHere) (pc := 10) (bc0 := 0) (bs0 := 0) (r := some (vi v6)) (M2 := M3) (c0 := 12) (T_X12_isDigit (some i1) v4 M3 v6 hv6) (Nat.le_of_ble_eq_true rfl) (Nat.le_of_ble_eq_true rfl) rfl g_cok12 kk5 yc_X12_isDigit ⟨m_1287, m_1289, m_53, m_127, m_1290⟩ d_X12_numberHere_10 rfl (st := []) rfl (Nat.le_of_ble_eq_true rfl) (Nat.le_of_ble_eq_true rfl) (Nat.le_of_ble_eq_true rfl) (st2 := [vi v6]) rfl ?_
  refine GW_if_ne (X := X_X12_numberHere) (pc := 13) 26 d_X12_numberHere_13 (by decide) (fun c => ?_) (fun c => ?_)
  · replace h := g_ie c h
    refine GW_aload_n (X := X_X12_numberHere) (pc := 26) d_X12_numberHere_26 rfl 0 rfl ?_
    replace h := g_bd h
    obtain ⟨v7, hv7, h⟩ := h
    refine GW_getI (X := X_X12_numberHere) (pc := 27) f_X12_90 d_X12_numberHere_27 hv7 (Or.inl ty_12_8) ?_
    refine GW_istore_n (X := X_X12_numberHere) (pc := 30) d_X12_numberHere_30 rfl (Nat.le_of_ble_eq_true rfl) (lv2 := [(3, vi v7), (0, vr (some i1)), (1, vi l1), (2, vi l2)]) rfl ?_
    refine GW_iconst (X := X_X12_numberHere) (pc := 31) (v := 0) d_X12_numberHere_31 (by decide) ?_
    refine GW_istore (X := X_X12_numberHere) (pc := 32) d_X12_numberHere_32 (Nat.le_of_ble_eq_true rfl) (lv2 := [(4, vi (0 : Int32)), (3, vi v7), (0, vr (some i1)), (1, vi l1), (2, vi l2)]) rfl ?_
    refine GW_sub [2, 3, 4, 1, 0] rfl ?_
    exact T_X12_numberHere_L34 r g_fuel (some i1) l1 l2 v7 (0 : Int32) M3 h
  · replace h := g_ip c h
    refine GW_aload_n (X := X_X12_numberHere) (pc := 16) d_X12_numberHere_16 rfl 0 rfl ?_
    refine GW_iconst (X := X_X12_numberHere) (pc := 17) (v := 0) d_X12_numberHere_17 (by decide) ?_
    refine GW_aload_n (X := X_X12_numberHere) (pc := 18) d_X12_numberHere_18 rfl 0 rfl ?_
    replace h := g_bd h
    obtain ⟨v8, hv8, h⟩ := h
    refine GW_getI (X := X_X12_numberHere) (pc := 19) f_X12_90 d_X12_numberHere_19 hv8 (Or.inl ty_12_8) ?_
    replace h := g_bd h
    obtain ⟨⟨v9, M10⟩, hv9, h⟩ := h
    dsimp only at h
    refine GW_callV (X := X_X12_numberHere) (pc := 22) (bc0 := 0) (bs0 := 0) (r := some (vi v9)) (M2 := M10) (c0 := 12) (T_X12_fails (some i1) (0 : Int32) v8 M3 (v9, M10) hv9) (Nat.le_of_ble_eq_true rfl) (Nat.le_of_ble_eq_true rfl) rfl g_cok12 kk5 yc_X12_fails ⟨m_1263, m_1265, m_47, m_127, m_1266⟩ d_X12_numberHere_22 rfl (st := []) rfl (Nat.le_of_ble_eq_true rfl) (Nat.le_of_ble_eq_true rfl) (Nat.le_of_ble_eq_true rfl) (st2 := [vi v9]) rfl ?_
    replace h := g_if2 h
    obtain ⟨hz11, h⟩ := h
    replace h := Option.some.inj h
    subst h
    exact GW_ret (X := X_X12_numberHere) (pc := 25) d_X12_numberHere_25 rfl (g_zok hz11)
def F_X12_numberHere (l0 : Option Nat) (l1 : Int32) (l2 : Int32) (M : gM) : Option (Int32 × gM) := F_X12_numberHere_b0 l0 l1 l2 M
theorem T_X12_numberHere (l0 : Option Nat) (l1 : Int32) (l2 : Int32) (M : gM) (r : (Int32 × gM)) (h : F_X12_numberHere l0 l1 l2 M = some r) : g_Met 1 0 0 yX12_numberHere X_X12_numberHere [vr l0, vi l1, vi l2] M (some (vi r.1), r.2) :=
  g_Met_of pn_RX12 rfl (Nat.le_of_ble_eq_true rfl) (fun h => by cases h) (GW_sub [0, 1, 2] rfl (T_X12_numberHere_b0 r l0 l1 l2 M h))
/-! ForgetHeirsModel.cellHere(III)Z -/
theorem d_X12_cellHere_0 : decode cX12_cellHere 0 = .ok (.aload_n 0, 1) := by decide +kernel
theorem d_X12_cellHere_1 : decode cX12_cellHere 1 = .ok (.iload_n 2, 1) := by decide +kernel
theorem d_X12_cellHere_2 : decode cX12_cellHere 2 = .ok (.iload_n 3, 1) := by decide +kernel
theorem d_X12_cellHere_3 : decode cX12_cellHere 3 = .ok (.invokevirtual 171, 3) := by decide +kernel
theorem d_X12_cellHere_6 : decode cX12_cellHere 6 = .ok (.ifCond .ne 5, 3) := by decide +kernel
theorem d_X12_cellHere_9 : decode cX12_cellHere 9 = .ok (.iconst 0, 1) := by decide +kernel
theorem d_X12_cellHere_10 : decode cX12_cellHere 10 = .ok (.ireturn, 1) := by decide +kernel
theorem d_X12_cellHere_11 : decode cX12_cellHere 11 = .ok (.aload_n 0, 1) := by decide +kernel
theorem d_X12_cellHere_12 : decode cX12_cellHere 12 = .ok (.getfield 26, 3) := by decide +kernel
theorem d_X12_cellHere_15 : decode cX12_cellHere 15 = .ok (.iload_n 1, 1) := by decide +kernel
theorem d_X12_cellHere_16 : decode cX12_cellHere 16 = .ok (.aload_n 0, 1) := by decide +kernel
theorem d_X12_cellHere_17 : decode cX12_cellHere 17 = .ok (.getfield 115, 3) := by decide +kernel
theorem d_X12_cellHere_20 : decode cX12_cellHere 20 = .ok (.iastore, 1) := by decide +kernel
theorem d_X12_cellHere_21 : decode cX12_cellHere 21 = .ok (.iconst 1, 1) := by decide +kernel
theorem d_X12_cellHere_22 : decode cX12_cellHere 22 = .ok (.ireturn, 1) := by decide +kernel
abbrev X_X12_cellHere : gX := (RX12, cX12_cellHere, 4, (some .boolean), false)
def F_X12_cellHere_b0 (l0 : Option Nat) (l1 : Int32) (l2 : Int32) (l3 : Int32) (M : gM) : Option (Int32 × gM) :=
  (gO 12 M l0).bind fun i1 => (F_X12_numberHere (some i1) l2 l3 M).bind fun (v2, M3) => if v2 = 0 then (some ((0 : Int32), M3)) else ((gR 12 M3 (some i1) 7).bind fun v4 => (gI 12 M3 (some i1) 10).bind fun v5 => (sI M3 v4 l1 v5).bind fun M6 => some ((1 : Int32), M6))
theorem T_X12_cellHere_b0 (r : (Int32 × gM)) (l0 : Option Nat) (l1 : Int32) (l2 : Int32) (l3 : Int32) (M : gM) (h : F_X12_cellHere_b0 l0 l1 l2 l3 M = some r) : GW 2 0 0 X_X12_cellHere 0 [(0, vr l0), (1, vi l1), (2, vi l2), (3, vi l3)] [] M (some (vi r.1), r.2) := by
  delta F_X12_cellHere_b0 at h
  refine GW_aload_n (X := X_X12_cellHere) (pc := 0) d_X12_cellHere_0 rfl 0 rfl ?_
  refine GW_iload_n (X := X_X12_cellHere) (pc := 1) d_X12_cellHere_1 rfl 2 rfl ?_
  refine GW_iload_n (X := X_X12_cellHere) (pc := 2) d_X12_cellHere_2 rfl 3 rfl ?_
  replace h := g_bd h
  obtain ⟨i1, hi1, h⟩ := h
  obtain ⟨rfl, ki1⟩ := g_gO hi1
  replace h := g_bd h
  obtain ⟨⟨v2, M3⟩, hv2, h⟩ := h
  dsimp only at h
  refine GW_callV (X := X_X12_cellHere) (pc := 3) (bc0 := 0) (bs0 := 0) (r := some (vi v2)) (M2 := M3) (c0 := 12) (T_X12_numberHere (some i1) l2 l3 M (v2, M3) hv2) (Nat.le_of_ble_eq_true rfl) (Nat.le_of_ble_eq_true rfl) rfl g_cok12 ki1 yc_X12_numberHere ⟨m_1283, m_1285, m_52, m_127, m_1286⟩ d_X12_cellHere_3 rfl (st := []) rfl (Nat.le_of_ble_eq_true rfl) (Nat.le_of_ble_eq_true rfl) (Nat.le_of_ble_eq_true rfl) (st2 := [vi v2]) rfl ?_
  refine GW_if_ne (X := X_X12_cellHere) (pc := 6) 11 d_X12_cellHere_6 (by decide) (fun c => ?_) (fun c => ?_)
  · replace h := g_ie c h
    refine GW_aload_n (X := X_X12_cellHere) (pc := 11) d_X12_cellHere_11 rfl 0 rfl ?_
    replace h := g_bd h
    obtain ⟨v4, hv4, h⟩ := h
    refine GW_getR (X := X_X12_cellHere) (pc := 12) f_X12_26 d_X12_cellHere_12 hv4 (Or.inr ⟨_, ty_12_7⟩) ?_
    refine GW_iload_n (X := X_X12_cellHere) (pc := 15) d_X12_cellHere_15 rfl 1 rfl ?_
    refine GW_aload_n (X := X_X12_cellHere) (pc := 16) d_X12_cellHere_16 rfl 0 rfl ?_
    replace h := g_bd h
    obtain ⟨v5, hv5, h⟩ := h
    refine GW_getI (X := X_X12_cellHere) (pc := 17) f_X12_115 d_X12_cellHere_17 hv5 (Or.inl ty_12_10) ?_
    replace h := g_bd h
    obtain ⟨M6, hM6, h⟩ := h
    refine GW_iast (X := X_X12_cellHere) (pc := 20) d_X12_cellHere_20 hM6 ?_
    refine GW_iconst (X := X_X12_cellHere) (pc := 21) (v := 1) d_X12_cellHere_21 (by decide) ?_
    replace h := Option.some.inj h
    subst h
    exact GW_ret (X := X_X12_cellHere) (pc := 22) d_X12_cellHere_22 rfl g_rok1
  · replace h := g_ip c h
    refine GW_iconst (X := X_X12_cellHere) (pc := 9) (v := 0) d_X12_cellHere_9 (by decide) ?_
    replace h := Option.some.inj h
    subst h
    exact GW_ret (X := X_X12_cellHere) (pc := 10) d_X12_cellHere_10 rfl g_rok0
def F_X12_cellHere (l0 : Option Nat) (l1 : Int32) (l2 : Int32) (l3 : Int32) (M : gM) : Option (Int32 × gM) := F_X12_cellHere_b0 l0 l1 l2 l3 M
theorem T_X12_cellHere (l0 : Option Nat) (l1 : Int32) (l2 : Int32) (l3 : Int32) (M : gM) (r : (Int32 × gM)) (h : F_X12_cellHere l0 l1 l2 l3 M = some r) : g_Met 2 0 0 yX12_cellHere X_X12_cellHere [vr l0, vi l1, vi l2, vi l3] M (some (vi r.1), r.2) :=
  g_Met_of pn_RX12 rfl (Nat.le_of_ble_eq_true rfl) (fun h => by cases h) (GW_sub [0, 1, 2, 3] rfl (T_X12_cellHere_b0 r l0 l1 l2 l3 M h))
/-! ForgetHeirsModel.isHouseHere(I)Z -/
theorem d_X12_isHouseHere_0 : decode cX12_isHouseHere 0 = .ok (.aload_n 0, 1) := by decide +kernel
theorem d_X12_isHouseHere_1 : decode cX12_isHouseHere 1 = .ok (.getfield 26, 3) := by decide +kernel
theorem d_X12_isHouseHere_4 : decode cX12_isHouseHere 4 = .ok (.iconst 0, 1) := by decide +kernel
theorem d_X12_isHouseHere_5 : decode cX12_isHouseHere 5 = .ok (.iaload, 1) := by decide +kernel
theorem d_X12_isHouseHere_6 : decode cX12_isHouseHere 6 = .ok (.ifCond .le 10, 3) := by decide +kernel
theorem d_X12_isHouseHere_9 : decode cX12_isHouseHere 9 = .ok (.aload_n 0, 1) := by decide +kernel
theorem d_X12_isHouseHere_10 : decode cX12_isHouseHere 10 = .ok (.iconst 4, 1) := by decide +kernel
theorem d_X12_isHouseHere_11 : decode cX12_isHouseHere 11 = .ok (.iload_n 1, 1) := by decide +kernel
theorem d_X12_isHouseHere_12 : decode cX12_isHouseHere 12 = .ok (.invokevirtual 111, 3) := by decide +kernel
theorem d_X12_isHouseHere_15 : decode cX12_isHouseHere 15 = .ok (.ireturn, 1) := by decide +kernel
theorem d_X12_isHouseHere_16 : decode cX12_isHouseHere 16 = .ok (.aload_n 0, 1) := by decide +kernel
theorem d_X12_isHouseHere_17 : decode cX12_isHouseHere 17 = .ok (.invokevirtual 105, 3) := by decide +kernel
theorem d_X12_isHouseHere_20 : decode cX12_isHouseHere 20 = .ok (.aload_n 0, 1) := by decide +kernel
theorem d_X12_isHouseHere_21 : decode cX12_isHouseHere 21 = .ok (.iconst 5, 1) := by decide +kernel
theorem d_X12_isHouseHere_22 : decode cX12_isHouseHere 22 = .ok (.iconst 1, 1) := by decide +kernel
theorem d_X12_isHouseHere_23 : decode cX12_isHouseHere 23 = .ok (.bipush 20, 2) := by decide +kernel
theorem d_X12_isHouseHere_25 : decode cX12_isHouseHere 25 = .ok (.invokevirtual 222, 3) := by decide +kernel
theorem d_X12_isHouseHere_28 : decode cX12_isHouseHere 28 = .ok (.ifCond .ne 5, 3) := by decide +kernel
theorem d_X12_isHouseHere_31 : decode cX12_isHouseHere 31 = .ok (.iconst 0, 1) := by decide +kernel
theorem d_X12_isHouseHere_32 : decode cX12_isHouseHere 32 = .ok (.ireturn, 1) := by decide +kernel
theorem d_X12_isHouseHere_33 : decode cX12_isHouseHere 33 = .ok (.aload_n 0, 1) := by decide +kernel
theorem d_X12_isHouseHere_34 : decode cX12_isHouseHere 34 = .ok (.getfield 26, 3) := by decide +kernel
theorem d_X12_isHouseHere_37 : decode cX12_isHouseHere 37 = .ok (.iconst 0, 1) := by decide +kernel
theorem d_X12_isHouseHere_38 : decode cX12_isHouseHere 38 = .ok (.iconst 1, 1) := by decide +kernel
theorem d_X12_isHouseHere_39 : decode cX12_isHouseHere 39 = .ok (.iastore, 1) := by decide +kernel
theorem d_X12_isHouseHere_40 : decode cX12_isHouseHere 40 = .ok (.iconst 1, 1) := by decide +kernel
theorem d_X12_isHouseHere_41 : decode cX12_isHouseHere 41 = .ok (.ireturn, 1) := by decide +kernel
abbrev X_X12_isHouseHere : gX := (RX12, cX12_isHouseHere, 2, (some .boolean), false)
def F_X12_isHouseHere_b0 (l0 : Option Nat) (l1 : Int32) (M : gM) : Option (Int32 × gM) :=
  (gR 12 M l0 7).bind fun v1 => (aI 20 M v1 (0 : Int32)).bind fun v2 => if v2 ≤ 0 then ((gO 12 M l0).bind fun i3 => (F_X12_passWord (some i3) M).bind fun M4 => (gC 12 M4 i3).bind fun _ => (F_X12_cellHere (some i3) (5 : Int32) (1 : Int32) (20 : Int32) M4).bind fun (v6, M7) => if v6 = 0 then (some ((0 : Int32), M7)) else ((gR 12 M7 (some i3) 7).bind fun v8 => (sI M7 v8 (0 : Int32) (1 : Int32)).bind fun M9 => some ((1 : Int32), M9))) else ((gO 12 M l0).bind fun i10 => (F_X12_fails (some i10) (4 : Int32) l1 M).bind fun (v11, M12) => if v11 = 0 ∨ v11 = 1 then some (v11, M12) else none)
set_option maxHeartbeats 1000000 in
theorem T_X12_isHouseHere_b0 (r : (Int32 × gM)) (l0 : Option Nat) (l1 : Int32) (M : gM) (h : F_X12_isHouseHere_b0 l0 l1 M = some r) : GW 3 0 0 X_X12_isHouseHere 0 [(0, vr l0), (1, vi l1)] [] M (some (vi r.1), r.2) := by
  delta F_X12_isHouseHere_b0 at h
  refine GW_aload_n (X := X_X12_isHouseHere) (pc := 0) d_X12_isHouseHere_0 rfl 0 rfl ?_
  replace h := g_bd h
  obtain ⟨v1, hv1, h⟩ := h
  refine GW_getR (X := X_X12_isHouseHere) (pc := 1) f_X12_26 d_X12_isHouseHere_1 hv1 (Or.inr ⟨_, ty_12_7⟩) ?_
  refine GW_iconst (X := X_X12_isHouseHere) (pc := 4) (v := 0) d_X12_isHouseHere_4 (by decide) ?_
  replace h := g_bd h
  obtain ⟨v2, hv2, h⟩ := h
  refine GW_iald (X := X_X12_isHouseHere) (pc := 5) d_X12_isHouseHere_5 hv2 ?_
  refine GW_if_le (X := X_X12_isHouseHere) (pc := 6) 16 d_X12_isHouseHere_6 (by decide) (fun c => ?_) (fun c => ?_)
  · replace h := g_ip c h
    refine GW_aload_n (X := X_X12_isHouseHere) (pc := 16) d_X12_isHouseHere_16 rfl 0 rfl ?_
    replace h := g_bd h
    obtain ⟨i3, hi3, h⟩ := h
    obtain ⟨rfl, ki3⟩ := g_gO hi3
    replace h := g_bd h
    obtain ⟨M4, hM4, h⟩ := h
    refine GW_callV (X := X_X12_isHouseHere) (pc := 17) (bc0 := 0) (bs0 := 0) (r := none) (M2 := M4) (c0 := 12) (T_X12_passWord (some i3) M M4 hM4) (Nat.le_of_ble_eq_true rfl) (Nat.le_of_ble_eq_true rfl) rfl g_cok12 ki3 yc_X12_passWord ⟨m_1275, m_1277, m_50, m_127, m_1278⟩ d_X12_isHouseHere_17 rfl (st := []) rfl (Nat.le_of_ble_eq_true rfl) (Nat.le_of_ble_eq_true rfl) (Nat.le_of_ble_eq_true rfl) (st2 := []) rfl ?_
    refine GW_aload_n (X := X_X12_isHouseHere) (pc := 20) d_X12_isHouseHere_20 rfl 0 rfl ?_
    refine GW_iconst (X := X_X12_isHouseHere) (pc := 21) (v := 5) d_X12_isHouseHere_21 (by decide) ?_
    refine GW_iconst (X := X_X12_isHouseHere) (pc := 22) (v := 1) d_X12_isHouseHere_22 (by decide) ?_
    refine GW_bipush (X := X_X12_isHouseHere) (pc := 23) (v := 20) d_X12_isHouseHere_23 (by decide) ?_
    replace h := g_bd h
    obtain ⟨_, kk5, h⟩ := h
    replace kk5 := g_gC kk5
    replace h := g_bd h
    obtain ⟨⟨v6, M7⟩, hv6, h⟩ := h
    dsimp only at h
    refine GW_callV (X := X_X12_isHouseHere) (pc := 25) (bc0 := 0) (bs0 := 0) (r := some (vi v6)) (M2 := M7) (c0 := 12) (T_X12_cellHere (some i3) (5 : Int32) (1 : Int32) (20 : Int32) M4 (v6, M7) hv6) (Nat.le_of_ble_eq_true rfl) (Nat.le_of_ble_eq_true rfl) rfl g_cok12 kk5 yc_X12_cellHere ⟨m_1279, m_1281, m_51, m_127, m_1282⟩ d_X12_isHouseHere_25 rfl (st := []) rfl (Nat.le_of_ble_eq_true rfl) (Nat.le_of_ble_eq_true rfl) (Nat.le_of_ble_eq_true rfl) (st2 := [vi v6]) rfl ?_
    refine GW_if_ne (X := X_X12_isHouseHere) (pc := 28) 33 d_X12_isHouseHere_28 (by decide) (fun c => ?_) (fun c => ?_)
    · replace h := g_ie c h
      refine GW_aload_n (X := X_X12_isHouseHere) (pc := 33) d_X12_isHouseHere_33 rfl 0 rfl ?_
      replace h := g_bd h
      obtain ⟨v8, hv8, h⟩ := h
      refine GW_getR (X := X_X12_isHouseHere) (pc := 34) f_X12_26 d_X12_isHouseHere_34 hv8 (Or.inr ⟨_, ty_12_7⟩) ?_
      refine GW_iconst (X := X_X12_isHouseHere) (pc := 37) (v := 0) d_X12_isHouseHere_37 (by decide) ?_
      refine GW_iconst (X := X_X12_isHouseHere) (pc := 38) (v := 1) d_X12_isHouseHere_38 (by decide) ?_
      replace h := g_bd h
      obtain ⟨M9, hM9, h⟩ := h
      refine GW_iast (X := X_X12_isHouseHere) (pc := 39) d_X12_isHouseHere_39 hM9 ?_
      refine GW_iconst (X := X_X12_isHouseHere) (pc := 40) (v := 1) d_X12_isHouseHere_40 (by decide) ?_
      replace h := Option.some.inj h
      subst h
      exact GW_ret (X := X_X12_isHouseHere) (pc := 41) d_X12_isHouseHere_41 rfl g_rok1
    · replace h := g_ip c h
      refine GW_iconst (X := X_X12_isHouseHere) (pc := 31) (v := 0) d_X12_isHouseHere_31 (by decide) ?_
      replace h := Option.some.inj h
      subst h
      exact GW_ret (X := X_X12_isHouseHere) (pc := 32) d_X12_isHouseHere_32 rfl g_rok0
  · replace h := g_ie c h
    refine GW_aload_n (X := X_X12_isHouseHere) (pc := 9) d_X12_isHouseHere_9 rfl 0 rfl ?_
    refine GW_iconst (X := X_X12_isHouseHere) (pc := 10) (v := 4) d_X12_isHouseHere_10 (by decide) ?_
    refine GW_iload_n (X := X_X12_isHouseHere) (pc := 11) d_X12_isHouseHere_11 rfl 1 rfl ?_
    replace h := g_bd h
    obtain ⟨i10, hi10, h⟩ := h
    obtain ⟨rfl, ki10⟩ := g_gO hi10
    replace h := g_bd h
    obtain ⟨⟨v11, M12⟩, hv11, h⟩ := h
    dsimp only at h
    refine GW_callV (X := X_X12_isHouseHere) (pc := 12) (bc0 := 0) (bs0 := 0) (r := some (vi v11)) (M2 := M12) (c0 := 12) (T_X12_fails (some i10) (4 : Int32) l1 M (v11, M12) hv11) (Nat.le_of_ble_eq_true rfl) (Nat.le_of_ble_eq_true rfl) rfl g_cok12 ki10 yc_X12_fails ⟨m_1263, m_1265, m_47, m_127, m_1266⟩ d_X12_isHouseHere_12 rfl (st := []) rfl (Nat.le_of_ble_eq_true rfl) (Nat.le_of_ble_eq_true rfl) (Nat.le_of_ble_eq_true rfl) (st2 := [vi v11]) rfl ?_
    replace h := g_if2 h
    obtain ⟨hz13, h⟩ := h
    replace h := Option.some.inj h
    subst h
    exact GW_ret (X := X_X12_isHouseHere) (pc := 15) d_X12_isHouseHere_15 rfl (g_zok hz13)
def F_X12_isHouseHere (l0 : Option Nat) (l1 : Int32) (M : gM) : Option (Int32 × gM) := F_X12_isHouseHere_b0 l0 l1 M
theorem T_X12_isHouseHere (l0 : Option Nat) (l1 : Int32) (M : gM) (r : (Int32 × gM)) (h : F_X12_isHouseHere l0 l1 M = some r) : g_Met 3 0 0 yX12_isHouseHere X_X12_isHouseHere [vr l0, vi l1] M (some (vi r.1), r.2) :=
  g_Met_of pn_RX12 rfl (Nat.le_of_ble_eq_true rfl) (fun h => by cases h) (GW_sub [0, 1] rfl (T_X12_isHouseHere_b0 r l0 l1 M h))
/-! ForgetHeirsModel.isThingHere(I)Z -/
theorem d_X12_isThingHere_0 : decode cX12_isThingHere 0 = .ok (.aload_n 0, 1) := by decide +kernel
theorem d_X12_isThingHere_1 : decode cX12_isThingHere 1 = .ok (.getfield 26, 3) := by decide +kernel
theorem d_X12_isThingHere_4 : decode cX12_isThingHere 4 = .ok (.iconst 1, 1) := by decide +kernel
theorem d_X12_isThingHere_5 : decode cX12_isThingHere 5 = .ok (.iaload, 1) := by decide +kernel
theorem d_X12_isThingHere_6 : decode cX12_isThingHere 6 = .ok (.bipush 7, 2) := by decide +kernel
theorem d_X12_isThingHere_8 : decode cX12_isThingHere 8 = .ok (.if_icmp .ne 10, 3) := by decide +kernel
theorem d_X12_isThingHere_11 : decode cX12_isThingHere 11 = .ok (.aload_n 0, 1) := by decide +kernel
theorem d_X12_isThingHere_12 : decode cX12_isThingHere 12 = .ok (.iconst 4, 1) := by decide +kernel
theorem d_X12_isThingHere_13 : decode cX12_isThingHere 13 = .ok (.iload_n 1, 1) := by decide +kernel
theorem d_X12_isThingHere_14 : decode cX12_isThingHere 14 = .ok (.invokevirtual 111, 3) := by decide +kernel
theorem d_X12_isThingHere_17 : decode cX12_isThingHere 17 = .ok (.ireturn, 1) := by decide +kernel
theorem d_X12_isThingHere_18 : decode cX12_isThingHere 18 = .ok (.aload_n 0, 1) := by decide +kernel
theorem d_X12_isThingHere_19 : decode cX12_isThingHere 19 = .ok (.invokevirtual 105, 3) := by decide +kernel
theorem d_X12_isThingHere_22 : decode cX12_isThingHere 22 = .ok (.bipush 10, 2) := by decide +kernel
theorem d_X12_isThingHere_24 : decode cX12_isThingHere 24 = .ok (.iconst 4, 1) := by decide +kernel
theorem d_X12_isThingHere_25 : decode cX12_isThingHere 25 = .ok (.aload_n 0, 1) := by decide +kernel
theorem d_X12_isThingHere_26 : decode cX12_isThingHere 26 = .ok (.getfield 26, 3) := by decide +kernel
theorem d_X12_isThingHere_29 : decode cX12_isThingHere 29 = .ok (.iconst 1, 1) := by decide +kernel
theorem d_X12_isThingHere_30 : decode cX12_isThingHere 30 = .ok (.iaload, 1) := by decide +kernel
theorem d_X12_isThingHere_31 : decode cX12_isThingHere 31 = .ok (.imul, 1) := by decide +kernel
theorem d_X12_isThingHere_32 : decode cX12_isThingHere 32 = .ok (.iadd, 1) := by decide +kernel
theorem d_X12_isThingHere_33 : decode cX12_isThingHere 33 = .ok (.istore_n 2, 1) := by decide +kernel
theorem d_X12_isThingHere_34 : decode cX12_isThingHere 34 = .ok (.aload_n 0, 1) := by decide +kernel
theorem d_X12_isThingHere_35 : decode cX12_isThingHere 35 = .ok (.iload_n 2, 1) := by decide +kernel
theorem d_X12_isThingHere_36 : decode cX12_isThingHere 36 = .ok (.iconst 0, 1) := by decide +kernel
theorem d_X12_isThingHere_37 : decode cX12_isThingHere 37 = .ok (.bipush 9, 2) := by decide +kernel
theorem d_X12_isThingHere_39 : decode cX12_isThingHere 39 = .ok (.invokevirtual 222, 3) := by decide +kernel
theorem d_X12_isThingHere_42 : decode cX12_isThingHere 42 = .ok (.ifCond .eq 29, 3) := by decide +kernel
theorem d_X12_isThingHere_45 : decode cX12_isThingHere 45 = .ok (.aload_n 0, 1) := by decide +kernel
theorem d_X12_isThingHere_46 : decode cX12_isThingHere 46 = .ok (.iload_n 2, 1) := by decide +kernel
theorem d_X12_isThingHere_47 : decode cX12_isThingHere 47 = .ok (.iconst 1, 1) := by decide +kernel
theorem d_X12_isThingHere_48 : decode cX12_isThingHere 48 = .ok (.iadd, 1) := by decide +kernel
theorem d_X12_isThingHere_49 : decode cX12_isThingHere 49 = .ok (.iconst 0, 1) := by decide +kernel
theorem d_X12_isThingHere_50 : decode cX12_isThingHere 50 = .ok (.bipush 20, 2) := by decide +kernel
theorem d_X12_isThingHere_52 : decode cX12_isThingHere 52 = .ok (.invokevirtual 222, 3) := by decide +kernel
theorem d_X12_isThingHere_55 : decode cX12_isThingHere 55 = .ok (.ifCond .eq 16, 3) := by decide +kernel
theorem d_X12_isThingHere_58 : decode cX12_isThingHere 58 = .ok (.aload_n 0, 1) := by decide +kernel
theorem d_X12_isThingHere_59 : decode cX12_isThingHere 59 = .ok (.iload_n 2, 1) := by decide +kernel
theorem d_X12_isThingHere_60 : decode cX12_isThingHere 60 = .ok (.iconst 2, 1) := by decide +kernel
theorem d_X12_isThingHere_61 : decode cX12_isThingHere 61 = .ok (.iadd, 1) := by decide +kernel
theorem d_X12_isThingHere_62 : decode cX12_isThingHere 62 = .ok (.iconst 0, 1) := by decide +kernel
theorem d_X12_isThingHere_63 : decode cX12_isThingHere 63 = .ok (.bipush 99, 2) := by decide +kernel
theorem d_X12_isThingHere_65 : decode cX12_isThingHere 65 = .ok (.invokevirtual 222, 3) := by decide +kernel
theorem d_X12_isThingHere_68 : decode cX12_isThingHere 68 = .ok (.ifCond .ne 5, 3) := by decide +kernel
theorem d_X12_isThingHere_71 : decode cX12_isThingHere 71 = .ok (.iconst 0, 1) := by decide +kernel
theorem d_X12_isThingHere_72 : decode cX12_isThingHere 72 = .ok (.ireturn, 1) := by decide +kernel
theorem d_X12_isThingHere_73 : decode cX12_isThingHere 73 = .ok (.aload_n 0, 1) := by decide +kernel
theorem d_X12_isThingHere_74 : decode cX12_isThingHere 74 = .ok (.getfield 26, 3) := by decide +kernel
theorem d_X12_isThingHere_77 : decode cX12_isThingHere 77 = .ok (.iload_n 2, 1) := by decide +kernel
theorem d_X12_isThingHere_78 : decode cX12_isThingHere 78 = .ok (.iconst 3, 1) := by decide +kernel
theorem d_X12_isThingHere_79 : decode cX12_isThingHere 79 = .ok (.iadd, 1) := by decide +kernel
theorem d_X12_isThingHere_80 : decode cX12_isThingHere 80 = .ok (.iconst (-1), 1) := by decide +kernel
theorem d_X12_isThingHere_81 : decode cX12_isThingHere 81 = .ok (.iastore, 1) := by decide +kernel
theorem d_X12_isThingHere_82 : decode cX12_isThingHere 82 = .ok (.aload_n 0, 1) := by decide +kernel
theorem d_X12_isThingHere_83 : decode cX12_isThingHere 83 = .ok (.getfield 26, 3) := by decide +kernel
theorem d_X12_isThingHere_86 : decode cX12_isThingHere 86 = .ok (.iconst 1, 1) := by decide +kernel
theorem d_X12_isThingHere_87 : decode cX12_isThingHere 87 = .ok (.dup2, 1) := by decide +kernel
theorem d_X12_isThingHere_88 : decode cX12_isThingHere 88 = .ok (.iaload, 1) := by decide +kernel
theorem d_X12_isThingHere_89 : decode cX12_isThingHere 89 = .ok (.iconst 1, 1) := by decide +kernel
theorem d_X12_isThingHere_90 : decode cX12_isThingHere 90 = .ok (.iadd, 1) := by decide +kernel
theorem d_X12_isThingHere_91 : decode cX12_isThingHere 91 = .ok (.iastore, 1) := by decide +kernel
theorem d_X12_isThingHere_92 : decode cX12_isThingHere 92 = .ok (.iconst 1, 1) := by decide +kernel
theorem d_X12_isThingHere_93 : decode cX12_isThingHere 93 = .ok (.ireturn, 1) := by decide +kernel
abbrev X_X12_isThingHere : gX := (RX12, cX12_isThingHere, 3, (some .boolean), false)
def F_X12_isThingHere_b71 (M : gM) : Option (Int32 × gM) :=
  some ((0 : Int32), M)
theorem T_X12_isThingHere_b71 (r : (Int32 × gM)) (M : gM) (h : F_X12_isThingHere_b71 M = some r) : GW 3 0 0 X_X12_isThingHere 71 [] [] M (some (vi r.1), r.2) := by
  delta F_X12_isThingHere_b71 at h
  refine GW_iconst (X := X_X12_isThingHere) (pc := 71) (v := 0) d_X12_isThingHere_71 (by decide) ?_
  replace h := Option.some.inj h
  subst h
  exact GW_ret (X := X_X12_isThingHere) (pc := 72) d_X12_isThingHere_72 rfl g_rok0
def F_X12_isThingHere_b0 (l0 : Option Nat) (l1 : Int32) (M : gM) : Option (Int32 × gM) :=
  (gR 12 M l0 7).bind fun v1 => (aI 20 M v1 (1 : Int32)).bind fun v2 => if v2 = (7 : Int32) then ((gO 12 M l0).bind fun i21 => (F_X12_fails (some i21) (4 : Int32) l1 M).bind fun (v22, M23) => if v22 = 0 ∨ v22 = 1 then some (v22, M23) else none) else ((gO 12 M l0).bind fun i3 => (F_X12_passWord (some i3) M).bind fun M4 => (gR 12 M4 (some i3) 7).bind fun v5 => (aI 20 M4 v5 (1 : Int32)).bind fun v6 => (gC 12 M4 i3).bind fun _ => (F_X12_cellHere (some i3) ((10 : Int32) + ((4 : Int32) * v6)) (0 : Int32) (9 : Int32) M4).bind fun (v8, M9) => if v8 = 0 then (F_X12_isThingHere_b71 M9) else ((gC 12 M9 i3).bind fun _ => (F_X12_cellHere (some i3) (((10 : Int32) + ((4 : Int32) * v6)) + (1 : Int32)) (0 : Int32) (20 : Int32) M9).bind fun (v11, M12) => if v11 = 0 then (F_X12_isThingHere_b71 M12) else ((gC 12 M12 i3).bind fun _ => (F_X12_cellHere (some i3) (((10 : Int32) + ((4 : Int32) * v6)) + (2 : Int32)) (0 : Int32) (99 : Int32) M12).bind fun (v14, M15) => if v14 = 0 then (F_X12_isThingHere_b71 M15) else ((gR 12 M15 (some i3) 7).bind fun v16 => (sI M15 v16 (((10 : Int32) + ((4 : Int32) * v6)) + (3 : Int32)) (-1 : Int32)).bind fun M17 => (gR 12 M17 (some i3) 7).bind fun v18 => (aI 20 M17 v18 (1 : Int32)).bind fun v19 => (sI M17 v18 (1 : Int32) (v19 + (1 : Int32))).bind fun M20 => some ((1 : Int32), M20)))))
set_option maxHeartbeats 1000000 in
theorem T_X12_isThingHere_b0 (r : (Int32 × gM)) (l0 : Option Nat) (l1 : Int32) (M : gM) (h : F_X12_isThingHere_b0 l0 l1 M = some r) : GW 3 0 0 X_X12_isThingHere 0 [(0, vr l0), (1, vi l1)] [] M (some (vi r.1), r.2) := by
  delta F_X12_isThingHere_b0 at h
  refine GW_aload_n (X := X_X12_isThingHere) (pc := 0) d_X12_isThingHere_0 rfl 0 rfl ?_
  replace h := g_bd h
  obtain ⟨v1, hv1, h⟩ := h
  refine GW_getR (X := X_X12_isThingHere) (pc := 1) f_X12_26 d_X12_isThingHere_1 hv1 (Or.inr ⟨_, ty_12_7⟩) ?_
  refine GW_iconst (X := X_X12_isThingHere) (pc := 4) (v := 1) d_X12_isThingHere_4 (by decide) ?_
  replace h := g_bd h
  obtain ⟨v2, hv2, h⟩ := h
  refine GW_iald (X := X_X12_isThingHere) (pc := 5) d_X12_isThingHere_5 hv2 ?_
  refine GW_bipush (X := X_X12_isThingHere) (pc := 6) (v := 7) d_X12_isThingHere_6 (by decide) ?_
  refine GW_icmp_ne (X := X_X12_isThingHere) (pc := 8) 18 d_X12_isThingHere_8 (by decide) (fun c => ?_) (fun c => ?_)
  · replace h := g_ie c h
    refine GW_aload_n (X := X_X12_isThingHere) (pc := 18) d_X12_isThingHere_18 rfl 0 rfl ?_
    replace h := g_bd h
    obtain ⟨i3, hi3, h⟩ := h
    obtain ⟨rfl, ki3⟩ := g_gO hi3
    replace h := g_bd h
    obtain ⟨M4, hM4, h⟩ := h
    refine GW_callV (X := X_X12_isThingHere) (pc := 19) (bc0 := 0) (bs0 := 0) (r := none) (M2 := M4) (c0 := 12) (T_X12_passWord (some i3) M M4 hM4) (Nat.le_of_ble_eq_true rfl) (Nat.le_of_ble_eq_true rfl) rfl g_cok12 ki3 yc_X12_passWord ⟨m_1275, m_1277, m_50, m_127, m_1278⟩ d_X12_isThingHere_19 rfl (st := []) rfl (Nat.le_of_ble_eq_true rfl) (Nat.le_of_ble_eq_true rfl) (Nat.le_of_ble_eq_true rfl) (st2 := []) rfl ?_
    refine GW_bipush (X := X_X12_isThingHere) (pc := 22) (v := 10) d_X12_isThingHere_22 (by decide) ?_
    refine GW_iconst (X := X_X12_isThingHere) (pc := 24) (v := 4) d_X12_isThingHere_24 (by decide) ?_
    refine GW_aload_n (X := X_X12_isThingHere) (pc := 25) d_X12_isThingHere_25 rfl 0 rfl ?_
    replace h := g_bd h
    obtain ⟨v5, hv5, h⟩ := h
    refine GW_getR (X := X_X12_isThingHere) (pc := 26) f_X12_26 d_X12_isThingHere_26 hv5 (Or.inr ⟨_, ty_12_7⟩) ?_
    refine GW_iconst (X := X_X12_isThingHere) (pc := 29) (v := 1) d_X12_isThingHere_29 (by decide) ?_
    replace h := g_bd h
    obtain ⟨v6, hv6, h⟩ := h
    refine GW_iald (X := X_X12_isThingHere) (pc := 30) d_X12_isThingHere_30 hv6 ?_
    refine GW_imul (X := X_X12_isThingHere) (pc := 31) d_X12_isThingHere_31 ?_
    refine GW_iadd (X := X_X12_isThingHere) (pc := 32) d_X12_isThingHere_32 ?_
    refine GW_istore_n (X := X_X12_isThingHere) (pc := 33) d_X12_isThingHere_33 rfl (Nat.le_of_ble_eq_true rfl) (lv2 := [(2, vi ((10 : Int32) + ((4 : Int32) * v6))), (0, vr (some i3)), (1, vi l1)]) rfl ?_
    refine GW_aload_n (X := X_X12_isThingHere) (pc := 34) d_X12_isThingHere_34 rfl 1 rfl ?_
    refine GW_iload_n (X := X_X12_isThingHere) (pc := 35) d_X12_isThingHere_35 rfl 0 rfl ?_
    refine GW_iconst (X := X_X12_isThingHere) (pc := 36) (v := 0) d_X12_isThingHere_36 (by decide) ?_
    refine GW_bipush (X := X_X12_isThingHere) (pc := 37) (v := 9) d_X12_isThingHere_37 (by decide) ?_
    replace h := g_bd h
    obtain ⟨_, kk7, h⟩ := h
    replace kk7 := g_gC kk7
    replace h := g_bd h
    obtain ⟨⟨v8, M9⟩, hv8, h⟩ := h
    dsimp only at h
    refine GW_callV (X := X_X12_isThingHere) (pc := 39) (bc0 := 0) (bs0 := 0) (r := some (vi v8)) (M2 := M9) (c0 := 12) (T_X12_cellHere (some i3) ((10 : Int32) + ((4 : Int32) * v6)) (0 : Int32) (9 : Int32) M4 (v8, M9) hv8) (Nat.le_of_ble_eq_true rfl) (Nat.le_of_ble_eq_true rfl) rfl g_cok12 kk7 yc_X12_cellHere ⟨m_1279, m_1281, m_51, m_127, m_1282⟩ d_X12_isThingHere_39 rfl (st := []) rfl (Nat.le_of_ble_eq_true rfl) (Nat.le_of_ble_eq_true rfl) (Nat.le_of_ble_eq_true rfl) (st2 := [vi v8]) rfl ?_
    refine GW_if_eq (X := X_X12_isThingHere) (pc := 42) 71 d_X12_isThingHere_42 (by decide) (fun c => ?_) (fun c => ?_)
    · replace h := g_ip c h
      refine GW_sub [] rfl ?_
      exact T_X12_isThingHere_b71 r M9 h
    · replace h := g_ie c h
      refine GW_aload_n (X := X_X12_isThingHere) (pc := 45) d_X12_isThingHere_45 rfl 1 rfl ?_
      refine GW_iload_n (X := X_X12_isThingHere) (pc := 46) d_X12_isThingHere_46 rfl 0 rfl ?_
      refine GW_iconst (X := X_X12_isThingHere) (pc := 47) (v := 1) d_X12_isThingHere_47 (by decide) ?_
      refine GW_iadd (X := X_X12_isThingHere) (pc := 48) d_X12_isThingHere_48 ?_
      refine GW_iconst (X := X_X12_isThingHere) (pc := 49) (v := 0) d_X12_isThingHere_49 (by decide) ?_
      refine GW_bipush (X := X_X12_isThingHere) (pc := 50) (v := 20) d_X12_isThingHere_50 (by decide) ?_
      replace h := g_bd h
      obtain ⟨_, kk10, h⟩ := h
      replace kk10 := g_gC kk10
      replace h := g_bd h
      obtain ⟨⟨v11, M12⟩, hv11, h⟩ := h
      dsimp only at h
      refine GW_callV (X := X_X12_isThingHere) (pc := 52) (bc0 := 0) (bs0 := 0) (r := some (vi v11)) (M2 := M12) (c0 := 12) (T_X12_cellHere (some i3) (((10 : Int32) + ((4 : Int32) * v6)) + (1 : Int32)) (0 : Int32) (20 : Int32) M9 (v11, M12) hv11) (Nat.le_of_ble_eq_true rfl) (Nat.le_of_ble_eq_true rfl) rfl g_cok12 kk10 yc_X12_cellHere ⟨m_1279, m_1281, m_51, m_127, m_1282⟩ d_X12_isThingHere_52 rfl (st := []) rfl (Nat.le_of_ble_eq_true rfl) (Nat.le_of_ble_eq_true rfl) (Nat.le_of_ble_eq_true rfl) (st2 := [vi v11]) rfl ?_
      refine GW_if_eq (X := X_X12_isThingHere) (pc := 55) 71 d_X12_isThingHere_55 (by decide) (fun c => ?_) (fun c => ?_)
      · replace h := g_ip c h
        refine GW_sub [] rfl ?_
        exact T_X12_isThingHere_b71 r M12 h
      · replace h := g_ie c h
        refine GW_aload_n (X := X_X12_isThingHere) (pc := 58) d_X12_isThingHere_58 rfl 1 rfl ?_
        refine GW_iload_n (X := X_X12_isThingHere) (pc := 59) d_X12_isThingHere_59 rfl 0 rfl ?_
        refine GW_iconst (X := X_X12_isThingHere) (pc := 60) (v := 2) d_X12_isThingHere_60 (by decide) ?_
        refine GW_iadd (X := X_X12_isThingHere) (pc := 61) d_X12_isThingHere_61 ?_
        refine GW_iconst (X := X_X12_isThingHere) (pc := 62) (v := 0) d_X12_isThingHere_62 (by decide) ?_
        refine GW_bipush (X := X_X12_isThingHere) (pc := 63) (v := 99) d_X12_isThingHere_63 (by decide) ?_
        replace h := g_bd h
        obtain ⟨_, kk13, h⟩ := h
        replace kk13 := g_gC kk13
        replace h := g_bd h
        obtain ⟨⟨v14, M15⟩, hv14, h⟩ := h
        dsimp only at h
        refine GW_callV (X := X_X12_isThingHere) (pc := 65) (bc0 := 0) (bs0 := 0) (r := some (vi v14)) (M2 := M15) (c0 := 12) (T_X12_cellHere (some i3) (((10 : Int32) + ((4 : Int32) * v6)) + (2 : Int32)) (0 : Int32) (99 : Int32) M12 (v14, M15) hv14) (Nat.le_of_ble_eq_true rfl) (Nat.le_of_ble_eq_true rfl) rfl g_cok12 kk13 yc_X12_cellHere ⟨m_1279, m_1281, m_51, m_127, m_1282⟩ d_X12_isThingHere_65 rfl (st := []) rfl (Nat.le_of_ble_eq_true rfl) (Nat.le_of_ble_eq_true rfl) (Nat.le_of_ble_eq_true rfl) (st2 := [vi v14]) rfl ?_
        refine GW_if_ne (X := X_X12_isThingHere) (pc := 68) 73 d_X12_isThingHere_68 (by decide) (fun c => ?_) (fun c => ?_)
        · replace h := g_ie c h
          refine GW_aload_n (X := X_X12_isThingHere) (pc := 73) d_X12_isThingHere_73 rfl 1 rfl ?_
          replace h := g_bd h
          obtain ⟨v16, hv16, h⟩ := h
          refine GW_getR (X := X_X12_isThingHere) (pc := 74) f_X12_26 d_X12_isThingHere_74 hv16 (Or.inr ⟨_, ty_12_7⟩) ?_
          refine GW_iload_n (X := X_X12_isThingHere) (pc := 77) d_X12_isThingHere_77 rfl 0 rfl ?_
          refine GW_iconst (X := X_X12_isThingHere) (pc := 78) (v := 3) d_X12_isThingHere_78 (by decide) ?_
          refine GW_iadd (X := X_X12_isThingHere) (pc := 79) d_X12_isThingHere_79 ?_
          refine GW_iconst (X := X_X12_isThingHere) (pc := 80) (v := -1) d_X12_isThingHere_80 (by decide) ?_
          replace h := g_bd h
          obtain ⟨M17, hM17, h⟩ := h
          refine GW_iast (X := X_X12_isThingHere) (pc := 81) d_X12_isThingHere_81 hM17 ?_
          refine GW_aload_n (X := X_X12_isThingHere) (pc := 82) d_X12_isThingHere_82 rfl 1 rfl ?_
          replace h := g_bd h
          obtain ⟨v18, hv18, h⟩ := h
          refine GW_getR (X := X_X12_isThingHere) (pc := 83) f_X12_26 d_X12_isThingHere_83 hv18 (Or.inr ⟨_, ty_12_7⟩) ?_
          refine GW_iconst (X := X_X12_isThingHere) (pc := 86) (v := 1) d_X12_isThingHere_86 (by decide) ?_
          refine GW_dup2 (X := X_X12_isThingHere) (pc := 87) d_X12_isThingHere_87 rfl rfl ?_
          replace h := g_bd h
          obtain ⟨v19, hv19, h⟩ := h
          refine GW_iald (X := X_X12_isThingHere) (pc := 88) d_X12_isThingHere_88 hv19 ?_
          refine GW_iconst (X := X_X12_isThingHere) (pc := 89) (v := 1) d_X12_isThingHere_89 (by decide) ?_
          refine GW_iadd (X := X_X12_isThingHere) (pc := 90) d_X12_isThingHere_90 ?_
          replace h := g_bd h
          obtain ⟨M20, hM20, h⟩ := h
          refine GW_iast (X := X_X12_isThingHere) (pc := 91) d_X12_isThingHere_91 hM20 ?_
          refine GW_iconst (X := X_X12_isThingHere) (pc := 92) (v := 1) d_X12_isThingHere_92 (by decide) ?_
          replace h := Option.some.inj h
          subst h
          exact GW_ret (X := X_X12_isThingHere) (pc := 93) d_X12_isThingHere_93 rfl g_rok1
        · replace h := g_ip c h
          refine GW_sub [] rfl ?_
          exact T_X12_isThingHere_b71 r M15 h
  · replace h := g_ip c h
    refine GW_aload_n (X := X_X12_isThingHere) (pc := 11) d_X12_isThingHere_11 rfl 0 rfl ?_
    refine GW_iconst (X := X_X12_isThingHere) (pc := 12) (v := 4) d_X12_isThingHere_12 (by decide) ?_
    refine GW_iload_n (X := X_X12_isThingHere) (pc := 13) d_X12_isThingHere_13 rfl 1 rfl ?_
    replace h := g_bd h
    obtain ⟨i21, hi21, h⟩ := h
    obtain ⟨rfl, ki21⟩ := g_gO hi21
    replace h := g_bd h
    obtain ⟨⟨v22, M23⟩, hv22, h⟩ := h
    dsimp only at h
    refine GW_callV (X := X_X12_isThingHere) (pc := 14) (bc0 := 0) (bs0 := 0) (r := some (vi v22)) (M2 := M23) (c0 := 12) (T_X12_fails (some i21) (4 : Int32) l1 M (v22, M23) hv22) (Nat.le_of_ble_eq_true rfl) (Nat.le_of_ble_eq_true rfl) rfl g_cok12 ki21 yc_X12_fails ⟨m_1263, m_1265, m_47, m_127, m_1266⟩ d_X12_isThingHere_14 rfl (st := []) rfl (Nat.le_of_ble_eq_true rfl) (Nat.le_of_ble_eq_true rfl) (Nat.le_of_ble_eq_true rfl) (st2 := [vi v22]) rfl ?_
    replace h := g_if2 h
    obtain ⟨hz24, h⟩ := h
    replace h := Option.some.inj h
    subst h
    exact GW_ret (X := X_X12_isThingHere) (pc := 17) d_X12_isThingHere_17 rfl (g_zok hz24)
def F_X12_isThingHere (l0 : Option Nat) (l1 : Int32) (M : gM) : Option (Int32 × gM) := F_X12_isThingHere_b0 l0 l1 M
theorem T_X12_isThingHere (l0 : Option Nat) (l1 : Int32) (M : gM) (r : (Int32 × gM)) (h : F_X12_isThingHere l0 l1 M = some r) : g_Met 3 0 0 yX12_isThingHere X_X12_isThingHere [vr l0, vi l1] M (some (vi r.1), r.2) :=
  g_Met_of pn_RX12 rfl (Nat.le_of_ble_eq_true rfl) (fun h => by cases h) (GW_sub [0, 1] rfl (T_X12_isThingHere_b0 r l0 l1 M h))
/-! ForgetHeirsModel.isHeirHere(I)Z -/
theorem d_X12_isHeirHere_0 : decode cX12_isHeirHere 0 = .ok (.aload_n 0, 1) := by decide +kernel
theorem d_X12_isHeirHere_1 : decode cX12_isHeirHere 1 = .ok (.getfield 26, 3) := by decide +kernel
theorem d_X12_isHeirHere_4 : decode cX12_isHeirHere 4 = .ok (.iconst 2, 1) := by decide +kernel
theorem d_X12_isHeirHere_5 : decode cX12_isHeirHere 5 = .ok (.iaload, 1) := by decide +kernel
theorem d_X12_isHeirHere_6 : decode cX12_isHeirHere 6 = .ok (.bipush 7, 2) := by decide +kernel
theorem d_X12_isHeirHere_8 : decode cX12_isHeirHere 8 = .ok (.if_icmp .ne 10, 3) := by decide +kernel
theorem d_X12_isHeirHere_11 : decode cX12_isHeirHere 11 = .ok (.aload_n 0, 1) := by decide +kernel
theorem d_X12_isHeirHere_12 : decode cX12_isHeirHere 12 = .ok (.iconst 4, 1) := by decide +kernel
theorem d_X12_isHeirHere_13 : decode cX12_isHeirHere 13 = .ok (.iload_n 1, 1) := by decide +kernel
theorem d_X12_isHeirHere_14 : decode cX12_isHeirHere 14 = .ok (.invokevirtual 111, 3) := by decide +kernel
theorem d_X12_isHeirHere_17 : decode cX12_isHeirHere 17 = .ok (.ireturn, 1) := by decide +kernel
theorem d_X12_isHeirHere_18 : decode cX12_isHeirHere 18 = .ok (.aload_n 0, 1) := by decide +kernel
theorem d_X12_isHeirHere_19 : decode cX12_isHeirHere 19 = .ok (.invokevirtual 105, 3) := by decide +kernel
theorem d_X12_isHeirHere_22 : decode cX12_isHeirHere 22 = .ok (.aload_n 0, 1) := by decide +kernel
theorem d_X12_isHeirHere_23 : decode cX12_isHeirHere 23 = .ok (.getfield 26, 3) := by decide +kernel
theorem d_X12_isHeirHere_26 : decode cX12_isHeirHere 26 = .ok (.iconst 2, 1) := by decide +kernel
theorem d_X12_isHeirHere_27 : decode cX12_isHeirHere 27 = .ok (.iaload, 1) := by decide +kernel
theorem d_X12_isHeirHere_28 : decode cX12_isHeirHere 28 = .ok (.istore_n 2, 1) := by decide +kernel
theorem d_X12_isHeirHere_29 : decode cX12_isHeirHere 29 = .ok (.aload_n 0, 1) := by decide +kernel
theorem d_X12_isHeirHere_30 : decode cX12_isHeirHere 30 = .ok (.bipush 38, 2) := by decide +kernel
theorem d_X12_isHeirHere_32 : decode cX12_isHeirHere 32 = .ok (.iconst 2, 1) := by decide +kernel
theorem d_X12_isHeirHere_33 : decode cX12_isHeirHere 33 = .ok (.iload_n 2, 1) := by decide +kernel
theorem d_X12_isHeirHere_34 : decode cX12_isHeirHere 34 = .ok (.imul, 1) := by decide +kernel
theorem d_X12_isHeirHere_35 : decode cX12_isHeirHere 35 = .ok (.iadd, 1) := by decide +kernel
theorem d_X12_isHeirHere_36 : decode cX12_isHeirHere 36 = .ok (.iconst 0, 1) := by decide +kernel
theorem d_X12_isHeirHere_37 : decode cX12_isHeirHere 37 = .ok (.bipush 99, 2) := by decide +kernel
theorem d_X12_isHeirHere_39 : decode cX12_isHeirHere 39 = .ok (.invokevirtual 222, 3) := by decide +kernel
theorem d_X12_isHeirHere_42 : decode cX12_isHeirHere 42 = .ok (.ifCond .eq 21, 3) := by decide +kernel
theorem d_X12_isHeirHere_45 : decode cX12_isHeirHere 45 = .ok (.aload_n 0, 1) := by decide +kernel
theorem d_X12_isHeirHere_46 : decode cX12_isHeirHere 46 = .ok (.bipush 38, 2) := by decide +kernel
theorem d_X12_isHeirHere_48 : decode cX12_isHeirHere 48 = .ok (.iconst 2, 1) := by decide +kernel
theorem d_X12_isHeirHere_49 : decode cX12_isHeirHere 49 = .ok (.iload_n 2, 1) := by decide +kernel
theorem d_X12_isHeirHere_50 : decode cX12_isHeirHere 50 = .ok (.imul, 1) := by decide +kernel
theorem d_X12_isHeirHere_51 : decode cX12_isHeirHere 51 = .ok (.iadd, 1) := by decide +kernel
theorem d_X12_isHeirHere_52 : decode cX12_isHeirHere 52 = .ok (.iconst 1, 1) := by decide +kernel
theorem d_X12_isHeirHere_53 : decode cX12_isHeirHere 53 = .ok (.iadd, 1) := by decide +kernel
theorem d_X12_isHeirHere_54 : decode cX12_isHeirHere 54 = .ok (.iconst 0, 1) := by decide +kernel
theorem d_X12_isHeirHere_55 : decode cX12_isHeirHere 55 = .ok (.bipush 100, 2) := by decide +kernel
theorem d_X12_isHeirHere_57 : decode cX12_isHeirHere 57 = .ok (.invokevirtual 222, 3) := by decide +kernel
theorem d_X12_isHeirHere_60 : decode cX12_isHeirHere 60 = .ok (.ifCond .ne 5, 3) := by decide +kernel
theorem d_X12_isHeirHere_63 : decode cX12_isHeirHere 63 = .ok (.iconst 0, 1) := by decide +kernel
theorem d_X12_isHeirHere_64 : decode cX12_isHeirHere 64 = .ok (.ireturn, 1) := by decide +kernel
theorem d_X12_isHeirHere_65 : decode cX12_isHeirHere 65 = .ok (.aload_n 0, 1) := by decide +kernel
theorem d_X12_isHeirHere_66 : decode cX12_isHeirHere 66 = .ok (.getfield 26, 3) := by decide +kernel
theorem d_X12_isHeirHere_69 : decode cX12_isHeirHere 69 = .ok (.bipush 52, 2) := by decide +kernel
theorem d_X12_isHeirHere_71 : decode cX12_isHeirHere 71 = .ok (.iload_n 2, 1) := by decide +kernel
theorem d_X12_isHeirHere_72 : decode cX12_isHeirHere 72 = .ok (.iadd, 1) := by decide +kernel
theorem d_X12_isHeirHere_73 : decode cX12_isHeirHere 73 = .ok (.iconst 0, 1) := by decide +kernel
theorem d_X12_isHeirHere_74 : decode cX12_isHeirHere 74 = .ok (.iastore, 1) := by decide +kernel
theorem d_X12_isHeirHere_75 : decode cX12_isHeirHere 75 = .ok (.iconst 0, 1) := by decide +kernel
theorem d_X12_isHeirHere_76 : decode cX12_isHeirHere 76 = .ok (.istore_n 3, 1) := by decide +kernel
theorem d_X12_isHeirHere_77 : decode cX12_isHeirHere 77 = .ok (.iload_n 3, 1) := by decide +kernel
theorem d_X12_isHeirHere_78 : decode cX12_isHeirHere 78 = .ok (.bipush 7, 2) := by decide +kernel
theorem d_X12_isHeirHere_80 : decode cX12_isHeirHere 80 = .ok (.if_icmp .ge 45, 3) := by decide +kernel
theorem d_X12_isHeirHere_83 : decode cX12_isHeirHere 83 = .ok (.aload_n 0, 1) := by decide +kernel
theorem d_X12_isHeirHere_84 : decode cX12_isHeirHere 84 = .ok (.getfield 26, 3) := by decide +kernel
theorem d_X12_isHeirHere_87 : decode cX12_isHeirHere 87 = .ok (.bipush 59, 2) := by decide +kernel
theorem d_X12_isHeirHere_89 : decode cX12_isHeirHere 89 = .ok (.bipush 14, 2) := by decide +kernel
theorem d_X12_isHeirHere_91 : decode cX12_isHeirHere 91 = .ok (.iload_n 2, 1) := by decide +kernel
theorem d_X12_isHeirHere_92 : decode cX12_isHeirHere 92 = .ok (.imul, 1) := by decide +kernel
theorem d_X12_isHeirHere_93 : decode cX12_isHeirHere 93 = .ok (.iadd, 1) := by decide +kernel
theorem d_X12_isHeirHere_94 : decode cX12_isHeirHere 94 = .ok (.iconst 2, 1) := by decide +kernel
theorem d_X12_isHeirHere_95 : decode cX12_isHeirHere 95 = .ok (.iload_n 3, 1) := by decide +kernel
theorem d_X12_isHeirHere_96 : decode cX12_isHeirHere 96 = .ok (.imul, 1) := by decide +kernel
theorem d_X12_isHeirHere_97 : decode cX12_isHeirHere 97 = .ok (.iadd, 1) := by decide +kernel
theorem d_X12_isHeirHere_98 : decode cX12_isHeirHere 98 = .ok (.iconst (-1), 1) := by decide +kernel
theorem d_X12_isHeirHere_99 : decode cX12_isHeirHere 99 = .ok (.iastore, 1) := by decide +kernel
theorem d_X12_isHeirHere_100 : decode cX12_isHeirHere 100 = .ok (.aload_n 0, 1) := by decide +kernel
theorem d_X12_isHeirHere_101 : decode cX12_isHeirHere 101 = .ok (.getfield 26, 3) := by decide +kernel
theorem d_X12_isHeirHere_104 : decode cX12_isHeirHere 104 = .ok (.bipush 59, 2) := by decide +kernel
theorem d_X12_isHeirHere_106 : decode cX12_isHeirHere 106 = .ok (.bipush 14, 2) := by decide +kernel
theorem d_X12_isHeirHere_108 : decode cX12_isHeirHere 108 = .ok (.iload_n 2, 1) := by decide +kernel
theorem d_X12_isHeirHere_109 : decode cX12_isHeirHere 109 = .ok (.imul, 1) := by decide +kernel
theorem d_X12_isHeirHere_110 : decode cX12_isHeirHere 110 = .ok (.iadd, 1) := by decide +kernel
theorem d_X12_isHeirHere_111 : decode cX12_isHeirHere 111 = .ok (.iconst 2, 1) := by decide +kernel
theorem d_X12_isHeirHere_112 : decode cX12_isHeirHere 112 = .ok (.iload_n 3, 1) := by decide +kernel
theorem d_X12_isHeirHere_113 : decode cX12_isHeirHere 113 = .ok (.imul, 1) := by decide +kernel
theorem d_X12_isHeirHere_114 : decode cX12_isHeirHere 114 = .ok (.iadd, 1) := by decide +kernel
theorem d_X12_isHeirHere_115 : decode cX12_isHeirHere 115 = .ok (.iconst 1, 1) := by decide +kernel
theorem d_X12_isHeirHere_116 : decode cX12_isHeirHere 116 = .ok (.iadd, 1) := by decide +kernel
theorem d_X12_isHeirHere_117 : decode cX12_isHeirHere 117 = .ok (.iconst 0, 1) := by decide +kernel
theorem d_X12_isHeirHere_118 : decode cX12_isHeirHere 118 = .ok (.iastore, 1) := by decide +kernel
theorem d_X12_isHeirHere_119 : decode cX12_isHeirHere 119 = .ok (.iinc 3 1, 3) := by decide +kernel
theorem d_X12_isHeirHere_122 : decode cX12_isHeirHere 122 = .ok (.goto (-45), 3) := by decide +kernel
theorem d_X12_isHeirHere_125 : decode cX12_isHeirHere 125 = .ok (.aload_n 0, 1) := by decide +kernel
theorem d_X12_isHeirHere_126 : decode cX12_isHeirHere 126 = .ok (.getfield 26, 3) := by decide +kernel
theorem d_X12_isHeirHere_129 : decode cX12_isHeirHere 129 = .ok (.iconst 2, 1) := by decide +kernel
theorem d_X12_isHeirHere_130 : decode cX12_isHeirHere 130 = .ok (.dup2, 1) := by decide +kernel
theorem d_X12_isHeirHere_131 : decode cX12_isHeirHere 131 = .ok (.iaload, 1) := by decide +kernel
theorem d_X12_isHeirHere_132 : decode cX12_isHeirHere 132 = .ok (.iconst 1, 1) := by decide +kernel
theorem d_X12_isHeirHere_133 : decode cX12_isHeirHere 133 = .ok (.iadd, 1) := by decide +kernel
theorem d_X12_isHeirHere_134 : decode cX12_isHeirHere 134 = .ok (.iastore, 1) := by decide +kernel
theorem d_X12_isHeirHere_135 : decode cX12_isHeirHere 135 = .ok (.iconst 1, 1) := by decide +kernel
theorem d_X12_isHeirHere_136 : decode cX12_isHeirHere 136 = .ok (.ireturn, 1) := by decide +kernel
abbrev X_X12_isHeirHere : gX := (RX12, cX12_isHeirHere, 4, (some .boolean), false)
def F_X12_isHeirHere_b63 (M : gM) : Option (Int32 × gM) :=
  some ((0 : Int32), M)
theorem T_X12_isHeirHere_b63 (r : (Int32 × gM)) (M : gM) (h : F_X12_isHeirHere_b63 M = some r) : GW 3 0 0 X_X12_isHeirHere 63 [] [] M (some (vi r.1), r.2) := by
  delta F_X12_isHeirHere_b63 at h
  refine GW_iconst (X := X_X12_isHeirHere) (pc := 63) (v := 0) d_X12_isHeirHere_63 (by decide) ?_
  replace h := Option.some.inj h
  subst h
  exact GW_ret (X := X_X12_isHeirHere) (pc := 64) d_X12_isHeirHere_64 rfl g_rok0
def F_X12_isHeirHere_b77 (k77 : Option Nat → Int32 → Int32 → gM → Option (Int32 × gM)) (l0 : Option Nat) (l2 : Int32) (l3 : Int32) (M : gM) : Option (Int32 × gM) :=
  if (7 : Int32) ≤ l3 then ((gR 12 M l0 7).bind fun v1 => (aI 20 M v1 (2 : Int32)).bind fun v2 => (sI M v1 (2 : Int32) (v2 + (1 : Int32))).bind fun M3 => some ((1 : Int32), M3)) else ((gR 12 M l0 7).bind fun v4 => (sI M v4 (((59 : Int32) + ((14 : Int32) * l2)) + ((2 : Int32) * l3)) (-1 : Int32)).bind fun M5 => (gR 12 M5 l0 7).bind fun v6 => (sI M5 v6 ((((59 : Int32) + ((14 : Int32) * l2)) + ((2 : Int32) * l3)) + (1 : Int32)) (0 : Int32)).bind fun M7 => k77 l0 l2 (l3 + 1) M7)
set_option maxHeartbeats 1000000 in
theorem T_X12_isHeirHere_b77 (k77 : Option Nat → Int32 → Int32 → gM → Option (Int32 × gM)) (r : (Int32 × gM)) (hk77 : ∀ (l0 : Option Nat) (l2 : Int32) (l3 : Int32) (M : gM), k77 l0 l2 l3 M = some r → GW 3 0 0 X_X12_isHeirHere 77 [(0, vr l0), (2, vi l2), (3, vi l3)] [] M (some (vi r.1), r.2)) (l0 : Option Nat) (l2 : Int32) (l3 : Int32) (M : gM) (h : F_X12_isHeirHere_b77 k77 l0 l2 l3 M = some r) : GW 3 0 0 X_X12_isHeirHere 77 [(0, vr l0), (2, vi l2), (3, vi l3)] [] M (some (vi r.1), r.2) := by
  delta F_X12_isHeirHere_b77 at h
  refine GW_iload_n (X := X_X12_isHeirHere) (pc := 77) d_X12_isHeirHere_77 rfl 2 rfl ?_
  refine GW_bipush (X := X_X12_isHeirHere) (pc := 78) (v := 7) d_X12_isHeirHere_78 (by decide) ?_
  refine GW_icmp_ge (X := X_X12_isHeirHere) (pc := 80) 125 d_X12_isHeirHere_80 (by decide) (fun c => ?_) (fun c => ?_)
  · replace h := g_ip c h
    refine GW_aload_n (X := X_X12_isHeirHere) (pc := 125) d_X12_isHeirHere_125 rfl 0 rfl ?_
    replace h := g_bd h
    obtain ⟨v1, hv1, h⟩ := h
    refine GW_getR (X := X_X12_isHeirHere) (pc := 126) f_X12_26 d_X12_isHeirHere_126 hv1 (Or.inr ⟨_, ty_12_7⟩) ?_
    refine GW_iconst (X := X_X12_isHeirHere) (pc := 129) (v := 2) d_X12_isHeirHere_129 (by decide) ?_
    refine GW_dup2 (X := X_X12_isHeirHere) (pc := 130) d_X12_isHeirHere_130 rfl rfl ?_
    replace h := g_bd h
    obtain ⟨v2, hv2, h⟩ := h
    refine GW_iald (X := X_X12_isHeirHere) (pc := 131) d_X12_isHeirHere_131 hv2 ?_
    refine GW_iconst (X := X_X12_isHeirHere) (pc := 132) (v := 1) d_X12_isHeirHere_132 (by decide) ?_
    refine GW_iadd (X := X_X12_isHeirHere) (pc := 133) d_X12_isHeirHere_133 ?_
    replace h := g_bd h
    obtain ⟨M3, hM3, h⟩ := h
    refine GW_iast (X := X_X12_isHeirHere) (pc := 134) d_X12_isHeirHere_134 hM3 ?_
    refine GW_iconst (X := X_X12_isHeirHere) (pc := 135) (v := 1) d_X12_isHeirHere_135 (by decide) ?_
    replace h := Option.some.inj h
    subst h
    exact GW_ret (X := X_X12_isHeirHere) (pc := 136) d_X12_isHeirHere_136 rfl g_rok1
  · replace h := g_ie c h
    refine GW_aload_n (X := X_X12_isHeirHere) (pc := 83) d_X12_isHeirHere_83 rfl 0 rfl ?_
    replace h := g_bd h
    obtain ⟨v4, hv4, h⟩ := h
    refine GW_getR (X := X_X12_isHeirHere) (pc := 84) f_X12_26 d_X12_isHeirHere_84 hv4 (Or.inr ⟨_, ty_12_7⟩) ?_
    refine GW_bipush (X := X_X12_isHeirHere) (pc := 87) (v := 59) d_X12_isHeirHere_87 (by decide) ?_
    refine GW_bipush (X := X_X12_isHeirHere) (pc := 89) (v := 14) d_X12_isHeirHere_89 (by decide) ?_
    refine GW_iload_n (X := X_X12_isHeirHere) (pc := 91) d_X12_isHeirHere_91 rfl 1 rfl ?_
    refine GW_imul (X := X_X12_isHeirHere) (pc := 92) d_X12_isHeirHere_92 ?_
    refine GW_iadd (X := X_X12_isHeirHere) (pc := 93) d_X12_isHeirHere_93 ?_
    refine GW_iconst (X := X_X12_isHeirHere) (pc := 94) (v := 2) d_X12_isHeirHere_94 (by decide) ?_
    refine GW_iload_n (X := X_X12_isHeirHere) (pc := 95) d_X12_isHeirHere_95 rfl 2 rfl ?_
    refine GW_imul (X := X_X12_isHeirHere) (pc := 96) d_X12_isHeirHere_96 ?_
    refine GW_iadd (X := X_X12_isHeirHere) (pc := 97) d_X12_isHeirHere_97 ?_
    refine GW_iconst (X := X_X12_isHeirHere) (pc := 98) (v := -1) d_X12_isHeirHere_98 (by decide) ?_
    replace h := g_bd h
    obtain ⟨M5, hM5, h⟩ := h
    refine GW_iast (X := X_X12_isHeirHere) (pc := 99) d_X12_isHeirHere_99 hM5 ?_
    refine GW_aload_n (X := X_X12_isHeirHere) (pc := 100) d_X12_isHeirHere_100 rfl 0 rfl ?_
    replace h := g_bd h
    obtain ⟨v6, hv6, h⟩ := h
    refine GW_getR (X := X_X12_isHeirHere) (pc := 101) f_X12_26 d_X12_isHeirHere_101 hv6 (Or.inr ⟨_, ty_12_7⟩) ?_
    refine GW_bipush (X := X_X12_isHeirHere) (pc := 104) (v := 59) d_X12_isHeirHere_104 (by decide) ?_
    refine GW_bipush (X := X_X12_isHeirHere) (pc := 106) (v := 14) d_X12_isHeirHere_106 (by decide) ?_
    refine GW_iload_n (X := X_X12_isHeirHere) (pc := 108) d_X12_isHeirHere_108 rfl 1 rfl ?_
    refine GW_imul (X := X_X12_isHeirHere) (pc := 109) d_X12_isHeirHere_109 ?_
    refine GW_iadd (X := X_X12_isHeirHere) (pc := 110) d_X12_isHeirHere_110 ?_
    refine GW_iconst (X := X_X12_isHeirHere) (pc := 111) (v := 2) d_X12_isHeirHere_111 (by decide) ?_
    refine GW_iload_n (X := X_X12_isHeirHere) (pc := 112) d_X12_isHeirHere_112 rfl 2 rfl ?_
    refine GW_imul (X := X_X12_isHeirHere) (pc := 113) d_X12_isHeirHere_113 ?_
    refine GW_iadd (X := X_X12_isHeirHere) (pc := 114) d_X12_isHeirHere_114 ?_
    refine GW_iconst (X := X_X12_isHeirHere) (pc := 115) (v := 1) d_X12_isHeirHere_115 (by decide) ?_
    refine GW_iadd (X := X_X12_isHeirHere) (pc := 116) d_X12_isHeirHere_116 ?_
    refine GW_iconst (X := X_X12_isHeirHere) (pc := 117) (v := 0) d_X12_isHeirHere_117 (by decide) ?_
    replace h := g_bd h
    obtain ⟨M7, hM7, h⟩ := h
    refine GW_iast (X := X_X12_isHeirHere) (pc := 118) d_X12_isHeirHere_118 hM7 ?_
    refine GW_iinc (j := 2) (X := X_X12_isHeirHere) (pc := 119) d_X12_isHeirHere_119 rfl (congrArg (fun z => _ + z) (by decide : Int32.ofInt 1 = (1 : Int32))) (Nat.le_of_ble_eq_true rfl) (lv2 := [(3, vi (l3 + 1)), (0, vr l0), (2, vi l2)]) rfl ?_
    refine GW_goto (X := X_X12_isHeirHere) (pc := 122) 77 d_X12_isHeirHere_122 (by decide) ?_
    refine GW_sub [1, 2, 0] rfl ?_
    exact hk77 l0 l2 (l3 + 1) M7 h
def F_X12_isHeirHere_L77 : Nat → Option Nat → Int32 → Int32 → gM → Option (Int32 × gM)
  | 0 => fun _ _ _ _ => none
  | n + 1 => F_X12_isHeirHere_b77 (F_X12_isHeirHere_L77 n)
theorem T_X12_isHeirHere_L77 (r : (Int32 × gM)) : ∀ (n : Nat) (l0 : Option Nat) (l2 : Int32) (l3 : Int32) (M : gM), F_X12_isHeirHere_L77 n l0 l2 l3 M = some r → GW 3 0 0 X_X12_isHeirHere 77 [(0, vr l0), (2, vi l2), (3, vi l3)] [] M (some (vi r.1), r.2) := by
  intro n
  induction n with
  | zero => intro l0 l2 l3 M h; exact g_no h
  | succ n ih => intro l0 l2 l3 M h; exact T_X12_isHeirHere_b77 (F_X12_isHeirHere_L77 n) r ih l0 l2 l3 M h
def F_X12_isHeirHere_b0 (l0 : Option Nat) (l1 : Int32) (M : gM) : Option (Int32 × gM) :=
  (gR 12 M l0 7).bind fun v1 => (aI 20 M v1 (2 : Int32)).bind fun v2 => if v2 = (7 : Int32) then ((gO 12 M l0).bind fun i15 => (F_X12_fails (some i15) (4 : Int32) l1 M).bind fun (v16, M17) => if v16 = 0 ∨ v16 = 1 then some (v16, M17) else none) else ((gO 12 M l0).bind fun i3 => (F_X12_passWord (some i3) M).bind fun M4 => (gR 12 M4 (some i3) 7).bind fun v5 => (aI 20 M4 v5 (2 : Int32)).bind fun v6 => (gC 12 M4 i3).bind fun _ => (F_X12_cellHere (some i3) ((38 : Int32) + ((2 : Int32) * v6)) (0 : Int32) (99 : Int32) M4).bind fun (v8, M9) => if v8 = 0 then (F_X12_isHeirHere_b63 M9) else ((gC 12 M9 i3).bind fun _ => (F_X12_cellHere (some i3) (((38 : Int32) + ((2 : Int32) * v6)) + (1 : Int32)) (0 : Int32) (100 : Int32) M9).bind fun (v11, M12) => if v11 = 0 then (F_X12_isHeirHere_b63 M12) else ((gR 12 M12 (some i3) 7).bind fun v13 => (sI M12 v13 ((52 : Int32) + v6) (0 : Int32)).bind fun M14 => F_X12_isHeirHere_L77 g_fuel (some i3) v6 (0 : Int32) M14)))
set_option maxHeartbeats 1000000 in
theorem T_X12_isHeirHere_b0 (r : (Int32 × gM)) (l0 : Option Nat) (l1 : Int32) (M : gM) (h : F_X12_isHeirHere_b0 l0 l1 M = some r) : GW 3 0 0 X_X12_isHeirHere 0 [(0, vr l0), (1, vi l1)] [] M (some (vi r.1), r.2) := by
  delta F_X12_isHeirHere_b0 at h
  refine GW_aload_n (X := X_X12_isHeirHere) (pc := 0) d_X12_isHeirHere_0 rfl 0 rfl ?_
  replace h := g_bd h
  obtain ⟨v1, hv1, h⟩ := h
  refine GW_getR (X := X_X12_isHeirHere) (pc := 1) f_X12_26 d_X12_isHeirHere_1 hv1 (Or.inr ⟨_, ty_12_7⟩) ?_
  refine GW_iconst (X := X_X12_isHeirHere) (pc := 4) (v := 2) d_X12_isHeirHere_4 (by decide) ?_
  replace h := g_bd h
  obtain ⟨v2, hv2, h⟩ := h
  refine GW_iald (X := X_X12_isHeirHere) (pc := 5) d_X12_isHeirHere_5 hv2 ?_
  refine GW_bipush (X := X_X12_isHeirHere) (pc := 6) (v := 7) d_X12_isHeirHere_6 (by decide) ?_
  refine GW_icmp_ne (X := X_X12_isHeirHere) (pc := 8) 18 d_X12_isHeirHere_8 (by decide) (fun c => ?_) (fun c => ?_)
  · replace h := g_ie c h
    refine GW_aload_n (X := X_X12_isHeirHere) (pc := 18) d_X12_isHeirHere_18 rfl 0 rfl ?_
    replace h := g_bd h
    obtain ⟨i3, hi3, h⟩ := h
    obtain ⟨rfl, ki3⟩ := g_gO hi3
    replace h := g_bd h
    obtain ⟨M4, hM4, h⟩ := h
    refine GW_callV (X := X_X12_isHeirHere) (pc := 19) (bc0 := 0) (bs0 := 0) (r := none) (M2 := M4) (c0 := 12) (T_X12_passWord (some i3) M M4 hM4) (Nat.le_of_ble_eq_true rfl) (Nat.le_of_ble_eq_true rfl) rfl g_cok12 ki3 yc_X12_passWord ⟨m_1275, m_1277, m_50, m_127, m_1278⟩ d_X12_isHeirHere_19 rfl (st := []) rfl (Nat.le_of_ble_eq_true rfl) (Nat.le_of_ble_eq_true rfl) (Nat.le_of_ble_eq_true rfl) (st2 := []) rfl ?_
    refine GW_aload_n (X := X_X12_isHeirHere) (pc := 22) d_X12_isHeirHere_22 rfl 0 rfl ?_
    replace h := g_bd h
    obtain ⟨v5, hv5, h⟩ := h
    refine GW_getR (X := X_X12_isHeirHere) (pc := 23) f_X12_26 d_X12_isHeirHere_23 hv5 (Or.inr ⟨_, ty_12_7⟩) ?_
    refine GW_iconst (X := X_X12_isHeirHere) (pc := 26) (v := 2) d_X12_isHeirHere_26 (by decide) ?_
    replace h := g_bd h
    obtain ⟨v6, hv6, h⟩ := h
    refine GW_iald (X := X_X12_isHeirHere) (pc := 27) d_X12_isHeirHere_27 hv6 ?_
    refine GW_istore_n (X := X_X12_isHeirHere) (pc := 28) d_X12_isHeirHere_28 rfl (Nat.le_of_ble_eq_true rfl) (lv2 := [(2, vi v6), (0, vr (some i3)), (1, vi l1)]) rfl ?_
    refine GW_aload_n (X := X_X12_isHeirHere) (pc := 29) d_X12_isHeirHere_29 rfl 1 rfl ?_
    refine GW_bipush (X := X_X12_isHeirHere) (pc := 30) (v := 38) d_X12_isHeirHere_30 (by decide) ?_
    refine GW_iconst (X := X_X12_isHeirHere) (pc := 32) (v := 2) d_X12_isHeirHere_32 (by decide) ?_
    refine GW_iload_n (X := X_X12_isHeirHere) (pc := 33) d_X12_isHeirHere_33 rfl 0 rfl ?_
    refine GW_imul (X := X_X12_isHeirHere) (pc := 34) d_X12_isHeirHere_34 ?_
    refine GW_iadd (X := X_X12_isHeirHere) (pc := 35) d_X12_isHeirHere_35 ?_
    refine GW_iconst (X := X_X12_isHeirHere) (pc := 36) (v := 0) d_X12_isHeirHere_36 (by decide) ?_
    refine GW_bipush (X := X_X12_isHeirHere) (pc := 37) (v := 99) d_X12_isHeirHere_37 (by decide) ?_
    replace h := g_bd h
    obtain ⟨_, kk7, h⟩ := h
    replace kk7 := g_gC kk7
    replace h := g_bd h
    obtain ⟨⟨v8, M9⟩, hv8, h⟩ := h
    dsimp only at h
    refine GW_callV (X := X_X12_isHeirHere) (pc := 39) (bc0 := 0) (bs0 := 0) (r := some (vi v8)) (M2 := M9) (c0 := 12) (T_X12_cellHere (some i3) ((38 : Int32) + ((2 : Int32) * v6)) (0 : Int32) (99 : Int32) M4 (v8, M9) hv8) (Nat.le_of_ble_eq_true rfl) (Nat.le_of_ble_eq_true rfl) rfl g_cok12 kk7 yc_X12_cellHere ⟨m_1279, m_1281, m_51, m_127, m_1282⟩ d_X12_isHeirHere_39 rfl (st := []) rfl (Nat.le_of_ble_eq_true rfl) (Nat.le_of_ble_eq_true rfl) (Nat.le_of_ble_eq_true rfl) (st2 := [vi v8]) rfl ?_
    refine GW_if_eq (X := X_X12_isHeirHere) (pc := 42) 63 d_X12_isHeirHere_42 (by decide) (fun c => ?_) (fun c => ?_)
    · replace h := g_ip c h
      refine GW_sub [] rfl ?_
      exact T_X12_isHeirHere_b63 r M9 h
    · replace h := g_ie c h
      refine GW_aload_n (X := X_X12_isHeirHere) (pc := 45) d_X12_isHeirHere_45 rfl 1 rfl ?_
      refine GW_bipush (X := X_X12_isHeirHere) (pc := 46) (v := 38) d_X12_isHeirHere_46 (by decide) ?_
      refine GW_iconst (X := X_X12_isHeirHere) (pc := 48) (v := 2) d_X12_isHeirHere_48 (by decide) ?_
      refine GW_iload_n (X := X_X12_isHeirHere) (pc := 49) d_X12_isHeirHere_49 rfl 0 rfl ?_
      refine GW_imul (X := X_X12_isHeirHere) (pc := 50) d_X12_isHeirHere_50 ?_
      refine GW_iadd (X := X_X12_isHeirHere) (pc := 51) d_X12_isHeirHere_51 ?_
      refine GW_iconst (X := X_X12_isHeirHere) (pc := 52) (v := 1) d_X12_isHeirHere_52 (by decide) ?_
      refine GW_iadd (X := X_X12_isHeirHere) (pc := 53) d_X12_isHeirHere_53 ?_
      refine GW_iconst (X := X_X12_isHeirHere) (pc := 54) (v := 0) d_X12_isHeirHere_54 (by decide) ?_
      refine GW_bipush (X := X_X12_isHeirHere) (pc := 55) (v := 100) d_X12_isHeirHere_55 (by decide) ?_
      replace h := g_bd h
      obtain ⟨_, kk10, h⟩ := h
      replace kk10 := g_gC kk10
      replace h := g_bd h
      obtain ⟨⟨v11, M12⟩, hv11, h⟩ := h
      dsimp only at h
      refine GW_callV (X := X_X12_isHeirHere) (pc := 57) (bc0 := 0) (bs0 := 0) (r := some (vi v11)) (M2 := M12) (c0 := 12) (T_X12_cellHere (some i3) (((38 : Int32) + ((2 : Int32) * v6)) + (1 : Int32)) (0 : Int32) (100 : Int32) M9 (v11, M12) hv11) (Nat.le_of_ble_eq_true rfl) (Nat.le_of_ble_eq_true rfl) rfl g_cok12 kk10 yc_X12_cellHere ⟨m_1279, m_1281, m_51, m_127, m_1282⟩ d_X12_isHeirHere_57 rfl (st := []) rfl (Nat.le_of_ble_eq_true rfl) (Nat.le_of_ble_eq_true rfl) (Nat.le_of_ble_eq_true rfl) (st2 := [vi v11]) rfl ?_
      refine GW_if_ne (X := X_X12_isHeirHere) (pc := 60) 65 d_X12_isHeirHere_60 (by decide) (fun c => ?_) (fun c => ?_)
      · replace h := g_ie c h
        refine GW_aload_n (X := X_X12_isHeirHere) (pc := 65) d_X12_isHeirHere_65 rfl 1 rfl ?_
        replace h := g_bd h
        obtain ⟨v13, hv13, h⟩ := h
        refine GW_getR (X := X_X12_isHeirHere) (pc := 66) f_X12_26 d_X12_isHeirHere_66 hv13 (Or.inr ⟨_, ty_12_7⟩) ?_
        refine GW_bipush (X := X_X12_isHeirHere) (pc := 69) (v := 52) d_X12_isHeirHere_69 (by decide) ?_
        refine GW_iload_n (X := X_X12_isHeirHere) (pc := 71) d_X12_isHeirHere_71 rfl 0 rfl ?_
        refine GW_iadd (X := X_X12_isHeirHere) (pc := 72) d_X12_isHeirHere_72 ?_
        refine GW_iconst (X := X_X12_isHeirHere) (pc := 73) (v := 0) d_X12_isHeirHere_73 (by decide) ?_
        replace h := g_bd h
        obtain ⟨M14, hM14, h⟩ := h
        refine GW_iast (X := X_X12_isHeirHere) (pc := 74) d_X12_isHeirHere_74 hM14 ?_
        refine GW_iconst (X := X_X12_isHeirHere) (pc := 75) (v := 0) d_X12_isHeirHere_75 (by decide) ?_
        refine GW_istore_n (X := X_X12_isHeirHere) (pc := 76) d_X12_isHeirHere_76 rfl (Nat.le_of_ble_eq_true rfl) (lv2 := [(3, vi (0 : Int32)), (2, vi v6), (0, vr (some i3)), (1, vi l1)]) rfl ?_
        refine GW_sub [2, 1, 0] rfl ?_
        exact T_X12_isHeirHere_L77 r g_fuel (some i3) v6 (0 : Int32) M14 h
      · replace h := g_ip c h
        refine GW_sub [] rfl ?_
        exact T_X12_isHeirHere_b63 r M12 h
  · replace h := g_ip c h
    refine GW_aload_n (X := X_X12_isHeirHere) (pc := 11) d_X12_isHeirHere_11 rfl 0 rfl ?_
    refine GW_iconst (X := X_X12_isHeirHere) (pc := 12) (v := 4) d_X12_isHeirHere_12 (by decide) ?_
    refine GW_iload_n (X := X_X12_isHeirHere) (pc := 13) d_X12_isHeirHere_13 rfl 1 rfl ?_
    replace h := g_bd h
    obtain ⟨i15, hi15, h⟩ := h
    obtain ⟨rfl, ki15⟩ := g_gO hi15
    replace h := g_bd h
    obtain ⟨⟨v16, M17⟩, hv16, h⟩ := h
    dsimp only at h
    refine GW_callV (X := X_X12_isHeirHere) (pc := 14) (bc0 := 0) (bs0 := 0) (r := some (vi v16)) (M2 := M17) (c0 := 12) (T_X12_fails (some i15) (4 : Int32) l1 M (v16, M17) hv16) (Nat.le_of_ble_eq_true rfl) (Nat.le_of_ble_eq_true rfl) rfl g_cok12 ki15 yc_X12_fails ⟨m_1263, m_1265, m_47, m_127, m_1266⟩ d_X12_isHeirHere_14 rfl (st := []) rfl (Nat.le_of_ble_eq_true rfl) (Nat.le_of_ble_eq_true rfl) (Nat.le_of_ble_eq_true rfl) (st2 := [vi v16]) rfl ?_
    replace h := g_if2 h
    obtain ⟨hz18, h⟩ := h
    replace h := Option.some.inj h
    subst h
    exact GW_ret (X := X_X12_isHeirHere) (pc := 17) d_X12_isHeirHere_17 rfl (g_zok hz18)
def F_X12_isHeirHere (l0 : Option Nat) (l1 : Int32) (M : gM) : Option (Int32 × gM) := F_X12_isHeirHere_b0 l0 l1 M
theorem T_X12_isHeirHere (l0 : Option Nat) (l1 : Int32) (M : gM) (r : (Int32 × gM)) (h : F_X12_isHeirHere l0 l1 M = some r) : g_Met 3 0 0 yX12_isHeirHere X_X12_isHeirHere [vr l0, vi l1] M (some (vi r.1), r.2) :=
  g_Met_of pn_RX12 rfl (Nat.le_of_ble_eq_true rfl) (fun h => by cases h) (GW_sub [0, 1] rfl (T_X12_isHeirHere_b0 r l0 l1 M h))
/-! ForgetHeirsModel.isSongHere()Z -/
theorem d_X12_isSongHere_0 : decode cX12_isSongHere 0 = .ok (.aload_n 0, 1) := by decide +kernel
theorem d_X12_isSongHere_1 : decode cX12_isSongHere 1 = .ok (.invokevirtual 105, 3) := by decide +kernel
theorem d_X12_isSongHere_4 : decode cX12_isSongHere 4 = .ok (.aload_n 0, 1) := by decide +kernel
theorem d_X12_isSongHere_5 : decode cX12_isSongHere 5 = .ok (.iconst 0, 1) := by decide +kernel
theorem d_X12_isSongHere_6 : decode cX12_isSongHere 6 = .ok (.aload_n 0, 1) := by decide +kernel
theorem d_X12_isSongHere_7 : decode cX12_isSongHere 7 = .ok (.getfield 26, 3) := by decide +kernel
theorem d_X12_isSongHere_10 : decode cX12_isSongHere 10 = .ok (.iconst 1, 1) := by decide +kernel
theorem d_X12_isSongHere_11 : decode cX12_isSongHere 11 = .ok (.iaload, 1) := by decide +kernel
theorem d_X12_isSongHere_12 : decode cX12_isSongHere 12 = .ok (.iconst 1, 1) := by decide +kernel
theorem d_X12_isSongHere_13 : decode cX12_isSongHere 13 = .ok (.isub, 1) := by decide +kernel
theorem d_X12_isSongHere_14 : decode cX12_isSongHere 14 = .ok (.invokevirtual 171, 3) := by decide +kernel
theorem d_X12_isSongHere_17 : decode cX12_isSongHere 17 = .ok (.ifCond .ne 5, 3) := by decide +kernel
theorem d_X12_isSongHere_20 : decode cX12_isSongHere 20 = .ok (.iconst 0, 1) := by decide +kernel
theorem d_X12_isSongHere_21 : decode cX12_isSongHere 21 = .ok (.ireturn, 1) := by decide +kernel
theorem d_X12_isSongHere_22 : decode cX12_isSongHere 22 = .ok (.aload_n 0, 1) := by decide +kernel
theorem d_X12_isSongHere_23 : decode cX12_isSongHere 23 = .ok (.getfield 26, 3) := by decide +kernel
theorem d_X12_isSongHere_26 : decode cX12_isSongHere 26 = .ok (.bipush 7, 2) := by decide +kernel
theorem d_X12_isSongHere_28 : decode cX12_isSongHere 28 = .ok (.dup2, 1) := by decide +kernel
theorem d_X12_isSongHere_29 : decode cX12_isSongHere 29 = .ok (.iaload, 1) := by decide +kernel
theorem d_X12_isSongHere_30 : decode cX12_isSongHere 30 = .ok (.iconst 1, 1) := by decide +kernel
theorem d_X12_isSongHere_31 : decode cX12_isSongHere 31 = .ok (.aload_n 0, 1) := by decide +kernel
theorem d_X12_isSongHere_32 : decode cX12_isSongHere 32 = .ok (.getfield 115, 3) := by decide +kernel
theorem d_X12_isSongHere_35 : decode cX12_isSongHere 35 = .ok (.ishl, 1) := by decide +kernel
theorem d_X12_isSongHere_36 : decode cX12_isSongHere 36 = .ok (.ior, 1) := by decide +kernel
theorem d_X12_isSongHere_37 : decode cX12_isSongHere 37 = .ok (.iastore, 1) := by decide +kernel
theorem d_X12_isSongHere_38 : decode cX12_isSongHere 38 = .ok (.iconst 1, 1) := by decide +kernel
theorem d_X12_isSongHere_39 : decode cX12_isSongHere 39 = .ok (.ireturn, 1) := by decide +kernel
abbrev X_X12_isSongHere : gX := (RX12, cX12_isSongHere, 1, (some .boolean), false)
def F_X12_isSongHere_b0 (l0 : Option Nat) (M : gM) : Option (Int32 × gM) :=
  (gO 12 M l0).bind fun i1 => (F_X12_passWord (some i1) M).bind fun M2 => (gR 12 M2 (some i1) 7).bind fun v3 => (aI 20 M2 v3 (1 : Int32)).bind fun v4 => (gC 12 M2 i1).bind fun _ => (F_X12_numberHere (some i1) (0 : Int32) (v4 - (1 : Int32)) M2).bind fun (v6, M7) => if v6 = 0 then (some ((0 : Int32), M7)) else ((gR 12 M7 (some i1) 7).bind fun v8 => (aI 20 M7 v8 (7 : Int32)).bind fun v9 => (gI 12 M7 (some i1) 10).bind fun v10 => (sI M7 v8 (7 : Int32) (v9 ||| ((1 : Int32) <<< (v10 &&& 31)))).bind fun M11 => some ((1 : Int32), M11))
set_option maxHeartbeats 1000000 in
theorem T_X12_isSongHere_b0 (r : (Int32 × gM)) (l0 : Option Nat) (M : gM) (h : F_X12_isSongHere_b0 l0 M = some r) : GW 2 0 0 X_X12_isSongHere 0 [(0, vr l0)] [] M (some (vi r.1), r.2) := by
  delta F_X12_isSongHere_b0 at h
  refine GW_aload_n (X := X_X12_isSongHere) (pc := 0) d_X12_isSongHere_0 rfl 0 rfl ?_
  replace h := g_bd h
  obtain ⟨i1, hi1, h⟩ := h
  obtain ⟨rfl, ki1⟩ := g_gO hi1
  replace h := g_bd h
  obtain ⟨M2, hM2, h⟩ := h
  refine GW_callV (X := X_X12_isSongHere) (pc := 1) (bc0 := 0) (bs0 := 0) (r := none) (M2 := M2) (c0 := 12) (T_X12_passWord (some i1) M M2 hM2) (Nat.le_of_ble_eq_true rfl) (Nat.le_of_ble_eq_true rfl) rfl g_cok12 ki1 yc_X12_passWord ⟨m_1275, m_1277, m_50, m_127, m_1278⟩ d_X12_isSongHere_1 rfl (st := []) rfl (Nat.le_of_ble_eq_true rfl) (Nat.le_of_ble_eq_true rfl) (Nat.le_of_ble_eq_true rfl) (st2 := []) rfl ?_
  refine GW_aload_n (X := X_X12_isSongHere) (pc := 4) d_X12_isSongHere_4 rfl 0 rfl ?_
  refine GW_iconst (X := X_X12_isSongHere) (pc := 5) (v := 0) d_X12_isSongHere_5 (by decide) ?_
  refine GW_aload_n (X := X_X12_isSongHere) (pc := 6) d_X12_isSongHere_6 rfl 0 rfl ?_
  replace h := g_bd h
  obtain ⟨v3, hv3, h⟩ := h
  refine GW_getR (X := X_X12_isSongHere) (pc := 7) f_X12_26 d_X12_isSongHere_7 hv3 (Or.inr ⟨_, ty_12_7⟩) ?_
  refine GW_iconst (X := X_X12_isSongHere) (pc := 10) (v := 1) d_X12_isSongHere_10 (by decide) ?_
  replace h := g_bd h
  obtain ⟨v4, hv4, h⟩ := h
  refine GW_iald (X := X_X12_isSongHere) (pc := 11) d_X12_isSongHere_11 hv4 ?_
  refine GW_iconst (X := X_X12_isSongHere) (pc := 12) (v := 1) d_X12_isSongHere_12 (by decide) ?_
  refine GW_isub (X := X_X12_isSongHere) (pc := 13) d_X12_isSongHere_13 ?_
  replace h := g_bd h
  obtain ⟨_, kk5, h⟩ := h
  replace kk5 := g_gC kk5
  replace h := g_bd h
  obtain ⟨⟨v6, M7⟩, hv6, h⟩ := h
  dsimp only at h
  refine GW_callV (X := X_X12_isSongHere) (pc := 14) (bc0 := 0) (bs0 := 0) (r := some (vi v6)) (M2 := M7) (c0 := 12) (T_X12_numberHere (some i1) (0 : Int32) (v4 - (1 : Int32)) M2 (v6, M7) hv6) (Nat.le_of_ble_eq_true rfl) (Nat.le_of_ble_eq_true rfl) rfl g_cok12 kk5 yc_X12_numberHere ⟨m_1283, m_1285, m_52, m_127, m_1286⟩ d_X12_isSongHere_14 rfl (st := []) rfl (Nat.le_of_ble_eq_true rfl) (Nat.le_of_ble_eq_true rfl) (Nat.le_of_ble_eq_true rfl) (st2 := [vi v6]) rfl ?_
  refine GW_if_ne (X := X_X12_isSongHere) (pc := 17) 22 d_X12_isSongHere_17 (by decide) (fun c => ?_) (fun c => ?_)
  · replace h := g_ie c h
    refine GW_aload_n (X := X_X12_isSongHere) (pc := 22) d_X12_isSongHere_22 rfl 0 rfl ?_
    replace h := g_bd h
    obtain ⟨v8, hv8, h⟩ := h
    refine GW_getR (X := X_X12_isSongHere) (pc := 23) f_X12_26 d_X12_isSongHere_23 hv8 (Or.inr ⟨_, ty_12_7⟩) ?_
    refine GW_bipush (X := X_X12_isSongHere) (pc := 26) (v := 7) d_X12_isSongHere_26 (by decide) ?_
    refine GW_dup2 (X := X_X12_isSongHere) (pc := 28) d_X12_isSongHere_28 rfl rfl ?_
    replace h := g_bd h
    obtain ⟨v9, hv9, h⟩ := h
    refine GW_iald (X := X_X12_isSongHere) (pc := 29) d_X12_isSongHere_29 hv9 ?_
    refine GW_iconst (X := X_X12_isSongHere) (pc := 30) (v := 1) d_X12_isSongHere_30 (by decide) ?_
    refine GW_aload_n (X := X_X12_isSongHere) (pc := 31) d_X12_isSongHere_31 rfl 0 rfl ?_
    replace h := g_bd h
    obtain ⟨v10, hv10, h⟩ := h
    refine GW_getI (X := X_X12_isSongHere) (pc := 32) f_X12_115 d_X12_isSongHere_32 hv10 (Or.inl ty_12_10) ?_
    refine GW_ishl (X := X_X12_isSongHere) (pc := 35) d_X12_isSongHere_35 ?_
    refine GW_ior (X := X_X12_isSongHere) (pc := 36) d_X12_isSongHere_36 ?_
    replace h := g_bd h
    obtain ⟨M11, hM11, h⟩ := h
    refine GW_iast (X := X_X12_isSongHere) (pc := 37) d_X12_isSongHere_37 hM11 ?_
    refine GW_iconst (X := X_X12_isSongHere) (pc := 38) (v := 1) d_X12_isSongHere_38 (by decide) ?_
    replace h := Option.some.inj h
    subst h
    exact GW_ret (X := X_X12_isSongHere) (pc := 39) d_X12_isSongHere_39 rfl g_rok1
  · replace h := g_ip c h
    refine GW_iconst (X := X_X12_isSongHere) (pc := 20) (v := 0) d_X12_isSongHere_20 (by decide) ?_
    replace h := Option.some.inj h
    subst h
    exact GW_ret (X := X_X12_isSongHere) (pc := 21) d_X12_isSongHere_21 rfl g_rok0
def F_X12_isSongHere (l0 : Option Nat) (M : gM) : Option (Int32 × gM) := F_X12_isSongHere_b0 l0 M
theorem T_X12_isSongHere (l0 : Option Nat) (M : gM) (r : (Int32 × gM)) (h : F_X12_isSongHere l0 M = some r) : g_Met 2 0 0 yX12_isSongHere X_X12_isSongHere [vr l0] M (some (vi r.1), r.2) :=
  g_Met_of pn_RX12 rfl (Nat.le_of_ble_eq_true rfl) (fun h => by cases h) (GW_sub [0] rfl (T_X12_isSongHere_b0 r l0 M h))
/-! ForgetHeirsModel.isHateHere()Z -/
theorem d_X12_isHateHere_0 : decode cX12_isHateHere 0 = .ok (.aload_n 0, 1) := by decide +kernel
theorem d_X12_isHateHere_1 : decode cX12_isHateHere 1 = .ok (.invokevirtual 105, 3) := by decide +kernel
theorem d_X12_isHateHere_4 : decode cX12_isHateHere 4 = .ok (.aload_n 0, 1) := by decide +kernel
theorem d_X12_isHateHere_5 : decode cX12_isHateHere 5 = .ok (.iconst 0, 1) := by decide +kernel
theorem d_X12_isHateHere_6 : decode cX12_isHateHere 6 = .ok (.aload_n 0, 1) := by decide +kernel
theorem d_X12_isHateHere_7 : decode cX12_isHateHere 7 = .ok (.getfield 26, 3) := by decide +kernel
theorem d_X12_isHateHere_10 : decode cX12_isHateHere 10 = .ok (.iconst 2, 1) := by decide +kernel
theorem d_X12_isHateHere_11 : decode cX12_isHateHere 11 = .ok (.iaload, 1) := by decide +kernel
theorem d_X12_isHateHere_12 : decode cX12_isHateHere 12 = .ok (.iconst 1, 1) := by decide +kernel
theorem d_X12_isHateHere_13 : decode cX12_isHateHere 13 = .ok (.isub, 1) := by decide +kernel
theorem d_X12_isHateHere_14 : decode cX12_isHateHere 14 = .ok (.invokevirtual 171, 3) := by decide +kernel
theorem d_X12_isHateHere_17 : decode cX12_isHateHere 17 = .ok (.ifCond .ne 5, 3) := by decide +kernel
theorem d_X12_isHateHere_20 : decode cX12_isHateHere 20 = .ok (.iconst 0, 1) := by decide +kernel
theorem d_X12_isHateHere_21 : decode cX12_isHateHere 21 = .ok (.ireturn, 1) := by decide +kernel
theorem d_X12_isHateHere_22 : decode cX12_isHateHere 22 = .ok (.aload_n 0, 1) := by decide +kernel
theorem d_X12_isHateHere_23 : decode cX12_isHateHere 23 = .ok (.getfield 26, 3) := by decide +kernel
theorem d_X12_isHateHere_26 : decode cX12_isHateHere 26 = .ok (.bipush 6, 2) := by decide +kernel
theorem d_X12_isHateHere_28 : decode cX12_isHateHere 28 = .ok (.dup2, 1) := by decide +kernel
theorem d_X12_isHateHere_29 : decode cX12_isHateHere 29 = .ok (.iaload, 1) := by decide +kernel
theorem d_X12_isHateHere_30 : decode cX12_isHateHere 30 = .ok (.iconst 1, 1) := by decide +kernel
theorem d_X12_isHateHere_31 : decode cX12_isHateHere 31 = .ok (.aload_n 0, 1) := by decide +kernel
theorem d_X12_isHateHere_32 : decode cX12_isHateHere 32 = .ok (.getfield 115, 3) := by decide +kernel
theorem d_X12_isHateHere_35 : decode cX12_isHateHere 35 = .ok (.ishl, 1) := by decide +kernel
theorem d_X12_isHateHere_36 : decode cX12_isHateHere 36 = .ok (.ior, 1) := by decide +kernel
theorem d_X12_isHateHere_37 : decode cX12_isHateHere 37 = .ok (.iastore, 1) := by decide +kernel
theorem d_X12_isHateHere_38 : decode cX12_isHateHere 38 = .ok (.iconst 1, 1) := by decide +kernel
theorem d_X12_isHateHere_39 : decode cX12_isHateHere 39 = .ok (.ireturn, 1) := by decide +kernel
abbrev X_X12_isHateHere : gX := (RX12, cX12_isHateHere, 1, (some .boolean), false)
def F_X12_isHateHere_b0 (l0 : Option Nat) (M : gM) : Option (Int32 × gM) :=
  (gO 12 M l0).bind fun i1 => (F_X12_passWord (some i1) M).bind fun M2 => (gR 12 M2 (some i1) 7).bind fun v3 => (aI 20 M2 v3 (2 : Int32)).bind fun v4 => (gC 12 M2 i1).bind fun _ => (F_X12_numberHere (some i1) (0 : Int32) (v4 - (1 : Int32)) M2).bind fun (v6, M7) => if v6 = 0 then (some ((0 : Int32), M7)) else ((gR 12 M7 (some i1) 7).bind fun v8 => (aI 20 M7 v8 (6 : Int32)).bind fun v9 => (gI 12 M7 (some i1) 10).bind fun v10 => (sI M7 v8 (6 : Int32) (v9 ||| ((1 : Int32) <<< (v10 &&& 31)))).bind fun M11 => some ((1 : Int32), M11))
set_option maxHeartbeats 1000000 in
theorem T_X12_isHateHere_b0 (r : (Int32 × gM)) (l0 : Option Nat) (M : gM) (h : F_X12_isHateHere_b0 l0 M = some r) : GW 2 0 0 X_X12_isHateHere 0 [(0, vr l0)] [] M (some (vi r.1), r.2) := by
  delta F_X12_isHateHere_b0 at h
  refine GW_aload_n (X := X_X12_isHateHere) (pc := 0) d_X12_isHateHere_0 rfl 0 rfl ?_
  replace h := g_bd h
  obtain ⟨i1, hi1, h⟩ := h
  obtain ⟨rfl, ki1⟩ := g_gO hi1
  replace h := g_bd h
  obtain ⟨M2, hM2, h⟩ := h
  refine GW_callV (X := X_X12_isHateHere) (pc := 1) (bc0 := 0) (bs0 := 0) (r := none) (M2 := M2) (c0 := 12) (T_X12_passWord (some i1) M M2 hM2) (Nat.le_of_ble_eq_true rfl) (Nat.le_of_ble_eq_true rfl) rfl g_cok12 ki1 yc_X12_passWord ⟨m_1275, m_1277, m_50, m_127, m_1278⟩ d_X12_isHateHere_1 rfl (st := []) rfl (Nat.le_of_ble_eq_true rfl) (Nat.le_of_ble_eq_true rfl) (Nat.le_of_ble_eq_true rfl) (st2 := []) rfl ?_
  refine GW_aload_n (X := X_X12_isHateHere) (pc := 4) d_X12_isHateHere_4 rfl 0 rfl ?_
  refine GW_iconst (X := X_X12_isHateHere) (pc := 5) (v := 0) d_X12_isHateHere_5 (by decide) ?_
  refine GW_aload_n (X := X_X12_isHateHere) (pc := 6) d_X12_isHateHere_6 rfl 0 rfl ?_
  replace h := g_bd h
  obtain ⟨v3, hv3, h⟩ := h
  refine GW_getR (X := X_X12_isHateHere) (pc := 7) f_X12_26 d_X12_isHateHere_7 hv3 (Or.inr ⟨_, ty_12_7⟩) ?_
  refine GW_iconst (X := X_X12_isHateHere) (pc := 10) (v := 2) d_X12_isHateHere_10 (by decide) ?_
  replace h := g_bd h
  obtain ⟨v4, hv4, h⟩ := h
  refine GW_iald (X := X_X12_isHateHere) (pc := 11) d_X12_isHateHere_11 hv4 ?_
  refine GW_iconst (X := X_X12_isHateHere) (pc := 12) (v := 1) d_X12_isHateHere_12 (by decide) ?_
  refine GW_isub (X := X_X12_isHateHere) (pc := 13) d_X12_isHateHere_13 ?_
  replace h := g_bd h
  obtain ⟨_, kk5, h⟩ := h
  replace kk5 := g_gC kk5
  replace h := g_bd h
  obtain ⟨⟨v6, M7⟩, hv6, h⟩ := h
  dsimp only at h
  refine GW_callV (X := X_X12_isHateHere) (pc := 14) (bc0 := 0) (bs0 := 0) (r := some (vi v6)) (M2 := M7) (c0 := 12) (T_X12_numberHere (some i1) (0 : Int32) (v4 - (1 : Int32)) M2 (v6, M7) hv6) (Nat.le_of_ble_eq_true rfl) (Nat.le_of_ble_eq_true rfl) rfl g_cok12 kk5 yc_X12_numberHere ⟨m_1283, m_1285, m_52, m_127, m_1286⟩ d_X12_isHateHere_14 rfl (st := []) rfl (Nat.le_of_ble_eq_true rfl) (Nat.le_of_ble_eq_true rfl) (Nat.le_of_ble_eq_true rfl) (st2 := [vi v6]) rfl ?_
  refine GW_if_ne (X := X_X12_isHateHere) (pc := 17) 22 d_X12_isHateHere_17 (by decide) (fun c => ?_) (fun c => ?_)
  · replace h := g_ie c h
    refine GW_aload_n (X := X_X12_isHateHere) (pc := 22) d_X12_isHateHere_22 rfl 0 rfl ?_
    replace h := g_bd h
    obtain ⟨v8, hv8, h⟩ := h
    refine GW_getR (X := X_X12_isHateHere) (pc := 23) f_X12_26 d_X12_isHateHere_23 hv8 (Or.inr ⟨_, ty_12_7⟩) ?_
    refine GW_bipush (X := X_X12_isHateHere) (pc := 26) (v := 6) d_X12_isHateHere_26 (by decide) ?_
    refine GW_dup2 (X := X_X12_isHateHere) (pc := 28) d_X12_isHateHere_28 rfl rfl ?_
    replace h := g_bd h
    obtain ⟨v9, hv9, h⟩ := h
    refine GW_iald (X := X_X12_isHateHere) (pc := 29) d_X12_isHateHere_29 hv9 ?_
    refine GW_iconst (X := X_X12_isHateHere) (pc := 30) (v := 1) d_X12_isHateHere_30 (by decide) ?_
    refine GW_aload_n (X := X_X12_isHateHere) (pc := 31) d_X12_isHateHere_31 rfl 0 rfl ?_
    replace h := g_bd h
    obtain ⟨v10, hv10, h⟩ := h
    refine GW_getI (X := X_X12_isHateHere) (pc := 32) f_X12_115 d_X12_isHateHere_32 hv10 (Or.inl ty_12_10) ?_
    refine GW_ishl (X := X_X12_isHateHere) (pc := 35) d_X12_isHateHere_35 ?_
    refine GW_ior (X := X_X12_isHateHere) (pc := 36) d_X12_isHateHere_36 ?_
    replace h := g_bd h
    obtain ⟨M11, hM11, h⟩ := h
    refine GW_iast (X := X_X12_isHateHere) (pc := 37) d_X12_isHateHere_37 hM11 ?_
    refine GW_iconst (X := X_X12_isHateHere) (pc := 38) (v := 1) d_X12_isHateHere_38 (by decide) ?_
    replace h := Option.some.inj h
    subst h
    exact GW_ret (X := X_X12_isHateHere) (pc := 39) d_X12_isHateHere_39 rfl g_rok1
  · replace h := g_ip c h
    refine GW_iconst (X := X_X12_isHateHere) (pc := 20) (v := 0) d_X12_isHateHere_20 (by decide) ?_
    replace h := Option.some.inj h
    subst h
    exact GW_ret (X := X_X12_isHateHere) (pc := 21) d_X12_isHateHere_21 rfl g_rok0
def F_X12_isHateHere (l0 : Option Nat) (M : gM) : Option (Int32 × gM) := F_X12_isHateHere_b0 l0 M
theorem T_X12_isHateHere (l0 : Option Nat) (M : gM) (r : (Int32 × gM)) (h : F_X12_isHateHere l0 M = some r) : g_Met 2 0 0 yX12_isHateHere X_X12_isHateHere [vr l0] M (some (vi r.1), r.2) :=
  g_Met_of pn_RX12 rfl (Nat.le_of_ble_eq_true rfl) (fun h => by cases h) (GW_sub [0] rfl (T_X12_isHateHere_b0 r l0 M h))
/-! ForgetHeirsModel.isOf(II)Z -/
theorem d_X12_isOf_0 : decode cX12_isOf 0 = .ok (.iload_n 0, 1) := by decide +kernel
theorem d_X12_isOf_1 : decode cX12_isOf 1 = .ok (.iload_n 1, 1) := by decide +kernel
theorem d_X12_isOf_2 : decode cX12_isOf 2 = .ok (.ishr, 1) := by decide +kernel
theorem d_X12_isOf_3 : decode cX12_isOf 3 = .ok (.iconst 1, 1) := by decide +kernel
theorem d_X12_isOf_4 : decode cX12_isOf 4 = .ok (.iand, 1) := by decide +kernel
theorem d_X12_isOf_5 : decode cX12_isOf 5 = .ok (.iconst 1, 1) := by decide +kernel
theorem d_X12_isOf_6 : decode cX12_isOf 6 = .ok (.if_icmp .ne 7, 3) := by decide +kernel
theorem d_X12_isOf_9 : decode cX12_isOf 9 = .ok (.iconst 1, 1) := by decide +kernel
theorem d_X12_isOf_10 : decode cX12_isOf 10 = .ok (.goto 4, 3) := by decide +kernel
theorem d_X12_isOf_13 : decode cX12_isOf 13 = .ok (.iconst 0, 1) := by decide +kernel
theorem d_X12_isOf_14 : decode cX12_isOf 14 = .ok (.ireturn, 1) := by decide +kernel
abbrev X_X12_isOf : gX := (RX12, cX12_isOf, 2, (some .boolean), false)
def F_X12_isOf_b0 (M : gM) (l0 : Int32) (l1 : Int32) : Option Int32 :=
  if ((l0 >>> (l1 &&& 31)) &&& (1 : Int32)) = (1 : Int32) then (some (1 : Int32)) else (some (0 : Int32))
theorem T_X12_isOf_b0 (M : gM) (r : Int32) (l0 : Int32) (l1 : Int32) (h : F_X12_isOf_b0 M l0 l1 = some r) : GW 0 0 0 X_X12_isOf 0 [(0, vi l0), (1, vi l1)] [] M (some (vi r), M) := by
  delta F_X12_isOf_b0 at h
  refine GW_iload_n (X := X_X12_isOf) (pc := 0) d_X12_isOf_0 rfl 0 rfl ?_
  refine GW_iload_n (X := X_X12_isOf) (pc := 1) d_X12_isOf_1 rfl 1 rfl ?_
  refine GW_ishr (X := X_X12_isOf) (pc := 2) d_X12_isOf_2 ?_
  refine GW_iconst (X := X_X12_isOf) (pc := 3) (v := 1) d_X12_isOf_3 (by decide) ?_
  refine GW_iand (X := X_X12_isOf) (pc := 4) d_X12_isOf_4 ?_
  refine GW_iconst (X := X_X12_isOf) (pc := 5) (v := 1) d_X12_isOf_5 (by decide) ?_
  refine GW_icmp_ne (X := X_X12_isOf) (pc := 6) 13 d_X12_isOf_6 (by decide) (fun c => ?_) (fun c => ?_)
  · replace h := g_ie c h
    refine GW_iconst (X := X_X12_isOf) (pc := 13) (v := 0) d_X12_isOf_13 (by decide) ?_
    replace h := Option.some.inj h
    subst h
    exact GW_ret (X := X_X12_isOf) (pc := 14) d_X12_isOf_14 rfl g_rok0
  · replace h := g_ip c h
    refine GW_iconst (X := X_X12_isOf) (pc := 9) (v := 1) d_X12_isOf_9 (by decide) ?_
    refine GW_goto (X := X_X12_isOf) (pc := 10) 14 d_X12_isOf_10 (by decide) ?_
    replace h := Option.some.inj h
    subst h
    exact GW_ret (X := X_X12_isOf) (pc := 14) d_X12_isOf_14 rfl g_rok1
def F_X12_isOf (l0 : Int32) (l1 : Int32) (M : gM) : Option Int32 := F_X12_isOf_b0 M l0 l1
theorem T_X12_isOf (l0 : Int32) (l1 : Int32) (M : gM) (r : Int32) (h : F_X12_isOf l0 l1 M = some r) : g_Met 0 0 0 yX12_isOf X_X12_isOf [vi l0, vi l1] M (some (vi r), M) :=
  g_Met_of pn_RX12 rfl (Nat.le_of_ble_eq_true rfl) (fun h => by cases h) (GW_sub [0, 1] rfl (T_X12_isOf_b0 M r l0 l1 h))
/-! ForgetHeirsModel.areCousinsHere(I)Z -/
theorem d_X12_areCousinsHere_0 : decode cX12_areCousinsHere 0 = .ok (.aload_n 0, 1) := by decide +kernel
theorem d_X12_areCousinsHere_1 : decode cX12_areCousinsHere 1 = .ok (.getfield 26, 3) := by decide +kernel
theorem d_X12_areCousinsHere_4 : decode cX12_areCousinsHere 4 = .ok (.iconst 3, 1) := by decide +kernel
theorem d_X12_areCousinsHere_5 : decode cX12_areCousinsHere 5 = .ok (.iaload, 1) := by decide +kernel
theorem d_X12_areCousinsHere_6 : decode cX12_areCousinsHere 6 = .ok (.bipush 10, 2) := by decide +kernel
theorem d_X12_areCousinsHere_8 : decode cX12_areCousinsHere 8 = .ok (.if_icmp .ne 10, 3) := by decide +kernel
theorem d_X12_areCousinsHere_11 : decode cX12_areCousinsHere 11 = .ok (.aload_n 0, 1) := by decide +kernel
theorem d_X12_areCousinsHere_12 : decode cX12_areCousinsHere 12 = .ok (.iconst 4, 1) := by decide +kernel
theorem d_X12_areCousinsHere_13 : decode cX12_areCousinsHere 13 = .ok (.iload_n 1, 1) := by decide +kernel
theorem d_X12_areCousinsHere_14 : decode cX12_areCousinsHere 14 = .ok (.invokevirtual 111, 3) := by decide +kernel
theorem d_X12_areCousinsHere_17 : decode cX12_areCousinsHere 17 = .ok (.ireturn, 1) := by decide +kernel
theorem d_X12_areCousinsHere_18 : decode cX12_areCousinsHere 18 = .ok (.aload_n 0, 1) := by decide +kernel
theorem d_X12_areCousinsHere_19 : decode cX12_areCousinsHere 19 = .ok (.invokevirtual 105, 3) := by decide +kernel
theorem d_X12_areCousinsHere_22 : decode cX12_areCousinsHere 22 = .ok (.aload_n 0, 1) := by decide +kernel
theorem d_X12_areCousinsHere_23 : decode cX12_areCousinsHere 23 = .ok (.iconst 0, 1) := by decide +kernel
theorem d_X12_areCousinsHere_24 : decode cX12_areCousinsHere 24 = .ok (.aload_n 0, 1) := by decide +kernel
theorem d_X12_areCousinsHere_25 : decode cX12_areCousinsHere 25 = .ok (.getfield 26, 3) := by decide +kernel
theorem d_X12_areCousinsHere_28 : decode cX12_areCousinsHere 28 = .ok (.iconst 2, 1) := by decide +kernel
theorem d_X12_areCousinsHere_29 : decode cX12_areCousinsHere 29 = .ok (.iaload, 1) := by decide +kernel
theorem d_X12_areCousinsHere_30 : decode cX12_areCousinsHere 30 = .ok (.iconst 1, 1) := by decide +kernel
theorem d_X12_areCousinsHere_31 : decode cX12_areCousinsHere 31 = .ok (.isub, 1) := by decide +kernel
theorem d_X12_areCousinsHere_32 : decode cX12_areCousinsHere 32 = .ok (.invokevirtual 171, 3) := by decide +kernel
theorem d_X12_areCousinsHere_35 : decode cX12_areCousinsHere 35 = .ok (.ifCond .ne 5, 3) := by decide +kernel
theorem d_X12_areCousinsHere_38 : decode cX12_areCousinsHere 38 = .ok (.iconst 0, 1) := by decide +kernel
theorem d_X12_areCousinsHere_39 : decode cX12_areCousinsHere 39 = .ok (.ireturn, 1) := by decide +kernel
theorem d_X12_areCousinsHere_40 : decode cX12_areCousinsHere 40 = .ok (.aload_n 0, 1) := by decide +kernel
theorem d_X12_areCousinsHere_41 : decode cX12_areCousinsHere 41 = .ok (.getfield 115, 3) := by decide +kernel
theorem d_X12_areCousinsHere_44 : decode cX12_areCousinsHere 44 = .ok (.istore_n 2, 1) := by decide +kernel
theorem d_X12_areCousinsHere_45 : decode cX12_areCousinsHere 45 = .ok (.aload_n 0, 1) := by decide +kernel
theorem d_X12_areCousinsHere_46 : decode cX12_areCousinsHere 46 = .ok (.invokevirtual 93, 3) := by decide +kernel
theorem d_X12_areCousinsHere_49 : decode cX12_areCousinsHere 49 = .ok (.pop, 1) := by decide +kernel
theorem d_X12_areCousinsHere_50 : decode cX12_areCousinsHere 50 = .ok (.aload_n 0, 1) := by decide +kernel
theorem d_X12_areCousinsHere_51 : decode cX12_areCousinsHere 51 = .ok (.getfield 90, 3) := by decide +kernel
theorem d_X12_areCousinsHere_54 : decode cX12_areCousinsHere 54 = .ok (.istore_n 3, 1) := by decide +kernel
theorem d_X12_areCousinsHere_55 : decode cX12_areCousinsHere 55 = .ok (.aload_n 0, 1) := by decide +kernel
theorem d_X12_areCousinsHere_56 : decode cX12_areCousinsHere 56 = .ok (.iconst 0, 1) := by decide +kernel
theorem d_X12_areCousinsHere_57 : decode cX12_areCousinsHere 57 = .ok (.aload_n 0, 1) := by decide +kernel
theorem d_X12_areCousinsHere_58 : decode cX12_areCousinsHere 58 = .ok (.getfield 26, 3) := by decide +kernel
theorem d_X12_areCousinsHere_61 : decode cX12_areCousinsHere 61 = .ok (.iconst 2, 1) := by decide +kernel
theorem d_X12_areCousinsHere_62 : decode cX12_areCousinsHere 62 = .ok (.iaload, 1) := by decide +kernel
theorem d_X12_areCousinsHere_63 : decode cX12_areCousinsHere 63 = .ok (.iconst 1, 1) := by decide +kernel
theorem d_X12_areCousinsHere_64 : decode cX12_areCousinsHere 64 = .ok (.isub, 1) := by decide +kernel
theorem d_X12_areCousinsHere_65 : decode cX12_areCousinsHere 65 = .ok (.invokevirtual 171, 3) := by decide +kernel
theorem d_X12_areCousinsHere_68 : decode cX12_areCousinsHere 68 = .ok (.ifCond .ne 5, 3) := by decide +kernel
theorem d_X12_areCousinsHere_71 : decode cX12_areCousinsHere 71 = .ok (.iconst 0, 1) := by decide +kernel
theorem d_X12_areCousinsHere_72 : decode cX12_areCousinsHere 72 = .ok (.ireturn, 1) := by decide +kernel
theorem d_X12_areCousinsHere_73 : decode cX12_areCousinsHere 73 = .ok (.aload_n 0, 1) := by decide +kernel
theorem d_X12_areCousinsHere_74 : decode cX12_areCousinsHere 74 = .ok (.getfield 115, 3) := by decide +kernel
theorem d_X12_areCousinsHere_77 : decode cX12_areCousinsHere 77 = .ok (.iload_n 2, 1) := by decide +kernel
theorem d_X12_areCousinsHere_78 : decode cX12_areCousinsHere 78 = .ok (.if_icmp .eq 22, 3) := by decide +kernel
theorem d_X12_areCousinsHere_81 : decode cX12_areCousinsHere 81 = .ok (.aload_n 0, 1) := by decide +kernel
theorem d_X12_areCousinsHere_82 : decode cX12_areCousinsHere 82 = .ok (.getfield 26, 3) := by decide +kernel
theorem d_X12_areCousinsHere_85 : decode cX12_areCousinsHere 85 = .ok (.bipush 52, 2) := by decide +kernel
theorem d_X12_areCousinsHere_87 : decode cX12_areCousinsHere 87 = .ok (.iload_n 2, 1) := by decide +kernel
theorem d_X12_areCousinsHere_88 : decode cX12_areCousinsHere 88 = .ok (.iadd, 1) := by decide +kernel
theorem d_X12_areCousinsHere_89 : decode cX12_areCousinsHere 89 = .ok (.iaload, 1) := by decide +kernel
theorem d_X12_areCousinsHere_90 : decode cX12_areCousinsHere 90 = .ok (.aload_n 0, 1) := by decide +kernel
theorem d_X12_areCousinsHere_91 : decode cX12_areCousinsHere 91 = .ok (.getfield 115, 3) := by decide +kernel
theorem d_X12_areCousinsHere_94 : decode cX12_areCousinsHere 94 = .ok (.invokestatic 226, 3) := by decide +kernel
theorem d_X12_areCousinsHere_97 : decode cX12_areCousinsHere 97 = .ok (.ifCond .eq 10, 3) := by decide +kernel
theorem d_X12_areCousinsHere_100 : decode cX12_areCousinsHere 100 = .ok (.aload_n 0, 1) := by decide +kernel
theorem d_X12_areCousinsHere_101 : decode cX12_areCousinsHere 101 = .ok (.iconst 1, 1) := by decide +kernel
theorem d_X12_areCousinsHere_102 : decode cX12_areCousinsHere 102 = .ok (.iload_n 3, 1) := by decide +kernel
theorem d_X12_areCousinsHere_103 : decode cX12_areCousinsHere 103 = .ok (.invokevirtual 111, 3) := by decide +kernel
theorem d_X12_areCousinsHere_106 : decode cX12_areCousinsHere 106 = .ok (.ireturn, 1) := by decide +kernel
theorem d_X12_areCousinsHere_107 : decode cX12_areCousinsHere 107 = .ok (.aload_n 0, 1) := by decide +kernel
theorem d_X12_areCousinsHere_108 : decode cX12_areCousinsHere 108 = .ok (.getfield 26, 3) := by decide +kernel
theorem d_X12_areCousinsHere_111 : decode cX12_areCousinsHere 111 = .ok (.bipush 52, 2) := by decide +kernel
theorem d_X12_areCousinsHere_113 : decode cX12_areCousinsHere 113 = .ok (.iload_n 2, 1) := by decide +kernel
theorem d_X12_areCousinsHere_114 : decode cX12_areCousinsHere 114 = .ok (.iadd, 1) := by decide +kernel
theorem d_X12_areCousinsHere_115 : decode cX12_areCousinsHere 115 = .ok (.dup2, 1) := by decide +kernel
theorem d_X12_areCousinsHere_116 : decode cX12_areCousinsHere 116 = .ok (.iaload, 1) := by decide +kernel
theorem d_X12_areCousinsHere_117 : decode cX12_areCousinsHere 117 = .ok (.iconst 1, 1) := by decide +kernel
theorem d_X12_areCousinsHere_118 : decode cX12_areCousinsHere 118 = .ok (.aload_n 0, 1) := by decide +kernel
theorem d_X12_areCousinsHere_119 : decode cX12_areCousinsHere 119 = .ok (.getfield 115, 3) := by decide +kernel
theorem d_X12_areCousinsHere_122 : decode cX12_areCousinsHere 122 = .ok (.ishl, 1) := by decide +kernel
theorem d_X12_areCousinsHere_123 : decode cX12_areCousinsHere 123 = .ok (.ior, 1) := by decide +kernel
theorem d_X12_areCousinsHere_124 : decode cX12_areCousinsHere 124 = .ok (.iastore, 1) := by decide +kernel
theorem d_X12_areCousinsHere_125 : decode cX12_areCousinsHere 125 = .ok (.aload_n 0, 1) := by decide +kernel
theorem d_X12_areCousinsHere_126 : decode cX12_areCousinsHere 126 = .ok (.getfield 26, 3) := by decide +kernel
theorem d_X12_areCousinsHere_129 : decode cX12_areCousinsHere 129 = .ok (.bipush 52, 2) := by decide +kernel
theorem d_X12_areCousinsHere_131 : decode cX12_areCousinsHere 131 = .ok (.aload_n 0, 1) := by decide +kernel
theorem d_X12_areCousinsHere_132 : decode cX12_areCousinsHere 132 = .ok (.getfield 115, 3) := by decide +kernel
theorem d_X12_areCousinsHere_135 : decode cX12_areCousinsHere 135 = .ok (.iadd, 1) := by decide +kernel
theorem d_X12_areCousinsHere_136 : decode cX12_areCousinsHere 136 = .ok (.dup2, 1) := by decide +kernel
theorem d_X12_areCousinsHere_137 : decode cX12_areCousinsHere 137 = .ok (.iaload, 1) := by decide +kernel
theorem d_X12_areCousinsHere_138 : decode cX12_areCousinsHere 138 = .ok (.iconst 1, 1) := by decide +kernel
theorem d_X12_areCousinsHere_139 : decode cX12_areCousinsHere 139 = .ok (.iload_n 2, 1) := by decide +kernel
theorem d_X12_areCousinsHere_140 : decode cX12_areCousinsHere 140 = .ok (.ishl, 1) := by decide +kernel
theorem d_X12_areCousinsHere_141 : decode cX12_areCousinsHere 141 = .ok (.ior, 1) := by decide +kernel
theorem d_X12_areCousinsHere_142 : decode cX12_areCousinsHere 142 = .ok (.iastore, 1) := by decide +kernel
theorem d_X12_areCousinsHere_143 : decode cX12_areCousinsHere 143 = .ok (.aload_n 0, 1) := by decide +kernel
theorem d_X12_areCousinsHere_144 : decode cX12_areCousinsHere 144 = .ok (.getfield 26, 3) := by decide +kernel
theorem d_X12_areCousinsHere_147 : decode cX12_areCousinsHere 147 = .ok (.iconst 3, 1) := by decide +kernel
theorem d_X12_areCousinsHere_148 : decode cX12_areCousinsHere 148 = .ok (.dup2, 1) := by decide +kernel
theorem d_X12_areCousinsHere_149 : decode cX12_areCousinsHere 149 = .ok (.iaload, 1) := by decide +kernel
theorem d_X12_areCousinsHere_150 : decode cX12_areCousinsHere 150 = .ok (.iconst 1, 1) := by decide +kernel
theorem d_X12_areCousinsHere_151 : decode cX12_areCousinsHere 151 = .ok (.iadd, 1) := by decide +kernel
theorem d_X12_areCousinsHere_152 : decode cX12_areCousinsHere 152 = .ok (.iastore, 1) := by decide +kernel
theorem d_X12_areCousinsHere_153 : decode cX12_areCousinsHere 153 = .ok (.iconst 1, 1) := by decide +kernel
theorem d_X12_areCousinsHere_154 : decode cX12_areCousinsHere 154 = .ok (.ireturn, 1) := by decide +kernel
abbrev X_X12_areCousinsHere : gX := (RX12, cX12_areCousinsHere, 4, (some .boolean), false)
def F_X12_areCousinsHere_b100 (l0 : Option Nat) (l3 : Int32) (M : gM) : Option (Int32 × gM) :=
  (gO 12 M l0).bind fun i1 => (F_X12_fails (some i1) (1 : Int32) l3 M).bind fun (v2, M3) => if v2 = 0 ∨ v2 = 1 then some (v2, M3) else none
theorem T_X12_areCousinsHere_b100 (r : (Int32 × gM)) (l0 : Option Nat) (l3 : Int32) (M : gM) (h : F_X12_areCousinsHere_b100 l0 l3 M = some r) : GW 2 0 0 X_X12_areCousinsHere 100 [(0, vr l0), (3, vi l3)] [] M (some (vi r.1), r.2) := by
  delta F_X12_areCousinsHere_b100 at h
  refine GW_aload_n (X := X_X12_areCousinsHere) (pc := 100) d_X12_areCousinsHere_100 rfl 0 rfl ?_
  refine GW_iconst (X := X_X12_areCousinsHere) (pc := 101) (v := 1) d_X12_areCousinsHere_101 (by decide) ?_
  refine GW_iload_n (X := X_X12_areCousinsHere) (pc := 102) d_X12_areCousinsHere_102 rfl 1 rfl ?_
  replace h := g_bd h
  obtain ⟨i1, hi1, h⟩ := h
  obtain ⟨rfl, ki1⟩ := g_gO hi1
  replace h := g_bd h
  obtain ⟨⟨v2, M3⟩, hv2, h⟩ := h
  dsimp only at h
  refine GW_callV (X := X_X12_areCousinsHere) (pc := 103) (bc0 := 0) (bs0 := 0) (r := some (vi v2)) (M2 := M3) (c0 := 12) (T_X12_fails (some i1) (1 : Int32) l3 M (v2, M3) hv2) (Nat.le_of_ble_eq_true rfl) (Nat.le_of_ble_eq_true rfl) rfl g_cok12 ki1 yc_X12_fails ⟨m_1263, m_1265, m_47, m_127, m_1266⟩ d_X12_areCousinsHere_103 rfl (st := []) rfl (Nat.le_of_ble_eq_true rfl) (Nat.le_of_ble_eq_true rfl) (Nat.le_of_ble_eq_true rfl) (st2 := [vi v2]) rfl ?_
  replace h := g_if2 h
  obtain ⟨hz4, h⟩ := h
  replace h := Option.some.inj h
  subst h
  exact GW_ret (X := X_X12_areCousinsHere) (pc := 106) d_X12_areCousinsHere_106 rfl (g_zok hz4)
def F_X12_areCousinsHere_b0 (l0 : Option Nat) (l1 : Int32) (M : gM) : Option (Int32 × gM) :=
  (gR 12 M l0 7).bind fun v1 => (aI 20 M v1 (3 : Int32)).bind fun v2 => if v2 = (10 : Int32) then ((gO 12 M l0).bind fun i36 => (F_X12_fails (some i36) (4 : Int32) l1 M).bind fun (v37, M38) => if v37 = 0 ∨ v37 = 1 then some (v37, M38) else none) else ((gO 12 M l0).bind fun i3 => (F_X12_passWord (some i3) M).bind fun M4 => (gR 12 M4 (some i3) 7).bind fun v5 => (aI 20 M4 v5 (2 : Int32)).bind fun v6 => (gC 12 M4 i3).bind fun _ => (F_X12_numberHere (some i3) (0 : Int32) (v6 - (1 : Int32)) M4).bind fun (v8, M9) => if v8 = 0 then (some ((0 : Int32), M9)) else ((gI 12 M9 (some i3) 10).bind fun v10 => (gC 12 M9 i3).bind fun _ => (F_X12_see (some i3) M9).bind fun (v12, M13) => (gI 12 M13 (some i3) 8).bind fun v14 => (gR 12 M13 (some i3) 7).bind fun v15 => (aI 20 M13 v15 (2 : Int32)).bind fun v16 => (gC 12 M13 i3).bind fun _ => (F_X12_numberHere (some i3) (0 : Int32) (v16 - (1 : Int32)) M13).bind fun (v18, M19) => if v18 = 0 then (some ((0 : Int32), M19)) else ((gI 12 M19 (some i3) 10).bind fun v20 => if v20 = v10 then (F_X12_areCousinsHere_b100 (some i3) v14 M19) else ((gR 12 M19 (some i3) 7).bind fun v21 => (aI 20 M19 v21 ((52 : Int32) + v10)).bind fun v22 => (gI 12 M19 (some i3) 10).bind fun v23 => (F_X12_isOf v22 v23 M19).bind fun v24 => if v24 = 0 then ((gR 12 M19 (some i3) 7).bind fun v25 => (aI 20 M19 v25 ((52 : Int32) + v10)).bind fun v26 => (gI 12 M19 (some i3) 10).bind fun v27 => (sI M19 v25 ((52 : Int32) + v10) (v26 ||| ((1 : Int32) <<< (v27 &&& 31)))).bind fun M28 => (gR 12 M28 (some i3) 7).bind fun v29 => (gI 12 M28 (some i3) 10).bind fun v30 => (aI 20 M28 v29 ((52 : Int32) + v30)).bind fun v31 => (sI M28 v29 ((52 : Int32) + v30) (v31 ||| ((1 : Int32) <<< (v10 &&& 31)))).bind fun M32 => (gR 12 M32 (some i3) 7).bind fun v33 => (aI 20 M32 v33 (3 : Int32)).bind fun v34 => (sI M32 v33 (3 : Int32) (v34 + (1 : Int32))).bind fun M35 => some ((1 : Int32), M35)) else (F_X12_areCousinsHere_b100 (some i3) v14 M19)))))
set_option maxHeartbeats 4000000 in
theorem T_X12_areCousinsHere_b0 (r : (Int32 × gM)) (l0 : Option Nat) (l1 : Int32) (M : gM) (h : F_X12_areCousinsHere_b0 l0 l1 M = some r) : GW 2 0 0 X_X12_areCousinsHere 0 [(0, vr l0), (1, vi l1)] [] M (some (vi r.1), r.2) := by
  delta F_X12_areCousinsHere_b0 at h
  refine GW_aload_n (X := X_X12_areCousinsHere) (pc := 0) d_X12_areCousinsHere_0 rfl 0 rfl ?_
  replace h := g_bd h
  obtain ⟨v1, hv1, h⟩ := h
  refine GW_getR (X := X_X12_areCousinsHere) (pc := 1) f_X12_26 d_X12_areCousinsHere_1 hv1 (Or.inr ⟨_, ty_12_7⟩) ?_
  refine GW_iconst (X := X_X12_areCousinsHere) (pc := 4) (v := 3) d_X12_areCousinsHere_4 (by decide) ?_
  replace h := g_bd h
  obtain ⟨v2, hv2, h⟩ := h
  refine GW_iald (X := X_X12_areCousinsHere) (pc := 5) d_X12_areCousinsHere_5 hv2 ?_
  refine GW_bipush (X := X_X12_areCousinsHere) (pc := 6) (v := 10) d_X12_areCousinsHere_6 (by decide) ?_
  refine GW_icmp_ne (X := X_X12_areCousinsHere) (pc := 8) 18 d_X12_areCousinsHere_8 (by decide) (fun c => ?_) (fun c => ?_)
  · replace h := g_ie c h
    refine GW_aload_n (X := X_X12_areCousinsHere) (pc := 18) d_X12_areCousinsHere_18 rfl 0 rfl ?_
    replace h := g_bd h
    obtain ⟨i3, hi3, h⟩ := h
    obtain ⟨rfl, ki3⟩ := g_gO hi3
    replace h := g_bd h
    obtain ⟨M4, hM4, h⟩ := h
    refine GW_callV (X := X_X12_areCousinsHere) (pc := 19) (bc0 := 0) (bs0 := 0) (r := none) (M2 := M4) (c0 := 12) (T_X12_passWord (some i3) M M4 hM4) (Nat.le_of_ble_eq_true rfl) (Nat.le_of_ble_eq_true rfl) rfl g_cok12 ki3 yc_X12_passWord ⟨m_1275, m_1277, m_50, m_127, m_1278⟩ d_X12_areCousinsHere_19 rfl (st := []) rfl (Nat.le_of_ble_eq_true rfl) (Nat.le_of_ble_eq_true rfl) (Nat.le_of_ble_eq_true rfl) (st2 := []) rfl ?_
    refine GW_aload_n (X := X_X12_areCousinsHere) (pc := 22) d_X12_areCousinsHere_22 rfl 0 rfl ?_
    refine GW_iconst (X := X_X12_areCousinsHere) (pc := 23) (v := 0) d_X12_areCousinsHere_23 (by decide) ?_
    refine GW_aload_n (X := X_X12_areCousinsHere) (pc := 24) d_X12_areCousinsHere_24 rfl 0 rfl ?_
    replace h := g_bd h
    obtain ⟨v5, hv5, h⟩ := h
    refine GW_getR (X := X_X12_areCousinsHere) (pc := 25) f_X12_26 d_X12_areCousinsHere_25 hv5 (Or.inr ⟨_, ty_12_7⟩) ?_
    refine GW_iconst (X := X_X12_areCousinsHere) (pc := 28) (v := 2) d_X12_areCousinsHere_28 (by decide) ?_
    replace h := g_bd h
    obtain ⟨v6, hv6, h⟩ := h
    refine GW_iald (X := X_X12_areCousinsHere) (pc := 29) d_X12_areCousinsHere_29 hv6 ?_
    refine GW_iconst (X := X_X12_areCousinsHere) (pc := 30) (v := 1) d_X12_areCousinsHere_30 (by decide) ?_
    refine GW_isub (X := X_X12_areCousinsHere) (pc := 31) d_X12_areCousinsHere_31 ?_
    replace h := g_bd h
    obtain ⟨_, kk7, h⟩ := h
    replace kk7 := g_gC kk7
    replace h := g_bd h
    obtain ⟨⟨v8, M9⟩, hv8, h⟩ := h
    dsimp only at h
    refine GW_callV (X := X_X12_areCousinsHere) (pc := 32) (bc0 := 0) (bs0 := 0) (r := some (vi v8)) (M2 := M9) (c0 := 12) (T_X12_numberHere (some i3) (0 : Int32) (v6 - (1 : Int32)) M4 (v8, M9) hv8) (Nat.le_of_ble_eq_true rfl) (Nat.le_of_ble_eq_true rfl) rfl g_cok12 kk7 yc_X12_numberHere ⟨m_1283, m_1285, m_52, m_127, m_1286⟩ d_X12_areCousinsHere_32 rfl (st := []) rfl (Nat.le_of_ble_eq_true rfl) (Nat.le_of_ble_eq_true rfl) (Nat.le_of_ble_eq_true rfl) (st2 := [vi v8]) rfl ?_
    refine GW_if_ne (X := X_X12_areCousinsHere) (pc := 35) 40 d_X12_areCousinsHere_35 (by decide) (fun c => ?_) (fun c => ?_)
    · replace h := g_ie c h
      refine GW_aload_n (X := X_X12_areCousinsHere) (pc := 40) d_X12_areCousinsHere_40 rfl 0 rfl ?_
      replace h := g_bd h
      obtain ⟨v10, hv10, h⟩ := h
      refine GW_getI (X := X_X12_areCousinsHere) (pc := 41) f_X12_115 d_X12_areCousinsHere_41 hv10 (Or.inl ty_12_10) ?_
      refine GW_istore_n (X := X_X12_areCousinsHere) (pc := 44) d_X12_areCousinsHere_44 rfl (Nat.le_of_ble_eq_true rfl) (lv2 := [(2, vi v10), (0, vr (some i3)), (1, vi l1)]) rfl ?_
      refine GW_aload_n (X := X_X12_areCousinsHere) (pc := 45) d_X12_areCousinsHere_45 rfl 1 rfl ?_
      replace h := g_bd h
      obtain ⟨_, kk11, h⟩ := h
      replace kk11 := g_gC kk11
      replace h := g_bd h
      obtain ⟨⟨v12, M13⟩, hv12, h⟩ := h
      dsimp only at h
      refine GW_callV (X := X_X12_areCousinsHere) (pc := 46) (bc0 := 0) (bs0 := 0) (r := some (vi v12)) (M2 := M13) (c0 := 12) (T_X12_see (some i3) M9 (v12, M13) hv12) (Nat.le_of_ble_eq_true rfl) (Nat.le_of_ble_eq_true rfl) rfl g_cok12 kk11 yc_X12_see ⟨m_1239, m_1241, m_43, m_127, m_1242⟩ d_X12_areCousinsHere_46 rfl (st := []) rfl (Nat.le_of_ble_eq_true rfl) (Nat.le_of_ble_eq_true rfl) (Nat.le_of_ble_eq_true rfl) (st2 := [vi v12]) rfl ?_
      refine GW_pop (X := X_X12_areCousinsHere) (pc := 49) d_X12_areCousinsHere_49 rfl ?_
      refine GW_aload_n (X := X_X12_areCousinsHere) (pc := 50) d_X12_areCousinsHere_50 rfl 1 rfl ?_
      replace h := g_bd h
      obtain ⟨v14, hv14, h⟩ := h
      refine GW_getI (X := X_X12_areCousinsHere) (pc := 51) f_X12_90 d_X12_areCousinsHere_51 hv14 (Or.inl ty_12_8) ?_
      refine GW_istore_n (X := X_X12_areCousinsHere) (pc := 54) d_X12_areCousinsHere_54 rfl (Nat.le_of_ble_eq_true rfl) (lv2 := [(3, vi v14), (2, vi v10), (0, vr (some i3)), (1, vi l1)]) rfl ?_
      refine GW_aload_n (X := X_X12_areCousinsHere) (pc := 55) d_X12_areCousinsHere_55 rfl 2 rfl ?_
      refine GW_iconst (X := X_X12_areCousinsHere) (pc := 56) (v := 0) d_X12_areCousinsHere_56 (by decide) ?_
      refine GW_aload_n (X := X_X12_areCousinsHere) (pc := 57) d_X12_areCousinsHere_57 rfl 2 rfl ?_
      replace h := g_bd h
      obtain ⟨v15, hv15, h⟩ := h
      refine GW_getR (X := X_X12_areCousinsHere) (pc := 58) f_X12_26 d_X12_areCousinsHere_58 hv15 (Or.inr ⟨_, ty_12_7⟩) ?_
      refine GW_iconst (X := X_X12_areCousinsHere) (pc := 61) (v := 2) d_X12_areCousinsHere_61 (by decide) ?_
      replace h := g_bd h
      obtain ⟨v16, hv16, h⟩ := h
      refine GW_iald (X := X_X12_areCousinsHere) (pc := 62) d_X12_areCousinsHere_62 hv16 ?_
      refine GW_iconst (X := X_X12_areCousinsHere) (pc := 63) (v := 1) d_X12_areCousinsHere_63 (by decide) ?_
      refine GW_isub (X := X_X12_areCousinsHere) (pc := 64) d_X12_areCousinsHere_64 ?_
      replace h := g_bd h
      obtain ⟨_, kk17, h⟩ := h
      replace kk17 := g_gC kk17
      replace h := g_bd h
      obtain ⟨⟨v18, M19⟩, hv18, h⟩ := h
      dsimp only at h
      refine GW_callV (X := X_X12_areCousinsHere) (pc := 65) (bc0 := 0) (bs0 := 0) (r := some (vi v18)) (M2 := M19) (c0 := 12) (T_X12_numberHere (some i3) (0 : Int32) (v16 - (1 : Int32)) M13 (v18, M19) hv18) (Nat.le_of_ble_eq_true rfl) (Nat.le_of_ble_eq_true rfl) rfl g_cok12 kk17 yc_X12_numberHere ⟨m_1283, m_1285, m_52, m_127, m_1286⟩ d_X12_areCousinsHere_65 rfl (st := []) rfl (Nat.le_of_ble_eq_true rfl) (Nat.le_of_ble_eq_true rfl) (Nat.le_of_ble_eq_true rfl) (st2 := [vi v18]) rfl ?_
      refine GW_if_ne (X := X_X12_areCousinsHere) (pc := 68) 73 d_X12_areCousinsHere_68 (by decide) (fun c => ?_) (fun c => ?_)
      · replace h := g_ie c h
        refine GW_aload_n (X := X_X12_areCousinsHere) (pc := 73) d_X12_areCousinsHere_73 rfl 2 rfl ?_
        replace h := g_bd h
        obtain ⟨v20, hv20, h⟩ := h
        refine GW_getI (X := X_X12_areCousinsHere) (pc := 74) f_X12_115 d_X12_areCousinsHere_74 hv20 (Or.inl ty_12_10) ?_
        refine GW_iload_n (X := X_X12_areCousinsHere) (pc := 77) d_X12_areCousinsHere_77 rfl 1 rfl ?_
        refine GW_icmp_eq (X := X_X12_areCousinsHere) (pc := 78) 100 d_X12_areCousinsHere_78 (by decide) (fun c => ?_) (fun c => ?_)
        · replace h := g_ip c h
          refine GW_sub [2, 0] rfl ?_
          exact T_X12_areCousinsHere_b100 r (some i3) v14 M19 h
        · replace h := g_ie c h
          refine GW_aload_n (X := X_X12_areCousinsHere) (pc := 81) d_X12_areCousinsHere_81 rfl 2 rfl ?_
          replace h := g_bd h
          obtain ⟨v21, hv21, h⟩ := h
          refine GW_getR (X := X_X12_areCousinsHere) (pc := 82) f_X12_26 d_X12_areCousinsHere_82 hv21 (Or.inr ⟨_, ty_12_7⟩) ?_
          refine GW_bipush (X := X_X12_areCousinsHere) (pc := 85) (v := 52) d_X12_areCousinsHere_85 (by decide) ?_
          refine GW_iload_n (X := X_X12_areCousinsHere) (pc := 87) d_X12_areCousinsHere_87 rfl 1 rfl ?_
          refine GW_iadd (X := X_X12_areCousinsHere) (pc := 88) d_X12_areCousinsHere_88 ?_
          replace h := g_bd h
          obtain ⟨v22, hv22, h⟩ := h
          refine GW_iald (X := X_X12_areCousinsHere) (pc := 89) d_X12_areCousinsHere_89 hv22 ?_
          refine GW_aload_n (X := X_X12_areCousinsHere) (pc := 90) d_X12_areCousinsHere_90 rfl 2 rfl ?_
          replace h := g_bd h
          obtain ⟨v23, hv23, h⟩ := h
          refine GW_getI (X := X_X12_areCousinsHere) (pc := 91) f_X12_115 d_X12_areCousinsHere_91 hv23 (Or.inl ty_12_10) ?_
          replace h := g_bd h
          obtain ⟨v24, hv24, h⟩ := h
          refine GW_callS (X := X_X12_areCousinsHere) (pc := 94) (bc0 := 0) (bs0 := 0) (r := some (vi v24)) (M2 := M19) (T_X12_isOf v22 v23 M19 v24 hv24) (Nat.le_of_ble_eq_true rfl) (Nat.le_of_ble_eq_true rfl) yc_X12_isOf ⟨m_1314, m_1315, m_127, m_1316⟩ d_X12_areCousinsHere_94 rfl (st := []) rfl (Nat.le_of_ble_eq_true rfl) (Nat.le_of_ble_eq_true rfl) (Nat.le_of_ble_eq_true rfl) (st2 := [vi v24]) rfl ?_
          refine GW_if_eq (X := X_X12_areCousinsHere) (pc := 97) 107 d_X12_areCousinsHere_97 (by decide) (fun c => ?_) (fun c => ?_)
          · replace h := g_ip c h
            refine GW_aload_n (X := X_X12_areCousinsHere) (pc := 107) d_X12_areCousinsHere_107 rfl 2 rfl ?_
            replace h := g_bd h
            obtain ⟨v25, hv25, h⟩ := h
            refine GW_getR (X := X_X12_areCousinsHere) (pc := 108) f_X12_26 d_X12_areCousinsHere_108 hv25 (Or.inr ⟨_, ty_12_7⟩) ?_
            refine GW_bipush (X := X_X12_areCousinsHere) (pc := 111) (v := 52) d_X12_areCousinsHere_111 (by decide) ?_
            refine GW_iload_n (X := X_X12_areCousinsHere) (pc := 113) d_X12_areCousinsHere_113 rfl 1 rfl ?_
            refine GW_iadd (X := X_X12_areCousinsHere) (pc := 114) d_X12_areCousinsHere_114 ?_
            refine GW_dup2 (X := X_X12_areCousinsHere) (pc := 115) d_X12_areCousinsHere_115 rfl rfl ?_
            replace h := g_bd h
            obtain ⟨v26, hv26, h⟩ := h
            refine GW_iald (X := X_X12_areCousinsHere) (pc := 116) d_X12_areCousinsHere_116 hv26 ?_
            refine GW_iconst (X := X_X12_areCousinsHere) (pc := 117) (v := 1) d_X12_areCousinsHere_117 (by decide) ?_
            refine GW_aload_n (X := X_X12_areCousinsHere) (pc := 118) d_X12_areCousinsHere_118 rfl 2 rfl ?_
            replace h := g_bd h
            obtain ⟨v27, hv27, h⟩ := h
            refine GW_getI (X := X_X12_areCousinsHere) (pc := 119) f_X12_115 d_X12_areCousinsHere_119 hv27 (Or.inl ty_12_10) ?_
            refine GW_ishl (X := X_X12_areCousinsHere) (pc := 122) d_X12_areCousinsHere_122 ?_
            refine GW_ior (X := X_X12_areCousinsHere) (pc := 123) d_X12_areCousinsHere_123 ?_
            replace h := g_bd h
            obtain ⟨M28, hM28, h⟩ := h
            refine GW_iast (X := X_X12_areCousinsHere) (pc := 124) d_X12_areCousinsHere_124 hM28 ?_
            refine GW_aload_n (X := X_X12_areCousinsHere) (pc := 125) d_X12_areCousinsHere_125 rfl 2 rfl ?_
            replace h := g_bd h
            obtain ⟨v29, hv29, h⟩ := h
            refine GW_getR (X := X_X12_areCousinsHere) (pc := 126) f_X12_26 d_X12_areCousinsHere_126 hv29 (Or.inr ⟨_, ty_12_7⟩) ?_
            refine GW_bipush (X := X_X12_areCousinsHere) (pc := 129) (v := 52) d_X12_areCousinsHere_129 (by decide) ?_
            refine GW_aload_n (X := X_X12_areCousinsHere) (pc := 131) d_X12_areCousinsHere_131 rfl 2 rfl ?_
            replace h := g_bd h
            obtain ⟨v30, hv30, h⟩ := h
            refine GW_getI (X := X_X12_areCousinsHere) (pc := 132) f_X12_115 d_X12_areCousinsHere_132 hv30 (Or.inl ty_12_10) ?_
            refine GW_iadd (X := X_X12_areCousinsHere) (pc := 135) d_X12_areCousinsHere_135 ?_
            refine GW_dup2 (X := X_X12_areCousinsHere) (pc := 136) d_X12_areCousinsHere_136 rfl rfl ?_
            replace h := g_bd h
            obtain ⟨v31, hv31, h⟩ := h
            refine GW_iald (X := X_X12_areCousinsHere) (pc := 137) d_X12_areCousinsHere_137 hv31 ?_
            refine GW_iconst (X := X_X12_areCousinsHere) (pc := 138) (v := 1) d_X12_areCousinsHere_138 (by decide) ?_
            refine GW_iload_n (X := X_X12_areCousinsHere) (pc := 139) d_X12_areCousinsHere_139 rfl 1 rfl ?_
            refine GW_ishl (X := X_X12_areCousinsHere) (pc := 140) d_X12_areCousinsHere_140 ?_
            refine GW_ior (X := X_X12_areCousinsHere) (pc := 141) d_X12_areCousinsHere_141 ?_
            replace h := g_bd h
            obtain ⟨M32, hM32, h⟩ := h
            refine GW_iast (X := X_X12_areCousinsHere) (pc := 142) d_X12_areCousinsHere_142 hM32 ?_
            refine GW_aload_n (X := X_X12_areCousinsHere) (pc := 143) d_X12_areCousinsHere_143 rfl 2 rfl ?_
            replace h := g_bd h
            obtain ⟨v33, hv33, h⟩ := h
            refine GW_getR (X := X_X12_areCousinsHere) (pc := 144) f_X12_26 d_X12_areCousinsHere_144 hv33 (Or.inr ⟨_, ty_12_7⟩) ?_
            refine GW_iconst (X := X_X12_areCousinsHere) (pc := 147) (v := 3) d_X12_areCousinsHere_147 (by decide) ?_
            refine GW_dup2 (X := X_X12_areCousinsHere) (pc := 148) d_X12_areCousinsHere_148 rfl rfl ?_
            replace h := g_bd h
            obtain ⟨v34, hv34, h⟩ := h
            refine GW_iald (X := X_X12_areCousinsHere) (pc := 149) d_X12_areCousinsHere_149 hv34 ?_
            refine GW_iconst (X := X_X12_areCousinsHere) (pc := 150) (v := 1) d_X12_areCousinsHere_150 (by decide) ?_
            refine GW_iadd (X := X_X12_areCousinsHere) (pc := 151) d_X12_areCousinsHere_151 ?_
            replace h := g_bd h
            obtain ⟨M35, hM35, h⟩ := h
            refine GW_iast (X := X_X12_areCousinsHere) (pc := 152) d_X12_areCousinsHere_152 hM35 ?_
            refine GW_iconst (X := X_X12_areCousinsHere) (pc := 153) (v := 1) d_X12_areCousinsHere_153 (by decide) ?_
            replace h := Option.some.inj h
            subst h
            exact GW_ret (X := X_X12_areCousinsHere) (pc := 154) d_X12_areCousinsHere_154 rfl g_rok1
          · replace h := g_ie c h
            refine GW_sub [2, 0] rfl ?_
            exact T_X12_areCousinsHere_b100 r (some i3) v14 M19 h
      · replace h := g_ip c h
        refine GW_iconst (X := X_X12_areCousinsHere) (pc := 71) (v := 0) d_X12_areCousinsHere_71 (by decide) ?_
        replace h := Option.some.inj h
        subst h
        exact GW_ret (X := X_X12_areCousinsHere) (pc := 72) d_X12_areCousinsHere_72 rfl g_rok0
    · replace h := g_ip c h
      refine GW_iconst (X := X_X12_areCousinsHere) (pc := 38) (v := 0) d_X12_areCousinsHere_38 (by decide) ?_
      replace h := Option.some.inj h
      subst h
      exact GW_ret (X := X_X12_areCousinsHere) (pc := 39) d_X12_areCousinsHere_39 rfl g_rok0
  · replace h := g_ip c h
    refine GW_aload_n (X := X_X12_areCousinsHere) (pc := 11) d_X12_areCousinsHere_11 rfl 0 rfl ?_
    refine GW_iconst (X := X_X12_areCousinsHere) (pc := 12) (v := 4) d_X12_areCousinsHere_12 (by decide) ?_
    refine GW_iload_n (X := X_X12_areCousinsHere) (pc := 13) d_X12_areCousinsHere_13 rfl 1 rfl ?_
    replace h := g_bd h
    obtain ⟨i36, hi36, h⟩ := h
    obtain ⟨rfl, ki36⟩ := g_gO hi36
    replace h := g_bd h
    obtain ⟨⟨v37, M38⟩, hv37, h⟩ := h
    dsimp only at h
    refine GW_callV (X := X_X12_areCousinsHere) (pc := 14) (bc0 := 0) (bs0 := 0) (r := some (vi v37)) (M2 := M38) (c0 := 12) (T_X12_fails (some i36) (4 : Int32) l1 M (v37, M38) hv37) (Nat.le_of_ble_eq_true rfl) (Nat.le_of_ble_eq_true rfl) rfl g_cok12 ki36 yc_X12_fails ⟨m_1263, m_1265, m_47, m_127, m_1266⟩ d_X12_areCousinsHere_14 rfl (st := []) rfl (Nat.le_of_ble_eq_true rfl) (Nat.le_of_ble_eq_true rfl) (Nat.le_of_ble_eq_true rfl) (st2 := [vi v37]) rfl ?_
    replace h := g_if2 h
    obtain ⟨hz39, h⟩ := h
    replace h := Option.some.inj h
    subst h
    exact GW_ret (X := X_X12_areCousinsHere) (pc := 17) d_X12_areCousinsHere_17 rfl (g_zok hz39)
def F_X12_areCousinsHere (l0 : Option Nat) (l1 : Int32) (M : gM) : Option (Int32 × gM) := F_X12_areCousinsHere_b0 l0 l1 M
theorem T_X12_areCousinsHere (l0 : Option Nat) (l1 : Int32) (M : gM) (r : (Int32 × gM)) (h : F_X12_areCousinsHere l0 l1 M = some r) : g_Met 2 0 0 yX12_areCousinsHere X_X12_areCousinsHere [vr l0, vi l1] M (some (vi r.1), r.2) :=
  g_Met_of pn_RX12 rfl (Nat.le_of_ble_eq_true rfl) (fun h => by cases h) (GW_sub [0, 1] rfl (T_X12_areCousinsHere_b0 r l0 l1 M h))
/-! ForgetHeirsModel.isKnownHere()Z -/
theorem d_X12_isKnownHere_0 : decode cX12_isKnownHere 0 = .ok (.aload_n 0, 1) := by decide +kernel
theorem d_X12_isKnownHere_1 : decode cX12_isKnownHere 1 = .ok (.invokevirtual 105, 3) := by decide +kernel
theorem d_X12_isKnownHere_4 : decode cX12_isKnownHere 4 = .ok (.aload_n 0, 1) := by decide +kernel
theorem d_X12_isKnownHere_5 : decode cX12_isKnownHere 5 = .ok (.iconst 0, 1) := by decide +kernel
theorem d_X12_isKnownHere_6 : decode cX12_isKnownHere 6 = .ok (.aload_n 0, 1) := by decide +kernel
theorem d_X12_isKnownHere_7 : decode cX12_isKnownHere 7 = .ok (.getfield 26, 3) := by decide +kernel
theorem d_X12_isKnownHere_10 : decode cX12_isKnownHere 10 = .ok (.iconst 2, 1) := by decide +kernel
theorem d_X12_isKnownHere_11 : decode cX12_isKnownHere 11 = .ok (.iaload, 1) := by decide +kernel
theorem d_X12_isKnownHere_12 : decode cX12_isKnownHere 12 = .ok (.iconst 1, 1) := by decide +kernel
theorem d_X12_isKnownHere_13 : decode cX12_isKnownHere 13 = .ok (.isub, 1) := by decide +kernel
theorem d_X12_isKnownHere_14 : decode cX12_isKnownHere 14 = .ok (.invokevirtual 171, 3) := by decide +kernel
theorem d_X12_isKnownHere_17 : decode cX12_isKnownHere 17 = .ok (.ifCond .ne 5, 3) := by decide +kernel
theorem d_X12_isKnownHere_20 : decode cX12_isKnownHere 20 = .ok (.iconst 0, 1) := by decide +kernel
theorem d_X12_isKnownHere_21 : decode cX12_isKnownHere 21 = .ok (.ireturn, 1) := by decide +kernel
theorem d_X12_isKnownHere_22 : decode cX12_isKnownHere 22 = .ok (.bipush 59, 2) := by decide +kernel
theorem d_X12_isKnownHere_24 : decode cX12_isKnownHere 24 = .ok (.bipush 14, 2) := by decide +kernel
theorem d_X12_isKnownHere_26 : decode cX12_isKnownHere 26 = .ok (.aload_n 0, 1) := by decide +kernel
theorem d_X12_isKnownHere_27 : decode cX12_isKnownHere 27 = .ok (.getfield 115, 3) := by decide +kernel
theorem d_X12_isKnownHere_30 : decode cX12_isKnownHere 30 = .ok (.imul, 1) := by decide +kernel
theorem d_X12_isKnownHere_31 : decode cX12_isKnownHere 31 = .ok (.iadd, 1) := by decide +kernel
theorem d_X12_isKnownHere_32 : decode cX12_isKnownHere 32 = .ok (.istore_n 1, 1) := by decide +kernel
theorem d_X12_isKnownHere_33 : decode cX12_isKnownHere 33 = .ok (.aload_n 0, 1) := by decide +kernel
theorem d_X12_isKnownHere_34 : decode cX12_isKnownHere 34 = .ok (.iconst 0, 1) := by decide +kernel
theorem d_X12_isKnownHere_35 : decode cX12_isKnownHere 35 = .ok (.aload_n 0, 1) := by decide +kernel
theorem d_X12_isKnownHere_36 : decode cX12_isKnownHere 36 = .ok (.getfield 26, 3) := by decide +kernel
theorem d_X12_isKnownHere_39 : decode cX12_isKnownHere 39 = .ok (.iconst 1, 1) := by decide +kernel
theorem d_X12_isKnownHere_40 : decode cX12_isKnownHere 40 = .ok (.iaload, 1) := by decide +kernel
theorem d_X12_isKnownHere_41 : decode cX12_isKnownHere 41 = .ok (.iconst 1, 1) := by decide +kernel
theorem d_X12_isKnownHere_42 : decode cX12_isKnownHere 42 = .ok (.isub, 1) := by decide +kernel
theorem d_X12_isKnownHere_43 : decode cX12_isKnownHere 43 = .ok (.invokevirtual 171, 3) := by decide +kernel
theorem d_X12_isKnownHere_46 : decode cX12_isKnownHere 46 = .ok (.ifCond .ne 5, 3) := by decide +kernel
theorem d_X12_isKnownHere_49 : decode cX12_isKnownHere 49 = .ok (.iconst 0, 1) := by decide +kernel
theorem d_X12_isKnownHere_50 : decode cX12_isKnownHere 50 = .ok (.ireturn, 1) := by decide +kernel
theorem d_X12_isKnownHere_51 : decode cX12_isKnownHere 51 = .ok (.iload_n 1, 1) := by decide +kernel
theorem d_X12_isKnownHere_52 : decode cX12_isKnownHere 52 = .ok (.iconst 2, 1) := by decide +kernel
theorem d_X12_isKnownHere_53 : decode cX12_isKnownHere 53 = .ok (.aload_n 0, 1) := by decide +kernel
theorem d_X12_isKnownHere_54 : decode cX12_isKnownHere 54 = .ok (.getfield 115, 3) := by decide +kernel
theorem d_X12_isKnownHere_57 : decode cX12_isKnownHere 57 = .ok (.imul, 1) := by decide +kernel
theorem d_X12_isKnownHere_58 : decode cX12_isKnownHere 58 = .ok (.iadd, 1) := by decide +kernel
theorem d_X12_isKnownHere_59 : decode cX12_isKnownHere 59 = .ok (.istore_n 1, 1) := by decide +kernel
theorem d_X12_isKnownHere_60 : decode cX12_isKnownHere 60 = .ok (.aload_n 0, 1) := by decide +kernel
theorem d_X12_isKnownHere_61 : decode cX12_isKnownHere 61 = .ok (.iload_n 1, 1) := by decide +kernel
theorem d_X12_isKnownHere_62 : decode cX12_isKnownHere 62 = .ok (.iconst 0, 1) := by decide +kernel
theorem d_X12_isKnownHere_63 : decode cX12_isKnownHere 63 = .ok (.bipush 9, 2) := by decide +kernel
theorem d_X12_isKnownHere_65 : decode cX12_isKnownHere 65 = .ok (.invokevirtual 222, 3) := by decide +kernel
theorem d_X12_isKnownHere_68 : decode cX12_isKnownHere 68 = .ok (.ifCond .eq 20, 3) := by decide +kernel
theorem d_X12_isKnownHere_71 : decode cX12_isKnownHere 71 = .ok (.aload_n 0, 1) := by decide +kernel
theorem d_X12_isKnownHere_72 : decode cX12_isKnownHere 72 = .ok (.iload_n 1, 1) := by decide +kernel
theorem d_X12_isKnownHere_73 : decode cX12_isKnownHere 73 = .ok (.iconst 1, 1) := by decide +kernel
theorem d_X12_isKnownHere_74 : decode cX12_isKnownHere 74 = .ok (.iadd, 1) := by decide +kernel
theorem d_X12_isKnownHere_75 : decode cX12_isKnownHere 75 = .ok (.iconst 1, 1) := by decide +kernel
theorem d_X12_isKnownHere_76 : decode cX12_isKnownHere 76 = .ok (.bipush 99, 2) := by decide +kernel
theorem d_X12_isKnownHere_78 : decode cX12_isKnownHere 78 = .ok (.invokevirtual 222, 3) := by decide +kernel
theorem d_X12_isKnownHere_81 : decode cX12_isKnownHere 81 = .ok (.ifCond .eq 7, 3) := by decide +kernel
theorem d_X12_isKnownHere_84 : decode cX12_isKnownHere 84 = .ok (.iconst 1, 1) := by decide +kernel
theorem d_X12_isKnownHere_85 : decode cX12_isKnownHere 85 = .ok (.goto 4, 3) := by decide +kernel
theorem d_X12_isKnownHere_88 : decode cX12_isKnownHere 88 = .ok (.iconst 0, 1) := by decide +kernel
theorem d_X12_isKnownHere_89 : decode cX12_isKnownHere 89 = .ok (.ireturn, 1) := by decide +kernel
abbrev X_X12_isKnownHere : gX := (RX12, cX12_isKnownHere, 2, (some .boolean), false)
def F_X12_isKnownHere_b88 (M : gM) : Option (Int32 × gM) :=
  some ((0 : Int32), M)
theorem T_X12_isKnownHere_b88 (r : (Int32 × gM)) (M : gM) (h : F_X12_isKnownHere_b88 M = some r) : GW 3 0 0 X_X12_isKnownHere 88 [] [] M (some (vi r.1), r.2) := by
  delta F_X12_isKnownHere_b88 at h
  refine GW_iconst (X := X_X12_isKnownHere) (pc := 88) (v := 0) d_X12_isKnownHere_88 (by decide) ?_
  replace h := Option.some.inj h
  subst h
  exact GW_ret (X := X_X12_isKnownHere) (pc := 89) d_X12_isKnownHere_89 rfl g_rok0
def F_X12_isKnownHere_b0 (l0 : Option Nat) (M : gM) : Option (Int32 × gM) :=
  (gO 12 M l0).bind fun i1 => (F_X12_passWord (some i1) M).bind fun M2 => (gR 12 M2 (some i1) 7).bind fun v3 => (aI 20 M2 v3 (2 : Int32)).bind fun v4 => (gC 12 M2 i1).bind fun _ => (F_X12_numberHere (some i1) (0 : Int32) (v4 - (1 : Int32)) M2).bind fun (v6, M7) => if v6 = 0 then (some ((0 : Int32), M7)) else ((gI 12 M7 (some i1) 10).bind fun v8 => (gR 12 M7 (some i1) 7).bind fun v9 => (aI 20 M7 v9 (1 : Int32)).bind fun v10 => (gC 12 M7 i1).bind fun _ => (F_X12_numberHere (some i1) (0 : Int32) (v10 - (1 : Int32)) M7).bind fun (v12, M13) => if v12 = 0 then (some ((0 : Int32), M13)) else ((gI 12 M13 (some i1) 10).bind fun v14 => (gC 12 M13 i1).bind fun _ => (F_X12_cellHere (some i1) (((59 : Int32) + ((14 : Int32) * v8)) + ((2 : Int32) * v14)) (0 : Int32) (9 : Int32) M13).bind fun (v16, M17) => if v16 = 0 then (F_X12_isKnownHere_b88 M17) else ((gC 12 M17 i1).bind fun _ => (F_X12_cellHere (some i1) ((((59 : Int32) + ((14 : Int32) * v8)) + ((2 : Int32) * v14)) + (1 : Int32)) (1 : Int32) (99 : Int32) M17).bind fun (v19, M20) => if v19 = 0 then (F_X12_isKnownHere_b88 M20) else (some ((1 : Int32), M20)))))
set_option maxHeartbeats 1000000 in
theorem T_X12_isKnownHere_b0 (r : (Int32 × gM)) (l0 : Option Nat) (M : gM) (h : F_X12_isKnownHere_b0 l0 M = some r) : GW 3 0 0 X_X12_isKnownHere 0 [(0, vr l0)] [] M (some (vi r.1), r.2) := by
  delta F_X12_isKnownHere_b0 at h
  refine GW_aload_n (X := X_X12_isKnownHere) (pc := 0) d_X12_isKnownHere_0 rfl 0 rfl ?_
  replace h := g_bd h
  obtain ⟨i1, hi1, h⟩ := h
  obtain ⟨rfl, ki1⟩ := g_gO hi1
  replace h := g_bd h
  obtain ⟨M2, hM2, h⟩ := h
  refine GW_callV (X := X_X12_isKnownHere) (pc := 1) (bc0 := 0) (bs0 := 0) (r := none) (M2 := M2) (c0 := 12) (T_X12_passWord (some i1) M M2 hM2) (Nat.le_of_ble_eq_true rfl) (Nat.le_of_ble_eq_true rfl) rfl g_cok12 ki1 yc_X12_passWord ⟨m_1275, m_1277, m_50, m_127, m_1278⟩ d_X12_isKnownHere_1 rfl (st := []) rfl (Nat.le_of_ble_eq_true rfl) (Nat.le_of_ble_eq_true rfl) (Nat.le_of_ble_eq_true rfl) (st2 := []) rfl ?_
  refine GW_aload_n (X := X_X12_isKnownHere) (pc := 4) d_X12_isKnownHere_4 rfl 0 rfl ?_
  refine GW_iconst (X := X_X12_isKnownHere) (pc := 5) (v := 0) d_X12_isKnownHere_5 (by decide) ?_
  refine GW_aload_n (X := X_X12_isKnownHere) (pc := 6) d_X12_isKnownHere_6 rfl 0 rfl ?_
  replace h := g_bd h
  obtain ⟨v3, hv3, h⟩ := h
  refine GW_getR (X := X_X12_isKnownHere) (pc := 7) f_X12_26 d_X12_isKnownHere_7 hv3 (Or.inr ⟨_, ty_12_7⟩) ?_
  refine GW_iconst (X := X_X12_isKnownHere) (pc := 10) (v := 2) d_X12_isKnownHere_10 (by decide) ?_
  replace h := g_bd h
  obtain ⟨v4, hv4, h⟩ := h
  refine GW_iald (X := X_X12_isKnownHere) (pc := 11) d_X12_isKnownHere_11 hv4 ?_
  refine GW_iconst (X := X_X12_isKnownHere) (pc := 12) (v := 1) d_X12_isKnownHere_12 (by decide) ?_
  refine GW_isub (X := X_X12_isKnownHere) (pc := 13) d_X12_isKnownHere_13 ?_
  replace h := g_bd h
  obtain ⟨_, kk5, h⟩ := h
  replace kk5 := g_gC kk5
  replace h := g_bd h
  obtain ⟨⟨v6, M7⟩, hv6, h⟩ := h
  dsimp only at h
  refine GW_callV (X := X_X12_isKnownHere) (pc := 14) (bc0 := 0) (bs0 := 0) (r := some (vi v6)) (M2 := M7) (c0 := 12) (T_X12_numberHere (some i1) (0 : Int32) (v4 - (1 : Int32)) M2 (v6, M7) hv6) (Nat.le_of_ble_eq_true rfl) (Nat.le_of_ble_eq_true rfl) rfl g_cok12 kk5 yc_X12_numberHere ⟨m_1283, m_1285, m_52, m_127, m_1286⟩ d_X12_isKnownHere_14 rfl (st := []) rfl (Nat.le_of_ble_eq_true rfl) (Nat.le_of_ble_eq_true rfl) (Nat.le_of_ble_eq_true rfl) (st2 := [vi v6]) rfl ?_
  refine GW_if_ne (X := X_X12_isKnownHere) (pc := 17) 22 d_X12_isKnownHere_17 (by decide) (fun c => ?_) (fun c => ?_)
  · replace h := g_ie c h
    refine GW_bipush (X := X_X12_isKnownHere) (pc := 22) (v := 59) d_X12_isKnownHere_22 (by decide) ?_
    refine GW_bipush (X := X_X12_isKnownHere) (pc := 24) (v := 14) d_X12_isKnownHere_24 (by decide) ?_
    refine GW_aload_n (X := X_X12_isKnownHere) (pc := 26) d_X12_isKnownHere_26 rfl 0 rfl ?_
    replace h := g_bd h
    obtain ⟨v8, hv8, h⟩ := h
    refine GW_getI (X := X_X12_isKnownHere) (pc := 27) f_X12_115 d_X12_isKnownHere_27 hv8 (Or.inl ty_12_10) ?_
    refine GW_imul (X := X_X12_isKnownHere) (pc := 30) d_X12_isKnownHere_30 ?_
    refine GW_iadd (X := X_X12_isKnownHere) (pc := 31) d_X12_isKnownHere_31 ?_
    refine GW_istore_n (X := X_X12_isKnownHere) (pc := 32) d_X12_isKnownHere_32 rfl (Nat.le_of_ble_eq_true rfl) (lv2 := [(1, vi ((59 : Int32) + ((14 : Int32) * v8))), (0, vr (some i1))]) rfl ?_
    refine GW_aload_n (X := X_X12_isKnownHere) (pc := 33) d_X12_isKnownHere_33 rfl 1 rfl ?_
    refine GW_iconst (X := X_X12_isKnownHere) (pc := 34) (v := 0) d_X12_isKnownHere_34 (by decide) ?_
    refine GW_aload_n (X := X_X12_isKnownHere) (pc := 35) d_X12_isKnownHere_35 rfl 1 rfl ?_
    replace h := g_bd h
    obtain ⟨v9, hv9, h⟩ := h
    refine GW_getR (X := X_X12_isKnownHere) (pc := 36) f_X12_26 d_X12_isKnownHere_36 hv9 (Or.inr ⟨_, ty_12_7⟩) ?_
    refine GW_iconst (X := X_X12_isKnownHere) (pc := 39) (v := 1) d_X12_isKnownHere_39 (by decide) ?_
    replace h := g_bd h
    obtain ⟨v10, hv10, h⟩ := h
    refine GW_iald (X := X_X12_isKnownHere) (pc := 40) d_X12_isKnownHere_40 hv10 ?_
    refine GW_iconst (X := X_X12_isKnownHere) (pc := 41) (v := 1) d_X12_isKnownHere_41 (by decide) ?_
    refine GW_isub (X := X_X12_isKnownHere) (pc := 42) d_X12_isKnownHere_42 ?_
    replace h := g_bd h
    obtain ⟨_, kk11, h⟩ := h
    replace kk11 := g_gC kk11
    replace h := g_bd h
    obtain ⟨⟨v12, M13⟩, hv12, h⟩ := h
    dsimp only at h
    refine GW_callV (X := X_X12_isKnownHere) (pc := 43) (bc0 := 0) (bs0 := 0) (r := some (vi v12)) (M2 := M13) (c0 := 12) (T_X12_numberHere (some i1) (0 : Int32) (v10 - (1 : Int32)) M7 (v12, M13) hv12) (Nat.le_of_ble_eq_true rfl) (Nat.le_of_ble_eq_true rfl) rfl g_cok12 kk11 yc_X12_numberHere ⟨m_1283, m_1285, m_52, m_127, m_1286⟩ d_X12_isKnownHere_43 rfl (st := []) rfl (Nat.le_of_ble_eq_true rfl) (Nat.le_of_ble_eq_true rfl) (Nat.le_of_ble_eq_true rfl) (st2 := [vi v12]) rfl ?_
    refine GW_if_ne (X := X_X12_isKnownHere) (pc := 46) 51 d_X12_isKnownHere_46 (by decide) (fun c => ?_) (fun c => ?_)
    · replace h := g_ie c h
      refine GW_iload_n (X := X_X12_isKnownHere) (pc := 51) d_X12_isKnownHere_51 rfl 0 rfl ?_
      refine GW_iconst (X := X_X12_isKnownHere) (pc := 52) (v := 2) d_X12_isKnownHere_52 (by decide) ?_
      refine GW_aload_n (X := X_X12_isKnownHere) (pc := 53) d_X12_isKnownHere_53 rfl 1 rfl ?_
      replace h := g_bd h
      obtain ⟨v14, hv14, h⟩ := h
      refine GW_getI (X := X_X12_isKnownHere) (pc := 54) f_X12_115 d_X12_isKnownHere_54 hv14 (Or.inl ty_12_10) ?_
      refine GW_imul (X := X_X12_isKnownHere) (pc := 57) d_X12_isKnownHere_57 ?_
      refine GW_iadd (X := X_X12_isKnownHere) (pc := 58) d_X12_isKnownHere_58 ?_
      refine GW_istore_n (X := X_X12_isKnownHere) (pc := 59) d_X12_isKnownHere_59 rfl (Nat.le_of_ble_eq_true rfl) (lv2 := [(1, vi (((59 : Int32) + ((14 : Int32) * v8)) + ((2 : Int32) * v14))), (0, vr (some i1))]) rfl ?_
      refine GW_aload_n (X := X_X12_isKnownHere) (pc := 60) d_X12_isKnownHere_60 rfl 1 rfl ?_
      refine GW_iload_n (X := X_X12_isKnownHere) (pc := 61) d_X12_isKnownHere_61 rfl 0 rfl ?_
      refine GW_iconst (X := X_X12_isKnownHere) (pc := 62) (v := 0) d_X12_isKnownHere_62 (by decide) ?_
      refine GW_bipush (X := X_X12_isKnownHere) (pc := 63) (v := 9) d_X12_isKnownHere_63 (by decide) ?_
      replace h := g_bd h
      obtain ⟨_, kk15, h⟩ := h
      replace kk15 := g_gC kk15
      replace h := g_bd h
      obtain ⟨⟨v16, M17⟩, hv16, h⟩ := h
      dsimp only at h
      refine GW_callV (X := X_X12_isKnownHere) (pc := 65) (bc0 := 0) (bs0 := 0) (r := some (vi v16)) (M2 := M17) (c0 := 12) (T_X12_cellHere (some i1) (((59 : Int32) + ((14 : Int32) * v8)) + ((2 : Int32) * v14)) (0 : Int32) (9 : Int32) M13 (v16, M17) hv16) (Nat.le_of_ble_eq_true rfl) (Nat.le_of_ble_eq_true rfl) rfl g_cok12 kk15 yc_X12_cellHere ⟨m_1279, m_1281, m_51, m_127, m_1282⟩ d_X12_isKnownHere_65 rfl (st := []) rfl (Nat.le_of_ble_eq_true rfl) (Nat.le_of_ble_eq_true rfl) (Nat.le_of_ble_eq_true rfl) (st2 := [vi v16]) rfl ?_
      refine GW_if_eq (X := X_X12_isKnownHere) (pc := 68) 88 d_X12_isKnownHere_68 (by decide) (fun c => ?_) (fun c => ?_)
      · replace h := g_ip c h
        refine GW_sub [] rfl ?_
        exact T_X12_isKnownHere_b88 r M17 h
      · replace h := g_ie c h
        refine GW_aload_n (X := X_X12_isKnownHere) (pc := 71) d_X12_isKnownHere_71 rfl 1 rfl ?_
        refine GW_iload_n (X := X_X12_isKnownHere) (pc := 72) d_X12_isKnownHere_72 rfl 0 rfl ?_
        refine GW_iconst (X := X_X12_isKnownHere) (pc := 73) (v := 1) d_X12_isKnownHere_73 (by decide) ?_
        refine GW_iadd (X := X_X12_isKnownHere) (pc := 74) d_X12_isKnownHere_74 ?_
        refine GW_iconst (X := X_X12_isKnownHere) (pc := 75) (v := 1) d_X12_isKnownHere_75 (by decide) ?_
        refine GW_bipush (X := X_X12_isKnownHere) (pc := 76) (v := 99) d_X12_isKnownHere_76 (by decide) ?_
        replace h := g_bd h
        obtain ⟨_, kk18, h⟩ := h
        replace kk18 := g_gC kk18
        replace h := g_bd h
        obtain ⟨⟨v19, M20⟩, hv19, h⟩ := h
        dsimp only at h
        refine GW_callV (X := X_X12_isKnownHere) (pc := 78) (bc0 := 0) (bs0 := 0) (r := some (vi v19)) (M2 := M20) (c0 := 12) (T_X12_cellHere (some i1) ((((59 : Int32) + ((14 : Int32) * v8)) + ((2 : Int32) * v14)) + (1 : Int32)) (1 : Int32) (99 : Int32) M17 (v19, M20) hv19) (Nat.le_of_ble_eq_true rfl) (Nat.le_of_ble_eq_true rfl) rfl g_cok12 kk18 yc_X12_cellHere ⟨m_1279, m_1281, m_51, m_127, m_1282⟩ d_X12_isKnownHere_78 rfl (st := []) rfl (Nat.le_of_ble_eq_true rfl) (Nat.le_of_ble_eq_true rfl) (Nat.le_of_ble_eq_true rfl) (st2 := [vi v19]) rfl ?_
        refine GW_if_eq (X := X_X12_isKnownHere) (pc := 81) 88 d_X12_isKnownHere_81 (by decide) (fun c => ?_) (fun c => ?_)
        · replace h := g_ip c h
          refine GW_sub [] rfl ?_
          exact T_X12_isKnownHere_b88 r M20 h
        · replace h := g_ie c h
          refine GW_iconst (X := X_X12_isKnownHere) (pc := 84) (v := 1) d_X12_isKnownHere_84 (by decide) ?_
          refine GW_goto (X := X_X12_isKnownHere) (pc := 85) 89 d_X12_isKnownHere_85 (by decide) ?_
          replace h := Option.some.inj h
          subst h
          exact GW_ret (X := X_X12_isKnownHere) (pc := 89) d_X12_isKnownHere_89 rfl g_rok1
    · replace h := g_ip c h
      refine GW_iconst (X := X_X12_isKnownHere) (pc := 49) (v := 0) d_X12_isKnownHere_49 (by decide) ?_
      replace h := Option.some.inj h
      subst h
      exact GW_ret (X := X_X12_isKnownHere) (pc := 50) d_X12_isKnownHere_50 rfl g_rok0
  · replace h := g_ip c h
    refine GW_iconst (X := X_X12_isKnownHere) (pc := 20) (v := 0) d_X12_isKnownHere_20 (by decide) ?_
    replace h := Option.some.inj h
    subst h
    exact GW_ret (X := X_X12_isKnownHere) (pc := 21) d_X12_isKnownHere_21 rfl g_rok0
def F_X12_isKnownHere (l0 : Option Nat) (M : gM) : Option (Int32 × gM) := F_X12_isKnownHere_b0 l0 M
theorem T_X12_isKnownHere (l0 : Option Nat) (M : gM) (r : (Int32 × gM)) (h : F_X12_isKnownHere l0 M = some r) : g_Met 3 0 0 yX12_isKnownHere X_X12_isKnownHere [vr l0] M (some (vi r.1), r.2) :=
  g_Met_of pn_RX12 rfl (Nat.le_of_ble_eq_true rfl) (fun h => by cases h) (GW_sub [0] rfl (T_X12_isKnownHere_b0 r l0 M h))
/-! ForgetHeirsModel.houseLineHere(I)Z -/
theorem d_X12_houseLineHere_0 : decode cX12_houseLineHere 0 = .ok (.aload_n 0, 1) := by decide +kernel
theorem d_X12_houseLineHere_1 : decode cX12_houseLineHere 1 = .ok (.ldc2_w 229, 3) := by decide +kernel
theorem d_X12_houseLineHere_4 : decode cX12_houseLineHere 4 = .ok (.invokevirtual 101, 3) := by decide +kernel
theorem d_X12_houseLineHere_7 : decode cX12_houseLineHere 7 = .ok (.ifCond .eq 9, 3) := by decide +kernel
theorem d_X12_houseLineHere_10 : decode cX12_houseLineHere 10 = .ok (.aload_n 0, 1) := by decide +kernel
theorem d_X12_houseLineHere_11 : decode cX12_houseLineHere 11 = .ok (.iload_n 1, 1) := by decide +kernel
theorem d_X12_houseLineHere_12 : decode cX12_houseLineHere 12 = .ok (.invokevirtual 231, 3) := by decide +kernel
theorem d_X12_houseLineHere_15 : decode cX12_houseLineHere 15 = .ok (.ireturn, 1) := by decide +kernel
theorem d_X12_houseLineHere_16 : decode cX12_houseLineHere 16 = .ok (.aload_n 0, 1) := by decide +kernel
theorem d_X12_houseLineHere_17 : decode cX12_houseLineHere 17 = .ok (.getfield 26, 3) := by decide +kernel
theorem d_X12_houseLineHere_20 : decode cX12_houseLineHere 20 = .ok (.iconst 0, 1) := by decide +kernel
theorem d_X12_houseLineHere_21 : decode cX12_houseLineHere 21 = .ok (.iaload, 1) := by decide +kernel
theorem d_X12_houseLineHere_22 : decode cX12_houseLineHere 22 = .ok (.ifCond .ne 10, 3) := by decide +kernel
theorem d_X12_houseLineHere_25 : decode cX12_houseLineHere 25 = .ok (.aload_n 0, 1) := by decide +kernel
theorem d_X12_houseLineHere_26 : decode cX12_houseLineHere 26 = .ok (.iconst 4, 1) := by decide +kernel
theorem d_X12_houseLineHere_27 : decode cX12_houseLineHere 27 = .ok (.iload_n 1, 1) := by decide +kernel
theorem d_X12_houseLineHere_28 : decode cX12_houseLineHere 28 = .ok (.invokevirtual 111, 3) := by decide +kernel
theorem d_X12_houseLineHere_31 : decode cX12_houseLineHere 31 = .ok (.ireturn, 1) := by decide +kernel
theorem d_X12_houseLineHere_32 : decode cX12_houseLineHere 32 = .ok (.aload_n 0, 1) := by decide +kernel
theorem d_X12_houseLineHere_33 : decode cX12_houseLineHere 33 = .ok (.ldc2_w 124, 3) := by decide +kernel
theorem d_X12_houseLineHere_36 : decode cX12_houseLineHere 36 = .ok (.invokevirtual 101, 3) := by decide +kernel
theorem d_X12_houseLineHere_39 : decode cX12_houseLineHere 39 = .ok (.ifCond .eq 9, 3) := by decide +kernel
theorem d_X12_houseLineHere_42 : decode cX12_houseLineHere 42 = .ok (.aload_n 0, 1) := by decide +kernel
theorem d_X12_houseLineHere_43 : decode cX12_houseLineHere 43 = .ok (.iload_n 1, 1) := by decide +kernel
theorem d_X12_houseLineHere_44 : decode cX12_houseLineHere 44 = .ok (.invokevirtual 234, 3) := by decide +kernel
theorem d_X12_houseLineHere_47 : decode cX12_houseLineHere 47 = .ok (.ireturn, 1) := by decide +kernel
theorem d_X12_houseLineHere_48 : decode cX12_houseLineHere 48 = .ok (.aload_n 0, 1) := by decide +kernel
theorem d_X12_houseLineHere_49 : decode cX12_houseLineHere 49 = .ok (.ldc2_w 122, 3) := by decide +kernel
theorem d_X12_houseLineHere_52 : decode cX12_houseLineHere 52 = .ok (.invokevirtual 101, 3) := by decide +kernel
theorem d_X12_houseLineHere_55 : decode cX12_houseLineHere 55 = .ok (.ifCond .eq 9, 3) := by decide +kernel
theorem d_X12_houseLineHere_58 : decode cX12_houseLineHere 58 = .ok (.aload_n 0, 1) := by decide +kernel
theorem d_X12_houseLineHere_59 : decode cX12_houseLineHere 59 = .ok (.iload_n 1, 1) := by decide +kernel
theorem d_X12_houseLineHere_60 : decode cX12_houseLineHere 60 = .ok (.invokevirtual 237, 3) := by decide +kernel
theorem d_X12_houseLineHere_63 : decode cX12_houseLineHere 63 = .ok (.ireturn, 1) := by decide +kernel
theorem d_X12_houseLineHere_64 : decode cX12_houseLineHere 64 = .ok (.aload_n 0, 1) := by decide +kernel
theorem d_X12_houseLineHere_65 : decode cX12_houseLineHere 65 = .ok (.ldc2_w 136, 3) := by decide +kernel
theorem d_X12_houseLineHere_68 : decode cX12_houseLineHere 68 = .ok (.invokevirtual 101, 3) := by decide +kernel
theorem d_X12_houseLineHere_71 : decode cX12_houseLineHere 71 = .ok (.ifCond .eq 8, 3) := by decide +kernel
theorem d_X12_houseLineHere_74 : decode cX12_houseLineHere 74 = .ok (.aload_n 0, 1) := by decide +kernel
theorem d_X12_houseLineHere_75 : decode cX12_houseLineHere 75 = .ok (.invokevirtual 240, 3) := by decide +kernel
theorem d_X12_houseLineHere_78 : decode cX12_houseLineHere 78 = .ok (.ireturn, 1) := by decide +kernel
theorem d_X12_houseLineHere_79 : decode cX12_houseLineHere 79 = .ok (.aload_n 0, 1) := by decide +kernel
theorem d_X12_houseLineHere_80 : decode cX12_houseLineHere 80 = .ok (.ldc2_w 134, 3) := by decide +kernel
theorem d_X12_houseLineHere_83 : decode cX12_houseLineHere 83 = .ok (.invokevirtual 101, 3) := by decide +kernel
theorem d_X12_houseLineHere_86 : decode cX12_houseLineHere 86 = .ok (.ifCond .eq 10, 3) := by decide +kernel
theorem d_X12_houseLineHere_89 : decode cX12_houseLineHere 89 = .ok (.aload_n 0, 1) := by decide +kernel
theorem d_X12_houseLineHere_90 : decode cX12_houseLineHere 90 = .ok (.invokevirtual 243, 3) := by decide +kernel
theorem d_X12_houseLineHere_93 : decode cX12_houseLineHere 93 = .ok (.goto 25, 3) := by decide +kernel
theorem d_X12_houseLineHere_96 : decode cX12_houseLineHere 96 = .ok (.aload_n 0, 1) := by decide +kernel
theorem d_X12_houseLineHere_97 : decode cX12_houseLineHere 97 = .ok (.ldc2_w 246, 3) := by decide +kernel
theorem d_X12_houseLineHere_100 : decode cX12_houseLineHere 100 = .ok (.invokevirtual 101, 3) := by decide +kernel
theorem d_X12_houseLineHere_103 : decode cX12_houseLineHere 103 = .ok (.ifCond .eq 11, 3) := by decide +kernel
theorem d_X12_houseLineHere_106 : decode cX12_houseLineHere 106 = .ok (.aload_n 0, 1) := by decide +kernel
theorem d_X12_houseLineHere_107 : decode cX12_houseLineHere 107 = .ok (.iload_n 1, 1) := by decide +kernel
theorem d_X12_houseLineHere_108 : decode cX12_houseLineHere 108 = .ok (.invokevirtual 248, 3) := by decide +kernel
theorem d_X12_houseLineHere_111 : decode cX12_houseLineHere 111 = .ok (.goto 7, 3) := by decide +kernel
theorem d_X12_houseLineHere_114 : decode cX12_houseLineHere 114 = .ok (.aload_n 0, 1) := by decide +kernel
theorem d_X12_houseLineHere_115 : decode cX12_houseLineHere 115 = .ok (.invokevirtual 251, 3) := by decide +kernel
theorem d_X12_houseLineHere_118 : decode cX12_houseLineHere 118 = .ok (.ireturn, 1) := by decide +kernel
abbrev X_X12_houseLineHere : gX := (RX12, cX12_houseLineHere, 2, (some .boolean), false)
def F_X12_houseLineHere_b0 (l0 : Option Nat) (l1 : Int32) (M : gM) : Option (Int32 × gM) :=
  (gO 12 M l0).bind fun i1 => (F_X12_isWord (some i1) (448546567013 : Int64) M).bind fun (v2, M3) => if v2 = 0 then ((gR 12 M3 (some i1) 7).bind fun v4 => (aI 20 M3 v4 (0 : Int32)).bind fun v5 => if v5 = 0 then ((gC 12 M3 i1).bind fun _ => (F_X12_fails (some i1) (4 : Int32) l1 M3).bind fun (v46, M47) => if v46 = 0 ∨ v46 = 1 then some (v46, M47) else none) else ((gC 12 M3 i1).bind fun _ => (F_X12_isWord (some i1) (499967946343 : Int64) M3).bind fun (v7, M8) => if v7 = 0 then ((gC 12 M8 i1).bind fun _ => (F_X12_isWord (some i1) (1751476594 : Int64) M8).bind fun (v10, M11) => if v10 = 0 then ((gC 12 M11 i1).bind fun _ => (F_X12_isWord (some i1) (1936682599 : Int64) M11).bind fun (v13, M14) => if v13 = 0 then ((gC 12 M14 i1).bind fun _ => (F_X12_isWord (some i1) (448311616883 : Int64) M14).bind fun (v16, M17) => if v16 = 0 then ((gC 12 M17 i1).bind fun _ => (F_X12_isWord (some i1) (27988572932501107 : Int64) M17).bind fun (v19, M20) => if v19 = 0 then ((gC 12 M20 i1).bind fun _ => (F_X12_isKnownHere (some i1) M20).bind fun (v22, M23) => if v22 = 0 ∨ v22 = 1 then some (v22, M23) else none) else ((gC 12 M20 i1).bind fun _ => (F_X12_areCousinsHere (some i1) l1 M20).bind fun (v26, M27) => if v26 = 0 ∨ v26 = 1 then some (v26, M27) else none)) else ((gC 12 M17 i1).bind fun _ => (F_X12_isHateHere (some i1) M17).bind fun (v30, M31) => if v30 = 0 ∨ v30 = 1 then some (v30, M31) else none)) else ((gC 12 M14 i1).bind fun _ => (F_X12_isSongHere (some i1) M14).bind fun (v34, M35) => if v34 = 0 ∨ v34 = 1 then some (v34, M35) else none)) else ((gC 12 M11 i1).bind fun _ => (F_X12_isHeirHere (some i1) l1 M11).bind fun (v38, M39) => if v38 = 0 ∨ v38 = 1 then some (v38, M39) else none)) else ((gC 12 M8 i1).bind fun _ => (F_X12_isThingHere (some i1) l1 M8).bind fun (v42, M43) => if v42 = 0 ∨ v42 = 1 then some (v42, M43) else none))) else ((gC 12 M3 i1).bind fun _ => (F_X12_isHouseHere (some i1) l1 M3).bind fun (v50, M51) => if v50 = 0 ∨ v50 = 1 then some (v50, M51) else none)
set_option maxHeartbeats 4000000 in
theorem T_X12_houseLineHere_b0 (r : (Int32 × gM)) (l0 : Option Nat) (l1 : Int32) (M : gM) (h : F_X12_houseLineHere_b0 l0 l1 M = some r) : GW 4 0 0 X_X12_houseLineHere 0 [(0, vr l0), (1, vi l1)] [] M (some (vi r.1), r.2) := by
  delta F_X12_houseLineHere_b0 at h
  refine GW_aload_n (X := X_X12_houseLineHere) (pc := 0) d_X12_houseLineHere_0 rfl 0 rfl ?_
  refine GW_ldc2 (X := X_X12_houseLineHere) (pc := 1) d_X12_houseLineHere_1 m_1247 ?_
  replace h := g_bd h
  obtain ⟨i1, hi1, h⟩ := h
  obtain ⟨rfl, ki1⟩ := g_gO hi1
  replace h := g_bd h
  obtain ⟨⟨v2, M3⟩, hv2, h⟩ := h
  dsimp only at h
  refine GW_callV (X := X_X12_houseLineHere) (pc := 4) (bc0 := 0) (bs0 := 0) (r := some (vi v2)) (M2 := M3) (c0 := 12) (T_X12_isWord (some i1) (448546567013 : Int64) M (v2, M3) hv2) (Nat.le_of_ble_eq_true rfl) (Nat.le_of_ble_eq_true rfl) rfl g_cok12 ki1 yc_X12_isWord ⟨m_1248, m_1250, m_45, m_127, m_1251⟩ d_X12_houseLineHere_4 rfl (st := []) rfl (Nat.le_of_ble_eq_true rfl) (Nat.le_of_ble_eq_true rfl) (Nat.le_of_ble_eq_true rfl) (st2 := [vi v2]) rfl ?_
  refine GW_if_eq (X := X_X12_houseLineHere) (pc := 7) 16 d_X12_houseLineHere_7 (by decide) (fun c => ?_) (fun c => ?_)
  · replace h := g_ip c h
    refine GW_aload_n (X := X_X12_houseLineHere) (pc := 16) d_X12_houseLineHere_16 rfl 0 rfl ?_
    replace h := g_bd h
    obtain ⟨v4, hv4, h⟩ := h
    refine GW_getR (X := X_X12_houseLineHere) (pc := 17) f_X12_26 d_X12_houseLineHere_17 hv4 (Or.inr ⟨_, ty_12_7⟩) ?_
    refine GW_iconst (X := X_X12_houseLineHere) (pc := 20) (v := 0) d_X12_houseLineHere_20 (by decide) ?_
    replace h := g_bd h
    obtain ⟨v5, hv5, h⟩ := h
    refine GW_iald (X := X_X12_houseLineHere) (pc := 21) d_X12_houseLineHere_21 hv5 ?_
    refine GW_if_ne (X := X_X12_houseLineHere) (pc := 22) 32 d_X12_houseLineHere_22 (by decide) (fun c => ?_) (fun c => ?_)
    · replace h := g_ie c h
      refine GW_aload_n (X := X_X12_houseLineHere) (pc := 32) d_X12_houseLineHere_32 rfl 0 rfl ?_
      refine GW_ldc2 (X := X_X12_houseLineHere) (pc := 33) d_X12_houseLineHere_33 m_1256 ?_
      replace h := g_bd h
      obtain ⟨_, kk6, h⟩ := h
      replace kk6 := g_gC kk6
      replace h := g_bd h
      obtain ⟨⟨v7, M8⟩, hv7, h⟩ := h
      dsimp only at h
      refine GW_callV (X := X_X12_houseLineHere) (pc := 36) (bc0 := 0) (bs0 := 0) (r := some (vi v7)) (M2 := M8) (c0 := 12) (T_X12_isWord (some i1) (499967946343 : Int64) M3 (v7, M8) hv7) (Nat.le_of_ble_eq_true rfl) (Nat.le_of_ble_eq_true rfl) rfl g_cok12 kk6 yc_X12_isWord ⟨m_1248, m_1250, m_45, m_127, m_1251⟩ d_X12_houseLineHere_36 rfl (st := []) rfl (Nat.le_of_ble_eq_true rfl) (Nat.le_of_ble_eq_true rfl) (Nat.le_of_ble_eq_true rfl) (st2 := [vi v7]) rfl ?_
      refine GW_if_eq (X := X_X12_houseLineHere) (pc := 39) 48 d_X12_houseLineHere_39 (by decide) (fun c => ?_) (fun c => ?_)
      · replace h := g_ip c h
        refine GW_aload_n (X := X_X12_houseLineHere) (pc := 48) d_X12_houseLineHere_48 rfl 0 rfl ?_
        refine GW_ldc2 (X := X_X12_houseLineHere) (pc := 49) d_X12_houseLineHere_49 m_1258 ?_
        replace h := g_bd h
        obtain ⟨_, kk9, h⟩ := h
        replace kk9 := g_gC kk9
        replace h := g_bd h
        obtain ⟨⟨v10, M11⟩, hv10, h⟩ := h
        dsimp only at h
        refine GW_callV (X := X_X12_houseLineHere) (pc := 52) (bc0 := 0) (bs0 := 0) (r := some (vi v10)) (M2 := M11) (c0 := 12) (T_X12_isWord (some i1) (1751476594 : Int64) M8 (v10, M11) hv10) (Nat.le_of_ble_eq_true rfl) (Nat.le_of_ble_eq_true rfl) rfl g_cok12 kk9 yc_X12_isWord ⟨m_1248, m_1250, m_45, m_127, m_1251⟩ d_X12_houseLineHere_52 rfl (st := []) rfl (Nat.le_of_ble_eq_true rfl) (Nat.le_of_ble_eq_true rfl) (Nat.le_of_ble_eq_true rfl) (st2 := [vi v10]) rfl ?_
        refine GW_if_eq (X := X_X12_houseLineHere) (pc := 55) 64 d_X12_houseLineHere_55 (by decide) (fun c => ?_) (fun c => ?_)
        · replace h := g_ip c h
          refine GW_aload_n (X := X_X12_houseLineHere) (pc := 64) d_X12_houseLineHere_64 rfl 0 rfl ?_
          refine GW_ldc2 (X := X_X12_houseLineHere) (pc := 65) d_X12_houseLineHere_65 m_1257 ?_
          replace h := g_bd h
          obtain ⟨_, kk12, h⟩ := h
          replace kk12 := g_gC kk12
          replace h := g_bd h
          obtain ⟨⟨v13, M14⟩, hv13, h⟩ := h
          dsimp only at h
          refine GW_callV (X := X_X12_houseLineHere) (pc := 68) (bc0 := 0) (bs0 := 0) (r := some (vi v13)) (M2 := M14) (c0 := 12) (T_X12_isWord (some i1) (1936682599 : Int64) M11 (v13, M14) hv13) (Nat.le_of_ble_eq_true rfl) (Nat.le_of_ble_eq_true rfl) rfl g_cok12 kk12 yc_X12_isWord ⟨m_1248, m_1250, m_45, m_127, m_1251⟩ d_X12_houseLineHere_68 rfl (st := []) rfl (Nat.le_of_ble_eq_true rfl) (Nat.le_of_ble_eq_true rfl) (Nat.le_of_ble_eq_true rfl) (st2 := [vi v13]) rfl ?_
          refine GW_if_eq (X := X_X12_houseLineHere) (pc := 71) 79 d_X12_houseLineHere_71 (by decide) (fun c => ?_) (fun c => ?_)
          · replace h := g_ip c h
            refine GW_aload_n (X := X_X12_houseLineHere) (pc := 79) d_X12_houseLineHere_79 rfl 0 rfl ?_
            refine GW_ldc2 (X := X_X12_houseLineHere) (pc := 80) d_X12_houseLineHere_80 m_1259 ?_
            replace h := g_bd h
            obtain ⟨_, kk15, h⟩ := h
            replace kk15 := g_gC kk15
            replace h := g_bd h
            obtain ⟨⟨v16, M17⟩, hv16, h⟩ := h
            dsimp only at h
            refine GW_callV (X := X_X12_houseLineHere) (pc := 83) (bc0 := 0) (bs0 := 0) (r := some (vi v16)) (M2 := M17) (c0 := 12) (T_X12_isWord (some i1) (448311616883 : Int64) M14 (v16, M17) hv16) (Nat.le_of_ble_eq_true rfl) (Nat.le_of_ble_eq_true rfl) rfl g_cok12 kk15 yc_X12_isWord ⟨m_1248, m_1250, m_45, m_127, m_1251⟩ d_X12_houseLineHere_83 rfl (st := []) rfl (Nat.le_of_ble_eq_true rfl) (Nat.le_of_ble_eq_true rfl) (Nat.le_of_ble_eq_true rfl) (st2 := [vi v16]) rfl ?_
            refine GW_if_eq (X := X_X12_houseLineHere) (pc := 86) 96 d_X12_houseLineHere_86 (by decide) (fun c => ?_) (fun c => ?_)
            · replace h := g_ip c h
              refine GW_aload_n (X := X_X12_houseLineHere) (pc := 96) d_X12_houseLineHere_96 rfl 0 rfl ?_
              refine GW_ldc2 (X := X_X12_houseLineHere) (pc := 97) d_X12_houseLineHere_97 m_1260 ?_
              replace h := g_bd h
              obtain ⟨_, kk18, h⟩ := h
              replace kk18 := g_gC kk18
              replace h := g_bd h
              obtain ⟨⟨v19, M20⟩, hv19, h⟩ := h
              dsimp only at h
              refine GW_callV (X := X_X12_houseLineHere) (pc := 100) (bc0 := 0) (bs0 := 0) (r := some (vi v19)) (M2 := M20) (c0 := 12) (T_X12_isWord (some i1) (27988572932501107 : Int64) M17 (v19, M20) hv19) (Nat.le_of_ble_eq_true rfl) (Nat.le_of_ble_eq_true rfl) rfl g_cok12 kk18 yc_X12_isWord ⟨m_1248, m_1250, m_45, m_127, m_1251⟩ d_X12_houseLineHere_100 rfl (st := []) rfl (Nat.le_of_ble_eq_true rfl) (Nat.le_of_ble_eq_true rfl) (Nat.le_of_ble_eq_true rfl) (st2 := [vi v19]) rfl ?_
              refine GW_if_eq (X := X_X12_houseLineHere) (pc := 103) 114 d_X12_houseLineHere_103 (by decide) (fun c => ?_) (fun c => ?_)
              · replace h := g_ip c h
                refine GW_aload_n (X := X_X12_houseLineHere) (pc := 114) d_X12_houseLineHere_114 rfl 0 rfl ?_
                replace h := g_bd h
                obtain ⟨_, kk21, h⟩ := h
                replace kk21 := g_gC kk21
                replace h := g_bd h
                obtain ⟨⟨v22, M23⟩, hv22, h⟩ := h
                dsimp only at h
                refine GW_callV (X := X_X12_houseLineHere) (pc := 115) (bc0 := 0) (bs0 := 0) (r := some (vi v22)) (M2 := M23) (c0 := 12) (T_X12_isKnownHere (some i1) M20 (v22, M23) hv22) (Nat.le_of_ble_eq_true rfl) (Nat.le_of_ble_eq_true rfl) rfl g_cok12 kk21 yc_X12_isKnownHere ⟨m_1317, m_1319, m_59, m_127, m_1320⟩ d_X12_houseLineHere_115 rfl (st := []) rfl (Nat.le_of_ble_eq_true rfl) (Nat.le_of_ble_eq_true rfl) (Nat.le_of_ble_eq_true rfl) (st2 := [vi v22]) rfl ?_
                replace h := g_if2 h
                obtain ⟨hz24, h⟩ := h
                replace h := Option.some.inj h
                subst h
                exact GW_ret (X := X_X12_houseLineHere) (pc := 118) d_X12_houseLineHere_118 rfl (g_zok hz24)
              · replace h := g_ie c h
                refine GW_aload_n (X := X_X12_houseLineHere) (pc := 106) d_X12_houseLineHere_106 rfl 0 rfl ?_
                refine GW_iload_n (X := X_X12_houseLineHere) (pc := 107) d_X12_houseLineHere_107 rfl 1 rfl ?_
                replace h := g_bd h
                obtain ⟨_, kk25, h⟩ := h
                replace kk25 := g_gC kk25
                replace h := g_bd h
                obtain ⟨⟨v26, M27⟩, hv26, h⟩ := h
                dsimp only at h
                refine GW_callV (X := X_X12_houseLineHere) (pc := 108) (bc0 := 0) (bs0 := 0) (r := some (vi v26)) (M2 := M27) (c0 := 12) (T_X12_areCousinsHere (some i1) l1 M20 (v26, M27) hv26) (Nat.le_of_ble_eq_true rfl) (Nat.le_of_ble_eq_true rfl) rfl g_cok12 kk25 yc_X12_areCousinsHere ⟨m_1310, m_1312, m_58, m_127, m_1313⟩ d_X12_houseLineHere_108 rfl (st := []) rfl (Nat.le_of_ble_eq_true rfl) (Nat.le_of_ble_eq_true rfl) (Nat.le_of_ble_eq_true rfl) (st2 := [vi v26]) rfl ?_
                refine GW_goto (X := X_X12_houseLineHere) (pc := 111) 118 d_X12_houseLineHere_111 (by decide) ?_
                replace h := g_if2 h
                obtain ⟨hz28, h⟩ := h
                replace h := Option.some.inj h
                subst h
                exact GW_ret (X := X_X12_houseLineHere) (pc := 118) d_X12_houseLineHere_118 rfl (g_zok hz28)
            · replace h := g_ie c h
              refine GW_aload_n (X := X_X12_houseLineHere) (pc := 89) d_X12_houseLineHere_89 rfl 0 rfl ?_
              replace h := g_bd h
              obtain ⟨_, kk29, h⟩ := h
              replace kk29 := g_gC kk29
              replace h := g_bd h
              obtain ⟨⟨v30, M31⟩, hv30, h⟩ := h
              dsimp only at h
              refine GW_callV (X := X_X12_houseLineHere) (pc := 90) (bc0 := 0) (bs0 := 0) (r := some (vi v30)) (M2 := M31) (c0 := 12) (T_X12_isHateHere (some i1) M17 (v30, M31) hv30) (Nat.le_of_ble_eq_true rfl) (Nat.le_of_ble_eq_true rfl) rfl g_cok12 kk29 yc_X12_isHateHere ⟨m_1306, m_1308, m_57, m_127, m_1309⟩ d_X12_houseLineHere_90 rfl (st := []) rfl (Nat.le_of_ble_eq_true rfl) (Nat.le_of_ble_eq_true rfl) (Nat.le_of_ble_eq_true rfl) (st2 := [vi v30]) rfl ?_
              refine GW_goto (X := X_X12_houseLineHere) (pc := 93) 118 d_X12_houseLineHere_93 (by decide) ?_
              replace h := g_if2 h
              obtain ⟨hz32, h⟩ := h
              replace h := Option.some.inj h
              subst h
              exact GW_ret (X := X_X12_houseLineHere) (pc := 118) d_X12_houseLineHere_118 rfl (g_zok hz32)
          · replace h := g_ie c h
            refine GW_aload_n (X := X_X12_houseLineHere) (pc := 74) d_X12_houseLineHere_74 rfl 0 rfl ?_
            replace h := g_bd h
            obtain ⟨_, kk33, h⟩ := h
            replace kk33 := g_gC kk33
            replace h := g_bd h
            obtain ⟨⟨v34, M35⟩, hv34, h⟩ := h
            dsimp only at h
            refine GW_callV (X := X_X12_houseLineHere) (pc := 75) (bc0 := 0) (bs0 := 0) (r := some (vi v34)) (M2 := M35) (c0 := 12) (T_X12_isSongHere (some i1) M14 (v34, M35) hv34) (Nat.le_of_ble_eq_true rfl) (Nat.le_of_ble_eq_true rfl) rfl g_cok12 kk33 yc_X12_isSongHere ⟨m_1302, m_1304, m_56, m_127, m_1305⟩ d_X12_houseLineHere_75 rfl (st := []) rfl (Nat.le_of_ble_eq_true rfl) (Nat.le_of_ble_eq_true rfl) (Nat.le_of_ble_eq_true rfl) (st2 := [vi v34]) rfl ?_
            replace h := g_if2 h
            obtain ⟨hz36, h⟩ := h
            replace h := Option.some.inj h
            subst h
            exact GW_ret (X := X_X12_houseLineHere) (pc := 78) d_X12_houseLineHere_78 rfl (g_zok hz36)
        · replace h := g_ie c h
          refine GW_aload_n (X := X_X12_houseLineHere) (pc := 58) d_X12_houseLineHere_58 rfl 0 rfl ?_
          refine GW_iload_n (X := X_X12_houseLineHere) (pc := 59) d_X12_houseLineHere_59 rfl 1 rfl ?_
          replace h := g_bd h
          obtain ⟨_, kk37, h⟩ := h
          replace kk37 := g_gC kk37
          replace h := g_bd h
          obtain ⟨⟨v38, M39⟩, hv38, h⟩ := h
          dsimp only at h
          refine GW_callV (X := X_X12_houseLineHere) (pc := 60) (bc0 := 0) (bs0 := 0) (r := some (vi v38)) (M2 := M39) (c0 := 12) (T_X12_isHeirHere (some i1) l1 M11 (v38, M39) hv38) (Nat.le_of_ble_eq_true rfl) (Nat.le_of_ble_eq_true rfl) rfl g_cok12 kk37 yc_X12_isHeirHere ⟨m_1298, m_1300, m_55, m_127, m_1301⟩ d_X12_houseLineHere_60 rfl (st := []) rfl (Nat.le_of_ble_eq_true rfl) (Nat.le_of_ble_eq_true rfl) (Nat.le_of_ble_eq_true rfl) (st2 := [vi v38]) rfl ?_
          replace h := g_if2 h
          obtain ⟨hz40, h⟩ := h
          replace h := Option.some.inj h
          subst h
          exact GW_ret (X := X_X12_houseLineHere) (pc := 63) d_X12_houseLineHere_63 rfl (g_zok hz40)
      · replace h := g_ie c h
        refine GW_aload_n (X := X_X12_houseLineHere) (pc := 42) d_X12_houseLineHere_42 rfl 0 rfl ?_
        refine GW_iload_n (X := X_X12_houseLineHere) (pc := 43) d_X12_houseLineHere_43 rfl 1 rfl ?_
        replace h := g_bd h
        obtain ⟨_, kk41, h⟩ := h
        replace kk41 := g_gC kk41
        replace h := g_bd h
        obtain ⟨⟨v42, M43⟩, hv42, h⟩ := h
        dsimp only at h
        refine GW_callV (X := X_X12_houseLineHere) (pc := 44) (bc0 := 0) (bs0 := 0) (r := some (vi v42)) (M2 := M43) (c0 := 12) (T_X12_isThingHere (some i1) l1 M8 (v42, M43) hv42) (Nat.le_of_ble_eq_true rfl) (Nat.le_of_ble_eq_true rfl) rfl g_cok12 kk41 yc_X12_isThingHere ⟨m_1294, m_1296, m_54, m_127, m_1297⟩ d_X12_houseLineHere_44 rfl (st := []) rfl (Nat.le_of_ble_eq_true rfl) (Nat.le_of_ble_eq_true rfl) (Nat.le_of_ble_eq_true rfl) (st2 := [vi v42]) rfl ?_
        replace h := g_if2 h
        obtain ⟨hz44, h⟩ := h
        replace h := Option.some.inj h
        subst h
        exact GW_ret (X := X_X12_houseLineHere) (pc := 47) d_X12_houseLineHere_47 rfl (g_zok hz44)
    · replace h := g_ip c h
      refine GW_aload_n (X := X_X12_houseLineHere) (pc := 25) d_X12_houseLineHere_25 rfl 0 rfl ?_
      refine GW_iconst (X := X_X12_houseLineHere) (pc := 26) (v := 4) d_X12_houseLineHere_26 (by decide) ?_
      refine GW_iload_n (X := X_X12_houseLineHere) (pc := 27) d_X12_houseLineHere_27 rfl 1 rfl ?_
      replace h := g_bd h
      obtain ⟨_, kk45, h⟩ := h
      replace kk45 := g_gC kk45
      replace h := g_bd h
      obtain ⟨⟨v46, M47⟩, hv46, h⟩ := h
      dsimp only at h
      refine GW_callV (X := X_X12_houseLineHere) (pc := 28) (bc0 := 0) (bs0 := 0) (r := some (vi v46)) (M2 := M47) (c0 := 12) (T_X12_fails (some i1) (4 : Int32) l1 M3 (v46, M47) hv46) (Nat.le_of_ble_eq_true rfl) (Nat.le_of_ble_eq_true rfl) rfl g_cok12 kk45 yc_X12_fails ⟨m_1263, m_1265, m_47, m_127, m_1266⟩ d_X12_houseLineHere_28 rfl (st := []) rfl (Nat.le_of_ble_eq_true rfl) (Nat.le_of_ble_eq_true rfl) (Nat.le_of_ble_eq_true rfl) (st2 := [vi v46]) rfl ?_
      replace h := g_if2 h
      obtain ⟨hz48, h⟩ := h
      replace h := Option.some.inj h
      subst h
      exact GW_ret (X := X_X12_houseLineHere) (pc := 31) d_X12_houseLineHere_31 rfl (g_zok hz48)
  · replace h := g_ie c h
    refine GW_aload_n (X := X_X12_houseLineHere) (pc := 10) d_X12_houseLineHere_10 rfl 0 rfl ?_
    refine GW_iload_n (X := X_X12_houseLineHere) (pc := 11) d_X12_houseLineHere_11 rfl 1 rfl ?_
    replace h := g_bd h
    obtain ⟨_, kk49, h⟩ := h
    replace kk49 := g_gC kk49
    replace h := g_bd h
    obtain ⟨⟨v50, M51⟩, hv50, h⟩ := h
    dsimp only at h
    refine GW_callV (X := X_X12_houseLineHere) (pc := 12) (bc0 := 0) (bs0 := 0) (r := some (vi v50)) (M2 := M51) (c0 := 12) (T_X12_isHouseHere (some i1) l1 M3 (v50, M51) hv50) (Nat.le_of_ble_eq_true rfl) (Nat.le_of_ble_eq_true rfl) rfl g_cok12 kk49 yc_X12_isHouseHere ⟨m_1271, m_1273, m_49, m_127, m_1274⟩ d_X12_houseLineHere_12 rfl (st := []) rfl (Nat.le_of_ble_eq_true rfl) (Nat.le_of_ble_eq_true rfl) (Nat.le_of_ble_eq_true rfl) (st2 := [vi v50]) rfl ?_
    replace h := g_if2 h
    obtain ⟨hz52, h⟩ := h
    replace h := Option.some.inj h
    subst h
    exact GW_ret (X := X_X12_houseLineHere) (pc := 15) d_X12_houseLineHere_15 rfl (g_zok hz52)
def F_X12_houseLineHere (l0 : Option Nat) (l1 : Int32) (M : gM) : Option (Int32 × gM) := F_X12_houseLineHere_b0 l0 l1 M
theorem T_X12_houseLineHere (l0 : Option Nat) (l1 : Int32) (M : gM) (r : (Int32 × gM)) (h : F_X12_houseLineHere l0 l1 M = some r) : g_Met 4 0 0 yX12_houseLineHere X_X12_houseLineHere [vr l0, vi l1] M (some (vi r.1), r.2) :=
  g_Met_of pn_RX12 rfl (Nat.le_of_ble_eq_true rfl) (fun h => by cases h) (GW_sub [0, 1] rfl (T_X12_houseLineHere_b0 r l0 l1 M h))
/-! ForgetHeirsModel.makes(I)Z -/
theorem d_X12_makes_0 : decode cX12_makes 0 = .ok (.aload_n 0, 1) := by decide +kernel
theorem d_X12_makes_1 : decode cX12_makes 1 = .ok (.getfield 153, 3) := by decide +kernel
theorem d_X12_makes_4 : decode cX12_makes 4 = .ok (.bipush 60, 2) := by decide +kernel
theorem d_X12_makes_6 : decode cX12_makes 6 = .ok (.if_icmp .ne 10, 3) := by decide +kernel
theorem d_X12_makes_9 : decode cX12_makes 9 = .ok (.aload_n 0, 1) := by decide +kernel
theorem d_X12_makes_10 : decode cX12_makes 10 = .ok (.iconst 3, 1) := by decide +kernel
theorem d_X12_makes_11 : decode cX12_makes 11 = .ok (.iload_n 1, 1) := by decide +kernel
theorem d_X12_makes_12 : decode cX12_makes 12 = .ok (.invokevirtual 111, 3) := by decide +kernel
theorem d_X12_makes_15 : decode cX12_makes 15 = .ok (.ireturn, 1) := by decide +kernel
theorem d_X12_makes_16 : decode cX12_makes 16 = .ok (.aload_n 0, 1) := by decide +kernel
theorem d_X12_makes_17 : decode cX12_makes 17 = .ok (.dup, 1) := by decide +kernel
theorem d_X12_makes_18 : decode cX12_makes 18 = .ok (.getfield 153, 3) := by decide +kernel
theorem d_X12_makes_21 : decode cX12_makes 21 = .ok (.iconst 1, 1) := by decide +kernel
theorem d_X12_makes_22 : decode cX12_makes 22 = .ok (.iadd, 1) := by decide +kernel
theorem d_X12_makes_23 : decode cX12_makes 23 = .ok (.putfield 153, 3) := by decide +kernel
theorem d_X12_makes_26 : decode cX12_makes 26 = .ok (.iconst 1, 1) := by decide +kernel
theorem d_X12_makes_27 : decode cX12_makes 27 = .ok (.ireturn, 1) := by decide +kernel
abbrev X_X12_makes : gX := (RX12, cX12_makes, 2, (some .boolean), false)
def F_X12_makes_b0 (l0 : Option Nat) (l1 : Int32) (M : gM) : Option (Int32 × gM) :=
  (gI 12 M l0 12).bind fun v1 => if v1 = (60 : Int32) then ((gO 12 M l0).bind fun i4 => (F_X12_fails (some i4) (3 : Int32) l1 M).bind fun (v5, M6) => if v5 = 0 ∨ v5 = 1 then some (v5, M6) else none) else ((gI 12 M l0 12).bind fun v2 => (pI 12 M l0 12 (v2 + (1 : Int32))).bind fun M3 => some ((1 : Int32), M3))
theorem T_X12_makes_b0 (r : (Int32 × gM)) (l0 : Option Nat) (l1 : Int32) (M : gM) (h : F_X12_makes_b0 l0 l1 M = some r) : GW 1 0 0 X_X12_makes 0 [(0, vr l0), (1, vi l1)] [] M (some (vi r.1), r.2) := by
  delta F_X12_makes_b0 at h
  refine GW_aload_n (X := X_X12_makes) (pc := 0) d_X12_makes_0 rfl 0 rfl ?_
  replace h := g_bd h
  obtain ⟨v1, hv1, h⟩ := h
  refine GW_getI (X := X_X12_makes) (pc := 1) f_X12_153 d_X12_makes_1 hv1 (Or.inl ty_12_12) ?_
  refine GW_bipush (X := X_X12_makes) (pc := 4) (v := 60) d_X12_makes_4 (by decide) ?_
  refine GW_icmp_ne (X := X_X12_makes) (pc := 6) 16 d_X12_makes_6 (by decide) (fun c => ?_) (fun c => ?_)
  · replace h := g_ie c h
    refine GW_aload_n (X := X_X12_makes) (pc := 16) d_X12_makes_16 rfl 0 rfl ?_
    refine GW_dup (X := X_X12_makes) (pc := 17) d_X12_makes_17 rfl ?_
    replace h := g_bd h
    obtain ⟨v2, hv2, h⟩ := h
    refine GW_getI (X := X_X12_makes) (pc := 18) f_X12_153 d_X12_makes_18 hv2 (Or.inl ty_12_12) ?_
    refine GW_iconst (X := X_X12_makes) (pc := 21) (v := 1) d_X12_makes_21 (by decide) ?_
    refine GW_iadd (X := X_X12_makes) (pc := 22) d_X12_makes_22 ?_
    replace h := g_bd h
    obtain ⟨M3, hM3, h⟩ := h
    refine GW_putI (X := X_X12_makes) (pc := 23) f_X12_153 d_X12_makes_23 hM3 (Or.inl fi_12_12) (Or.inl ty_12_12) ?_
    refine GW_iconst (X := X_X12_makes) (pc := 26) (v := 1) d_X12_makes_26 (by decide) ?_
    replace h := Option.some.inj h
    subst h
    exact GW_ret (X := X_X12_makes) (pc := 27) d_X12_makes_27 rfl g_rok1
  · replace h := g_ip c h
    refine GW_aload_n (X := X_X12_makes) (pc := 9) d_X12_makes_9 rfl 0 rfl ?_
    refine GW_iconst (X := X_X12_makes) (pc := 10) (v := 3) d_X12_makes_10 (by decide) ?_
    refine GW_iload_n (X := X_X12_makes) (pc := 11) d_X12_makes_11 rfl 1 rfl ?_
    replace h := g_bd h
    obtain ⟨i4, hi4, h⟩ := h
    obtain ⟨rfl, ki4⟩ := g_gO hi4
    replace h := g_bd h
    obtain ⟨⟨v5, M6⟩, hv5, h⟩ := h
    dsimp only at h
    refine GW_callV (X := X_X12_makes) (pc := 12) (bc0 := 0) (bs0 := 0) (r := some (vi v5)) (M2 := M6) (c0 := 12) (T_X12_fails (some i4) (3 : Int32) l1 M (v5, M6) hv5) (Nat.le_of_ble_eq_true rfl) (Nat.le_of_ble_eq_true rfl) rfl g_cok12 ki4 yc_X12_fails ⟨m_1263, m_1265, m_47, m_127, m_1266⟩ d_X12_makes_12 rfl (st := []) rfl (Nat.le_of_ble_eq_true rfl) (Nat.le_of_ble_eq_true rfl) (Nat.le_of_ble_eq_true rfl) (st2 := [vi v5]) rfl ?_
    replace h := g_if2 h
    obtain ⟨hz7, h⟩ := h
    replace h := Option.some.inj h
    subst h
    exact GW_ret (X := X_X12_makes) (pc := 15) d_X12_makes_15 rfl (g_zok hz7)
def F_X12_makes (l0 : Option Nat) (l1 : Int32) (M : gM) : Option (Int32 × gM) := F_X12_makes_b0 l0 l1 M
theorem T_X12_makes (l0 : Option Nat) (l1 : Int32) (M : gM) (r : (Int32 × gM)) (h : F_X12_makes l0 l1 M = some r) : g_Met 1 0 0 yX12_makes X_X12_makes [vr l0, vi l1] M (some (vi r.1), r.2) :=
  g_Met_of pn_RX12 rfl (Nat.le_of_ble_eq_true rfl) (fun h => by cases h) (GW_sub [0, 1] rfl (T_X12_makes_b0 r l0 l1 M h))
/-! ForgetHeirsModel.puts(II)V -/
theorem d_X12_puts_0 : decode cX12_puts 0 = .ok (.aload_n 0, 1) := by decide +kernel
theorem d_X12_puts_1 : decode cX12_puts 1 = .ok (.getfield 13, 3) := by decide +kernel
theorem d_X12_puts_4 : decode cX12_puts 4 = .ok (.sipush 400, 3) := by decide +kernel
theorem d_X12_puts_7 : decode cX12_puts 7 = .ok (.aload_n 0, 1) := by decide +kernel
theorem d_X12_puts_8 : decode cX12_puts 8 = .ok (.getfield 150, 3) := by decide +kernel
theorem d_X12_puts_11 : decode cX12_puts 11 = .ok (.imul, 1) := by decide +kernel
theorem d_X12_puts_12 : decode cX12_puts 12 = .ok (.aload_n 0, 1) := by decide +kernel
theorem d_X12_puts_13 : decode cX12_puts 13 = .ok (.getfield 17, 3) := by decide +kernel
theorem d_X12_puts_16 : decode cX12_puts 16 = .ok (.aload_n 0, 1) := by decide +kernel
theorem d_X12_puts_17 : decode cX12_puts 17 = .ok (.getfield 150, 3) := by decide +kernel
theorem d_X12_puts_20 : decode cX12_puts 20 = .ok (.iaload, 1) := by decide +kernel
theorem d_X12_puts_21 : decode cX12_puts 21 = .ok (.iadd, 1) := by decide +kernel
theorem d_X12_puts_22 : decode cX12_puts 22 = .ok (.iload_n 1, 1) := by decide +kernel
theorem d_X12_puts_23 : decode cX12_puts 23 = .ok (.bipush 16, 2) := by decide +kernel
theorem d_X12_puts_25 : decode cX12_puts 25 = .ok (.iload_n 2, 1) := by decide +kernel
theorem d_X12_puts_26 : decode cX12_puts 26 = .ok (.imul, 1) := by decide +kernel
theorem d_X12_puts_27 : decode cX12_puts 27 = .ok (.iadd, 1) := by decide +kernel
theorem d_X12_puts_28 : decode cX12_puts 28 = .ok (.iastore, 1) := by decide +kernel
theorem d_X12_puts_29 : decode cX12_puts 29 = .ok (.aload_n 0, 1) := by decide +kernel
theorem d_X12_puts_30 : decode cX12_puts 30 = .ok (.getfield 17, 3) := by decide +kernel
theorem d_X12_puts_33 : decode cX12_puts 33 = .ok (.aload_n 0, 1) := by decide +kernel
theorem d_X12_puts_34 : decode cX12_puts 34 = .ok (.getfield 150, 3) := by decide +kernel
theorem d_X12_puts_37 : decode cX12_puts 37 = .ok (.dup2, 1) := by decide +kernel
theorem d_X12_puts_38 : decode cX12_puts 38 = .ok (.iaload, 1) := by decide +kernel
theorem d_X12_puts_39 : decode cX12_puts 39 = .ok (.iconst 1, 1) := by decide +kernel
theorem d_X12_puts_40 : decode cX12_puts 40 = .ok (.iadd, 1) := by decide +kernel
theorem d_X12_puts_41 : decode cX12_puts 41 = .ok (.iastore, 1) := by decide +kernel
theorem d_X12_puts_42 : decode cX12_puts 42 = .ok (.return_, 1) := by decide +kernel
abbrev X_X12_puts : gX := (RX12, cX12_puts, 3, none, false)
def F_X12_puts_b0 (l0 : Option Nat) (l1 : Int32) (l2 : Int32) (M : gM) : Option gM :=
  (gR 12 M l0 3).bind fun v1 => (gI 12 M l0 11).bind fun v2 => (gR 12 M l0 4).bind fun v3 => (gI 12 M l0 11).bind fun v4 => (aI 20 M v3 v4).bind fun v5 => (sI M v1 (((400 : Int32) * v2) + v5) (l1 + ((16 : Int32) * l2))).bind fun M6 => (gR 12 M6 l0 4).bind fun v7 => (gI 12 M6 l0 11).bind fun v8 => (aI 20 M6 v7 v8).bind fun v9 => (sI M6 v7 v8 (v9 + (1 : Int32))).bind fun M10 => some M10
set_option maxHeartbeats 1000000 in
theorem T_X12_puts_b0 (r : gM) (l0 : Option Nat) (l1 : Int32) (l2 : Int32) (M : gM) (h : F_X12_puts_b0 l0 l1 l2 M = some r) : GW 0 0 0 X_X12_puts 0 [(0, vr l0), (1, vi l1), (2, vi l2)] [] M (none, r) := by
  delta F_X12_puts_b0 at h
  refine GW_aload_n (X := X_X12_puts) (pc := 0) d_X12_puts_0 rfl 0 rfl ?_
  replace h := g_bd h
  obtain ⟨v1, hv1, h⟩ := h
  refine GW_getR (X := X_X12_puts) (pc := 1) f_X12_13 d_X12_puts_1 hv1 (Or.inr ⟨_, ty_12_3⟩) ?_
  refine GW_sipush (X := X_X12_puts) (pc := 4) (v := 400) d_X12_puts_4 (by decide) ?_
  refine GW_aload_n (X := X_X12_puts) (pc := 7) d_X12_puts_7 rfl 0 rfl ?_
  replace h := g_bd h
  obtain ⟨v2, hv2, h⟩ := h
  refine GW_getI (X := X_X12_puts) (pc := 8) f_X12_150 d_X12_puts_8 hv2 (Or.inl ty_12_11) ?_
  refine GW_imul (X := X_X12_puts) (pc := 11) d_X12_puts_11 ?_
  refine GW_aload_n (X := X_X12_puts) (pc := 12) d_X12_puts_12 rfl 0 rfl ?_
  replace h := g_bd h
  obtain ⟨v3, hv3, h⟩ := h
  refine GW_getR (X := X_X12_puts) (pc := 13) f_X12_17 d_X12_puts_13 hv3 (Or.inr ⟨_, ty_12_4⟩) ?_
  refine GW_aload_n (X := X_X12_puts) (pc := 16) d_X12_puts_16 rfl 0 rfl ?_
  replace h := g_bd h
  obtain ⟨v4, hv4, h⟩ := h
  refine GW_getI (X := X_X12_puts) (pc := 17) f_X12_150 d_X12_puts_17 hv4 (Or.inl ty_12_11) ?_
  replace h := g_bd h
  obtain ⟨v5, hv5, h⟩ := h
  refine GW_iald (X := X_X12_puts) (pc := 20) d_X12_puts_20 hv5 ?_
  refine GW_iadd (X := X_X12_puts) (pc := 21) d_X12_puts_21 ?_
  refine GW_iload_n (X := X_X12_puts) (pc := 22) d_X12_puts_22 rfl 1 rfl ?_
  refine GW_bipush (X := X_X12_puts) (pc := 23) (v := 16) d_X12_puts_23 (by decide) ?_
  refine GW_iload_n (X := X_X12_puts) (pc := 25) d_X12_puts_25 rfl 2 rfl ?_
  refine GW_imul (X := X_X12_puts) (pc := 26) d_X12_puts_26 ?_
  refine GW_iadd (X := X_X12_puts) (pc := 27) d_X12_puts_27 ?_
  replace h := g_bd h
  obtain ⟨M6, hM6, h⟩ := h
  refine GW_iast (X := X_X12_puts) (pc := 28) d_X12_puts_28 hM6 ?_
  refine GW_aload_n (X := X_X12_puts) (pc := 29) d_X12_puts_29 rfl 0 rfl ?_
  replace h := g_bd h
  obtain ⟨v7, hv7, h⟩ := h
  refine GW_getR (X := X_X12_puts) (pc := 30) f_X12_17 d_X12_puts_30 hv7 (Or.inr ⟨_, ty_12_4⟩) ?_
  refine GW_aload_n (X := X_X12_puts) (pc := 33) d_X12_puts_33 rfl 0 rfl ?_
  replace h := g_bd h
  obtain ⟨v8, hv8, h⟩ := h
  refine GW_getI (X := X_X12_puts) (pc := 34) f_X12_150 d_X12_puts_34 hv8 (Or.inl ty_12_11) ?_
  refine GW_dup2 (X := X_X12_puts) (pc := 37) d_X12_puts_37 rfl rfl ?_
  replace h := g_bd h
  obtain ⟨v9, hv9, h⟩ := h
  refine GW_iald (X := X_X12_puts) (pc := 38) d_X12_puts_38 hv9 ?_
  refine GW_iconst (X := X_X12_puts) (pc := 39) (v := 1) d_X12_puts_39 (by decide) ?_
  refine GW_iadd (X := X_X12_puts) (pc := 40) d_X12_puts_40 ?_
  replace h := g_bd h
  obtain ⟨M10, hM10, h⟩ := h
  refine GW_iast (X := X_X12_puts) (pc := 41) d_X12_puts_41 hM10 ?_
  replace h := Option.some.inj h
  subst h
  exact GW_ret (X := X_X12_puts) (pc := 42) d_X12_puts_42 rfl trivial
def F_X12_puts (l0 : Option Nat) (l1 : Int32) (l2 : Int32) (M : gM) : Option gM := F_X12_puts_b0 l0 l1 l2 M
theorem T_X12_puts (l0 : Option Nat) (l1 : Int32) (l2 : Int32) (M : gM) (r : gM) (h : F_X12_puts l0 l1 l2 M = some r) : g_Met 0 0 0 yX12_puts X_X12_puts [vr l0, vi l1, vi l2] M (none, r) :=
  g_Met_of pn_RX12 rfl (Nat.le_of_ble_eq_true rfl) (fun h => by cases h) (GW_sub [0, 1, 2] rfl (T_X12_puts_b0 r l0 l1 l2 M h))
/-! ForgetHeirsModel.wordHere()I -/
theorem d_X12_wordHere_0 : decode cX12_wordHere 0 = .ok (.aload_n 0, 1) := by decide +kernel
theorem d_X12_wordHere_1 : decode cX12_wordHere 1 = .ok (.ldc2_w 122, 3) := by decide +kernel
theorem d_X12_wordHere_4 : decode cX12_wordHere 4 = .ok (.invokevirtual 101, 3) := by decide +kernel
theorem d_X12_wordHere_7 : decode cX12_wordHere 7 = .ok (.ifCond .eq 5, 3) := by decide +kernel
theorem d_X12_wordHere_10 : decode cX12_wordHere 10 = .ok (.iconst 0, 1) := by decide +kernel
theorem d_X12_wordHere_11 : decode cX12_wordHere 11 = .ok (.ireturn, 1) := by decide +kernel
theorem d_X12_wordHere_12 : decode cX12_wordHere 12 = .ok (.aload_n 0, 1) := by decide +kernel
theorem d_X12_wordHere_13 : decode cX12_wordHere 13 = .ok (.ldc2_w 124, 3) := by decide +kernel
theorem d_X12_wordHere_16 : decode cX12_wordHere 16 = .ok (.invokevirtual 101, 3) := by decide +kernel
theorem d_X12_wordHere_19 : decode cX12_wordHere 19 = .ok (.ifCond .eq 5, 3) := by decide +kernel
theorem d_X12_wordHere_22 : decode cX12_wordHere 22 = .ok (.iconst 1, 1) := by decide +kernel
theorem d_X12_wordHere_23 : decode cX12_wordHere 23 = .ok (.ireturn, 1) := by decide +kernel
theorem d_X12_wordHere_24 : decode cX12_wordHere 24 = .ok (.aload_n 0, 1) := by decide +kernel
theorem d_X12_wordHere_25 : decode cX12_wordHere 25 = .ok (.ldc2_w 126, 3) := by decide +kernel
theorem d_X12_wordHere_28 : decode cX12_wordHere 28 = .ok (.invokevirtual 101, 3) := by decide +kernel
theorem d_X12_wordHere_31 : decode cX12_wordHere 31 = .ok (.ifCond .eq 5, 3) := by decide +kernel
theorem d_X12_wordHere_34 : decode cX12_wordHere 34 = .ok (.iconst 2, 1) := by decide +kernel
theorem d_X12_wordHere_35 : decode cX12_wordHere 35 = .ok (.ireturn, 1) := by decide +kernel
theorem d_X12_wordHere_36 : decode cX12_wordHere 36 = .ok (.aload_n 0, 1) := by decide +kernel
theorem d_X12_wordHere_37 : decode cX12_wordHere 37 = .ok (.ldc2_w 128, 3) := by decide +kernel
theorem d_X12_wordHere_40 : decode cX12_wordHere 40 = .ok (.invokevirtual 101, 3) := by decide +kernel
theorem d_X12_wordHere_43 : decode cX12_wordHere 43 = .ok (.ifCond .eq 5, 3) := by decide +kernel
theorem d_X12_wordHere_46 : decode cX12_wordHere 46 = .ok (.iconst 3, 1) := by decide +kernel
theorem d_X12_wordHere_47 : decode cX12_wordHere 47 = .ok (.ireturn, 1) := by decide +kernel
theorem d_X12_wordHere_48 : decode cX12_wordHere 48 = .ok (.aload_n 0, 1) := by decide +kernel
theorem d_X12_wordHere_49 : decode cX12_wordHere 49 = .ok (.ldc2_w 130, 3) := by decide +kernel
theorem d_X12_wordHere_52 : decode cX12_wordHere 52 = .ok (.invokevirtual 101, 3) := by decide +kernel
theorem d_X12_wordHere_55 : decode cX12_wordHere 55 = .ok (.ifCond .eq 5, 3) := by decide +kernel
theorem d_X12_wordHere_58 : decode cX12_wordHere 58 = .ok (.iconst 4, 1) := by decide +kernel
theorem d_X12_wordHere_59 : decode cX12_wordHere 59 = .ok (.ireturn, 1) := by decide +kernel
theorem d_X12_wordHere_60 : decode cX12_wordHere 60 = .ok (.aload_n 0, 1) := by decide +kernel
theorem d_X12_wordHere_61 : decode cX12_wordHere 61 = .ok (.ldc2_w 132, 3) := by decide +kernel
theorem d_X12_wordHere_64 : decode cX12_wordHere 64 = .ok (.invokevirtual 101, 3) := by decide +kernel
theorem d_X12_wordHere_67 : decode cX12_wordHere 67 = .ok (.ifCond .eq 5, 3) := by decide +kernel
theorem d_X12_wordHere_70 : decode cX12_wordHere 70 = .ok (.iconst 5, 1) := by decide +kernel
theorem d_X12_wordHere_71 : decode cX12_wordHere 71 = .ok (.ireturn, 1) := by decide +kernel
theorem d_X12_wordHere_72 : decode cX12_wordHere 72 = .ok (.aload_n 0, 1) := by decide +kernel
theorem d_X12_wordHere_73 : decode cX12_wordHere 73 = .ok (.ldc2_w 134, 3) := by decide +kernel
theorem d_X12_wordHere_76 : decode cX12_wordHere 76 = .ok (.invokevirtual 101, 3) := by decide +kernel
theorem d_X12_wordHere_79 : decode cX12_wordHere 79 = .ok (.ifCond .eq 6, 3) := by decide +kernel
theorem d_X12_wordHere_82 : decode cX12_wordHere 82 = .ok (.bipush 6, 2) := by decide +kernel
theorem d_X12_wordHere_84 : decode cX12_wordHere 84 = .ok (.ireturn, 1) := by decide +kernel
theorem d_X12_wordHere_85 : decode cX12_wordHere 85 = .ok (.aload_n 0, 1) := by decide +kernel
theorem d_X12_wordHere_86 : decode cX12_wordHere 86 = .ok (.ldc2_w 136, 3) := by decide +kernel
theorem d_X12_wordHere_89 : decode cX12_wordHere 89 = .ok (.invokevirtual 101, 3) := by decide +kernel
theorem d_X12_wordHere_92 : decode cX12_wordHere 92 = .ok (.ifCond .eq 6, 3) := by decide +kernel
theorem d_X12_wordHere_95 : decode cX12_wordHere 95 = .ok (.bipush 7, 2) := by decide +kernel
theorem d_X12_wordHere_97 : decode cX12_wordHere 97 = .ok (.ireturn, 1) := by decide +kernel
theorem d_X12_wordHere_98 : decode cX12_wordHere 98 = .ok (.aload_n 0, 1) := by decide +kernel
theorem d_X12_wordHere_99 : decode cX12_wordHere 99 = .ok (.ldc2_w 138, 3) := by decide +kernel
theorem d_X12_wordHere_102 : decode cX12_wordHere 102 = .ok (.invokevirtual 101, 3) := by decide +kernel
theorem d_X12_wordHere_105 : decode cX12_wordHere 105 = .ok (.ifCond .eq 6, 3) := by decide +kernel
theorem d_X12_wordHere_108 : decode cX12_wordHere 108 = .ok (.bipush 8, 2) := by decide +kernel
theorem d_X12_wordHere_110 : decode cX12_wordHere 110 = .ok (.ireturn, 1) := by decide +kernel
theorem d_X12_wordHere_111 : decode cX12_wordHere 111 = .ok (.aload_n 0, 1) := by decide +kernel
theorem d_X12_wordHere_112 : decode cX12_wordHere 112 = .ok (.ldc2_w 140, 3) := by decide +kernel
theorem d_X12_wordHere_115 : decode cX12_wordHere 115 = .ok (.invokevirtual 101, 3) := by decide +kernel
theorem d_X12_wordHere_118 : decode cX12_wordHere 118 = .ok (.ifCond .eq 6, 3) := by decide +kernel
theorem d_X12_wordHere_121 : decode cX12_wordHere 121 = .ok (.bipush 9, 2) := by decide +kernel
theorem d_X12_wordHere_123 : decode cX12_wordHere 123 = .ok (.ireturn, 1) := by decide +kernel
theorem d_X12_wordHere_124 : decode cX12_wordHere 124 = .ok (.aload_n 0, 1) := by decide +kernel
theorem d_X12_wordHere_125 : decode cX12_wordHere 125 = .ok (.ldc2_w 142, 3) := by decide +kernel
theorem d_X12_wordHere_128 : decode cX12_wordHere 128 = .ok (.invokevirtual 101, 3) := by decide +kernel
theorem d_X12_wordHere_131 : decode cX12_wordHere 131 = .ok (.ifCond .eq 6, 3) := by decide +kernel
theorem d_X12_wordHere_134 : decode cX12_wordHere 134 = .ok (.bipush 10, 2) := by decide +kernel
theorem d_X12_wordHere_136 : decode cX12_wordHere 136 = .ok (.ireturn, 1) := by decide +kernel
theorem d_X12_wordHere_137 : decode cX12_wordHere 137 = .ok (.aload_n 0, 1) := by decide +kernel
theorem d_X12_wordHere_138 : decode cX12_wordHere 138 = .ok (.ldc2_w 144, 3) := by decide +kernel
theorem d_X12_wordHere_141 : decode cX12_wordHere 141 = .ok (.invokevirtual 101, 3) := by decide +kernel
theorem d_X12_wordHere_144 : decode cX12_wordHere 144 = .ok (.ifCond .eq 6, 3) := by decide +kernel
theorem d_X12_wordHere_147 : decode cX12_wordHere 147 = .ok (.bipush 11, 2) := by decide +kernel
theorem d_X12_wordHere_149 : decode cX12_wordHere 149 = .ok (.ireturn, 1) := by decide +kernel
theorem d_X12_wordHere_150 : decode cX12_wordHere 150 = .ok (.aload_n 0, 1) := by decide +kernel
theorem d_X12_wordHere_151 : decode cX12_wordHere 151 = .ok (.ldc2_w 146, 3) := by decide +kernel
theorem d_X12_wordHere_154 : decode cX12_wordHere 154 = .ok (.invokevirtual 101, 3) := by decide +kernel
theorem d_X12_wordHere_157 : decode cX12_wordHere 157 = .ok (.ifCond .eq 8, 3) := by decide +kernel
theorem d_X12_wordHere_160 : decode cX12_wordHere 160 = .ok (.bipush 12, 2) := by decide +kernel
theorem d_X12_wordHere_162 : decode cX12_wordHere 162 = .ok (.goto 19, 3) := by decide +kernel
theorem d_X12_wordHere_165 : decode cX12_wordHere 165 = .ok (.aload_n 0, 1) := by decide +kernel
theorem d_X12_wordHere_166 : decode cX12_wordHere 166 = .ok (.ldc2_w 148, 3) := by decide +kernel
theorem d_X12_wordHere_169 : decode cX12_wordHere 169 = .ok (.invokevirtual 101, 3) := by decide +kernel
theorem d_X12_wordHere_172 : decode cX12_wordHere 172 = .ok (.ifCond .eq 8, 3) := by decide +kernel
theorem d_X12_wordHere_175 : decode cX12_wordHere 175 = .ok (.bipush 13, 2) := by decide +kernel
theorem d_X12_wordHere_177 : decode cX12_wordHere 177 = .ok (.goto 4, 3) := by decide +kernel
theorem d_X12_wordHere_180 : decode cX12_wordHere 180 = .ok (.iconst (-1), 1) := by decide +kernel
theorem d_X12_wordHere_181 : decode cX12_wordHere 181 = .ok (.ireturn, 1) := by decide +kernel
abbrev X_X12_wordHere : gX := (RX12, cX12_wordHere, 1, (some .int), false)
def F_X12_wordHere_b0 (l0 : Option Nat) (M : gM) : Option (Int32 × gM) :=
  (gO 12 M l0).bind fun i1 => (F_X12_isWord (some i1) (1751476594 : Int64) M).bind fun (v2, M3) => if v2 = 0 then ((gC 12 M3 i1).bind fun _ => (F_X12_isWord (some i1) (499967946343 : Int64) M3).bind fun (v5, M6) => if v5 = 0 then ((gC 12 M6 i1).bind fun _ => (F_X12_isWord (some i1) (24947 : Int64) M6).bind fun (v8, M9) => if v8 = 0 then ((gC 12 M9 i1).bind fun _ => (F_X12_isWord (some i1) (491394656372 : Int64) M9).bind fun (v11, M12) => if v11 = 0 then ((gC 12 M12 i1).bind fun _ => (F_X12_isWord (some i1) (8319400191629685864 : Int64) M12).bind fun (v14, M15) => if v14 = 0 then ((gC 12 M15 i1).bind fun _ => (F_X12_isWord (some i1) (6383461 : Int64) M15).bind fun (v17, M18) => if v17 = 0 then ((gC 12 M18 i1).bind fun _ => (F_X12_isWord (some i1) (448311616883 : Int64) M18).bind fun (v20, M21) => if v20 = 0 then ((gC 12 M21 i1).bind fun _ => (F_X12_isWord (some i1) (1936682599 : Int64) M21).bind fun (v23, M24) => if v23 = 0 then ((gC 12 M24 i1).bind fun _ => (F_X12_isWord (some i1) (422877228660 : Int64) M24).bind fun (v26, M27) => if v26 = 0 then ((gC 12 M27 i1).bind fun _ => (F_X12_isWord (some i1) (1819243379 : Int64) M27).bind fun (v29, M30) => if v29 = 0 then ((gC 12 M30 i1).bind fun _ => (F_X12_isWord (some i1) (439854918756 : Int64) M30).bind fun (v32, M33) => if v32 = 0 then ((gC 12 M33 i1).bind fun _ => (F_X12_isWord (some i1) (2036687218 : Int64) M33).bind fun (v35, M36) => if v35 = 0 then ((gC 12 M36 i1).bind fun _ => (F_X12_isWord (some i1) (1935764837 : Int64) M36).bind fun (v38, M39) => if v38 = 0 then ((gC 12 M39 i1).bind fun _ => (F_X12_isWord (some i1) (461414299502 : Int64) M39).bind fun (v41, M42) => if v41 = 0 then (some ((-1 : Int32), M42)) else (some ((13 : Int32), M42))) else (some ((12 : Int32), M39))) else (some ((11 : Int32), M36))) else (some ((10 : Int32), M33))) else (some ((9 : Int32), M30))) else (some ((8 : Int32), M27))) else (some ((7 : Int32), M24))) else (some ((6 : Int32), M21))) else (some ((5 : Int32), M18))) else (some ((4 : Int32), M15))) else (some ((3 : Int32), M12))) else (some ((2 : Int32), M9))) else (some ((1 : Int32), M6))) else (some ((0 : Int32), M3))
set_option maxHeartbeats 4000000 in
theorem T_X12_wordHere_b0 (r : (Int32 × gM)) (l0 : Option Nat) (M : gM) (h : F_X12_wordHere_b0 l0 M = some r) : GW 2 0 0 X_X12_wordHere 0 [(0, vr l0)] [] M (some (vi r.1), r.2) := by
  delta F_X12_wordHere_b0 at h
  refine GW_aload_n (X := X_X12_wordHere) (pc := 0) d_X12_wordHere_0 rfl 0 rfl ?_
  refine GW_ldc2 (X := X_X12_wordHere) (pc := 1) d_X12_wordHere_1 m_1258 ?_
  replace h := g_bd h
  obtain ⟨i1, hi1, h⟩ := h
  obtain ⟨rfl, ki1⟩ := g_gO hi1
  replace h := g_bd h
  obtain ⟨⟨v2, M3⟩, hv2, h⟩ := h
  dsimp only at h
  refine GW_callV (X := X_X12_wordHere) (pc := 4) (bc0 := 0) (bs0 := 0) (r := some (vi v2)) (M2 := M3) (c0 := 12) (T_X12_isWord (some i1) (1751476594 : Int64) M (v2, M3) hv2) (Nat.le_of_ble_eq_true rfl) (Nat.le_of_ble_eq_true rfl) rfl g_cok12 ki1 yc_X12_isWord ⟨m_1248, m_1250, m_45, m_127, m_1251⟩ d_X12_wordHere_4 rfl (st := []) rfl (Nat.le_of_ble_eq_true rfl) (Nat.le_of_ble_eq_true rfl) (Nat.le_of_ble_eq_true rfl) (st2 := [vi v2]) rfl ?_
  refine GW_if_eq (X := X_X12_wordHere) (pc := 7) 12 d_X12_wordHere_7 (by decide) (fun c => ?_) (fun c => ?_)
  · replace h := g_ip c h
    refine GW_aload_n (X := X_X12_wordHere) (pc := 12) d_X12_wordHere_12 rfl 0 rfl ?_
    refine GW_ldc2 (X := X_X12_wordHere) (pc := 13) d_X12_wordHere_13 m_1256 ?_
    replace h := g_bd h
    obtain ⟨_, kk4, h⟩ := h
    replace kk4 := g_gC kk4
    replace h := g_bd h
    obtain ⟨⟨v5, M6⟩, hv5, h⟩ := h
    dsimp only at h
    refine GW_callV (X := X_X12_wordHere) (pc := 16) (bc0 := 0) (bs0 := 0) (r := some (vi v5)) (M2 := M6) (c0 := 12) (T_X12_isWord (some i1) (499967946343 : Int64) M3 (v5, M6) hv5) (Nat.le_of_ble_eq_true rfl) (Nat.le_of_ble_eq_true rfl) rfl g_cok12 kk4 yc_X12_isWord ⟨m_1248, m_1250, m_45, m_127, m_1251⟩ d_X12_wordHere_16 rfl (st := []) rfl (Nat.le_of_ble_eq_true rfl) (Nat.le_of_ble_eq_true rfl) (Nat.le_of_ble_eq_true rfl) (st2 := [vi v5]) rfl ?_
    refine GW_if_eq (X := X_X12_wordHere) (pc := 19) 24 d_X12_wordHere_19 (by decide) (fun c => ?_) (fun c => ?_)
    · replace h := g_ip c h
      refine GW_aload_n (X := X_X12_wordHere) (pc := 24) d_X12_wordHere_24 rfl 0 rfl ?_
      refine GW_ldc2 (X := X_X12_wordHere) (pc := 25) d_X12_wordHere_25 m_1350 ?_
      replace h := g_bd h
      obtain ⟨_, kk7, h⟩ := h
      replace kk7 := g_gC kk7
      replace h := g_bd h
      obtain ⟨⟨v8, M9⟩, hv8, h⟩ := h
      dsimp only at h
      refine GW_callV (X := X_X12_wordHere) (pc := 28) (bc0 := 0) (bs0 := 0) (r := some (vi v8)) (M2 := M9) (c0 := 12) (T_X12_isWord (some i1) (24947 : Int64) M6 (v8, M9) hv8) (Nat.le_of_ble_eq_true rfl) (Nat.le_of_ble_eq_true rfl) rfl g_cok12 kk7 yc_X12_isWord ⟨m_1248, m_1250, m_45, m_127, m_1251⟩ d_X12_wordHere_28 rfl (st := []) rfl (Nat.le_of_ble_eq_true rfl) (Nat.le_of_ble_eq_true rfl) (Nat.le_of_ble_eq_true rfl) (st2 := [vi v8]) rfl ?_
      refine GW_if_eq (X := X_X12_wordHere) (pc := 31) 36 d_X12_wordHere_31 (by decide) (fun c => ?_) (fun c => ?_)
      · replace h := g_ip c h
        refine GW_aload_n (X := X_X12_wordHere) (pc := 36) d_X12_wordHere_36 rfl 0 rfl ?_
        refine GW_ldc2 (X := X_X12_wordHere) (pc := 37) d_X12_wordHere_37 m_1351 ?_
        replace h := g_bd h
        obtain ⟨_, kk10, h⟩ := h
        replace kk10 := g_gC kk10
        replace h := g_bd h
        obtain ⟨⟨v11, M12⟩, hv11, h⟩ := h
        dsimp only at h
        refine GW_callV (X := X_X12_wordHere) (pc := 40) (bc0 := 0) (bs0 := 0) (r := some (vi v11)) (M2 := M12) (c0 := 12) (T_X12_isWord (some i1) (491394656372 : Int64) M9 (v11, M12) hv11) (Nat.le_of_ble_eq_true rfl) (Nat.le_of_ble_eq_true rfl) rfl g_cok12 kk10 yc_X12_isWord ⟨m_1248, m_1250, m_45, m_127, m_1251⟩ d_X12_wordHere_40 rfl (st := []) rfl (Nat.le_of_ble_eq_true rfl) (Nat.le_of_ble_eq_true rfl) (Nat.le_of_ble_eq_true rfl) (st2 := [vi v11]) rfl ?_
        refine GW_if_eq (X := X_X12_wordHere) (pc := 43) 48 d_X12_wordHere_43 (by decide) (fun c => ?_) (fun c => ?_)
        · replace h := g_ip c h
          refine GW_aload_n (X := X_X12_wordHere) (pc := 48) d_X12_wordHere_48 rfl 0 rfl ?_
          refine GW_ldc2 (X := X_X12_wordHere) (pc := 49) d_X12_wordHere_49 m_1352 ?_
          replace h := g_bd h
          obtain ⟨_, kk13, h⟩ := h
          replace kk13 := g_gC kk13
          replace h := g_bd h
          obtain ⟨⟨v14, M15⟩, hv14, h⟩ := h
          dsimp only at h
          refine GW_callV (X := X_X12_wordHere) (pc := 52) (bc0 := 0) (bs0 := 0) (r := some (vi v14)) (M2 := M15) (c0 := 12) (T_X12_isWord (some i1) (8319400191629685864 : Int64) M12 (v14, M15) hv14) (Nat.le_of_ble_eq_true rfl) (Nat.le_of_ble_eq_true rfl) rfl g_cok12 kk13 yc_X12_isWord ⟨m_1248, m_1250, m_45, m_127, m_1251⟩ d_X12_wordHere_52 rfl (st := []) rfl (Nat.le_of_ble_eq_true rfl) (Nat.le_of_ble_eq_true rfl) (Nat.le_of_ble_eq_true rfl) (st2 := [vi v14]) rfl ?_
          refine GW_if_eq (X := X_X12_wordHere) (pc := 55) 60 d_X12_wordHere_55 (by decide) (fun c => ?_) (fun c => ?_)
          · replace h := g_ip c h
            refine GW_aload_n (X := X_X12_wordHere) (pc := 60) d_X12_wordHere_60 rfl 0 rfl ?_
            refine GW_ldc2 (X := X_X12_wordHere) (pc := 61) d_X12_wordHere_61 m_1353 ?_
            replace h := g_bd h
            obtain ⟨_, kk16, h⟩ := h
            replace kk16 := g_gC kk16
            replace h := g_bd h
            obtain ⟨⟨v17, M18⟩, hv17, h⟩ := h
            dsimp only at h
            refine GW_callV (X := X_X12_wordHere) (pc := 64) (bc0 := 0) (bs0 := 0) (r := some (vi v17)) (M2 := M18) (c0 := 12) (T_X12_isWord (some i1) (6383461 : Int64) M15 (v17, M18) hv17) (Nat.le_of_ble_eq_true rfl) (Nat.le_of_ble_eq_true rfl) rfl g_cok12 kk16 yc_X12_isWord ⟨m_1248, m_1250, m_45, m_127, m_1251⟩ d_X12_wordHere_64 rfl (st := []) rfl (Nat.le_of_ble_eq_true rfl) (Nat.le_of_ble_eq_true rfl) (Nat.le_of_ble_eq_true rfl) (st2 := [vi v17]) rfl ?_
            refine GW_if_eq (X := X_X12_wordHere) (pc := 67) 72 d_X12_wordHere_67 (by decide) (fun c => ?_) (fun c => ?_)
            · replace h := g_ip c h
              refine GW_aload_n (X := X_X12_wordHere) (pc := 72) d_X12_wordHere_72 rfl 0 rfl ?_
              refine GW_ldc2 (X := X_X12_wordHere) (pc := 73) d_X12_wordHere_73 m_1259 ?_
              replace h := g_bd h
              obtain ⟨_, kk19, h⟩ := h
              replace kk19 := g_gC kk19
              replace h := g_bd h
              obtain ⟨⟨v20, M21⟩, hv20, h⟩ := h
              dsimp only at h
              refine GW_callV (X := X_X12_wordHere) (pc := 76) (bc0 := 0) (bs0 := 0) (r := some (vi v20)) (M2 := M21) (c0 := 12) (T_X12_isWord (some i1) (448311616883 : Int64) M18 (v20, M21) hv20) (Nat.le_of_ble_eq_true rfl) (Nat.le_of_ble_eq_true rfl) rfl g_cok12 kk19 yc_X12_isWord ⟨m_1248, m_1250, m_45, m_127, m_1251⟩ d_X12_wordHere_76 rfl (st := []) rfl (Nat.le_of_ble_eq_true rfl) (Nat.le_of_ble_eq_true rfl) (Nat.le_of_ble_eq_true rfl) (st2 := [vi v20]) rfl ?_
              refine GW_if_eq (X := X_X12_wordHere) (pc := 79) 85 d_X12_wordHere_79 (by decide) (fun c => ?_) (fun c => ?_)
              · replace h := g_ip c h
                refine GW_aload_n (X := X_X12_wordHere) (pc := 85) d_X12_wordHere_85 rfl 0 rfl ?_
                refine GW_ldc2 (X := X_X12_wordHere) (pc := 86) d_X12_wordHere_86 m_1257 ?_
                replace h := g_bd h
                obtain ⟨_, kk22, h⟩ := h
                replace kk22 := g_gC kk22
                replace h := g_bd h
                obtain ⟨⟨v23, M24⟩, hv23, h⟩ := h
                dsimp only at h
                refine GW_callV (X := X_X12_wordHere) (pc := 89) (bc0 := 0) (bs0 := 0) (r := some (vi v23)) (M2 := M24) (c0 := 12) (T_X12_isWord (some i1) (1936682599 : Int64) M21 (v23, M24) hv23) (Nat.le_of_ble_eq_true rfl) (Nat.le_of_ble_eq_true rfl) rfl g_cok12 kk22 yc_X12_isWord ⟨m_1248, m_1250, m_45, m_127, m_1251⟩ d_X12_wordHere_89 rfl (st := []) rfl (Nat.le_of_ble_eq_true rfl) (Nat.le_of_ble_eq_true rfl) (Nat.le_of_ble_eq_true rfl) (st2 := [vi v23]) rfl ?_
                refine GW_if_eq (X := X_X12_wordHere) (pc := 92) 98 d_X12_wordHere_92 (by decide) (fun c => ?_) (fun c => ?_)
                · replace h := g_ip c h
                  refine GW_aload_n (X := X_X12_wordHere) (pc := 98) d_X12_wordHere_98 rfl 0 rfl ?_
                  refine GW_ldc2 (X := X_X12_wordHere) (pc := 99) d_X12_wordHere_99 m_1354 ?_
                  replace h := g_bd h
                  obtain ⟨_, kk25, h⟩ := h
                  replace kk25 := g_gC kk25
                  replace h := g_bd h
                  obtain ⟨⟨v26, M27⟩, hv26, h⟩ := h
                  dsimp only at h
                  refine GW_callV (X := X_X12_wordHere) (pc := 102) (bc0 := 0) (bs0 := 0) (r := some (vi v26)) (M2 := M27) (c0 := 12) (T_X12_isWord (some i1) (422877228660 : Int64) M24 (v26, M27) hv26) (Nat.le_of_ble_eq_true rfl) (Nat.le_of_ble_eq_true rfl) rfl g_cok12 kk25 yc_X12_isWord ⟨m_1248, m_1250, m_45, m_127, m_1251⟩ d_X12_wordHere_102 rfl (st := []) rfl (Nat.le_of_ble_eq_true rfl) (Nat.le_of_ble_eq_true rfl) (Nat.le_of_ble_eq_true rfl) (st2 := [vi v26]) rfl ?_
                  refine GW_if_eq (X := X_X12_wordHere) (pc := 105) 111 d_X12_wordHere_105 (by decide) (fun c => ?_) (fun c => ?_)
                  · replace h := g_ip c h
                    refine GW_aload_n (X := X_X12_wordHere) (pc := 111) d_X12_wordHere_111 rfl 0 rfl ?_
                    refine GW_ldc2 (X := X_X12_wordHere) (pc := 112) d_X12_wordHere_112 m_1355 ?_
                    replace h := g_bd h
                    obtain ⟨_, kk28, h⟩ := h
                    replace kk28 := g_gC kk28
                    replace h := g_bd h
                    obtain ⟨⟨v29, M30⟩, hv29, h⟩ := h
                    dsimp only at h
                    refine GW_callV (X := X_X12_wordHere) (pc := 115) (bc0 := 0) (bs0 := 0) (r := some (vi v29)) (M2 := M30) (c0 := 12) (T_X12_isWord (some i1) (1819243379 : Int64) M27 (v29, M30) hv29) (Nat.le_of_ble_eq_true rfl) (Nat.le_of_ble_eq_true rfl) rfl g_cok12 kk28 yc_X12_isWord ⟨m_1248, m_1250, m_45, m_127, m_1251⟩ d_X12_wordHere_115 rfl (st := []) rfl (Nat.le_of_ble_eq_true rfl) (Nat.le_of_ble_eq_true rfl) (Nat.le_of_ble_eq_true rfl) (st2 := [vi v29]) rfl ?_
                    refine GW_if_eq (X := X_X12_wordHere) (pc := 118) 124 d_X12_wordHere_118 (by decide) (fun c => ?_) (fun c => ?_)
                    · replace h := g_ip c h
                      refine GW_aload_n (X := X_X12_wordHere) (pc := 124) d_X12_wordHere_124 rfl 0 rfl ?_
                      refine GW_ldc2 (X := X_X12_wordHere) (pc := 125) d_X12_wordHere_125 m_1356 ?_
                      replace h := g_bd h
                      obtain ⟨_, kk31, h⟩ := h
                      replace kk31 := g_gC kk31
                      replace h := g_bd h
                      obtain ⟨⟨v32, M33⟩, hv32, h⟩ := h
                      dsimp only at h
                      refine GW_callV (X := X_X12_wordHere) (pc := 128) (bc0 := 0) (bs0 := 0) (r := some (vi v32)) (M2 := M33) (c0 := 12) (T_X12_isWord (some i1) (439854918756 : Int64) M30 (v32, M33) hv32) (Nat.le_of_ble_eq_true rfl) (Nat.le_of_ble_eq_true rfl) rfl g_cok12 kk31 yc_X12_isWord ⟨m_1248, m_1250, m_45, m_127, m_1251⟩ d_X12_wordHere_128 rfl (st := []) rfl (Nat.le_of_ble_eq_true rfl) (Nat.le_of_ble_eq_true rfl) (Nat.le_of_ble_eq_true rfl) (st2 := [vi v32]) rfl ?_
                      refine GW_if_eq (X := X_X12_wordHere) (pc := 131) 137 d_X12_wordHere_131 (by decide) (fun c => ?_) (fun c => ?_)
                      · replace h := g_ip c h
                        refine GW_aload_n (X := X_X12_wordHere) (pc := 137) d_X12_wordHere_137 rfl 0 rfl ?_
                        refine GW_ldc2 (X := X_X12_wordHere) (pc := 138) d_X12_wordHere_138 m_1357 ?_
                        replace h := g_bd h
                        obtain ⟨_, kk34, h⟩ := h
                        replace kk34 := g_gC kk34
                        replace h := g_bd h
                        obtain ⟨⟨v35, M36⟩, hv35, h⟩ := h
                        dsimp only at h
                        refine GW_callV (X := X_X12_wordHere) (pc := 141) (bc0 := 0) (bs0 := 0) (r := some (vi v35)) (M2 := M36) (c0 := 12) (T_X12_isWord (some i1) (2036687218 : Int64) M33 (v35, M36) hv35) (Nat.le_of_ble_eq_true rfl) (Nat.le_of_ble_eq_true rfl) rfl g_cok12 kk34 yc_X12_isWord ⟨m_1248, m_1250, m_45, m_127, m_1251⟩ d_X12_wordHere_141 rfl (st := []) rfl (Nat.le_of_ble_eq_true rfl) (Nat.le_of_ble_eq_true rfl) (Nat.le_of_ble_eq_true rfl) (st2 := [vi v35]) rfl ?_
                        refine GW_if_eq (X := X_X12_wordHere) (pc := 144) 150 d_X12_wordHere_144 (by decide) (fun c => ?_) (fun c => ?_)
                        · replace h := g_ip c h
                          refine GW_aload_n (X := X_X12_wordHere) (pc := 150) d_X12_wordHere_150 rfl 0 rfl ?_
                          refine GW_ldc2 (X := X_X12_wordHere) (pc := 151) d_X12_wordHere_151 m_1358 ?_
                          replace h := g_bd h
                          obtain ⟨_, kk37, h⟩ := h
                          replace kk37 := g_gC kk37
                          replace h := g_bd h
                          obtain ⟨⟨v38, M39⟩, hv38, h⟩ := h
                          dsimp only at h
                          refine GW_callV (X := X_X12_wordHere) (pc := 154) (bc0 := 0) (bs0 := 0) (r := some (vi v38)) (M2 := M39) (c0 := 12) (T_X12_isWord (some i1) (1935764837 : Int64) M36 (v38, M39) hv38) (Nat.le_of_ble_eq_true rfl) (Nat.le_of_ble_eq_true rfl) rfl g_cok12 kk37 yc_X12_isWord ⟨m_1248, m_1250, m_45, m_127, m_1251⟩ d_X12_wordHere_154 rfl (st := []) rfl (Nat.le_of_ble_eq_true rfl) (Nat.le_of_ble_eq_true rfl) (Nat.le_of_ble_eq_true rfl) (st2 := [vi v38]) rfl ?_
                          refine GW_if_eq (X := X_X12_wordHere) (pc := 157) 165 d_X12_wordHere_157 (by decide) (fun c => ?_) (fun c => ?_)
                          · replace h := g_ip c h
                            refine GW_aload_n (X := X_X12_wordHere) (pc := 165) d_X12_wordHere_165 rfl 0 rfl ?_
                            refine GW_ldc2 (X := X_X12_wordHere) (pc := 166) d_X12_wordHere_166 m_1359 ?_
                            replace h := g_bd h
                            obtain ⟨_, kk40, h⟩ := h
                            replace kk40 := g_gC kk40
                            replace h := g_bd h
                            obtain ⟨⟨v41, M42⟩, hv41, h⟩ := h
                            dsimp only at h
                            refine GW_callV (X := X_X12_wordHere) (pc := 169) (bc0 := 0) (bs0 := 0) (r := some (vi v41)) (M2 := M42) (c0 := 12) (T_X12_isWord (some i1) (461414299502 : Int64) M39 (v41, M42) hv41) (Nat.le_of_ble_eq_true rfl) (Nat.le_of_ble_eq_true rfl) rfl g_cok12 kk40 yc_X12_isWord ⟨m_1248, m_1250, m_45, m_127, m_1251⟩ d_X12_wordHere_169 rfl (st := []) rfl (Nat.le_of_ble_eq_true rfl) (Nat.le_of_ble_eq_true rfl) (Nat.le_of_ble_eq_true rfl) (st2 := [vi v41]) rfl ?_
                            refine GW_if_eq (X := X_X12_wordHere) (pc := 172) 180 d_X12_wordHere_172 (by decide) (fun c => ?_) (fun c => ?_)
                            · replace h := g_ip c h
                              refine GW_iconst (X := X_X12_wordHere) (pc := 180) (v := -1) d_X12_wordHere_180 (by decide) ?_
                              replace h := Option.some.inj h
                              subst h
                              exact GW_ret (X := X_X12_wordHere) (pc := 181) d_X12_wordHere_181 rfl trivial
                            · replace h := g_ie c h
                              refine GW_bipush (X := X_X12_wordHere) (pc := 175) (v := 13) d_X12_wordHere_175 (by decide) ?_
                              refine GW_goto (X := X_X12_wordHere) (pc := 177) 181 d_X12_wordHere_177 (by decide) ?_
                              replace h := Option.some.inj h
                              subst h
                              exact GW_ret (X := X_X12_wordHere) (pc := 181) d_X12_wordHere_181 rfl trivial
                          · replace h := g_ie c h
                            refine GW_bipush (X := X_X12_wordHere) (pc := 160) (v := 12) d_X12_wordHere_160 (by decide) ?_
                            refine GW_goto (X := X_X12_wordHere) (pc := 162) 181 d_X12_wordHere_162 (by decide) ?_
                            replace h := Option.some.inj h
                            subst h
                            exact GW_ret (X := X_X12_wordHere) (pc := 181) d_X12_wordHere_181 rfl trivial
                        · replace h := g_ie c h
                          refine GW_bipush (X := X_X12_wordHere) (pc := 147) (v := 11) d_X12_wordHere_147 (by decide) ?_
                          replace h := Option.some.inj h
                          subst h
                          exact GW_ret (X := X_X12_wordHere) (pc := 149) d_X12_wordHere_149 rfl trivial
                      · replace h := g_ie c h
                        refine GW_bipush (X := X_X12_wordHere) (pc := 134) (v := 10) d_X12_wordHere_134 (by decide) ?_
                        replace h := Option.some.inj h
                        subst h
                        exact GW_ret (X := X_X12_wordHere) (pc := 136) d_X12_wordHere_136 rfl trivial
                    · replace h := g_ie c h
                      refine GW_bipush (X := X_X12_wordHere) (pc := 121) (v := 9) d_X12_wordHere_121 (by decide) ?_
                      replace h := Option.some.inj h
                      subst h
                      exact GW_ret (X := X_X12_wordHere) (pc := 123) d_X12_wordHere_123 rfl trivial
                  · replace h := g_ie c h
                    refine GW_bipush (X := X_X12_wordHere) (pc := 108) (v := 8) d_X12_wordHere_108 (by decide) ?_
                    replace h := Option.some.inj h
                    subst h
                    exact GW_ret (X := X_X12_wordHere) (pc := 110) d_X12_wordHere_110 rfl trivial
                · replace h := g_ie c h
                  refine GW_bipush (X := X_X12_wordHere) (pc := 95) (v := 7) d_X12_wordHere_95 (by decide) ?_
                  replace h := Option.some.inj h
                  subst h
                  exact GW_ret (X := X_X12_wordHere) (pc := 97) d_X12_wordHere_97 rfl trivial
              · replace h := g_ie c h
                refine GW_bipush (X := X_X12_wordHere) (pc := 82) (v := 6) d_X12_wordHere_82 (by decide) ?_
                replace h := Option.some.inj h
                subst h
                exact GW_ret (X := X_X12_wordHere) (pc := 84) d_X12_wordHere_84 rfl trivial
            · replace h := g_ie c h
              refine GW_iconst (X := X_X12_wordHere) (pc := 70) (v := 5) d_X12_wordHere_70 (by decide) ?_
              replace h := Option.some.inj h
              subst h
              exact GW_ret (X := X_X12_wordHere) (pc := 71) d_X12_wordHere_71 rfl trivial
          · replace h := g_ie c h
            refine GW_iconst (X := X_X12_wordHere) (pc := 58) (v := 4) d_X12_wordHere_58 (by decide) ?_
            replace h := Option.some.inj h
            subst h
            exact GW_ret (X := X_X12_wordHere) (pc := 59) d_X12_wordHere_59 rfl trivial
        · replace h := g_ie c h
          refine GW_iconst (X := X_X12_wordHere) (pc := 46) (v := 3) d_X12_wordHere_46 (by decide) ?_
          replace h := Option.some.inj h
          subst h
          exact GW_ret (X := X_X12_wordHere) (pc := 47) d_X12_wordHere_47 rfl trivial
      · replace h := g_ie c h
        refine GW_iconst (X := X_X12_wordHere) (pc := 34) (v := 2) d_X12_wordHere_34 (by decide) ?_
        replace h := Option.some.inj h
        subst h
        exact GW_ret (X := X_X12_wordHere) (pc := 35) d_X12_wordHere_35 rfl trivial
    · replace h := g_ie c h
      refine GW_iconst (X := X_X12_wordHere) (pc := 22) (v := 1) d_X12_wordHere_22 (by decide) ?_
      replace h := Option.some.inj h
      subst h
      exact GW_ret (X := X_X12_wordHere) (pc := 23) d_X12_wordHere_23 rfl trivial
  · replace h := g_ie c h
    refine GW_iconst (X := X_X12_wordHere) (pc := 10) (v := 0) d_X12_wordHere_10 (by decide) ?_
    replace h := Option.some.inj h
    subst h
    exact GW_ret (X := X_X12_wordHere) (pc := 11) d_X12_wordHere_11 rfl trivial
def F_X12_wordHere (l0 : Option Nat) (M : gM) : Option (Int32 × gM) := F_X12_wordHere_b0 l0 M
theorem T_X12_wordHere (l0 : Option Nat) (M : gM) (r : (Int32 × gM)) (h : F_X12_wordHere l0 M = some r) : g_Met 2 0 0 yX12_wordHere X_X12_wordHere [vr l0] M (some (vi r.1), r.2) :=
  g_Met_of pn_RX12 rfl (Nat.le_of_ble_eq_true rfl) (fun h => by cases h) (GW_sub [0] rfl (T_X12_wordHere_b0 r l0 M h))
/-! ForgetHeirsModel.value()Z -/
theorem d_X12_value_0 : decode cX12_value 0 = .ok (.aload_n 0, 1) := by decide +kernel
theorem d_X12_value_1 : decode cX12_value 1 = .ok (.invokevirtual 93, 3) := by decide +kernel
theorem d_X12_value_4 : decode cX12_value 4 = .ok (.pop, 1) := by decide +kernel
theorem d_X12_value_5 : decode cX12_value 5 = .ok (.aload_n 0, 1) := by decide +kernel
theorem d_X12_value_6 : decode cX12_value 6 = .ok (.getfield 90, 3) := by decide +kernel
theorem d_X12_value_9 : decode cX12_value 9 = .ok (.istore_n 1, 1) := by decide +kernel
theorem d_X12_value_10 : decode cX12_value 10 = .ok (.aload_n 0, 1) := by decide +kernel
theorem d_X12_value_11 : decode cX12_value 11 = .ok (.aload_n 0, 1) := by decide +kernel
theorem d_X12_value_12 : decode cX12_value 12 = .ok (.getfield 90, 3) := by decide +kernel
theorem d_X12_value_15 : decode cX12_value 15 = .ok (.invokevirtual 108, 3) := by decide +kernel
theorem d_X12_value_18 : decode cX12_value 18 = .ok (.ifCond .eq 34, 3) := by decide +kernel
theorem d_X12_value_21 : decode cX12_value 21 = .ok (.aload_n 0, 1) := by decide +kernel
theorem d_X12_value_22 : decode cX12_value 22 = .ok (.iconst 0, 1) := by decide +kernel
theorem d_X12_value_23 : decode cX12_value 23 = .ok (.ldc 170, 2) := by decide +kernel
theorem d_X12_value_25 : decode cX12_value 25 = .ok (.invokevirtual 171, 3) := by decide +kernel
theorem d_X12_value_28 : decode cX12_value 28 = .ok (.ifCond .eq 11, 3) := by decide +kernel
theorem d_X12_value_31 : decode cX12_value 31 = .ok (.aload_n 0, 1) := by decide +kernel
theorem d_X12_value_32 : decode cX12_value 32 = .ok (.iload_n 1, 1) := by decide +kernel
theorem d_X12_value_33 : decode cX12_value 33 = .ok (.invokevirtual 174, 3) := by decide +kernel
theorem d_X12_value_36 : decode cX12_value 36 = .ok (.ifCond .ne 5, 3) := by decide +kernel
theorem d_X12_value_39 : decode cX12_value 39 = .ok (.iconst 0, 1) := by decide +kernel
theorem d_X12_value_40 : decode cX12_value 40 = .ok (.ireturn, 1) := by decide +kernel
theorem d_X12_value_41 : decode cX12_value 41 = .ok (.aload_n 0, 1) := by decide +kernel
theorem d_X12_value_42 : decode cX12_value 42 = .ok (.iconst 0, 1) := by decide +kernel
theorem d_X12_value_43 : decode cX12_value 43 = .ok (.aload_n 0, 1) := by decide +kernel
theorem d_X12_value_44 : decode cX12_value 44 = .ok (.getfield 115, 3) := by decide +kernel
theorem d_X12_value_47 : decode cX12_value 47 = .ok (.invokevirtual 166, 3) := by decide +kernel
theorem d_X12_value_50 : decode cX12_value 50 = .ok (.iconst 1, 1) := by decide +kernel
theorem d_X12_value_51 : decode cX12_value 51 = .ok (.ireturn, 1) := by decide +kernel
theorem d_X12_value_52 : decode cX12_value 52 = .ok (.aload_n 0, 1) := by decide +kernel
theorem d_X12_value_53 : decode cX12_value 53 = .ok (.invokevirtual 177, 3) := by decide +kernel
theorem d_X12_value_56 : decode cX12_value 56 = .ok (.istore_n 2, 1) := by decide +kernel
theorem d_X12_value_57 : decode cX12_value 57 = .ok (.iload_n 2, 1) := by decide +kernel
theorem d_X12_value_58 : decode cX12_value 58 = .ok (.ifCond .ge 10, 3) := by decide +kernel
theorem d_X12_value_61 : decode cX12_value 61 = .ok (.aload_n 0, 1) := by decide +kernel
theorem d_X12_value_62 : decode cX12_value 62 = .ok (.iconst 0, 1) := by decide +kernel
theorem d_X12_value_63 : decode cX12_value 63 = .ok (.iload_n 1, 1) := by decide +kernel
theorem d_X12_value_64 : decode cX12_value 64 = .ok (.invokevirtual 111, 3) := by decide +kernel
theorem d_X12_value_67 : decode cX12_value 67 = .ok (.ireturn, 1) := by decide +kernel
theorem d_X12_value_68 : decode cX12_value 68 = .ok (.aload_n 0, 1) := by decide +kernel
theorem d_X12_value_69 : decode cX12_value 69 = .ok (.iload_n 1, 1) := by decide +kernel
theorem d_X12_value_70 : decode cX12_value 70 = .ok (.invokevirtual 174, 3) := by decide +kernel
theorem d_X12_value_73 : decode cX12_value 73 = .ok (.ifCond .ne 5, 3) := by decide +kernel
theorem d_X12_value_76 : decode cX12_value 76 = .ok (.iconst 0, 1) := by decide +kernel
theorem d_X12_value_77 : decode cX12_value 77 = .ok (.ireturn, 1) := by decide +kernel
theorem d_X12_value_78 : decode cX12_value 78 = .ok (.aload_n 0, 1) := by decide +kernel
theorem d_X12_value_79 : decode cX12_value 79 = .ok (.invokevirtual 105, 3) := by decide +kernel
theorem d_X12_value_82 : decode cX12_value 82 = .ok (.aload_n 0, 1) := by decide +kernel
theorem d_X12_value_83 : decode cX12_value 83 = .ok (.iconst 1, 1) := by decide +kernel
theorem d_X12_value_84 : decode cX12_value 84 = .ok (.iload_n 2, 1) := by decide +kernel
theorem d_X12_value_85 : decode cX12_value 85 = .ok (.invokevirtual 166, 3) := by decide +kernel
theorem d_X12_value_88 : decode cX12_value 88 = .ok (.iconst 1, 1) := by decide +kernel
theorem d_X12_value_89 : decode cX12_value 89 = .ok (.ireturn, 1) := by decide +kernel
abbrev X_X12_value : gX := (RX12, cX12_value, 3, (some .boolean), false)
def F_X12_value_b39 (M : gM) : Option (Int32 × gM) :=
  some ((0 : Int32), M)
theorem T_X12_value_b39 (r : (Int32 × gM)) (M : gM) (h : F_X12_value_b39 M = some r) : GW 3 0 0 X_X12_value 39 [] [] M (some (vi r.1), r.2) := by
  delta F_X12_value_b39 at h
  refine GW_iconst (X := X_X12_value) (pc := 39) (v := 0) d_X12_value_39 (by decide) ?_
  replace h := Option.some.inj h
  subst h
  exact GW_ret (X := X_X12_value) (pc := 40) d_X12_value_40 rfl g_rok0
def F_X12_value_b0 (l0 : Option Nat) (M : gM) : Option (Int32 × gM) :=
  (gO 12 M l0).bind fun i1 => (F_X12_see (some i1) M).bind fun (v2, M3) => (gI 12 M3 (some i1) 8).bind fun v4 => (gI 12 M3 (some i1) 8).bind fun v5 => (gC 12 M3 i1).bind fun _ => (F_X12_isDigit (some i1) v5 M3).bind fun v7 => if v7 = 0 then ((F_X12_wordHere (some i1) M3).bind fun (v8, M9) => if 0 ≤ v8 then ((gC 12 M9 i1).bind fun _ => (F_X12_makes (some i1) v4 M9).bind fun (v11, M12) => if v11 = 0 then (some ((0 : Int32), M12)) else ((gC 12 M12 i1).bind fun _ => (F_X12_passWord (some i1) M12).bind fun M14 => (gC 12 M14 i1).bind fun _ => (F_X12_puts (some i1) (1 : Int32) v8 M14).bind fun M16 => some ((1 : Int32), M16))) else ((gC 12 M9 i1).bind fun _ => (F_X12_fails (some i1) (0 : Int32) v4 M9).bind fun (v18, M19) => if v18 = 0 ∨ v18 = 1 then some (v18, M19) else none)) else ((F_X12_numberHere (some i1) (0 : Int32) (99999 : Int32) M3).bind fun (v21, M22) => if v21 = 0 then (F_X12_value_b39 M22) else ((gC 12 M22 i1).bind fun _ => (F_X12_makes (some i1) v4 M22).bind fun (v24, M25) => if v24 = 0 then (F_X12_value_b39 M25) else ((gI 12 M25 (some i1) 10).bind fun v26 => (gC 12 M25 i1).bind fun _ => (F_X12_puts (some i1) (0 : Int32) v26 M25).bind fun M28 => some ((1 : Int32), M28))))
set_option maxHeartbeats 1000000 in
theorem T_X12_value_b0 (r : (Int32 × gM)) (l0 : Option Nat) (M : gM) (h : F_X12_value_b0 l0 M = some r) : GW 3 0 0 X_X12_value 0 [(0, vr l0)] [] M (some (vi r.1), r.2) := by
  delta F_X12_value_b0 at h
  refine GW_aload_n (X := X_X12_value) (pc := 0) d_X12_value_0 rfl 0 rfl ?_
  replace h := g_bd h
  obtain ⟨i1, hi1, h⟩ := h
  obtain ⟨rfl, ki1⟩ := g_gO hi1
  replace h := g_bd h
  obtain ⟨⟨v2, M3⟩, hv2, h⟩ := h
  dsimp only at h
  refine GW_callV (X := X_X12_value) (pc := 1) (bc0 := 0) (bs0 := 0) (r := some (vi v2)) (M2 := M3) (c0 := 12) (T_X12_see (some i1) M (v2, M3) hv2) (Nat.le_of_ble_eq_true rfl) (Nat.le_of_ble_eq_true rfl) rfl g_cok12 ki1 yc_X12_see ⟨m_1239, m_1241, m_43, m_127, m_1242⟩ d_X12_value_1 rfl (st := []) rfl (Nat.le_of_ble_eq_true rfl) (Nat.le_of_ble_eq_true rfl) (Nat.le_of_ble_eq_true rfl) (st2 := [vi v2]) rfl ?_
  refine GW_pop (X := X_X12_value) (pc := 4) d_X12_value_4 rfl ?_
  refine GW_aload_n (X := X_X12_value) (pc := 5) d_X12_value_5 rfl 0 rfl ?_
  replace h := g_bd h
  obtain ⟨v4, hv4, h⟩ := h
  refine GW_getI (X := X_X12_value) (pc := 6) f_X12_90 d_X12_value_6 hv4 (Or.inl ty_12_8) ?_
  refine GW_istore_n (X := X_X12_value) (pc := 9) d_X12_value_9 rfl (Nat.le_of_ble_eq_true rfl) (lv2 := [(1, vi v4), (0, vr (some i1))]) rfl ?_
  refine GW_aload_n (X := X_X12_value) (pc := 10) d_X12_value_10 rfl 1 rfl ?_
  refine GW_aload_n (X := X_X12_value) (pc := 11) d_X12_value_11 rfl 1 rfl ?_
  replace h := g_bd h
  obtain ⟨v5, hv5, h⟩ := h
  refine GW_getI (X := X_X12_value) (pc := 12) f_X12_90 d_X12_value_12 hv5 (Or.inl ty_12_8) ?_
  replace h := g_bd h
  obtain ⟨_, kk6, h⟩ := h
  replace kk6 := g_gC kk6
  replace h := g_bd h
  obtain ⟨v7, hv7, h⟩ := h
  refine GW_callV (X := X_X12_value) (pc := 15) (bc0 := 0) (bs0 := 0) (r := some (vi v7)) (M2 := M3) (c0 := 12) (T_X12_isDigit (some i1) v5 M3 v7 hv7) (Nat.le_of_ble_eq_true rfl) (Nat.le_of_ble_eq_true rfl) rfl g_cok12 kk6 yc_X12_isDigit ⟨m_1287, m_1289, m_53, m_127, m_1290⟩ d_X12_value_15 rfl (st := []) rfl (Nat.le_of_ble_eq_true rfl) (Nat.le_of_ble_eq_true rfl) (Nat.le_of_ble_eq_true rfl) (st2 := [vi v7]) rfl ?_
  refine GW_if_eq (X := X_X12_value) (pc := 18) 52 d_X12_value_18 (by decide) (fun c => ?_) (fun c => ?_)
  · replace h := g_ip c h
    refine GW_aload_n (X := X_X12_value) (pc := 52) d_X12_value_52 rfl 1 rfl ?_
    replace h := g_bd h
    obtain ⟨⟨v8, M9⟩, hv8, h⟩ := h
    dsimp only at h
    refine GW_callV (X := X_X12_value) (pc := 53) (bc0 := 0) (bs0 := 0) (r := some (vi v8)) (M2 := M9) (c0 := 12) (T_X12_wordHere (some i1) M3 (v8, M9) hv8) (Nat.le_of_ble_eq_true rfl) (Nat.le_of_ble_eq_true rfl) rfl g_cok12 kk6 yc_X12_wordHere ⟨m_1346, m_1348, m_66, m_127, m_1349⟩ d_X12_value_53 rfl (st := []) rfl (Nat.le_of_ble_eq_true rfl) (Nat.le_of_ble_eq_true rfl) (Nat.le_of_ble_eq_true rfl) (st2 := [vi v8]) rfl ?_
    refine GW_istore_n (X := X_X12_value) (pc := 56) d_X12_value_56 rfl (Nat.le_of_ble_eq_true rfl) (lv2 := [(2, vi v8), (1, vi v4), (0, vr (some i1))]) rfl ?_
    refine GW_iload_n (X := X_X12_value) (pc := 57) d_X12_value_57 rfl 0 rfl ?_
    refine GW_if_ge (X := X_X12_value) (pc := 58) 68 d_X12_value_58 (by decide) (fun c => ?_) (fun c => ?_)
    · replace h := g_ip c h
      refine GW_aload_n (X := X_X12_value) (pc := 68) d_X12_value_68 rfl 2 rfl ?_
      refine GW_iload_n (X := X_X12_value) (pc := 69) d_X12_value_69 rfl 1 rfl ?_
      replace h := g_bd h
      obtain ⟨_, kk10, h⟩ := h
      replace kk10 := g_gC kk10
      replace h := g_bd h
      obtain ⟨⟨v11, M12⟩, hv11, h⟩ := h
      dsimp only at h
      refine GW_callV (X := X_X12_value) (pc := 70) (bc0 := 0) (bs0 := 0) (r := some (vi v11)) (M2 := M12) (c0 := 12) (T_X12_makes (some i1) v4 M9 (v11, M12) hv11) (Nat.le_of_ble_eq_true rfl) (Nat.le_of_ble_eq_true rfl) rfl g_cok12 kk10 yc_X12_makes ⟨m_1338, m_1340, m_64, m_127, m_1341⟩ d_X12_value_70 rfl (st := []) rfl (Nat.le_of_ble_eq_true rfl) (Nat.le_of_ble_eq_true rfl) (Nat.le_of_ble_eq_true rfl) (st2 := [vi v11]) rfl ?_
      refine GW_if_ne (X := X_X12_value) (pc := 73) 78 d_X12_value_73 (by decide) (fun c => ?_) (fun c => ?_)
      · replace h := g_ie c h
        refine GW_aload_n (X := X_X12_value) (pc := 78) d_X12_value_78 rfl 2 rfl ?_
        replace h := g_bd h
        obtain ⟨_, kk13, h⟩ := h
        replace kk13 := g_gC kk13
        replace h := g_bd h
        obtain ⟨M14, hM14, h⟩ := h
        refine GW_callV (X := X_X12_value) (pc := 79) (bc0 := 0) (bs0 := 0) (r := none) (M2 := M14) (c0 := 12) (T_X12_passWord (some i1) M12 M14 hM14) (Nat.le_of_ble_eq_true rfl) (Nat.le_of_ble_eq_true rfl) rfl g_cok12 kk13 yc_X12_passWord ⟨m_1275, m_1277, m_50, m_127, m_1278⟩ d_X12_value_79 rfl (st := []) rfl (Nat.le_of_ble_eq_true rfl) (Nat.le_of_ble_eq_true rfl) (Nat.le_of_ble_eq_true rfl) (st2 := []) rfl ?_
        refine GW_aload_n (X := X_X12_value) (pc := 82) d_X12_value_82 rfl 2 rfl ?_
        refine GW_iconst (X := X_X12_value) (pc := 83) (v := 1) d_X12_value_83 (by decide) ?_
        refine GW_iload_n (X := X_X12_value) (pc := 84) d_X12_value_84 rfl 0 rfl ?_
        replace h := g_bd h
        obtain ⟨_, kk15, h⟩ := h
        replace kk15 := g_gC kk15
        replace h := g_bd h
        obtain ⟨M16, hM16, h⟩ := h
        refine GW_callV (X := X_X12_value) (pc := 85) (bc0 := 0) (bs0 := 0) (r := none) (M2 := M16) (c0 := 12) (T_X12_puts (some i1) (1 : Int32) v8 M14 M16 hM16) (Nat.le_of_ble_eq_true rfl) (Nat.le_of_ble_eq_true rfl) rfl g_cok12 kk15 yc_X12_puts ⟨m_1342, m_1344, m_65, m_127, m_1345⟩ d_X12_value_85 rfl (st := []) rfl (Nat.le_of_ble_eq_true rfl) (Nat.le_of_ble_eq_true rfl) (Nat.le_of_ble_eq_true rfl) (st2 := []) rfl ?_
        refine GW_iconst (X := X_X12_value) (pc := 88) (v := 1) d_X12_value_88 (by decide) ?_
        replace h := Option.some.inj h
        subst h
        exact GW_ret (X := X_X12_value) (pc := 89) d_X12_value_89 rfl g_rok1
      · replace h := g_ip c h
        refine GW_iconst (X := X_X12_value) (pc := 76) (v := 0) d_X12_value_76 (by decide) ?_
        replace h := Option.some.inj h
        subst h
        exact GW_ret (X := X_X12_value) (pc := 77) d_X12_value_77 rfl g_rok0
    · replace h := g_ie c h
      refine GW_aload_n (X := X_X12_value) (pc := 61) d_X12_value_61 rfl 2 rfl ?_
      refine GW_iconst (X := X_X12_value) (pc := 62) (v := 0) d_X12_value_62 (by decide) ?_
      refine GW_iload_n (X := X_X12_value) (pc := 63) d_X12_value_63 rfl 1 rfl ?_
      replace h := g_bd h
      obtain ⟨_, kk17, h⟩ := h
      replace kk17 := g_gC kk17
      replace h := g_bd h
      obtain ⟨⟨v18, M19⟩, hv18, h⟩ := h
      dsimp only at h
      refine GW_callV (X := X_X12_value) (pc := 64) (bc0 := 0) (bs0 := 0) (r := some (vi v18)) (M2 := M19) (c0 := 12) (T_X12_fails (some i1) (0 : Int32) v4 M9 (v18, M19) hv18) (Nat.le_of_ble_eq_true rfl) (Nat.le_of_ble_eq_true rfl) rfl g_cok12 kk17 yc_X12_fails ⟨m_1263, m_1265, m_47, m_127, m_1266⟩ d_X12_value_64 rfl (st := []) rfl (Nat.le_of_ble_eq_true rfl) (Nat.le_of_ble_eq_true rfl) (Nat.le_of_ble_eq_true rfl) (st2 := [vi v18]) rfl ?_
      replace h := g_if2 h
      obtain ⟨hz20, h⟩ := h
      replace h := Option.some.inj h
      subst h
      exact GW_ret (X := X_X12_value) (pc := 67) d_X12_value_67 rfl (g_zok hz20)
  · replace h := g_ie c h
    refine GW_aload_n (X := X_X12_value) (pc := 21) d_X12_value_21 rfl 1 rfl ?_
    refine GW_iconst (X := X_X12_value) (pc := 22) (v := 0) d_X12_value_22 (by decide) ?_
    refine GW_ldc (X := X_X12_value) (pc := 23) d_X12_value_23 m_1337 ?_
    replace h := g_bd h
    obtain ⟨⟨v21, M22⟩, hv21, h⟩ := h
    dsimp only at h
    refine GW_callV (X := X_X12_value) (pc := 25) (bc0 := 0) (bs0 := 0) (r := some (vi v21)) (M2 := M22) (c0 := 12) (T_X12_numberHere (some i1) (0 : Int32) (99999 : Int32) M3 (v21, M22) hv21) (Nat.le_of_ble_eq_true rfl) (Nat.le_of_ble_eq_true rfl) rfl g_cok12 kk6 yc_X12_numberHere ⟨m_1283, m_1285, m_52, m_127, m_1286⟩ d_X12_value_25 rfl (st := []) rfl (Nat.le_of_ble_eq_true rfl) (Nat.le_of_ble_eq_true rfl) (Nat.le_of_ble_eq_true rfl) (st2 := [vi v21]) rfl ?_
    refine GW_if_eq (X := X_X12_value) (pc := 28) 39 d_X12_value_28 (by decide) (fun c => ?_) (fun c => ?_)
    · replace h := g_ip c h
      refine GW_sub [] rfl ?_
      exact T_X12_value_b39 r M22 h
    · replace h := g_ie c h
      refine GW_aload_n (X := X_X12_value) (pc := 31) d_X12_value_31 rfl 1 rfl ?_
      refine GW_iload_n (X := X_X12_value) (pc := 32) d_X12_value_32 rfl 0 rfl ?_
      replace h := g_bd h
      obtain ⟨_, kk23, h⟩ := h
      replace kk23 := g_gC kk23
      replace h := g_bd h
      obtain ⟨⟨v24, M25⟩, hv24, h⟩ := h
      dsimp only at h
      refine GW_callV (X := X_X12_value) (pc := 33) (bc0 := 0) (bs0 := 0) (r := some (vi v24)) (M2 := M25) (c0 := 12) (T_X12_makes (some i1) v4 M22 (v24, M25) hv24) (Nat.le_of_ble_eq_true rfl) (Nat.le_of_ble_eq_true rfl) rfl g_cok12 kk23 yc_X12_makes ⟨m_1338, m_1340, m_64, m_127, m_1341⟩ d_X12_value_33 rfl (st := []) rfl (Nat.le_of_ble_eq_true rfl) (Nat.le_of_ble_eq_true rfl) (Nat.le_of_ble_eq_true rfl) (st2 := [vi v24]) rfl ?_
      refine GW_if_ne (X := X_X12_value) (pc := 36) 41 d_X12_value_36 (by decide) (fun c => ?_) (fun c => ?_)
      · replace h := g_ie c h
        refine GW_aload_n (X := X_X12_value) (pc := 41) d_X12_value_41 rfl 1 rfl ?_
        refine GW_iconst (X := X_X12_value) (pc := 42) (v := 0) d_X12_value_42 (by decide) ?_
        refine GW_aload_n (X := X_X12_value) (pc := 43) d_X12_value_43 rfl 1 rfl ?_
        replace h := g_bd h
        obtain ⟨v26, hv26, h⟩ := h
        refine GW_getI (X := X_X12_value) (pc := 44) f_X12_115 d_X12_value_44 hv26 (Or.inl ty_12_10) ?_
        replace h := g_bd h
        obtain ⟨_, kk27, h⟩ := h
        replace kk27 := g_gC kk27
        replace h := g_bd h
        obtain ⟨M28, hM28, h⟩ := h
        refine GW_callV (X := X_X12_value) (pc := 47) (bc0 := 0) (bs0 := 0) (r := none) (M2 := M28) (c0 := 12) (T_X12_puts (some i1) (0 : Int32) v26 M25 M28 hM28) (Nat.le_of_ble_eq_true rfl) (Nat.le_of_ble_eq_true rfl) rfl g_cok12 kk27 yc_X12_puts ⟨m_1342, m_1344, m_65, m_127, m_1345⟩ d_X12_value_47 rfl (st := []) rfl (Nat.le_of_ble_eq_true rfl) (Nat.le_of_ble_eq_true rfl) (Nat.le_of_ble_eq_true rfl) (st2 := []) rfl ?_
        refine GW_iconst (X := X_X12_value) (pc := 50) (v := 1) d_X12_value_50 (by decide) ?_
        replace h := Option.some.inj h
        subst h
        exact GW_ret (X := X_X12_value) (pc := 51) d_X12_value_51 rfl g_rok1
      · replace h := g_ip c h
        refine GW_sub [] rfl ?_
        exact T_X12_value_b39 r M25 h
def F_X12_value (l0 : Option Nat) (M : gM) : Option (Int32 × gM) := F_X12_value_b0 l0 M
theorem T_X12_value (l0 : Option Nat) (M : gM) (r : (Int32 × gM)) (h : F_X12_value l0 M = some r) : g_Met 3 0 0 yX12_value X_X12_value [vr l0] M (some (vi r.1), r.2) :=
  g_Met_of pn_RX12 rfl (Nat.le_of_ble_eq_true rfl) (fun h => by cases h) (GW_sub [0] rfl (T_X12_value_b0 r l0 M h))
