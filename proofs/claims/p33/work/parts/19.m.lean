/-! ForgetHeirsModel.holdsOf(I)I -/
theorem d_X12_holdsOf_0 : decode cX12_holdsOf 0 = .ok (.iconst 0, 1) := by decide +kernel
theorem d_X12_holdsOf_1 : decode cX12_holdsOf 1 = .ok (.istore_n 2, 1) := by decide +kernel
theorem d_X12_holdsOf_2 : decode cX12_holdsOf 2 = .ok (.iconst 0, 1) := by decide +kernel
theorem d_X12_holdsOf_3 : decode cX12_holdsOf 3 = .ok (.istore_n 3, 1) := by decide +kernel
theorem d_X12_holdsOf_4 : decode cX12_holdsOf 4 = .ok (.iload_n 3, 1) := by decide +kernel
theorem d_X12_holdsOf_5 : decode cX12_holdsOf 5 = .ok (.aload_n 0, 1) := by decide +kernel
theorem d_X12_holdsOf_6 : decode cX12_holdsOf 6 = .ok (.getfield 39, 3) := by decide +kernel
theorem d_X12_holdsOf_9 : decode cX12_holdsOf 9 = .ok (.iconst 1, 1) := by decide +kernel
theorem d_X12_holdsOf_10 : decode cX12_holdsOf 10 = .ok (.iaload, 1) := by decide +kernel
theorem d_X12_holdsOf_11 : decode cX12_holdsOf 11 = .ok (.if_icmp .ge 28, 3) := by decide +kernel
theorem d_X12_holdsOf_14 : decode cX12_holdsOf 14 = .ok (.iload_n 2, 1) := by decide +kernel
theorem d_X12_holdsOf_15 : decode cX12_holdsOf 15 = .ok (.aload_n 0, 1) := by decide +kernel
theorem d_X12_holdsOf_16 : decode cX12_holdsOf 16 = .ok (.iload_n 1, 1) := by decide +kernel
theorem d_X12_holdsOf_17 : decode cX12_holdsOf 17 = .ok (.iload_n 3, 1) := by decide +kernel
theorem d_X12_holdsOf_18 : decode cX12_holdsOf 18 = .ok (.invokevirtual 310, 3) := by decide +kernel
theorem d_X12_holdsOf_21 : decode cX12_holdsOf 21 = .ok (.ifCond .eq 9, 3) := by decide +kernel
theorem d_X12_holdsOf_24 : decode cX12_holdsOf 24 = .ok (.iconst 1, 1) := by decide +kernel
theorem d_X12_holdsOf_25 : decode cX12_holdsOf 25 = .ok (.iload_n 3, 1) := by decide +kernel
theorem d_X12_holdsOf_26 : decode cX12_holdsOf 26 = .ok (.ishl, 1) := by decide +kernel
theorem d_X12_holdsOf_27 : decode cX12_holdsOf 27 = .ok (.goto 4, 3) := by decide +kernel
theorem d_X12_holdsOf_30 : decode cX12_holdsOf 30 = .ok (.iconst 0, 1) := by decide +kernel
theorem d_X12_holdsOf_31 : decode cX12_holdsOf 31 = .ok (.ior, 1) := by decide +kernel
theorem d_X12_holdsOf_32 : decode cX12_holdsOf 32 = .ok (.istore_n 2, 1) := by decide +kernel
theorem d_X12_holdsOf_33 : decode cX12_holdsOf 33 = .ok (.iinc 3 1, 3) := by decide +kernel
theorem d_X12_holdsOf_36 : decode cX12_holdsOf 36 = .ok (.goto (-32), 3) := by decide +kernel
theorem d_X12_holdsOf_39 : decode cX12_holdsOf 39 = .ok (.iload_n 2, 1) := by decide +kernel
theorem d_X12_holdsOf_40 : decode cX12_holdsOf 40 = .ok (.ireturn, 1) := by decide +kernel
abbrev X_X12_holdsOf : gX := (RX12, cX12_holdsOf, 4, (some .int), false)
def F_X12_holdsOf_b31 (k4 : Option Nat → Int32 → Int32 → Int32 → Option Int32) (M : gM) (l0 : Option Nat) (l1 : Int32) (l3 : Int32) (s0 : Int32) (s1 : Int32) : Option Int32 :=
  k4 l0 l1 (s0 ||| s1) (l3 + 1)
theorem T_X12_holdsOf_b31 (k4 : Option Nat → Int32 → Int32 → Int32 → Option Int32) (M : gM) (r : Int32) (hk4 : ∀ (l0 : Option Nat) (l1 : Int32) (l2 : Int32) (l3 : Int32), k4 l0 l1 l2 l3 = some r → GW 3 0 0 X_X12_holdsOf 4 [(0, vr l0), (1, vi l1), (2, vi l2), (3, vi l3)] [] M (some (vi r), M)) (l0 : Option Nat) (l1 : Int32) (l3 : Int32) (s0 : Int32) (s1 : Int32) (h : F_X12_holdsOf_b31 k4 M l0 l1 l3 s0 s1 = some r) : GW 3 0 0 X_X12_holdsOf 31 [(0, vr l0), (1, vi l1), (3, vi l3)] [vi s1, vi s0] M (some (vi r), M) := by
  delta F_X12_holdsOf_b31 at h
  refine GW_ior (X := X_X12_holdsOf) (pc := 31) d_X12_holdsOf_31 ?_
  refine GW_istore_n (X := X_X12_holdsOf) (pc := 32) d_X12_holdsOf_32 rfl (Nat.le_of_ble_eq_true rfl) (lv2 := [(2, vi (s0 ||| s1)), (0, vr l0), (1, vi l1), (3, vi l3)]) rfl ?_
  refine GW_iinc (j := 3) (X := X_X12_holdsOf) (pc := 33) d_X12_holdsOf_33 rfl (congrArg (fun z => _ + z) (by decide : Int32.ofInt 1 = (1 : Int32))) (Nat.le_of_ble_eq_true rfl) (lv2 := [(3, vi (l3 + 1)), (2, vi (s0 ||| s1)), (0, vr l0), (1, vi l1)]) rfl ?_
  refine GW_goto (X := X_X12_holdsOf) (pc := 36) 4 d_X12_holdsOf_36 (by decide) ?_
  refine GW_sub [2, 3, 1, 0] rfl ?_
  exact hk4 l0 l1 (s0 ||| s1) (l3 + 1) h
def F_X12_holdsOf_b4 (k4 : Option Nat → Int32 → Int32 → Int32 → Option Int32) (M : gM) (l0 : Option Nat) (l1 : Int32) (l2 : Int32) (l3 : Int32) : Option Int32 :=
  (gR 12 M l0 20).bind fun v1 => (aI 20 M v1 (1 : Int32)).bind fun v2 => if v2 ≤ l3 then (some l2) else ((gO 12 M l0).bind fun i3 => (F_X12_holds (some i3) l1 l3 M).bind fun v4 => if v4 = 0 then (F_X12_holdsOf_b31 k4 M (some i3) l1 l3 l2 (0 : Int32)) else (F_X12_holdsOf_b31 k4 M (some i3) l1 l3 l2 ((1 : Int32) <<< (l3 &&& 31))))
theorem T_X12_holdsOf_b4 (k4 : Option Nat → Int32 → Int32 → Int32 → Option Int32) (M : gM) (r : Int32) (hk4 : ∀ (l0 : Option Nat) (l1 : Int32) (l2 : Int32) (l3 : Int32), k4 l0 l1 l2 l3 = some r → GW 3 0 0 X_X12_holdsOf 4 [(0, vr l0), (1, vi l1), (2, vi l2), (3, vi l3)] [] M (some (vi r), M)) (l0 : Option Nat) (l1 : Int32) (l2 : Int32) (l3 : Int32) (h : F_X12_holdsOf_b4 k4 M l0 l1 l2 l3 = some r) : GW 3 0 0 X_X12_holdsOf 4 [(0, vr l0), (1, vi l1), (2, vi l2), (3, vi l3)] [] M (some (vi r), M) := by
  delta F_X12_holdsOf_b4 at h
  refine GW_iload_n (X := X_X12_holdsOf) (pc := 4) d_X12_holdsOf_4 rfl 3 rfl ?_
  refine GW_aload_n (X := X_X12_holdsOf) (pc := 5) d_X12_holdsOf_5 rfl 0 rfl ?_
  replace h := g_bd h
  obtain ⟨v1, hv1, h⟩ := h
  refine GW_getR (X := X_X12_holdsOf) (pc := 6) f_X12_39 d_X12_holdsOf_6 hv1 (Or.inr ⟨_, ty_12_20⟩) ?_
  refine GW_iconst (X := X_X12_holdsOf) (pc := 9) (v := 1) d_X12_holdsOf_9 (by decide) ?_
  replace h := g_bd h
  obtain ⟨v2, hv2, h⟩ := h
  refine GW_iald (X := X_X12_holdsOf) (pc := 10) d_X12_holdsOf_10 hv2 ?_
  refine GW_icmp_ge (X := X_X12_holdsOf) (pc := 11) 39 d_X12_holdsOf_11 (by decide) (fun c => ?_) (fun c => ?_)
  · replace h := g_ip c h
    refine GW_iload_n (X := X_X12_holdsOf) (pc := 39) d_X12_holdsOf_39 rfl 2 rfl ?_
    replace h := Option.some.inj h
    subst h
    exact GW_ret (X := X_X12_holdsOf) (pc := 40) d_X12_holdsOf_40 rfl trivial
  · replace h := g_ie c h
    refine GW_iload_n (X := X_X12_holdsOf) (pc := 14) d_X12_holdsOf_14 rfl 2 rfl ?_
    refine GW_aload_n (X := X_X12_holdsOf) (pc := 15) d_X12_holdsOf_15 rfl 0 rfl ?_
    refine GW_iload_n (X := X_X12_holdsOf) (pc := 16) d_X12_holdsOf_16 rfl 1 rfl ?_
    refine GW_iload_n (X := X_X12_holdsOf) (pc := 17) d_X12_holdsOf_17 rfl 3 rfl ?_
    replace h := g_bd h
    obtain ⟨i3, hi3, h⟩ := h
    obtain ⟨rfl, ki3⟩ := g_gO hi3
    replace h := g_bd h
    obtain ⟨v4, hv4, h⟩ := h
    refine GW_callV (X := X_X12_holdsOf) (pc := 18) (bc0 := 0) (bs0 := 0) (r := some (vi v4)) (M2 := M) (c0 := 12) (T_X12_holds (some i3) l1 l3 M v4 hv4) (Nat.le_of_ble_eq_true rfl) (Nat.le_of_ble_eq_true rfl) rfl g_cok12 ki3 yc_X12_holds ⟨m_1424, m_1426, m_78, m_127, m_1427⟩ d_X12_holdsOf_18 rfl (st := [vi l2]) rfl (Nat.le_of_ble_eq_true rfl) (Nat.le_of_ble_eq_true rfl) (Nat.le_of_ble_eq_true rfl) (st2 := [vi v4, vi l2]) rfl ?_
    refine GW_if_eq (X := X_X12_holdsOf) (pc := 21) 30 d_X12_holdsOf_21 (by decide) (fun c => ?_) (fun c => ?_)
    · replace h := g_ip c h
      refine GW_iconst (X := X_X12_holdsOf) (pc := 30) (v := 0) d_X12_holdsOf_30 (by decide) ?_
      refine GW_sub [0, 1, 3] rfl ?_
      exact T_X12_holdsOf_b31 k4 M r hk4 (some i3) l1 l3 l2 (0 : Int32) h
    · replace h := g_ie c h
      refine GW_iconst (X := X_X12_holdsOf) (pc := 24) (v := 1) d_X12_holdsOf_24 (by decide) ?_
      refine GW_iload_n (X := X_X12_holdsOf) (pc := 25) d_X12_holdsOf_25 rfl 3 rfl ?_
      refine GW_ishl (X := X_X12_holdsOf) (pc := 26) d_X12_holdsOf_26 ?_
      refine GW_goto (X := X_X12_holdsOf) (pc := 27) 31 d_X12_holdsOf_27 (by decide) ?_
      refine GW_sub [0, 1, 3] rfl ?_
      exact T_X12_holdsOf_b31 k4 M r hk4 (some i3) l1 l3 l2 ((1 : Int32) <<< (l3 &&& 31)) h
def F_X12_holdsOf_L4 (M : gM) : Nat → Option Nat → Int32 → Int32 → Int32 → Option Int32
  | 0 => fun _ _ _ _ => none
  | n + 1 => F_X12_holdsOf_b4 (F_X12_holdsOf_L4 M n) M
theorem T_X12_holdsOf_L4 (M : gM) (r : Int32) : ∀ (n : Nat) (l0 : Option Nat) (l1 : Int32) (l2 : Int32) (l3 : Int32), F_X12_holdsOf_L4 M n l0 l1 l2 l3 = some r → GW 3 0 0 X_X12_holdsOf 4 [(0, vr l0), (1, vi l1), (2, vi l2), (3, vi l3)] [] M (some (vi r), M) := by
  intro n
  induction n with
  | zero => intro l0 l1 l2 l3 h; exact g_no h
  | succ n ih => intro l0 l1 l2 l3 h; exact T_X12_holdsOf_b4 (F_X12_holdsOf_L4 M n) M r ih l0 l1 l2 l3 h
def F_X12_holdsOf_b0 (M : gM) (l0 : Option Nat) (l1 : Int32) : Option Int32 :=
  F_X12_holdsOf_L4 M g_fuel l0 l1 (0 : Int32) (0 : Int32)
theorem T_X12_holdsOf_b0 (M : gM) (r : Int32) (l0 : Option Nat) (l1 : Int32) (h : F_X12_holdsOf_b0 M l0 l1 = some r) : GW 3 0 0 X_X12_holdsOf 0 [(0, vr l0), (1, vi l1)] [] M (some (vi r), M) := by
  delta F_X12_holdsOf_b0 at h
  refine GW_iconst (X := X_X12_holdsOf) (pc := 0) (v := 0) d_X12_holdsOf_0 (by decide) ?_
  refine GW_istore_n (X := X_X12_holdsOf) (pc := 1) d_X12_holdsOf_1 rfl (Nat.le_of_ble_eq_true rfl) (lv2 := [(2, vi (0 : Int32)), (0, vr l0), (1, vi l1)]) rfl ?_
  refine GW_iconst (X := X_X12_holdsOf) (pc := 2) (v := 0) d_X12_holdsOf_2 (by decide) ?_
  refine GW_istore_n (X := X_X12_holdsOf) (pc := 3) d_X12_holdsOf_3 rfl (Nat.le_of_ble_eq_true rfl) (lv2 := [(3, vi (0 : Int32)), (2, vi (0 : Int32)), (0, vr l0), (1, vi l1)]) rfl ?_
  refine GW_sub [2, 3, 1, 0] rfl ?_
  exact T_X12_holdsOf_L4 M r g_fuel l0 l1 (0 : Int32) (0 : Int32) h
def F_X12_holdsOf (l0 : Option Nat) (l1 : Int32) (M : gM) : Option Int32 := F_X12_holdsOf_b0 M l0 l1
theorem T_X12_holdsOf (l0 : Option Nat) (l1 : Int32) (M : gM) (r : Int32) (h : F_X12_holdsOf l0 l1 M = some r) : g_Met 3 0 0 yX12_holdsOf X_X12_holdsOf [vr l0, vi l1] M (some (vi r), M) :=
  g_Met_of pn_RX12 rfl (Nat.le_of_ble_eq_true rfl) (fun h => by cases h) (GW_sub [0, 1] rfl (T_X12_holdsOf_b0 M r l0 l1 h))
/-! ForgetHeirsModel.heir(II)I -/
theorem d_X12_heir_0 : decode cX12_heir 0 = .ok (.aload_n 0, 1) := by decide +kernel
theorem d_X12_heir_1 : decode cX12_heir 1 = .ok (.iload_n 1, 1) := by decide +kernel
theorem d_X12_heir_2 : decode cX12_heir 2 = .ok (.invokevirtual 322, 3) := by decide +kernel
theorem d_X12_heir_5 : decode cX12_heir 5 = .ok (.ifCond .eq 15, 3) := by decide +kernel
theorem d_X12_heir_8 : decode cX12_heir 8 = .ok (.iload_n 2, 1) := by decide +kernel
theorem d_X12_heir_9 : decode cX12_heir 9 = .ok (.i2l, 1) := by decide +kernel
theorem d_X12_heir_10 : decode cX12_heir 10 = .ok (.lconst 0, 1) := by decide +kernel
theorem d_X12_heir_11 : decode cX12_heir 11 = .ok (.ldc2_w 325, 3) := by decide +kernel
theorem d_X12_heir_14 : decode cX12_heir 14 = .ok (.invokestatic 118, 3) := by decide +kernel
theorem d_X12_heir_17 : decode cX12_heir 17 = .ok (.ifCond .ne 5, 3) := by decide +kernel
theorem d_X12_heir_20 : decode cX12_heir 20 = .ok (.iconst (-1), 1) := by decide +kernel
theorem d_X12_heir_21 : decode cX12_heir 21 = .ok (.ireturn, 1) := by decide +kernel
theorem d_X12_heir_22 : decode cX12_heir 22 = .ok (.iload_n 2, 1) := by decide +kernel
theorem d_X12_heir_23 : decode cX12_heir 23 = .ok (.iconst 2, 1) := by decide +kernel
theorem d_X12_heir_24 : decode cX12_heir 24 = .ok (.if_icmp .ge 17, 3) := by decide +kernel
theorem d_X12_heir_27 : decode cX12_heir 27 = .ok (.aload_n 0, 1) := by decide +kernel
theorem d_X12_heir_28 : decode cX12_heir 28 = .ok (.getfield 39, 3) := by decide +kernel
theorem d_X12_heir_31 : decode cX12_heir 31 = .ok (.bipush 38, 2) := by decide +kernel
theorem d_X12_heir_33 : decode cX12_heir 33 = .ok (.iconst 2, 1) := by decide +kernel
theorem d_X12_heir_34 : decode cX12_heir 34 = .ok (.iload_n 1, 1) := by decide +kernel
theorem d_X12_heir_35 : decode cX12_heir 35 = .ok (.imul, 1) := by decide +kernel
theorem d_X12_heir_36 : decode cX12_heir 36 = .ok (.iadd, 1) := by decide +kernel
theorem d_X12_heir_37 : decode cX12_heir 37 = .ok (.iload_n 2, 1) := by decide +kernel
theorem d_X12_heir_38 : decode cX12_heir 38 = .ok (.iadd, 1) := by decide +kernel
theorem d_X12_heir_39 : decode cX12_heir 39 = .ok (.iaload, 1) := by decide +kernel
theorem d_X12_heir_40 : decode cX12_heir 40 = .ok (.ireturn, 1) := by decide +kernel
theorem d_X12_heir_41 : decode cX12_heir 41 = .ok (.iload_n 2, 1) := by decide +kernel
theorem d_X12_heir_42 : decode cX12_heir 42 = .ok (.iconst 2, 1) := by decide +kernel
theorem d_X12_heir_43 : decode cX12_heir 43 = .ok (.if_icmp .ne 15, 3) := by decide +kernel
theorem d_X12_heir_46 : decode cX12_heir 46 = .ok (.aload_n 0, 1) := by decide +kernel
theorem d_X12_heir_47 : decode cX12_heir 47 = .ok (.getfield 39, 3) := by decide +kernel
theorem d_X12_heir_50 : decode cX12_heir 50 = .ok (.bipush 6, 2) := by decide +kernel
theorem d_X12_heir_52 : decode cX12_heir 52 = .ok (.iaload, 1) := by decide +kernel
theorem d_X12_heir_53 : decode cX12_heir 53 = .ok (.iload_n 1, 1) := by decide +kernel
theorem d_X12_heir_54 : decode cX12_heir 54 = .ok (.ishr, 1) := by decide +kernel
theorem d_X12_heir_55 : decode cX12_heir 55 = .ok (.iconst 1, 1) := by decide +kernel
theorem d_X12_heir_56 : decode cX12_heir 56 = .ok (.iand, 1) := by decide +kernel
theorem d_X12_heir_57 : decode cX12_heir 57 = .ok (.ireturn, 1) := by decide +kernel
theorem d_X12_heir_58 : decode cX12_heir 58 = .ok (.iload_n 2, 1) := by decide +kernel
theorem d_X12_heir_59 : decode cX12_heir 59 = .ok (.iconst 3, 1) := by decide +kernel
theorem d_X12_heir_60 : decode cX12_heir 60 = .ok (.if_icmp .ne 13, 3) := by decide +kernel
theorem d_X12_heir_63 : decode cX12_heir 63 = .ok (.aload_n 0, 1) := by decide +kernel
theorem d_X12_heir_64 : decode cX12_heir 64 = .ok (.getfield 39, 3) := by decide +kernel
theorem d_X12_heir_67 : decode cX12_heir 67 = .ok (.bipush 52, 2) := by decide +kernel
theorem d_X12_heir_69 : decode cX12_heir 69 = .ok (.iload_n 1, 1) := by decide +kernel
theorem d_X12_heir_70 : decode cX12_heir 70 = .ok (.iadd, 1) := by decide +kernel
theorem d_X12_heir_71 : decode cX12_heir 71 = .ok (.iaload, 1) := by decide +kernel
theorem d_X12_heir_72 : decode cX12_heir 72 = .ok (.ireturn, 1) := by decide +kernel
theorem d_X12_heir_73 : decode cX12_heir 73 = .ok (.iload_n 2, 1) := by decide +kernel
theorem d_X12_heir_74 : decode cX12_heir 74 = .ok (.iconst 5, 1) := by decide +kernel
theorem d_X12_heir_75 : decode cX12_heir 75 = .ok (.if_icmp .ne 9, 3) := by decide +kernel
theorem d_X12_heir_78 : decode cX12_heir 78 = .ok (.aload_n 0, 1) := by decide +kernel
theorem d_X12_heir_79 : decode cX12_heir 79 = .ok (.iload_n 1, 1) := by decide +kernel
theorem d_X12_heir_80 : decode cX12_heir 80 = .ok (.invokevirtual 313, 3) := by decide +kernel
theorem d_X12_heir_83 : decode cX12_heir 83 = .ok (.ireturn, 1) := by decide +kernel
theorem d_X12_heir_84 : decode cX12_heir 84 = .ok (.iconst 0, 1) := by decide +kernel
theorem d_X12_heir_85 : decode cX12_heir 85 = .ok (.istore_n 3, 1) := by decide +kernel
theorem d_X12_heir_86 : decode cX12_heir 86 = .ok (.iconst 0, 1) := by decide +kernel
theorem d_X12_heir_87 : decode cX12_heir 87 = .ok (.istore 4, 2) := by decide +kernel
theorem d_X12_heir_89 : decode cX12_heir 89 = .ok (.iload 4, 2) := by decide +kernel
theorem d_X12_heir_91 : decode cX12_heir 91 = .ok (.aload_n 0, 1) := by decide +kernel
theorem d_X12_heir_92 : decode cX12_heir 92 = .ok (.getfield 39, 3) := by decide +kernel
theorem d_X12_heir_95 : decode cX12_heir 95 = .ok (.iconst 1, 1) := by decide +kernel
theorem d_X12_heir_96 : decode cX12_heir 96 = .ok (.iaload, 1) := by decide +kernel
theorem d_X12_heir_97 : decode cX12_heir 97 = .ok (.if_icmp .ge 30, 3) := by decide +kernel
theorem d_X12_heir_100 : decode cX12_heir 100 = .ok (.iload_n 3, 1) := by decide +kernel
theorem d_X12_heir_101 : decode cX12_heir 101 = .ok (.aload_n 0, 1) := by decide +kernel
theorem d_X12_heir_102 : decode cX12_heir 102 = .ok (.iload_n 1, 1) := by decide +kernel
theorem d_X12_heir_103 : decode cX12_heir 103 = .ok (.iload 4, 2) := by decide +kernel
theorem d_X12_heir_105 : decode cX12_heir 105 = .ok (.invokevirtual 304, 3) := by decide +kernel
theorem d_X12_heir_108 : decode cX12_heir 108 = .ok (.ifCond .eq 10, 3) := by decide +kernel
theorem d_X12_heir_111 : decode cX12_heir 111 = .ok (.iconst 1, 1) := by decide +kernel
theorem d_X12_heir_112 : decode cX12_heir 112 = .ok (.iload 4, 2) := by decide +kernel
theorem d_X12_heir_114 : decode cX12_heir 114 = .ok (.ishl, 1) := by decide +kernel
theorem d_X12_heir_115 : decode cX12_heir 115 = .ok (.goto 4, 3) := by decide +kernel
theorem d_X12_heir_118 : decode cX12_heir 118 = .ok (.iconst 0, 1) := by decide +kernel
theorem d_X12_heir_119 : decode cX12_heir 119 = .ok (.ior, 1) := by decide +kernel
theorem d_X12_heir_120 : decode cX12_heir 120 = .ok (.istore_n 3, 1) := by decide +kernel
theorem d_X12_heir_121 : decode cX12_heir 121 = .ok (.iinc 4 1, 3) := by decide +kernel
theorem d_X12_heir_124 : decode cX12_heir 124 = .ok (.goto (-35), 3) := by decide +kernel
theorem d_X12_heir_127 : decode cX12_heir 127 = .ok (.iload_n 3, 1) := by decide +kernel
theorem d_X12_heir_128 : decode cX12_heir 128 = .ok (.ireturn, 1) := by decide +kernel
abbrev X_X12_heir : gX := (RX12, cX12_heir, 5, (some .int), false)
def F_X12_heir_b20 (M : gM) : Option Int32 :=
  some (-1 : Int32)
theorem T_X12_heir_b20 (M : gM) (r : Int32) (h : F_X12_heir_b20 M = some r) : GW 4 0 0 X_X12_heir 20 [] [] M (some (vi r), M) := by
  delta F_X12_heir_b20 at h
  refine GW_iconst (X := X_X12_heir) (pc := 20) (v := -1) d_X12_heir_20 (by decide) ?_
  replace h := Option.some.inj h
  subst h
  exact GW_ret (X := X_X12_heir) (pc := 21) d_X12_heir_21 rfl trivial
def F_X12_heir_b119 (k89 : Option Nat → Int32 → Int32 → Int32 → Option Int32) (M : gM) (l0 : Option Nat) (l1 : Int32) (l4 : Int32) (s0 : Int32) (s1 : Int32) : Option Int32 :=
  k89 l0 l1 (s0 ||| s1) (l4 + 1)
theorem T_X12_heir_b119 (k89 : Option Nat → Int32 → Int32 → Int32 → Option Int32) (M : gM) (r : Int32) (hk89 : ∀ (l0 : Option Nat) (l1 : Int32) (l3 : Int32) (l4 : Int32), k89 l0 l1 l3 l4 = some r → GW 4 0 0 X_X12_heir 89 [(0, vr l0), (1, vi l1), (3, vi l3), (4, vi l4)] [] M (some (vi r), M)) (l0 : Option Nat) (l1 : Int32) (l4 : Int32) (s0 : Int32) (s1 : Int32) (h : F_X12_heir_b119 k89 M l0 l1 l4 s0 s1 = some r) : GW 4 0 0 X_X12_heir 119 [(0, vr l0), (1, vi l1), (4, vi l4)] [vi s1, vi s0] M (some (vi r), M) := by
  delta F_X12_heir_b119 at h
  refine GW_ior (X := X_X12_heir) (pc := 119) d_X12_heir_119 ?_
  refine GW_istore_n (X := X_X12_heir) (pc := 120) d_X12_heir_120 rfl (Nat.le_of_ble_eq_true rfl) (lv2 := [(3, vi (s0 ||| s1)), (0, vr l0), (1, vi l1), (4, vi l4)]) rfl ?_
  refine GW_iinc (j := 3) (X := X_X12_heir) (pc := 121) d_X12_heir_121 rfl (congrArg (fun z => _ + z) (by decide : Int32.ofInt 1 = (1 : Int32))) (Nat.le_of_ble_eq_true rfl) (lv2 := [(4, vi (l4 + 1)), (3, vi (s0 ||| s1)), (0, vr l0), (1, vi l1)]) rfl ?_
  refine GW_goto (X := X_X12_heir) (pc := 124) 89 d_X12_heir_124 (by decide) ?_
  refine GW_sub [2, 3, 1, 0] rfl ?_
  exact hk89 l0 l1 (s0 ||| s1) (l4 + 1) h
def F_X12_heir_b89 (k89 : Option Nat → Int32 → Int32 → Int32 → Option Int32) (M : gM) (l0 : Option Nat) (l1 : Int32) (l3 : Int32) (l4 : Int32) : Option Int32 :=
  (gR 12 M l0 20).bind fun v1 => (aI 20 M v1 (1 : Int32)).bind fun v2 => if v2 ≤ l4 then (some l3) else ((gO 12 M l0).bind fun i3 => (F_X12_knowsOf (some i3) l1 l4 M).bind fun v4 => if v4 = 0 then (F_X12_heir_b119 k89 M (some i3) l1 l4 l3 (0 : Int32)) else (F_X12_heir_b119 k89 M (some i3) l1 l4 l3 ((1 : Int32) <<< (l4 &&& 31))))
theorem T_X12_heir_b89 (k89 : Option Nat → Int32 → Int32 → Int32 → Option Int32) (M : gM) (r : Int32) (hk89 : ∀ (l0 : Option Nat) (l1 : Int32) (l3 : Int32) (l4 : Int32), k89 l0 l1 l3 l4 = some r → GW 4 0 0 X_X12_heir 89 [(0, vr l0), (1, vi l1), (3, vi l3), (4, vi l4)] [] M (some (vi r), M)) (l0 : Option Nat) (l1 : Int32) (l3 : Int32) (l4 : Int32) (h : F_X12_heir_b89 k89 M l0 l1 l3 l4 = some r) : GW 4 0 0 X_X12_heir 89 [(0, vr l0), (1, vi l1), (3, vi l3), (4, vi l4)] [] M (some (vi r), M) := by
  delta F_X12_heir_b89 at h
  refine GW_iload (X := X_X12_heir) (pc := 89) d_X12_heir_89 3 rfl ?_
  refine GW_aload_n (X := X_X12_heir) (pc := 91) d_X12_heir_91 rfl 0 rfl ?_
  replace h := g_bd h
  obtain ⟨v1, hv1, h⟩ := h
  refine GW_getR (X := X_X12_heir) (pc := 92) f_X12_39 d_X12_heir_92 hv1 (Or.inr ⟨_, ty_12_20⟩) ?_
  refine GW_iconst (X := X_X12_heir) (pc := 95) (v := 1) d_X12_heir_95 (by decide) ?_
  replace h := g_bd h
  obtain ⟨v2, hv2, h⟩ := h
  refine GW_iald (X := X_X12_heir) (pc := 96) d_X12_heir_96 hv2 ?_
  refine GW_icmp_ge (X := X_X12_heir) (pc := 97) 127 d_X12_heir_97 (by decide) (fun c => ?_) (fun c => ?_)
  · replace h := g_ip c h
    refine GW_iload_n (X := X_X12_heir) (pc := 127) d_X12_heir_127 rfl 2 rfl ?_
    replace h := Option.some.inj h
    subst h
    exact GW_ret (X := X_X12_heir) (pc := 128) d_X12_heir_128 rfl trivial
  · replace h := g_ie c h
    refine GW_iload_n (X := X_X12_heir) (pc := 100) d_X12_heir_100 rfl 2 rfl ?_
    refine GW_aload_n (X := X_X12_heir) (pc := 101) d_X12_heir_101 rfl 0 rfl ?_
    refine GW_iload_n (X := X_X12_heir) (pc := 102) d_X12_heir_102 rfl 1 rfl ?_
    refine GW_iload (X := X_X12_heir) (pc := 103) d_X12_heir_103 3 rfl ?_
    replace h := g_bd h
    obtain ⟨i3, hi3, h⟩ := h
    obtain ⟨rfl, ki3⟩ := g_gO hi3
    replace h := g_bd h
    obtain ⟨v4, hv4, h⟩ := h
    refine GW_callV (X := X_X12_heir) (pc := 105) (bc0 := 0) (bs0 := 0) (r := some (vi v4)) (M2 := M) (c0 := 12) (T_X12_knowsOf (some i3) l1 l4 M v4 hv4) (Nat.le_of_ble_eq_true rfl) (Nat.le_of_ble_eq_true rfl) rfl g_cok12 ki3 yc_X12_knowsOf ⟨m_1432, m_1434, m_80, m_127, m_1435⟩ d_X12_heir_105 rfl (st := [vi l3]) rfl (Nat.le_of_ble_eq_true rfl) (Nat.le_of_ble_eq_true rfl) (Nat.le_of_ble_eq_true rfl) (st2 := [vi v4, vi l3]) rfl ?_
    refine GW_if_eq (X := X_X12_heir) (pc := 108) 118 d_X12_heir_108 (by decide) (fun c => ?_) (fun c => ?_)
    · replace h := g_ip c h
      refine GW_iconst (X := X_X12_heir) (pc := 118) (v := 0) d_X12_heir_118 (by decide) ?_
      refine GW_sub [0, 1, 3] rfl ?_
      exact T_X12_heir_b119 k89 M r hk89 (some i3) l1 l4 l3 (0 : Int32) h
    · replace h := g_ie c h
      refine GW_iconst (X := X_X12_heir) (pc := 111) (v := 1) d_X12_heir_111 (by decide) ?_
      refine GW_iload (X := X_X12_heir) (pc := 112) d_X12_heir_112 3 rfl ?_
      refine GW_ishl (X := X_X12_heir) (pc := 114) d_X12_heir_114 ?_
      refine GW_goto (X := X_X12_heir) (pc := 115) 119 d_X12_heir_115 (by decide) ?_
      refine GW_sub [0, 1, 3] rfl ?_
      exact T_X12_heir_b119 k89 M r hk89 (some i3) l1 l4 l3 ((1 : Int32) <<< (l4 &&& 31)) h
def F_X12_heir_L89 (M : gM) : Nat → Option Nat → Int32 → Int32 → Int32 → Option Int32
  | 0 => fun _ _ _ _ => none
  | n + 1 => F_X12_heir_b89 (F_X12_heir_L89 M n) M
theorem T_X12_heir_L89 (M : gM) (r : Int32) : ∀ (n : Nat) (l0 : Option Nat) (l1 : Int32) (l3 : Int32) (l4 : Int32), F_X12_heir_L89 M n l0 l1 l3 l4 = some r → GW 4 0 0 X_X12_heir 89 [(0, vr l0), (1, vi l1), (3, vi l3), (4, vi l4)] [] M (some (vi r), M) := by
  intro n
  induction n with
  | zero => intro l0 l1 l3 l4 h; exact g_no h
  | succ n ih => intro l0 l1 l3 l4 h; exact T_X12_heir_b89 (F_X12_heir_L89 M n) M r ih l0 l1 l3 l4 h
def F_X12_heir_b0 (M : gM) (l0 : Option Nat) (l1 : Int32) (l2 : Int32) : Option Int32 :=
  (gO 12 M l0).bind fun i1 => (F_X12_isHeir (some i1) l1 M).bind fun v2 => if v2 = 0 then (F_X12_heir_b20 M ) else ((F_X12_in (l2).toInt64 (0 : Int64) (5 : Int64) M).bind fun v3 => if v3 = 0 then (F_X12_heir_b20 M ) else (if (2 : Int32) ≤ l2 then (if l2 = (2 : Int32) then ((gR 12 M (some i1) 20).bind fun v7 => (aI 20 M v7 (6 : Int32)).bind fun v8 => some ((v8 >>> (l1 &&& 31)) &&& (1 : Int32))) else (if l2 = (3 : Int32) then ((gR 12 M (some i1) 20).bind fun v5 => (aI 20 M v5 ((52 : Int32) + l1)).bind fun v6 => some v6) else (if l2 = (5 : Int32) then ((F_X12_holdsOf (some i1) l1 M).bind fun v4 => some v4) else (F_X12_heir_L89 M g_fuel (some i1) l1 (0 : Int32) (0 : Int32))))) else ((gR 12 M (some i1) 20).bind fun v9 => (aI 20 M v9 (((38 : Int32) + ((2 : Int32) * l1)) + l2)).bind fun v10 => some v10)))
set_option maxHeartbeats 1000000 in
theorem T_X12_heir_b0 (M : gM) (r : Int32) (l0 : Option Nat) (l1 : Int32) (l2 : Int32) (h : F_X12_heir_b0 M l0 l1 l2 = some r) : GW 4 0 0 X_X12_heir 0 [(0, vr l0), (1, vi l1), (2, vi l2)] [] M (some (vi r), M) := by
  delta F_X12_heir_b0 at h
  refine GW_aload_n (X := X_X12_heir) (pc := 0) d_X12_heir_0 rfl 0 rfl ?_
  refine GW_iload_n (X := X_X12_heir) (pc := 1) d_X12_heir_1 rfl 1 rfl ?_
  replace h := g_bd h
  obtain ⟨i1, hi1, h⟩ := h
  obtain ⟨rfl, ki1⟩ := g_gO hi1
  replace h := g_bd h
  obtain ⟨v2, hv2, h⟩ := h
  refine GW_callV (X := X_X12_heir) (pc := 2) (bc0 := 0) (bs0 := 0) (r := some (vi v2)) (M2 := M) (c0 := 12) (T_X12_isHeir (some i1) l1 M v2 hv2) (Nat.le_of_ble_eq_true rfl) (Nat.le_of_ble_eq_true rfl) rfl g_cok12 ki1 yc_X12_isHeir ⟨m_1415, m_1417, m_76, m_127, m_1418⟩ d_X12_heir_2 rfl (st := []) rfl (Nat.le_of_ble_eq_true rfl) (Nat.le_of_ble_eq_true rfl) (Nat.le_of_ble_eq_true rfl) (st2 := [vi v2]) rfl ?_
  refine GW_if_eq (X := X_X12_heir) (pc := 5) 20 d_X12_heir_5 (by decide) (fun c => ?_) (fun c => ?_)
  · replace h := g_ip c h
    refine GW_sub [] rfl ?_
    exact T_X12_heir_b20 M r  h
  · replace h := g_ie c h
    refine GW_iload_n (X := X_X12_heir) (pc := 8) d_X12_heir_8 rfl 2 rfl ?_
    refine GW_i2l (X := X_X12_heir) (pc := 9) d_X12_heir_9 ?_
    refine GW_lconst (X := X_X12_heir) (pc := 10) (v := 0) d_X12_heir_10 (by decide) ?_
    refine GW_ldc2 (X := X_X12_heir) (pc := 11) d_X12_heir_11 m_1419 ?_
    replace h := g_bd h
    obtain ⟨v3, hv3, h⟩ := h
    refine GW_callS (X := X_X12_heir) (pc := 14) (bc0 := 0) (bs0 := 0) (r := some (vi v3)) (M2 := M) (T_X12_in (l2).toInt64 (0 : Int64) (5 : Int64) M v3 hv3) (Nat.le_of_ble_eq_true rfl) (Nat.le_of_ble_eq_true rfl) yc_X12_in ⟨m_1291, m_1292, m_127, m_1293⟩ d_X12_heir_14 rfl (st := []) rfl (Nat.le_of_ble_eq_true rfl) (Nat.le_of_ble_eq_true rfl) (Nat.le_of_ble_eq_true rfl) (st2 := [vi v3]) rfl ?_
    refine GW_if_ne (X := X_X12_heir) (pc := 17) 22 d_X12_heir_17 (by decide) (fun c => ?_) (fun c => ?_)
    · replace h := g_ie c h
      refine GW_iload_n (X := X_X12_heir) (pc := 22) d_X12_heir_22 rfl 2 rfl ?_
      refine GW_iconst (X := X_X12_heir) (pc := 23) (v := 2) d_X12_heir_23 (by decide) ?_
      refine GW_icmp_ge (X := X_X12_heir) (pc := 24) 41 d_X12_heir_24 (by decide) (fun c => ?_) (fun c => ?_)
      · replace h := g_ip c h
        refine GW_iload_n (X := X_X12_heir) (pc := 41) d_X12_heir_41 rfl 2 rfl ?_
        refine GW_iconst (X := X_X12_heir) (pc := 42) (v := 2) d_X12_heir_42 (by decide) ?_
        refine GW_icmp_ne (X := X_X12_heir) (pc := 43) 58 d_X12_heir_43 (by decide) (fun c => ?_) (fun c => ?_)
        · replace h := g_ie c h
          refine GW_iload_n (X := X_X12_heir) (pc := 58) d_X12_heir_58 rfl 2 rfl ?_
          refine GW_iconst (X := X_X12_heir) (pc := 59) (v := 3) d_X12_heir_59 (by decide) ?_
          refine GW_icmp_ne (X := X_X12_heir) (pc := 60) 73 d_X12_heir_60 (by decide) (fun c => ?_) (fun c => ?_)
          · replace h := g_ie c h
            refine GW_iload_n (X := X_X12_heir) (pc := 73) d_X12_heir_73 rfl 2 rfl ?_
            refine GW_iconst (X := X_X12_heir) (pc := 74) (v := 5) d_X12_heir_74 (by decide) ?_
            refine GW_icmp_ne (X := X_X12_heir) (pc := 75) 84 d_X12_heir_75 (by decide) (fun c => ?_) (fun c => ?_)
            · replace h := g_ie c h
              refine GW_iconst (X := X_X12_heir) (pc := 84) (v := 0) d_X12_heir_84 (by decide) ?_
              refine GW_istore_n (X := X_X12_heir) (pc := 85) d_X12_heir_85 rfl (Nat.le_of_ble_eq_true rfl) (lv2 := [(3, vi (0 : Int32)), (0, vr (some i1)), (1, vi l1), (2, vi l2)]) rfl ?_
              refine GW_iconst (X := X_X12_heir) (pc := 86) (v := 0) d_X12_heir_86 (by decide) ?_
              refine GW_istore (X := X_X12_heir) (pc := 87) d_X12_heir_87 (Nat.le_of_ble_eq_true rfl) (lv2 := [(4, vi (0 : Int32)), (3, vi (0 : Int32)), (0, vr (some i1)), (1, vi l1), (2, vi l2)]) rfl ?_
              refine GW_sub [2, 3, 1, 0] rfl ?_
              exact T_X12_heir_L89 M r g_fuel (some i1) l1 (0 : Int32) (0 : Int32) h
            · replace h := g_ip c h
              refine GW_aload_n (X := X_X12_heir) (pc := 78) d_X12_heir_78 rfl 0 rfl ?_
              refine GW_iload_n (X := X_X12_heir) (pc := 79) d_X12_heir_79 rfl 1 rfl ?_
              replace h := g_bd h
              obtain ⟨v4, hv4, h⟩ := h
              refine GW_callV (X := X_X12_heir) (pc := 80) (bc0 := 0) (bs0 := 0) (r := some (vi v4)) (M2 := M) (c0 := 12) (T_X12_holdsOf (some i1) l1 M v4 hv4) (Nat.le_of_ble_eq_true rfl) (Nat.le_of_ble_eq_true rfl) rfl g_cok12 ki1 yc_X12_holdsOf ⟨m_1420, m_1422, m_77, m_127, m_1423⟩ d_X12_heir_80 rfl (st := []) rfl (Nat.le_of_ble_eq_true rfl) (Nat.le_of_ble_eq_true rfl) (Nat.le_of_ble_eq_true rfl) (st2 := [vi v4]) rfl ?_
              replace h := Option.some.inj h
              subst h
              exact GW_ret (X := X_X12_heir) (pc := 83) d_X12_heir_83 rfl trivial
          · replace h := g_ip c h
            refine GW_aload_n (X := X_X12_heir) (pc := 63) d_X12_heir_63 rfl 0 rfl ?_
            replace h := g_bd h
            obtain ⟨v5, hv5, h⟩ := h
            refine GW_getR (X := X_X12_heir) (pc := 64) f_X12_39 d_X12_heir_64 hv5 (Or.inr ⟨_, ty_12_20⟩) ?_
            refine GW_bipush (X := X_X12_heir) (pc := 67) (v := 52) d_X12_heir_67 (by decide) ?_
            refine GW_iload_n (X := X_X12_heir) (pc := 69) d_X12_heir_69 rfl 1 rfl ?_
            refine GW_iadd (X := X_X12_heir) (pc := 70) d_X12_heir_70 ?_
            replace h := g_bd h
            obtain ⟨v6, hv6, h⟩ := h
            refine GW_iald (X := X_X12_heir) (pc := 71) d_X12_heir_71 hv6 ?_
            replace h := Option.some.inj h
            subst h
            exact GW_ret (X := X_X12_heir) (pc := 72) d_X12_heir_72 rfl trivial
        · replace h := g_ip c h
          refine GW_aload_n (X := X_X12_heir) (pc := 46) d_X12_heir_46 rfl 0 rfl ?_
          replace h := g_bd h
          obtain ⟨v7, hv7, h⟩ := h
          refine GW_getR (X := X_X12_heir) (pc := 47) f_X12_39 d_X12_heir_47 hv7 (Or.inr ⟨_, ty_12_20⟩) ?_
          refine GW_bipush (X := X_X12_heir) (pc := 50) (v := 6) d_X12_heir_50 (by decide) ?_
          replace h := g_bd h
          obtain ⟨v8, hv8, h⟩ := h
          refine GW_iald (X := X_X12_heir) (pc := 52) d_X12_heir_52 hv8 ?_
          refine GW_iload_n (X := X_X12_heir) (pc := 53) d_X12_heir_53 rfl 1 rfl ?_
          refine GW_ishr (X := X_X12_heir) (pc := 54) d_X12_heir_54 ?_
          refine GW_iconst (X := X_X12_heir) (pc := 55) (v := 1) d_X12_heir_55 (by decide) ?_
          refine GW_iand (X := X_X12_heir) (pc := 56) d_X12_heir_56 ?_
          replace h := Option.some.inj h
          subst h
          exact GW_ret (X := X_X12_heir) (pc := 57) d_X12_heir_57 rfl trivial
      · replace h := g_ie c h
        refine GW_aload_n (X := X_X12_heir) (pc := 27) d_X12_heir_27 rfl 0 rfl ?_
        replace h := g_bd h
        obtain ⟨v9, hv9, h⟩ := h
        refine GW_getR (X := X_X12_heir) (pc := 28) f_X12_39 d_X12_heir_28 hv9 (Or.inr ⟨_, ty_12_20⟩) ?_
        refine GW_bipush (X := X_X12_heir) (pc := 31) (v := 38) d_X12_heir_31 (by decide) ?_
        refine GW_iconst (X := X_X12_heir) (pc := 33) (v := 2) d_X12_heir_33 (by decide) ?_
        refine GW_iload_n (X := X_X12_heir) (pc := 34) d_X12_heir_34 rfl 1 rfl ?_
        refine GW_imul (X := X_X12_heir) (pc := 35) d_X12_heir_35 ?_
        refine GW_iadd (X := X_X12_heir) (pc := 36) d_X12_heir_36 ?_
        refine GW_iload_n (X := X_X12_heir) (pc := 37) d_X12_heir_37 rfl 2 rfl ?_
        refine GW_iadd (X := X_X12_heir) (pc := 38) d_X12_heir_38 ?_
        replace h := g_bd h
        obtain ⟨v10, hv10, h⟩ := h
        refine GW_iald (X := X_X12_heir) (pc := 39) d_X12_heir_39 hv10 ?_
        replace h := Option.some.inj h
        subst h
        exact GW_ret (X := X_X12_heir) (pc := 40) d_X12_heir_40 rfl trivial
    · replace h := g_ip c h
      refine GW_sub [] rfl ?_
      exact T_X12_heir_b20 M r  h
def F_X12_heir (l0 : Option Nat) (l1 : Int32) (l2 : Int32) (M : gM) : Option Int32 := F_X12_heir_b0 M l0 l1 l2
theorem T_X12_heir (l0 : Option Nat) (l1 : Int32) (l2 : Int32) (M : gM) (r : Int32) (h : F_X12_heir l0 l1 l2 M = some r) : g_Met 4 0 0 yX12_heir X_X12_heir [vr l0, vi l1, vi l2] M (some (vi r), M) :=
  g_Met_of pn_RX12 rfl (Nat.le_of_ble_eq_true rfl) (fun h => by cases h) (GW_sub [0, 1, 2] rfl (T_X12_heir_b0 M r l0 l1 l2 h))
/-! ForgetHeirs.isThing(I)Z -/
theorem d_X11_isThing_0 : decode cX11_isThing 0 = .ok (.iload_n 1, 1) := by decide +kernel
theorem d_X11_isThing_1 : decode cX11_isThing 1 = .ok (.ifCond .lt 18, 3) := by decide +kernel
theorem d_X11_isThing_4 : decode cX11_isThing 4 = .ok (.iload_n 1, 1) := by decide +kernel
theorem d_X11_isThing_5 : decode cX11_isThing 5 = .ok (.aload_n 0, 1) := by decide +kernel
theorem d_X11_isThing_6 : decode cX11_isThing 6 = .ok (.getfield 59, 3) := by decide +kernel
theorem d_X11_isThing_9 : decode cX11_isThing 9 = .ok (.getfield 184, 3) := by decide +kernel
theorem d_X11_isThing_12 : decode cX11_isThing 12 = .ok (.if_icmp .ge 7, 3) := by decide +kernel
theorem d_X11_isThing_15 : decode cX11_isThing 15 = .ok (.iconst 1, 1) := by decide +kernel
theorem d_X11_isThing_16 : decode cX11_isThing 16 = .ok (.goto 4, 3) := by decide +kernel
theorem d_X11_isThing_19 : decode cX11_isThing 19 = .ok (.iconst 0, 1) := by decide +kernel
theorem d_X11_isThing_20 : decode cX11_isThing 20 = .ok (.ireturn, 1) := by decide +kernel
abbrev X_X11_isThing : gX := (RX11, cX11_isThing, 2, (some .boolean), false)
def F_X11_isThing_b19 (M : gM) : Option Int32 :=
  some (0 : Int32)
theorem T_X11_isThing_b19 (M : gM) (r : Int32) (h : F_X11_isThing_b19 M = some r) : GW 0 0 0 X_X11_isThing 19 [] [] M (some (vi r), M) := by
  delta F_X11_isThing_b19 at h
  refine GW_iconst (X := X_X11_isThing) (pc := 19) (v := 0) d_X11_isThing_19 (by decide) ?_
  replace h := Option.some.inj h
  subst h
  exact GW_ret (X := X_X11_isThing) (pc := 20) d_X11_isThing_20 rfl g_rok0
def F_X11_isThing_b0 (M : gM) (l0 : Option Nat) (l1 : Int32) : Option Int32 :=
  if l1 < 0 then (F_X11_isThing_b19 M ) else ((gR 11 M l0 11).bind fun v1 => (gI 1 M v1 6).bind fun v2 => if v2 ≤ l1 then (F_X11_isThing_b19 M ) else (some (1 : Int32)))
theorem T_X11_isThing_b0 (M : gM) (r : Int32) (l0 : Option Nat) (l1 : Int32) (h : F_X11_isThing_b0 M l0 l1 = some r) : GW 0 0 0 X_X11_isThing 0 [(0, vr l0), (1, vi l1)] [] M (some (vi r), M) := by
  delta F_X11_isThing_b0 at h
  refine GW_iload_n (X := X_X11_isThing) (pc := 0) d_X11_isThing_0 rfl 1 rfl ?_
  refine GW_if_lt (X := X_X11_isThing) (pc := 1) 19 d_X11_isThing_1 (by decide) (fun c => ?_) (fun c => ?_)
  · replace h := g_ip c h
    refine GW_sub [] rfl ?_
    exact T_X11_isThing_b19 M r  h
  · replace h := g_ie c h
    refine GW_iload_n (X := X_X11_isThing) (pc := 4) d_X11_isThing_4 rfl 1 rfl ?_
    refine GW_aload_n (X := X_X11_isThing) (pc := 5) d_X11_isThing_5 rfl 0 rfl ?_
    replace h := g_bd h
    obtain ⟨v1, hv1, h⟩ := h
    refine GW_getR (X := X_X11_isThing) (pc := 6) f_X11_59 d_X11_isThing_6 hv1 (Or.inl ⟨_, ty_11_11⟩) ?_
    replace h := g_bd h
    obtain ⟨v2, hv2, h⟩ := h
    refine GW_getI (X := X_X11_isThing) (pc := 9) f_X11_184 d_X11_isThing_9 hv2 (Or.inl ty_1_6) ?_
    refine GW_icmp_ge (X := X_X11_isThing) (pc := 12) 19 d_X11_isThing_12 (by decide) (fun c => ?_) (fun c => ?_)
    · replace h := g_ip c h
      refine GW_sub [] rfl ?_
      exact T_X11_isThing_b19 M r  h
    · replace h := g_ie c h
      refine GW_iconst (X := X_X11_isThing) (pc := 15) (v := 1) d_X11_isThing_15 (by decide) ?_
      refine GW_goto (X := X_X11_isThing) (pc := 16) 20 d_X11_isThing_16 (by decide) ?_
      replace h := Option.some.inj h
      subst h
      exact GW_ret (X := X_X11_isThing) (pc := 20) d_X11_isThing_20 rfl g_rok1
def F_X11_isThing (l0 : Option Nat) (l1 : Int32) (M : gM) : Option Int32 := F_X11_isThing_b0 M l0 l1
theorem T_X11_isThing (l0 : Option Nat) (l1 : Int32) (M : gM) (r : Int32) (h : F_X11_isThing l0 l1 M = some r) : g_Met 0 0 0 yX11_isThing X_X11_isThing [vr l0, vi l1] M (some (vi r), M) :=
  g_Met_of pn_RX11 rfl (Nat.le_of_ble_eq_true rfl) (fun h => by cases h) (GW_sub [0, 1] rfl (T_X11_isThing_b0 M r l0 l1 h))
/-! ForgetHeirs.thing(II)I -/
theorem d_X11_thing_0 : decode cX11_thing 0 = .ok (.aload_n 0, 1) := by decide +kernel
theorem d_X11_thing_1 : decode cX11_thing 1 = .ok (.iload_n 1, 1) := by decide +kernel
theorem d_X11_thing_2 : decode cX11_thing 2 = .ok (.invokevirtual 154, 3) := by decide +kernel
theorem d_X11_thing_5 : decode cX11_thing 5 = .ok (.ifCond .ne 6, 3) := by decide +kernel
theorem d_X11_thing_8 : decode cX11_thing 8 = .ok (.bipush (-2), 2) := by decide +kernel
theorem d_X11_thing_10 : decode cX11_thing 10 = .ok (.ireturn, 1) := by decide +kernel
theorem d_X11_thing_11 : decode cX11_thing 11 = .ok (.iload_n 2, 1) := by decide +kernel
theorem d_X11_thing_12 : decode cX11_thing 12 = .ok (.tableswitch 121 0 6 #[44, 54, 64, 74, 86, 98, 108], 44) := by decide +kernel
theorem d_X11_thing_56 : decode cX11_thing 56 = .ok (.aload_n 0, 1) := by decide +kernel
theorem d_X11_thing_57 : decode cX11_thing 57 = .ok (.getfield 59, 3) := by decide +kernel
theorem d_X11_thing_60 : decode cX11_thing 60 = .ok (.getfield 157, 3) := by decide +kernel
theorem d_X11_thing_63 : decode cX11_thing 63 = .ok (.iload_n 1, 1) := by decide +kernel
theorem d_X11_thing_64 : decode cX11_thing 64 = .ok (.iaload, 1) := by decide +kernel
theorem d_X11_thing_65 : decode cX11_thing 65 = .ok (.ireturn, 1) := by decide +kernel
theorem d_X11_thing_66 : decode cX11_thing 66 = .ok (.aload_n 0, 1) := by decide +kernel
theorem d_X11_thing_67 : decode cX11_thing 67 = .ok (.getfield 59, 3) := by decide +kernel
theorem d_X11_thing_70 : decode cX11_thing 70 = .ok (.getfield 160, 3) := by decide +kernel
theorem d_X11_thing_73 : decode cX11_thing 73 = .ok (.iload_n 1, 1) := by decide +kernel
theorem d_X11_thing_74 : decode cX11_thing 74 = .ok (.iaload, 1) := by decide +kernel
theorem d_X11_thing_75 : decode cX11_thing 75 = .ok (.ireturn, 1) := by decide +kernel
theorem d_X11_thing_76 : decode cX11_thing 76 = .ok (.aload_n 0, 1) := by decide +kernel
theorem d_X11_thing_77 : decode cX11_thing 77 = .ok (.getfield 59, 3) := by decide +kernel
theorem d_X11_thing_80 : decode cX11_thing 80 = .ok (.getfield 163, 3) := by decide +kernel
theorem d_X11_thing_83 : decode cX11_thing 83 = .ok (.iload_n 1, 1) := by decide +kernel
theorem d_X11_thing_84 : decode cX11_thing 84 = .ok (.iaload, 1) := by decide +kernel
theorem d_X11_thing_85 : decode cX11_thing 85 = .ok (.ireturn, 1) := by decide +kernel
theorem d_X11_thing_86 : decode cX11_thing 86 = .ok (.aload_n 0, 1) := by decide +kernel
theorem d_X11_thing_87 : decode cX11_thing 87 = .ok (.getfield 59, 3) := by decide +kernel
theorem d_X11_thing_90 : decode cX11_thing 90 = .ok (.getfield 166, 3) := by decide +kernel
theorem d_X11_thing_93 : decode cX11_thing 93 = .ok (.iload_n 1, 1) := by decide +kernel
theorem d_X11_thing_94 : decode cX11_thing 94 = .ok (.invokestatic 140, 3) := by decide +kernel
theorem d_X11_thing_97 : decode cX11_thing 97 = .ok (.ireturn, 1) := by decide +kernel
theorem d_X11_thing_98 : decode cX11_thing 98 = .ok (.aload_n 0, 1) := by decide +kernel
theorem d_X11_thing_99 : decode cX11_thing 99 = .ok (.getfield 25, 3) := by decide +kernel
theorem d_X11_thing_102 : decode cX11_thing 102 = .ok (.getfield 169, 3) := by decide +kernel
theorem d_X11_thing_105 : decode cX11_thing 105 = .ok (.iload_n 1, 1) := by decide +kernel
theorem d_X11_thing_106 : decode cX11_thing 106 = .ok (.invokestatic 140, 3) := by decide +kernel
theorem d_X11_thing_109 : decode cX11_thing 109 = .ok (.ireturn, 1) := by decide +kernel
theorem d_X11_thing_110 : decode cX11_thing 110 = .ok (.aload_n 0, 1) := by decide +kernel
theorem d_X11_thing_111 : decode cX11_thing 111 = .ok (.getfield 25, 3) := by decide +kernel
theorem d_X11_thing_114 : decode cX11_thing 114 = .ok (.getfield 172, 3) := by decide +kernel
theorem d_X11_thing_117 : decode cX11_thing 117 = .ok (.iload_n 1, 1) := by decide +kernel
theorem d_X11_thing_118 : decode cX11_thing 118 = .ok (.iaload, 1) := by decide +kernel
theorem d_X11_thing_119 : decode cX11_thing 119 = .ok (.ireturn, 1) := by decide +kernel
theorem d_X11_thing_120 : decode cX11_thing 120 = .ok (.aload_n 0, 1) := by decide +kernel
theorem d_X11_thing_121 : decode cX11_thing 121 = .ok (.getfield 25, 3) := by decide +kernel
theorem d_X11_thing_124 : decode cX11_thing 124 = .ok (.aload_n 0, 1) := by decide +kernel
theorem d_X11_thing_125 : decode cX11_thing 125 = .ok (.getfield 59, 3) := by decide +kernel
theorem d_X11_thing_128 : decode cX11_thing 128 = .ok (.iload_n 1, 1) := by decide +kernel
theorem d_X11_thing_129 : decode cX11_thing 129 = .ok (.invokevirtual 175, 3) := by decide +kernel
theorem d_X11_thing_132 : decode cX11_thing 132 = .ok (.ireturn, 1) := by decide +kernel
theorem d_X11_thing_133 : decode cX11_thing 133 = .ok (.bipush (-2), 2) := by decide +kernel
theorem d_X11_thing_135 : decode cX11_thing 135 = .ok (.ireturn, 1) := by decide +kernel
abbrev X_X11_thing : gX := (RX11, cX11_thing, 3, (some .int), false)
def F_X11_thing_b0 (M : gM) (l0 : Option Nat) (l1 : Int32) (l2 : Int32) : Option Int32 :=
  (gO 11 M l0).bind fun i1 => (F_X11_isThing (some i1) l1 M).bind fun v2 => if v2 = 0 then (some (-2 : Int32)) else (if l2 = (0 : Int32) then ((gR 11 M (some i1) 11).bind fun v3 => (gR 1 M v3 0).bind fun v4 => (aI 20 M v4 l1).bind fun v5 => some v5) else if l2 = (1 : Int32) then ((gR 11 M (some i1) 11).bind fun v6 => (gR 1 M v6 1).bind fun v7 => (aI 20 M v7 l1).bind fun v8 => some v8) else if l2 = (2 : Int32) then ((gR 11 M (some i1) 11).bind fun v9 => (gR 1 M v9 2).bind fun v10 => (aI 20 M v10 l1).bind fun v11 => some v11) else if l2 = (3 : Int32) then ((gR 11 M (some i1) 11).bind fun v12 => (gI 1 M v12 9).bind fun v13 => (F_X11_bit v13 l1 M).bind fun v14 => some v14) else if l2 = (4 : Int32) then ((gR 11 M (some i1) 5).bind fun v15 => (gI 8 M v15 4).bind fun v16 => (F_X11_bit v16 l1 M).bind fun v17 => some v17) else if l2 = (5 : Int32) then ((gR 11 M (some i1) 5).bind fun v18 => (gR 8 M v18 3).bind fun v19 => (aI 20 M v19 l1).bind fun v20 => some v20) else if l2 = (6 : Int32) then ((gR 11 M (some i1) 5).bind fun v21 => (gR 11 M (some i1) 11).bind fun v22 => (gO 8 M v21).bind fun i23 => (F_X8_holdersOf (some i23) v22 l1 M).bind fun v24 => some v24) else (some (-2 : Int32)))
set_option maxHeartbeats 4000000 in
theorem T_X11_thing_b0 (M : gM) (r : Int32) (l0 : Option Nat) (l1 : Int32) (l2 : Int32) (h : F_X11_thing_b0 M l0 l1 l2 = some r) : GW 2 0 0 X_X11_thing 0 [(0, vr l0), (1, vi l1), (2, vi l2)] [] M (some (vi r), M) := by
  delta F_X11_thing_b0 at h
  refine GW_aload_n (X := X_X11_thing) (pc := 0) d_X11_thing_0 rfl 0 rfl ?_
  refine GW_iload_n (X := X_X11_thing) (pc := 1) d_X11_thing_1 rfl 1 rfl ?_
  replace h := g_bd h
  obtain ⟨i1, hi1, h⟩ := h
  obtain ⟨rfl, ki1⟩ := g_gO hi1
  replace h := g_bd h
  obtain ⟨v2, hv2, h⟩ := h
  refine GW_callV (X := X_X11_thing) (pc := 2) (bc0 := 0) (bs0 := 0) (r := some (vi v2)) (M2 := M) (c0 := 11) (T_X11_isThing (some i1) l1 M v2 hv2) (Nat.le_of_ble_eq_true rfl) (Nat.le_of_ble_eq_true rfl) rfl g_cok11 ki1 yc_X11_isThing ⟨m_794, m_796, m_22, m_116, m_797⟩ d_X11_thing_2 rfl (st := []) rfl (Nat.le_of_ble_eq_true rfl) (Nat.le_of_ble_eq_true rfl) (Nat.le_of_ble_eq_true rfl) (st2 := [vi v2]) rfl ?_
  refine GW_if_ne (X := X_X11_thing) (pc := 5) 11 d_X11_thing_5 (by decide) (fun c => ?_) (fun c => ?_)
  · replace h := g_ie c h
    refine GW_iload_n (X := X_X11_thing) (pc := 11) d_X11_thing_11 rfl 2 rfl ?_
    by_cases c0 : l2 = (0 : Int32)
    · replace h := g_ip c0 h
      refine GW_tableIn (X := X_X11_thing) (pc := 12) 56 d_X11_thing_12 (by rw [c0]; decide) (by rw [c0]; decide) (off := 44) (by rw [c0]; rfl) (by decide) ?_
      refine GW_aload_n (X := X_X11_thing) (pc := 56) d_X11_thing_56 rfl 0 rfl ?_
      replace h := g_bd h
      obtain ⟨v3, hv3, h⟩ := h
      refine GW_getR (X := X_X11_thing) (pc := 57) f_X11_59 d_X11_thing_57 hv3 (Or.inl ⟨_, ty_11_11⟩) ?_
      replace h := g_bd h
      obtain ⟨v4, hv4, h⟩ := h
      refine GW_getR (X := X_X11_thing) (pc := 60) f_X11_157 d_X11_thing_60 hv4 (Or.inr ⟨_, ty_1_0⟩) ?_
      refine GW_iload_n (X := X_X11_thing) (pc := 63) d_X11_thing_63 rfl 1 rfl ?_
      replace h := g_bd h
      obtain ⟨v5, hv5, h⟩ := h
      refine GW_iald (X := X_X11_thing) (pc := 64) d_X11_thing_64 hv5 ?_
      replace h := Option.some.inj h
      subst h
      exact GW_ret (X := X_X11_thing) (pc := 65) d_X11_thing_65 rfl trivial
    · replace h := g_ie c0 h
      by_cases c1 : l2 = (1 : Int32)
      · replace h := g_ip c1 h
        refine GW_tableIn (X := X_X11_thing) (pc := 12) 66 d_X11_thing_12 (by rw [c1]; decide) (by rw [c1]; decide) (off := 54) (by rw [c1]; rfl) (by decide) ?_
        refine GW_aload_n (X := X_X11_thing) (pc := 66) d_X11_thing_66 rfl 0 rfl ?_
        replace h := g_bd h
        obtain ⟨v6, hv6, h⟩ := h
        refine GW_getR (X := X_X11_thing) (pc := 67) f_X11_59 d_X11_thing_67 hv6 (Or.inl ⟨_, ty_11_11⟩) ?_
        replace h := g_bd h
        obtain ⟨v7, hv7, h⟩ := h
        refine GW_getR (X := X_X11_thing) (pc := 70) f_X11_160 d_X11_thing_70 hv7 (Or.inr ⟨_, ty_1_1⟩) ?_
        refine GW_iload_n (X := X_X11_thing) (pc := 73) d_X11_thing_73 rfl 1 rfl ?_
        replace h := g_bd h
        obtain ⟨v8, hv8, h⟩ := h
        refine GW_iald (X := X_X11_thing) (pc := 74) d_X11_thing_74 hv8 ?_
        replace h := Option.some.inj h
        subst h
        exact GW_ret (X := X_X11_thing) (pc := 75) d_X11_thing_75 rfl trivial
      · replace h := g_ie c1 h
        by_cases c2 : l2 = (2 : Int32)
        · replace h := g_ip c2 h
          refine GW_tableIn (X := X_X11_thing) (pc := 12) 76 d_X11_thing_12 (by rw [c2]; decide) (by rw [c2]; decide) (off := 64) (by rw [c2]; rfl) (by decide) ?_
          refine GW_aload_n (X := X_X11_thing) (pc := 76) d_X11_thing_76 rfl 0 rfl ?_
          replace h := g_bd h
          obtain ⟨v9, hv9, h⟩ := h
          refine GW_getR (X := X_X11_thing) (pc := 77) f_X11_59 d_X11_thing_77 hv9 (Or.inl ⟨_, ty_11_11⟩) ?_
          replace h := g_bd h
          obtain ⟨v10, hv10, h⟩ := h
          refine GW_getR (X := X_X11_thing) (pc := 80) f_X11_163 d_X11_thing_80 hv10 (Or.inr ⟨_, ty_1_2⟩) ?_
          refine GW_iload_n (X := X_X11_thing) (pc := 83) d_X11_thing_83 rfl 1 rfl ?_
          replace h := g_bd h
          obtain ⟨v11, hv11, h⟩ := h
          refine GW_iald (X := X_X11_thing) (pc := 84) d_X11_thing_84 hv11 ?_
          replace h := Option.some.inj h
          subst h
          exact GW_ret (X := X_X11_thing) (pc := 85) d_X11_thing_85 rfl trivial
        · replace h := g_ie c2 h
          by_cases c3 : l2 = (3 : Int32)
          · replace h := g_ip c3 h
            refine GW_tableIn (X := X_X11_thing) (pc := 12) 86 d_X11_thing_12 (by rw [c3]; decide) (by rw [c3]; decide) (off := 74) (by rw [c3]; rfl) (by decide) ?_
            refine GW_aload_n (X := X_X11_thing) (pc := 86) d_X11_thing_86 rfl 0 rfl ?_
            replace h := g_bd h
            obtain ⟨v12, hv12, h⟩ := h
            refine GW_getR (X := X_X11_thing) (pc := 87) f_X11_59 d_X11_thing_87 hv12 (Or.inl ⟨_, ty_11_11⟩) ?_
            replace h := g_bd h
            obtain ⟨v13, hv13, h⟩ := h
            refine GW_getI (X := X_X11_thing) (pc := 90) f_X11_166 d_X11_thing_90 hv13 (Or.inl ty_1_9) ?_
            refine GW_iload_n (X := X_X11_thing) (pc := 93) d_X11_thing_93 rfl 1 rfl ?_
            replace h := g_bd h
            obtain ⟨v14, hv14, h⟩ := h
            refine GW_callS (X := X_X11_thing) (pc := 94) (bc0 := 0) (bs0 := 0) (r := some (vi v14)) (M2 := M) (T_X11_bit v13 l1 M v14 hv14) (Nat.le_of_ble_eq_true rfl) (Nat.le_of_ble_eq_true rfl) yc_X11_bit ⟨m_772, m_646, m_116, m_647⟩ d_X11_thing_94 rfl (st := []) rfl (Nat.le_of_ble_eq_true rfl) (Nat.le_of_ble_eq_true rfl) (Nat.le_of_ble_eq_true rfl) (st2 := [vi v14]) rfl ?_
            replace h := Option.some.inj h
            subst h
            exact GW_ret (X := X_X11_thing) (pc := 97) d_X11_thing_97 rfl trivial
          · replace h := g_ie c3 h
            by_cases c4 : l2 = (4 : Int32)
            · replace h := g_ip c4 h
              refine GW_tableIn (X := X_X11_thing) (pc := 12) 98 d_X11_thing_12 (by rw [c4]; decide) (by rw [c4]; decide) (off := 86) (by rw [c4]; rfl) (by decide) ?_
              refine GW_aload_n (X := X_X11_thing) (pc := 98) d_X11_thing_98 rfl 0 rfl ?_
              replace h := g_bd h
              obtain ⟨v15, hv15, h⟩ := h
              refine GW_getR (X := X_X11_thing) (pc := 99) f_X11_25 d_X11_thing_99 hv15 (Or.inl ⟨_, ty_11_5⟩) ?_
              replace h := g_bd h
              obtain ⟨v16, hv16, h⟩ := h
              refine GW_getI (X := X_X11_thing) (pc := 102) f_X11_169 d_X11_thing_102 hv16 (Or.inl ty_8_4) ?_
              refine GW_iload_n (X := X_X11_thing) (pc := 105) d_X11_thing_105 rfl 1 rfl ?_
              replace h := g_bd h
              obtain ⟨v17, hv17, h⟩ := h
              refine GW_callS (X := X_X11_thing) (pc := 106) (bc0 := 0) (bs0 := 0) (r := some (vi v17)) (M2 := M) (T_X11_bit v16 l1 M v17 hv17) (Nat.le_of_ble_eq_true rfl) (Nat.le_of_ble_eq_true rfl) yc_X11_bit ⟨m_772, m_646, m_116, m_647⟩ d_X11_thing_106 rfl (st := []) rfl (Nat.le_of_ble_eq_true rfl) (Nat.le_of_ble_eq_true rfl) (Nat.le_of_ble_eq_true rfl) (st2 := [vi v17]) rfl ?_
              replace h := Option.some.inj h
              subst h
              exact GW_ret (X := X_X11_thing) (pc := 109) d_X11_thing_109 rfl trivial
            · replace h := g_ie c4 h
              by_cases c5 : l2 = (5 : Int32)
              · replace h := g_ip c5 h
                refine GW_tableIn (X := X_X11_thing) (pc := 12) 110 d_X11_thing_12 (by rw [c5]; decide) (by rw [c5]; decide) (off := 98) (by rw [c5]; rfl) (by decide) ?_
                refine GW_aload_n (X := X_X11_thing) (pc := 110) d_X11_thing_110 rfl 0 rfl ?_
                replace h := g_bd h
                obtain ⟨v18, hv18, h⟩ := h
                refine GW_getR (X := X_X11_thing) (pc := 111) f_X11_25 d_X11_thing_111 hv18 (Or.inl ⟨_, ty_11_5⟩) ?_
                replace h := g_bd h
                obtain ⟨v19, hv19, h⟩ := h
                refine GW_getR (X := X_X11_thing) (pc := 114) f_X11_172 d_X11_thing_114 hv19 (Or.inr ⟨_, ty_8_3⟩) ?_
                refine GW_iload_n (X := X_X11_thing) (pc := 117) d_X11_thing_117 rfl 1 rfl ?_
                replace h := g_bd h
                obtain ⟨v20, hv20, h⟩ := h
                refine GW_iald (X := X_X11_thing) (pc := 118) d_X11_thing_118 hv20 ?_
                replace h := Option.some.inj h
                subst h
                exact GW_ret (X := X_X11_thing) (pc := 119) d_X11_thing_119 rfl trivial
              · replace h := g_ie c5 h
                by_cases c6 : l2 = (6 : Int32)
                · replace h := g_ip c6 h
                  refine GW_tableIn (X := X_X11_thing) (pc := 12) 120 d_X11_thing_12 (by rw [c6]; decide) (by rw [c6]; decide) (off := 108) (by rw [c6]; rfl) (by decide) ?_
                  refine GW_aload_n (X := X_X11_thing) (pc := 120) d_X11_thing_120 rfl 0 rfl ?_
                  replace h := g_bd h
                  obtain ⟨v21, hv21, h⟩ := h
                  refine GW_getR (X := X_X11_thing) (pc := 121) f_X11_25 d_X11_thing_121 hv21 (Or.inl ⟨_, ty_11_5⟩) ?_
                  refine GW_aload_n (X := X_X11_thing) (pc := 124) d_X11_thing_124 rfl 0 rfl ?_
                  replace h := g_bd h
                  obtain ⟨v22, hv22, h⟩ := h
                  refine GW_getR (X := X_X11_thing) (pc := 125) f_X11_59 d_X11_thing_125 hv22 (Or.inl ⟨_, ty_11_11⟩) ?_
                  refine GW_iload_n (X := X_X11_thing) (pc := 128) d_X11_thing_128 rfl 1 rfl ?_
                  replace h := g_bd h
                  obtain ⟨i23, hi23, h⟩ := h
                  obtain ⟨rfl, ki23⟩ := g_gO hi23
                  replace h := g_bd h
                  obtain ⟨v24, hv24, h⟩ := h
                  refine GW_callV (X := X_X11_thing) (pc := 129) (bc0 := 0) (bs0 := 0) (r := some (vi v24)) (M2 := M) (c0 := 8) (T_X8_holdersOf (some i23) v22 l1 M v24 hv24) (Nat.le_of_ble_eq_true rfl) (Nat.le_of_ble_eq_true rfl) rfl g_cok8 ki23 yc_X8_holdersOf ⟨m_798, m_782, m_783, m_119, m_784⟩ d_X11_thing_129 rfl (st := []) rfl (Nat.le_of_ble_eq_true rfl) (Nat.le_of_ble_eq_true rfl) (Nat.le_of_ble_eq_true rfl) (st2 := [vi v24]) rfl ?_
                  replace h := Option.some.inj h
                  subst h
                  exact GW_ret (X := X_X11_thing) (pc := 132) d_X11_thing_132 rfl trivial
                · replace h := g_ie c6 h
                  have n0 := g_nk (k := 0) c0 (by decide)
                  have n1 := g_nk (k := 1) c1 (by decide)
                  have n2 := g_nk (k := 2) c2 (by decide)
                  have n3 := g_nk (k := 3) c3 (by decide)
                  have n4 := g_nk (k := 4) c4 (by decide)
                  have n5 := g_nk (k := 5) c5 (by decide)
                  have n6 := g_nk (k := 6) c6 (by decide)
                  refine GW_tableOut (X := X_X11_thing) (pc := 12) 133 d_X11_thing_12 (by omega) (by decide) ?_
                  refine GW_bipush (X := X_X11_thing) (pc := 133) (v := -2) d_X11_thing_133 (by decide) ?_
                  replace h := Option.some.inj h
                  subst h
                  exact GW_ret (X := X_X11_thing) (pc := 135) d_X11_thing_135 rfl trivial
  · replace h := g_ip c h
    refine GW_bipush (X := X_X11_thing) (pc := 8) (v := -2) d_X11_thing_8 (by decide) ?_
    replace h := Option.some.inj h
    subst h
    exact GW_ret (X := X_X11_thing) (pc := 10) d_X11_thing_10 rfl trivial
def F_X11_thing (l0 : Option Nat) (l1 : Int32) (l2 : Int32) (M : gM) : Option Int32 := F_X11_thing_b0 M l0 l1 l2
theorem T_X11_thing (l0 : Option Nat) (l1 : Int32) (l2 : Int32) (M : gM) (r : Int32) (h : F_X11_thing l0 l1 l2 M = some r) : g_Met 2 0 0 yX11_thing X_X11_thing [vr l0, vi l1, vi l2] M (some (vi r), M) :=
  g_Met_of pn_RX11 rfl (Nat.le_of_ble_eq_true rfl) (fun h => by cases h) (GW_sub [0, 1, 2] rfl (T_X11_thing_b0 M r l0 l1 l2 h))
/-! ForgetHeirsModel.isThing(I)Z -/
theorem d_X12_isThing_0 : decode cX12_isThing 0 = .ok (.iload_n 1, 1) := by decide +kernel
theorem d_X12_isThing_1 : decode cX12_isThing 1 = .ok (.ifCond .lt 17, 3) := by decide +kernel
theorem d_X12_isThing_4 : decode cX12_isThing 4 = .ok (.iload_n 1, 1) := by decide +kernel
theorem d_X12_isThing_5 : decode cX12_isThing 5 = .ok (.aload_n 0, 1) := by decide +kernel
theorem d_X12_isThing_6 : decode cX12_isThing 6 = .ok (.getfield 39, 3) := by decide +kernel
theorem d_X12_isThing_9 : decode cX12_isThing 9 = .ok (.iconst 1, 1) := by decide +kernel
theorem d_X12_isThing_10 : decode cX12_isThing 10 = .ok (.iaload, 1) := by decide +kernel
theorem d_X12_isThing_11 : decode cX12_isThing 11 = .ok (.if_icmp .ge 7, 3) := by decide +kernel
theorem d_X12_isThing_14 : decode cX12_isThing 14 = .ok (.iconst 1, 1) := by decide +kernel
theorem d_X12_isThing_15 : decode cX12_isThing 15 = .ok (.goto 4, 3) := by decide +kernel
theorem d_X12_isThing_18 : decode cX12_isThing 18 = .ok (.iconst 0, 1) := by decide +kernel
theorem d_X12_isThing_19 : decode cX12_isThing 19 = .ok (.ireturn, 1) := by decide +kernel
abbrev X_X12_isThing : gX := (RX12, cX12_isThing, 2, (some .boolean), false)
def F_X12_isThing_b18 (M : gM) : Option Int32 :=
  some (0 : Int32)
theorem T_X12_isThing_b18 (M : gM) (r : Int32) (h : F_X12_isThing_b18 M = some r) : GW 0 0 0 X_X12_isThing 18 [] [] M (some (vi r), M) := by
  delta F_X12_isThing_b18 at h
  refine GW_iconst (X := X_X12_isThing) (pc := 18) (v := 0) d_X12_isThing_18 (by decide) ?_
  replace h := Option.some.inj h
  subst h
  exact GW_ret (X := X_X12_isThing) (pc := 19) d_X12_isThing_19 rfl g_rok0
def F_X12_isThing_b0 (M : gM) (l0 : Option Nat) (l1 : Int32) : Option Int32 :=
  if l1 < 0 then (F_X12_isThing_b18 M ) else ((gR 12 M l0 20).bind fun v1 => (aI 20 M v1 (1 : Int32)).bind fun v2 => if v2 ≤ l1 then (F_X12_isThing_b18 M ) else (some (1 : Int32)))
theorem T_X12_isThing_b0 (M : gM) (r : Int32) (l0 : Option Nat) (l1 : Int32) (h : F_X12_isThing_b0 M l0 l1 = some r) : GW 0 0 0 X_X12_isThing 0 [(0, vr l0), (1, vi l1)] [] M (some (vi r), M) := by
  delta F_X12_isThing_b0 at h
  refine GW_iload_n (X := X_X12_isThing) (pc := 0) d_X12_isThing_0 rfl 1 rfl ?_
  refine GW_if_lt (X := X_X12_isThing) (pc := 1) 18 d_X12_isThing_1 (by decide) (fun c => ?_) (fun c => ?_)
  · replace h := g_ip c h
    refine GW_sub [] rfl ?_
    exact T_X12_isThing_b18 M r  h
  · replace h := g_ie c h
    refine GW_iload_n (X := X_X12_isThing) (pc := 4) d_X12_isThing_4 rfl 1 rfl ?_
    refine GW_aload_n (X := X_X12_isThing) (pc := 5) d_X12_isThing_5 rfl 0 rfl ?_
    replace h := g_bd h
    obtain ⟨v1, hv1, h⟩ := h
    refine GW_getR (X := X_X12_isThing) (pc := 6) f_X12_39 d_X12_isThing_6 hv1 (Or.inr ⟨_, ty_12_20⟩) ?_
    refine GW_iconst (X := X_X12_isThing) (pc := 9) (v := 1) d_X12_isThing_9 (by decide) ?_
    replace h := g_bd h
    obtain ⟨v2, hv2, h⟩ := h
    refine GW_iald (X := X_X12_isThing) (pc := 10) d_X12_isThing_10 hv2 ?_
    refine GW_icmp_ge (X := X_X12_isThing) (pc := 11) 18 d_X12_isThing_11 (by decide) (fun c => ?_) (fun c => ?_)
    · replace h := g_ip c h
      refine GW_sub [] rfl ?_
      exact T_X12_isThing_b18 M r  h
    · replace h := g_ie c h
      refine GW_iconst (X := X_X12_isThing) (pc := 14) (v := 1) d_X12_isThing_14 (by decide) ?_
      refine GW_goto (X := X_X12_isThing) (pc := 15) 19 d_X12_isThing_15 (by decide) ?_
      replace h := Option.some.inj h
      subst h
      exact GW_ret (X := X_X12_isThing) (pc := 19) d_X12_isThing_19 rfl g_rok1
def F_X12_isThing (l0 : Option Nat) (l1 : Int32) (M : gM) : Option Int32 := F_X12_isThing_b0 M l0 l1
theorem T_X12_isThing (l0 : Option Nat) (l1 : Int32) (M : gM) (r : Int32) (h : F_X12_isThing l0 l1 M = some r) : g_Met 0 0 0 yX12_isThing X_X12_isThing [vr l0, vi l1] M (some (vi r), M) :=
  g_Met_of pn_RX12 rfl (Nat.le_of_ble_eq_true rfl) (fun h => by cases h) (GW_sub [0, 1] rfl (T_X12_isThing_b0 M r l0 l1 h))
/-! ForgetHeirsModel.holdersOf(I)I -/
theorem d_X12_holdersOf_0 : decode cX12_holdersOf 0 = .ok (.iconst 0, 1) := by decide +kernel
theorem d_X12_holdersOf_1 : decode cX12_holdersOf 1 = .ok (.istore_n 2, 1) := by decide +kernel
theorem d_X12_holdersOf_2 : decode cX12_holdersOf 2 = .ok (.iconst 0, 1) := by decide +kernel
theorem d_X12_holdersOf_3 : decode cX12_holdersOf 3 = .ok (.istore_n 3, 1) := by decide +kernel
theorem d_X12_holdersOf_4 : decode cX12_holdersOf 4 = .ok (.iload_n 3, 1) := by decide +kernel
theorem d_X12_holdersOf_5 : decode cX12_holdersOf 5 = .ok (.aload_n 0, 1) := by decide +kernel
theorem d_X12_holdersOf_6 : decode cX12_holdersOf 6 = .ok (.getfield 39, 3) := by decide +kernel
theorem d_X12_holdersOf_9 : decode cX12_holdersOf 9 = .ok (.iconst 2, 1) := by decide +kernel
theorem d_X12_holdersOf_10 : decode cX12_holdersOf 10 = .ok (.iaload, 1) := by decide +kernel
theorem d_X12_holdersOf_11 : decode cX12_holdersOf 11 = .ok (.if_icmp .ge 28, 3) := by decide +kernel
theorem d_X12_holdersOf_14 : decode cX12_holdersOf 14 = .ok (.iload_n 2, 1) := by decide +kernel
theorem d_X12_holdersOf_15 : decode cX12_holdersOf 15 = .ok (.aload_n 0, 1) := by decide +kernel
theorem d_X12_holdersOf_16 : decode cX12_holdersOf 16 = .ok (.iload_n 3, 1) := by decide +kernel
theorem d_X12_holdersOf_17 : decode cX12_holdersOf 17 = .ok (.iload_n 1, 1) := by decide +kernel
theorem d_X12_holdersOf_18 : decode cX12_holdersOf 18 = .ok (.invokevirtual 310, 3) := by decide +kernel
theorem d_X12_holdersOf_21 : decode cX12_holdersOf 21 = .ok (.ifCond .eq 9, 3) := by decide +kernel
theorem d_X12_holdersOf_24 : decode cX12_holdersOf 24 = .ok (.iconst 1, 1) := by decide +kernel
theorem d_X12_holdersOf_25 : decode cX12_holdersOf 25 = .ok (.iload_n 3, 1) := by decide +kernel
theorem d_X12_holdersOf_26 : decode cX12_holdersOf 26 = .ok (.ishl, 1) := by decide +kernel
theorem d_X12_holdersOf_27 : decode cX12_holdersOf 27 = .ok (.goto 4, 3) := by decide +kernel
theorem d_X12_holdersOf_30 : decode cX12_holdersOf 30 = .ok (.iconst 0, 1) := by decide +kernel
theorem d_X12_holdersOf_31 : decode cX12_holdersOf 31 = .ok (.ior, 1) := by decide +kernel
theorem d_X12_holdersOf_32 : decode cX12_holdersOf 32 = .ok (.istore_n 2, 1) := by decide +kernel
theorem d_X12_holdersOf_33 : decode cX12_holdersOf 33 = .ok (.iinc 3 1, 3) := by decide +kernel
theorem d_X12_holdersOf_36 : decode cX12_holdersOf 36 = .ok (.goto (-32), 3) := by decide +kernel
theorem d_X12_holdersOf_39 : decode cX12_holdersOf 39 = .ok (.iload_n 2, 1) := by decide +kernel
theorem d_X12_holdersOf_40 : decode cX12_holdersOf 40 = .ok (.ireturn, 1) := by decide +kernel
abbrev X_X12_holdersOf : gX := (RX12, cX12_holdersOf, 4, (some .int), false)
def F_X12_holdersOf_b31 (k4 : Option Nat → Int32 → Int32 → Int32 → Option Int32) (M : gM) (l0 : Option Nat) (l1 : Int32) (l3 : Int32) (s0 : Int32) (s1 : Int32) : Option Int32 :=
  k4 l0 l1 (s0 ||| s1) (l3 + 1)
theorem T_X12_holdersOf_b31 (k4 : Option Nat → Int32 → Int32 → Int32 → Option Int32) (M : gM) (r : Int32) (hk4 : ∀ (l0 : Option Nat) (l1 : Int32) (l2 : Int32) (l3 : Int32), k4 l0 l1 l2 l3 = some r → GW 3 0 0 X_X12_holdersOf 4 [(0, vr l0), (1, vi l1), (2, vi l2), (3, vi l3)] [] M (some (vi r), M)) (l0 : Option Nat) (l1 : Int32) (l3 : Int32) (s0 : Int32) (s1 : Int32) (h : F_X12_holdersOf_b31 k4 M l0 l1 l3 s0 s1 = some r) : GW 3 0 0 X_X12_holdersOf 31 [(0, vr l0), (1, vi l1), (3, vi l3)] [vi s1, vi s0] M (some (vi r), M) := by
  delta F_X12_holdersOf_b31 at h
  refine GW_ior (X := X_X12_holdersOf) (pc := 31) d_X12_holdersOf_31 ?_
  refine GW_istore_n (X := X_X12_holdersOf) (pc := 32) d_X12_holdersOf_32 rfl (Nat.le_of_ble_eq_true rfl) (lv2 := [(2, vi (s0 ||| s1)), (0, vr l0), (1, vi l1), (3, vi l3)]) rfl ?_
  refine GW_iinc (j := 3) (X := X_X12_holdersOf) (pc := 33) d_X12_holdersOf_33 rfl (congrArg (fun z => _ + z) (by decide : Int32.ofInt 1 = (1 : Int32))) (Nat.le_of_ble_eq_true rfl) (lv2 := [(3, vi (l3 + 1)), (2, vi (s0 ||| s1)), (0, vr l0), (1, vi l1)]) rfl ?_
  refine GW_goto (X := X_X12_holdersOf) (pc := 36) 4 d_X12_holdersOf_36 (by decide) ?_
  refine GW_sub [2, 3, 1, 0] rfl ?_
  exact hk4 l0 l1 (s0 ||| s1) (l3 + 1) h
def F_X12_holdersOf_b4 (k4 : Option Nat → Int32 → Int32 → Int32 → Option Int32) (M : gM) (l0 : Option Nat) (l1 : Int32) (l2 : Int32) (l3 : Int32) : Option Int32 :=
  (gR 12 M l0 20).bind fun v1 => (aI 20 M v1 (2 : Int32)).bind fun v2 => if v2 ≤ l3 then (some l2) else ((gO 12 M l0).bind fun i3 => (F_X12_holds (some i3) l3 l1 M).bind fun v4 => if v4 = 0 then (F_X12_holdersOf_b31 k4 M (some i3) l1 l3 l2 (0 : Int32)) else (F_X12_holdersOf_b31 k4 M (some i3) l1 l3 l2 ((1 : Int32) <<< (l3 &&& 31))))
theorem T_X12_holdersOf_b4 (k4 : Option Nat → Int32 → Int32 → Int32 → Option Int32) (M : gM) (r : Int32) (hk4 : ∀ (l0 : Option Nat) (l1 : Int32) (l2 : Int32) (l3 : Int32), k4 l0 l1 l2 l3 = some r → GW 3 0 0 X_X12_holdersOf 4 [(0, vr l0), (1, vi l1), (2, vi l2), (3, vi l3)] [] M (some (vi r), M)) (l0 : Option Nat) (l1 : Int32) (l2 : Int32) (l3 : Int32) (h : F_X12_holdersOf_b4 k4 M l0 l1 l2 l3 = some r) : GW 3 0 0 X_X12_holdersOf 4 [(0, vr l0), (1, vi l1), (2, vi l2), (3, vi l3)] [] M (some (vi r), M) := by
  delta F_X12_holdersOf_b4 at h
  refine GW_iload_n (X := X_X12_holdersOf) (pc := 4) d_X12_holdersOf_4 rfl 3 rfl ?_
  refine GW_aload_n (X := X_X12_holdersOf) (pc := 5) d_X12_holdersOf_5 rfl 0 rfl ?_
  replace h := g_bd h
  obtain ⟨v1, hv1, h⟩ := h
  refine GW_getR (X := X_X12_holdersOf) (pc := 6) f_X12_39 d_X12_holdersOf_6 hv1 (Or.inr ⟨_, ty_12_20⟩) ?_
  refine GW_iconst (X := X_X12_holdersOf) (pc := 9) (v := 2) d_X12_holdersOf_9 (by decide) ?_
  replace h := g_bd h
  obtain ⟨v2, hv2, h⟩ := h
  refine GW_iald (X := X_X12_holdersOf) (pc := 10) d_X12_holdersOf_10 hv2 ?_
  refine GW_icmp_ge (X := X_X12_holdersOf) (pc := 11) 39 d_X12_holdersOf_11 (by decide) (fun c => ?_) (fun c => ?_)
  · replace h := g_ip c h
    refine GW_iload_n (X := X_X12_holdersOf) (pc := 39) d_X12_holdersOf_39 rfl 2 rfl ?_
    replace h := Option.some.inj h
    subst h
    exact GW_ret (X := X_X12_holdersOf) (pc := 40) d_X12_holdersOf_40 rfl trivial
  · replace h := g_ie c h
    refine GW_iload_n (X := X_X12_holdersOf) (pc := 14) d_X12_holdersOf_14 rfl 2 rfl ?_
    refine GW_aload_n (X := X_X12_holdersOf) (pc := 15) d_X12_holdersOf_15 rfl 0 rfl ?_
    refine GW_iload_n (X := X_X12_holdersOf) (pc := 16) d_X12_holdersOf_16 rfl 3 rfl ?_
    refine GW_iload_n (X := X_X12_holdersOf) (pc := 17) d_X12_holdersOf_17 rfl 1 rfl ?_
    replace h := g_bd h
    obtain ⟨i3, hi3, h⟩ := h
    obtain ⟨rfl, ki3⟩ := g_gO hi3
    replace h := g_bd h
    obtain ⟨v4, hv4, h⟩ := h
    refine GW_callV (X := X_X12_holdersOf) (pc := 18) (bc0 := 0) (bs0 := 0) (r := some (vi v4)) (M2 := M) (c0 := 12) (T_X12_holds (some i3) l3 l1 M v4 hv4) (Nat.le_of_ble_eq_true rfl) (Nat.le_of_ble_eq_true rfl) rfl g_cok12 ki3 yc_X12_holds ⟨m_1424, m_1426, m_78, m_127, m_1427⟩ d_X12_holdersOf_18 rfl (st := [vi l2]) rfl (Nat.le_of_ble_eq_true rfl) (Nat.le_of_ble_eq_true rfl) (Nat.le_of_ble_eq_true rfl) (st2 := [vi v4, vi l2]) rfl ?_
    refine GW_if_eq (X := X_X12_holdersOf) (pc := 21) 30 d_X12_holdersOf_21 (by decide) (fun c => ?_) (fun c => ?_)
    · replace h := g_ip c h
      refine GW_iconst (X := X_X12_holdersOf) (pc := 30) (v := 0) d_X12_holdersOf_30 (by decide) ?_
      refine GW_sub [0, 1, 3] rfl ?_
      exact T_X12_holdersOf_b31 k4 M r hk4 (some i3) l1 l3 l2 (0 : Int32) h
    · replace h := g_ie c h
      refine GW_iconst (X := X_X12_holdersOf) (pc := 24) (v := 1) d_X12_holdersOf_24 (by decide) ?_
      refine GW_iload_n (X := X_X12_holdersOf) (pc := 25) d_X12_holdersOf_25 rfl 3 rfl ?_
      refine GW_ishl (X := X_X12_holdersOf) (pc := 26) d_X12_holdersOf_26 ?_
      refine GW_goto (X := X_X12_holdersOf) (pc := 27) 31 d_X12_holdersOf_27 (by decide) ?_
      refine GW_sub [0, 1, 3] rfl ?_
      exact T_X12_holdersOf_b31 k4 M r hk4 (some i3) l1 l3 l2 ((1 : Int32) <<< (l3 &&& 31)) h
def F_X12_holdersOf_L4 (M : gM) : Nat → Option Nat → Int32 → Int32 → Int32 → Option Int32
  | 0 => fun _ _ _ _ => none
  | n + 1 => F_X12_holdersOf_b4 (F_X12_holdersOf_L4 M n) M
theorem T_X12_holdersOf_L4 (M : gM) (r : Int32) : ∀ (n : Nat) (l0 : Option Nat) (l1 : Int32) (l2 : Int32) (l3 : Int32), F_X12_holdersOf_L4 M n l0 l1 l2 l3 = some r → GW 3 0 0 X_X12_holdersOf 4 [(0, vr l0), (1, vi l1), (2, vi l2), (3, vi l3)] [] M (some (vi r), M) := by
  intro n
  induction n with
  | zero => intro l0 l1 l2 l3 h; exact g_no h
  | succ n ih => intro l0 l1 l2 l3 h; exact T_X12_holdersOf_b4 (F_X12_holdersOf_L4 M n) M r ih l0 l1 l2 l3 h
def F_X12_holdersOf_b0 (M : gM) (l0 : Option Nat) (l1 : Int32) : Option Int32 :=
  F_X12_holdersOf_L4 M g_fuel l0 l1 (0 : Int32) (0 : Int32)
theorem T_X12_holdersOf_b0 (M : gM) (r : Int32) (l0 : Option Nat) (l1 : Int32) (h : F_X12_holdersOf_b0 M l0 l1 = some r) : GW 3 0 0 X_X12_holdersOf 0 [(0, vr l0), (1, vi l1)] [] M (some (vi r), M) := by
  delta F_X12_holdersOf_b0 at h
  refine GW_iconst (X := X_X12_holdersOf) (pc := 0) (v := 0) d_X12_holdersOf_0 (by decide) ?_
  refine GW_istore_n (X := X_X12_holdersOf) (pc := 1) d_X12_holdersOf_1 rfl (Nat.le_of_ble_eq_true rfl) (lv2 := [(2, vi (0 : Int32)), (0, vr l0), (1, vi l1)]) rfl ?_
  refine GW_iconst (X := X_X12_holdersOf) (pc := 2) (v := 0) d_X12_holdersOf_2 (by decide) ?_
  refine GW_istore_n (X := X_X12_holdersOf) (pc := 3) d_X12_holdersOf_3 rfl (Nat.le_of_ble_eq_true rfl) (lv2 := [(3, vi (0 : Int32)), (2, vi (0 : Int32)), (0, vr l0), (1, vi l1)]) rfl ?_
  refine GW_sub [2, 3, 1, 0] rfl ?_
  exact T_X12_holdersOf_L4 M r g_fuel l0 l1 (0 : Int32) (0 : Int32) h
def F_X12_holdersOf (l0 : Option Nat) (l1 : Int32) (M : gM) : Option Int32 := F_X12_holdersOf_b0 M l0 l1
theorem T_X12_holdersOf (l0 : Option Nat) (l1 : Int32) (M : gM) (r : Int32) (h : F_X12_holdersOf l0 l1 M = some r) : g_Met 3 0 0 yX12_holdersOf X_X12_holdersOf [vr l0, vi l1] M (some (vi r), M) :=
  g_Met_of pn_RX12 rfl (Nat.le_of_ble_eq_true rfl) (fun h => by cases h) (GW_sub [0, 1] rfl (T_X12_holdersOf_b0 M r l0 l1 h))
/-! ForgetHeirsModel.thing(II)I -/
theorem d_X12_thing_0 : decode cX12_thing 0 = .ok (.aload_n 0, 1) := by decide +kernel
theorem d_X12_thing_1 : decode cX12_thing 1 = .ok (.iload_n 1, 1) := by decide +kernel
theorem d_X12_thing_2 : decode cX12_thing 2 = .ok (.invokevirtual 327, 3) := by decide +kernel
theorem d_X12_thing_5 : decode cX12_thing 5 = .ok (.ifCond .eq 15, 3) := by decide +kernel
theorem d_X12_thing_8 : decode cX12_thing 8 = .ok (.iload_n 2, 1) := by decide +kernel
theorem d_X12_thing_9 : decode cX12_thing 9 = .ok (.i2l, 1) := by decide +kernel
theorem d_X12_thing_10 : decode cX12_thing 10 = .ok (.lconst 0, 1) := by decide +kernel
theorem d_X12_thing_11 : decode cX12_thing 11 = .ok (.ldc2_w 330, 3) := by decide +kernel
theorem d_X12_thing_14 : decode cX12_thing 14 = .ok (.invokestatic 118, 3) := by decide +kernel
theorem d_X12_thing_17 : decode cX12_thing 17 = .ok (.ifCond .ne 6, 3) := by decide +kernel
theorem d_X12_thing_20 : decode cX12_thing 20 = .ok (.bipush (-2), 2) := by decide +kernel
theorem d_X12_thing_22 : decode cX12_thing 22 = .ok (.ireturn, 1) := by decide +kernel
theorem d_X12_thing_23 : decode cX12_thing 23 = .ok (.iload_n 2, 1) := by decide +kernel
theorem d_X12_thing_24 : decode cX12_thing 24 = .ok (.iconst 3, 1) := by decide +kernel
theorem d_X12_thing_25 : decode cX12_thing 25 = .ok (.if_icmp .ge 10, 3) := by decide +kernel
theorem d_X12_thing_28 : decode cX12_thing 28 = .ok (.aload_n 0, 1) := by decide +kernel
theorem d_X12_thing_29 : decode cX12_thing 29 = .ok (.iload_n 1, 1) := by decide +kernel
theorem d_X12_thing_30 : decode cX12_thing 30 = .ok (.iload_n 2, 1) := by decide +kernel
theorem d_X12_thing_31 : decode cX12_thing 31 = .ok (.invokevirtual 301, 3) := by decide +kernel
theorem d_X12_thing_34 : decode cX12_thing 34 = .ok (.ireturn, 1) := by decide +kernel
theorem d_X12_thing_35 : decode cX12_thing 35 = .ok (.iload_n 2, 1) := by decide +kernel
theorem d_X12_thing_36 : decode cX12_thing 36 = .ok (.iconst 3, 1) := by decide +kernel
theorem d_X12_thing_37 : decode cX12_thing 37 = .ok (.if_icmp .ne 17, 3) := by decide +kernel
theorem d_X12_thing_40 : decode cX12_thing 40 = .ok (.aload_n 0, 1) := by decide +kernel
theorem d_X12_thing_41 : decode cX12_thing 41 = .ok (.getfield 39, 3) := by decide +kernel
theorem d_X12_thing_44 : decode cX12_thing 44 = .ok (.bipush 7, 2) := by decide +kernel
theorem d_X12_thing_46 : decode cX12_thing 46 = .ok (.iaload, 1) := by decide +kernel
theorem d_X12_thing_47 : decode cX12_thing 47 = .ok (.iload_n 1, 1) := by decide +kernel
theorem d_X12_thing_48 : decode cX12_thing 48 = .ok (.ishr, 1) := by decide +kernel
theorem d_X12_thing_49 : decode cX12_thing 49 = .ok (.iconst 1, 1) := by decide +kernel
theorem d_X12_thing_50 : decode cX12_thing 50 = .ok (.iand, 1) := by decide +kernel
theorem d_X12_thing_51 : decode cX12_thing 51 = .ok (.goto 41, 3) := by decide +kernel
theorem d_X12_thing_54 : decode cX12_thing 54 = .ok (.iload_n 2, 1) := by decide +kernel
theorem d_X12_thing_55 : decode cX12_thing 55 = .ok (.iconst 4, 1) := by decide +kernel
theorem d_X12_thing_56 : decode cX12_thing 56 = .ok (.if_icmp .ne 17, 3) := by decide +kernel
theorem d_X12_thing_59 : decode cX12_thing 59 = .ok (.aload_n 0, 1) := by decide +kernel
theorem d_X12_thing_60 : decode cX12_thing 60 = .ok (.getfield 39, 3) := by decide +kernel
theorem d_X12_thing_63 : decode cX12_thing 63 = .ok (.bipush 8, 2) := by decide +kernel
theorem d_X12_thing_65 : decode cX12_thing 65 = .ok (.iaload, 1) := by decide +kernel
theorem d_X12_thing_66 : decode cX12_thing 66 = .ok (.iload_n 1, 1) := by decide +kernel
theorem d_X12_thing_67 : decode cX12_thing 67 = .ok (.ishr, 1) := by decide +kernel
theorem d_X12_thing_68 : decode cX12_thing 68 = .ok (.iconst 1, 1) := by decide +kernel
theorem d_X12_thing_69 : decode cX12_thing 69 = .ok (.iand, 1) := by decide +kernel
theorem d_X12_thing_70 : decode cX12_thing 70 = .ok (.goto 22, 3) := by decide +kernel
theorem d_X12_thing_73 : decode cX12_thing 73 = .ok (.iload_n 2, 1) := by decide +kernel
theorem d_X12_thing_74 : decode cX12_thing 74 = .ok (.iconst 5, 1) := by decide +kernel
theorem d_X12_thing_75 : decode cX12_thing 75 = .ok (.if_icmp .ne 12, 3) := by decide +kernel
theorem d_X12_thing_78 : decode cX12_thing 78 = .ok (.aload_n 0, 1) := by decide +kernel
theorem d_X12_thing_79 : decode cX12_thing 79 = .ok (.iload_n 1, 1) := by decide +kernel
theorem d_X12_thing_80 : decode cX12_thing 80 = .ok (.iconst 3, 1) := by decide +kernel
theorem d_X12_thing_81 : decode cX12_thing 81 = .ok (.invokevirtual 301, 3) := by decide +kernel
theorem d_X12_thing_84 : decode cX12_thing 84 = .ok (.goto 8, 3) := by decide +kernel
theorem d_X12_thing_87 : decode cX12_thing 87 = .ok (.aload_n 0, 1) := by decide +kernel
theorem d_X12_thing_88 : decode cX12_thing 88 = .ok (.iload_n 1, 1) := by decide +kernel
theorem d_X12_thing_89 : decode cX12_thing 89 = .ok (.invokevirtual 332, 3) := by decide +kernel
theorem d_X12_thing_92 : decode cX12_thing 92 = .ok (.ireturn, 1) := by decide +kernel
abbrev X_X12_thing : gX := (RX12, cX12_thing, 3, (some .int), false)
def F_X12_thing_b20 (M : gM) : Option Int32 :=
  some (-2 : Int32)
theorem T_X12_thing_b20 (M : gM) (r : Int32) (h : F_X12_thing_b20 M = some r) : GW 4 0 0 X_X12_thing 20 [] [] M (some (vi r), M) := by
  delta F_X12_thing_b20 at h
  refine GW_bipush (X := X_X12_thing) (pc := 20) (v := -2) d_X12_thing_20 (by decide) ?_
  replace h := Option.some.inj h
  subst h
  exact GW_ret (X := X_X12_thing) (pc := 22) d_X12_thing_22 rfl trivial
def F_X12_thing_b0 (M : gM) (l0 : Option Nat) (l1 : Int32) (l2 : Int32) : Option Int32 :=
  (gO 12 M l0).bind fun i1 => (F_X12_isThing (some i1) l1 M).bind fun v2 => if v2 = 0 then (F_X12_thing_b20 M ) else ((F_X12_in (l2).toInt64 (0 : Int64) (6 : Int64) M).bind fun v3 => if v3 = 0 then (F_X12_thing_b20 M ) else (if (3 : Int32) ≤ l2 then (if l2 = (3 : Int32) then ((gR 12 M (some i1) 20).bind fun v8 => (aI 20 M v8 (7 : Int32)).bind fun v9 => some ((v9 >>> (l1 &&& 31)) &&& (1 : Int32))) else (if l2 = (4 : Int32) then ((gR 12 M (some i1) 20).bind fun v6 => (aI 20 M v6 (8 : Int32)).bind fun v7 => some ((v7 >>> (l1 &&& 31)) &&& (1 : Int32))) else (if l2 = (5 : Int32) then ((F_X12_thingOf (some i1) l1 (3 : Int32) M).bind fun v5 => some v5) else ((F_X12_holdersOf (some i1) l1 M).bind fun v4 => some v4)))) else ((F_X12_thingOf (some i1) l1 l2 M).bind fun v10 => some v10)))
set_option maxHeartbeats 1000000 in
theorem T_X12_thing_b0 (M : gM) (r : Int32) (l0 : Option Nat) (l1 : Int32) (l2 : Int32) (h : F_X12_thing_b0 M l0 l1 l2 = some r) : GW 4 0 0 X_X12_thing 0 [(0, vr l0), (1, vi l1), (2, vi l2)] [] M (some (vi r), M) := by
  delta F_X12_thing_b0 at h
  refine GW_aload_n (X := X_X12_thing) (pc := 0) d_X12_thing_0 rfl 0 rfl ?_
  refine GW_iload_n (X := X_X12_thing) (pc := 1) d_X12_thing_1 rfl 1 rfl ?_
  replace h := g_bd h
  obtain ⟨i1, hi1, h⟩ := h
  obtain ⟨rfl, ki1⟩ := g_gO hi1
  replace h := g_bd h
  obtain ⟨v2, hv2, h⟩ := h
  refine GW_callV (X := X_X12_thing) (pc := 2) (bc0 := 0) (bs0 := 0) (r := some (vi v2)) (M2 := M) (c0 := 12) (T_X12_isThing (some i1) l1 M v2 hv2) (Nat.le_of_ble_eq_true rfl) (Nat.le_of_ble_eq_true rfl) rfl g_cok12 ki1 yc_X12_isThing ⟨m_1448, m_1450, m_83, m_127, m_1451⟩ d_X12_thing_2 rfl (st := []) rfl (Nat.le_of_ble_eq_true rfl) (Nat.le_of_ble_eq_true rfl) (Nat.le_of_ble_eq_true rfl) (st2 := [vi v2]) rfl ?_
  refine GW_if_eq (X := X_X12_thing) (pc := 5) 20 d_X12_thing_5 (by decide) (fun c => ?_) (fun c => ?_)
  · replace h := g_ip c h
    refine GW_sub [] rfl ?_
    exact T_X12_thing_b20 M r  h
  · replace h := g_ie c h
    refine GW_iload_n (X := X_X12_thing) (pc := 8) d_X12_thing_8 rfl 2 rfl ?_
    refine GW_i2l (X := X_X12_thing) (pc := 9) d_X12_thing_9 ?_
    refine GW_lconst (X := X_X12_thing) (pc := 10) (v := 0) d_X12_thing_10 (by decide) ?_
    refine GW_ldc2 (X := X_X12_thing) (pc := 11) d_X12_thing_11 m_1452 ?_
    replace h := g_bd h
    obtain ⟨v3, hv3, h⟩ := h
    refine GW_callS (X := X_X12_thing) (pc := 14) (bc0 := 0) (bs0 := 0) (r := some (vi v3)) (M2 := M) (T_X12_in (l2).toInt64 (0 : Int64) (6 : Int64) M v3 hv3) (Nat.le_of_ble_eq_true rfl) (Nat.le_of_ble_eq_true rfl) yc_X12_in ⟨m_1291, m_1292, m_127, m_1293⟩ d_X12_thing_14 rfl (st := []) rfl (Nat.le_of_ble_eq_true rfl) (Nat.le_of_ble_eq_true rfl) (Nat.le_of_ble_eq_true rfl) (st2 := [vi v3]) rfl ?_
    refine GW_if_ne (X := X_X12_thing) (pc := 17) 23 d_X12_thing_17 (by decide) (fun c => ?_) (fun c => ?_)
    · replace h := g_ie c h
      refine GW_iload_n (X := X_X12_thing) (pc := 23) d_X12_thing_23 rfl 2 rfl ?_
      refine GW_iconst (X := X_X12_thing) (pc := 24) (v := 3) d_X12_thing_24 (by decide) ?_
      refine GW_icmp_ge (X := X_X12_thing) (pc := 25) 35 d_X12_thing_25 (by decide) (fun c => ?_) (fun c => ?_)
      · replace h := g_ip c h
        refine GW_iload_n (X := X_X12_thing) (pc := 35) d_X12_thing_35 rfl 2 rfl ?_
        refine GW_iconst (X := X_X12_thing) (pc := 36) (v := 3) d_X12_thing_36 (by decide) ?_
        refine GW_icmp_ne (X := X_X12_thing) (pc := 37) 54 d_X12_thing_37 (by decide) (fun c => ?_) (fun c => ?_)
        · replace h := g_ie c h
          refine GW_iload_n (X := X_X12_thing) (pc := 54) d_X12_thing_54 rfl 2 rfl ?_
          refine GW_iconst (X := X_X12_thing) (pc := 55) (v := 4) d_X12_thing_55 (by decide) ?_
          refine GW_icmp_ne (X := X_X12_thing) (pc := 56) 73 d_X12_thing_56 (by decide) (fun c => ?_) (fun c => ?_)
          · replace h := g_ie c h
            refine GW_iload_n (X := X_X12_thing) (pc := 73) d_X12_thing_73 rfl 2 rfl ?_
            refine GW_iconst (X := X_X12_thing) (pc := 74) (v := 5) d_X12_thing_74 (by decide) ?_
            refine GW_icmp_ne (X := X_X12_thing) (pc := 75) 87 d_X12_thing_75 (by decide) (fun c => ?_) (fun c => ?_)
            · replace h := g_ie c h
              refine GW_aload_n (X := X_X12_thing) (pc := 87) d_X12_thing_87 rfl 0 rfl ?_
              refine GW_iload_n (X := X_X12_thing) (pc := 88) d_X12_thing_88 rfl 1 rfl ?_
              replace h := g_bd h
              obtain ⟨v4, hv4, h⟩ := h
              refine GW_callV (X := X_X12_thing) (pc := 89) (bc0 := 0) (bs0 := 0) (r := some (vi v4)) (M2 := M) (c0 := 12) (T_X12_holdersOf (some i1) l1 M v4 hv4) (Nat.le_of_ble_eq_true rfl) (Nat.le_of_ble_eq_true rfl) rfl g_cok12 ki1 yc_X12_holdersOf ⟨m_1453, m_1455, m_84, m_127, m_1456⟩ d_X12_thing_89 rfl (st := []) rfl (Nat.le_of_ble_eq_true rfl) (Nat.le_of_ble_eq_true rfl) (Nat.le_of_ble_eq_true rfl) (st2 := [vi v4]) rfl ?_
              replace h := Option.some.inj h
              subst h
              exact GW_ret (X := X_X12_thing) (pc := 92) d_X12_thing_92 rfl trivial
            · replace h := g_ip c h
              refine GW_aload_n (X := X_X12_thing) (pc := 78) d_X12_thing_78 rfl 0 rfl ?_
              refine GW_iload_n (X := X_X12_thing) (pc := 79) d_X12_thing_79 rfl 1 rfl ?_
              refine GW_iconst (X := X_X12_thing) (pc := 80) (v := 3) d_X12_thing_80 (by decide) ?_
              replace h := g_bd h
              obtain ⟨v5, hv5, h⟩ := h
              refine GW_callV (X := X_X12_thing) (pc := 81) (bc0 := 0) (bs0 := 0) (r := some (vi v5)) (M2 := M) (c0 := 12) (T_X12_thingOf (some i1) l1 (3 : Int32) M v5 hv5) (Nat.le_of_ble_eq_true rfl) (Nat.le_of_ble_eq_true rfl) rfl g_cok12 ki1 yc_X12_thingOf ⟨m_1428, m_1430, m_79, m_127, m_1431⟩ d_X12_thing_81 rfl (st := []) rfl (Nat.le_of_ble_eq_true rfl) (Nat.le_of_ble_eq_true rfl) (Nat.le_of_ble_eq_true rfl) (st2 := [vi v5]) rfl ?_
              refine GW_goto (X := X_X12_thing) (pc := 84) 92 d_X12_thing_84 (by decide) ?_
              replace h := Option.some.inj h
              subst h
              exact GW_ret (X := X_X12_thing) (pc := 92) d_X12_thing_92 rfl trivial
          · replace h := g_ip c h
            refine GW_aload_n (X := X_X12_thing) (pc := 59) d_X12_thing_59 rfl 0 rfl ?_
            replace h := g_bd h
            obtain ⟨v6, hv6, h⟩ := h
            refine GW_getR (X := X_X12_thing) (pc := 60) f_X12_39 d_X12_thing_60 hv6 (Or.inr ⟨_, ty_12_20⟩) ?_
            refine GW_bipush (X := X_X12_thing) (pc := 63) (v := 8) d_X12_thing_63 (by decide) ?_
            replace h := g_bd h
            obtain ⟨v7, hv7, h⟩ := h
            refine GW_iald (X := X_X12_thing) (pc := 65) d_X12_thing_65 hv7 ?_
            refine GW_iload_n (X := X_X12_thing) (pc := 66) d_X12_thing_66 rfl 1 rfl ?_
            refine GW_ishr (X := X_X12_thing) (pc := 67) d_X12_thing_67 ?_
            refine GW_iconst (X := X_X12_thing) (pc := 68) (v := 1) d_X12_thing_68 (by decide) ?_
            refine GW_iand (X := X_X12_thing) (pc := 69) d_X12_thing_69 ?_
            refine GW_goto (X := X_X12_thing) (pc := 70) 92 d_X12_thing_70 (by decide) ?_
            replace h := Option.some.inj h
            subst h
            exact GW_ret (X := X_X12_thing) (pc := 92) d_X12_thing_92 rfl trivial
        · replace h := g_ip c h
          refine GW_aload_n (X := X_X12_thing) (pc := 40) d_X12_thing_40 rfl 0 rfl ?_
          replace h := g_bd h
          obtain ⟨v8, hv8, h⟩ := h
          refine GW_getR (X := X_X12_thing) (pc := 41) f_X12_39 d_X12_thing_41 hv8 (Or.inr ⟨_, ty_12_20⟩) ?_
          refine GW_bipush (X := X_X12_thing) (pc := 44) (v := 7) d_X12_thing_44 (by decide) ?_
          replace h := g_bd h
          obtain ⟨v9, hv9, h⟩ := h
          refine GW_iald (X := X_X12_thing) (pc := 46) d_X12_thing_46 hv9 ?_
          refine GW_iload_n (X := X_X12_thing) (pc := 47) d_X12_thing_47 rfl 1 rfl ?_
          refine GW_ishr (X := X_X12_thing) (pc := 48) d_X12_thing_48 ?_
          refine GW_iconst (X := X_X12_thing) (pc := 49) (v := 1) d_X12_thing_49 (by decide) ?_
          refine GW_iand (X := X_X12_thing) (pc := 50) d_X12_thing_50 ?_
          refine GW_goto (X := X_X12_thing) (pc := 51) 92 d_X12_thing_51 (by decide) ?_
          replace h := Option.some.inj h
          subst h
          exact GW_ret (X := X_X12_thing) (pc := 92) d_X12_thing_92 rfl trivial
      · replace h := g_ie c h
        refine GW_aload_n (X := X_X12_thing) (pc := 28) d_X12_thing_28 rfl 0 rfl ?_
        refine GW_iload_n (X := X_X12_thing) (pc := 29) d_X12_thing_29 rfl 1 rfl ?_
        refine GW_iload_n (X := X_X12_thing) (pc := 30) d_X12_thing_30 rfl 2 rfl ?_
        replace h := g_bd h
        obtain ⟨v10, hv10, h⟩ := h
        refine GW_callV (X := X_X12_thing) (pc := 31) (bc0 := 0) (bs0 := 0) (r := some (vi v10)) (M2 := M) (c0 := 12) (T_X12_thingOf (some i1) l1 l2 M v10 hv10) (Nat.le_of_ble_eq_true rfl) (Nat.le_of_ble_eq_true rfl) rfl g_cok12 ki1 yc_X12_thingOf ⟨m_1428, m_1430, m_79, m_127, m_1431⟩ d_X12_thing_31 rfl (st := []) rfl (Nat.le_of_ble_eq_true rfl) (Nat.le_of_ble_eq_true rfl) (Nat.le_of_ble_eq_true rfl) (st2 := [vi v10]) rfl ?_
        replace h := Option.some.inj h
        subst h
        exact GW_ret (X := X_X12_thing) (pc := 34) d_X12_thing_34 rfl trivial
    · replace h := g_ip c h
      refine GW_sub [] rfl ?_
      exact T_X12_thing_b20 M r  h
def F_X12_thing (l0 : Option Nat) (l1 : Int32) (l2 : Int32) (M : gM) : Option Int32 := F_X12_thing_b0 M l0 l1 l2
theorem T_X12_thing (l0 : Option Nat) (l1 : Int32) (l2 : Int32) (M : gM) (r : Int32) (h : F_X12_thing l0 l1 l2 M = some r) : g_Met 4 0 0 yX12_thing X_X12_thing [vr l0, vi l1, vi l2] M (some (vi r), M) :=
  g_Met_of pn_RX12 rfl (Nat.le_of_ble_eq_true rfl) (fun h => by cases h) (GW_sub [0, 1, 2] rfl (T_X12_thing_b0 M r l0 l1 l2 h))
/-! ForgetHeirs.knows(III)I -/
theorem d_X11_knows_0 : decode cX11_knows 0 = .ok (.aload_n 0, 1) := by decide +kernel
theorem d_X11_knows_1 : decode cX11_knows 1 = .ok (.iload_n 1, 1) := by decide +kernel
theorem d_X11_knows_2 : decode cX11_knows 2 = .ok (.invokevirtual 127, 3) := by decide +kernel
theorem d_X11_knows_5 : decode cX11_knows 5 = .ok (.ifCond .eq 20, 3) := by decide +kernel
theorem d_X11_knows_8 : decode cX11_knows 8 = .ok (.aload_n 0, 1) := by decide +kernel
theorem d_X11_knows_9 : decode cX11_knows 9 = .ok (.iload_n 2, 1) := by decide +kernel
theorem d_X11_knows_10 : decode cX11_knows 10 = .ok (.invokevirtual 154, 3) := by decide +kernel
theorem d_X11_knows_13 : decode cX11_knows 13 = .ok (.ifCond .eq 12, 3) := by decide +kernel
theorem d_X11_knows_16 : decode cX11_knows 16 = .ok (.iload_n 3, 1) := by decide +kernel
theorem d_X11_knows_17 : decode cX11_knows 17 = .ok (.ifCond .lt 8, 3) := by decide +kernel
theorem d_X11_knows_20 : decode cX11_knows 20 = .ok (.iload_n 3, 1) := by decide +kernel
theorem d_X11_knows_21 : decode cX11_knows 21 = .ok (.iconst 1, 1) := by decide +kernel
theorem d_X11_knows_22 : decode cX11_knows 22 = .ok (.if_icmp .le 6, 3) := by decide +kernel
theorem d_X11_knows_25 : decode cX11_knows 25 = .ok (.bipush (-2), 2) := by decide +kernel
theorem d_X11_knows_27 : decode cX11_knows 27 = .ok (.ireturn, 1) := by decide +kernel
theorem d_X11_knows_28 : decode cX11_knows 28 = .ok (.iload_n 1, 1) := by decide +kernel
theorem d_X11_knows_29 : decode cX11_knows 29 = .ok (.bipush 7, 2) := by decide +kernel
theorem d_X11_knows_31 : decode cX11_knows 31 = .ok (.imul, 1) := by decide +kernel
theorem d_X11_knows_32 : decode cX11_knows 32 = .ok (.iload_n 2, 1) := by decide +kernel
theorem d_X11_knows_33 : decode cX11_knows 33 = .ok (.iadd, 1) := by decide +kernel
theorem d_X11_knows_34 : decode cX11_knows 34 = .ok (.istore 4, 2) := by decide +kernel
theorem d_X11_knows_36 : decode cX11_knows 36 = .ok (.aload_n 0, 1) := by decide +kernel
theorem d_X11_knows_37 : decode cX11_knows 37 = .ok (.getfield 25, 3) := by decide +kernel
theorem d_X11_knows_40 : decode cX11_knows 40 = .ok (.getfield 178, 3) := by decide +kernel
theorem d_X11_knows_43 : decode cX11_knows 43 = .ok (.iload 4, 2) := by decide +kernel
theorem d_X11_knows_45 : decode cX11_knows 45 = .ok (.iaload, 1) := by decide +kernel
theorem d_X11_knows_46 : decode cX11_knows 46 = .ok (.ifCond .ne 13, 3) := by decide +kernel
theorem d_X11_knows_49 : decode cX11_knows 49 = .ok (.iload_n 3, 1) := by decide +kernel
theorem d_X11_knows_50 : decode cX11_knows 50 = .ok (.ifCond .ne 7, 3) := by decide +kernel
theorem d_X11_knows_53 : decode cX11_knows 53 = .ok (.iconst (-1), 1) := by decide +kernel
theorem d_X11_knows_54 : decode cX11_knows 54 = .ok (.goto 4, 3) := by decide +kernel
theorem d_X11_knows_57 : decode cX11_knows 57 = .ok (.iconst 0, 1) := by decide +kernel
theorem d_X11_knows_58 : decode cX11_knows 58 = .ok (.ireturn, 1) := by decide +kernel
theorem d_X11_knows_59 : decode cX11_knows 59 = .ok (.iload_n 3, 1) := by decide +kernel
theorem d_X11_knows_60 : decode cX11_knows 60 = .ok (.ifCond .ne 16, 3) := by decide +kernel
theorem d_X11_knows_63 : decode cX11_knows 63 = .ok (.aload_n 0, 1) := by decide +kernel
theorem d_X11_knows_64 : decode cX11_knows 64 = .ok (.getfield 25, 3) := by decide +kernel
theorem d_X11_knows_67 : decode cX11_knows 67 = .ok (.getfield 181, 3) := by decide +kernel
theorem d_X11_knows_70 : decode cX11_knows 70 = .ok (.iload 4, 2) := by decide +kernel
theorem d_X11_knows_72 : decode cX11_knows 72 = .ok (.iaload, 1) := by decide +kernel
theorem d_X11_knows_73 : decode cX11_knows 73 = .ok (.goto 13, 3) := by decide +kernel
theorem d_X11_knows_76 : decode cX11_knows 76 = .ok (.aload_n 0, 1) := by decide +kernel
theorem d_X11_knows_77 : decode cX11_knows 77 = .ok (.getfield 25, 3) := by decide +kernel
theorem d_X11_knows_80 : decode cX11_knows 80 = .ok (.getfield 178, 3) := by decide +kernel
theorem d_X11_knows_83 : decode cX11_knows 83 = .ok (.iload 4, 2) := by decide +kernel
theorem d_X11_knows_85 : decode cX11_knows 85 = .ok (.iaload, 1) := by decide +kernel
theorem d_X11_knows_86 : decode cX11_knows 86 = .ok (.ireturn, 1) := by decide +kernel
abbrev X_X11_knows : gX := (RX11, cX11_knows, 5, (some .int), false)
def F_X11_knows_b25 (M : gM) : Option Int32 :=
  some (-2 : Int32)
theorem T_X11_knows_b25 (M : gM) (r : Int32) (h : F_X11_knows_b25 M = some r) : GW 1 0 0 X_X11_knows 25 [] [] M (some (vi r), M) := by
  delta F_X11_knows_b25 at h
  refine GW_bipush (X := X_X11_knows) (pc := 25) (v := -2) d_X11_knows_25 (by decide) ?_
  replace h := Option.some.inj h
  subst h
  exact GW_ret (X := X_X11_knows) (pc := 27) d_X11_knows_27 rfl trivial
def F_X11_knows_b0 (M : gM) (l0 : Option Nat) (l1 : Int32) (l2 : Int32) (l3 : Int32) : Option Int32 :=
  (gO 11 M l0).bind fun i1 => (F_X11_isHeir (some i1) l1 M).bind fun v2 => if v2 = 0 then (F_X11_knows_b25 M ) else ((F_X11_isThing (some i1) l2 M).bind fun v3 => if v3 = 0 then (F_X11_knows_b25 M ) else (if l3 < 0 then (F_X11_knows_b25 M ) else (if l3 ≤ (1 : Int32) then ((gR 11 M (some i1) 5).bind fun v4 => (gR 8 M v4 1).bind fun v5 => (aI 20 M v5 ((l1 * (7 : Int32)) + l2)).bind fun v6 => if v6 = 0 then (if l3 = 0 then (some (-1 : Int32)) else (some (0 : Int32))) else (if l3 = 0 then ((gR 11 M (some i1) 5).bind fun v10 => (gR 8 M v10 0).bind fun v11 => (aI 20 M v11 ((l1 * (7 : Int32)) + l2)).bind fun v12 => some v12) else ((gR 11 M (some i1) 5).bind fun v7 => (gR 8 M v7 1).bind fun v8 => (aI 20 M v8 ((l1 * (7 : Int32)) + l2)).bind fun v9 => some v9))) else (F_X11_knows_b25 M ))))
set_option maxHeartbeats 1000000 in
theorem T_X11_knows_b0 (M : gM) (r : Int32) (l0 : Option Nat) (l1 : Int32) (l2 : Int32) (l3 : Int32) (h : F_X11_knows_b0 M l0 l1 l2 l3 = some r) : GW 1 0 0 X_X11_knows 0 [(0, vr l0), (1, vi l1), (2, vi l2), (3, vi l3)] [] M (some (vi r), M) := by
  delta F_X11_knows_b0 at h
  refine GW_aload_n (X := X_X11_knows) (pc := 0) d_X11_knows_0 rfl 0 rfl ?_
  refine GW_iload_n (X := X_X11_knows) (pc := 1) d_X11_knows_1 rfl 1 rfl ?_
  replace h := g_bd h
  obtain ⟨i1, hi1, h⟩ := h
  obtain ⟨rfl, ki1⟩ := g_gO hi1
  replace h := g_bd h
  obtain ⟨v2, hv2, h⟩ := h
  refine GW_callV (X := X_X11_knows) (pc := 2) (bc0 := 0) (bs0 := 0) (r := some (vi v2)) (M2 := M) (c0 := 11) (T_X11_isHeir (some i1) l1 M v2 hv2) (Nat.le_of_ble_eq_true rfl) (Nat.le_of_ble_eq_true rfl) rfl g_cok11 ki1 yc_X11_isHeir ⟨m_768, m_770, m_20, m_116, m_771⟩ d_X11_knows_2 rfl (st := []) rfl (Nat.le_of_ble_eq_true rfl) (Nat.le_of_ble_eq_true rfl) (Nat.le_of_ble_eq_true rfl) (st2 := [vi v2]) rfl ?_
  refine GW_if_eq (X := X_X11_knows) (pc := 5) 25 d_X11_knows_5 (by decide) (fun c => ?_) (fun c => ?_)
  · replace h := g_ip c h
    refine GW_sub [] rfl ?_
    exact T_X11_knows_b25 M r  h
  · replace h := g_ie c h
    refine GW_aload_n (X := X_X11_knows) (pc := 8) d_X11_knows_8 rfl 0 rfl ?_
    refine GW_iload_n (X := X_X11_knows) (pc := 9) d_X11_knows_9 rfl 2 rfl ?_
    replace h := g_bd h
    obtain ⟨v3, hv3, h⟩ := h
    refine GW_callV (X := X_X11_knows) (pc := 10) (bc0 := 0) (bs0 := 0) (r := some (vi v3)) (M2 := M) (c0 := 11) (T_X11_isThing (some i1) l2 M v3 hv3) (Nat.le_of_ble_eq_true rfl) (Nat.le_of_ble_eq_true rfl) rfl g_cok11 ki1 yc_X11_isThing ⟨m_794, m_796, m_22, m_116, m_797⟩ d_X11_knows_10 rfl (st := []) rfl (Nat.le_of_ble_eq_true rfl) (Nat.le_of_ble_eq_true rfl) (Nat.le_of_ble_eq_true rfl) (st2 := [vi v3]) rfl ?_
    refine GW_if_eq (X := X_X11_knows) (pc := 13) 25 d_X11_knows_13 (by decide) (fun c => ?_) (fun c => ?_)
    · replace h := g_ip c h
      refine GW_sub [] rfl ?_
      exact T_X11_knows_b25 M r  h
    · replace h := g_ie c h
      refine GW_iload_n (X := X_X11_knows) (pc := 16) d_X11_knows_16 rfl 3 rfl ?_
      refine GW_if_lt (X := X_X11_knows) (pc := 17) 25 d_X11_knows_17 (by decide) (fun c => ?_) (fun c => ?_)
      · replace h := g_ip c h
        refine GW_sub [] rfl ?_
        exact T_X11_knows_b25 M r  h
      · replace h := g_ie c h
        refine GW_iload_n (X := X_X11_knows) (pc := 20) d_X11_knows_20 rfl 3 rfl ?_
        refine GW_iconst (X := X_X11_knows) (pc := 21) (v := 1) d_X11_knows_21 (by decide) ?_
        refine GW_icmp_le (X := X_X11_knows) (pc := 22) 28 d_X11_knows_22 (by decide) (fun c => ?_) (fun c => ?_)
        · replace h := g_ip c h
          refine GW_iload_n (X := X_X11_knows) (pc := 28) d_X11_knows_28 rfl 1 rfl ?_
          refine GW_bipush (X := X_X11_knows) (pc := 29) (v := 7) d_X11_knows_29 (by decide) ?_
          refine GW_imul (X := X_X11_knows) (pc := 31) d_X11_knows_31 ?_
          refine GW_iload_n (X := X_X11_knows) (pc := 32) d_X11_knows_32 rfl 2 rfl ?_
          refine GW_iadd (X := X_X11_knows) (pc := 33) d_X11_knows_33 ?_
          refine GW_istore (X := X_X11_knows) (pc := 34) d_X11_knows_34 (Nat.le_of_ble_eq_true rfl) (lv2 := [(4, vi ((l1 * (7 : Int32)) + l2)), (0, vr (some i1)), (1, vi l1), (2, vi l2), (3, vi l3)]) rfl ?_
          refine GW_aload_n (X := X_X11_knows) (pc := 36) d_X11_knows_36 rfl 1 rfl ?_
          replace h := g_bd h
          obtain ⟨v4, hv4, h⟩ := h
          refine GW_getR (X := X_X11_knows) (pc := 37) f_X11_25 d_X11_knows_37 hv4 (Or.inl ⟨_, ty_11_5⟩) ?_
          replace h := g_bd h
          obtain ⟨v5, hv5, h⟩ := h
          refine GW_getR (X := X_X11_knows) (pc := 40) f_X11_178 d_X11_knows_40 hv5 (Or.inr ⟨_, ty_8_1⟩) ?_
          refine GW_iload (X := X_X11_knows) (pc := 43) d_X11_knows_43 0 rfl ?_
          replace h := g_bd h
          obtain ⟨v6, hv6, h⟩ := h
          refine GW_iald (X := X_X11_knows) (pc := 45) d_X11_knows_45 hv6 ?_
          refine GW_if_ne (X := X_X11_knows) (pc := 46) 59 d_X11_knows_46 (by decide) (fun c => ?_) (fun c => ?_)
          · replace h := g_ie c h
            refine GW_iload_n (X := X_X11_knows) (pc := 59) d_X11_knows_59 rfl 4 rfl ?_
            refine GW_if_ne (X := X_X11_knows) (pc := 60) 76 d_X11_knows_60 (by decide) (fun c => ?_) (fun c => ?_)
            · replace h := g_ie c h
              refine GW_aload_n (X := X_X11_knows) (pc := 76) d_X11_knows_76 rfl 1 rfl ?_
              replace h := g_bd h
              obtain ⟨v7, hv7, h⟩ := h
              refine GW_getR (X := X_X11_knows) (pc := 77) f_X11_25 d_X11_knows_77 hv7 (Or.inl ⟨_, ty_11_5⟩) ?_
              replace h := g_bd h
              obtain ⟨v8, hv8, h⟩ := h
              refine GW_getR (X := X_X11_knows) (pc := 80) f_X11_178 d_X11_knows_80 hv8 (Or.inr ⟨_, ty_8_1⟩) ?_
              refine GW_iload (X := X_X11_knows) (pc := 83) d_X11_knows_83 0 rfl ?_
              replace h := g_bd h
              obtain ⟨v9, hv9, h⟩ := h
              refine GW_iald (X := X_X11_knows) (pc := 85) d_X11_knows_85 hv9 ?_
              replace h := Option.some.inj h
              subst h
              exact GW_ret (X := X_X11_knows) (pc := 86) d_X11_knows_86 rfl trivial
            · replace h := g_ip c h
              refine GW_aload_n (X := X_X11_knows) (pc := 63) d_X11_knows_63 rfl 1 rfl ?_
              replace h := g_bd h
              obtain ⟨v10, hv10, h⟩ := h
              refine GW_getR (X := X_X11_knows) (pc := 64) f_X11_25 d_X11_knows_64 hv10 (Or.inl ⟨_, ty_11_5⟩) ?_
              replace h := g_bd h
              obtain ⟨v11, hv11, h⟩ := h
              refine GW_getR (X := X_X11_knows) (pc := 67) f_X11_181 d_X11_knows_67 hv11 (Or.inr ⟨_, ty_8_0⟩) ?_
              refine GW_iload (X := X_X11_knows) (pc := 70) d_X11_knows_70 0 rfl ?_
              replace h := g_bd h
              obtain ⟨v12, hv12, h⟩ := h
              refine GW_iald (X := X_X11_knows) (pc := 72) d_X11_knows_72 hv12 ?_
              refine GW_goto (X := X_X11_knows) (pc := 73) 86 d_X11_knows_73 (by decide) ?_
              replace h := Option.some.inj h
              subst h
              exact GW_ret (X := X_X11_knows) (pc := 86) d_X11_knows_86 rfl trivial
          · replace h := g_ip c h
            refine GW_iload_n (X := X_X11_knows) (pc := 49) d_X11_knows_49 rfl 4 rfl ?_
            refine GW_if_ne (X := X_X11_knows) (pc := 50) 57 d_X11_knows_50 (by decide) (fun c => ?_) (fun c => ?_)
            · replace h := g_ie c h
              refine GW_iconst (X := X_X11_knows) (pc := 57) (v := 0) d_X11_knows_57 (by decide) ?_
              replace h := Option.some.inj h
              subst h
              exact GW_ret (X := X_X11_knows) (pc := 58) d_X11_knows_58 rfl trivial
            · replace h := g_ip c h
              refine GW_iconst (X := X_X11_knows) (pc := 53) (v := -1) d_X11_knows_53 (by decide) ?_
              refine GW_goto (X := X_X11_knows) (pc := 54) 58 d_X11_knows_54 (by decide) ?_
              replace h := Option.some.inj h
              subst h
              exact GW_ret (X := X_X11_knows) (pc := 58) d_X11_knows_58 rfl trivial
        · replace h := g_ie c h
          refine GW_sub [] rfl ?_
          exact T_X11_knows_b25 M r  h
def F_X11_knows (l0 : Option Nat) (l1 : Int32) (l2 : Int32) (l3 : Int32) (M : gM) : Option Int32 := F_X11_knows_b0 M l0 l1 l2 l3
theorem T_X11_knows (l0 : Option Nat) (l1 : Int32) (l2 : Int32) (l3 : Int32) (M : gM) (r : Int32) (h : F_X11_knows l0 l1 l2 l3 M = some r) : g_Met 1 0 0 yX11_knows X_X11_knows [vr l0, vi l1, vi l2, vi l3] M (some (vi r), M) :=
  g_Met_of pn_RX11 rfl (Nat.le_of_ble_eq_true rfl) (fun h => by cases h) (GW_sub [0, 1, 2, 3] rfl (T_X11_knows_b0 M r l0 l1 l2 l3 h))
/-! ForgetHeirsModel.knows(III)I -/
theorem d_X12_knows_0 : decode cX12_knows 0 = .ok (.aload_n 0, 1) := by decide +kernel
theorem d_X12_knows_1 : decode cX12_knows 1 = .ok (.iload_n 1, 1) := by decide +kernel
theorem d_X12_knows_2 : decode cX12_knows 2 = .ok (.invokevirtual 322, 3) := by decide +kernel
theorem d_X12_knows_5 : decode cX12_knows 5 = .ok (.ifCond .eq 42, 3) := by decide +kernel
theorem d_X12_knows_8 : decode cX12_knows 8 = .ok (.aload_n 0, 1) := by decide +kernel
theorem d_X12_knows_9 : decode cX12_knows 9 = .ok (.iload_n 2, 1) := by decide +kernel
theorem d_X12_knows_10 : decode cX12_knows 10 = .ok (.invokevirtual 327, 3) := by decide +kernel
theorem d_X12_knows_13 : decode cX12_knows 13 = .ok (.ifCond .eq 34, 3) := by decide +kernel
theorem d_X12_knows_16 : decode cX12_knows 16 = .ok (.iload_n 3, 1) := by decide +kernel
theorem d_X12_knows_17 : decode cX12_knows 17 = .ok (.i2l, 1) := by decide +kernel
theorem d_X12_knows_18 : decode cX12_knows 18 = .ok (.lconst 0, 1) := by decide +kernel
theorem d_X12_knows_19 : decode cX12_knows 19 = .ok (.lconst 1, 1) := by decide +kernel
theorem d_X12_knows_20 : decode cX12_knows 20 = .ok (.invokestatic 118, 3) := by decide +kernel
theorem d_X12_knows_23 : decode cX12_knows 23 = .ok (.ifCond .eq 24, 3) := by decide +kernel
theorem d_X12_knows_26 : decode cX12_knows 26 = .ok (.aload_n 0, 1) := by decide +kernel
theorem d_X12_knows_27 : decode cX12_knows 27 = .ok (.getfield 39, 3) := by decide +kernel
theorem d_X12_knows_30 : decode cX12_knows 30 = .ok (.bipush 59, 2) := by decide +kernel
theorem d_X12_knows_32 : decode cX12_knows 32 = .ok (.bipush 14, 2) := by decide +kernel
theorem d_X12_knows_34 : decode cX12_knows 34 = .ok (.iload_n 1, 1) := by decide +kernel
theorem d_X12_knows_35 : decode cX12_knows 35 = .ok (.imul, 1) := by decide +kernel
theorem d_X12_knows_36 : decode cX12_knows 36 = .ok (.iadd, 1) := by decide +kernel
theorem d_X12_knows_37 : decode cX12_knows 37 = .ok (.iconst 2, 1) := by decide +kernel
theorem d_X12_knows_38 : decode cX12_knows 38 = .ok (.iload_n 2, 1) := by decide +kernel
theorem d_X12_knows_39 : decode cX12_knows 39 = .ok (.imul, 1) := by decide +kernel
theorem d_X12_knows_40 : decode cX12_knows 40 = .ok (.iadd, 1) := by decide +kernel
theorem d_X12_knows_41 : decode cX12_knows 41 = .ok (.iload_n 3, 1) := by decide +kernel
theorem d_X12_knows_42 : decode cX12_knows 42 = .ok (.iadd, 1) := by decide +kernel
theorem d_X12_knows_43 : decode cX12_knows 43 = .ok (.iaload, 1) := by decide +kernel
theorem d_X12_knows_44 : decode cX12_knows 44 = .ok (.goto 5, 3) := by decide +kernel
theorem d_X12_knows_47 : decode cX12_knows 47 = .ok (.bipush (-2), 2) := by decide +kernel
theorem d_X12_knows_49 : decode cX12_knows 49 = .ok (.ireturn, 1) := by decide +kernel
abbrev X_X12_knows : gX := (RX12, cX12_knows, 4, (some .int), false)
def F_X12_knows_b47 (M : gM) : Option Int32 :=
  some (-2 : Int32)
theorem T_X12_knows_b47 (M : gM) (r : Int32) (h : F_X12_knows_b47 M = some r) : GW 1 0 0 X_X12_knows 47 [] [] M (some (vi r), M) := by
  delta F_X12_knows_b47 at h
  refine GW_bipush (X := X_X12_knows) (pc := 47) (v := -2) d_X12_knows_47 (by decide) ?_
  replace h := Option.some.inj h
  subst h
  exact GW_ret (X := X_X12_knows) (pc := 49) d_X12_knows_49 rfl trivial
def F_X12_knows_b0 (M : gM) (l0 : Option Nat) (l1 : Int32) (l2 : Int32) (l3 : Int32) : Option Int32 :=
  (gO 12 M l0).bind fun i1 => (F_X12_isHeir (some i1) l1 M).bind fun v2 => if v2 = 0 then (F_X12_knows_b47 M ) else ((F_X12_isThing (some i1) l2 M).bind fun v3 => if v3 = 0 then (F_X12_knows_b47 M ) else ((F_X12_in (l3).toInt64 (0 : Int64) (1 : Int64) M).bind fun v4 => if v4 = 0 then (F_X12_knows_b47 M ) else ((gR 12 M (some i1) 20).bind fun v5 => (aI 20 M v5 ((((59 : Int32) + ((14 : Int32) * l1)) + ((2 : Int32) * l2)) + l3)).bind fun v6 => some v6)))
set_option maxHeartbeats 1000000 in
theorem T_X12_knows_b0 (M : gM) (r : Int32) (l0 : Option Nat) (l1 : Int32) (l2 : Int32) (l3 : Int32) (h : F_X12_knows_b0 M l0 l1 l2 l3 = some r) : GW 1 0 0 X_X12_knows 0 [(0, vr l0), (1, vi l1), (2, vi l2), (3, vi l3)] [] M (some (vi r), M) := by
  delta F_X12_knows_b0 at h
  refine GW_aload_n (X := X_X12_knows) (pc := 0) d_X12_knows_0 rfl 0 rfl ?_
  refine GW_iload_n (X := X_X12_knows) (pc := 1) d_X12_knows_1 rfl 1 rfl ?_
  replace h := g_bd h
  obtain ⟨i1, hi1, h⟩ := h
  obtain ⟨rfl, ki1⟩ := g_gO hi1
  replace h := g_bd h
  obtain ⟨v2, hv2, h⟩ := h
  refine GW_callV (X := X_X12_knows) (pc := 2) (bc0 := 0) (bs0 := 0) (r := some (vi v2)) (M2 := M) (c0 := 12) (T_X12_isHeir (some i1) l1 M v2 hv2) (Nat.le_of_ble_eq_true rfl) (Nat.le_of_ble_eq_true rfl) rfl g_cok12 ki1 yc_X12_isHeir ⟨m_1415, m_1417, m_76, m_127, m_1418⟩ d_X12_knows_2 rfl (st := []) rfl (Nat.le_of_ble_eq_true rfl) (Nat.le_of_ble_eq_true rfl) (Nat.le_of_ble_eq_true rfl) (st2 := [vi v2]) rfl ?_
  refine GW_if_eq (X := X_X12_knows) (pc := 5) 47 d_X12_knows_5 (by decide) (fun c => ?_) (fun c => ?_)
  · replace h := g_ip c h
    refine GW_sub [] rfl ?_
    exact T_X12_knows_b47 M r  h
  · replace h := g_ie c h
    refine GW_aload_n (X := X_X12_knows) (pc := 8) d_X12_knows_8 rfl 0 rfl ?_
    refine GW_iload_n (X := X_X12_knows) (pc := 9) d_X12_knows_9 rfl 2 rfl ?_
    replace h := g_bd h
    obtain ⟨v3, hv3, h⟩ := h
    refine GW_callV (X := X_X12_knows) (pc := 10) (bc0 := 0) (bs0 := 0) (r := some (vi v3)) (M2 := M) (c0 := 12) (T_X12_isThing (some i1) l2 M v3 hv3) (Nat.le_of_ble_eq_true rfl) (Nat.le_of_ble_eq_true rfl) rfl g_cok12 ki1 yc_X12_isThing ⟨m_1448, m_1450, m_83, m_127, m_1451⟩ d_X12_knows_10 rfl (st := []) rfl (Nat.le_of_ble_eq_true rfl) (Nat.le_of_ble_eq_true rfl) (Nat.le_of_ble_eq_true rfl) (st2 := [vi v3]) rfl ?_
    refine GW_if_eq (X := X_X12_knows) (pc := 13) 47 d_X12_knows_13 (by decide) (fun c => ?_) (fun c => ?_)
    · replace h := g_ip c h
      refine GW_sub [] rfl ?_
      exact T_X12_knows_b47 M r  h
    · replace h := g_ie c h
      refine GW_iload_n (X := X_X12_knows) (pc := 16) d_X12_knows_16 rfl 3 rfl ?_
      refine GW_i2l (X := X_X12_knows) (pc := 17) d_X12_knows_17 ?_
      refine GW_lconst (X := X_X12_knows) (pc := 18) (v := 0) d_X12_knows_18 (by decide) ?_
      refine GW_lconst (X := X_X12_knows) (pc := 19) (v := 1) d_X12_knows_19 (by decide) ?_
      replace h := g_bd h
      obtain ⟨v4, hv4, h⟩ := h
      refine GW_callS (X := X_X12_knows) (pc := 20) (bc0 := 0) (bs0 := 0) (r := some (vi v4)) (M2 := M) (T_X12_in (l3).toInt64 (0 : Int64) (1 : Int64) M v4 hv4) (Nat.le_of_ble_eq_true rfl) (Nat.le_of_ble_eq_true rfl) yc_X12_in ⟨m_1291, m_1292, m_127, m_1293⟩ d_X12_knows_20 rfl (st := []) rfl (Nat.le_of_ble_eq_true rfl) (Nat.le_of_ble_eq_true rfl) (Nat.le_of_ble_eq_true rfl) (st2 := [vi v4]) rfl ?_
      refine GW_if_eq (X := X_X12_knows) (pc := 23) 47 d_X12_knows_23 (by decide) (fun c => ?_) (fun c => ?_)
      · replace h := g_ip c h
        refine GW_sub [] rfl ?_
        exact T_X12_knows_b47 M r  h
      · replace h := g_ie c h
        refine GW_aload_n (X := X_X12_knows) (pc := 26) d_X12_knows_26 rfl 0 rfl ?_
        replace h := g_bd h
        obtain ⟨v5, hv5, h⟩ := h
        refine GW_getR (X := X_X12_knows) (pc := 27) f_X12_39 d_X12_knows_27 hv5 (Or.inr ⟨_, ty_12_20⟩) ?_
        refine GW_bipush (X := X_X12_knows) (pc := 30) (v := 59) d_X12_knows_30 (by decide) ?_
        refine GW_bipush (X := X_X12_knows) (pc := 32) (v := 14) d_X12_knows_32 (by decide) ?_
        refine GW_iload_n (X := X_X12_knows) (pc := 34) d_X12_knows_34 rfl 1 rfl ?_
        refine GW_imul (X := X_X12_knows) (pc := 35) d_X12_knows_35 ?_
        refine GW_iadd (X := X_X12_knows) (pc := 36) d_X12_knows_36 ?_
        refine GW_iconst (X := X_X12_knows) (pc := 37) (v := 2) d_X12_knows_37 (by decide) ?_
        refine GW_iload_n (X := X_X12_knows) (pc := 38) d_X12_knows_38 rfl 2 rfl ?_
        refine GW_imul (X := X_X12_knows) (pc := 39) d_X12_knows_39 ?_
        refine GW_iadd (X := X_X12_knows) (pc := 40) d_X12_knows_40 ?_
        refine GW_iload_n (X := X_X12_knows) (pc := 41) d_X12_knows_41 rfl 3 rfl ?_
        refine GW_iadd (X := X_X12_knows) (pc := 42) d_X12_knows_42 ?_
        replace h := g_bd h
        obtain ⟨v6, hv6, h⟩ := h
        refine GW_iald (X := X_X12_knows) (pc := 43) d_X12_knows_43 hv6 ?_
        refine GW_goto (X := X_X12_knows) (pc := 44) 49 d_X12_knows_44 (by decide) ?_
        replace h := Option.some.inj h
        subst h
        exact GW_ret (X := X_X12_knows) (pc := 49) d_X12_knows_49 rfl trivial
def F_X12_knows (l0 : Option Nat) (l1 : Int32) (l2 : Int32) (l3 : Int32) (M : gM) : Option Int32 := F_X12_knows_b0 M l0 l1 l2 l3
theorem T_X12_knows (l0 : Option Nat) (l1 : Int32) (l2 : Int32) (l3 : Int32) (M : gM) (r : Int32) (h : F_X12_knows l0 l1 l2 l3 M = some r) : g_Met 1 0 0 yX12_knows X_X12_knows [vr l0, vi l1, vi l2, vi l3] M (some (vi r), M) :=
  g_Met_of pn_RX12 rfl (Nat.le_of_ble_eq_true rfl) (fun h => by cases h) (GW_sub [0, 1, 2, 3] rfl (T_X12_knows_b0 M r l0 l1 l2 l3 h))
/-! ForgetHeirs$Past.keep(LForgetHeirs$State;)V -/
theorem d_X4_keep_0 : decode cX4_keep 0 = .ok (.aload_n 0, 1) := by decide +kernel
theorem d_X4_keep_1 : decode cX4_keep 1 = .ok (.getfield 11, 3) := by decide +kernel
theorem d_X4_keep_4 : decode cX4_keep 4 = .ok (.aload_n 0, 1) := by decide +kernel
theorem d_X4_keep_5 : decode cX4_keep 5 = .ok (.getfield 15, 3) := by decide +kernel
theorem d_X4_keep_8 : decode cX4_keep 8 = .ok (.aaload, 1) := by decide +kernel
theorem d_X4_keep_9 : decode cX4_keep 9 = .ok (.aload_n 1, 1) := by decide +kernel
theorem d_X4_keep_10 : decode cX4_keep 10 = .ok (.invokevirtual 23, 3) := by decide +kernel
theorem d_X4_keep_13 : decode cX4_keep 13 = .ok (.aload_n 0, 1) := by decide +kernel
theorem d_X4_keep_14 : decode cX4_keep 14 = .ok (.aload_n 0, 1) := by decide +kernel
theorem d_X4_keep_15 : decode cX4_keep 15 = .ok (.getfield 15, 3) := by decide +kernel
theorem d_X4_keep_18 : decode cX4_keep 18 = .ok (.iconst 1, 1) := by decide +kernel
theorem d_X4_keep_19 : decode cX4_keep 19 = .ok (.iadd, 1) := by decide +kernel
theorem d_X4_keep_20 : decode cX4_keep 20 = .ok (.bipush 20, 2) := by decide +kernel
theorem d_X4_keep_22 : decode cX4_keep 22 = .ok (.irem, 1) := by decide +kernel
theorem d_X4_keep_23 : decode cX4_keep 23 = .ok (.putfield 15, 3) := by decide +kernel
theorem d_X4_keep_26 : decode cX4_keep 26 = .ok (.aload_n 0, 1) := by decide +kernel
theorem d_X4_keep_27 : decode cX4_keep 27 = .ok (.bipush 20, 2) := by decide +kernel
theorem d_X4_keep_29 : decode cX4_keep 29 = .ok (.aload_n 0, 1) := by decide +kernel
theorem d_X4_keep_30 : decode cX4_keep 30 = .ok (.getfield 19, 3) := by decide +kernel
theorem d_X4_keep_33 : decode cX4_keep 33 = .ok (.iconst 1, 1) := by decide +kernel
theorem d_X4_keep_34 : decode cX4_keep 34 = .ok (.iadd, 1) := by decide +kernel
theorem d_X4_keep_35 : decode cX4_keep 35 = .ok (.invokestatic 27, 3) := by decide +kernel
theorem d_X4_keep_38 : decode cX4_keep 38 = .ok (.putfield 19, 3) := by decide +kernel
theorem d_X4_keep_41 : decode cX4_keep 41 = .ok (.return_, 1) := by decide +kernel
abbrev X_X4_keep : gX := (RX4, cX4_keep, 2, none, false)
def F_X4_keep_b0 (l0 : Option Nat) (l1 : Option Nat) (M : gM) : Option gM :=
  (gR 4 M l0 0).bind fun v1 => (gI 4 M l0 1).bind fun v2 => (aR 24 M v1 v2).bind fun v3 => (gO 8 M v3).bind fun i4 => (F_X8_copy (some i4) l1 M).bind fun M5 => (gI 4 M5 l0 1).bind fun v6 => (pI 4 M5 l0 1 ((v6 + (1 : Int32)) - (v6 + (1 : Int32)) / (20 : Int32) * (20 : Int32))).bind fun M7 => (gI 4 M7 l0 2).bind fun v8 => (pI 4 M7 l0 2 (if (v8 + (1 : Int32)) < (20 : Int32) then (v8 + (1 : Int32)) else (20 : Int32))).bind fun M9 => some M9
set_option maxHeartbeats 1000000 in
theorem T_X4_keep_b0 (r : gM) (l0 : Option Nat) (l1 : Option Nat) (M : gM) (h : F_X4_keep_b0 l0 l1 M = some r) : GW 2 0 0 X_X4_keep 0 [(0, vr l0), (1, vr l1)] [] M (none, r) := by
  delta F_X4_keep_b0 at h
  refine GW_aload_n (X := X_X4_keep) (pc := 0) d_X4_keep_0 rfl 0 rfl ?_
  replace h := g_bd h
  obtain ⟨v1, hv1, h⟩ := h
  refine GW_getR (X := X_X4_keep) (pc := 1) f_X4_11 d_X4_keep_1 hv1 (Or.inr ⟨_, ty_4_0⟩) ?_
  refine GW_aload_n (X := X_X4_keep) (pc := 4) d_X4_keep_4 rfl 0 rfl ?_
  replace h := g_bd h
  obtain ⟨v2, hv2, h⟩ := h
  refine GW_getI (X := X_X4_keep) (pc := 5) f_X4_15 d_X4_keep_5 hv2 (Or.inl ty_4_1) ?_
  replace h := g_bd h
  obtain ⟨v3, hv3, h⟩ := h
  refine GW_aald (X := X_X4_keep) (pc := 8) (t := 24) (by decide) d_X4_keep_8 hv3 ?_
  refine GW_aload_n (X := X_X4_keep) (pc := 9) d_X4_keep_9 rfl 1 rfl ?_
  replace h := g_bd h
  obtain ⟨i4, hi4, h⟩ := h
  obtain ⟨rfl, ki4⟩ := g_gO hi4
  replace h := g_bd h
  obtain ⟨M5, hM5, h⟩ := h
  refine GW_callV (X := X_X4_keep) (pc := 10) (bc0 := 0) (bs0 := 0) (r := none) (M2 := M5) (c0 := 8) (T_X8_copy (some i4) l1 M M5 hM5) (Nat.le_of_ble_eq_true rfl) (Nat.le_of_ble_eq_true rfl) rfl g_cok8 ki4 yc_X8_copy ⟨m_829, m_665, m_666, m_119, m_667⟩ d_X4_keep_10 rfl (st := []) rfl (Nat.le_of_ble_eq_true rfl) (Nat.le_of_ble_eq_true rfl) (Nat.le_of_ble_eq_true rfl) (st2 := []) rfl ?_
  refine GW_aload_n (X := X_X4_keep) (pc := 13) d_X4_keep_13 rfl 0 rfl ?_
  refine GW_aload_n (X := X_X4_keep) (pc := 14) d_X4_keep_14 rfl 0 rfl ?_
  replace h := g_bd h
  obtain ⟨v6, hv6, h⟩ := h
  refine GW_getI (X := X_X4_keep) (pc := 15) f_X4_15 d_X4_keep_15 hv6 (Or.inl ty_4_1) ?_
  refine GW_iconst (X := X_X4_keep) (pc := 18) (v := 1) d_X4_keep_18 (by decide) ?_
  refine GW_iadd (X := X_X4_keep) (pc := 19) d_X4_keep_19 ?_
  refine GW_bipush (X := X_X4_keep) (pc := 20) (v := 20) d_X4_keep_20 (by decide) ?_
  refine GW_irem (X := X_X4_keep) (pc := 22) d_X4_keep_22 (by decide) ?_
  replace h := g_bd h
  obtain ⟨M7, hM7, h⟩ := h
  refine GW_putI (X := X_X4_keep) (pc := 23) f_X4_15 d_X4_keep_23 hM7 (Or.inl fi_4_1) (Or.inl ty_4_1) ?_
  refine GW_aload_n (X := X_X4_keep) (pc := 26) d_X4_keep_26 rfl 0 rfl ?_
  refine GW_bipush (X := X_X4_keep) (pc := 27) (v := 20) d_X4_keep_27 (by decide) ?_
  refine GW_aload_n (X := X_X4_keep) (pc := 29) d_X4_keep_29 rfl 0 rfl ?_
  replace h := g_bd h
  obtain ⟨v8, hv8, h⟩ := h
  refine GW_getI (X := X_X4_keep) (pc := 30) f_X4_19 d_X4_keep_30 hv8 (Or.inl ty_4_2) ?_
  refine GW_iconst (X := X_X4_keep) (pc := 33) (v := 1) d_X4_keep_33 (by decide) ?_
  refine GW_iadd (X := X_X4_keep) (pc := 34) d_X4_keep_34 ?_
  refine GW_mmin (X := X_X4_keep) (pc := 35) m_830 d_X4_keep_35 (Nat.le_of_ble_eq_true rfl) (Nat.le_of_ble_eq_true rfl) ?_
  replace h := g_bd h
  obtain ⟨M9, hM9, h⟩ := h
  refine GW_putI (X := X_X4_keep) (pc := 38) f_X4_19 d_X4_keep_38 hM9 (Or.inl fi_4_2) (Or.inl ty_4_2) ?_
  replace h := Option.some.inj h
  subst h
  exact GW_ret (X := X_X4_keep) (pc := 41) d_X4_keep_41 rfl trivial
def F_X4_keep (l0 : Option Nat) (l1 : Option Nat) (M : gM) : Option gM := F_X4_keep_b0 l0 l1 M
theorem T_X4_keep (l0 : Option Nat) (l1 : Option Nat) (M : gM) (r : gM) (h : F_X4_keep l0 l1 M = some r) : g_Met 2 0 0 yX4_keep X_X4_keep [vr l0, vr l1] M (none, r) :=
  g_Met_of pn_RX4 rfl (Nat.le_of_ble_eq_true rfl) (fun h => by cases h) (GW_sub [0, 1] rfl (T_X4_keep_b0 r l0 l1 M h))
/-! ForgetHeirs.ruleInForce()LForgetHeirs$Rule; -/
theorem d_X11_ruleInForce_0 : decode cX11_ruleInForce 0 = .ok (.aload_n 0, 1) := by decide +kernel
theorem d_X11_ruleInForce_1 : decode cX11_ruleInForce 1 = .ok (.getfield 67, 3) := by decide +kernel
theorem d_X11_ruleInForce_4 : decode cX11_ruleInForce 4 = .ok (.ifCond .lt 26, 3) := by decide +kernel
theorem d_X11_ruleInForce_7 : decode cX11_ruleInForce 7 = .ok (.aload_n 0, 1) := by decide +kernel
theorem d_X11_ruleInForce_8 : decode cX11_ruleInForce 8 = .ok (.getfield 67, 3) := by decide +kernel
theorem d_X11_ruleInForce_11 : decode cX11_ruleInForce 11 = .ok (.aload_n 0, 1) := by decide +kernel
theorem d_X11_ruleInForce_12 : decode cX11_ruleInForce 12 = .ok (.getfield 63, 3) := by decide +kernel
theorem d_X11_ruleInForce_15 : decode cX11_ruleInForce 15 = .ok (.if_icmp .ge 15, 3) := by decide +kernel
theorem d_X11_ruleInForce_18 : decode cX11_ruleInForce 18 = .ok (.aload_n 0, 1) := by decide +kernel
theorem d_X11_ruleInForce_19 : decode cX11_ruleInForce 19 = .ok (.getfield 11, 3) := by decide +kernel
theorem d_X11_ruleInForce_22 : decode cX11_ruleInForce 22 = .ok (.aload_n 0, 1) := by decide +kernel
theorem d_X11_ruleInForce_23 : decode cX11_ruleInForce 23 = .ok (.getfield 67, 3) := by decide +kernel
theorem d_X11_ruleInForce_26 : decode cX11_ruleInForce 26 = .ok (.aaload, 1) := by decide +kernel
theorem d_X11_ruleInForce_27 : decode cX11_ruleInForce 27 = .ok (.goto 4, 3) := by decide +kernel
theorem d_X11_ruleInForce_30 : decode cX11_ruleInForce 30 = .ok (.aconst_null, 1) := by decide +kernel
theorem d_X11_ruleInForce_31 : decode cX11_ruleInForce 31 = .ok (.areturn, 1) := by decide +kernel
abbrev X_X11_ruleInForce : gX := (RX11, cX11_ruleInForce, 1, (some (.object "ForgetHeirs$Rule")), false)
def F_X11_ruleInForce_b30 (M : gM) : Option (Option Nat) :=
  some none
theorem T_X11_ruleInForce_b30 (M : gM) (r : (Option Nat)) (h : F_X11_ruleInForce_b30 M = some r) : GW 0 0 0 X_X11_ruleInForce 30 [] [] M (some (vr r), M) := by
  delta F_X11_ruleInForce_b30 at h
  refine GW_null (X := X_X11_ruleInForce) (pc := 30) d_X11_ruleInForce_30 ?_
  replace h := Option.some.inj h
  subst h
  exact GW_ret (X := X_X11_ruleInForce) (pc := 31) d_X11_ruleInForce_31 rfl trivial
def F_X11_ruleInForce_b0 (M : gM) (l0 : Option Nat) : Option (Option Nat) :=
  (gI 11 M l0 13).bind fun v1 => if v1 < 0 then (F_X11_ruleInForce_b30 M ) else ((gI 11 M l0 13).bind fun v2 => (gI 11 M l0 12).bind fun v3 => if v3 ≤ v2 then (F_X11_ruleInForce_b30 M ) else ((gR 11 M l0 3).bind fun v4 => (gI 11 M l0 13).bind fun v5 => (aR 25 M v4 v5).bind fun v6 => some v6))
theorem T_X11_ruleInForce_b0 (M : gM) (r : (Option Nat)) (l0 : Option Nat) (h : F_X11_ruleInForce_b0 M l0 = some r) : GW 0 0 0 X_X11_ruleInForce 0 [(0, vr l0)] [] M (some (vr r), M) := by
  delta F_X11_ruleInForce_b0 at h
  refine GW_aload_n (X := X_X11_ruleInForce) (pc := 0) d_X11_ruleInForce_0 rfl 0 rfl ?_
  replace h := g_bd h
  obtain ⟨v1, hv1, h⟩ := h
  refine GW_getI (X := X_X11_ruleInForce) (pc := 1) f_X11_67 d_X11_ruleInForce_1 hv1 (Or.inl ty_11_13) ?_
  refine GW_if_lt (X := X_X11_ruleInForce) (pc := 4) 30 d_X11_ruleInForce_4 (by decide) (fun c => ?_) (fun c => ?_)
  · replace h := g_ip c h
    refine GW_sub [] rfl ?_
    exact T_X11_ruleInForce_b30 M r  h
  · replace h := g_ie c h
    refine GW_aload_n (X := X_X11_ruleInForce) (pc := 7) d_X11_ruleInForce_7 rfl 0 rfl ?_
    replace h := g_bd h
    obtain ⟨v2, hv2, h⟩ := h
    refine GW_getI (X := X_X11_ruleInForce) (pc := 8) f_X11_67 d_X11_ruleInForce_8 hv2 (Or.inl ty_11_13) ?_
    refine GW_aload_n (X := X_X11_ruleInForce) (pc := 11) d_X11_ruleInForce_11 rfl 0 rfl ?_
    replace h := g_bd h
    obtain ⟨v3, hv3, h⟩ := h
    refine GW_getI (X := X_X11_ruleInForce) (pc := 12) f_X11_63 d_X11_ruleInForce_12 hv3 (Or.inl ty_11_12) ?_
    refine GW_icmp_ge (X := X_X11_ruleInForce) (pc := 15) 30 d_X11_ruleInForce_15 (by decide) (fun c => ?_) (fun c => ?_)
    · replace h := g_ip c h
      refine GW_sub [] rfl ?_
      exact T_X11_ruleInForce_b30 M r  h
    · replace h := g_ie c h
      refine GW_aload_n (X := X_X11_ruleInForce) (pc := 18) d_X11_ruleInForce_18 rfl 0 rfl ?_
      replace h := g_bd h
      obtain ⟨v4, hv4, h⟩ := h
      refine GW_getR (X := X_X11_ruleInForce) (pc := 19) f_X11_11 d_X11_ruleInForce_19 hv4 (Or.inr ⟨_, ty_11_3⟩) ?_
      refine GW_aload_n (X := X_X11_ruleInForce) (pc := 22) d_X11_ruleInForce_22 rfl 0 rfl ?_
      replace h := g_bd h
      obtain ⟨v5, hv5, h⟩ := h
      refine GW_getI (X := X_X11_ruleInForce) (pc := 23) f_X11_67 d_X11_ruleInForce_23 hv5 (Or.inl ty_11_13) ?_
      replace h := g_bd h
      obtain ⟨v6, hv6, h⟩ := h
      refine GW_aald (X := X_X11_ruleInForce) (pc := 26) (t := 25) (by decide) d_X11_ruleInForce_26 hv6 ?_
      refine GW_goto (X := X_X11_ruleInForce) (pc := 27) 31 d_X11_ruleInForce_27 (by decide) ?_
      replace h := Option.some.inj h
      subst h
      exact GW_ret (X := X_X11_ruleInForce) (pc := 31) d_X11_ruleInForce_31 rfl trivial
def F_X11_ruleInForce (l0 : Option Nat) (M : gM) : Option (Option Nat) := F_X11_ruleInForce_b0 M l0
theorem T_X11_ruleInForce (l0 : Option Nat) (M : gM) (r : (Option Nat)) (h : F_X11_ruleInForce l0 M = some r) : g_Met 0 0 0 yX11_ruleInForce X_X11_ruleInForce [vr l0] M (some (vr r), M) :=
  g_Met_of pn_RX11 rfl (Nat.le_of_ble_eq_true rfl) (fun h => by cases h) (GW_sub [0] rfl (T_X11_ruleInForce_b0 M r l0 h))
/-! ForgetHeirs$House.plainLoss(IIII)I -/
theorem d_X1_plainLoss_0 : decode cX1_plainLoss 0 = .ok (.iload 4, 2) := by decide +kernel
theorem d_X1_plainLoss_2 : decode cX1_plainLoss 2 = .ok (.iload_n 2, 1) := by decide +kernel
theorem d_X1_plainLoss_3 : decode cX1_plainLoss 3 = .ok (.invokestatic 47, 3) := by decide +kernel
theorem d_X1_plainLoss_6 : decode cX1_plainLoss 6 = .ok (.iconst 1, 1) := by decide +kernel
theorem d_X1_plainLoss_7 : decode cX1_plainLoss 7 = .ok (.if_icmp .ne 14, 3) := by decide +kernel
theorem d_X1_plainLoss_10 : decode cX1_plainLoss 10 = .ok (.aload_n 0, 1) := by decide +kernel
theorem d_X1_plainLoss_11 : decode cX1_plainLoss 11 = .ok (.getfield 15, 3) := by decide +kernel
theorem d_X1_plainLoss_14 : decode cX1_plainLoss 14 = .ok (.iload_n 2, 1) := by decide +kernel
theorem d_X1_plainLoss_15 : decode cX1_plainLoss 15 = .ok (.iaload, 1) := by decide +kernel
theorem d_X1_plainLoss_16 : decode cX1_plainLoss 16 = .ok (.iconst 2, 1) := by decide +kernel
theorem d_X1_plainLoss_17 : decode cX1_plainLoss 17 = .ok (.imul, 1) := by decide +kernel
theorem d_X1_plainLoss_18 : decode cX1_plainLoss 18 = .ok (.goto 9, 3) := by decide +kernel
theorem d_X1_plainLoss_21 : decode cX1_plainLoss 21 = .ok (.aload_n 0, 1) := by decide +kernel
theorem d_X1_plainLoss_22 : decode cX1_plainLoss 22 = .ok (.getfield 15, 3) := by decide +kernel
theorem d_X1_plainLoss_25 : decode cX1_plainLoss 25 = .ok (.iload_n 2, 1) := by decide +kernel
theorem d_X1_plainLoss_26 : decode cX1_plainLoss 26 = .ok (.iaload, 1) := by decide +kernel
theorem d_X1_plainLoss_27 : decode cX1_plainLoss 27 = .ok (.istore 5, 2) := by decide +kernel
theorem d_X1_plainLoss_29 : decode cX1_plainLoss 29 = .ok (.aload_n 0, 1) := by decide +kernel
theorem d_X1_plainLoss_30 : decode cX1_plainLoss 30 = .ok (.getfield 41, 3) := by decide +kernel
theorem d_X1_plainLoss_33 : decode cX1_plainLoss 33 = .ok (.iload_n 2, 1) := by decide +kernel
theorem d_X1_plainLoss_34 : decode cX1_plainLoss 34 = .ok (.invokestatic 47, 3) := by decide +kernel
theorem d_X1_plainLoss_37 : decode cX1_plainLoss 37 = .ok (.iconst 1, 1) := by decide +kernel
theorem d_X1_plainLoss_38 : decode cX1_plainLoss 38 = .ok (.if_icmp .ne 9, 3) := by decide +kernel
theorem d_X1_plainLoss_41 : decode cX1_plainLoss 41 = .ok (.iload 5, 2) := by decide +kernel
theorem d_X1_plainLoss_43 : decode cX1_plainLoss 43 = .ok (.iconst 2, 1) := by decide +kernel
theorem d_X1_plainLoss_44 : decode cX1_plainLoss 44 = .ok (.idiv, 1) := by decide +kernel
theorem d_X1_plainLoss_45 : decode cX1_plainLoss 45 = .ok (.istore 5, 2) := by decide +kernel
theorem d_X1_plainLoss_47 : decode cX1_plainLoss 47 = .ok (.iload 5, 2) := by decide +kernel
theorem d_X1_plainLoss_49 : decode cX1_plainLoss 49 = .ok (.iload_n 3, 1) := by decide +kernel
theorem d_X1_plainLoss_50 : decode cX1_plainLoss 50 = .ok (.bipush 20, 2) := by decide +kernel
theorem d_X1_plainLoss_52 : decode cX1_plainLoss 52 = .ok (.idiv, 1) := by decide +kernel
theorem d_X1_plainLoss_53 : decode cX1_plainLoss 53 = .ok (.iadd, 1) := by decide +kernel
theorem d_X1_plainLoss_54 : decode cX1_plainLoss 54 = .ok (.istore 5, 2) := by decide +kernel
theorem d_X1_plainLoss_56 : decode cX1_plainLoss 56 = .ok (.aload_n 0, 1) := by decide +kernel
theorem d_X1_plainLoss_57 : decode cX1_plainLoss 57 = .ok (.getfield 44, 3) := by decide +kernel
theorem d_X1_plainLoss_60 : decode cX1_plainLoss 60 = .ok (.iload_n 1, 1) := by decide +kernel
theorem d_X1_plainLoss_61 : decode cX1_plainLoss 61 = .ok (.invokestatic 47, 3) := by decide +kernel
theorem d_X1_plainLoss_64 : decode cX1_plainLoss 64 = .ok (.iconst 1, 1) := by decide +kernel
theorem d_X1_plainLoss_65 : decode cX1_plainLoss 65 = .ok (.if_icmp .ne 10, 3) := by decide +kernel
theorem d_X1_plainLoss_68 : decode cX1_plainLoss 68 = .ok (.iload 5, 2) := by decide +kernel
theorem d_X1_plainLoss_70 : decode cX1_plainLoss 70 = .ok (.iconst 2, 1) := by decide +kernel
theorem d_X1_plainLoss_71 : decode cX1_plainLoss 71 = .ok (.idiv, 1) := by decide +kernel
theorem d_X1_plainLoss_72 : decode cX1_plainLoss 72 = .ok (.goto 5, 3) := by decide +kernel
theorem d_X1_plainLoss_75 : decode cX1_plainLoss 75 = .ok (.iload 5, 2) := by decide +kernel
theorem d_X1_plainLoss_77 : decode cX1_plainLoss 77 = .ok (.ireturn, 1) := by decide +kernel
abbrev X_X1_plainLoss : gX := (RX1, cX1_plainLoss, 6, (some .int), false)
def F_X1_plainLoss_b47 (M : gM) (l0 : Option Nat) (l1 : Int32) (l3 : Int32) (l5 : Int32) : Option Int32 :=
  (gI 1 M l0 10).bind fun v1 => (F_X11_bit v1 l1 M).bind fun v2 => if v2 = (1 : Int32) then (some ((l5 + (l3 / (20 : Int32))) / (2 : Int32))) else (some (l5 + (l3 / (20 : Int32))))
theorem T_X1_plainLoss_b47 (M : gM) (r : Int32) (l0 : Option Nat) (l1 : Int32) (l3 : Int32) (l5 : Int32) (h : F_X1_plainLoss_b47 M l0 l1 l3 l5 = some r) : GW 1 0 0 X_X1_plainLoss 47 [(0, vr l0), (1, vi l1), (3, vi l3), (5, vi l5)] [] M (some (vi r), M) := by
  delta F_X1_plainLoss_b47 at h
  refine GW_iload (X := X_X1_plainLoss) (pc := 47) d_X1_plainLoss_47 3 rfl ?_
  refine GW_iload_n (X := X_X1_plainLoss) (pc := 49) d_X1_plainLoss_49 rfl 2 rfl ?_
  refine GW_bipush (X := X_X1_plainLoss) (pc := 50) (v := 20) d_X1_plainLoss_50 (by decide) ?_
  refine GW_idiv (X := X_X1_plainLoss) (pc := 52) d_X1_plainLoss_52 (by decide) ?_
  refine GW_iadd (X := X_X1_plainLoss) (pc := 53) d_X1_plainLoss_53 ?_
  refine GW_istore (X := X_X1_plainLoss) (pc := 54) d_X1_plainLoss_54 (Nat.le_of_ble_eq_true rfl) (lv2 := [(5, vi (l5 + (l3 / (20 : Int32)))), (0, vr l0), (1, vi l1), (3, vi l3)]) rfl ?_
  refine GW_aload_n (X := X_X1_plainLoss) (pc := 56) d_X1_plainLoss_56 rfl 1 rfl ?_
  replace h := g_bd h
  obtain ⟨v1, hv1, h⟩ := h
  refine GW_getI (X := X_X1_plainLoss) (pc := 57) f_X1_44 d_X1_plainLoss_57 hv1 (Or.inl ty_1_10) ?_
  refine GW_iload_n (X := X_X1_plainLoss) (pc := 60) d_X1_plainLoss_60 rfl 2 rfl ?_
  replace h := g_bd h
  obtain ⟨v2, hv2, h⟩ := h
  refine GW_callSN (X := X_X1_plainLoss) (pc := 61) (bc0 := 0) (bs0 := 0) (r := some (vi v2)) (M2 := M) (host := RX11) (T_X11_bit v1 l1 M v2 hv2) (Nat.le_of_ble_eq_true rfl) (Nat.le_of_ble_eq_true rfl) yc_X11_bit (List.mem_of_getElem? (i := 13) rfl) ⟨m_646, m_116, m_647⟩ d_X1_plainLoss_61 rfl (st := []) rfl (Nat.le_of_ble_eq_true rfl) (Nat.le_of_ble_eq_true rfl) (Nat.le_of_ble_eq_true rfl) (st2 := [vi v2]) rfl ?_
  refine GW_iconst (X := X_X1_plainLoss) (pc := 64) (v := 1) d_X1_plainLoss_64 (by decide) ?_
  refine GW_icmp_ne (X := X_X1_plainLoss) (pc := 65) 75 d_X1_plainLoss_65 (by decide) (fun c => ?_) (fun c => ?_)
  · replace h := g_ie c h
    refine GW_iload (X := X_X1_plainLoss) (pc := 75) d_X1_plainLoss_75 0 rfl ?_
    replace h := Option.some.inj h
    subst h
    exact GW_ret (X := X_X1_plainLoss) (pc := 77) d_X1_plainLoss_77 rfl trivial
  · replace h := g_ip c h
    refine GW_iload (X := X_X1_plainLoss) (pc := 68) d_X1_plainLoss_68 0 rfl ?_
    refine GW_iconst (X := X_X1_plainLoss) (pc := 70) (v := 2) d_X1_plainLoss_70 (by decide) ?_
    refine GW_idiv (X := X_X1_plainLoss) (pc := 71) d_X1_plainLoss_71 (by decide) ?_
    refine GW_goto (X := X_X1_plainLoss) (pc := 72) 77 d_X1_plainLoss_72 (by decide) ?_
    replace h := Option.some.inj h
    subst h
    exact GW_ret (X := X_X1_plainLoss) (pc := 77) d_X1_plainLoss_77 rfl trivial
def F_X1_plainLoss_b27 (M : gM) (l0 : Option Nat) (l1 : Int32) (l2 : Int32) (l3 : Int32) (s0 : Int32) : Option Int32 :=
  (gI 1 M l0 9).bind fun v1 => (F_X11_bit v1 l2 M).bind fun v2 => if v2 = (1 : Int32) then (F_X1_plainLoss_b47 M l0 l1 l3 (s0 / (2 : Int32))) else (F_X1_plainLoss_b47 M l0 l1 l3 s0)
theorem T_X1_plainLoss_b27 (M : gM) (r : Int32) (l0 : Option Nat) (l1 : Int32) (l2 : Int32) (l3 : Int32) (s0 : Int32) (h : F_X1_plainLoss_b27 M l0 l1 l2 l3 s0 = some r) : GW 1 0 0 X_X1_plainLoss 27 [(0, vr l0), (1, vi l1), (2, vi l2), (3, vi l3)] [vi s0] M (some (vi r), M) := by
  delta F_X1_plainLoss_b27 at h
  refine GW_istore (X := X_X1_plainLoss) (pc := 27) d_X1_plainLoss_27 (Nat.le_of_ble_eq_true rfl) (lv2 := [(5, vi s0), (0, vr l0), (1, vi l1), (2, vi l2), (3, vi l3)]) rfl ?_
  refine GW_aload_n (X := X_X1_plainLoss) (pc := 29) d_X1_plainLoss_29 rfl 1 rfl ?_
  replace h := g_bd h
  obtain ⟨v1, hv1, h⟩ := h
  refine GW_getI (X := X_X1_plainLoss) (pc := 30) f_X1_41 d_X1_plainLoss_30 hv1 (Or.inl ty_1_9) ?_
  refine GW_iload_n (X := X_X1_plainLoss) (pc := 33) d_X1_plainLoss_33 rfl 3 rfl ?_
  replace h := g_bd h
  obtain ⟨v2, hv2, h⟩ := h
  refine GW_callSN (X := X_X1_plainLoss) (pc := 34) (bc0 := 0) (bs0 := 0) (r := some (vi v2)) (M2 := M) (host := RX11) (T_X11_bit v1 l2 M v2 hv2) (Nat.le_of_ble_eq_true rfl) (Nat.le_of_ble_eq_true rfl) yc_X11_bit (List.mem_of_getElem? (i := 13) rfl) ⟨m_646, m_116, m_647⟩ d_X1_plainLoss_34 rfl (st := []) rfl (Nat.le_of_ble_eq_true rfl) (Nat.le_of_ble_eq_true rfl) (Nat.le_of_ble_eq_true rfl) (st2 := [vi v2]) rfl ?_
  refine GW_iconst (X := X_X1_plainLoss) (pc := 37) (v := 1) d_X1_plainLoss_37 (by decide) ?_
  refine GW_icmp_ne (X := X_X1_plainLoss) (pc := 38) 47 d_X1_plainLoss_38 (by decide) (fun c => ?_) (fun c => ?_)
  · replace h := g_ie c h
    refine GW_sub [1, 2, 4, 0] rfl ?_
    exact T_X1_plainLoss_b47 M r l0 l1 l3 s0 h
  · replace h := g_ip c h
    refine GW_iload (X := X_X1_plainLoss) (pc := 41) d_X1_plainLoss_41 0 rfl ?_
    refine GW_iconst (X := X_X1_plainLoss) (pc := 43) (v := 2) d_X1_plainLoss_43 (by decide) ?_
    refine GW_idiv (X := X_X1_plainLoss) (pc := 44) d_X1_plainLoss_44 (by decide) ?_
    refine GW_istore (X := X_X1_plainLoss) (pc := 45) d_X1_plainLoss_45 (Nat.le_of_ble_eq_true rfl) (lv2 := [(5, vi (s0 / (2 : Int32))), (0, vr l0), (1, vi l1), (2, vi l2), (3, vi l3)]) rfl ?_
    refine GW_sub [1, 2, 4, 0] rfl ?_
    exact T_X1_plainLoss_b47 M r l0 l1 l3 (s0 / (2 : Int32)) h
def F_X1_plainLoss_b0 (M : gM) (l0 : Option Nat) (l1 : Int32) (l2 : Int32) (l3 : Int32) (l4 : Int32) : Option Int32 :=
  (F_X11_bit l4 l2 M).bind fun v1 => if v1 = (1 : Int32) then ((gR 1 M l0 1).bind fun v4 => (aI 20 M v4 l2).bind fun v5 => F_X1_plainLoss_b27 M l0 l1 l2 l3 (v5 * (2 : Int32))) else ((gR 1 M l0 1).bind fun v2 => (aI 20 M v2 l2).bind fun v3 => F_X1_plainLoss_b27 M l0 l1 l2 l3 v3)
theorem T_X1_plainLoss_b0 (M : gM) (r : Int32) (l0 : Option Nat) (l1 : Int32) (l2 : Int32) (l3 : Int32) (l4 : Int32) (h : F_X1_plainLoss_b0 M l0 l1 l2 l3 l4 = some r) : GW 1 0 0 X_X1_plainLoss 0 [(0, vr l0), (1, vi l1), (2, vi l2), (3, vi l3), (4, vi l4)] [] M (some (vi r), M) := by
  delta F_X1_plainLoss_b0 at h
  refine GW_iload (X := X_X1_plainLoss) (pc := 0) d_X1_plainLoss_0 4 rfl ?_
  refine GW_iload_n (X := X_X1_plainLoss) (pc := 2) d_X1_plainLoss_2 rfl 2 rfl ?_
  replace h := g_bd h
  obtain ⟨v1, hv1, h⟩ := h
  refine GW_callSN (X := X_X1_plainLoss) (pc := 3) (bc0 := 0) (bs0 := 0) (r := some (vi v1)) (M2 := M) (host := RX11) (T_X11_bit l4 l2 M v1 hv1) (Nat.le_of_ble_eq_true rfl) (Nat.le_of_ble_eq_true rfl) yc_X11_bit (List.mem_of_getElem? (i := 13) rfl) ⟨m_646, m_116, m_647⟩ d_X1_plainLoss_3 rfl (st := []) rfl (Nat.le_of_ble_eq_true rfl) (Nat.le_of_ble_eq_true rfl) (Nat.le_of_ble_eq_true rfl) (st2 := [vi v1]) rfl ?_
  refine GW_iconst (X := X_X1_plainLoss) (pc := 6) (v := 1) d_X1_plainLoss_6 (by decide) ?_
  refine GW_icmp_ne (X := X_X1_plainLoss) (pc := 7) 21 d_X1_plainLoss_7 (by decide) (fun c => ?_) (fun c => ?_)
  · replace h := g_ie c h
    refine GW_aload_n (X := X_X1_plainLoss) (pc := 21) d_X1_plainLoss_21 rfl 0 rfl ?_
    replace h := g_bd h
    obtain ⟨v2, hv2, h⟩ := h
    refine GW_getR (X := X_X1_plainLoss) (pc := 22) f_X1_15 d_X1_plainLoss_22 hv2 (Or.inr ⟨_, ty_1_1⟩) ?_
    refine GW_iload_n (X := X_X1_plainLoss) (pc := 25) d_X1_plainLoss_25 rfl 2 rfl ?_
    replace h := g_bd h
    obtain ⟨v3, hv3, h⟩ := h
    refine GW_iald (X := X_X1_plainLoss) (pc := 26) d_X1_plainLoss_26 hv3 ?_
    refine GW_sub [0, 1, 2, 3] rfl ?_
    exact T_X1_plainLoss_b27 M r l0 l1 l2 l3 v3 h
  · replace h := g_ip c h
    refine GW_aload_n (X := X_X1_plainLoss) (pc := 10) d_X1_plainLoss_10 rfl 0 rfl ?_
    replace h := g_bd h
    obtain ⟨v4, hv4, h⟩ := h
    refine GW_getR (X := X_X1_plainLoss) (pc := 11) f_X1_15 d_X1_plainLoss_11 hv4 (Or.inr ⟨_, ty_1_1⟩) ?_
    refine GW_iload_n (X := X_X1_plainLoss) (pc := 14) d_X1_plainLoss_14 rfl 2 rfl ?_
    replace h := g_bd h
    obtain ⟨v5, hv5, h⟩ := h
    refine GW_iald (X := X_X1_plainLoss) (pc := 15) d_X1_plainLoss_15 hv5 ?_
    refine GW_iconst (X := X_X1_plainLoss) (pc := 16) (v := 2) d_X1_plainLoss_16 (by decide) ?_
    refine GW_imul (X := X_X1_plainLoss) (pc := 17) d_X1_plainLoss_17 ?_
    refine GW_goto (X := X_X1_plainLoss) (pc := 18) 27 d_X1_plainLoss_18 (by decide) ?_
    refine GW_sub [0, 1, 2, 3] rfl ?_
    exact T_X1_plainLoss_b27 M r l0 l1 l2 l3 (v5 * (2 : Int32)) h
def F_X1_plainLoss (l0 : Option Nat) (l1 : Int32) (l2 : Int32) (l3 : Int32) (l4 : Int32) (M : gM) : Option Int32 := F_X1_plainLoss_b0 M l0 l1 l2 l3 l4
theorem T_X1_plainLoss (l0 : Option Nat) (l1 : Int32) (l2 : Int32) (l3 : Int32) (l4 : Int32) (M : gM) (r : Int32) (h : F_X1_plainLoss l0 l1 l2 l3 l4 M = some r) : g_Met 1 0 0 yX1_plainLoss X_X1_plainLoss [vr l0, vi l1, vi l2, vi l3, vi l4] M (some (vi r), M) :=
  g_Met_of pn_RX1 rfl (Nat.le_of_ble_eq_true rfl) (fun h => by cases h) (GW_sub [0, 1, 2, 3, 4] rfl (T_X1_plainLoss_b0 M r l0 l1 l2 l3 l4 h))
/-! ForgetHeirs$State.knowersAs(LForgetHeirs$House;II)I -/
theorem d_X8_knowersAs_0 : decode cX8_knowersAs 0 = .ok (.iconst 0, 1) := by decide +kernel
theorem d_X8_knowersAs_1 : decode cX8_knowersAs 1 = .ok (.istore 4, 2) := by decide +kernel
theorem d_X8_knowersAs_3 : decode cX8_knowersAs 3 = .ok (.iconst 0, 1) := by decide +kernel
theorem d_X8_knowersAs_4 : decode cX8_knowersAs 4 = .ok (.istore 5, 2) := by decide +kernel
theorem d_X8_knowersAs_6 : decode cX8_knowersAs 6 = .ok (.iload 5, 2) := by decide +kernel
theorem d_X8_knowersAs_8 : decode cX8_knowersAs 8 = .ok (.aload_n 1, 1) := by decide +kernel
theorem d_X8_knowersAs_9 : decode cX8_knowersAs 9 = .ok (.getfield 66, 3) := by decide +kernel
theorem d_X8_knowersAs_12 : decode cX8_knowersAs 12 = .ok (.if_icmp .ge 48, 3) := by decide +kernel
theorem d_X8_knowersAs_15 : decode cX8_knowersAs 15 = .ok (.iload 5, 2) := by decide +kernel
theorem d_X8_knowersAs_17 : decode cX8_knowersAs 17 = .ok (.bipush 7, 2) := by decide +kernel
theorem d_X8_knowersAs_19 : decode cX8_knowersAs 19 = .ok (.imul, 1) := by decide +kernel
theorem d_X8_knowersAs_20 : decode cX8_knowersAs 20 = .ok (.iload_n 2, 1) := by decide +kernel
theorem d_X8_knowersAs_21 : decode cX8_knowersAs 21 = .ok (.iadd, 1) := by decide +kernel
theorem d_X8_knowersAs_22 : decode cX8_knowersAs 22 = .ok (.istore 6, 2) := by decide +kernel
theorem d_X8_knowersAs_24 : decode cX8_knowersAs 24 = .ok (.aload_n 0, 1) := by decide +kernel
theorem d_X8_knowersAs_25 : decode cX8_knowersAs 25 = .ok (.getfield 15, 3) := by decide +kernel
theorem d_X8_knowersAs_28 : decode cX8_knowersAs 28 = .ok (.iload 6, 2) := by decide +kernel
theorem d_X8_knowersAs_30 : decode cX8_knowersAs 30 = .ok (.iaload, 1) := by decide +kernel
theorem d_X8_knowersAs_31 : decode cX8_knowersAs 31 = .ok (.ifCond .le 23, 3) := by decide +kernel
theorem d_X8_knowersAs_34 : decode cX8_knowersAs 34 = .ok (.aload_n 0, 1) := by decide +kernel
theorem d_X8_knowersAs_35 : decode cX8_knowersAs 35 = .ok (.getfield 9, 3) := by decide +kernel
theorem d_X8_knowersAs_38 : decode cX8_knowersAs 38 = .ok (.iload 6, 2) := by decide +kernel
theorem d_X8_knowersAs_40 : decode cX8_knowersAs 40 = .ok (.iaload, 1) := by decide +kernel
theorem d_X8_knowersAs_41 : decode cX8_knowersAs 41 = .ok (.iload_n 3, 1) := by decide +kernel
theorem d_X8_knowersAs_42 : decode cX8_knowersAs 42 = .ok (.if_icmp .ne 12, 3) := by decide +kernel
theorem d_X8_knowersAs_45 : decode cX8_knowersAs 45 = .ok (.iload 4, 2) := by decide +kernel
theorem d_X8_knowersAs_47 : decode cX8_knowersAs 47 = .ok (.iconst 1, 1) := by decide +kernel
theorem d_X8_knowersAs_48 : decode cX8_knowersAs 48 = .ok (.iload 5, 2) := by decide +kernel
theorem d_X8_knowersAs_50 : decode cX8_knowersAs 50 = .ok (.ishl, 1) := by decide +kernel
theorem d_X8_knowersAs_51 : decode cX8_knowersAs 51 = .ok (.ior, 1) := by decide +kernel
theorem d_X8_knowersAs_52 : decode cX8_knowersAs 52 = .ok (.istore 4, 2) := by decide +kernel
theorem d_X8_knowersAs_54 : decode cX8_knowersAs 54 = .ok (.iinc 5 1, 3) := by decide +kernel
theorem d_X8_knowersAs_57 : decode cX8_knowersAs 57 = .ok (.goto (-51), 3) := by decide +kernel
theorem d_X8_knowersAs_60 : decode cX8_knowersAs 60 = .ok (.iload 4, 2) := by decide +kernel
theorem d_X8_knowersAs_62 : decode cX8_knowersAs 62 = .ok (.ireturn, 1) := by decide +kernel
abbrev X_X8_knowersAs : gX := (RX8, cX8_knowersAs, 7, (some .int), false)
def F_X8_knowersAs_b54 (k6 : Option Nat → Option Nat → Int32 → Int32 → Int32 → Int32 → Option Int32) (M : gM) (l0 : Option Nat) (l1 : Option Nat) (l2 : Int32) (l3 : Int32) (l4 : Int32) (l5 : Int32) : Option Int32 :=
  k6 l0 l1 l2 l3 l4 (l5 + 1)
theorem T_X8_knowersAs_b54 (k6 : Option Nat → Option Nat → Int32 → Int32 → Int32 → Int32 → Option Int32) (M : gM) (r : Int32) (hk6 : ∀ (l0 : Option Nat) (l1 : Option Nat) (l2 : Int32) (l3 : Int32) (l4 : Int32) (l5 : Int32), k6 l0 l1 l2 l3 l4 l5 = some r → GW 0 0 0 X_X8_knowersAs 6 [(0, vr l0), (1, vr l1), (2, vi l2), (3, vi l3), (4, vi l4), (5, vi l5)] [] M (some (vi r), M)) (l0 : Option Nat) (l1 : Option Nat) (l2 : Int32) (l3 : Int32) (l4 : Int32) (l5 : Int32) (h : F_X8_knowersAs_b54 k6 M l0 l1 l2 l3 l4 l5 = some r) : GW 0 0 0 X_X8_knowersAs 54 [(0, vr l0), (1, vr l1), (2, vi l2), (3, vi l3), (4, vi l4), (5, vi l5)] [] M (some (vi r), M) := by
  delta F_X8_knowersAs_b54 at h
  refine GW_iinc (j := 5) (X := X_X8_knowersAs) (pc := 54) d_X8_knowersAs_54 rfl (congrArg (fun z => _ + z) (by decide : Int32.ofInt 1 = (1 : Int32))) (Nat.le_of_ble_eq_true rfl) (lv2 := [(5, vi (l5 + 1)), (0, vr l0), (1, vr l1), (2, vi l2), (3, vi l3), (4, vi l4)]) rfl ?_
  refine GW_goto (X := X_X8_knowersAs) (pc := 57) 6 d_X8_knowersAs_57 (by decide) ?_
  refine GW_sub [1, 2, 3, 4, 5, 0] rfl ?_
  exact hk6 l0 l1 l2 l3 l4 (l5 + 1) h
def F_X8_knowersAs_b6 (k6 : Option Nat → Option Nat → Int32 → Int32 → Int32 → Int32 → Option Int32) (M : gM) (l0 : Option Nat) (l1 : Option Nat) (l2 : Int32) (l3 : Int32) (l4 : Int32) (l5 : Int32) : Option Int32 :=
  (gI 1 M l1 7).bind fun v1 => if v1 ≤ l5 then (some l4) else ((gR 8 M l0 1).bind fun v2 => (aI 20 M v2 ((l5 * (7 : Int32)) + l2)).bind fun v3 => if v3 ≤ 0 then (F_X8_knowersAs_b54 k6 M l0 l1 l2 l3 l4 l5) else ((gR 8 M l0 0).bind fun v4 => (aI 20 M v4 ((l5 * (7 : Int32)) + l2)).bind fun v5 => if v5 = l3 then (F_X8_knowersAs_b54 k6 M l0 l1 l2 l3 (l4 ||| ((1 : Int32) <<< (l5 &&& 31))) l5) else (F_X8_knowersAs_b54 k6 M l0 l1 l2 l3 l4 l5)))
set_option maxHeartbeats 1000000 in
theorem T_X8_knowersAs_b6 (k6 : Option Nat → Option Nat → Int32 → Int32 → Int32 → Int32 → Option Int32) (M : gM) (r : Int32) (hk6 : ∀ (l0 : Option Nat) (l1 : Option Nat) (l2 : Int32) (l3 : Int32) (l4 : Int32) (l5 : Int32), k6 l0 l1 l2 l3 l4 l5 = some r → GW 0 0 0 X_X8_knowersAs 6 [(0, vr l0), (1, vr l1), (2, vi l2), (3, vi l3), (4, vi l4), (5, vi l5)] [] M (some (vi r), M)) (l0 : Option Nat) (l1 : Option Nat) (l2 : Int32) (l3 : Int32) (l4 : Int32) (l5 : Int32) (h : F_X8_knowersAs_b6 k6 M l0 l1 l2 l3 l4 l5 = some r) : GW 0 0 0 X_X8_knowersAs 6 [(0, vr l0), (1, vr l1), (2, vi l2), (3, vi l3), (4, vi l4), (5, vi l5)] [] M (some (vi r), M) := by
  delta F_X8_knowersAs_b6 at h
  refine GW_iload (X := X_X8_knowersAs) (pc := 6) d_X8_knowersAs_6 5 rfl ?_
  refine GW_aload_n (X := X_X8_knowersAs) (pc := 8) d_X8_knowersAs_8 rfl 1 rfl ?_
  replace h := g_bd h
  obtain ⟨v1, hv1, h⟩ := h
  refine GW_getI (X := X_X8_knowersAs) (pc := 9) f_X8_66 d_X8_knowersAs_9 hv1 (Or.inl ty_1_7) ?_
  refine GW_icmp_ge (X := X_X8_knowersAs) (pc := 12) 60 d_X8_knowersAs_12 (by decide) (fun c => ?_) (fun c => ?_)
  · replace h := g_ip c h
    refine GW_iload (X := X_X8_knowersAs) (pc := 60) d_X8_knowersAs_60 4 rfl ?_
    replace h := Option.some.inj h
    subst h
    exact GW_ret (X := X_X8_knowersAs) (pc := 62) d_X8_knowersAs_62 rfl trivial
  · replace h := g_ie c h
    refine GW_iload (X := X_X8_knowersAs) (pc := 15) d_X8_knowersAs_15 5 rfl ?_
    refine GW_bipush (X := X_X8_knowersAs) (pc := 17) (v := 7) d_X8_knowersAs_17 (by decide) ?_
    refine GW_imul (X := X_X8_knowersAs) (pc := 19) d_X8_knowersAs_19 ?_
    refine GW_iload_n (X := X_X8_knowersAs) (pc := 20) d_X8_knowersAs_20 rfl 2 rfl ?_
    refine GW_iadd (X := X_X8_knowersAs) (pc := 21) d_X8_knowersAs_21 ?_
    refine GW_istore (X := X_X8_knowersAs) (pc := 22) d_X8_knowersAs_22 (Nat.le_of_ble_eq_true rfl) (lv2 := [(6, vi ((l5 * (7 : Int32)) + l2)), (0, vr l0), (1, vr l1), (2, vi l2), (3, vi l3), (4, vi l4), (5, vi l5)]) rfl ?_
    refine GW_aload_n (X := X_X8_knowersAs) (pc := 24) d_X8_knowersAs_24 rfl 1 rfl ?_
    replace h := g_bd h
    obtain ⟨v2, hv2, h⟩ := h
    refine GW_getR (X := X_X8_knowersAs) (pc := 25) f_X8_15 d_X8_knowersAs_25 hv2 (Or.inr ⟨_, ty_8_1⟩) ?_
    refine GW_iload (X := X_X8_knowersAs) (pc := 28) d_X8_knowersAs_28 0 rfl ?_
    replace h := g_bd h
    obtain ⟨v3, hv3, h⟩ := h
    refine GW_iald (X := X_X8_knowersAs) (pc := 30) d_X8_knowersAs_30 hv3 ?_
    refine GW_if_le (X := X_X8_knowersAs) (pc := 31) 54 d_X8_knowersAs_31 (by decide) (fun c => ?_) (fun c => ?_)
    · replace h := g_ip c h
      refine GW_sub [1, 2, 3, 4, 5, 6] rfl ?_
      exact T_X8_knowersAs_b54 k6 M r hk6 l0 l1 l2 l3 l4 l5 h
    · replace h := g_ie c h
      refine GW_aload_n (X := X_X8_knowersAs) (pc := 34) d_X8_knowersAs_34 rfl 1 rfl ?_
      replace h := g_bd h
      obtain ⟨v4, hv4, h⟩ := h
      refine GW_getR (X := X_X8_knowersAs) (pc := 35) f_X8_9 d_X8_knowersAs_35 hv4 (Or.inr ⟨_, ty_8_0⟩) ?_
      refine GW_iload (X := X_X8_knowersAs) (pc := 38) d_X8_knowersAs_38 0 rfl ?_
      replace h := g_bd h
      obtain ⟨v5, hv5, h⟩ := h
      refine GW_iald (X := X_X8_knowersAs) (pc := 40) d_X8_knowersAs_40 hv5 ?_
      refine GW_iload_n (X := X_X8_knowersAs) (pc := 41) d_X8_knowersAs_41 rfl 4 rfl ?_
      refine GW_icmp_ne (X := X_X8_knowersAs) (pc := 42) 54 d_X8_knowersAs_42 (by decide) (fun c => ?_) (fun c => ?_)
      · replace h := g_ie c h
        refine GW_sub [1, 2, 3, 4, 5, 6] rfl ?_
        exact T_X8_knowersAs_b54 k6 M r hk6 l0 l1 l2 l3 l4 l5 h
      · replace h := g_ip c h
        refine GW_iload (X := X_X8_knowersAs) (pc := 45) d_X8_knowersAs_45 5 rfl ?_
        refine GW_iconst (X := X_X8_knowersAs) (pc := 47) (v := 1) d_X8_knowersAs_47 (by decide) ?_
        refine GW_iload (X := X_X8_knowersAs) (pc := 48) d_X8_knowersAs_48 6 rfl ?_
        refine GW_ishl (X := X_X8_knowersAs) (pc := 50) d_X8_knowersAs_50 ?_
        refine GW_ior (X := X_X8_knowersAs) (pc := 51) d_X8_knowersAs_51 ?_
        refine GW_istore (X := X_X8_knowersAs) (pc := 52) d_X8_knowersAs_52 (Nat.le_of_ble_eq_true rfl) (lv2 := [(4, vi (l4 ||| ((1 : Int32) <<< (l5 &&& 31)))), (6, vi ((l5 * (7 : Int32)) + l2)), (0, vr l0), (1, vr l1), (2, vi l2), (3, vi l3), (5, vi l5)]) rfl ?_
        refine GW_sub [2, 3, 4, 5, 0, 6] rfl ?_
        exact T_X8_knowersAs_b54 k6 M r hk6 l0 l1 l2 l3 (l4 ||| ((1 : Int32) <<< (l5 &&& 31))) l5 h
def F_X8_knowersAs_L6 (M : gM) : Nat → Option Nat → Option Nat → Int32 → Int32 → Int32 → Int32 → Option Int32
  | 0 => fun _ _ _ _ _ _ => none
  | n + 1 => F_X8_knowersAs_b6 (F_X8_knowersAs_L6 M n) M
theorem T_X8_knowersAs_L6 (M : gM) (r : Int32) : ∀ (n : Nat) (l0 : Option Nat) (l1 : Option Nat) (l2 : Int32) (l3 : Int32) (l4 : Int32) (l5 : Int32), F_X8_knowersAs_L6 M n l0 l1 l2 l3 l4 l5 = some r → GW 0 0 0 X_X8_knowersAs 6 [(0, vr l0), (1, vr l1), (2, vi l2), (3, vi l3), (4, vi l4), (5, vi l5)] [] M (some (vi r), M) := by
  intro n
  induction n with
  | zero => intro l0 l1 l2 l3 l4 l5 h; exact g_no h
  | succ n ih => intro l0 l1 l2 l3 l4 l5 h; exact T_X8_knowersAs_b6 (F_X8_knowersAs_L6 M n) M r ih l0 l1 l2 l3 l4 l5 h
def F_X8_knowersAs_b0 (M : gM) (l0 : Option Nat) (l1 : Option Nat) (l2 : Int32) (l3 : Int32) : Option Int32 :=
  F_X8_knowersAs_L6 M g_fuel l0 l1 l2 l3 (0 : Int32) (0 : Int32)
theorem T_X8_knowersAs_b0 (M : gM) (r : Int32) (l0 : Option Nat) (l1 : Option Nat) (l2 : Int32) (l3 : Int32) (h : F_X8_knowersAs_b0 M l0 l1 l2 l3 = some r) : GW 0 0 0 X_X8_knowersAs 0 [(0, vr l0), (1, vr l1), (2, vi l2), (3, vi l3)] [] M (some (vi r), M) := by
  delta F_X8_knowersAs_b0 at h
  refine GW_iconst (X := X_X8_knowersAs) (pc := 0) (v := 0) d_X8_knowersAs_0 (by decide) ?_
  refine GW_istore (X := X_X8_knowersAs) (pc := 1) d_X8_knowersAs_1 (Nat.le_of_ble_eq_true rfl) (lv2 := [(4, vi (0 : Int32)), (0, vr l0), (1, vr l1), (2, vi l2), (3, vi l3)]) rfl ?_
  refine GW_iconst (X := X_X8_knowersAs) (pc := 3) (v := 0) d_X8_knowersAs_3 (by decide) ?_
  refine GW_istore (X := X_X8_knowersAs) (pc := 4) d_X8_knowersAs_4 (Nat.le_of_ble_eq_true rfl) (lv2 := [(5, vi (0 : Int32)), (4, vi (0 : Int32)), (0, vr l0), (1, vr l1), (2, vi l2), (3, vi l3)]) rfl ?_
  refine GW_sub [2, 3, 4, 5, 1, 0] rfl ?_
  exact T_X8_knowersAs_L6 M r g_fuel l0 l1 l2 l3 (0 : Int32) (0 : Int32) h
def F_X8_knowersAs (l0 : Option Nat) (l1 : Option Nat) (l2 : Int32) (l3 : Int32) (M : gM) : Option Int32 := F_X8_knowersAs_b0 M l0 l1 l2 l3
theorem T_X8_knowersAs (l0 : Option Nat) (l1 : Option Nat) (l2 : Int32) (l3 : Int32) (M : gM) (r : Int32) (h : F_X8_knowersAs l0 l1 l2 l3 M = some r) : g_Met 0 0 0 yX8_knowersAs X_X8_knowersAs [vr l0, vr l1, vi l2, vi l3] M (some (vi r), M) :=
  g_Met_of pn_RX8 rfl (Nat.le_of_ble_eq_true rfl) (fun h => by cases h) (GW_sub [0, 1, 2, 3] rfl (T_X8_knowersAs_b0 M r l0 l1 l2 l3 h))
/-! java/lang/Integer.bitCount(I)I -/
theorem d_J6_bitCount_0f7a4_0 : decode cJ6_bitCount_0f7a4 0 = .ok (.iload_n 0, 1) := by decide +kernel
theorem d_J6_bitCount_0f7a4_1 : decode cJ6_bitCount_0f7a4 1 = .ok (.iload_n 0, 1) := by decide +kernel
theorem d_J6_bitCount_0f7a4_2 : decode cJ6_bitCount_0f7a4 2 = .ok (.iconst 1, 1) := by decide +kernel
theorem d_J6_bitCount_0f7a4_3 : decode cJ6_bitCount_0f7a4 3 = .ok (.iushr, 1) := by decide +kernel
theorem d_J6_bitCount_0f7a4_4 : decode cJ6_bitCount_0f7a4 4 = .ok (.ldc_w 265, 3) := by decide +kernel
theorem d_J6_bitCount_0f7a4_7 : decode cJ6_bitCount_0f7a4 7 = .ok (.iand, 1) := by decide +kernel
theorem d_J6_bitCount_0f7a4_8 : decode cJ6_bitCount_0f7a4 8 = .ok (.isub, 1) := by decide +kernel
theorem d_J6_bitCount_0f7a4_9 : decode cJ6_bitCount_0f7a4 9 = .ok (.istore_n 0, 1) := by decide +kernel
theorem d_J6_bitCount_0f7a4_10 : decode cJ6_bitCount_0f7a4 10 = .ok (.iload_n 0, 1) := by decide +kernel
theorem d_J6_bitCount_0f7a4_11 : decode cJ6_bitCount_0f7a4 11 = .ok (.ldc_w 266, 3) := by decide +kernel
theorem d_J6_bitCount_0f7a4_14 : decode cJ6_bitCount_0f7a4 14 = .ok (.iand, 1) := by decide +kernel
theorem d_J6_bitCount_0f7a4_15 : decode cJ6_bitCount_0f7a4 15 = .ok (.iload_n 0, 1) := by decide +kernel
theorem d_J6_bitCount_0f7a4_16 : decode cJ6_bitCount_0f7a4 16 = .ok (.iconst 2, 1) := by decide +kernel
theorem d_J6_bitCount_0f7a4_17 : decode cJ6_bitCount_0f7a4 17 = .ok (.iushr, 1) := by decide +kernel
theorem d_J6_bitCount_0f7a4_18 : decode cJ6_bitCount_0f7a4 18 = .ok (.ldc_w 266, 3) := by decide +kernel
theorem d_J6_bitCount_0f7a4_21 : decode cJ6_bitCount_0f7a4 21 = .ok (.iand, 1) := by decide +kernel
theorem d_J6_bitCount_0f7a4_22 : decode cJ6_bitCount_0f7a4 22 = .ok (.iadd, 1) := by decide +kernel
theorem d_J6_bitCount_0f7a4_23 : decode cJ6_bitCount_0f7a4 23 = .ok (.istore_n 0, 1) := by decide +kernel
theorem d_J6_bitCount_0f7a4_24 : decode cJ6_bitCount_0f7a4 24 = .ok (.iload_n 0, 1) := by decide +kernel
theorem d_J6_bitCount_0f7a4_25 : decode cJ6_bitCount_0f7a4 25 = .ok (.iload_n 0, 1) := by decide +kernel
theorem d_J6_bitCount_0f7a4_26 : decode cJ6_bitCount_0f7a4 26 = .ok (.iconst 4, 1) := by decide +kernel
theorem d_J6_bitCount_0f7a4_27 : decode cJ6_bitCount_0f7a4 27 = .ok (.iushr, 1) := by decide +kernel
theorem d_J6_bitCount_0f7a4_28 : decode cJ6_bitCount_0f7a4 28 = .ok (.iadd, 1) := by decide +kernel
theorem d_J6_bitCount_0f7a4_29 : decode cJ6_bitCount_0f7a4 29 = .ok (.ldc_w 267, 3) := by decide +kernel
theorem d_J6_bitCount_0f7a4_32 : decode cJ6_bitCount_0f7a4 32 = .ok (.iand, 1) := by decide +kernel
theorem d_J6_bitCount_0f7a4_33 : decode cJ6_bitCount_0f7a4 33 = .ok (.istore_n 0, 1) := by decide +kernel
theorem d_J6_bitCount_0f7a4_34 : decode cJ6_bitCount_0f7a4 34 = .ok (.iload_n 0, 1) := by decide +kernel
theorem d_J6_bitCount_0f7a4_35 : decode cJ6_bitCount_0f7a4 35 = .ok (.iload_n 0, 1) := by decide +kernel
theorem d_J6_bitCount_0f7a4_36 : decode cJ6_bitCount_0f7a4 36 = .ok (.bipush 8, 2) := by decide +kernel
theorem d_J6_bitCount_0f7a4_38 : decode cJ6_bitCount_0f7a4 38 = .ok (.iushr, 1) := by decide +kernel
theorem d_J6_bitCount_0f7a4_39 : decode cJ6_bitCount_0f7a4 39 = .ok (.iadd, 1) := by decide +kernel
theorem d_J6_bitCount_0f7a4_40 : decode cJ6_bitCount_0f7a4 40 = .ok (.istore_n 0, 1) := by decide +kernel
theorem d_J6_bitCount_0f7a4_41 : decode cJ6_bitCount_0f7a4 41 = .ok (.iload_n 0, 1) := by decide +kernel
theorem d_J6_bitCount_0f7a4_42 : decode cJ6_bitCount_0f7a4 42 = .ok (.iload_n 0, 1) := by decide +kernel
theorem d_J6_bitCount_0f7a4_43 : decode cJ6_bitCount_0f7a4 43 = .ok (.bipush 16, 2) := by decide +kernel
theorem d_J6_bitCount_0f7a4_45 : decode cJ6_bitCount_0f7a4 45 = .ok (.iushr, 1) := by decide +kernel
theorem d_J6_bitCount_0f7a4_46 : decode cJ6_bitCount_0f7a4 46 = .ok (.iadd, 1) := by decide +kernel
theorem d_J6_bitCount_0f7a4_47 : decode cJ6_bitCount_0f7a4 47 = .ok (.istore_n 0, 1) := by decide +kernel
theorem d_J6_bitCount_0f7a4_48 : decode cJ6_bitCount_0f7a4 48 = .ok (.iload_n 0, 1) := by decide +kernel
theorem d_J6_bitCount_0f7a4_49 : decode cJ6_bitCount_0f7a4 49 = .ok (.bipush 63, 2) := by decide +kernel
theorem d_J6_bitCount_0f7a4_51 : decode cJ6_bitCount_0f7a4 51 = .ok (.iand, 1) := by decide +kernel
theorem d_J6_bitCount_0f7a4_52 : decode cJ6_bitCount_0f7a4 52 = .ok (.ireturn, 1) := by decide +kernel
abbrev X_J6_bitCount_0f7a4 : gX := ("java/lang/Integer", cJ6_bitCount_0f7a4, 1, (some .int), false)
def F_J6_bitCount_0f7a4_b0 (M : gM) (l0 : Int32) : Option Int32 :=
  some ((((((((l0 - (((l0).toUInt32 >>> (((1 : Int32)).toUInt32 &&& Int32.toUInt32 31)).toInt32 &&& (1431655765 : Int32))) &&& (858993459 : Int32)) + ((((l0 - (((l0).toUInt32 >>> (((1 : Int32)).toUInt32 &&& Int32.toUInt32 31)).toInt32 &&& (1431655765 : Int32)))).toUInt32 >>> (((2 : Int32)).toUInt32 &&& Int32.toUInt32 31)).toInt32 &&& (858993459 : Int32))) + (((((l0 - (((l0).toUInt32 >>> (((1 : Int32)).toUInt32 &&& Int32.toUInt32 31)).toInt32 &&& (1431655765 : Int32))) &&& (858993459 : Int32)) + ((((l0 - (((l0).toUInt32 >>> (((1 : Int32)).toUInt32 &&& Int32.toUInt32 31)).toInt32 &&& (1431655765 : Int32)))).toUInt32 >>> (((2 : Int32)).toUInt32 &&& Int32.toUInt32 31)).toInt32 &&& (858993459 : Int32)))).toUInt32 >>> (((4 : Int32)).toUInt32 &&& Int32.toUInt32 31)).toInt32) &&& (252645135 : Int32)) + (((((((l0 - (((l0).toUInt32 >>> (((1 : Int32)).toUInt32 &&& Int32.toUInt32 31)).toInt32 &&& (1431655765 : Int32))) &&& (858993459 : Int32)) + ((((l0 - (((l0).toUInt32 >>> (((1 : Int32)).toUInt32 &&& Int32.toUInt32 31)).toInt32 &&& (1431655765 : Int32)))).toUInt32 >>> (((2 : Int32)).toUInt32 &&& Int32.toUInt32 31)).toInt32 &&& (858993459 : Int32))) + (((((l0 - (((l0).toUInt32 >>> (((1 : Int32)).toUInt32 &&& Int32.toUInt32 31)).toInt32 &&& (1431655765 : Int32))) &&& (858993459 : Int32)) + ((((l0 - (((l0).toUInt32 >>> (((1 : Int32)).toUInt32 &&& Int32.toUInt32 31)).toInt32 &&& (1431655765 : Int32)))).toUInt32 >>> (((2 : Int32)).toUInt32 &&& Int32.toUInt32 31)).toInt32 &&& (858993459 : Int32)))).toUInt32 >>> (((4 : Int32)).toUInt32 &&& Int32.toUInt32 31)).toInt32) &&& (252645135 : Int32))).toUInt32 >>> (((8 : Int32)).toUInt32 &&& Int32.toUInt32 31)).toInt32) + ((((((((l0 - (((l0).toUInt32 >>> (((1 : Int32)).toUInt32 &&& Int32.toUInt32 31)).toInt32 &&& (1431655765 : Int32))) &&& (858993459 : Int32)) + ((((l0 - (((l0).toUInt32 >>> (((1 : Int32)).toUInt32 &&& Int32.toUInt32 31)).toInt32 &&& (1431655765 : Int32)))).toUInt32 >>> (((2 : Int32)).toUInt32 &&& Int32.toUInt32 31)).toInt32 &&& (858993459 : Int32))) + (((((l0 - (((l0).toUInt32 >>> (((1 : Int32)).toUInt32 &&& Int32.toUInt32 31)).toInt32 &&& (1431655765 : Int32))) &&& (858993459 : Int32)) + ((((l0 - (((l0).toUInt32 >>> (((1 : Int32)).toUInt32 &&& Int32.toUInt32 31)).toInt32 &&& (1431655765 : Int32)))).toUInt32 >>> (((2 : Int32)).toUInt32 &&& Int32.toUInt32 31)).toInt32 &&& (858993459 : Int32)))).toUInt32 >>> (((4 : Int32)).toUInt32 &&& Int32.toUInt32 31)).toInt32) &&& (252645135 : Int32)) + (((((((l0 - (((l0).toUInt32 >>> (((1 : Int32)).toUInt32 &&& Int32.toUInt32 31)).toInt32 &&& (1431655765 : Int32))) &&& (858993459 : Int32)) + ((((l0 - (((l0).toUInt32 >>> (((1 : Int32)).toUInt32 &&& Int32.toUInt32 31)).toInt32 &&& (1431655765 : Int32)))).toUInt32 >>> (((2 : Int32)).toUInt32 &&& Int32.toUInt32 31)).toInt32 &&& (858993459 : Int32))) + (((((l0 - (((l0).toUInt32 >>> (((1 : Int32)).toUInt32 &&& Int32.toUInt32 31)).toInt32 &&& (1431655765 : Int32))) &&& (858993459 : Int32)) + ((((l0 - (((l0).toUInt32 >>> (((1 : Int32)).toUInt32 &&& Int32.toUInt32 31)).toInt32 &&& (1431655765 : Int32)))).toUInt32 >>> (((2 : Int32)).toUInt32 &&& Int32.toUInt32 31)).toInt32 &&& (858993459 : Int32)))).toUInt32 >>> (((4 : Int32)).toUInt32 &&& Int32.toUInt32 31)).toInt32) &&& (252645135 : Int32))).toUInt32 >>> (((8 : Int32)).toUInt32 &&& Int32.toUInt32 31)).toInt32)).toUInt32 >>> (((16 : Int32)).toUInt32 &&& Int32.toUInt32 31)).toInt32) &&& (63 : Int32))
set_option maxHeartbeats 1000000 in
theorem T_J6_bitCount_0f7a4_b0 (M : gM) (r : Int32) (l0 : Int32) (h : F_J6_bitCount_0f7a4_b0 M l0 = some r) : GW 0 0 0 X_J6_bitCount_0f7a4 0 [(0, vi l0)] [] M (some (vi r), M) := by
  delta F_J6_bitCount_0f7a4_b0 at h
  refine GW_iload_n (X := X_J6_bitCount_0f7a4) (pc := 0) d_J6_bitCount_0f7a4_0 rfl 0 rfl ?_
  refine GW_iload_n (X := X_J6_bitCount_0f7a4) (pc := 1) d_J6_bitCount_0f7a4_1 rfl 0 rfl ?_
  refine GW_iconst (X := X_J6_bitCount_0f7a4) (pc := 2) (v := 1) d_J6_bitCount_0f7a4_2 (by decide) ?_
  refine GW_iushr (X := X_J6_bitCount_0f7a4) (pc := 3) d_J6_bitCount_0f7a4_3 ?_
  refine GW_ldcw (X := X_J6_bitCount_0f7a4) (pc := 4) d_J6_bitCount_0f7a4_4 m_818 ?_
  refine GW_iand (X := X_J6_bitCount_0f7a4) (pc := 7) d_J6_bitCount_0f7a4_7 ?_
  refine GW_isub (X := X_J6_bitCount_0f7a4) (pc := 8) d_J6_bitCount_0f7a4_8 ?_
  refine GW_istore_n (X := X_J6_bitCount_0f7a4) (pc := 9) d_J6_bitCount_0f7a4_9 rfl (Nat.le_of_ble_eq_true rfl) (lv2 := [(0, vi (l0 - (((l0).toUInt32 >>> (((1 : Int32)).toUInt32 &&& Int32.toUInt32 31)).toInt32 &&& (1431655765 : Int32))))]) rfl ?_
  refine GW_iload_n (X := X_J6_bitCount_0f7a4) (pc := 10) d_J6_bitCount_0f7a4_10 rfl 0 rfl ?_
  refine GW_ldcw (X := X_J6_bitCount_0f7a4) (pc := 11) d_J6_bitCount_0f7a4_11 m_819 ?_
  refine GW_iand (X := X_J6_bitCount_0f7a4) (pc := 14) d_J6_bitCount_0f7a4_14 ?_
  refine GW_iload_n (X := X_J6_bitCount_0f7a4) (pc := 15) d_J6_bitCount_0f7a4_15 rfl 0 rfl ?_
  refine GW_iconst (X := X_J6_bitCount_0f7a4) (pc := 16) (v := 2) d_J6_bitCount_0f7a4_16 (by decide) ?_
  refine GW_iushr (X := X_J6_bitCount_0f7a4) (pc := 17) d_J6_bitCount_0f7a4_17 ?_
  refine GW_ldcw (X := X_J6_bitCount_0f7a4) (pc := 18) d_J6_bitCount_0f7a4_18 m_819 ?_
  refine GW_iand (X := X_J6_bitCount_0f7a4) (pc := 21) d_J6_bitCount_0f7a4_21 ?_
  refine GW_iadd (X := X_J6_bitCount_0f7a4) (pc := 22) d_J6_bitCount_0f7a4_22 ?_
  refine GW_istore_n (X := X_J6_bitCount_0f7a4) (pc := 23) d_J6_bitCount_0f7a4_23 rfl (Nat.le_of_ble_eq_true rfl) (lv2 := [(0, vi (((l0 - (((l0).toUInt32 >>> (((1 : Int32)).toUInt32 &&& Int32.toUInt32 31)).toInt32 &&& (1431655765 : Int32))) &&& (858993459 : Int32)) + ((((l0 - (((l0).toUInt32 >>> (((1 : Int32)).toUInt32 &&& Int32.toUInt32 31)).toInt32 &&& (1431655765 : Int32)))).toUInt32 >>> (((2 : Int32)).toUInt32 &&& Int32.toUInt32 31)).toInt32 &&& (858993459 : Int32))))]) rfl ?_
  refine GW_iload_n (X := X_J6_bitCount_0f7a4) (pc := 24) d_J6_bitCount_0f7a4_24 rfl 0 rfl ?_
  refine GW_iload_n (X := X_J6_bitCount_0f7a4) (pc := 25) d_J6_bitCount_0f7a4_25 rfl 0 rfl ?_
  refine GW_iconst (X := X_J6_bitCount_0f7a4) (pc := 26) (v := 4) d_J6_bitCount_0f7a4_26 (by decide) ?_
  refine GW_iushr (X := X_J6_bitCount_0f7a4) (pc := 27) d_J6_bitCount_0f7a4_27 ?_
  refine GW_iadd (X := X_J6_bitCount_0f7a4) (pc := 28) d_J6_bitCount_0f7a4_28 ?_
  refine GW_ldcw (X := X_J6_bitCount_0f7a4) (pc := 29) d_J6_bitCount_0f7a4_29 m_820 ?_
  refine GW_iand (X := X_J6_bitCount_0f7a4) (pc := 32) d_J6_bitCount_0f7a4_32 ?_
  refine GW_istore_n (X := X_J6_bitCount_0f7a4) (pc := 33) d_J6_bitCount_0f7a4_33 rfl (Nat.le_of_ble_eq_true rfl) (lv2 := [(0, vi (((((l0 - (((l0).toUInt32 >>> (((1 : Int32)).toUInt32 &&& Int32.toUInt32 31)).toInt32 &&& (1431655765 : Int32))) &&& (858993459 : Int32)) + ((((l0 - (((l0).toUInt32 >>> (((1 : Int32)).toUInt32 &&& Int32.toUInt32 31)).toInt32 &&& (1431655765 : Int32)))).toUInt32 >>> (((2 : Int32)).toUInt32 &&& Int32.toUInt32 31)).toInt32 &&& (858993459 : Int32))) + (((((l0 - (((l0).toUInt32 >>> (((1 : Int32)).toUInt32 &&& Int32.toUInt32 31)).toInt32 &&& (1431655765 : Int32))) &&& (858993459 : Int32)) + ((((l0 - (((l0).toUInt32 >>> (((1 : Int32)).toUInt32 &&& Int32.toUInt32 31)).toInt32 &&& (1431655765 : Int32)))).toUInt32 >>> (((2 : Int32)).toUInt32 &&& Int32.toUInt32 31)).toInt32 &&& (858993459 : Int32)))).toUInt32 >>> (((4 : Int32)).toUInt32 &&& Int32.toUInt32 31)).toInt32) &&& (252645135 : Int32)))]) rfl ?_
  refine GW_iload_n (X := X_J6_bitCount_0f7a4) (pc := 34) d_J6_bitCount_0f7a4_34 rfl 0 rfl ?_
  refine GW_iload_n (X := X_J6_bitCount_0f7a4) (pc := 35) d_J6_bitCount_0f7a4_35 rfl 0 rfl ?_
  refine GW_bipush (X := X_J6_bitCount_0f7a4) (pc := 36) (v := 8) d_J6_bitCount_0f7a4_36 (by decide) ?_
  refine GW_iushr (X := X_J6_bitCount_0f7a4) (pc := 38) d_J6_bitCount_0f7a4_38 ?_
  refine GW_iadd (X := X_J6_bitCount_0f7a4) (pc := 39) d_J6_bitCount_0f7a4_39 ?_
  refine GW_istore_n (X := X_J6_bitCount_0f7a4) (pc := 40) d_J6_bitCount_0f7a4_40 rfl (Nat.le_of_ble_eq_true rfl) (lv2 := [(0, vi ((((((l0 - (((l0).toUInt32 >>> (((1 : Int32)).toUInt32 &&& Int32.toUInt32 31)).toInt32 &&& (1431655765 : Int32))) &&& (858993459 : Int32)) + ((((l0 - (((l0).toUInt32 >>> (((1 : Int32)).toUInt32 &&& Int32.toUInt32 31)).toInt32 &&& (1431655765 : Int32)))).toUInt32 >>> (((2 : Int32)).toUInt32 &&& Int32.toUInt32 31)).toInt32 &&& (858993459 : Int32))) + (((((l0 - (((l0).toUInt32 >>> (((1 : Int32)).toUInt32 &&& Int32.toUInt32 31)).toInt32 &&& (1431655765 : Int32))) &&& (858993459 : Int32)) + ((((l0 - (((l0).toUInt32 >>> (((1 : Int32)).toUInt32 &&& Int32.toUInt32 31)).toInt32 &&& (1431655765 : Int32)))).toUInt32 >>> (((2 : Int32)).toUInt32 &&& Int32.toUInt32 31)).toInt32 &&& (858993459 : Int32)))).toUInt32 >>> (((4 : Int32)).toUInt32 &&& Int32.toUInt32 31)).toInt32) &&& (252645135 : Int32)) + (((((((l0 - (((l0).toUInt32 >>> (((1 : Int32)).toUInt32 &&& Int32.toUInt32 31)).toInt32 &&& (1431655765 : Int32))) &&& (858993459 : Int32)) + ((((l0 - (((l0).toUInt32 >>> (((1 : Int32)).toUInt32 &&& Int32.toUInt32 31)).toInt32 &&& (1431655765 : Int32)))).toUInt32 >>> (((2 : Int32)).toUInt32 &&& Int32.toUInt32 31)).toInt32 &&& (858993459 : Int32))) + (((((l0 - (((l0).toUInt32 >>> (((1 : Int32)).toUInt32 &&& Int32.toUInt32 31)).toInt32 &&& (1431655765 : Int32))) &&& (858993459 : Int32)) + ((((l0 - (((l0).toUInt32 >>> (((1 : Int32)).toUInt32 &&& Int32.toUInt32 31)).toInt32 &&& (1431655765 : Int32)))).toUInt32 >>> (((2 : Int32)).toUInt32 &&& Int32.toUInt32 31)).toInt32 &&& (858993459 : Int32)))).toUInt32 >>> (((4 : Int32)).toUInt32 &&& Int32.toUInt32 31)).toInt32) &&& (252645135 : Int32))).toUInt32 >>> (((8 : Int32)).toUInt32 &&& Int32.toUInt32 31)).toInt32))]) rfl ?_
  refine GW_iload_n (X := X_J6_bitCount_0f7a4) (pc := 41) d_J6_bitCount_0f7a4_41 rfl 0 rfl ?_
  refine GW_iload_n (X := X_J6_bitCount_0f7a4) (pc := 42) d_J6_bitCount_0f7a4_42 rfl 0 rfl ?_
  refine GW_bipush (X := X_J6_bitCount_0f7a4) (pc := 43) (v := 16) d_J6_bitCount_0f7a4_43 (by decide) ?_
  refine GW_iushr (X := X_J6_bitCount_0f7a4) (pc := 45) d_J6_bitCount_0f7a4_45 ?_
  refine GW_iadd (X := X_J6_bitCount_0f7a4) (pc := 46) d_J6_bitCount_0f7a4_46 ?_
  refine GW_istore_n (X := X_J6_bitCount_0f7a4) (pc := 47) d_J6_bitCount_0f7a4_47 rfl (Nat.le_of_ble_eq_true rfl) (lv2 := [(0, vi (((((((l0 - (((l0).toUInt32 >>> (((1 : Int32)).toUInt32 &&& Int32.toUInt32 31)).toInt32 &&& (1431655765 : Int32))) &&& (858993459 : Int32)) + ((((l0 - (((l0).toUInt32 >>> (((1 : Int32)).toUInt32 &&& Int32.toUInt32 31)).toInt32 &&& (1431655765 : Int32)))).toUInt32 >>> (((2 : Int32)).toUInt32 &&& Int32.toUInt32 31)).toInt32 &&& (858993459 : Int32))) + (((((l0 - (((l0).toUInt32 >>> (((1 : Int32)).toUInt32 &&& Int32.toUInt32 31)).toInt32 &&& (1431655765 : Int32))) &&& (858993459 : Int32)) + ((((l0 - (((l0).toUInt32 >>> (((1 : Int32)).toUInt32 &&& Int32.toUInt32 31)).toInt32 &&& (1431655765 : Int32)))).toUInt32 >>> (((2 : Int32)).toUInt32 &&& Int32.toUInt32 31)).toInt32 &&& (858993459 : Int32)))).toUInt32 >>> (((4 : Int32)).toUInt32 &&& Int32.toUInt32 31)).toInt32) &&& (252645135 : Int32)) + (((((((l0 - (((l0).toUInt32 >>> (((1 : Int32)).toUInt32 &&& Int32.toUInt32 31)).toInt32 &&& (1431655765 : Int32))) &&& (858993459 : Int32)) + ((((l0 - (((l0).toUInt32 >>> (((1 : Int32)).toUInt32 &&& Int32.toUInt32 31)).toInt32 &&& (1431655765 : Int32)))).toUInt32 >>> (((2 : Int32)).toUInt32 &&& Int32.toUInt32 31)).toInt32 &&& (858993459 : Int32))) + (((((l0 - (((l0).toUInt32 >>> (((1 : Int32)).toUInt32 &&& Int32.toUInt32 31)).toInt32 &&& (1431655765 : Int32))) &&& (858993459 : Int32)) + ((((l0 - (((l0).toUInt32 >>> (((1 : Int32)).toUInt32 &&& Int32.toUInt32 31)).toInt32 &&& (1431655765 : Int32)))).toUInt32 >>> (((2 : Int32)).toUInt32 &&& Int32.toUInt32 31)).toInt32 &&& (858993459 : Int32)))).toUInt32 >>> (((4 : Int32)).toUInt32 &&& Int32.toUInt32 31)).toInt32) &&& (252645135 : Int32))).toUInt32 >>> (((8 : Int32)).toUInt32 &&& Int32.toUInt32 31)).toInt32) + ((((((((l0 - (((l0).toUInt32 >>> (((1 : Int32)).toUInt32 &&& Int32.toUInt32 31)).toInt32 &&& (1431655765 : Int32))) &&& (858993459 : Int32)) + ((((l0 - (((l0).toUInt32 >>> (((1 : Int32)).toUInt32 &&& Int32.toUInt32 31)).toInt32 &&& (1431655765 : Int32)))).toUInt32 >>> (((2 : Int32)).toUInt32 &&& Int32.toUInt32 31)).toInt32 &&& (858993459 : Int32))) + (((((l0 - (((l0).toUInt32 >>> (((1 : Int32)).toUInt32 &&& Int32.toUInt32 31)).toInt32 &&& (1431655765 : Int32))) &&& (858993459 : Int32)) + ((((l0 - (((l0).toUInt32 >>> (((1 : Int32)).toUInt32 &&& Int32.toUInt32 31)).toInt32 &&& (1431655765 : Int32)))).toUInt32 >>> (((2 : Int32)).toUInt32 &&& Int32.toUInt32 31)).toInt32 &&& (858993459 : Int32)))).toUInt32 >>> (((4 : Int32)).toUInt32 &&& Int32.toUInt32 31)).toInt32) &&& (252645135 : Int32)) + (((((((l0 - (((l0).toUInt32 >>> (((1 : Int32)).toUInt32 &&& Int32.toUInt32 31)).toInt32 &&& (1431655765 : Int32))) &&& (858993459 : Int32)) + ((((l0 - (((l0).toUInt32 >>> (((1 : Int32)).toUInt32 &&& Int32.toUInt32 31)).toInt32 &&& (1431655765 : Int32)))).toUInt32 >>> (((2 : Int32)).toUInt32 &&& Int32.toUInt32 31)).toInt32 &&& (858993459 : Int32))) + (((((l0 - (((l0).toUInt32 >>> (((1 : Int32)).toUInt32 &&& Int32.toUInt32 31)).toInt32 &&& (1431655765 : Int32))) &&& (858993459 : Int32)) + ((((l0 - (((l0).toUInt32 >>> (((1 : Int32)).toUInt32 &&& Int32.toUInt32 31)).toInt32 &&& (1431655765 : Int32)))).toUInt32 >>> (((2 : Int32)).toUInt32 &&& Int32.toUInt32 31)).toInt32 &&& (858993459 : Int32)))).toUInt32 >>> (((4 : Int32)).toUInt32 &&& Int32.toUInt32 31)).toInt32) &&& (252645135 : Int32))).toUInt32 >>> (((8 : Int32)).toUInt32 &&& Int32.toUInt32 31)).toInt32)).toUInt32 >>> (((16 : Int32)).toUInt32 &&& Int32.toUInt32 31)).toInt32))]) rfl ?_
  refine GW_iload_n (X := X_J6_bitCount_0f7a4) (pc := 48) d_J6_bitCount_0f7a4_48 rfl 0 rfl ?_
  refine GW_bipush (X := X_J6_bitCount_0f7a4) (pc := 49) (v := 63) d_J6_bitCount_0f7a4_49 (by decide) ?_
  refine GW_iand (X := X_J6_bitCount_0f7a4) (pc := 51) d_J6_bitCount_0f7a4_51 ?_
  replace h := Option.some.inj h
  subst h
  exact GW_ret (X := X_J6_bitCount_0f7a4) (pc := 52) d_J6_bitCount_0f7a4_52 rfl trivial
def F_J6_bitCount_0f7a4 (l0 : Int32) (M : gM) : Option Int32 := F_J6_bitCount_0f7a4_b0 M l0
theorem T_J6_bitCount_0f7a4 (l0 : Int32) (M : gM) (r : Int32) (h : F_J6_bitCount_0f7a4 l0 M = some r) : g_Met 0 0 0 yJ6_bitCount_0f7a4 X_J6_bitCount_0f7a4 [vi l0] M (some (vi r), M) :=
  g_Met_of pn__java_lang_Integer_ rfl (Nat.le_of_ble_eq_true rfl) (fun h => by cases h) (GW_sub [0] rfl (T_J6_bitCount_0f7a4_b0 M r l0 h))
/-! ForgetHeirs$Reckoner.look(LForgetHeirs$House;LForgetHeirs$State;II)V -/
theorem d_X5_look_0 : decode cX5_look 0 = .ok (.iload_n 3, 1) := by decide +kernel
theorem d_X5_look_1 : decode cX5_look 1 = .ok (.bipush 7, 2) := by decide +kernel
theorem d_X5_look_3 : decode cX5_look 3 = .ok (.imul, 1) := by decide +kernel
theorem d_X5_look_4 : decode cX5_look 4 = .ok (.iload 4, 2) := by decide +kernel
theorem d_X5_look_6 : decode cX5_look 6 = .ok (.iadd, 1) := by decide +kernel
theorem d_X5_look_7 : decode cX5_look 7 = .ok (.istore 5, 2) := by decide +kernel
theorem d_X5_look_9 : decode cX5_look 9 = .ok (.aload_n 0, 1) := by decide +kernel
theorem d_X5_look_10 : decode cX5_look 10 = .ok (.getfield 17, 3) := by decide +kernel
theorem d_X5_look_13 : decode cX5_look 13 = .ok (.iconst 0, 1) := by decide +kernel
theorem d_X5_look_14 : decode cX5_look 14 = .ok (.iload_n 3, 1) := by decide +kernel
theorem d_X5_look_15 : decode cX5_look 15 = .ok (.i2l, 1) := by decide +kernel
theorem d_X5_look_16 : decode cX5_look 16 = .ok (.lastore, 1) := by decide +kernel
theorem d_X5_look_17 : decode cX5_look 17 = .ok (.aload_n 0, 1) := by decide +kernel
theorem d_X5_look_18 : decode cX5_look 18 = .ok (.getfield 17, 3) := by decide +kernel
theorem d_X5_look_21 : decode cX5_look 21 = .ok (.iconst 1, 1) := by decide +kernel
theorem d_X5_look_22 : decode cX5_look 22 = .ok (.iload 4, 2) := by decide +kernel
theorem d_X5_look_24 : decode cX5_look 24 = .ok (.i2l, 1) := by decide +kernel
theorem d_X5_look_25 : decode cX5_look 25 = .ok (.lastore, 1) := by decide +kernel
theorem d_X5_look_26 : decode cX5_look 26 = .ok (.aload_n 0, 1) := by decide +kernel
theorem d_X5_look_27 : decode cX5_look 27 = .ok (.getfield 17, 3) := by decide +kernel
theorem d_X5_look_30 : decode cX5_look 30 = .ok (.iconst 2, 1) := by decide +kernel
theorem d_X5_look_31 : decode cX5_look 31 = .ok (.aload_n 2, 1) := by decide +kernel
theorem d_X5_look_32 : decode cX5_look 32 = .ok (.getfield 24, 3) := by decide +kernel
theorem d_X5_look_35 : decode cX5_look 35 = .ok (.iload 5, 2) := by decide +kernel
theorem d_X5_look_37 : decode cX5_look 37 = .ok (.iaload, 1) := by decide +kernel
theorem d_X5_look_38 : decode cX5_look 38 = .ok (.i2l, 1) := by decide +kernel
theorem d_X5_look_39 : decode cX5_look 39 = .ok (.lastore, 1) := by decide +kernel
theorem d_X5_look_40 : decode cX5_look 40 = .ok (.aload_n 0, 1) := by decide +kernel
theorem d_X5_look_41 : decode cX5_look 41 = .ok (.getfield 17, 3) := by decide +kernel
theorem d_X5_look_44 : decode cX5_look 44 = .ok (.iconst 3, 1) := by decide +kernel
theorem d_X5_look_45 : decode cX5_look 45 = .ok (.aload_n 2, 1) := by decide +kernel
theorem d_X5_look_46 : decode cX5_look 46 = .ok (.getfield 24, 3) := by decide +kernel
theorem d_X5_look_49 : decode cX5_look 49 = .ok (.iload 5, 2) := by decide +kernel
theorem d_X5_look_51 : decode cX5_look 51 = .ok (.iaload, 1) := by decide +kernel
theorem d_X5_look_52 : decode cX5_look 52 = .ok (.aload_n 1, 1) := by decide +kernel
theorem d_X5_look_53 : decode cX5_look 53 = .ok (.getfield 30, 3) := by decide +kernel
theorem d_X5_look_56 : decode cX5_look 56 = .ok (.iload 4, 2) := by decide +kernel
theorem d_X5_look_58 : decode cX5_look 58 = .ok (.iaload, 1) := by decide +kernel
theorem d_X5_look_59 : decode cX5_look 59 = .ok (.if_icmp .ne 7, 3) := by decide +kernel
theorem d_X5_look_62 : decode cX5_look 62 = .ok (.lconst 1, 1) := by decide +kernel
theorem d_X5_look_63 : decode cX5_look 63 = .ok (.goto 4, 3) := by decide +kernel
theorem d_X5_look_66 : decode cX5_look 66 = .ok (.lconst 0, 1) := by decide +kernel
theorem d_X5_look_67 : decode cX5_look 67 = .ok (.lastore, 1) := by decide +kernel
theorem d_X5_look_68 : decode cX5_look 68 = .ok (.aload_n 0, 1) := by decide +kernel
theorem d_X5_look_69 : decode cX5_look 69 = .ok (.getfield 17, 3) := by decide +kernel
theorem d_X5_look_72 : decode cX5_look 72 = .ok (.iconst 4, 1) := by decide +kernel
theorem d_X5_look_73 : decode cX5_look 73 = .ok (.aload_n 2, 1) := by decide +kernel
theorem d_X5_look_74 : decode cX5_look 74 = .ok (.getfield 35, 3) := by decide +kernel
theorem d_X5_look_77 : decode cX5_look 77 = .ok (.iload 5, 2) := by decide +kernel
theorem d_X5_look_79 : decode cX5_look 79 = .ok (.iaload, 1) := by decide +kernel
theorem d_X5_look_80 : decode cX5_look 80 = .ok (.i2l, 1) := by decide +kernel
theorem d_X5_look_81 : decode cX5_look 81 = .ok (.lastore, 1) := by decide +kernel
theorem d_X5_look_82 : decode cX5_look 82 = .ok (.aload_n 0, 1) := by decide +kernel
theorem d_X5_look_83 : decode cX5_look 83 = .ok (.getfield 17, 3) := by decide +kernel
theorem d_X5_look_86 : decode cX5_look 86 = .ok (.iconst 5, 1) := by decide +kernel
theorem d_X5_look_87 : decode cX5_look 87 = .ok (.aload_n 2, 1) := by decide +kernel
theorem d_X5_look_88 : decode cX5_look 88 = .ok (.getfield 38, 3) := by decide +kernel
theorem d_X5_look_91 : decode cX5_look 91 = .ok (.iload_n 3, 1) := by decide +kernel
theorem d_X5_look_92 : decode cX5_look 92 = .ok (.iaload, 1) := by decide +kernel
theorem d_X5_look_93 : decode cX5_look 93 = .ok (.i2l, 1) := by decide +kernel
theorem d_X5_look_94 : decode cX5_look 94 = .ok (.lastore, 1) := by decide +kernel
theorem d_X5_look_95 : decode cX5_look 95 = .ok (.aload_n 0, 1) := by decide +kernel
theorem d_X5_look_96 : decode cX5_look 96 = .ok (.getfield 17, 3) := by decide +kernel
theorem d_X5_look_99 : decode cX5_look 99 = .ok (.bipush 6, 2) := by decide +kernel
theorem d_X5_look_101 : decode cX5_look 101 = .ok (.aload_n 1, 1) := by decide +kernel
theorem d_X5_look_102 : decode cX5_look 102 = .ok (.getfield 41, 3) := by decide +kernel
theorem d_X5_look_105 : decode cX5_look 105 = .ok (.iload_n 3, 1) := by decide +kernel
theorem d_X5_look_106 : decode cX5_look 106 = .ok (.invokestatic 44, 3) := by decide +kernel
theorem d_X5_look_109 : decode cX5_look 109 = .ok (.i2l, 1) := by decide +kernel
theorem d_X5_look_110 : decode cX5_look 110 = .ok (.lastore, 1) := by decide +kernel
theorem d_X5_look_111 : decode cX5_look 111 = .ok (.aload_n 0, 1) := by decide +kernel
theorem d_X5_look_112 : decode cX5_look 112 = .ok (.getfield 17, 3) := by decide +kernel
theorem d_X5_look_115 : decode cX5_look 115 = .ok (.bipush 7, 2) := by decide +kernel
theorem d_X5_look_117 : decode cX5_look 117 = .ok (.aload_n 1, 1) := by decide +kernel
theorem d_X5_look_118 : decode cX5_look 118 = .ok (.getfield 48, 3) := by decide +kernel
theorem d_X5_look_121 : decode cX5_look 121 = .ok (.iload 4, 2) := by decide +kernel
theorem d_X5_look_123 : decode cX5_look 123 = .ok (.invokestatic 44, 3) := by decide +kernel
theorem d_X5_look_126 : decode cX5_look 126 = .ok (.i2l, 1) := by decide +kernel
theorem d_X5_look_127 : decode cX5_look 127 = .ok (.lastore, 1) := by decide +kernel
theorem d_X5_look_128 : decode cX5_look 128 = .ok (.aload_n 0, 1) := by decide +kernel
theorem d_X5_look_129 : decode cX5_look 129 = .ok (.getfield 17, 3) := by decide +kernel
theorem d_X5_look_132 : decode cX5_look 132 = .ok (.bipush 8, 2) := by decide +kernel
theorem d_X5_look_134 : decode cX5_look 134 = .ok (.aload_n 2, 1) := by decide +kernel
theorem d_X5_look_135 : decode cX5_look 135 = .ok (.getfield 51, 3) := by decide +kernel
theorem d_X5_look_138 : decode cX5_look 138 = .ok (.iload 4, 2) := by decide +kernel
theorem d_X5_look_140 : decode cX5_look 140 = .ok (.invokestatic 44, 3) := by decide +kernel
theorem d_X5_look_143 : decode cX5_look 143 = .ok (.i2l, 1) := by decide +kernel
theorem d_X5_look_144 : decode cX5_look 144 = .ok (.lastore, 1) := by decide +kernel
theorem d_X5_look_145 : decode cX5_look 145 = .ok (.aload_n 0, 1) := by decide +kernel
theorem d_X5_look_146 : decode cX5_look 146 = .ok (.getfield 17, 3) := by decide +kernel
theorem d_X5_look_149 : decode cX5_look 149 = .ok (.bipush 9, 2) := by decide +kernel
theorem d_X5_look_151 : decode cX5_look 151 = .ok (.aload_n 1, 1) := by decide +kernel
theorem d_X5_look_152 : decode cX5_look 152 = .ok (.getfield 54, 3) := by decide +kernel
theorem d_X5_look_155 : decode cX5_look 155 = .ok (.iload 4, 2) := by decide +kernel
theorem d_X5_look_157 : decode cX5_look 157 = .ok (.iaload, 1) := by decide +kernel
theorem d_X5_look_158 : decode cX5_look 158 = .ok (.i2l, 1) := by decide +kernel
theorem d_X5_look_159 : decode cX5_look 159 = .ok (.lastore, 1) := by decide +kernel
theorem d_X5_look_160 : decode cX5_look 160 = .ok (.aload_n 0, 1) := by decide +kernel
theorem d_X5_look_161 : decode cX5_look 161 = .ok (.getfield 17, 3) := by decide +kernel
theorem d_X5_look_164 : decode cX5_look 164 = .ok (.bipush 10, 2) := by decide +kernel
theorem d_X5_look_166 : decode cX5_look 166 = .ok (.aload_n 1, 1) := by decide +kernel
theorem d_X5_look_167 : decode cX5_look 167 = .ok (.getfield 57, 3) := by decide +kernel
theorem d_X5_look_170 : decode cX5_look 170 = .ok (.iload 4, 2) := by decide +kernel
theorem d_X5_look_172 : decode cX5_look 172 = .ok (.iaload, 1) := by decide +kernel
theorem d_X5_look_173 : decode cX5_look 173 = .ok (.i2l, 1) := by decide +kernel
theorem d_X5_look_174 : decode cX5_look 174 = .ok (.lastore, 1) := by decide +kernel
theorem d_X5_look_175 : decode cX5_look 175 = .ok (.aload_n 0, 1) := by decide +kernel
theorem d_X5_look_176 : decode cX5_look 176 = .ok (.getfield 17, 3) := by decide +kernel
theorem d_X5_look_179 : decode cX5_look 179 = .ok (.bipush 11, 2) := by decide +kernel
theorem d_X5_look_181 : decode cX5_look 181 = .ok (.aload_n 2, 1) := by decide +kernel
theorem d_X5_look_182 : decode cX5_look 182 = .ok (.getfield 60, 3) := by decide +kernel
theorem d_X5_look_185 : decode cX5_look 185 = .ok (.i2l, 1) := by decide +kernel
theorem d_X5_look_186 : decode cX5_look 186 = .ok (.lastore, 1) := by decide +kernel
theorem d_X5_look_187 : decode cX5_look 187 = .ok (.aload_n 0, 1) := by decide +kernel
theorem d_X5_look_188 : decode cX5_look 188 = .ok (.getfield 17, 3) := by decide +kernel
theorem d_X5_look_191 : decode cX5_look 191 = .ok (.bipush 12, 2) := by decide +kernel
theorem d_X5_look_193 : decode cX5_look 193 = .ok (.aload_n 2, 1) := by decide +kernel
theorem d_X5_look_194 : decode cX5_look 194 = .ok (.aload_n 1, 1) := by decide +kernel
theorem d_X5_look_195 : decode cX5_look 195 = .ok (.iload 4, 2) := by decide +kernel
theorem d_X5_look_197 : decode cX5_look 197 = .ok (.aload_n 2, 1) := by decide +kernel
theorem d_X5_look_198 : decode cX5_look 198 = .ok (.getfield 24, 3) := by decide +kernel
theorem d_X5_look_201 : decode cX5_look 201 = .ok (.iload 5, 2) := by decide +kernel
theorem d_X5_look_203 : decode cX5_look 203 = .ok (.iaload, 1) := by decide +kernel
theorem d_X5_look_204 : decode cX5_look 204 = .ok (.invokevirtual 63, 3) := by decide +kernel
theorem d_X5_look_207 : decode cX5_look 207 = .ok (.invokestatic 67, 3) := by decide +kernel
theorem d_X5_look_210 : decode cX5_look 210 = .ok (.iconst 1, 1) := by decide +kernel
theorem d_X5_look_211 : decode cX5_look 211 = .ok (.isub, 1) := by decide +kernel
theorem d_X5_look_212 : decode cX5_look 212 = .ok (.i2l, 1) := by decide +kernel
theorem d_X5_look_213 : decode cX5_look 213 = .ok (.lastore, 1) := by decide +kernel
theorem d_X5_look_214 : decode cX5_look 214 = .ok (.aload_n 0, 1) := by decide +kernel
theorem d_X5_look_215 : decode cX5_look 215 = .ok (.getfield 17, 3) := by decide +kernel
theorem d_X5_look_218 : decode cX5_look 218 = .ok (.bipush 13, 2) := by decide +kernel
theorem d_X5_look_220 : decode cX5_look 220 = .ok (.aload_n 2, 1) := by decide +kernel
theorem d_X5_look_221 : decode cX5_look 221 = .ok (.aload_n 1, 1) := by decide +kernel
theorem d_X5_look_222 : decode cX5_look 222 = .ok (.iload_n 3, 1) := by decide +kernel
theorem d_X5_look_223 : decode cX5_look 223 = .ok (.invokevirtual 73, 3) := by decide +kernel
theorem d_X5_look_226 : decode cX5_look 226 = .ok (.invokestatic 67, 3) := by decide +kernel
theorem d_X5_look_229 : decode cX5_look 229 = .ok (.i2l, 1) := by decide +kernel
theorem d_X5_look_230 : decode cX5_look 230 = .ok (.lastore, 1) := by decide +kernel
theorem d_X5_look_231 : decode cX5_look 231 = .ok (.return_, 1) := by decide +kernel
abbrev X_X5_look : gX := (RX5, cX5_look, 6, none, false)
def F_X5_look_b67 (l0 : Option Nat) (l1 : Option Nat) (l2 : Option Nat) (l3 : Int32) (l4 : Int32) (l5 : Int32) (s0 : Option Nat) (s1 : Int32) (s2 : Int64) (M : gM) : Option gM :=
  (sL M s0 s1 s2).bind fun M1 => (gR 5 M1 l0 1).bind fun v2 => (gR 8 M1 l2 1).bind fun v3 => (aI 20 M1 v3 l5).bind fun v4 => (sL M1 v2 (4 : Int32) (v4).toInt64).bind fun M5 => (gR 5 M5 l0 1).bind fun v6 => (gR 8 M5 l2 2).bind fun v7 => (aI 20 M5 v7 l3).bind fun v8 => (sL M5 v6 (5 : Int32) (v8).toInt64).bind fun M9 => (gR 5 M9 l0 1).bind fun v10 => (gI 1 M9 l1 10).bind fun v11 => (F_X11_bit v11 l3 M9).bind fun v12 => (sL M9 v10 (6 : Int32) (v12).toInt64).bind fun M13 => (gR 5 M13 l0 1).bind fun v14 => (gI 1 M13 l1 9).bind fun v15 => (F_X11_bit v15 l4 M13).bind fun v16 => (sL M13 v14 (7 : Int32) (v16).toInt64).bind fun M17 => (gR 5 M17 l0 1).bind fun v18 => (gI 8 M17 l2 4).bind fun v19 => (F_X11_bit v19 l4 M17).bind fun v20 => (sL M17 v18 (8 : Int32) (v20).toInt64).bind fun M21 => (gR 5 M21 l0 1).bind fun v22 => (gR 1 M21 l1 1).bind fun v23 => (aI 20 M21 v23 l4).bind fun v24 => (sL M21 v22 (9 : Int32) (v24).toInt64).bind fun M25 => (gR 5 M25 l0 1).bind fun v26 => (gR 1 M25 l1 2).bind fun v27 => (aI 20 M25 v27 l4).bind fun v28 => (sL M25 v26 (10 : Int32) (v28).toInt64).bind fun M29 => (gR 5 M29 l0 1).bind fun v30 => (gI 8 M29 l2 5).bind fun v31 => (sL M29 v30 (11 : Int32) (v31).toInt64).bind fun M32 => (gR 5 M32 l0 1).bind fun v33 => (gR 8 M32 l2 0).bind fun v34 => (aI 20 M32 v34 l5).bind fun v35 => (gO 8 M32 l2).bind fun i36 => (F_X8_knowersAs (some i36) l1 l4 v35 M32).bind fun v37 => (F_J6_bitCount_0f7a4 v37 M32).bind fun v38 => (sL M32 v33 (12 : Int32) ((v38 - (1 : Int32))).toInt64).bind fun M39 => (gR 5 M39 l0 1).bind fun v40 => (gC 8 M39 i36).bind fun _ => (F_X8_knownBy (some i36) l1 l3 M39).bind fun v42 => (F_J6_bitCount_0f7a4 v42 M39).bind fun v43 => (sL M39 v40 (13 : Int32) (v43).toInt64).bind fun M44 => some M44
set_option maxHeartbeats 4000000 in
theorem T_X5_look_b67 (r : gM) (l0 : Option Nat) (l1 : Option Nat) (l2 : Option Nat) (l3 : Int32) (l4 : Int32) (l5 : Int32) (s0 : Option Nat) (s1 : Int32) (s2 : Int64) (M : gM) (h : F_X5_look_b67 l0 l1 l2 l3 l4 l5 s0 s1 s2 M = some r) : GW 1 0 0 X_X5_look 67 [(0, vr l0), (1, vr l1), (2, vr l2), (3, vi l3), (4, vi l4), (5, vi l5)] [vl s2, vi s1, vr s0] M (none, r) := by
  delta F_X5_look_b67 at h
  replace h := g_bd h
  obtain ⟨M1, hM1, h⟩ := h
  refine GW_last (X := X_X5_look) (pc := 67) d_X5_look_67 hM1 ?_
  refine GW_aload_n (X := X_X5_look) (pc := 68) d_X5_look_68 rfl 0 rfl ?_
  replace h := g_bd h
  obtain ⟨v2, hv2, h⟩ := h
  refine GW_getR (X := X_X5_look) (pc := 69) f_X5_17 d_X5_look_69 hv2 (Or.inr ⟨_, ty_5_1⟩) ?_
  refine GW_iconst (X := X_X5_look) (pc := 72) (v := 4) d_X5_look_72 (by decide) ?_
  refine GW_aload_n (X := X_X5_look) (pc := 73) d_X5_look_73 rfl 2 rfl ?_
  replace h := g_bd h
  obtain ⟨v3, hv3, h⟩ := h
  refine GW_getR (X := X_X5_look) (pc := 74) f_X5_35 d_X5_look_74 hv3 (Or.inr ⟨_, ty_8_1⟩) ?_
  refine GW_iload (X := X_X5_look) (pc := 77) d_X5_look_77 5 rfl ?_
  replace h := g_bd h
  obtain ⟨v4, hv4, h⟩ := h
  refine GW_iald (X := X_X5_look) (pc := 79) d_X5_look_79 hv4 ?_
  refine GW_i2l (X := X_X5_look) (pc := 80) d_X5_look_80 ?_
  replace h := g_bd h
  obtain ⟨M5, hM5, h⟩ := h
  refine GW_last (X := X_X5_look) (pc := 81) d_X5_look_81 hM5 ?_
  refine GW_aload_n (X := X_X5_look) (pc := 82) d_X5_look_82 rfl 0 rfl ?_
  replace h := g_bd h
  obtain ⟨v6, hv6, h⟩ := h
  refine GW_getR (X := X_X5_look) (pc := 83) f_X5_17 d_X5_look_83 hv6 (Or.inr ⟨_, ty_5_1⟩) ?_
  refine GW_iconst (X := X_X5_look) (pc := 86) (v := 5) d_X5_look_86 (by decide) ?_
  refine GW_aload_n (X := X_X5_look) (pc := 87) d_X5_look_87 rfl 2 rfl ?_
  replace h := g_bd h
  obtain ⟨v7, hv7, h⟩ := h
  refine GW_getR (X := X_X5_look) (pc := 88) f_X5_38 d_X5_look_88 hv7 (Or.inr ⟨_, ty_8_2⟩) ?_
  refine GW_iload_n (X := X_X5_look) (pc := 91) d_X5_look_91 rfl 3 rfl ?_
  replace h := g_bd h
  obtain ⟨v8, hv8, h⟩ := h
  refine GW_iald (X := X_X5_look) (pc := 92) d_X5_look_92 hv8 ?_
  refine GW_i2l (X := X_X5_look) (pc := 93) d_X5_look_93 ?_
  replace h := g_bd h
  obtain ⟨M9, hM9, h⟩ := h
  refine GW_last (X := X_X5_look) (pc := 94) d_X5_look_94 hM9 ?_
  refine GW_aload_n (X := X_X5_look) (pc := 95) d_X5_look_95 rfl 0 rfl ?_
  replace h := g_bd h
  obtain ⟨v10, hv10, h⟩ := h
  refine GW_getR (X := X_X5_look) (pc := 96) f_X5_17 d_X5_look_96 hv10 (Or.inr ⟨_, ty_5_1⟩) ?_
  refine GW_bipush (X := X_X5_look) (pc := 99) (v := 6) d_X5_look_99 (by decide) ?_
  refine GW_aload_n (X := X_X5_look) (pc := 101) d_X5_look_101 rfl 1 rfl ?_
  replace h := g_bd h
  obtain ⟨v11, hv11, h⟩ := h
  refine GW_getI (X := X_X5_look) (pc := 102) f_X5_41 d_X5_look_102 hv11 (Or.inl ty_1_10) ?_
  refine GW_iload_n (X := X_X5_look) (pc := 105) d_X5_look_105 rfl 3 rfl ?_
  replace h := g_bd h
  obtain ⟨v12, hv12, h⟩ := h
  refine GW_callSN (X := X_X5_look) (pc := 106) (bc0 := 0) (bs0 := 0) (r := some (vi v12)) (M2 := M9) (host := RX11) (T_X11_bit v11 l3 M9 v12 hv12) (Nat.le_of_ble_eq_true rfl) (Nat.le_of_ble_eq_true rfl) yc_X11_bit (List.mem_of_getElem? (i := 14) rfl) ⟨m_646, m_116, m_647⟩ d_X5_look_106 rfl (st := [vi (6 : Int32), vr v10]) rfl (Nat.le_of_ble_eq_true rfl) (Nat.le_of_ble_eq_true rfl) (Nat.le_of_ble_eq_true rfl) (st2 := [vi v12, vi (6 : Int32), vr v10]) rfl ?_
  refine GW_i2l (X := X_X5_look) (pc := 109) d_X5_look_109 ?_
  replace h := g_bd h
  obtain ⟨M13, hM13, h⟩ := h
  refine GW_last (X := X_X5_look) (pc := 110) d_X5_look_110 hM13 ?_
  refine GW_aload_n (X := X_X5_look) (pc := 111) d_X5_look_111 rfl 0 rfl ?_
  replace h := g_bd h
  obtain ⟨v14, hv14, h⟩ := h
  refine GW_getR (X := X_X5_look) (pc := 112) f_X5_17 d_X5_look_112 hv14 (Or.inr ⟨_, ty_5_1⟩) ?_
  refine GW_bipush (X := X_X5_look) (pc := 115) (v := 7) d_X5_look_115 (by decide) ?_
  refine GW_aload_n (X := X_X5_look) (pc := 117) d_X5_look_117 rfl 1 rfl ?_
  replace h := g_bd h
  obtain ⟨v15, hv15, h⟩ := h
  refine GW_getI (X := X_X5_look) (pc := 118) f_X5_48 d_X5_look_118 hv15 (Or.inl ty_1_9) ?_
  refine GW_iload (X := X_X5_look) (pc := 121) d_X5_look_121 4 rfl ?_
  replace h := g_bd h
  obtain ⟨v16, hv16, h⟩ := h
  refine GW_callSN (X := X_X5_look) (pc := 123) (bc0 := 0) (bs0 := 0) (r := some (vi v16)) (M2 := M13) (host := RX11) (T_X11_bit v15 l4 M13 v16 hv16) (Nat.le_of_ble_eq_true rfl) (Nat.le_of_ble_eq_true rfl) yc_X11_bit (List.mem_of_getElem? (i := 14) rfl) ⟨m_646, m_116, m_647⟩ d_X5_look_123 rfl (st := [vi (7 : Int32), vr v14]) rfl (Nat.le_of_ble_eq_true rfl) (Nat.le_of_ble_eq_true rfl) (Nat.le_of_ble_eq_true rfl) (st2 := [vi v16, vi (7 : Int32), vr v14]) rfl ?_
  refine GW_i2l (X := X_X5_look) (pc := 126) d_X5_look_126 ?_
  replace h := g_bd h
  obtain ⟨M17, hM17, h⟩ := h
  refine GW_last (X := X_X5_look) (pc := 127) d_X5_look_127 hM17 ?_
  refine GW_aload_n (X := X_X5_look) (pc := 128) d_X5_look_128 rfl 0 rfl ?_
  replace h := g_bd h
  obtain ⟨v18, hv18, h⟩ := h
  refine GW_getR (X := X_X5_look) (pc := 129) f_X5_17 d_X5_look_129 hv18 (Or.inr ⟨_, ty_5_1⟩) ?_
  refine GW_bipush (X := X_X5_look) (pc := 132) (v := 8) d_X5_look_132 (by decide) ?_
  refine GW_aload_n (X := X_X5_look) (pc := 134) d_X5_look_134 rfl 2 rfl ?_
  replace h := g_bd h
  obtain ⟨v19, hv19, h⟩ := h
  refine GW_getI (X := X_X5_look) (pc := 135) f_X5_51 d_X5_look_135 hv19 (Or.inl ty_8_4) ?_
  refine GW_iload (X := X_X5_look) (pc := 138) d_X5_look_138 4 rfl ?_
  replace h := g_bd h
  obtain ⟨v20, hv20, h⟩ := h
  refine GW_callSN (X := X_X5_look) (pc := 140) (bc0 := 0) (bs0 := 0) (r := some (vi v20)) (M2 := M17) (host := RX11) (T_X11_bit v19 l4 M17 v20 hv20) (Nat.le_of_ble_eq_true rfl) (Nat.le_of_ble_eq_true rfl) yc_X11_bit (List.mem_of_getElem? (i := 14) rfl) ⟨m_646, m_116, m_647⟩ d_X5_look_140 rfl (st := [vi (8 : Int32), vr v18]) rfl (Nat.le_of_ble_eq_true rfl) (Nat.le_of_ble_eq_true rfl) (Nat.le_of_ble_eq_true rfl) (st2 := [vi v20, vi (8 : Int32), vr v18]) rfl ?_
  refine GW_i2l (X := X_X5_look) (pc := 143) d_X5_look_143 ?_
  replace h := g_bd h
  obtain ⟨M21, hM21, h⟩ := h
  refine GW_last (X := X_X5_look) (pc := 144) d_X5_look_144 hM21 ?_
  refine GW_aload_n (X := X_X5_look) (pc := 145) d_X5_look_145 rfl 0 rfl ?_
  replace h := g_bd h
  obtain ⟨v22, hv22, h⟩ := h
  refine GW_getR (X := X_X5_look) (pc := 146) f_X5_17 d_X5_look_146 hv22 (Or.inr ⟨_, ty_5_1⟩) ?_
  refine GW_bipush (X := X_X5_look) (pc := 149) (v := 9) d_X5_look_149 (by decide) ?_
  refine GW_aload_n (X := X_X5_look) (pc := 151) d_X5_look_151 rfl 1 rfl ?_
  replace h := g_bd h
  obtain ⟨v23, hv23, h⟩ := h
  refine GW_getR (X := X_X5_look) (pc := 152) f_X5_54 d_X5_look_152 hv23 (Or.inr ⟨_, ty_1_1⟩) ?_
  refine GW_iload (X := X_X5_look) (pc := 155) d_X5_look_155 4 rfl ?_
  replace h := g_bd h
  obtain ⟨v24, hv24, h⟩ := h
  refine GW_iald (X := X_X5_look) (pc := 157) d_X5_look_157 hv24 ?_
  refine GW_i2l (X := X_X5_look) (pc := 158) d_X5_look_158 ?_
  replace h := g_bd h
  obtain ⟨M25, hM25, h⟩ := h
  refine GW_last (X := X_X5_look) (pc := 159) d_X5_look_159 hM25 ?_
  refine GW_aload_n (X := X_X5_look) (pc := 160) d_X5_look_160 rfl 0 rfl ?_
  replace h := g_bd h
  obtain ⟨v26, hv26, h⟩ := h
  refine GW_getR (X := X_X5_look) (pc := 161) f_X5_17 d_X5_look_161 hv26 (Or.inr ⟨_, ty_5_1⟩) ?_
  refine GW_bipush (X := X_X5_look) (pc := 164) (v := 10) d_X5_look_164 (by decide) ?_
  refine GW_aload_n (X := X_X5_look) (pc := 166) d_X5_look_166 rfl 1 rfl ?_
  replace h := g_bd h
  obtain ⟨v27, hv27, h⟩ := h
  refine GW_getR (X := X_X5_look) (pc := 167) f_X5_57 d_X5_look_167 hv27 (Or.inr ⟨_, ty_1_2⟩) ?_
  refine GW_iload (X := X_X5_look) (pc := 170) d_X5_look_170 4 rfl ?_
  replace h := g_bd h
  obtain ⟨v28, hv28, h⟩ := h
  refine GW_iald (X := X_X5_look) (pc := 172) d_X5_look_172 hv28 ?_
  refine GW_i2l (X := X_X5_look) (pc := 173) d_X5_look_173 ?_
  replace h := g_bd h
  obtain ⟨M29, hM29, h⟩ := h
  refine GW_last (X := X_X5_look) (pc := 174) d_X5_look_174 hM29 ?_
  refine GW_aload_n (X := X_X5_look) (pc := 175) d_X5_look_175 rfl 0 rfl ?_
  replace h := g_bd h
  obtain ⟨v30, hv30, h⟩ := h
  refine GW_getR (X := X_X5_look) (pc := 176) f_X5_17 d_X5_look_176 hv30 (Or.inr ⟨_, ty_5_1⟩) ?_
  refine GW_bipush (X := X_X5_look) (pc := 179) (v := 11) d_X5_look_179 (by decide) ?_
  refine GW_aload_n (X := X_X5_look) (pc := 181) d_X5_look_181 rfl 2 rfl ?_
  replace h := g_bd h
  obtain ⟨v31, hv31, h⟩ := h
  refine GW_getI (X := X_X5_look) (pc := 182) f_X5_60 d_X5_look_182 hv31 (Or.inl ty_8_5) ?_
  refine GW_i2l (X := X_X5_look) (pc := 185) d_X5_look_185 ?_
  replace h := g_bd h
  obtain ⟨M32, hM32, h⟩ := h
  refine GW_last (X := X_X5_look) (pc := 186) d_X5_look_186 hM32 ?_
  refine GW_aload_n (X := X_X5_look) (pc := 187) d_X5_look_187 rfl 0 rfl ?_
  replace h := g_bd h
  obtain ⟨v33, hv33, h⟩ := h
  refine GW_getR (X := X_X5_look) (pc := 188) f_X5_17 d_X5_look_188 hv33 (Or.inr ⟨_, ty_5_1⟩) ?_
  refine GW_bipush (X := X_X5_look) (pc := 191) (v := 12) d_X5_look_191 (by decide) ?_
  refine GW_aload_n (X := X_X5_look) (pc := 193) d_X5_look_193 rfl 2 rfl ?_
  refine GW_aload_n (X := X_X5_look) (pc := 194) d_X5_look_194 rfl 1 rfl ?_
  refine GW_iload (X := X_X5_look) (pc := 195) d_X5_look_195 4 rfl ?_
  refine GW_aload_n (X := X_X5_look) (pc := 197) d_X5_look_197 rfl 2 rfl ?_
  replace h := g_bd h
  obtain ⟨v34, hv34, h⟩ := h
  refine GW_getR (X := X_X5_look) (pc := 198) f_X5_24 d_X5_look_198 hv34 (Or.inr ⟨_, ty_8_0⟩) ?_
  refine GW_iload (X := X_X5_look) (pc := 201) d_X5_look_201 5 rfl ?_
  replace h := g_bd h
  obtain ⟨v35, hv35, h⟩ := h
  refine GW_iald (X := X_X5_look) (pc := 203) d_X5_look_203 hv35 ?_
  replace h := g_bd h
  obtain ⟨i36, hi36, h⟩ := h
  obtain ⟨rfl, ki36⟩ := g_gO hi36
  replace h := g_bd h
  obtain ⟨v37, hv37, h⟩ := h
  refine GW_callV (X := X_X5_look) (pc := 204) (bc0 := 0) (bs0 := 0) (r := some (vi v37)) (M2 := M32) (c0 := 8) (T_X8_knowersAs (some i36) l1 l4 v35 M32 v37 hv37) (Nat.le_of_ble_eq_true rfl) (Nat.le_of_ble_eq_true rfl) rfl g_cok8 ki36 yc_X8_knowersAs ⟨m_853, m_854, m_855, m_119, m_856⟩ d_X5_look_204 rfl (st := [vi (12 : Int32), vr v33]) rfl (Nat.le_of_ble_eq_true rfl) (Nat.le_of_ble_eq_true rfl) (Nat.le_of_ble_eq_true rfl) (st2 := [vi v37, vi (12 : Int32), vr v33]) rfl ?_
  replace h := g_bd h
  obtain ⟨v38, hv38, h⟩ := h
  refine GW_callS (X := X_X5_look) (pc := 207) (bc0 := 0) (bs0 := 0) (r := some (vi v38)) (M2 := M32) (T_J6_bitCount_0f7a4 v37 M32 v38 hv38) (Nat.le_of_ble_eq_true rfl) (Nat.le_of_ble_eq_true rfl) yc_J6_bitCount_0f7a4 ⟨m_857, m_816, m_136, m_817⟩ d_X5_look_207 rfl (st := [vi (12 : Int32), vr v33]) rfl (Nat.le_of_ble_eq_true rfl) (Nat.le_of_ble_eq_true rfl) (Nat.le_of_ble_eq_true rfl) (st2 := [vi v38, vi (12 : Int32), vr v33]) rfl ?_
  refine GW_iconst (X := X_X5_look) (pc := 210) (v := 1) d_X5_look_210 (by decide) ?_
  refine GW_isub (X := X_X5_look) (pc := 211) d_X5_look_211 ?_
  refine GW_i2l (X := X_X5_look) (pc := 212) d_X5_look_212 ?_
  replace h := g_bd h
  obtain ⟨M39, hM39, h⟩ := h
  refine GW_last (X := X_X5_look) (pc := 213) d_X5_look_213 hM39 ?_
  refine GW_aload_n (X := X_X5_look) (pc := 214) d_X5_look_214 rfl 0 rfl ?_
  replace h := g_bd h
  obtain ⟨v40, hv40, h⟩ := h
  refine GW_getR (X := X_X5_look) (pc := 215) f_X5_17 d_X5_look_215 hv40 (Or.inr ⟨_, ty_5_1⟩) ?_
  refine GW_bipush (X := X_X5_look) (pc := 218) (v := 13) d_X5_look_218 (by decide) ?_
  refine GW_aload_n (X := X_X5_look) (pc := 220) d_X5_look_220 rfl 2 rfl ?_
  refine GW_aload_n (X := X_X5_look) (pc := 221) d_X5_look_221 rfl 1 rfl ?_
  refine GW_iload_n (X := X_X5_look) (pc := 222) d_X5_look_222 rfl 3 rfl ?_
  replace h := g_bd h
  obtain ⟨_, kk41, h⟩ := h
  replace kk41 := g_gC kk41
  replace h := g_bd h
  obtain ⟨v42, hv42, h⟩ := h
  refine GW_callV (X := X_X5_look) (pc := 223) (bc0 := 0) (bs0 := 0) (r := some (vi v42)) (M2 := M39) (c0 := 8) (T_X8_knownBy (some i36) l1 l3 M39 v42 hv42) (Nat.le_of_ble_eq_true rfl) (Nat.le_of_ble_eq_true rfl) rfl g_cok8 kk41 yc_X8_knownBy ⟨m_858, m_774, m_775, m_119, m_776⟩ d_X5_look_223 rfl (st := [vi (13 : Int32), vr v40]) rfl (Nat.le_of_ble_eq_true rfl) (Nat.le_of_ble_eq_true rfl) (Nat.le_of_ble_eq_true rfl) (st2 := [vi v42, vi (13 : Int32), vr v40]) rfl ?_
  replace h := g_bd h
  obtain ⟨v43, hv43, h⟩ := h
  refine GW_callS (X := X_X5_look) (pc := 226) (bc0 := 0) (bs0 := 0) (r := some (vi v43)) (M2 := M39) (T_J6_bitCount_0f7a4 v42 M39 v43 hv43) (Nat.le_of_ble_eq_true rfl) (Nat.le_of_ble_eq_true rfl) yc_J6_bitCount_0f7a4 ⟨m_857, m_816, m_136, m_817⟩ d_X5_look_226 rfl (st := [vi (13 : Int32), vr v40]) rfl (Nat.le_of_ble_eq_true rfl) (Nat.le_of_ble_eq_true rfl) (Nat.le_of_ble_eq_true rfl) (st2 := [vi v43, vi (13 : Int32), vr v40]) rfl ?_
  refine GW_i2l (X := X_X5_look) (pc := 229) d_X5_look_229 ?_
  replace h := g_bd h
  obtain ⟨M44, hM44, h⟩ := h
  refine GW_last (X := X_X5_look) (pc := 230) d_X5_look_230 hM44 ?_
  replace h := Option.some.inj h
  subst h
  exact GW_ret (X := X_X5_look) (pc := 231) d_X5_look_231 rfl trivial
def F_X5_look_b0 (l0 : Option Nat) (l1 : Option Nat) (l2 : Option Nat) (l3 : Int32) (l4 : Int32) (M : gM) : Option gM :=
  (gR 5 M l0 1).bind fun v1 => (sL M v1 (0 : Int32) (l3).toInt64).bind fun M2 => (gR 5 M2 l0 1).bind fun v3 => (sL M2 v3 (1 : Int32) (l4).toInt64).bind fun M4 => (gR 5 M4 l0 1).bind fun v5 => (gR 8 M4 l2 0).bind fun v6 => (aI 20 M4 v6 ((l3 * (7 : Int32)) + l4)).bind fun v7 => (sL M4 v5 (2 : Int32) (v7).toInt64).bind fun M8 => (gR 5 M8 l0 1).bind fun v9 => (gR 8 M8 l2 0).bind fun v10 => (aI 20 M8 v10 ((l3 * (7 : Int32)) + l4)).bind fun v11 => (gR 1 M8 l1 0).bind fun v12 => (aI 20 M8 v12 l4).bind fun v13 => if v11 = v13 then (F_X5_look_b67 l0 l1 l2 l3 l4 ((l3 * (7 : Int32)) + l4) v9 (3 : Int32) (1 : Int64) M8) else (F_X5_look_b67 l0 l1 l2 l3 l4 ((l3 * (7 : Int32)) + l4) v9 (3 : Int32) (0 : Int64) M8)
set_option maxHeartbeats 1000000 in
theorem T_X5_look_b0 (r : gM) (l0 : Option Nat) (l1 : Option Nat) (l2 : Option Nat) (l3 : Int32) (l4 : Int32) (M : gM) (h : F_X5_look_b0 l0 l1 l2 l3 l4 M = some r) : GW 1 0 0 X_X5_look 0 [(0, vr l0), (1, vr l1), (2, vr l2), (3, vi l3), (4, vi l4)] [] M (none, r) := by
  delta F_X5_look_b0 at h
  refine GW_iload_n (X := X_X5_look) (pc := 0) d_X5_look_0 rfl 3 rfl ?_
  refine GW_bipush (X := X_X5_look) (pc := 1) (v := 7) d_X5_look_1 (by decide) ?_
  refine GW_imul (X := X_X5_look) (pc := 3) d_X5_look_3 ?_
  refine GW_iload (X := X_X5_look) (pc := 4) d_X5_look_4 4 rfl ?_
  refine GW_iadd (X := X_X5_look) (pc := 6) d_X5_look_6 ?_
  refine GW_istore (X := X_X5_look) (pc := 7) d_X5_look_7 (Nat.le_of_ble_eq_true rfl) (lv2 := [(5, vi ((l3 * (7 : Int32)) + l4)), (0, vr l0), (1, vr l1), (2, vr l2), (3, vi l3), (4, vi l4)]) rfl ?_
  refine GW_aload_n (X := X_X5_look) (pc := 9) d_X5_look_9 rfl 1 rfl ?_
  replace h := g_bd h
  obtain ⟨v1, hv1, h⟩ := h
  refine GW_getR (X := X_X5_look) (pc := 10) f_X5_17 d_X5_look_10 hv1 (Or.inr ⟨_, ty_5_1⟩) ?_
  refine GW_iconst (X := X_X5_look) (pc := 13) (v := 0) d_X5_look_13 (by decide) ?_
  refine GW_iload_n (X := X_X5_look) (pc := 14) d_X5_look_14 rfl 4 rfl ?_
  refine GW_i2l (X := X_X5_look) (pc := 15) d_X5_look_15 ?_
  replace h := g_bd h
  obtain ⟨M2, hM2, h⟩ := h
  refine GW_last (X := X_X5_look) (pc := 16) d_X5_look_16 hM2 ?_
  refine GW_aload_n (X := X_X5_look) (pc := 17) d_X5_look_17 rfl 1 rfl ?_
  replace h := g_bd h
  obtain ⟨v3, hv3, h⟩ := h
  refine GW_getR (X := X_X5_look) (pc := 18) f_X5_17 d_X5_look_18 hv3 (Or.inr ⟨_, ty_5_1⟩) ?_
  refine GW_iconst (X := X_X5_look) (pc := 21) (v := 1) d_X5_look_21 (by decide) ?_
  refine GW_iload (X := X_X5_look) (pc := 22) d_X5_look_22 5 rfl ?_
  refine GW_i2l (X := X_X5_look) (pc := 24) d_X5_look_24 ?_
  replace h := g_bd h
  obtain ⟨M4, hM4, h⟩ := h
  refine GW_last (X := X_X5_look) (pc := 25) d_X5_look_25 hM4 ?_
  refine GW_aload_n (X := X_X5_look) (pc := 26) d_X5_look_26 rfl 1 rfl ?_
  replace h := g_bd h
  obtain ⟨v5, hv5, h⟩ := h
  refine GW_getR (X := X_X5_look) (pc := 27) f_X5_17 d_X5_look_27 hv5 (Or.inr ⟨_, ty_5_1⟩) ?_
  refine GW_iconst (X := X_X5_look) (pc := 30) (v := 2) d_X5_look_30 (by decide) ?_
  refine GW_aload_n (X := X_X5_look) (pc := 31) d_X5_look_31 rfl 3 rfl ?_
  replace h := g_bd h
  obtain ⟨v6, hv6, h⟩ := h
  refine GW_getR (X := X_X5_look) (pc := 32) f_X5_24 d_X5_look_32 hv6 (Or.inr ⟨_, ty_8_0⟩) ?_
  refine GW_iload (X := X_X5_look) (pc := 35) d_X5_look_35 0 rfl ?_
  replace h := g_bd h
  obtain ⟨v7, hv7, h⟩ := h
  refine GW_iald (X := X_X5_look) (pc := 37) d_X5_look_37 hv7 ?_
  refine GW_i2l (X := X_X5_look) (pc := 38) d_X5_look_38 ?_
  replace h := g_bd h
  obtain ⟨M8, hM8, h⟩ := h
  refine GW_last (X := X_X5_look) (pc := 39) d_X5_look_39 hM8 ?_
  refine GW_aload_n (X := X_X5_look) (pc := 40) d_X5_look_40 rfl 1 rfl ?_
  replace h := g_bd h
  obtain ⟨v9, hv9, h⟩ := h
  refine GW_getR (X := X_X5_look) (pc := 41) f_X5_17 d_X5_look_41 hv9 (Or.inr ⟨_, ty_5_1⟩) ?_
  refine GW_iconst (X := X_X5_look) (pc := 44) (v := 3) d_X5_look_44 (by decide) ?_
  refine GW_aload_n (X := X_X5_look) (pc := 45) d_X5_look_45 rfl 3 rfl ?_
  replace h := g_bd h
  obtain ⟨v10, hv10, h⟩ := h
  refine GW_getR (X := X_X5_look) (pc := 46) f_X5_24 d_X5_look_46 hv10 (Or.inr ⟨_, ty_8_0⟩) ?_
  refine GW_iload (X := X_X5_look) (pc := 49) d_X5_look_49 0 rfl ?_
  replace h := g_bd h
  obtain ⟨v11, hv11, h⟩ := h
  refine GW_iald (X := X_X5_look) (pc := 51) d_X5_look_51 hv11 ?_
  refine GW_aload_n (X := X_X5_look) (pc := 52) d_X5_look_52 rfl 2 rfl ?_
  replace h := g_bd h
  obtain ⟨v12, hv12, h⟩ := h
  refine GW_getR (X := X_X5_look) (pc := 53) f_X5_30 d_X5_look_53 hv12 (Or.inr ⟨_, ty_1_0⟩) ?_
  refine GW_iload (X := X_X5_look) (pc := 56) d_X5_look_56 5 rfl ?_
  replace h := g_bd h
  obtain ⟨v13, hv13, h⟩ := h
  refine GW_iald (X := X_X5_look) (pc := 58) d_X5_look_58 hv13 ?_
  refine GW_icmp_ne (X := X_X5_look) (pc := 59) 66 d_X5_look_59 (by decide) (fun c => ?_) (fun c => ?_)
  · replace h := g_ie c h
    refine GW_lconst (X := X_X5_look) (pc := 66) (v := 0) d_X5_look_66 (by decide) ?_
    refine GW_sub [1, 2, 3, 4, 5, 0] rfl ?_
    exact T_X5_look_b67 r l0 l1 l2 l3 l4 ((l3 * (7 : Int32)) + l4) v9 (3 : Int32) (0 : Int64) M8 h
  · replace h := g_ip c h
    refine GW_lconst (X := X_X5_look) (pc := 62) (v := 1) d_X5_look_62 (by decide) ?_
    refine GW_goto (X := X_X5_look) (pc := 63) 67 d_X5_look_63 (by decide) ?_
    refine GW_sub [1, 2, 3, 4, 5, 0] rfl ?_
    exact T_X5_look_b67 r l0 l1 l2 l3 l4 ((l3 * (7 : Int32)) + l4) v9 (3 : Int32) (1 : Int64) M8 h
def F_X5_look (l0 : Option Nat) (l1 : Option Nat) (l2 : Option Nat) (l3 : Int32) (l4 : Int32) (M : gM) : Option gM := F_X5_look_b0 l0 l1 l2 l3 l4 M
theorem T_X5_look (l0 : Option Nat) (l1 : Option Nat) (l2 : Option Nat) (l3 : Int32) (l4 : Int32) (M : gM) (r : gM) (h : F_X5_look l0 l1 l2 l3 l4 M = some r) : g_Met 1 0 0 yX5_look X_X5_look [vr l0, vr l1, vr l2, vi l3, vi l4] M (none, r) :=
  g_Met_of pn_RX5 rfl (Nat.le_of_ble_eq_true rfl) (fun h => by cases h) (GW_sub [0, 1, 2, 3, 4] rfl (T_X5_look_b0 r l0 l1 l2 l3 l4 M h))
/-! ForgetHeirs$Reckoner.push(J)V -/
theorem d_X5_push_0 : decode cX5_push 0 = .ok (.aload_n 0, 1) := by decide +kernel
theorem d_X5_push_1 : decode cX5_push 1 = .ok (.getfield 20, 3) := by decide +kernel
theorem d_X5_push_4 : decode cX5_push 4 = .ok (.bipush 32, 2) := by decide +kernel
theorem d_X5_push_6 : decode cX5_push 6 = .ok (.if_icmp .ge 23, 3) := by decide +kernel
theorem d_X5_push_9 : decode cX5_push 9 = .ok (.aload_n 0, 1) := by decide +kernel
theorem d_X5_push_10 : decode cX5_push 10 = .ok (.getfield 11, 3) := by decide +kernel
theorem d_X5_push_13 : decode cX5_push 13 = .ok (.aload_n 0, 1) := by decide +kernel
theorem d_X5_push_14 : decode cX5_push 14 = .ok (.getfield 20, 3) := by decide +kernel
theorem d_X5_push_17 : decode cX5_push 17 = .ok (.lload_n 1, 1) := by decide +kernel
theorem d_X5_push_18 : decode cX5_push 18 = .ok (.lastore, 1) := by decide +kernel
theorem d_X5_push_19 : decode cX5_push 19 = .ok (.aload_n 0, 1) := by decide +kernel
theorem d_X5_push_20 : decode cX5_push 20 = .ok (.dup, 1) := by decide +kernel
theorem d_X5_push_21 : decode cX5_push 21 = .ok (.getfield 20, 3) := by decide +kernel
theorem d_X5_push_24 : decode cX5_push 24 = .ok (.iconst 1, 1) := by decide +kernel
theorem d_X5_push_25 : decode cX5_push 25 = .ok (.iadd, 1) := by decide +kernel
theorem d_X5_push_26 : decode cX5_push 26 = .ok (.putfield 20, 3) := by decide +kernel
theorem d_X5_push_29 : decode cX5_push 29 = .ok (.return_, 1) := by decide +kernel
abbrev X_X5_push : gX := (RX5, cX5_push, 3, none, false)
def F_X5_push_b0 (l0 : Option Nat) (l1 : Int64) (M : gM) : Option gM :=
  (gI 5 M l0 2).bind fun v1 => if (32 : Int32) ≤ v1 then (some M) else ((gR 5 M l0 0).bind fun v2 => (gI 5 M l0 2).bind fun v3 => (sL M v2 v3 l1).bind fun M4 => (gI 5 M4 l0 2).bind fun v5 => (pI 5 M4 l0 2 (v5 + (1 : Int32))).bind fun M6 => some M6)
theorem T_X5_push_b0 (r : gM) (l0 : Option Nat) (l1 : Int64) (M : gM) (h : F_X5_push_b0 l0 l1 M = some r) : GW 0 0 0 X_X5_push 0 [(0, vr l0), (1, vl l1)] [] M (none, r) := by
  delta F_X5_push_b0 at h
  refine GW_aload_n (X := X_X5_push) (pc := 0) d_X5_push_0 rfl 0 rfl ?_
  replace h := g_bd h
  obtain ⟨v1, hv1, h⟩ := h
  refine GW_getI (X := X_X5_push) (pc := 1) f_X5_20 d_X5_push_1 hv1 (Or.inl ty_5_2) ?_
  refine GW_bipush (X := X_X5_push) (pc := 4) (v := 32) d_X5_push_4 (by decide) ?_
  refine GW_icmp_ge (X := X_X5_push) (pc := 6) 29 d_X5_push_6 (by decide) (fun c => ?_) (fun c => ?_)
  · replace h := g_ip c h
    replace h := Option.some.inj h
    subst h
    exact GW_ret (X := X_X5_push) (pc := 29) d_X5_push_29 rfl trivial
  · replace h := g_ie c h
    refine GW_aload_n (X := X_X5_push) (pc := 9) d_X5_push_9 rfl 0 rfl ?_
    replace h := g_bd h
    obtain ⟨v2, hv2, h⟩ := h
    refine GW_getR (X := X_X5_push) (pc := 10) f_X5_11 d_X5_push_10 hv2 (Or.inr ⟨_, ty_5_0⟩) ?_
    refine GW_aload_n (X := X_X5_push) (pc := 13) d_X5_push_13 rfl 0 rfl ?_
    replace h := g_bd h
    obtain ⟨v3, hv3, h⟩ := h
    refine GW_getI (X := X_X5_push) (pc := 14) f_X5_20 d_X5_push_14 hv3 (Or.inl ty_5_2) ?_
    refine GW_lload_n (X := X_X5_push) (pc := 17) d_X5_push_17 rfl 1 rfl ?_
    replace h := g_bd h
    obtain ⟨M4, hM4, h⟩ := h
    refine GW_last (X := X_X5_push) (pc := 18) d_X5_push_18 hM4 ?_
    refine GW_aload_n (X := X_X5_push) (pc := 19) d_X5_push_19 rfl 0 rfl ?_
    refine GW_dup (X := X_X5_push) (pc := 20) d_X5_push_20 rfl ?_
    replace h := g_bd h
    obtain ⟨v5, hv5, h⟩ := h
    refine GW_getI (X := X_X5_push) (pc := 21) f_X5_20 d_X5_push_21 hv5 (Or.inl ty_5_2) ?_
    refine GW_iconst (X := X_X5_push) (pc := 24) (v := 1) d_X5_push_24 (by decide) ?_
    refine GW_iadd (X := X_X5_push) (pc := 25) d_X5_push_25 ?_
    replace h := g_bd h
    obtain ⟨M6, hM6, h⟩ := h
    refine GW_putI (X := X_X5_push) (pc := 26) f_X5_20 d_X5_push_26 hM6 (Or.inl fi_5_2) (Or.inl ty_5_2) ?_
    replace h := Option.some.inj h
    subst h
    exact GW_ret (X := X_X5_push) (pc := 29) d_X5_push_29 rfl trivial
def F_X5_push (l0 : Option Nat) (l1 : Int64) (M : gM) : Option gM := F_X5_push_b0 l0 l1 M
theorem T_X5_push (l0 : Option Nat) (l1 : Int64) (M : gM) (r : gM) (h : F_X5_push l0 l1 M = some r) : g_Met 0 0 0 yX5_push X_X5_push [vr l0, vl l1] M (none, r) :=
  g_Met_of pn_RX5 rfl (Nat.le_of_ble_eq_true rfl) (fun h => by cases h) (GW_sub [0, 1] rfl (T_X5_push_b0 r l0 l1 M h))
/-! ForgetHeirs$Reckoner.pop()J -/
theorem d_X5_pop_0 : decode cX5_pop 0 = .ok (.aload_n 0, 1) := by decide +kernel
theorem d_X5_pop_1 : decode cX5_pop 1 = .ok (.getfield 20, 3) := by decide +kernel
theorem d_X5_pop_4 : decode cX5_pop 4 = .ok (.iconst 1, 1) := by decide +kernel
theorem d_X5_pop_5 : decode cX5_pop 5 = .ok (.if_icmp .ge 5, 3) := by decide +kernel
theorem d_X5_pop_8 : decode cX5_pop 8 = .ok (.lconst 0, 1) := by decide +kernel
theorem d_X5_pop_9 : decode cX5_pop 9 = .ok (.lreturn, 1) := by decide +kernel
theorem d_X5_pop_10 : decode cX5_pop 10 = .ok (.aload_n 0, 1) := by decide +kernel
theorem d_X5_pop_11 : decode cX5_pop 11 = .ok (.dup, 1) := by decide +kernel
theorem d_X5_pop_12 : decode cX5_pop 12 = .ok (.getfield 20, 3) := by decide +kernel
theorem d_X5_pop_15 : decode cX5_pop 15 = .ok (.iconst 1, 1) := by decide +kernel
theorem d_X5_pop_16 : decode cX5_pop 16 = .ok (.isub, 1) := by decide +kernel
theorem d_X5_pop_17 : decode cX5_pop 17 = .ok (.putfield 20, 3) := by decide +kernel
theorem d_X5_pop_20 : decode cX5_pop 20 = .ok (.aload_n 0, 1) := by decide +kernel
theorem d_X5_pop_21 : decode cX5_pop 21 = .ok (.getfield 11, 3) := by decide +kernel
theorem d_X5_pop_24 : decode cX5_pop 24 = .ok (.aload_n 0, 1) := by decide +kernel
theorem d_X5_pop_25 : decode cX5_pop 25 = .ok (.getfield 20, 3) := by decide +kernel
theorem d_X5_pop_28 : decode cX5_pop 28 = .ok (.laload, 1) := by decide +kernel
theorem d_X5_pop_29 : decode cX5_pop 29 = .ok (.lreturn, 1) := by decide +kernel
abbrev X_X5_pop : gX := (RX5, cX5_pop, 1, (some .long), false)
def F_X5_pop_b0 (l0 : Option Nat) (M : gM) : Option (Int64 × gM) :=
  (gI 5 M l0 2).bind fun v1 => if (1 : Int32) ≤ v1 then ((gI 5 M l0 2).bind fun v2 => (pI 5 M l0 2 (v2 - (1 : Int32))).bind fun M3 => (gR 5 M3 l0 0).bind fun v4 => (gI 5 M3 l0 2).bind fun v5 => (aL M3 v4 v5).bind fun v6 => some (v6, M3)) else (some ((0 : Int64), M))
theorem T_X5_pop_b0 (r : (Int64 × gM)) (l0 : Option Nat) (M : gM) (h : F_X5_pop_b0 l0 M = some r) : GW 0 0 0 X_X5_pop 0 [(0, vr l0)] [] M (some (vl r.1), r.2) := by
  delta F_X5_pop_b0 at h
  refine GW_aload_n (X := X_X5_pop) (pc := 0) d_X5_pop_0 rfl 0 rfl ?_
  replace h := g_bd h
  obtain ⟨v1, hv1, h⟩ := h
  refine GW_getI (X := X_X5_pop) (pc := 1) f_X5_20 d_X5_pop_1 hv1 (Or.inl ty_5_2) ?_
  refine GW_iconst (X := X_X5_pop) (pc := 4) (v := 1) d_X5_pop_4 (by decide) ?_
  refine GW_icmp_ge (X := X_X5_pop) (pc := 5) 10 d_X5_pop_5 (by decide) (fun c => ?_) (fun c => ?_)
  · replace h := g_ip c h
    refine GW_aload_n (X := X_X5_pop) (pc := 10) d_X5_pop_10 rfl 0 rfl ?_
    refine GW_dup (X := X_X5_pop) (pc := 11) d_X5_pop_11 rfl ?_
    replace h := g_bd h
    obtain ⟨v2, hv2, h⟩ := h
    refine GW_getI (X := X_X5_pop) (pc := 12) f_X5_20 d_X5_pop_12 hv2 (Or.inl ty_5_2) ?_
    refine GW_iconst (X := X_X5_pop) (pc := 15) (v := 1) d_X5_pop_15 (by decide) ?_
    refine GW_isub (X := X_X5_pop) (pc := 16) d_X5_pop_16 ?_
    replace h := g_bd h
    obtain ⟨M3, hM3, h⟩ := h
    refine GW_putI (X := X_X5_pop) (pc := 17) f_X5_20 d_X5_pop_17 hM3 (Or.inl fi_5_2) (Or.inl ty_5_2) ?_
    refine GW_aload_n (X := X_X5_pop) (pc := 20) d_X5_pop_20 rfl 0 rfl ?_
    replace h := g_bd h
    obtain ⟨v4, hv4, h⟩ := h
    refine GW_getR (X := X_X5_pop) (pc := 21) f_X5_11 d_X5_pop_21 hv4 (Or.inr ⟨_, ty_5_0⟩) ?_
    refine GW_aload_n (X := X_X5_pop) (pc := 24) d_X5_pop_24 rfl 0 rfl ?_
    replace h := g_bd h
    obtain ⟨v5, hv5, h⟩ := h
    refine GW_getI (X := X_X5_pop) (pc := 25) f_X5_20 d_X5_pop_25 hv5 (Or.inl ty_5_2) ?_
    replace h := g_bd h
    obtain ⟨v6, hv6, h⟩ := h
    refine GW_lald (X := X_X5_pop) (pc := 28) d_X5_pop_28 hv6 ?_
    replace h := Option.some.inj h
    subst h
    exact GW_ret (X := X_X5_pop) (pc := 29) d_X5_pop_29 rfl trivial
  · replace h := g_ie c h
    refine GW_lconst (X := X_X5_pop) (pc := 8) (v := 0) d_X5_pop_8 (by decide) ?_
    replace h := Option.some.inj h
    subst h
    exact GW_ret (X := X_X5_pop) (pc := 9) d_X5_pop_9 rfl trivial
def F_X5_pop (l0 : Option Nat) (M : gM) : Option (Int64 × gM) := F_X5_pop_b0 l0 M
theorem T_X5_pop (l0 : Option Nat) (M : gM) (r : (Int64 × gM)) (h : F_X5_pop l0 M = some r) : g_Met 0 0 0 yX5_pop X_X5_pop [vr l0] M (some (vl r.1), r.2) :=
  g_Met_of pn_RX5 rfl (Nat.le_of_ble_eq_true rfl) (fun h => by cases h) (GW_sub [0] rfl (T_X5_pop_b0 r l0 M h))
/-! ForgetHeirs$Reckoner.joined(IJJ)J -/
theorem d_X5_joined_0 : decode cX5_joined 0 = .ok (.iload_n 0, 1) := by decide +kernel
theorem d_X5_joined_1 : decode cX5_joined 1 = .ok (.tableswitch 163 2 12 #[59, 63, 67, 71, 85, 99, 111, 123, 135, 147, 159], 59) := by decide +kernel
theorem d_X5_joined_60 : decode cX5_joined 60 = .ok (.lload_n 1, 1) := by decide +kernel
theorem d_X5_joined_61 : decode cX5_joined 61 = .ok (.lload_n 3, 1) := by decide +kernel
theorem d_X5_joined_62 : decode cX5_joined 62 = .ok (.ladd, 1) := by decide +kernel
theorem d_X5_joined_63 : decode cX5_joined 63 = .ok (.lreturn, 1) := by decide +kernel
theorem d_X5_joined_64 : decode cX5_joined 64 = .ok (.lload_n 1, 1) := by decide +kernel
theorem d_X5_joined_65 : decode cX5_joined 65 = .ok (.lload_n 3, 1) := by decide +kernel
theorem d_X5_joined_66 : decode cX5_joined 66 = .ok (.lsub, 1) := by decide +kernel
theorem d_X5_joined_67 : decode cX5_joined 67 = .ok (.lreturn, 1) := by decide +kernel
theorem d_X5_joined_68 : decode cX5_joined 68 = .ok (.lload_n 1, 1) := by decide +kernel
theorem d_X5_joined_69 : decode cX5_joined 69 = .ok (.lload_n 3, 1) := by decide +kernel
theorem d_X5_joined_70 : decode cX5_joined 70 = .ok (.lmul, 1) := by decide +kernel
theorem d_X5_joined_71 : decode cX5_joined 71 = .ok (.lreturn, 1) := by decide +kernel
theorem d_X5_joined_72 : decode cX5_joined 72 = .ok (.lload_n 3, 1) := by decide +kernel
theorem d_X5_joined_73 : decode cX5_joined 73 = .ok (.lconst 0, 1) := by decide +kernel
theorem d_X5_joined_74 : decode cX5_joined 74 = .ok (.lcmp, 1) := by decide +kernel
theorem d_X5_joined_75 : decode cX5_joined 75 = .ok (.ifCond .ne 7, 3) := by decide +kernel
theorem d_X5_joined_78 : decode cX5_joined 78 = .ok (.lconst 0, 1) := by decide +kernel
theorem d_X5_joined_79 : decode cX5_joined 79 = .ok (.goto 6, 3) := by decide +kernel
theorem d_X5_joined_82 : decode cX5_joined 82 = .ok (.lload_n 1, 1) := by decide +kernel
theorem d_X5_joined_83 : decode cX5_joined 83 = .ok (.lload_n 3, 1) := by decide +kernel
theorem d_X5_joined_84 : decode cX5_joined 84 = .ok (.ldiv, 1) := by decide +kernel
theorem d_X5_joined_85 : decode cX5_joined 85 = .ok (.lreturn, 1) := by decide +kernel
theorem d_X5_joined_86 : decode cX5_joined 86 = .ok (.lload_n 3, 1) := by decide +kernel
theorem d_X5_joined_87 : decode cX5_joined 87 = .ok (.lconst 0, 1) := by decide +kernel
theorem d_X5_joined_88 : decode cX5_joined 88 = .ok (.lcmp, 1) := by decide +kernel
theorem d_X5_joined_89 : decode cX5_joined 89 = .ok (.ifCond .ne 7, 3) := by decide +kernel
theorem d_X5_joined_92 : decode cX5_joined 92 = .ok (.lconst 0, 1) := by decide +kernel
theorem d_X5_joined_93 : decode cX5_joined 93 = .ok (.goto 6, 3) := by decide +kernel
theorem d_X5_joined_96 : decode cX5_joined 96 = .ok (.lload_n 1, 1) := by decide +kernel
theorem d_X5_joined_97 : decode cX5_joined 97 = .ok (.lload_n 3, 1) := by decide +kernel
theorem d_X5_joined_98 : decode cX5_joined 98 = .ok (.lrem, 1) := by decide +kernel
theorem d_X5_joined_99 : decode cX5_joined 99 = .ok (.lreturn, 1) := by decide +kernel
theorem d_X5_joined_100 : decode cX5_joined 100 = .ok (.lload_n 1, 1) := by decide +kernel
theorem d_X5_joined_101 : decode cX5_joined 101 = .ok (.lload_n 3, 1) := by decide +kernel
theorem d_X5_joined_102 : decode cX5_joined 102 = .ok (.lcmp, 1) := by decide +kernel
theorem d_X5_joined_103 : decode cX5_joined 103 = .ok (.ifCond .ge 7, 3) := by decide +kernel
theorem d_X5_joined_106 : decode cX5_joined 106 = .ok (.lconst 1, 1) := by decide +kernel
theorem d_X5_joined_107 : decode cX5_joined 107 = .ok (.goto 4, 3) := by decide +kernel
theorem d_X5_joined_110 : decode cX5_joined 110 = .ok (.lconst 0, 1) := by decide +kernel
theorem d_X5_joined_111 : decode cX5_joined 111 = .ok (.lreturn, 1) := by decide +kernel
theorem d_X5_joined_112 : decode cX5_joined 112 = .ok (.lload_n 1, 1) := by decide +kernel
theorem d_X5_joined_113 : decode cX5_joined 113 = .ok (.lload_n 3, 1) := by decide +kernel
theorem d_X5_joined_114 : decode cX5_joined 114 = .ok (.lcmp, 1) := by decide +kernel
theorem d_X5_joined_115 : decode cX5_joined 115 = .ok (.ifCond .gt 7, 3) := by decide +kernel
theorem d_X5_joined_118 : decode cX5_joined 118 = .ok (.lconst 1, 1) := by decide +kernel
theorem d_X5_joined_119 : decode cX5_joined 119 = .ok (.goto 4, 3) := by decide +kernel
theorem d_X5_joined_122 : decode cX5_joined 122 = .ok (.lconst 0, 1) := by decide +kernel
theorem d_X5_joined_123 : decode cX5_joined 123 = .ok (.lreturn, 1) := by decide +kernel
theorem d_X5_joined_124 : decode cX5_joined 124 = .ok (.lload_n 1, 1) := by decide +kernel
theorem d_X5_joined_125 : decode cX5_joined 125 = .ok (.lload_n 3, 1) := by decide +kernel
theorem d_X5_joined_126 : decode cX5_joined 126 = .ok (.lcmp, 1) := by decide +kernel
theorem d_X5_joined_127 : decode cX5_joined 127 = .ok (.ifCond .ne 7, 3) := by decide +kernel
theorem d_X5_joined_130 : decode cX5_joined 130 = .ok (.lconst 1, 1) := by decide +kernel
theorem d_X5_joined_131 : decode cX5_joined 131 = .ok (.goto 4, 3) := by decide +kernel
theorem d_X5_joined_134 : decode cX5_joined 134 = .ok (.lconst 0, 1) := by decide +kernel
theorem d_X5_joined_135 : decode cX5_joined 135 = .ok (.lreturn, 1) := by decide +kernel
theorem d_X5_joined_136 : decode cX5_joined 136 = .ok (.lload_n 1, 1) := by decide +kernel
theorem d_X5_joined_137 : decode cX5_joined 137 = .ok (.lload_n 3, 1) := by decide +kernel
theorem d_X5_joined_138 : decode cX5_joined 138 = .ok (.lcmp, 1) := by decide +kernel
theorem d_X5_joined_139 : decode cX5_joined 139 = .ok (.ifCond .lt 7, 3) := by decide +kernel
theorem d_X5_joined_142 : decode cX5_joined 142 = .ok (.lconst 1, 1) := by decide +kernel
theorem d_X5_joined_143 : decode cX5_joined 143 = .ok (.goto 4, 3) := by decide +kernel
theorem d_X5_joined_146 : decode cX5_joined 146 = .ok (.lconst 0, 1) := by decide +kernel
theorem d_X5_joined_147 : decode cX5_joined 147 = .ok (.lreturn, 1) := by decide +kernel
theorem d_X5_joined_148 : decode cX5_joined 148 = .ok (.lload_n 1, 1) := by decide +kernel
theorem d_X5_joined_149 : decode cX5_joined 149 = .ok (.lload_n 3, 1) := by decide +kernel
theorem d_X5_joined_150 : decode cX5_joined 150 = .ok (.lcmp, 1) := by decide +kernel
theorem d_X5_joined_151 : decode cX5_joined 151 = .ok (.ifCond .le 7, 3) := by decide +kernel
theorem d_X5_joined_154 : decode cX5_joined 154 = .ok (.lconst 1, 1) := by decide +kernel
theorem d_X5_joined_155 : decode cX5_joined 155 = .ok (.goto 4, 3) := by decide +kernel
theorem d_X5_joined_158 : decode cX5_joined 158 = .ok (.lconst 0, 1) := by decide +kernel
theorem d_X5_joined_159 : decode cX5_joined 159 = .ok (.lreturn, 1) := by decide +kernel
theorem d_X5_joined_160 : decode cX5_joined 160 = .ok (.lload_n 1, 1) := by decide +kernel
theorem d_X5_joined_161 : decode cX5_joined 161 = .ok (.lload_n 3, 1) := by decide +kernel
theorem d_X5_joined_162 : decode cX5_joined 162 = .ok (.land, 1) := by decide +kernel
theorem d_X5_joined_163 : decode cX5_joined 163 = .ok (.lreturn, 1) := by decide +kernel
theorem d_X5_joined_164 : decode cX5_joined 164 = .ok (.lload_n 1, 1) := by decide +kernel
theorem d_X5_joined_165 : decode cX5_joined 165 = .ok (.lload_n 3, 1) := by decide +kernel
theorem d_X5_joined_166 : decode cX5_joined 166 = .ok (.lor, 1) := by decide +kernel
theorem d_X5_joined_167 : decode cX5_joined 167 = .ok (.lreturn, 1) := by decide +kernel
abbrev X_X5_joined : gX := (RX5, cX5_joined, 5, (some .long), false)
def F_X5_joined_b0 (M : gM) (l0 : Int32) (l1 : Int64) (l3 : Int64) : Option Int64 :=
  if l0 = (2 : Int32) then (some (l1 + l3)) else if l0 = (3 : Int32) then (some (l1 - l3)) else if l0 = (4 : Int32) then (some (l1 * l3)) else if l0 = (5 : Int32) then (if (lg_cmp l3 (0 : Int64)) = 0 then (some (0 : Int64)) else (if l3 = 0 then none else some (l1 / l3))) else if l0 = (6 : Int32) then (if (lg_cmp l3 (0 : Int64)) = 0 then (some (0 : Int64)) else (if l3 = 0 then none else some (l1 - l1 / l3 * l3))) else if l0 = (7 : Int32) then (if 0 ≤ (lg_cmp l1 l3) then (some (0 : Int64)) else (some (1 : Int64))) else if l0 = (8 : Int32) then (if 0 < (lg_cmp l1 l3) then (some (0 : Int64)) else (some (1 : Int64))) else if l0 = (9 : Int32) then (if (lg_cmp l1 l3) = 0 then (some (1 : Int64)) else (some (0 : Int64))) else if l0 = (10 : Int32) then (if (lg_cmp l1 l3) < 0 then (some (0 : Int64)) else (some (1 : Int64))) else if l0 = (11 : Int32) then (if (lg_cmp l1 l3) ≤ 0 then (some (0 : Int64)) else (some (1 : Int64))) else if l0 = (12 : Int32) then (some (l1 &&& l3)) else (some (l1 ||| l3))
set_option maxHeartbeats 4000000 in
theorem T_X5_joined_b0 (M : gM) (r : Int64) (l0 : Int32) (l1 : Int64) (l3 : Int64) (h : F_X5_joined_b0 M l0 l1 l3 = some r) : GW 0 0 0 X_X5_joined 0 [(0, vi l0), (1, vl l1), (3, vl l3)] [] M (some (vl r), M) := by
  delta F_X5_joined_b0 at h
  refine GW_iload_n (X := X_X5_joined) (pc := 0) d_X5_joined_0 rfl 0 rfl ?_
  by_cases c0 : l0 = (2 : Int32)
  · replace h := g_ip c0 h
    refine GW_tableIn (X := X_X5_joined) (pc := 1) 60 d_X5_joined_1 (by rw [c0]; decide) (by rw [c0]; decide) (off := 59) (by rw [c0]; rfl) (by decide) ?_
    refine GW_lload_n (X := X_X5_joined) (pc := 60) d_X5_joined_60 rfl 1 rfl ?_
    refine GW_lload_n (X := X_X5_joined) (pc := 61) d_X5_joined_61 rfl 2 rfl ?_
    refine GW_ladd (X := X_X5_joined) (pc := 62) d_X5_joined_62 ?_
    replace h := Option.some.inj h
    subst h
    exact GW_ret (X := X_X5_joined) (pc := 63) d_X5_joined_63 rfl trivial
  · replace h := g_ie c0 h
    by_cases c1 : l0 = (3 : Int32)
    · replace h := g_ip c1 h
      refine GW_tableIn (X := X_X5_joined) (pc := 1) 64 d_X5_joined_1 (by rw [c1]; decide) (by rw [c1]; decide) (off := 63) (by rw [c1]; rfl) (by decide) ?_
      refine GW_lload_n (X := X_X5_joined) (pc := 64) d_X5_joined_64 rfl 1 rfl ?_
      refine GW_lload_n (X := X_X5_joined) (pc := 65) d_X5_joined_65 rfl 2 rfl ?_
      refine GW_lsub (X := X_X5_joined) (pc := 66) d_X5_joined_66 ?_
      replace h := Option.some.inj h
      subst h
      exact GW_ret (X := X_X5_joined) (pc := 67) d_X5_joined_67 rfl trivial
    · replace h := g_ie c1 h
      by_cases c2 : l0 = (4 : Int32)
      · replace h := g_ip c2 h
        refine GW_tableIn (X := X_X5_joined) (pc := 1) 68 d_X5_joined_1 (by rw [c2]; decide) (by rw [c2]; decide) (off := 67) (by rw [c2]; rfl) (by decide) ?_
        refine GW_lload_n (X := X_X5_joined) (pc := 68) d_X5_joined_68 rfl 1 rfl ?_
        refine GW_lload_n (X := X_X5_joined) (pc := 69) d_X5_joined_69 rfl 2 rfl ?_
        refine GW_lmul (X := X_X5_joined) (pc := 70) d_X5_joined_70 ?_
        replace h := Option.some.inj h
        subst h
        exact GW_ret (X := X_X5_joined) (pc := 71) d_X5_joined_71 rfl trivial
      · replace h := g_ie c2 h
        by_cases c3 : l0 = (5 : Int32)
        · replace h := g_ip c3 h
          refine GW_tableIn (X := X_X5_joined) (pc := 1) 72 d_X5_joined_1 (by rw [c3]; decide) (by rw [c3]; decide) (off := 71) (by rw [c3]; rfl) (by decide) ?_
          refine GW_lload_n (X := X_X5_joined) (pc := 72) d_X5_joined_72 rfl 2 rfl ?_
          refine GW_lconst (X := X_X5_joined) (pc := 73) (v := 0) d_X5_joined_73 (by decide) ?_
          refine GW_lcmp (X := X_X5_joined) (pc := 74) d_X5_joined_74 ?_
          refine GW_if_ne (X := X_X5_joined) (pc := 75) 82 d_X5_joined_75 (by decide) (fun c => ?_) (fun c => ?_)
          · replace h := g_ie c h
            refine GW_lload_n (X := X_X5_joined) (pc := 82) d_X5_joined_82 rfl 1 rfl ?_
            refine GW_lload_n (X := X_X5_joined) (pc := 83) d_X5_joined_83 rfl 2 rfl ?_
            replace h := g_ife h
            obtain ⟨hz1, h⟩ := h
            refine GW_ldiv (X := X_X5_joined) (pc := 84) d_X5_joined_84 hz1 ?_
            replace h := Option.some.inj h
            subst h
            exact GW_ret (X := X_X5_joined) (pc := 85) d_X5_joined_85 rfl trivial
          · replace h := g_ip c h
            refine GW_lconst (X := X_X5_joined) (pc := 78) (v := 0) d_X5_joined_78 (by decide) ?_
            refine GW_goto (X := X_X5_joined) (pc := 79) 85 d_X5_joined_79 (by decide) ?_
            replace h := Option.some.inj h
            subst h
            exact GW_ret (X := X_X5_joined) (pc := 85) d_X5_joined_85 rfl trivial
        · replace h := g_ie c3 h
          by_cases c4 : l0 = (6 : Int32)
          · replace h := g_ip c4 h
            refine GW_tableIn (X := X_X5_joined) (pc := 1) 86 d_X5_joined_1 (by rw [c4]; decide) (by rw [c4]; decide) (off := 85) (by rw [c4]; rfl) (by decide) ?_
            refine GW_lload_n (X := X_X5_joined) (pc := 86) d_X5_joined_86 rfl 2 rfl ?_
            refine GW_lconst (X := X_X5_joined) (pc := 87) (v := 0) d_X5_joined_87 (by decide) ?_
            refine GW_lcmp (X := X_X5_joined) (pc := 88) d_X5_joined_88 ?_
            refine GW_if_ne (X := X_X5_joined) (pc := 89) 96 d_X5_joined_89 (by decide) (fun c => ?_) (fun c => ?_)
            · replace h := g_ie c h
              refine GW_lload_n (X := X_X5_joined) (pc := 96) d_X5_joined_96 rfl 1 rfl ?_
              refine GW_lload_n (X := X_X5_joined) (pc := 97) d_X5_joined_97 rfl 2 rfl ?_
              replace h := g_ife h
              obtain ⟨hz2, h⟩ := h
              refine GW_lrem (X := X_X5_joined) (pc := 98) d_X5_joined_98 hz2 ?_
              replace h := Option.some.inj h
              subst h
              exact GW_ret (X := X_X5_joined) (pc := 99) d_X5_joined_99 rfl trivial
            · replace h := g_ip c h
              refine GW_lconst (X := X_X5_joined) (pc := 92) (v := 0) d_X5_joined_92 (by decide) ?_
              refine GW_goto (X := X_X5_joined) (pc := 93) 99 d_X5_joined_93 (by decide) ?_
              replace h := Option.some.inj h
              subst h
              exact GW_ret (X := X_X5_joined) (pc := 99) d_X5_joined_99 rfl trivial
          · replace h := g_ie c4 h
            by_cases c5 : l0 = (7 : Int32)
            · replace h := g_ip c5 h
              refine GW_tableIn (X := X_X5_joined) (pc := 1) 100 d_X5_joined_1 (by rw [c5]; decide) (by rw [c5]; decide) (off := 99) (by rw [c5]; rfl) (by decide) ?_
              refine GW_lload_n (X := X_X5_joined) (pc := 100) d_X5_joined_100 rfl 1 rfl ?_
              refine GW_lload_n (X := X_X5_joined) (pc := 101) d_X5_joined_101 rfl 2 rfl ?_
              refine GW_lcmp (X := X_X5_joined) (pc := 102) d_X5_joined_102 ?_
              refine GW_if_ge (X := X_X5_joined) (pc := 103) 110 d_X5_joined_103 (by decide) (fun c => ?_) (fun c => ?_)
              · replace h := g_ip c h
                refine GW_lconst (X := X_X5_joined) (pc := 110) (v := 0) d_X5_joined_110 (by decide) ?_
                replace h := Option.some.inj h
                subst h
                exact GW_ret (X := X_X5_joined) (pc := 111) d_X5_joined_111 rfl trivial
              · replace h := g_ie c h
                refine GW_lconst (X := X_X5_joined) (pc := 106) (v := 1) d_X5_joined_106 (by decide) ?_
                refine GW_goto (X := X_X5_joined) (pc := 107) 111 d_X5_joined_107 (by decide) ?_
                replace h := Option.some.inj h
                subst h
                exact GW_ret (X := X_X5_joined) (pc := 111) d_X5_joined_111 rfl trivial
            · replace h := g_ie c5 h
              by_cases c6 : l0 = (8 : Int32)
              · replace h := g_ip c6 h
                refine GW_tableIn (X := X_X5_joined) (pc := 1) 112 d_X5_joined_1 (by rw [c6]; decide) (by rw [c6]; decide) (off := 111) (by rw [c6]; rfl) (by decide) ?_
                refine GW_lload_n (X := X_X5_joined) (pc := 112) d_X5_joined_112 rfl 1 rfl ?_
                refine GW_lload_n (X := X_X5_joined) (pc := 113) d_X5_joined_113 rfl 2 rfl ?_
                refine GW_lcmp (X := X_X5_joined) (pc := 114) d_X5_joined_114 ?_
                refine GW_if_gt (X := X_X5_joined) (pc := 115) 122 d_X5_joined_115 (by decide) (fun c => ?_) (fun c => ?_)
                · replace h := g_ip c h
                  refine GW_lconst (X := X_X5_joined) (pc := 122) (v := 0) d_X5_joined_122 (by decide) ?_
                  replace h := Option.some.inj h
                  subst h
                  exact GW_ret (X := X_X5_joined) (pc := 123) d_X5_joined_123 rfl trivial
                · replace h := g_ie c h
                  refine GW_lconst (X := X_X5_joined) (pc := 118) (v := 1) d_X5_joined_118 (by decide) ?_
                  refine GW_goto (X := X_X5_joined) (pc := 119) 123 d_X5_joined_119 (by decide) ?_
                  replace h := Option.some.inj h
                  subst h
                  exact GW_ret (X := X_X5_joined) (pc := 123) d_X5_joined_123 rfl trivial
              · replace h := g_ie c6 h
                by_cases c7 : l0 = (9 : Int32)
                · replace h := g_ip c7 h
                  refine GW_tableIn (X := X_X5_joined) (pc := 1) 124 d_X5_joined_1 (by rw [c7]; decide) (by rw [c7]; decide) (off := 123) (by rw [c7]; rfl) (by decide) ?_
                  refine GW_lload_n (X := X_X5_joined) (pc := 124) d_X5_joined_124 rfl 1 rfl ?_
                  refine GW_lload_n (X := X_X5_joined) (pc := 125) d_X5_joined_125 rfl 2 rfl ?_
                  refine GW_lcmp (X := X_X5_joined) (pc := 126) d_X5_joined_126 ?_
                  refine GW_if_ne (X := X_X5_joined) (pc := 127) 134 d_X5_joined_127 (by decide) (fun c => ?_) (fun c => ?_)
                  · replace h := g_ie c h
                    refine GW_lconst (X := X_X5_joined) (pc := 134) (v := 0) d_X5_joined_134 (by decide) ?_
                    replace h := Option.some.inj h
                    subst h
                    exact GW_ret (X := X_X5_joined) (pc := 135) d_X5_joined_135 rfl trivial
                  · replace h := g_ip c h
                    refine GW_lconst (X := X_X5_joined) (pc := 130) (v := 1) d_X5_joined_130 (by decide) ?_
                    refine GW_goto (X := X_X5_joined) (pc := 131) 135 d_X5_joined_131 (by decide) ?_
                    replace h := Option.some.inj h
                    subst h
                    exact GW_ret (X := X_X5_joined) (pc := 135) d_X5_joined_135 rfl trivial
                · replace h := g_ie c7 h
                  by_cases c8 : l0 = (10 : Int32)
                  · replace h := g_ip c8 h
                    refine GW_tableIn (X := X_X5_joined) (pc := 1) 136 d_X5_joined_1 (by rw [c8]; decide) (by rw [c8]; decide) (off := 135) (by rw [c8]; rfl) (by decide) ?_
                    refine GW_lload_n (X := X_X5_joined) (pc := 136) d_X5_joined_136 rfl 1 rfl ?_
                    refine GW_lload_n (X := X_X5_joined) (pc := 137) d_X5_joined_137 rfl 2 rfl ?_
                    refine GW_lcmp (X := X_X5_joined) (pc := 138) d_X5_joined_138 ?_
                    refine GW_if_lt (X := X_X5_joined) (pc := 139) 146 d_X5_joined_139 (by decide) (fun c => ?_) (fun c => ?_)
                    · replace h := g_ip c h
                      refine GW_lconst (X := X_X5_joined) (pc := 146) (v := 0) d_X5_joined_146 (by decide) ?_
                      replace h := Option.some.inj h
                      subst h
                      exact GW_ret (X := X_X5_joined) (pc := 147) d_X5_joined_147 rfl trivial
                    · replace h := g_ie c h
                      refine GW_lconst (X := X_X5_joined) (pc := 142) (v := 1) d_X5_joined_142 (by decide) ?_
                      refine GW_goto (X := X_X5_joined) (pc := 143) 147 d_X5_joined_143 (by decide) ?_
                      replace h := Option.some.inj h
                      subst h
                      exact GW_ret (X := X_X5_joined) (pc := 147) d_X5_joined_147 rfl trivial
                  · replace h := g_ie c8 h
                    by_cases c9 : l0 = (11 : Int32)
                    · replace h := g_ip c9 h
                      refine GW_tableIn (X := X_X5_joined) (pc := 1) 148 d_X5_joined_1 (by rw [c9]; decide) (by rw [c9]; decide) (off := 147) (by rw [c9]; rfl) (by decide) ?_
                      refine GW_lload_n (X := X_X5_joined) (pc := 148) d_X5_joined_148 rfl 1 rfl ?_
                      refine GW_lload_n (X := X_X5_joined) (pc := 149) d_X5_joined_149 rfl 2 rfl ?_
                      refine GW_lcmp (X := X_X5_joined) (pc := 150) d_X5_joined_150 ?_
                      refine GW_if_le (X := X_X5_joined) (pc := 151) 158 d_X5_joined_151 (by decide) (fun c => ?_) (fun c => ?_)
                      · replace h := g_ip c h
                        refine GW_lconst (X := X_X5_joined) (pc := 158) (v := 0) d_X5_joined_158 (by decide) ?_
                        replace h := Option.some.inj h
                        subst h
                        exact GW_ret (X := X_X5_joined) (pc := 159) d_X5_joined_159 rfl trivial
                      · replace h := g_ie c h
                        refine GW_lconst (X := X_X5_joined) (pc := 154) (v := 1) d_X5_joined_154 (by decide) ?_
                        refine GW_goto (X := X_X5_joined) (pc := 155) 159 d_X5_joined_155 (by decide) ?_
                        replace h := Option.some.inj h
                        subst h
                        exact GW_ret (X := X_X5_joined) (pc := 159) d_X5_joined_159 rfl trivial
                    · replace h := g_ie c9 h
                      by_cases c10 : l0 = (12 : Int32)
                      · replace h := g_ip c10 h
                        refine GW_tableIn (X := X_X5_joined) (pc := 1) 160 d_X5_joined_1 (by rw [c10]; decide) (by rw [c10]; decide) (off := 159) (by rw [c10]; rfl) (by decide) ?_
                        refine GW_lload_n (X := X_X5_joined) (pc := 160) d_X5_joined_160 rfl 1 rfl ?_
                        refine GW_lload_n (X := X_X5_joined) (pc := 161) d_X5_joined_161 rfl 2 rfl ?_
                        refine GW_land (X := X_X5_joined) (pc := 162) d_X5_joined_162 ?_
                        replace h := Option.some.inj h
                        subst h
                        exact GW_ret (X := X_X5_joined) (pc := 163) d_X5_joined_163 rfl trivial
                      · replace h := g_ie c10 h
                        have n0 := g_nk (k := 2) c0 (by decide)
                        have n1 := g_nk (k := 3) c1 (by decide)
                        have n2 := g_nk (k := 4) c2 (by decide)
                        have n3 := g_nk (k := 5) c3 (by decide)
                        have n4 := g_nk (k := 6) c4 (by decide)
                        have n5 := g_nk (k := 7) c5 (by decide)
                        have n6 := g_nk (k := 8) c6 (by decide)
                        have n7 := g_nk (k := 9) c7 (by decide)
                        have n8 := g_nk (k := 10) c8 (by decide)
                        have n9 := g_nk (k := 11) c9 (by decide)
                        have n10 := g_nk (k := 12) c10 (by decide)
                        refine GW_tableOut (X := X_X5_joined) (pc := 1) 164 d_X5_joined_1 (by omega) (by decide) ?_
                        refine GW_lload_n (X := X_X5_joined) (pc := 164) d_X5_joined_164 rfl 1 rfl ?_
                        refine GW_lload_n (X := X_X5_joined) (pc := 165) d_X5_joined_165 rfl 2 rfl ?_
                        refine GW_lor (X := X_X5_joined) (pc := 166) d_X5_joined_166 ?_
                        replace h := Option.some.inj h
                        subst h
                        exact GW_ret (X := X_X5_joined) (pc := 167) d_X5_joined_167 rfl trivial
def F_X5_joined (l0 : Int32) (l1 : Int64) (l3 : Int64) (M : gM) : Option Int64 := F_X5_joined_b0 M l0 l1 l3
theorem T_X5_joined (l0 : Int32) (l1 : Int64) (l3 : Int64) (M : gM) (r : Int64) (h : F_X5_joined l0 l1 l3 M = some r) : g_Met 0 0 0 yX5_joined X_X5_joined [vi l0, vl l1, vl l3] M (some (vl r), M) :=
  g_Met_of pn_RX5 rfl (Nat.le_of_ble_eq_true rfl) (fun h => by cases h) (GW_sub [0, 1, 2] rfl (T_X5_joined_b0 M r l0 l1 l3 h))
/-! ForgetHeirs$Reckoner.run([III)J -/
theorem d_X5_run_0 : decode cX5_run 0 = .ok (.aload_n 0, 1) := by decide +kernel
theorem d_X5_run_1 : decode cX5_run 1 = .ok (.iconst 0, 1) := by decide +kernel
theorem d_X5_run_2 : decode cX5_run 2 = .ok (.putfield 20, 3) := by decide +kernel
theorem d_X5_run_5 : decode cX5_run 5 = .ok (.iload_n 2, 1) := by decide +kernel
theorem d_X5_run_6 : decode cX5_run 6 = .ok (.istore 4, 2) := by decide +kernel
theorem d_X5_run_8 : decode cX5_run 8 = .ok (.iload 4, 2) := by decide +kernel
theorem d_X5_run_10 : decode cX5_run 10 = .ok (.ifCond .lt 134, 3) := by decide +kernel
theorem d_X5_run_13 : decode cX5_run 13 = .ok (.iload 4, 2) := by decide +kernel
theorem d_X5_run_15 : decode cX5_run 15 = .ok (.iload_n 3, 1) := by decide +kernel
theorem d_X5_run_16 : decode cX5_run 16 = .ok (.if_icmp .ge 128, 3) := by decide +kernel
theorem d_X5_run_19 : decode cX5_run 19 = .ok (.iload 4, 2) := by decide +kernel
theorem d_X5_run_21 : decode cX5_run 21 = .ok (.aload_n 1, 1) := by decide +kernel
theorem d_X5_run_22 : decode cX5_run 22 = .ok (.arraylength, 1) := by decide +kernel
theorem d_X5_run_23 : decode cX5_run 23 = .ok (.if_icmp .ge 121, 3) := by decide +kernel
theorem d_X5_run_26 : decode cX5_run 26 = .ok (.aload_n 1, 1) := by decide +kernel
theorem d_X5_run_27 : decode cX5_run 27 = .ok (.iload 4, 2) := by decide +kernel
theorem d_X5_run_29 : decode cX5_run 29 = .ok (.iaload, 1) := by decide +kernel
theorem d_X5_run_30 : decode cX5_run 30 = .ok (.bipush 15, 2) := by decide +kernel
theorem d_X5_run_32 : decode cX5_run 32 = .ok (.iand, 1) := by decide +kernel
theorem d_X5_run_33 : decode cX5_run 33 = .ok (.istore 5, 2) := by decide +kernel
theorem d_X5_run_35 : decode cX5_run 35 = .ok (.aload_n 1, 1) := by decide +kernel
theorem d_X5_run_36 : decode cX5_run 36 = .ok (.iload 4, 2) := by decide +kernel
theorem d_X5_run_38 : decode cX5_run 38 = .ok (.iaload, 1) := by decide +kernel
theorem d_X5_run_39 : decode cX5_run 39 = .ok (.iconst 4, 1) := by decide +kernel
theorem d_X5_run_40 : decode cX5_run 40 = .ok (.ishr, 1) := by decide +kernel
theorem d_X5_run_41 : decode cX5_run 41 = .ok (.istore 6, 2) := by decide +kernel
theorem d_X5_run_43 : decode cX5_run 43 = .ok (.iload 5, 2) := by decide +kernel
theorem d_X5_run_45 : decode cX5_run 45 = .ok (.ifCond .ne 13, 3) := by decide +kernel
theorem d_X5_run_48 : decode cX5_run 48 = .ok (.aload_n 0, 1) := by decide +kernel
theorem d_X5_run_49 : decode cX5_run 49 = .ok (.iload 6, 2) := by decide +kernel
theorem d_X5_run_51 : decode cX5_run 51 = .ok (.i2l, 1) := by decide +kernel
theorem d_X5_run_52 : decode cX5_run 52 = .ok (.invokevirtual 89, 3) := by decide +kernel
theorem d_X5_run_55 : decode cX5_run 55 = .ok (.goto 83, 3) := by decide +kernel
theorem d_X5_run_58 : decode cX5_run 58 = .ok (.iload 5, 2) := by decide +kernel
theorem d_X5_run_60 : decode cX5_run 60 = .ok (.iconst 1, 1) := by decide +kernel
theorem d_X5_run_61 : decode cX5_run 61 = .ok (.if_icmp .ne 36, 3) := by decide +kernel
theorem d_X5_run_64 : decode cX5_run 64 = .ok (.aload_n 0, 1) := by decide +kernel
theorem d_X5_run_65 : decode cX5_run 65 = .ok (.iload 6, 2) := by decide +kernel
theorem d_X5_run_67 : decode cX5_run 67 = .ok (.ifCond .lt 23, 3) := by decide +kernel
theorem d_X5_run_70 : decode cX5_run 70 = .ok (.iload 6, 2) := by decide +kernel
theorem d_X5_run_72 : decode cX5_run 72 = .ok (.aload_n 0, 1) := by decide +kernel
theorem d_X5_run_73 : decode cX5_run 73 = .ok (.getfield 17, 3) := by decide +kernel
theorem d_X5_run_76 : decode cX5_run 76 = .ok (.arraylength, 1) := by decide +kernel
theorem d_X5_run_77 : decode cX5_run 77 = .ok (.if_icmp .ge 13, 3) := by decide +kernel
theorem d_X5_run_80 : decode cX5_run 80 = .ok (.aload_n 0, 1) := by decide +kernel
theorem d_X5_run_81 : decode cX5_run 81 = .ok (.getfield 17, 3) := by decide +kernel
theorem d_X5_run_84 : decode cX5_run 84 = .ok (.iload 6, 2) := by decide +kernel
theorem d_X5_run_86 : decode cX5_run 86 = .ok (.laload, 1) := by decide +kernel
theorem d_X5_run_87 : decode cX5_run 87 = .ok (.goto 4, 3) := by decide +kernel
theorem d_X5_run_90 : decode cX5_run 90 = .ok (.lconst 0, 1) := by decide +kernel
theorem d_X5_run_91 : decode cX5_run 91 = .ok (.invokevirtual 89, 3) := by decide +kernel
theorem d_X5_run_94 : decode cX5_run 94 = .ok (.goto 44, 3) := by decide +kernel
theorem d_X5_run_97 : decode cX5_run 97 = .ok (.iload 5, 2) := by decide +kernel
theorem d_X5_run_99 : decode cX5_run 99 = .ok (.bipush 14, 2) := by decide +kernel
theorem d_X5_run_101 : decode cX5_run 101 = .ok (.if_icmp .ne 16, 3) := by decide +kernel
theorem d_X5_run_104 : decode cX5_run 104 = .ok (.aload_n 0, 1) := by decide +kernel
theorem d_X5_run_105 : decode cX5_run 105 = .ok (.lconst 1, 1) := by decide +kernel
theorem d_X5_run_106 : decode cX5_run 106 = .ok (.aload_n 0, 1) := by decide +kernel
theorem d_X5_run_107 : decode cX5_run 107 = .ok (.invokevirtual 93, 3) := by decide +kernel
theorem d_X5_run_110 : decode cX5_run 110 = .ok (.lsub, 1) := by decide +kernel
theorem d_X5_run_111 : decode cX5_run 111 = .ok (.invokevirtual 89, 3) := by decide +kernel
theorem d_X5_run_114 : decode cX5_run 114 = .ok (.goto 24, 3) := by decide +kernel
theorem d_X5_run_117 : decode cX5_run 117 = .ok (.aload_n 0, 1) := by decide +kernel
theorem d_X5_run_118 : decode cX5_run 118 = .ok (.invokevirtual 93, 3) := by decide +kernel
theorem d_X5_run_121 : decode cX5_run 121 = .ok (.lstore 7, 2) := by decide +kernel
theorem d_X5_run_123 : decode cX5_run 123 = .ok (.aload_n 0, 1) := by decide +kernel
theorem d_X5_run_124 : decode cX5_run 124 = .ok (.iload 5, 2) := by decide +kernel
theorem d_X5_run_126 : decode cX5_run 126 = .ok (.aload_n 0, 1) := by decide +kernel
theorem d_X5_run_127 : decode cX5_run 127 = .ok (.invokevirtual 93, 3) := by decide +kernel
theorem d_X5_run_130 : decode cX5_run 130 = .ok (.lload 7, 2) := by decide +kernel
theorem d_X5_run_132 : decode cX5_run 132 = .ok (.invokestatic 97, 3) := by decide +kernel
theorem d_X5_run_135 : decode cX5_run 135 = .ok (.invokevirtual 89, 3) := by decide +kernel
theorem d_X5_run_138 : decode cX5_run 138 = .ok (.iinc 4 1, 3) := by decide +kernel
theorem d_X5_run_141 : decode cX5_run 141 = .ok (.goto (-133), 3) := by decide +kernel
theorem d_X5_run_144 : decode cX5_run 144 = .ok (.aload_n 0, 1) := by decide +kernel
theorem d_X5_run_145 : decode cX5_run 145 = .ok (.invokevirtual 93, 3) := by decide +kernel
theorem d_X5_run_148 : decode cX5_run 148 = .ok (.lreturn, 1) := by decide +kernel
abbrev X_X5_run : gX := (RX5, cX5_run, 9, (some .long), false)
def F_X5_run_b144 (l0 : Option Nat) (M : gM) : Option (Int64 × gM) :=
  (gO 5 M l0).bind fun i1 => (F_X5_pop (some i1) M).bind fun (v2, M3) => some (v2, M3)
theorem T_X5_run_b144 (r : (Int64 × gM)) (l0 : Option Nat) (M : gM) (h : F_X5_run_b144 l0 M = some r) : GW 1 0 0 X_X5_run 144 [(0, vr l0)] [] M (some (vl r.1), r.2) := by
  delta F_X5_run_b144 at h
  refine GW_aload_n (X := X_X5_run) (pc := 144) d_X5_run_144 rfl 0 rfl ?_
  replace h := g_bd h
  obtain ⟨i1, hi1, h⟩ := h
  obtain ⟨rfl, ki1⟩ := g_gO hi1
  replace h := g_bd h
  obtain ⟨⟨v2, M3⟩, hv2, h⟩ := h
  dsimp only at h
  refine GW_callV (X := X_X5_run) (pc := 145) (bc0 := 0) (bs0 := 0) (r := some (vl v2)) (M2 := M3) (c0 := 5) (T_X5_pop (some i1) M (v2, M3) hv2) (Nat.le_of_ble_eq_true rfl) (Nat.le_of_ble_eq_true rfl) rfl g_cok5 ki1 yc_X5_pop ⟨m_872, m_874, m_27, m_118, m_875⟩ d_X5_run_145 rfl (st := []) rfl (Nat.le_of_ble_eq_true rfl) (Nat.le_of_ble_eq_true rfl) (Nat.le_of_ble_eq_true rfl) (st2 := [vl v2]) rfl ?_
  replace h := Option.some.inj h
  subst h
  exact GW_ret (X := X_X5_run) (pc := 148) d_X5_run_148 rfl trivial
def F_X5_run_b138 (k8 : Option Nat → Option Nat → Int32 → Int32 → gM → Option (Int64 × gM)) (l0 : Option Nat) (l1 : Option Nat) (l3 : Int32) (l4 : Int32) (M : gM) : Option (Int64 × gM) :=
  k8 l0 l1 l3 (l4 + 1) M
theorem T_X5_run_b138 (k8 : Option Nat → Option Nat → Int32 → Int32 → gM → Option (Int64 × gM)) (r : (Int64 × gM)) (hk8 : ∀ (l0 : Option Nat) (l1 : Option Nat) (l3 : Int32) (l4 : Int32) (M : gM), k8 l0 l1 l3 l4 M = some r → GW 1 0 0 X_X5_run 8 [(0, vr l0), (1, vr l1), (3, vi l3), (4, vi l4)] [] M (some (vl r.1), r.2)) (l0 : Option Nat) (l1 : Option Nat) (l3 : Int32) (l4 : Int32) (M : gM) (h : F_X5_run_b138 k8 l0 l1 l3 l4 M = some r) : GW 1 0 0 X_X5_run 138 [(0, vr l0), (1, vr l1), (3, vi l3), (4, vi l4)] [] M (some (vl r.1), r.2) := by
  delta F_X5_run_b138 at h
  refine GW_iinc (j := 3) (X := X_X5_run) (pc := 138) d_X5_run_138 rfl (congrArg (fun z => _ + z) (by decide : Int32.ofInt 1 = (1 : Int32))) (Nat.le_of_ble_eq_true rfl) (lv2 := [(4, vi (l4 + 1)), (0, vr l0), (1, vr l1), (3, vi l3)]) rfl ?_
  refine GW_goto (X := X_X5_run) (pc := 141) 8 d_X5_run_141 (by decide) ?_
  refine GW_sub [1, 2, 3, 0] rfl ?_
  exact hk8 l0 l1 l3 (l4 + 1) M h
def F_X5_run_b91 (k8 : Option Nat → Option Nat → Int32 → Int32 → gM → Option (Int64 × gM)) (l0 : Option Nat) (l1 : Option Nat) (l3 : Int32) (l4 : Int32) (s0 : Option Nat) (s1 : Int64) (M : gM) : Option (Int64 × gM) :=
  (gO 5 M s0).bind fun i1 => (F_X5_push (some i1) s1 M).bind fun M2 => F_X5_run_b138 k8 l0 l1 l3 l4 M2
theorem T_X5_run_b91 (k8 : Option Nat → Option Nat → Int32 → Int32 → gM → Option (Int64 × gM)) (r : (Int64 × gM)) (hk8 : ∀ (l0 : Option Nat) (l1 : Option Nat) (l3 : Int32) (l4 : Int32) (M : gM), k8 l0 l1 l3 l4 M = some r → GW 1 0 0 X_X5_run 8 [(0, vr l0), (1, vr l1), (3, vi l3), (4, vi l4)] [] M (some (vl r.1), r.2)) (l0 : Option Nat) (l1 : Option Nat) (l3 : Int32) (l4 : Int32) (s0 : Option Nat) (s1 : Int64) (M : gM) (h : F_X5_run_b91 k8 l0 l1 l3 l4 s0 s1 M = some r) : GW 1 0 0 X_X5_run 91 [(0, vr l0), (1, vr l1), (3, vi l3), (4, vi l4)] [vl s1, vr s0] M (some (vl r.1), r.2) := by
  delta F_X5_run_b91 at h
  replace h := g_bd h
  obtain ⟨i1, hi1, h⟩ := h
  obtain ⟨rfl, ki1⟩ := g_gO hi1
  replace h := g_bd h
  obtain ⟨M2, hM2, h⟩ := h
  refine GW_callV (X := X_X5_run) (pc := 91) (bc0 := 0) (bs0 := 0) (r := none) (M2 := M2) (c0 := 5) (T_X5_push (some i1) s1 M M2 hM2) (Nat.le_of_ble_eq_true rfl) (Nat.le_of_ble_eq_true rfl) rfl g_cok5 ki1 yc_X5_push ⟨m_868, m_870, m_26, m_118, m_871⟩ d_X5_run_91 rfl (st := []) rfl (Nat.le_of_ble_eq_true rfl) (Nat.le_of_ble_eq_true rfl) (Nat.le_of_ble_eq_true rfl) (st2 := []) rfl ?_
  refine GW_goto (X := X_X5_run) (pc := 94) 138 d_X5_run_94 (by decide) ?_
  exact T_X5_run_b138 k8 r hk8 l0 l1 l3 l4 M2 h
def F_X5_run_b90 (k8 : Option Nat → Option Nat → Int32 → Int32 → gM → Option (Int64 × gM)) (l0 : Option Nat) (l1 : Option Nat) (l3 : Int32) (l4 : Int32) (s0 : Option Nat) (M : gM) : Option (Int64 × gM) :=
  F_X5_run_b91 k8 l0 l1 l3 l4 s0 (0 : Int64) M
theorem T_X5_run_b90 (k8 : Option Nat → Option Nat → Int32 → Int32 → gM → Option (Int64 × gM)) (r : (Int64 × gM)) (hk8 : ∀ (l0 : Option Nat) (l1 : Option Nat) (l3 : Int32) (l4 : Int32) (M : gM), k8 l0 l1 l3 l4 M = some r → GW 1 0 0 X_X5_run 8 [(0, vr l0), (1, vr l1), (3, vi l3), (4, vi l4)] [] M (some (vl r.1), r.2)) (l0 : Option Nat) (l1 : Option Nat) (l3 : Int32) (l4 : Int32) (s0 : Option Nat) (M : gM) (h : F_X5_run_b90 k8 l0 l1 l3 l4 s0 M = some r) : GW 1 0 0 X_X5_run 90 [(0, vr l0), (1, vr l1), (3, vi l3), (4, vi l4)] [vr s0] M (some (vl r.1), r.2) := by
  delta F_X5_run_b90 at h
  refine GW_lconst (X := X_X5_run) (pc := 90) (v := 0) d_X5_run_90 (by decide) ?_
  exact T_X5_run_b91 k8 r hk8 l0 l1 l3 l4 s0 (0 : Int64) M h
def F_X5_run_b8 (k8 : Option Nat → Option Nat → Int32 → Int32 → gM → Option (Int64 × gM)) (l0 : Option Nat) (l1 : Option Nat) (l3 : Int32) (l4 : Int32) (M : gM) : Option (Int64 × gM) :=
  if l4 < 0 then (F_X5_run_b144 l0 M) else (if l3 ≤ l4 then (F_X5_run_b144 l0 M) else ((aN M l1).bind fun v1 => if v1 ≤ l4 then (F_X5_run_b144 l0 M) else ((aI 20 M l1 l4).bind fun v2 => (aI 20 M l1 l4).bind fun v3 => if (v2 &&& (15 : Int32)) = 0 then ((gO 5 M l0).bind fun i22 => (F_X5_push (some i22) ((v3 >>> ((4 : Int32) &&& 31))).toInt64 M).bind fun M23 => F_X5_run_b138 k8 (some i22) l1 l3 l4 M23) else (if (v2 &&& (15 : Int32)) = (1 : Int32) then (if (v3 >>> ((4 : Int32) &&& 31)) < 0 then (F_X5_run_b90 k8 l0 l1 l3 l4 l0 M) else ((gR 5 M l0 1).bind fun v18 => (aN M v18).bind fun v19 => if v19 ≤ (v3 >>> ((4 : Int32) &&& 31)) then (F_X5_run_b90 k8 l0 l1 l3 l4 l0 M) else ((gR 5 M l0 1).bind fun v20 => (aL M v20 (v3 >>> ((4 : Int32) &&& 31))).bind fun v21 => F_X5_run_b91 k8 l0 l1 l3 l4 l0 v21 M))) else (if (v2 &&& (15 : Int32)) = (14 : Int32) then ((gO 5 M l0).bind fun i13 => (F_X5_pop (some i13) M).bind fun (v14, M15) => (gC 5 M15 i13).bind fun _ => (F_X5_push (some i13) ((1 : Int64) - v14) M15).bind fun M17 => F_X5_run_b138 k8 (some i13) l1 l3 l4 M17) else ((gO 5 M l0).bind fun i4 => (F_X5_pop (some i4) M).bind fun (v5, M6) => (gC 5 M6 i4).bind fun _ => (F_X5_pop (some i4) M6).bind fun (v8, M9) => (F_X5_joined (v2 &&& (15 : Int32)) v8 v5 M9).bind fun v10 => (gC 5 M9 i4).bind fun _ => (F_X5_push (some i4) v10 M9).bind fun M12 => F_X5_run_b138 k8 (some i4) l1 l3 l4 M12))))))
set_option maxHeartbeats 1000000 in
theorem T_X5_run_b8 (k8 : Option Nat → Option Nat → Int32 → Int32 → gM → Option (Int64 × gM)) (r : (Int64 × gM)) (hk8 : ∀ (l0 : Option Nat) (l1 : Option Nat) (l3 : Int32) (l4 : Int32) (M : gM), k8 l0 l1 l3 l4 M = some r → GW 1 0 0 X_X5_run 8 [(0, vr l0), (1, vr l1), (3, vi l3), (4, vi l4)] [] M (some (vl r.1), r.2)) (l0 : Option Nat) (l1 : Option Nat) (l3 : Int32) (l4 : Int32) (M : gM) (h : F_X5_run_b8 k8 l0 l1 l3 l4 M = some r) : GW 1 0 0 X_X5_run 8 [(0, vr l0), (1, vr l1), (3, vi l3), (4, vi l4)] [] M (some (vl r.1), r.2) := by
  delta F_X5_run_b8 at h
  refine GW_iload (X := X_X5_run) (pc := 8) d_X5_run_8 3 rfl ?_
  refine GW_if_lt (X := X_X5_run) (pc := 10) 144 d_X5_run_10 (by decide) (fun c => ?_) (fun c => ?_)
  · replace h := g_ip c h
    refine GW_sub [0] rfl ?_
    exact T_X5_run_b144 r l0 M h
  · replace h := g_ie c h
    refine GW_iload (X := X_X5_run) (pc := 13) d_X5_run_13 3 rfl ?_
    refine GW_iload_n (X := X_X5_run) (pc := 15) d_X5_run_15 rfl 2 rfl ?_
    refine GW_icmp_ge (X := X_X5_run) (pc := 16) 144 d_X5_run_16 (by decide) (fun c => ?_) (fun c => ?_)
    · replace h := g_ip c h
      refine GW_sub [0] rfl ?_
      exact T_X5_run_b144 r l0 M h
    · replace h := g_ie c h
      refine GW_iload (X := X_X5_run) (pc := 19) d_X5_run_19 3 rfl ?_
      refine GW_aload_n (X := X_X5_run) (pc := 21) d_X5_run_21 rfl 1 rfl ?_
      replace h := g_bd h
      obtain ⟨v1, hv1, h⟩ := h
      refine GW_alen (X := X_X5_run) (pc := 22) d_X5_run_22 hv1 ?_
      refine GW_icmp_ge (X := X_X5_run) (pc := 23) 144 d_X5_run_23 (by decide) (fun c => ?_) (fun c => ?_)
      · replace h := g_ip c h
        refine GW_sub [0] rfl ?_
        exact T_X5_run_b144 r l0 M h
      · replace h := g_ie c h
        refine GW_aload_n (X := X_X5_run) (pc := 26) d_X5_run_26 rfl 1 rfl ?_
        refine GW_iload (X := X_X5_run) (pc := 27) d_X5_run_27 3 rfl ?_
        replace h := g_bd h
        obtain ⟨v2, hv2, h⟩ := h
        refine GW_iald (X := X_X5_run) (pc := 29) d_X5_run_29 hv2 ?_
        refine GW_bipush (X := X_X5_run) (pc := 30) (v := 15) d_X5_run_30 (by decide) ?_
        refine GW_iand (X := X_X5_run) (pc := 32) d_X5_run_32 ?_
        refine GW_istore (X := X_X5_run) (pc := 33) d_X5_run_33 (Nat.le_of_ble_eq_true rfl) (lv2 := [(5, vi (v2 &&& (15 : Int32))), (0, vr l0), (1, vr l1), (3, vi l3), (4, vi l4)]) rfl ?_
        refine GW_aload_n (X := X_X5_run) (pc := 35) d_X5_run_35 rfl 2 rfl ?_
        refine GW_iload (X := X_X5_run) (pc := 36) d_X5_run_36 4 rfl ?_
        replace h := g_bd h
        obtain ⟨v3, hv3, h⟩ := h
        refine GW_iald (X := X_X5_run) (pc := 38) d_X5_run_38 hv3 ?_
        refine GW_iconst (X := X_X5_run) (pc := 39) (v := 4) d_X5_run_39 (by decide) ?_
        refine GW_ishr (X := X_X5_run) (pc := 40) d_X5_run_40 ?_
        refine GW_istore (X := X_X5_run) (pc := 41) d_X5_run_41 (Nat.le_of_ble_eq_true rfl) (lv2 := [(6, vi (v3 >>> ((4 : Int32) &&& 31))), (5, vi (v2 &&& (15 : Int32))), (0, vr l0), (1, vr l1), (3, vi l3), (4, vi l4)]) rfl ?_
        refine GW_iload (X := X_X5_run) (pc := 43) d_X5_run_43 1 rfl ?_
        refine GW_if_ne (X := X_X5_run) (pc := 45) 58 d_X5_run_45 (by decide) (fun c => ?_) (fun c => ?_)
        · replace h := g_ie c h
          refine GW_iload (X := X_X5_run) (pc := 58) d_X5_run_58 1 rfl ?_
          refine GW_iconst (X := X_X5_run) (pc := 60) (v := 1) d_X5_run_60 (by decide) ?_
          refine GW_icmp_ne (X := X_X5_run) (pc := 61) 97 d_X5_run_61 (by decide) (fun c => ?_) (fun c => ?_)
          · replace h := g_ie c h
            refine GW_iload (X := X_X5_run) (pc := 97) d_X5_run_97 1 rfl ?_
            refine GW_bipush (X := X_X5_run) (pc := 99) (v := 14) d_X5_run_99 (by decide) ?_
            refine GW_icmp_ne (X := X_X5_run) (pc := 101) 117 d_X5_run_101 (by decide) (fun c => ?_) (fun c => ?_)
            · replace h := g_ie c h
              refine GW_aload_n (X := X_X5_run) (pc := 117) d_X5_run_117 rfl 2 rfl ?_
              replace h := g_bd h
              obtain ⟨i4, hi4, h⟩ := h
              obtain ⟨rfl, ki4⟩ := g_gO hi4
              replace h := g_bd h
              obtain ⟨⟨v5, M6⟩, hv5, h⟩ := h
              dsimp only at h
              refine GW_callV (X := X_X5_run) (pc := 118) (bc0 := 0) (bs0 := 0) (r := some (vl v5)) (M2 := M6) (c0 := 5) (T_X5_pop (some i4) M (v5, M6) hv5) (Nat.le_of_ble_eq_true rfl) (Nat.le_of_ble_eq_true rfl) rfl g_cok5 ki4 yc_X5_pop ⟨m_872, m_874, m_27, m_118, m_875⟩ d_X5_run_118 rfl (st := []) rfl (Nat.le_of_ble_eq_true rfl) (Nat.le_of_ble_eq_true rfl) (Nat.le_of_ble_eq_true rfl) (st2 := [vl v5]) rfl ?_
              refine GW_lstore (X := X_X5_run) (pc := 121) d_X5_run_121 (Nat.le_of_ble_eq_true rfl) (lv2 := [(7, vl v5), (6, vi (v3 >>> ((4 : Int32) &&& 31))), (5, vi (v2 &&& (15 : Int32))), (0, vr (some i4)), (1, vr l1), (3, vi l3), (4, vi l4)]) rfl ?_
              refine GW_aload_n (X := X_X5_run) (pc := 123) d_X5_run_123 rfl 3 rfl ?_
              refine GW_iload (X := X_X5_run) (pc := 124) d_X5_run_124 2 rfl ?_
              refine GW_aload_n (X := X_X5_run) (pc := 126) d_X5_run_126 rfl 3 rfl ?_
              replace h := g_bd h
              obtain ⟨_, kk7, h⟩ := h
              replace kk7 := g_gC kk7
              replace h := g_bd h
              obtain ⟨⟨v8, M9⟩, hv8, h⟩ := h
              dsimp only at h
              refine GW_callV (X := X_X5_run) (pc := 127) (bc0 := 0) (bs0 := 0) (r := some (vl v8)) (M2 := M9) (c0 := 5) (T_X5_pop (some i4) M6 (v8, M9) hv8) (Nat.le_of_ble_eq_true rfl) (Nat.le_of_ble_eq_true rfl) rfl g_cok5 kk7 yc_X5_pop ⟨m_872, m_874, m_27, m_118, m_875⟩ d_X5_run_127 rfl (st := [vi (v2 &&& (15 : Int32)), vr (some i4)]) rfl (Nat.le_of_ble_eq_true rfl) (Nat.le_of_ble_eq_true rfl) (Nat.le_of_ble_eq_true rfl) (st2 := [vl v8, vi (v2 &&& (15 : Int32)), vr (some i4)]) rfl ?_
              refine GW_lload (X := X_X5_run) (pc := 130) d_X5_run_130 0 rfl ?_
              replace h := g_bd h
              obtain ⟨v10, hv10, h⟩ := h
              refine GW_callS (X := X_X5_run) (pc := 132) (bc0 := 0) (bs0 := 0) (r := some (vl v10)) (M2 := M9) (T_X5_joined (v2 &&& (15 : Int32)) v8 v5 M9 v10 hv10) (Nat.le_of_ble_eq_true rfl) (Nat.le_of_ble_eq_true rfl) yc_X5_joined ⟨m_876, m_877, m_118, m_878⟩ d_X5_run_132 rfl (st := [vr (some i4)]) rfl (Nat.le_of_ble_eq_true rfl) (Nat.le_of_ble_eq_true rfl) (Nat.le_of_ble_eq_true rfl) (st2 := [vl v10, vr (some i4)]) rfl ?_
              replace h := g_bd h
              obtain ⟨_, kk11, h⟩ := h
              replace kk11 := g_gC kk11
              replace h := g_bd h
              obtain ⟨M12, hM12, h⟩ := h
              refine GW_callV (X := X_X5_run) (pc := 135) (bc0 := 0) (bs0 := 0) (r := none) (M2 := M12) (c0 := 5) (T_X5_push (some i4) v10 M9 M12 hM12) (Nat.le_of_ble_eq_true rfl) (Nat.le_of_ble_eq_true rfl) rfl g_cok5 kk11 yc_X5_push ⟨m_868, m_870, m_26, m_118, m_871⟩ d_X5_run_135 rfl (st := []) rfl (Nat.le_of_ble_eq_true rfl) (Nat.le_of_ble_eq_true rfl) (Nat.le_of_ble_eq_true rfl) (st2 := []) rfl ?_
              refine GW_sub [3, 4, 5, 6] rfl ?_
              exact T_X5_run_b138 k8 r hk8 (some i4) l1 l3 l4 M12 h
            · replace h := g_ip c h
              refine GW_aload_n (X := X_X5_run) (pc := 104) d_X5_run_104 rfl 2 rfl ?_
              refine GW_lconst (X := X_X5_run) (pc := 105) (v := 1) d_X5_run_105 (by decide) ?_
              refine GW_aload_n (X := X_X5_run) (pc := 106) d_X5_run_106 rfl 2 rfl ?_
              replace h := g_bd h
              obtain ⟨i13, hi13, h⟩ := h
              obtain ⟨rfl, ki13⟩ := g_gO hi13
              replace h := g_bd h
              obtain ⟨⟨v14, M15⟩, hv14, h⟩ := h
              dsimp only at h
              refine GW_callV (X := X_X5_run) (pc := 107) (bc0 := 0) (bs0 := 0) (r := some (vl v14)) (M2 := M15) (c0 := 5) (T_X5_pop (some i13) M (v14, M15) hv14) (Nat.le_of_ble_eq_true rfl) (Nat.le_of_ble_eq_true rfl) rfl g_cok5 ki13 yc_X5_pop ⟨m_872, m_874, m_27, m_118, m_875⟩ d_X5_run_107 rfl (st := [vl (1 : Int64), vr (some i13)]) rfl (Nat.le_of_ble_eq_true rfl) (Nat.le_of_ble_eq_true rfl) (Nat.le_of_ble_eq_true rfl) (st2 := [vl v14, vl (1 : Int64), vr (some i13)]) rfl ?_
              refine GW_lsub (X := X_X5_run) (pc := 110) d_X5_run_110 ?_
              replace h := g_bd h
              obtain ⟨_, kk16, h⟩ := h
              replace kk16 := g_gC kk16
              replace h := g_bd h
              obtain ⟨M17, hM17, h⟩ := h
              refine GW_callV (X := X_X5_run) (pc := 111) (bc0 := 0) (bs0 := 0) (r := none) (M2 := M17) (c0 := 5) (T_X5_push (some i13) ((1 : Int64) - v14) M15 M17 hM17) (Nat.le_of_ble_eq_true rfl) (Nat.le_of_ble_eq_true rfl) rfl g_cok5 kk16 yc_X5_push ⟨m_868, m_870, m_26, m_118, m_871⟩ d_X5_run_111 rfl (st := []) rfl (Nat.le_of_ble_eq_true rfl) (Nat.le_of_ble_eq_true rfl) (Nat.le_of_ble_eq_true rfl) (st2 := []) rfl ?_
              refine GW_goto (X := X_X5_run) (pc := 114) 138 d_X5_run_114 (by decide) ?_
              refine GW_sub [2, 3, 4, 5] rfl ?_
              exact T_X5_run_b138 k8 r hk8 (some i13) l1 l3 l4 M17 h
          · replace h := g_ip c h
            refine GW_aload_n (X := X_X5_run) (pc := 64) d_X5_run_64 rfl 2 rfl ?_
            refine GW_iload (X := X_X5_run) (pc := 65) d_X5_run_65 0 rfl ?_
            refine GW_if_lt (X := X_X5_run) (pc := 67) 90 d_X5_run_67 (by decide) (fun c => ?_) (fun c => ?_)
            · replace h := g_ip c h
              refine GW_sub [2, 3, 4, 5] rfl ?_
              exact T_X5_run_b90 k8 r hk8 l0 l1 l3 l4 l0 M h
            · replace h := g_ie c h
              refine GW_iload (X := X_X5_run) (pc := 70) d_X5_run_70 0 rfl ?_
              refine GW_aload_n (X := X_X5_run) (pc := 72) d_X5_run_72 rfl 2 rfl ?_
              replace h := g_bd h
              obtain ⟨v18, hv18, h⟩ := h
              refine GW_getR (X := X_X5_run) (pc := 73) f_X5_17 d_X5_run_73 hv18 (Or.inr ⟨_, ty_5_1⟩) ?_
              replace h := g_bd h
              obtain ⟨v19, hv19, h⟩ := h
              refine GW_alen (X := X_X5_run) (pc := 76) d_X5_run_76 hv19 ?_
              refine GW_icmp_ge (X := X_X5_run) (pc := 77) 90 d_X5_run_77 (by decide) (fun c => ?_) (fun c => ?_)
              · replace h := g_ip c h
                refine GW_sub [2, 3, 4, 5] rfl ?_
                exact T_X5_run_b90 k8 r hk8 l0 l1 l3 l4 l0 M h
              · replace h := g_ie c h
                refine GW_aload_n (X := X_X5_run) (pc := 80) d_X5_run_80 rfl 2 rfl ?_
                replace h := g_bd h
                obtain ⟨v20, hv20, h⟩ := h
                refine GW_getR (X := X_X5_run) (pc := 81) f_X5_17 d_X5_run_81 hv20 (Or.inr ⟨_, ty_5_1⟩) ?_
                refine GW_iload (X := X_X5_run) (pc := 84) d_X5_run_84 0 rfl ?_
                replace h := g_bd h
                obtain ⟨v21, hv21, h⟩ := h
                refine GW_lald (X := X_X5_run) (pc := 86) d_X5_run_86 hv21 ?_
                refine GW_goto (X := X_X5_run) (pc := 87) 91 d_X5_run_87 (by decide) ?_
                refine GW_sub [2, 3, 4, 5] rfl ?_
                exact T_X5_run_b91 k8 r hk8 l0 l1 l3 l4 l0 v21 M h
        · replace h := g_ip c h
          refine GW_aload_n (X := X_X5_run) (pc := 48) d_X5_run_48 rfl 2 rfl ?_
          refine GW_iload (X := X_X5_run) (pc := 49) d_X5_run_49 0 rfl ?_
          refine GW_i2l (X := X_X5_run) (pc := 51) d_X5_run_51 ?_
          replace h := g_bd h
          obtain ⟨i22, hi22, h⟩ := h
          obtain ⟨rfl, ki22⟩ := g_gO hi22
          replace h := g_bd h
          obtain ⟨M23, hM23, h⟩ := h
          refine GW_callV (X := X_X5_run) (pc := 52) (bc0 := 0) (bs0 := 0) (r := none) (M2 := M23) (c0 := 5) (T_X5_push (some i22) ((v3 >>> ((4 : Int32) &&& 31))).toInt64 M M23 hM23) (Nat.le_of_ble_eq_true rfl) (Nat.le_of_ble_eq_true rfl) rfl g_cok5 ki22 yc_X5_push ⟨m_868, m_870, m_26, m_118, m_871⟩ d_X5_run_52 rfl (st := []) rfl (Nat.le_of_ble_eq_true rfl) (Nat.le_of_ble_eq_true rfl) (Nat.le_of_ble_eq_true rfl) (st2 := []) rfl ?_
          refine GW_goto (X := X_X5_run) (pc := 55) 138 d_X5_run_55 (by decide) ?_
          refine GW_sub [2, 3, 4, 5] rfl ?_
          exact T_X5_run_b138 k8 r hk8 (some i22) l1 l3 l4 M23 h
def F_X5_run_L8 : Nat → Option Nat → Option Nat → Int32 → Int32 → gM → Option (Int64 × gM)
  | 0 => fun _ _ _ _ _ => none
  | n + 1 => F_X5_run_b8 (F_X5_run_L8 n)
theorem T_X5_run_L8 (r : (Int64 × gM)) : ∀ (n : Nat) (l0 : Option Nat) (l1 : Option Nat) (l3 : Int32) (l4 : Int32) (M : gM), F_X5_run_L8 n l0 l1 l3 l4 M = some r → GW 1 0 0 X_X5_run 8 [(0, vr l0), (1, vr l1), (3, vi l3), (4, vi l4)] [] M (some (vl r.1), r.2) := by
  intro n
  induction n with
  | zero => intro l0 l1 l3 l4 M h; exact g_no h
  | succ n ih => intro l0 l1 l3 l4 M h; exact T_X5_run_b8 (F_X5_run_L8 n) r ih l0 l1 l3 l4 M h
def F_X5_run_b0 (l0 : Option Nat) (l1 : Option Nat) (l2 : Int32) (l3 : Int32) (M : gM) : Option (Int64 × gM) :=
  (pI 5 M l0 2 (0 : Int32)).bind fun M1 => F_X5_run_L8 g_fuel l0 l1 l3 l2 M1
theorem T_X5_run_b0 (r : (Int64 × gM)) (l0 : Option Nat) (l1 : Option Nat) (l2 : Int32) (l3 : Int32) (M : gM) (h : F_X5_run_b0 l0 l1 l2 l3 M = some r) : GW 1 0 0 X_X5_run 0 [(0, vr l0), (1, vr l1), (2, vi l2), (3, vi l3)] [] M (some (vl r.1), r.2) := by
  delta F_X5_run_b0 at h
  refine GW_aload_n (X := X_X5_run) (pc := 0) d_X5_run_0 rfl 0 rfl ?_
  refine GW_iconst (X := X_X5_run) (pc := 1) (v := 0) d_X5_run_1 (by decide) ?_
  replace h := g_bd h
  obtain ⟨M1, hM1, h⟩ := h
  refine GW_putI (X := X_X5_run) (pc := 2) f_X5_20 d_X5_run_2 hM1 (Or.inl fi_5_2) (Or.inl ty_5_2) ?_
  refine GW_iload_n (X := X_X5_run) (pc := 5) d_X5_run_5 rfl 2 rfl ?_
  refine GW_istore (X := X_X5_run) (pc := 6) d_X5_run_6 (Nat.le_of_ble_eq_true rfl) (lv2 := [(4, vi l2), (0, vr l0), (1, vr l1), (2, vi l2), (3, vi l3)]) rfl ?_
  refine GW_sub [1, 2, 4, 0] rfl ?_
  exact T_X5_run_L8 r g_fuel l0 l1 l3 l2 M1 h
def F_X5_run (l0 : Option Nat) (l1 : Option Nat) (l2 : Int32) (l3 : Int32) (M : gM) : Option (Int64 × gM) := F_X5_run_b0 l0 l1 l2 l3 M
theorem T_X5_run (l0 : Option Nat) (l1 : Option Nat) (l2 : Int32) (l3 : Int32) (M : gM) (r : (Int64 × gM)) (h : F_X5_run l0 l1 l2 l3 M = some r) : g_Met 1 0 0 yX5_run X_X5_run [vr l0, vr l1, vi l2, vi l3] M (some (vl r.1), r.2) :=
  g_Met_of pn_RX5 rfl (Nat.le_of_ble_eq_true rfl) (fun h => by cases h) (GW_sub [0, 1, 2, 3] rfl (T_X5_run_b0 r l0 l1 l2 l3 M h))
/-! ForgetHeirs$Reckoner.loss(LForgetHeirs$Rule;)J -/
theorem d_X5_loss_0 : decode cX5_loss 0 = .ok (.aload_n 1, 1) := by decide +kernel
theorem d_X5_loss_1 : decode cX5_loss 1 = .ok (.getfield 77, 3) := by decide +kernel
theorem d_X5_loss_4 : decode cX5_loss 4 = .ok (.astore_n 2, 1) := by decide +kernel
theorem d_X5_loss_5 : decode cX5_loss 5 = .ok (.iconst 0, 1) := by decide +kernel
theorem d_X5_loss_6 : decode cX5_loss 6 = .ok (.istore_n 3, 1) := by decide +kernel
theorem d_X5_loss_7 : decode cX5_loss 7 = .ok (.iload_n 3, 1) := by decide +kernel
theorem d_X5_loss_8 : decode cX5_loss 8 = .ok (.iconst 2, 1) := by decide +kernel
theorem d_X5_loss_9 : decode cX5_loss 9 = .ok (.iadd, 1) := by decide +kernel
theorem d_X5_loss_10 : decode cX5_loss 10 = .ok (.aload_n 2, 1) := by decide +kernel
theorem d_X5_loss_11 : decode cX5_loss 11 = .ok (.arraylength, 1) := by decide +kernel
theorem d_X5_loss_12 : decode cX5_loss 12 = .ok (.if_icmp .ge 74, 3) := by decide +kernel
theorem d_X5_loss_15 : decode cX5_loss 15 = .ok (.aload_n 2, 1) := by decide +kernel
theorem d_X5_loss_16 : decode cX5_loss 16 = .ok (.iload_n 3, 1) := by decide +kernel
theorem d_X5_loss_17 : decode cX5_loss 17 = .ok (.iconst 1, 1) := by decide +kernel
theorem d_X5_loss_18 : decode cX5_loss 18 = .ok (.iadd, 1) := by decide +kernel
theorem d_X5_loss_19 : decode cX5_loss 19 = .ok (.iaload, 1) := by decide +kernel
theorem d_X5_loss_20 : decode cX5_loss 20 = .ok (.aload_n 2, 1) := by decide +kernel
theorem d_X5_loss_21 : decode cX5_loss 21 = .ok (.iload_n 3, 1) := by decide +kernel
theorem d_X5_loss_22 : decode cX5_loss 22 = .ok (.iconst 2, 1) := by decide +kernel
theorem d_X5_loss_23 : decode cX5_loss 23 = .ok (.iadd, 1) := by decide +kernel
theorem d_X5_loss_24 : decode cX5_loss 24 = .ok (.iaload, 1) := by decide +kernel
theorem d_X5_loss_25 : decode cX5_loss 25 = .ok (.if_icmp .ne 7, 3) := by decide +kernel
theorem d_X5_loss_28 : decode cX5_loss 28 = .ok (.iconst 1, 1) := by decide +kernel
theorem d_X5_loss_29 : decode cX5_loss 29 = .ok (.goto 4, 3) := by decide +kernel
theorem d_X5_loss_32 : decode cX5_loss 32 = .ok (.iconst 0, 1) := by decide +kernel
theorem d_X5_loss_33 : decode cX5_loss 33 = .ok (.istore 4, 2) := by decide +kernel
theorem d_X5_loss_35 : decode cX5_loss 35 = .ok (.iload 4, 2) := by decide +kernel
theorem d_X5_loss_37 : decode cX5_loss 37 = .ok (.ifCond .ne 26, 3) := by decide +kernel
theorem d_X5_loss_40 : decode cX5_loss 40 = .ok (.aload_n 0, 1) := by decide +kernel
theorem d_X5_loss_41 : decode cX5_loss 41 = .ok (.aload_n 1, 1) := by decide +kernel
theorem d_X5_loss_42 : decode cX5_loss 42 = .ok (.getfield 82, 3) := by decide +kernel
theorem d_X5_loss_45 : decode cX5_loss 45 = .ok (.aload_n 2, 1) := by decide +kernel
theorem d_X5_loss_46 : decode cX5_loss 46 = .ok (.iload_n 3, 1) := by decide +kernel
theorem d_X5_loss_47 : decode cX5_loss 47 = .ok (.iconst 1, 1) := by decide +kernel
theorem d_X5_loss_48 : decode cX5_loss 48 = .ok (.iadd, 1) := by decide +kernel
theorem d_X5_loss_49 : decode cX5_loss 49 = .ok (.iaload, 1) := by decide +kernel
theorem d_X5_loss_50 : decode cX5_loss 50 = .ok (.aload_n 2, 1) := by decide +kernel
theorem d_X5_loss_51 : decode cX5_loss 51 = .ok (.iload_n 3, 1) := by decide +kernel
theorem d_X5_loss_52 : decode cX5_loss 52 = .ok (.iconst 2, 1) := by decide +kernel
theorem d_X5_loss_53 : decode cX5_loss 53 = .ok (.iadd, 1) := by decide +kernel
theorem d_X5_loss_54 : decode cX5_loss 54 = .ok (.iaload, 1) := by decide +kernel
theorem d_X5_loss_55 : decode cX5_loss 55 = .ok (.invokevirtual 85, 3) := by decide +kernel
theorem d_X5_loss_58 : decode cX5_loss 58 = .ok (.lconst 0, 1) := by decide +kernel
theorem d_X5_loss_59 : decode cX5_loss 59 = .ok (.lcmp, 1) := by decide +kernel
theorem d_X5_loss_60 : decode cX5_loss 60 = .ok (.ifCond .eq 20, 3) := by decide +kernel
theorem d_X5_loss_63 : decode cX5_loss 63 = .ok (.aload_n 0, 1) := by decide +kernel
theorem d_X5_loss_64 : decode cX5_loss 64 = .ok (.aload_n 1, 1) := by decide +kernel
theorem d_X5_loss_65 : decode cX5_loss 65 = .ok (.getfield 82, 3) := by decide +kernel
theorem d_X5_loss_68 : decode cX5_loss 68 = .ok (.aload_n 2, 1) := by decide +kernel
theorem d_X5_loss_69 : decode cX5_loss 69 = .ok (.iload_n 3, 1) := by decide +kernel
theorem d_X5_loss_70 : decode cX5_loss 70 = .ok (.iaload, 1) := by decide +kernel
theorem d_X5_loss_71 : decode cX5_loss 71 = .ok (.aload_n 2, 1) := by decide +kernel
theorem d_X5_loss_72 : decode cX5_loss 72 = .ok (.iload_n 3, 1) := by decide +kernel
theorem d_X5_loss_73 : decode cX5_loss 73 = .ok (.iconst 1, 1) := by decide +kernel
theorem d_X5_loss_74 : decode cX5_loss 74 = .ok (.iadd, 1) := by decide +kernel
theorem d_X5_loss_75 : decode cX5_loss 75 = .ok (.iaload, 1) := by decide +kernel
theorem d_X5_loss_76 : decode cX5_loss 76 = .ok (.invokevirtual 85, 3) := by decide +kernel
theorem d_X5_loss_79 : decode cX5_loss 79 = .ok (.lreturn, 1) := by decide +kernel
theorem d_X5_loss_80 : decode cX5_loss 80 = .ok (.iinc 3 3, 3) := by decide +kernel
theorem d_X5_loss_83 : decode cX5_loss 83 = .ok (.goto (-76), 3) := by decide +kernel
theorem d_X5_loss_86 : decode cX5_loss 86 = .ok (.lconst 0, 1) := by decide +kernel
theorem d_X5_loss_87 : decode cX5_loss 87 = .ok (.lreturn, 1) := by decide +kernel
abbrev X_X5_loss : gX := (RX5, cX5_loss, 5, (some .long), false)
def F_X5_loss_b63 (l0 : Option Nat) (l1 : Option Nat) (l2 : Option Nat) (l3 : Int32) (M : gM) : Option (Int64 × gM) :=
  (gR 6 M l1 0).bind fun v1 => (aI 20 M l2 l3).bind fun v2 => (aI 20 M l2 (l3 + (1 : Int32))).bind fun v3 => (gO 5 M l0).bind fun i4 => (F_X5_run (some i4) v1 v2 v3 M).bind fun (v5, M6) => some (v5, M6)
theorem T_X5_loss_b63 (r : (Int64 × gM)) (l0 : Option Nat) (l1 : Option Nat) (l2 : Option Nat) (l3 : Int32) (M : gM) (h : F_X5_loss_b63 l0 l1 l2 l3 M = some r) : GW 2 0 0 X_X5_loss 63 [(0, vr l0), (1, vr l1), (2, vr l2), (3, vi l3)] [] M (some (vl r.1), r.2) := by
  delta F_X5_loss_b63 at h
  refine GW_aload_n (X := X_X5_loss) (pc := 63) d_X5_loss_63 rfl 0 rfl ?_
  refine GW_aload_n (X := X_X5_loss) (pc := 64) d_X5_loss_64 rfl 1 rfl ?_
  replace h := g_bd h
  obtain ⟨v1, hv1, h⟩ := h
  refine GW_getR (X := X_X5_loss) (pc := 65) f_X5_82 d_X5_loss_65 hv1 (Or.inr ⟨_, ty_6_0⟩) ?_
  refine GW_aload_n (X := X_X5_loss) (pc := 68) d_X5_loss_68 rfl 2 rfl ?_
  refine GW_iload_n (X := X_X5_loss) (pc := 69) d_X5_loss_69 rfl 3 rfl ?_
  replace h := g_bd h
  obtain ⟨v2, hv2, h⟩ := h
  refine GW_iald (X := X_X5_loss) (pc := 70) d_X5_loss_70 hv2 ?_
  refine GW_aload_n (X := X_X5_loss) (pc := 71) d_X5_loss_71 rfl 2 rfl ?_
  refine GW_iload_n (X := X_X5_loss) (pc := 72) d_X5_loss_72 rfl 3 rfl ?_
  refine GW_iconst (X := X_X5_loss) (pc := 73) (v := 1) d_X5_loss_73 (by decide) ?_
  refine GW_iadd (X := X_X5_loss) (pc := 74) d_X5_loss_74 ?_
  replace h := g_bd h
  obtain ⟨v3, hv3, h⟩ := h
  refine GW_iald (X := X_X5_loss) (pc := 75) d_X5_loss_75 hv3 ?_
  replace h := g_bd h
  obtain ⟨i4, hi4, h⟩ := h
  obtain ⟨rfl, ki4⟩ := g_gO hi4
  replace h := g_bd h
  obtain ⟨⟨v5, M6⟩, hv5, h⟩ := h
  dsimp only at h
  refine GW_callV (X := X_X5_loss) (pc := 76) (bc0 := 0) (bs0 := 0) (r := some (vl v5)) (M2 := M6) (c0 := 5) (T_X5_run (some i4) v1 v2 v3 M (v5, M6) hv5) (Nat.le_of_ble_eq_true rfl) (Nat.le_of_ble_eq_true rfl) rfl g_cok5 ki4 yc_X5_run ⟨m_864, m_866, m_25, m_118, m_867⟩ d_X5_loss_76 rfl (st := []) rfl (Nat.le_of_ble_eq_true rfl) (Nat.le_of_ble_eq_true rfl) (Nat.le_of_ble_eq_true rfl) (st2 := [vl v5]) rfl ?_
  replace h := Option.some.inj h
  subst h
  exact GW_ret (X := X_X5_loss) (pc := 79) d_X5_loss_79 rfl trivial
def F_X5_loss_b33 (k7 : Option Nat → Option Nat → Option Nat → Int32 → gM → Option (Int64 × gM)) (l0 : Option Nat) (l1 : Option Nat) (l2 : Option Nat) (l3 : Int32) (s0 : Int32) (M : gM) : Option (Int64 × gM) :=
  if s0 = 0 then ((gR 6 M l1 0).bind fun v1 => (aI 20 M l2 (l3 + (1 : Int32))).bind fun v2 => (aI 20 M l2 (l3 + (2 : Int32))).bind fun v3 => (gO 5 M l0).bind fun i4 => (F_X5_run (some i4) v1 v2 v3 M).bind fun (v5, M6) => if (lg_cmp v5 (0 : Int64)) = 0 then (k7 (some i4) l1 l2 (l3 + 3) M6) else (F_X5_loss_b63 (some i4) l1 l2 l3 M6)) else (F_X5_loss_b63 l0 l1 l2 l3 M)
set_option maxHeartbeats 1000000 in
theorem T_X5_loss_b33 (k7 : Option Nat → Option Nat → Option Nat → Int32 → gM → Option (Int64 × gM)) (r : (Int64 × gM)) (hk7 : ∀ (l0 : Option Nat) (l1 : Option Nat) (l2 : Option Nat) (l3 : Int32) (M : gM), k7 l0 l1 l2 l3 M = some r → GW 2 0 0 X_X5_loss 7 [(0, vr l0), (1, vr l1), (2, vr l2), (3, vi l3)] [] M (some (vl r.1), r.2)) (l0 : Option Nat) (l1 : Option Nat) (l2 : Option Nat) (l3 : Int32) (s0 : Int32) (M : gM) (h : F_X5_loss_b33 k7 l0 l1 l2 l3 s0 M = some r) : GW 2 0 0 X_X5_loss 33 [(0, vr l0), (1, vr l1), (2, vr l2), (3, vi l3)] [vi s0] M (some (vl r.1), r.2) := by
  delta F_X5_loss_b33 at h
  refine GW_istore (X := X_X5_loss) (pc := 33) d_X5_loss_33 (Nat.le_of_ble_eq_true rfl) (lv2 := [(4, vi s0), (0, vr l0), (1, vr l1), (2, vr l2), (3, vi l3)]) rfl ?_
  refine GW_iload (X := X_X5_loss) (pc := 35) d_X5_loss_35 0 rfl ?_
  refine GW_if_ne (X := X_X5_loss) (pc := 37) 63 d_X5_loss_37 (by decide) (fun c => ?_) (fun c => ?_)
  · replace h := g_ie c h
    refine GW_sub [1, 2, 3, 4] rfl ?_
    exact T_X5_loss_b63 r l0 l1 l2 l3 M h
  · replace h := g_ip c h
    refine GW_aload_n (X := X_X5_loss) (pc := 40) d_X5_loss_40 rfl 1 rfl ?_
    refine GW_aload_n (X := X_X5_loss) (pc := 41) d_X5_loss_41 rfl 2 rfl ?_
    replace h := g_bd h
    obtain ⟨v1, hv1, h⟩ := h
    refine GW_getR (X := X_X5_loss) (pc := 42) f_X5_82 d_X5_loss_42 hv1 (Or.inr ⟨_, ty_6_0⟩) ?_
    refine GW_aload_n (X := X_X5_loss) (pc := 45) d_X5_loss_45 rfl 3 rfl ?_
    refine GW_iload_n (X := X_X5_loss) (pc := 46) d_X5_loss_46 rfl 4 rfl ?_
    refine GW_iconst (X := X_X5_loss) (pc := 47) (v := 1) d_X5_loss_47 (by decide) ?_
    refine GW_iadd (X := X_X5_loss) (pc := 48) d_X5_loss_48 ?_
    replace h := g_bd h
    obtain ⟨v2, hv2, h⟩ := h
    refine GW_iald (X := X_X5_loss) (pc := 49) d_X5_loss_49 hv2 ?_
    refine GW_aload_n (X := X_X5_loss) (pc := 50) d_X5_loss_50 rfl 3 rfl ?_
    refine GW_iload_n (X := X_X5_loss) (pc := 51) d_X5_loss_51 rfl 4 rfl ?_
    refine GW_iconst (X := X_X5_loss) (pc := 52) (v := 2) d_X5_loss_52 (by decide) ?_
    refine GW_iadd (X := X_X5_loss) (pc := 53) d_X5_loss_53 ?_
    replace h := g_bd h
    obtain ⟨v3, hv3, h⟩ := h
    refine GW_iald (X := X_X5_loss) (pc := 54) d_X5_loss_54 hv3 ?_
    replace h := g_bd h
    obtain ⟨i4, hi4, h⟩ := h
    obtain ⟨rfl, ki4⟩ := g_gO hi4
    replace h := g_bd h
    obtain ⟨⟨v5, M6⟩, hv5, h⟩ := h
    dsimp only at h
    refine GW_callV (X := X_X5_loss) (pc := 55) (bc0 := 0) (bs0 := 0) (r := some (vl v5)) (M2 := M6) (c0 := 5) (T_X5_run (some i4) v1 v2 v3 M (v5, M6) hv5) (Nat.le_of_ble_eq_true rfl) (Nat.le_of_ble_eq_true rfl) rfl g_cok5 ki4 yc_X5_run ⟨m_864, m_866, m_25, m_118, m_867⟩ d_X5_loss_55 rfl (st := []) rfl (Nat.le_of_ble_eq_true rfl) (Nat.le_of_ble_eq_true rfl) (Nat.le_of_ble_eq_true rfl) (st2 := [vl v5]) rfl ?_
    refine GW_lconst (X := X_X5_loss) (pc := 58) (v := 0) d_X5_loss_58 (by decide) ?_
    refine GW_lcmp (X := X_X5_loss) (pc := 59) d_X5_loss_59 ?_
    refine GW_if_eq (X := X_X5_loss) (pc := 60) 80 d_X5_loss_60 (by decide) (fun c => ?_) (fun c => ?_)
    · replace h := g_ip c h
      refine GW_iinc (j := 4) (X := X_X5_loss) (pc := 80) d_X5_loss_80 rfl (congrArg (fun z => _ + z) (by decide : Int32.ofInt 3 = (3 : Int32))) (Nat.le_of_ble_eq_true rfl) (lv2 := [(3, vi (l3 + 3)), (4, vi s0), (0, vr (some i4)), (1, vr l1), (2, vr l2)]) rfl ?_
      refine GW_goto (X := X_X5_loss) (pc := 83) 7 d_X5_loss_83 (by decide) ?_
      refine GW_sub [2, 3, 4, 0] rfl ?_
      exact hk7 (some i4) l1 l2 (l3 + 3) M6 h
    · replace h := g_ie c h
      refine GW_sub [1, 2, 3, 4] rfl ?_
      exact T_X5_loss_b63 r (some i4) l1 l2 l3 M6 h
def F_X5_loss_b7 (k7 : Option Nat → Option Nat → Option Nat → Int32 → gM → Option (Int64 × gM)) (l0 : Option Nat) (l1 : Option Nat) (l2 : Option Nat) (l3 : Int32) (M : gM) : Option (Int64 × gM) :=
  (aN M l2).bind fun v1 => if v1 ≤ (l3 + (2 : Int32)) then (some ((0 : Int64), M)) else ((aI 20 M l2 (l3 + (1 : Int32))).bind fun v2 => (aI 20 M l2 (l3 + (2 : Int32))).bind fun v3 => if v2 = v3 then (F_X5_loss_b33 k7 l0 l1 l2 l3 (1 : Int32) M) else (F_X5_loss_b33 k7 l0 l1 l2 l3 (0 : Int32) M))
theorem T_X5_loss_b7 (k7 : Option Nat → Option Nat → Option Nat → Int32 → gM → Option (Int64 × gM)) (r : (Int64 × gM)) (hk7 : ∀ (l0 : Option Nat) (l1 : Option Nat) (l2 : Option Nat) (l3 : Int32) (M : gM), k7 l0 l1 l2 l3 M = some r → GW 2 0 0 X_X5_loss 7 [(0, vr l0), (1, vr l1), (2, vr l2), (3, vi l3)] [] M (some (vl r.1), r.2)) (l0 : Option Nat) (l1 : Option Nat) (l2 : Option Nat) (l3 : Int32) (M : gM) (h : F_X5_loss_b7 k7 l0 l1 l2 l3 M = some r) : GW 2 0 0 X_X5_loss 7 [(0, vr l0), (1, vr l1), (2, vr l2), (3, vi l3)] [] M (some (vl r.1), r.2) := by
  delta F_X5_loss_b7 at h
  refine GW_iload_n (X := X_X5_loss) (pc := 7) d_X5_loss_7 rfl 3 rfl ?_
  refine GW_iconst (X := X_X5_loss) (pc := 8) (v := 2) d_X5_loss_8 (by decide) ?_
  refine GW_iadd (X := X_X5_loss) (pc := 9) d_X5_loss_9 ?_
  refine GW_aload_n (X := X_X5_loss) (pc := 10) d_X5_loss_10 rfl 2 rfl ?_
  replace h := g_bd h
  obtain ⟨v1, hv1, h⟩ := h
  refine GW_alen (X := X_X5_loss) (pc := 11) d_X5_loss_11 hv1 ?_
  refine GW_icmp_ge (X := X_X5_loss) (pc := 12) 86 d_X5_loss_12 (by decide) (fun c => ?_) (fun c => ?_)
  · replace h := g_ip c h
    refine GW_lconst (X := X_X5_loss) (pc := 86) (v := 0) d_X5_loss_86 (by decide) ?_
    replace h := Option.some.inj h
    subst h
    exact GW_ret (X := X_X5_loss) (pc := 87) d_X5_loss_87 rfl trivial
  · replace h := g_ie c h
    refine GW_aload_n (X := X_X5_loss) (pc := 15) d_X5_loss_15 rfl 2 rfl ?_
    refine GW_iload_n (X := X_X5_loss) (pc := 16) d_X5_loss_16 rfl 3 rfl ?_
    refine GW_iconst (X := X_X5_loss) (pc := 17) (v := 1) d_X5_loss_17 (by decide) ?_
    refine GW_iadd (X := X_X5_loss) (pc := 18) d_X5_loss_18 ?_
    replace h := g_bd h
    obtain ⟨v2, hv2, h⟩ := h
    refine GW_iald (X := X_X5_loss) (pc := 19) d_X5_loss_19 hv2 ?_
    refine GW_aload_n (X := X_X5_loss) (pc := 20) d_X5_loss_20 rfl 2 rfl ?_
    refine GW_iload_n (X := X_X5_loss) (pc := 21) d_X5_loss_21 rfl 3 rfl ?_
    refine GW_iconst (X := X_X5_loss) (pc := 22) (v := 2) d_X5_loss_22 (by decide) ?_
    refine GW_iadd (X := X_X5_loss) (pc := 23) d_X5_loss_23 ?_
    replace h := g_bd h
    obtain ⟨v3, hv3, h⟩ := h
    refine GW_iald (X := X_X5_loss) (pc := 24) d_X5_loss_24 hv3 ?_
    refine GW_icmp_ne (X := X_X5_loss) (pc := 25) 32 d_X5_loss_25 (by decide) (fun c => ?_) (fun c => ?_)
    · replace h := g_ie c h
      refine GW_iconst (X := X_X5_loss) (pc := 32) (v := 0) d_X5_loss_32 (by decide) ?_
      exact T_X5_loss_b33 k7 r hk7 l0 l1 l2 l3 (0 : Int32) M h
    · replace h := g_ip c h
      refine GW_iconst (X := X_X5_loss) (pc := 28) (v := 1) d_X5_loss_28 (by decide) ?_
      refine GW_goto (X := X_X5_loss) (pc := 29) 33 d_X5_loss_29 (by decide) ?_
      exact T_X5_loss_b33 k7 r hk7 l0 l1 l2 l3 (1 : Int32) M h
def F_X5_loss_L7 : Nat → Option Nat → Option Nat → Option Nat → Int32 → gM → Option (Int64 × gM)
  | 0 => fun _ _ _ _ _ => none
  | n + 1 => F_X5_loss_b7 (F_X5_loss_L7 n)
theorem T_X5_loss_L7 (r : (Int64 × gM)) : ∀ (n : Nat) (l0 : Option Nat) (l1 : Option Nat) (l2 : Option Nat) (l3 : Int32) (M : gM), F_X5_loss_L7 n l0 l1 l2 l3 M = some r → GW 2 0 0 X_X5_loss 7 [(0, vr l0), (1, vr l1), (2, vr l2), (3, vi l3)] [] M (some (vl r.1), r.2) := by
  intro n
  induction n with
  | zero => intro l0 l1 l2 l3 M h; exact g_no h
  | succ n ih => intro l0 l1 l2 l3 M h; exact T_X5_loss_b7 (F_X5_loss_L7 n) r ih l0 l1 l2 l3 M h
def F_X5_loss_b0 (l0 : Option Nat) (l1 : Option Nat) (M : gM) : Option (Int64 × gM) :=
  (gR 6 M l1 1).bind fun v1 => F_X5_loss_L7 g_fuel l0 l1 v1 (0 : Int32) M
theorem T_X5_loss_b0 (r : (Int64 × gM)) (l0 : Option Nat) (l1 : Option Nat) (M : gM) (h : F_X5_loss_b0 l0 l1 M = some r) : GW 2 0 0 X_X5_loss 0 [(0, vr l0), (1, vr l1)] [] M (some (vl r.1), r.2) := by
  delta F_X5_loss_b0 at h
  refine GW_aload_n (X := X_X5_loss) (pc := 0) d_X5_loss_0 rfl 1 rfl ?_
  replace h := g_bd h
  obtain ⟨v1, hv1, h⟩ := h
  refine GW_getR (X := X_X5_loss) (pc := 1) f_X5_77 d_X5_loss_1 hv1 (Or.inr ⟨_, ty_6_1⟩) ?_
  refine GW_astore_n (X := X_X5_loss) (pc := 4) d_X5_loss_4 rfl (Nat.le_of_ble_eq_true rfl) (lv2 := [(2, vr v1), (0, vr l0), (1, vr l1)]) rfl ?_
  refine GW_iconst (X := X_X5_loss) (pc := 5) (v := 0) d_X5_loss_5 (by decide) ?_
  refine GW_istore_n (X := X_X5_loss) (pc := 6) d_X5_loss_6 rfl (Nat.le_of_ble_eq_true rfl) (lv2 := [(3, vi (0 : Int32)), (2, vr v1), (0, vr l0), (1, vr l1)]) rfl ?_
  refine GW_sub [2, 3, 1, 0] rfl ?_
  exact T_X5_loss_L7 r g_fuel l0 l1 v1 (0 : Int32) M h
def F_X5_loss (l0 : Option Nat) (l1 : Option Nat) (M : gM) : Option (Int64 × gM) := F_X5_loss_b0 l0 l1 M
theorem T_X5_loss (l0 : Option Nat) (l1 : Option Nat) (M : gM) (r : (Int64 × gM)) (h : F_X5_loss l0 l1 M = some r) : g_Met 2 0 0 yX5_loss X_X5_loss [vr l0, vr l1] M (some (vl r.1), r.2) :=
  g_Met_of pn_RX5 rfl (Nat.le_of_ble_eq_true rfl) (fun h => by cases h) (GW_sub [0, 1] rfl (T_X5_loss_b0 r l0 l1 M h))
