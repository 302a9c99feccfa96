/-! ForgetHeirsModel.examine(I)I -/
theorem d_X12_examine_0 : decode cX12_examine 0 = .ok (.aload_n 0, 1) := by decide +kernel
theorem d_X12_examine_1 : decode cX12_examine 1 = .ok (.invokevirtual 362, 3) := by decide +kernel
theorem d_X12_examine_4 : decode cX12_examine 4 = .ok (.ifCond .eq 15, 3) := by decide +kernel
theorem d_X12_examine_7 : decode cX12_examine 7 = .ok (.iload_n 1, 1) := by decide +kernel
theorem d_X12_examine_8 : decode cX12_examine 8 = .ok (.i2l, 1) := by decide +kernel
theorem d_X12_examine_9 : decode cX12_examine 9 = .ok (.lconst 0, 1) := by decide +kernel
theorem d_X12_examine_10 : decode cX12_examine 10 = .ok (.ldc2_w 396, 3) := by decide +kernel
theorem d_X12_examine_13 : decode cX12_examine 13 = .ok (.invokestatic 118, 3) := by decide +kernel
theorem d_X12_examine_16 : decode cX12_examine 16 = .ok (.ifCond .ne 5, 3) := by decide +kernel
theorem d_X12_examine_19 : decode cX12_examine 19 = .ok (.iconst (-1), 1) := by decide +kernel
theorem d_X12_examine_20 : decode cX12_examine 20 = .ok (.ireturn, 1) := by decide +kernel
theorem d_X12_examine_21 : decode cX12_examine 21 = .ok (.bipush (-2), 2) := by decide +kernel
theorem d_X12_examine_23 : decode cX12_examine 23 = .ok (.istore_n 2, 1) := by decide +kernel
theorem d_X12_examine_24 : decode cX12_examine 24 = .ok (.bipush (-2), 2) := by decide +kernel
theorem d_X12_examine_26 : decode cX12_examine 26 = .ok (.istore_n 3, 1) := by decide +kernel
theorem d_X12_examine_27 : decode cX12_examine 27 = .ok (.aload_n 0, 1) := by decide +kernel
theorem d_X12_examine_28 : decode cX12_examine 28 = .ok (.invokevirtual 383, 3) := by decide +kernel
theorem d_X12_examine_31 : decode cX12_examine 31 = .ok (.iconst 0, 1) := by decide +kernel
theorem d_X12_examine_32 : decode cX12_examine 32 = .ok (.istore 4, 2) := by decide +kernel
theorem d_X12_examine_34 : decode cX12_examine 34 = .ok (.iload 4, 2) := by decide +kernel
theorem d_X12_examine_36 : decode cX12_examine 36 = .ok (.aload_n 0, 1) := by decide +kernel
theorem d_X12_examine_37 : decode cX12_examine 37 = .ok (.getfield 39, 3) := by decide +kernel
theorem d_X12_examine_40 : decode cX12_examine 40 = .ok (.iconst 2, 1) := by decide +kernel
theorem d_X12_examine_41 : decode cX12_examine 41 = .ok (.iaload, 1) := by decide +kernel
theorem d_X12_examine_42 : decode cX12_examine 42 = .ok (.aload_n 0, 1) := by decide +kernel
theorem d_X12_examine_43 : decode cX12_examine 43 = .ok (.getfield 39, 3) := by decide +kernel
theorem d_X12_examine_46 : decode cX12_examine 46 = .ok (.iconst 1, 1) := by decide +kernel
theorem d_X12_examine_47 : decode cX12_examine 47 = .ok (.iaload, 1) := by decide +kernel
theorem d_X12_examine_48 : decode cX12_examine 48 = .ok (.imul, 1) := by decide +kernel
theorem d_X12_examine_49 : decode cX12_examine 49 = .ok (.if_icmp .ge 61, 3) := by decide +kernel
theorem d_X12_examine_52 : decode cX12_examine 52 = .ok (.aload_n 0, 1) := by decide +kernel
theorem d_X12_examine_53 : decode cX12_examine 53 = .ok (.iload 4, 2) := by decide +kernel
theorem d_X12_examine_55 : decode cX12_examine 55 = .ok (.aload_n 0, 1) := by decide +kernel
theorem d_X12_examine_56 : decode cX12_examine 56 = .ok (.getfield 39, 3) := by decide +kernel
theorem d_X12_examine_59 : decode cX12_examine 59 = .ok (.iconst 1, 1) := by decide +kernel
theorem d_X12_examine_60 : decode cX12_examine 60 = .ok (.iaload, 1) := by decide +kernel
theorem d_X12_examine_61 : decode cX12_examine 61 = .ok (.idiv, 1) := by decide +kernel
theorem d_X12_examine_62 : decode cX12_examine 62 = .ok (.iload 4, 2) := by decide +kernel
theorem d_X12_examine_64 : decode cX12_examine 64 = .ok (.aload_n 0, 1) := by decide +kernel
theorem d_X12_examine_65 : decode cX12_examine 65 = .ok (.getfield 39, 3) := by decide +kernel
theorem d_X12_examine_68 : decode cX12_examine 68 = .ok (.iconst 1, 1) := by decide +kernel
theorem d_X12_examine_69 : decode cX12_examine 69 = .ok (.iaload, 1) := by decide +kernel
theorem d_X12_examine_70 : decode cX12_examine 70 = .ok (.irem, 1) := by decide +kernel
theorem d_X12_examine_71 : decode cX12_examine 71 = .ok (.invokevirtual 378, 3) := by decide +kernel
theorem d_X12_examine_74 : decode cX12_examine 74 = .ok (.pop, 1) := by decide +kernel
theorem d_X12_examine_75 : decode cX12_examine 75 = .ok (.aload_n 0, 1) := by decide +kernel
theorem d_X12_examine_76 : decode cX12_examine 76 = .ok (.invokevirtual 398, 3) := by decide +kernel
theorem d_X12_examine_79 : decode cX12_examine 79 = .ok (.istore 5, 2) := by decide +kernel
theorem d_X12_examine_81 : decode cX12_examine 81 = .ok (.aload_n 0, 1) := by decide +kernel
theorem d_X12_examine_82 : decode cX12_examine 82 = .ok (.invokevirtual 386, 3) := by decide +kernel
theorem d_X12_examine_85 : decode cX12_examine 85 = .ok (.iload_n 2, 1) := by decide +kernel
theorem d_X12_examine_86 : decode cX12_examine 86 = .ok (.ifCond .lt 12, 3) := by decide +kernel
theorem d_X12_examine_89 : decode cX12_examine 89 = .ok (.iload 5, 2) := by decide +kernel
theorem d_X12_examine_91 : decode cX12_examine 91 = .ok (.iload_n 3, 1) := by decide +kernel
theorem d_X12_examine_92 : decode cX12_examine 92 = .ok (.if_icmp .lt 6, 3) := by decide +kernel
theorem d_X12_examine_95 : decode cX12_examine 95 = .ok (.goto 9, 3) := by decide +kernel
theorem d_X12_examine_98 : decode cX12_examine 98 = .ok (.iload 4, 2) := by decide +kernel
theorem d_X12_examine_100 : decode cX12_examine 100 = .ok (.istore_n 2, 1) := by decide +kernel
theorem d_X12_examine_101 : decode cX12_examine 101 = .ok (.iload 5, 2) := by decide +kernel
theorem d_X12_examine_103 : decode cX12_examine 103 = .ok (.istore_n 3, 1) := by decide +kernel
theorem d_X12_examine_104 : decode cX12_examine 104 = .ok (.iinc 4 1, 3) := by decide +kernel
theorem d_X12_examine_107 : decode cX12_examine 107 = .ok (.goto (-73), 3) := by decide +kernel
theorem d_X12_examine_110 : decode cX12_examine 110 = .ok (.iload_n 2, 1) := by decide +kernel
theorem d_X12_examine_111 : decode cX12_examine 111 = .ok (.ifCond .ge 8, 3) := by decide +kernel
theorem d_X12_examine_114 : decode cX12_examine 114 = .ok (.bipush (-2), 2) := by decide +kernel
theorem d_X12_examine_116 : decode cX12_examine 116 = .ok (.goto 35, 3) := by decide +kernel
theorem d_X12_examine_119 : decode cX12_examine 119 = .ok (.iload_n 1, 1) := by decide +kernel
theorem d_X12_examine_120 : decode cX12_examine 120 = .ok (.ifCond .ne 14, 3) := by decide +kernel
theorem d_X12_examine_123 : decode cX12_examine 123 = .ok (.iload_n 2, 1) := by decide +kernel
theorem d_X12_examine_124 : decode cX12_examine 124 = .ok (.aload_n 0, 1) := by decide +kernel
theorem d_X12_examine_125 : decode cX12_examine 125 = .ok (.getfield 39, 3) := by decide +kernel
theorem d_X12_examine_128 : decode cX12_examine 128 = .ok (.iconst 1, 1) := by decide +kernel
theorem d_X12_examine_129 : decode cX12_examine 129 = .ok (.iaload, 1) := by decide +kernel
theorem d_X12_examine_130 : decode cX12_examine 130 = .ok (.idiv, 1) := by decide +kernel
theorem d_X12_examine_131 : decode cX12_examine 131 = .ok (.goto 20, 3) := by decide +kernel
theorem d_X12_examine_134 : decode cX12_examine 134 = .ok (.iload_n 1, 1) := by decide +kernel
theorem d_X12_examine_135 : decode cX12_examine 135 = .ok (.iconst 1, 1) := by decide +kernel
theorem d_X12_examine_136 : decode cX12_examine 136 = .ok (.if_icmp .ne 14, 3) := by decide +kernel
theorem d_X12_examine_139 : decode cX12_examine 139 = .ok (.iload_n 2, 1) := by decide +kernel
theorem d_X12_examine_140 : decode cX12_examine 140 = .ok (.aload_n 0, 1) := by decide +kernel
theorem d_X12_examine_141 : decode cX12_examine 141 = .ok (.getfield 39, 3) := by decide +kernel
theorem d_X12_examine_144 : decode cX12_examine 144 = .ok (.iconst 1, 1) := by decide +kernel
theorem d_X12_examine_145 : decode cX12_examine 145 = .ok (.iaload, 1) := by decide +kernel
theorem d_X12_examine_146 : decode cX12_examine 146 = .ok (.irem, 1) := by decide +kernel
theorem d_X12_examine_147 : decode cX12_examine 147 = .ok (.goto 4, 3) := by decide +kernel
theorem d_X12_examine_150 : decode cX12_examine 150 = .ok (.iload_n 3, 1) := by decide +kernel
theorem d_X12_examine_151 : decode cX12_examine 151 = .ok (.ireturn, 1) := by decide +kernel
abbrev X_X12_examine : gX := (RX12, cX12_examine, 6, (some .int), false)
def F_X12_examine_b19 (M : gM) : Option (Int32 × gM) :=
  some ((-1 : Int32), M)
theorem T_X12_examine_b19 (r : (Int32 × gM)) (M : gM) (h : F_X12_examine_b19 M = some r) : GW 5 0 0 X_X12_examine 19 [] [] M (some (vi r.1), r.2) := by
  delta F_X12_examine_b19 at h
  refine GW_iconst (X := X_X12_examine) (pc := 19) (v := -1) d_X12_examine_19 (by decide) ?_
  replace h := Option.some.inj h
  subst h
  exact GW_ret (X := X_X12_examine) (pc := 20) d_X12_examine_20 rfl trivial
def F_X12_examine_b104 (k34 : Option Nat → Int32 → Int32 → Int32 → Int32 → gM → Option (Int32 × gM)) (l0 : Option Nat) (l1 : Int32) (l2 : Int32) (l3 : Int32) (l4 : Int32) (M : gM) : Option (Int32 × gM) :=
  k34 l0 l1 l2 l3 (l4 + 1) M
theorem T_X12_examine_b104 (k34 : Option Nat → Int32 → Int32 → Int32 → Int32 → gM → Option (Int32 × gM)) (r : (Int32 × gM)) (hk34 : ∀ (l0 : Option Nat) (l1 : Int32) (l2 : Int32) (l3 : Int32) (l4 : Int32) (M : gM), k34 l0 l1 l2 l3 l4 M = some r → GW 5 0 0 X_X12_examine 34 [(0, vr l0), (1, vi l1), (2, vi l2), (3, vi l3), (4, vi l4)] [] M (some (vi r.1), r.2)) (l0 : Option Nat) (l1 : Int32) (l2 : Int32) (l3 : Int32) (l4 : Int32) (M : gM) (h : F_X12_examine_b104 k34 l0 l1 l2 l3 l4 M = some r) : GW 5 0 0 X_X12_examine 104 [(0, vr l0), (1, vi l1), (2, vi l2), (3, vi l3), (4, vi l4)] [] M (some (vi r.1), r.2) := by
  delta F_X12_examine_b104 at h
  refine GW_iinc (j := 4) (X := X_X12_examine) (pc := 104) d_X12_examine_104 rfl (congrArg (fun z => _ + z) (by decide : Int32.ofInt 1 = (1 : Int32))) (Nat.le_of_ble_eq_true rfl) (lv2 := [(4, vi (l4 + 1)), (0, vr l0), (1, vi l1), (2, vi l2), (3, vi l3)]) rfl ?_
  refine GW_goto (X := X_X12_examine) (pc := 107) 34 d_X12_examine_107 (by decide) ?_
  refine GW_sub [1, 2, 3, 4, 0] rfl ?_
  exact hk34 l0 l1 l2 l3 (l4 + 1) M h
def F_X12_examine_b98 (k34 : Option Nat → Int32 → Int32 → Int32 → Int32 → gM → Option (Int32 × gM)) (l0 : Option Nat) (l1 : Int32) (l4 : Int32) (l5 : Int32) (M : gM) : Option (Int32 × gM) :=
  F_X12_examine_b104 k34 l0 l1 l4 l5 l4 M
theorem T_X12_examine_b98 (k34 : Option Nat → Int32 → Int32 → Int32 → Int32 → gM → Option (Int32 × gM)) (r : (Int32 × gM)) (hk34 : ∀ (l0 : Option Nat) (l1 : Int32) (l2 : Int32) (l3 : Int32) (l4 : Int32) (M : gM), k34 l0 l1 l2 l3 l4 M = some r → GW 5 0 0 X_X12_examine 34 [(0, vr l0), (1, vi l1), (2, vi l2), (3, vi l3), (4, vi l4)] [] M (some (vi r.1), r.2)) (l0 : Option Nat) (l1 : Int32) (l4 : Int32) (l5 : Int32) (M : gM) (h : F_X12_examine_b98 k34 l0 l1 l4 l5 M = some r) : GW 5 0 0 X_X12_examine 98 [(0, vr l0), (1, vi l1), (4, vi l4), (5, vi l5)] [] M (some (vi r.1), r.2) := by
  delta F_X12_examine_b98 at h
  refine GW_iload (X := X_X12_examine) (pc := 98) d_X12_examine_98 2 rfl ?_
  refine GW_istore_n (X := X_X12_examine) (pc := 100) d_X12_examine_100 rfl (Nat.le_of_ble_eq_true rfl) (lv2 := [(2, vi l4), (0, vr l0), (1, vi l1), (4, vi l4), (5, vi l5)]) rfl ?_
  refine GW_iload (X := X_X12_examine) (pc := 101) d_X12_examine_101 4 rfl ?_
  refine GW_istore_n (X := X_X12_examine) (pc := 103) d_X12_examine_103 rfl (Nat.le_of_ble_eq_true rfl) (lv2 := [(3, vi l5), (2, vi l4), (0, vr l0), (1, vi l1), (4, vi l4), (5, vi l5)]) rfl ?_
  refine GW_sub [2, 3, 1, 0, 4] rfl ?_
  exact T_X12_examine_b104 k34 r hk34 l0 l1 l4 l5 l4 M h
def F_X12_examine_b34 (k34 : Option Nat → Int32 → Int32 → Int32 → Int32 → gM → Option (Int32 × gM)) (l0 : Option Nat) (l1 : Int32) (l2 : Int32) (l3 : Int32) (l4 : Int32) (M : gM) : Option (Int32 × gM) :=
  (gR 12 M l0 20).bind fun v1 => (aI 20 M v1 (2 : Int32)).bind fun v2 => (gR 12 M l0 20).bind fun v3 => (aI 20 M v3 (1 : Int32)).bind fun v4 => if (v2 * v4) ≤ l4 then (if 0 ≤ l2 then (if l1 = 0 then ((gR 12 M l0 20).bind fun v8 => (aI 20 M v8 (1 : Int32)).bind fun v9 => if v9 = 0 then none else some ((l2 / v9), M)) else (if l1 = (1 : Int32) then ((gR 12 M l0 20).bind fun v5 => (aI 20 M v5 (1 : Int32)).bind fun v6 => if v6 = 0 then none else some ((l2 - l2 / v6 * v6), M)) else (some (l3, M)))) else (some ((-2 : Int32), M))) else ((gR 12 M l0 20).bind fun v11 => (aI 20 M v11 (1 : Int32)).bind fun v12 => if v12 = 0 then none else (gR 12 M l0 20).bind fun v14 => (aI 20 M v14 (1 : Int32)).bind fun v15 => if v15 = 0 then none else (gO 12 M l0).bind fun i17 => (F_X12_asks (some i17) (l4 / v12) (l4 - l4 / v15 * v15) M).bind fun (v18, M19) => (gC 12 M19 i17).bind fun _ => (F_X12_allHolds (some i17) M19).bind fun v21 => (F_X12_laysBack (some i17) M19).bind fun M22 => if l2 < 0 then (F_X12_examine_b98 k34 (some i17) l1 l4 v21 M22) else (if v21 < l3 then (F_X12_examine_b98 k34 (some i17) l1 l4 v21 M22) else (F_X12_examine_b104 k34 (some i17) l1 l2 l3 l4 M22)))
set_option maxHeartbeats 1000000 in
theorem T_X12_examine_b34 (k34 : Option Nat → Int32 → Int32 → Int32 → Int32 → gM → Option (Int32 × gM)) (r : (Int32 × gM)) (hk34 : ∀ (l0 : Option Nat) (l1 : Int32) (l2 : Int32) (l3 : Int32) (l4 : Int32) (M : gM), k34 l0 l1 l2 l3 l4 M = some r → GW 5 0 0 X_X12_examine 34 [(0, vr l0), (1, vi l1), (2, vi l2), (3, vi l3), (4, vi l4)] [] M (some (vi r.1), r.2)) (l0 : Option Nat) (l1 : Int32) (l2 : Int32) (l3 : Int32) (l4 : Int32) (M : gM) (h : F_X12_examine_b34 k34 l0 l1 l2 l3 l4 M = some r) : GW 5 0 0 X_X12_examine 34 [(0, vr l0), (1, vi l1), (2, vi l2), (3, vi l3), (4, vi l4)] [] M (some (vi r.1), r.2) := by
  delta F_X12_examine_b34 at h
  refine GW_iload (X := X_X12_examine) (pc := 34) d_X12_examine_34 4 rfl ?_
  refine GW_aload_n (X := X_X12_examine) (pc := 36) d_X12_examine_36 rfl 0 rfl ?_
  replace h := g_bd h
  obtain ⟨v1, hv1, h⟩ := h
  refine GW_getR (X := X_X12_examine) (pc := 37) f_X12_39 d_X12_examine_37 hv1 (Or.inr ⟨_, ty_12_20⟩) ?_
  refine GW_iconst (X := X_X12_examine) (pc := 40) (v := 2) d_X12_examine_40 (by decide) ?_
  replace h := g_bd h
  obtain ⟨v2, hv2, h⟩ := h
  refine GW_iald (X := X_X12_examine) (pc := 41) d_X12_examine_41 hv2 ?_
  refine GW_aload_n (X := X_X12_examine) (pc := 42) d_X12_examine_42 rfl 0 rfl ?_
  replace h := g_bd h
  obtain ⟨v3, hv3, h⟩ := h
  refine GW_getR (X := X_X12_examine) (pc := 43) f_X12_39 d_X12_examine_43 hv3 (Or.inr ⟨_, ty_12_20⟩) ?_
  refine GW_iconst (X := X_X12_examine) (pc := 46) (v := 1) d_X12_examine_46 (by decide) ?_
  replace h := g_bd h
  obtain ⟨v4, hv4, h⟩ := h
  refine GW_iald (X := X_X12_examine) (pc := 47) d_X12_examine_47 hv4 ?_
  refine GW_imul (X := X_X12_examine) (pc := 48) d_X12_examine_48 ?_
  refine GW_icmp_ge (X := X_X12_examine) (pc := 49) 110 d_X12_examine_49 (by decide) (fun c => ?_) (fun c => ?_)
  · replace h := g_ip c h
    refine GW_iload_n (X := X_X12_examine) (pc := 110) d_X12_examine_110 rfl 2 rfl ?_
    refine GW_if_ge (X := X_X12_examine) (pc := 111) 119 d_X12_examine_111 (by decide) (fun c => ?_) (fun c => ?_)
    · replace h := g_ip c h
      refine GW_iload_n (X := X_X12_examine) (pc := 119) d_X12_examine_119 rfl 1 rfl ?_
      refine GW_if_ne (X := X_X12_examine) (pc := 120) 134 d_X12_examine_120 (by decide) (fun c => ?_) (fun c => ?_)
      · replace h := g_ie c h
        refine GW_iload_n (X := X_X12_examine) (pc := 134) d_X12_examine_134 rfl 1 rfl ?_
        refine GW_iconst (X := X_X12_examine) (pc := 135) (v := 1) d_X12_examine_135 (by decide) ?_
        refine GW_icmp_ne (X := X_X12_examine) (pc := 136) 150 d_X12_examine_136 (by decide) (fun c => ?_) (fun c => ?_)
        · replace h := g_ie c h
          refine GW_iload_n (X := X_X12_examine) (pc := 150) d_X12_examine_150 rfl 3 rfl ?_
          replace h := Option.some.inj h
          subst h
          exact GW_ret (X := X_X12_examine) (pc := 151) d_X12_examine_151 rfl trivial
        · replace h := g_ip c h
          refine GW_iload_n (X := X_X12_examine) (pc := 139) d_X12_examine_139 rfl 2 rfl ?_
          refine GW_aload_n (X := X_X12_examine) (pc := 140) d_X12_examine_140 rfl 0 rfl ?_
          replace h := g_bd h
          obtain ⟨v5, hv5, h⟩ := h
          refine GW_getR (X := X_X12_examine) (pc := 141) f_X12_39 d_X12_examine_141 hv5 (Or.inr ⟨_, ty_12_20⟩) ?_
          refine GW_iconst (X := X_X12_examine) (pc := 144) (v := 1) d_X12_examine_144 (by decide) ?_
          replace h := g_bd h
          obtain ⟨v6, hv6, h⟩ := h
          refine GW_iald (X := X_X12_examine) (pc := 145) d_X12_examine_145 hv6 ?_
          replace h := g_ife h
          obtain ⟨hz7, h⟩ := h
          refine GW_irem (X := X_X12_examine) (pc := 146) d_X12_examine_146 hz7 ?_
          refine GW_goto (X := X_X12_examine) (pc := 147) 151 d_X12_examine_147 (by decide) ?_
          replace h := Option.some.inj h
          subst h
          exact GW_ret (X := X_X12_examine) (pc := 151) d_X12_examine_151 rfl trivial
      · replace h := g_ip c h
        refine GW_iload_n (X := X_X12_examine) (pc := 123) d_X12_examine_123 rfl 2 rfl ?_
        refine GW_aload_n (X := X_X12_examine) (pc := 124) d_X12_examine_124 rfl 0 rfl ?_
        replace h := g_bd h
        obtain ⟨v8, hv8, h⟩ := h
        refine GW_getR (X := X_X12_examine) (pc := 125) f_X12_39 d_X12_examine_125 hv8 (Or.inr ⟨_, ty_12_20⟩) ?_
        refine GW_iconst (X := X_X12_examine) (pc := 128) (v := 1) d_X12_examine_128 (by decide) ?_
        replace h := g_bd h
        obtain ⟨v9, hv9, h⟩ := h
        refine GW_iald (X := X_X12_examine) (pc := 129) d_X12_examine_129 hv9 ?_
        replace h := g_ife h
        obtain ⟨hz10, h⟩ := h
        refine GW_idiv (X := X_X12_examine) (pc := 130) d_X12_examine_130 hz10 ?_
        refine GW_goto (X := X_X12_examine) (pc := 131) 151 d_X12_examine_131 (by decide) ?_
        replace h := Option.some.inj h
        subst h
        exact GW_ret (X := X_X12_examine) (pc := 151) d_X12_examine_151 rfl trivial
    · replace h := g_ie c h
      refine GW_bipush (X := X_X12_examine) (pc := 114) (v := -2) d_X12_examine_114 (by decide) ?_
      refine GW_goto (X := X_X12_examine) (pc := 116) 151 d_X12_examine_116 (by decide) ?_
      replace h := Option.some.inj h
      subst h
      exact GW_ret (X := X_X12_examine) (pc := 151) d_X12_examine_151 rfl trivial
  · replace h := g_ie c h
    refine GW_aload_n (X := X_X12_examine) (pc := 52) d_X12_examine_52 rfl 0 rfl ?_
    refine GW_iload (X := X_X12_examine) (pc := 53) d_X12_examine_53 4 rfl ?_
    refine GW_aload_n (X := X_X12_examine) (pc := 55) d_X12_examine_55 rfl 0 rfl ?_
    replace h := g_bd h
    obtain ⟨v11, hv11, h⟩ := h
    refine GW_getR (X := X_X12_examine) (pc := 56) f_X12_39 d_X12_examine_56 hv11 (Or.inr ⟨_, ty_12_20⟩) ?_
    refine GW_iconst (X := X_X12_examine) (pc := 59) (v := 1) d_X12_examine_59 (by decide) ?_
    replace h := g_bd h
    obtain ⟨v12, hv12, h⟩ := h
    refine GW_iald (X := X_X12_examine) (pc := 60) d_X12_examine_60 hv12 ?_
    replace h := g_ife h
    obtain ⟨hz13, h⟩ := h
    refine GW_idiv (X := X_X12_examine) (pc := 61) d_X12_examine_61 hz13 ?_
    refine GW_iload (X := X_X12_examine) (pc := 62) d_X12_examine_62 4 rfl ?_
    refine GW_aload_n (X := X_X12_examine) (pc := 64) d_X12_examine_64 rfl 0 rfl ?_
    replace h := g_bd h
    obtain ⟨v14, hv14, h⟩ := h
    refine GW_getR (X := X_X12_examine) (pc := 65) f_X12_39 d_X12_examine_65 hv14 (Or.inr ⟨_, ty_12_20⟩) ?_
    refine GW_iconst (X := X_X12_examine) (pc := 68) (v := 1) d_X12_examine_68 (by decide) ?_
    replace h := g_bd h
    obtain ⟨v15, hv15, h⟩ := h
    refine GW_iald (X := X_X12_examine) (pc := 69) d_X12_examine_69 hv15 ?_
    replace h := g_ife h
    obtain ⟨hz16, h⟩ := h
    refine GW_irem (X := X_X12_examine) (pc := 70) d_X12_examine_70 hz16 ?_
    replace h := g_bd h
    obtain ⟨i17, hi17, h⟩ := h
    obtain ⟨rfl, ki17⟩ := g_gO hi17
    replace h := g_bd h
    obtain ⟨⟨v18, M19⟩, hv18, h⟩ := h
    dsimp only at h
    refine GW_callV (X := X_X12_examine) (pc := 71) (bc0 := 0) (bs0 := 0) (r := some (vi v18)) (M2 := M19) (c0 := 12) (T_X12_asks (some i17) (l4 / v12) (l4 - l4 / v15 * v15) M (v18, M19) hv18) (Nat.le_of_ble_eq_true rfl) (Nat.le_of_ble_eq_true rfl) rfl g_cok12 ki17 yc_X12_asks ⟨m_1541, m_1543, m_99, m_127, m_1544⟩ d_X12_examine_71 rfl (st := []) rfl (Nat.le_of_ble_eq_true rfl) (Nat.le_of_ble_eq_true rfl) (Nat.le_of_ble_eq_true rfl) (st2 := [vi v18]) rfl ?_
    refine GW_pop (X := X_X12_examine) (pc := 74) d_X12_examine_74 rfl ?_
    refine GW_aload_n (X := X_X12_examine) (pc := 75) d_X12_examine_75 rfl 0 rfl ?_
    replace h := g_bd h
    obtain ⟨_, kk20, h⟩ := h
    replace kk20 := g_gC kk20
    replace h := g_bd h
    obtain ⟨v21, hv21, h⟩ := h
    refine GW_callV (X := X_X12_examine) (pc := 76) (bc0 := 0) (bs0 := 0) (r := some (vi v21)) (M2 := M19) (c0 := 12) (T_X12_allHolds (some i17) M19 v21 hv21) (Nat.le_of_ble_eq_true rfl) (Nat.le_of_ble_eq_true rfl) rfl g_cok12 kk20 yc_X12_allHolds ⟨m_1599, m_1601, m_104, m_127, m_1602⟩ d_X12_examine_76 rfl (st := []) rfl (Nat.le_of_ble_eq_true rfl) (Nat.le_of_ble_eq_true rfl) (Nat.le_of_ble_eq_true rfl) (st2 := [vi v21]) rfl ?_
    refine GW_istore (X := X_X12_examine) (pc := 79) d_X12_examine_79 (Nat.le_of_ble_eq_true rfl) (lv2 := [(5, vi v21), (0, vr (some i17)), (1, vi l1), (2, vi l2), (3, vi l3), (4, vi l4)]) rfl ?_
    refine GW_aload_n (X := X_X12_examine) (pc := 81) d_X12_examine_81 rfl 1 rfl ?_
    replace h := g_bd h
    obtain ⟨M22, hM22, h⟩ := h
    refine GW_callV (X := X_X12_examine) (pc := 82) (bc0 := 0) (bs0 := 0) (r := none) (M2 := M22) (c0 := 12) (T_X12_laysBack (some i17) M19 M22 hM22) (Nat.le_of_ble_eq_true rfl) (Nat.le_of_ble_eq_true rfl) rfl g_cok12 kk20 yc_X12_laysBack ⟨m_1558, m_1560, m_101, m_127, m_1561⟩ d_X12_examine_82 rfl (st := []) rfl (Nat.le_of_ble_eq_true rfl) (Nat.le_of_ble_eq_true rfl) (Nat.le_of_ble_eq_true rfl) (st2 := []) rfl ?_
    refine GW_iload_n (X := X_X12_examine) (pc := 85) d_X12_examine_85 rfl 3 rfl ?_
    refine GW_if_lt (X := X_X12_examine) (pc := 86) 98 d_X12_examine_86 (by decide) (fun c => ?_) (fun c => ?_)
    · replace h := g_ip c h
      refine GW_sub [1, 2, 5, 0] rfl ?_
      exact T_X12_examine_b98 k34 r hk34 (some i17) l1 l4 v21 M22 h
    · replace h := g_ie c h
      refine GW_iload (X := X_X12_examine) (pc := 89) d_X12_examine_89 0 rfl ?_
      refine GW_iload_n (X := X_X12_examine) (pc := 91) d_X12_examine_91 rfl 4 rfl ?_
      refine GW_icmp_lt (X := X_X12_examine) (pc := 92) 98 d_X12_examine_92 (by decide) (fun c => ?_) (fun c => ?_)
      · replace h := g_ip c h
        refine GW_sub [1, 2, 5, 0] rfl ?_
        exact T_X12_examine_b98 k34 r hk34 (some i17) l1 l4 v21 M22 h
      · replace h := g_ie c h
        refine GW_goto (X := X_X12_examine) (pc := 95) 104 d_X12_examine_95 (by decide) ?_
        refine GW_sub [1, 2, 3, 4, 5] rfl ?_
        exact T_X12_examine_b104 k34 r hk34 (some i17) l1 l2 l3 l4 M22 h
def F_X12_examine_L34 : Nat → Option Nat → Int32 → Int32 → Int32 → Int32 → gM → Option (Int32 × gM)
  | 0 => fun _ _ _ _ _ _ => none
  | n + 1 => F_X12_examine_b34 (F_X12_examine_L34 n)
theorem T_X12_examine_L34 (r : (Int32 × gM)) : ∀ (n : Nat) (l0 : Option Nat) (l1 : Int32) (l2 : Int32) (l3 : Int32) (l4 : Int32) (M : gM), F_X12_examine_L34 n l0 l1 l2 l3 l4 M = some r → GW 5 0 0 X_X12_examine 34 [(0, vr l0), (1, vi l1), (2, vi l2), (3, vi l3), (4, vi l4)] [] M (some (vi r.1), r.2) := by
  intro n
  induction n with
  | zero => intro l0 l1 l2 l3 l4 M h; exact g_no h
  | succ n ih => intro l0 l1 l2 l3 l4 M h; exact T_X12_examine_b34 (F_X12_examine_L34 n) r ih l0 l1 l2 l3 l4 M h
def F_X12_examine_b0 (l0 : Option Nat) (l1 : Int32) (M : gM) : Option (Int32 × gM) :=
  (gO 12 M l0).bind fun i1 => (F_X12_isHouse (some i1) M).bind fun v2 => if v2 = 0 then (F_X12_examine_b19 M) else ((F_X12_in (l1).toInt64 (0 : Int64) (2 : Int64) M).bind fun v3 => if v3 = 0 then (F_X12_examine_b19 M) else ((F_X12_keeps (some i1) M).bind fun M4 => F_X12_examine_L34 g_fuel (some i1) l1 (-2 : Int32) (-2 : Int32) (0 : Int32) M4))
theorem T_X12_examine_b0 (r : (Int32 × gM)) (l0 : Option Nat) (l1 : Int32) (M : gM) (h : F_X12_examine_b0 l0 l1 M = some r) : GW 5 0 0 X_X12_examine 0 [(0, vr l0), (1, vi l1)] [] M (some (vi r.1), r.2) := by
  delta F_X12_examine_b0 at h
  refine GW_aload_n (X := X_X12_examine) (pc := 0) d_X12_examine_0 rfl 0 rfl ?_
  replace h := g_bd h
  obtain ⟨i1, hi1, h⟩ := h
  obtain ⟨rfl, ki1⟩ := g_gO hi1
  replace h := g_bd h
  obtain ⟨v2, hv2, h⟩ := h
  refine GW_callV (X := X_X12_examine) (pc := 1) (bc0 := 0) (bs0 := 0) (r := some (vi v2)) (M2 := M) (c0 := 12) (T_X12_isHouse (some i1) M v2 hv2) (Nat.le_of_ble_eq_true rfl) (Nat.le_of_ble_eq_true rfl) rfl g_cok12 ki1 yc_X12_isHouse ⟨m_1469, m_1471, m_85, m_127, m_1472⟩ d_X12_examine_1 rfl (st := []) rfl (Nat.le_of_ble_eq_true rfl) (Nat.le_of_ble_eq_true rfl) (Nat.le_of_ble_eq_true rfl) (st2 := [vi v2]) rfl ?_
  refine GW_if_eq (X := X_X12_examine) (pc := 4) 19 d_X12_examine_4 (by decide) (fun c => ?_) (fun c => ?_)
  · replace h := g_ip c h
    refine GW_sub [] rfl ?_
    exact T_X12_examine_b19 r M h
  · replace h := g_ie c h
    refine GW_iload_n (X := X_X12_examine) (pc := 7) d_X12_examine_7 rfl 1 rfl ?_
    refine GW_i2l (X := X_X12_examine) (pc := 8) d_X12_examine_8 ?_
    refine GW_lconst (X := X_X12_examine) (pc := 9) (v := 0) d_X12_examine_9 (by decide) ?_
    refine GW_ldc2 (X := X_X12_examine) (pc := 10) d_X12_examine_10 m_1598 ?_
    replace h := g_bd h
    obtain ⟨v3, hv3, h⟩ := h
    refine GW_callS (X := X_X12_examine) (pc := 13) (bc0 := 0) (bs0 := 0) (r := some (vi v3)) (M2 := M) (T_X12_in (l1).toInt64 (0 : Int64) (2 : Int64) M v3 hv3) (Nat.le_of_ble_eq_true rfl) (Nat.le_of_ble_eq_true rfl) yc_X12_in ⟨m_1291, m_1292, m_127, m_1293⟩ d_X12_examine_13 rfl (st := []) rfl (Nat.le_of_ble_eq_true rfl) (Nat.le_of_ble_eq_true rfl) (Nat.le_of_ble_eq_true rfl) (st2 := [vi v3]) rfl ?_
    refine GW_if_ne (X := X_X12_examine) (pc := 16) 21 d_X12_examine_16 (by decide) (fun c => ?_) (fun c => ?_)
    · replace h := g_ie c h
      refine GW_bipush (X := X_X12_examine) (pc := 21) (v := -2) d_X12_examine_21 (by decide) ?_
      refine GW_istore_n (X := X_X12_examine) (pc := 23) d_X12_examine_23 rfl (Nat.le_of_ble_eq_true rfl) (lv2 := [(2, vi (-2 : Int32)), (0, vr (some i1)), (1, vi l1)]) rfl ?_
      refine GW_bipush (X := X_X12_examine) (pc := 24) (v := -2) d_X12_examine_24 (by decide) ?_
      refine GW_istore_n (X := X_X12_examine) (pc := 26) d_X12_examine_26 rfl (Nat.le_of_ble_eq_true rfl) (lv2 := [(3, vi (-2 : Int32)), (2, vi (-2 : Int32)), (0, vr (some i1)), (1, vi l1)]) rfl ?_
      refine GW_aload_n (X := X_X12_examine) (pc := 27) d_X12_examine_27 rfl 2 rfl ?_
      replace h := g_bd h
      obtain ⟨M4, hM4, h⟩ := h
      refine GW_callV (X := X_X12_examine) (pc := 28) (bc0 := 0) (bs0 := 0) (r := none) (M2 := M4) (c0 := 12) (T_X12_keeps (some i1) M M4 hM4) (Nat.le_of_ble_eq_true rfl) (Nat.le_of_ble_eq_true rfl) rfl g_cok12 ki1 yc_X12_keeps ⟨m_1554, m_1556, m_100, m_127, m_1557⟩ d_X12_examine_28 rfl (st := []) rfl (Nat.le_of_ble_eq_true rfl) (Nat.le_of_ble_eq_true rfl) (Nat.le_of_ble_eq_true rfl) (st2 := []) rfl ?_
      refine GW_iconst (X := X_X12_examine) (pc := 31) (v := 0) d_X12_examine_31 (by decide) ?_
      refine GW_istore (X := X_X12_examine) (pc := 32) d_X12_examine_32 (Nat.le_of_ble_eq_true rfl) (lv2 := [(4, vi (0 : Int32)), (3, vi (-2 : Int32)), (2, vi (-2 : Int32)), (0, vr (some i1)), (1, vi l1)]) rfl ?_
      refine GW_sub [3, 4, 2, 1, 0] rfl ?_
      exact T_X12_examine_L34 r g_fuel (some i1) l1 (-2 : Int32) (-2 : Int32) (0 : Int32) M4 h
    · replace h := g_ip c h
      refine GW_sub [] rfl ?_
      exact T_X12_examine_b19 r M h
def F_X12_examine (l0 : Option Nat) (l1 : Int32) (M : gM) : Option (Int32 × gM) := F_X12_examine_b0 l0 l1 M
theorem T_X12_examine (l0 : Option Nat) (l1 : Int32) (M : gM) (r : (Int32 × gM)) (h : F_X12_examine l0 l1 M = some r) : g_Met 5 0 0 yX12_examine X_X12_examine [vr l0, vi l1] M (some (vi r.1), r.2) :=
  g_Met_of pn_RX12 rfl (Nat.le_of_ble_eq_true rfl) (fun h => by cases h) (GW_sub [0, 1] rfl (T_X12_examine_b0 r l0 l1 M h))
/-! ForgetHeirs$State.strengthAs(LForgetHeirs$House;II)I -/
theorem d_X8_strengthAs_0 : decode cX8_strengthAs 0 = .ok (.iconst 0, 1) := by decide +kernel
theorem d_X8_strengthAs_1 : decode cX8_strengthAs 1 = .ok (.istore 4, 2) := by decide +kernel
theorem d_X8_strengthAs_3 : decode cX8_strengthAs 3 = .ok (.iconst 0, 1) := by decide +kernel
theorem d_X8_strengthAs_4 : decode cX8_strengthAs 4 = .ok (.istore 5, 2) := by decide +kernel
theorem d_X8_strengthAs_6 : decode cX8_strengthAs 6 = .ok (.iload 5, 2) := by decide +kernel
theorem d_X8_strengthAs_8 : decode cX8_strengthAs 8 = .ok (.aload_n 1, 1) := by decide +kernel
theorem d_X8_strengthAs_9 : decode cX8_strengthAs 9 = .ok (.getfield 66, 3) := by decide +kernel
theorem d_X8_strengthAs_12 : decode cX8_strengthAs 12 = .ok (.if_icmp .ge 41, 3) := by decide +kernel
theorem d_X8_strengthAs_15 : decode cX8_strengthAs 15 = .ok (.iload 5, 2) := by decide +kernel
theorem d_X8_strengthAs_17 : decode cX8_strengthAs 17 = .ok (.bipush 7, 2) := by decide +kernel
theorem d_X8_strengthAs_19 : decode cX8_strengthAs 19 = .ok (.imul, 1) := by decide +kernel
theorem d_X8_strengthAs_20 : decode cX8_strengthAs 20 = .ok (.iload_n 2, 1) := by decide +kernel
theorem d_X8_strengthAs_21 : decode cX8_strengthAs 21 = .ok (.iadd, 1) := by decide +kernel
theorem d_X8_strengthAs_22 : decode cX8_strengthAs 22 = .ok (.istore 6, 2) := by decide +kernel
theorem d_X8_strengthAs_24 : decode cX8_strengthAs 24 = .ok (.aload_n 0, 1) := by decide +kernel
theorem d_X8_strengthAs_25 : decode cX8_strengthAs 25 = .ok (.getfield 9, 3) := by decide +kernel
theorem d_X8_strengthAs_28 : decode cX8_strengthAs 28 = .ok (.iload 6, 2) := by decide +kernel
theorem d_X8_strengthAs_30 : decode cX8_strengthAs 30 = .ok (.iaload, 1) := by decide +kernel
theorem d_X8_strengthAs_31 : decode cX8_strengthAs 31 = .ok (.iload_n 3, 1) := by decide +kernel
theorem d_X8_strengthAs_32 : decode cX8_strengthAs 32 = .ok (.if_icmp .ne 15, 3) := by decide +kernel
theorem d_X8_strengthAs_35 : decode cX8_strengthAs 35 = .ok (.iload 4, 2) := by decide +kernel
theorem d_X8_strengthAs_37 : decode cX8_strengthAs 37 = .ok (.aload_n 0, 1) := by decide +kernel
theorem d_X8_strengthAs_38 : decode cX8_strengthAs 38 = .ok (.getfield 15, 3) := by decide +kernel
theorem d_X8_strengthAs_41 : decode cX8_strengthAs 41 = .ok (.iload 6, 2) := by decide +kernel
theorem d_X8_strengthAs_43 : decode cX8_strengthAs 43 = .ok (.iaload, 1) := by decide +kernel
theorem d_X8_strengthAs_44 : decode cX8_strengthAs 44 = .ok (.iadd, 1) := by decide +kernel
theorem d_X8_strengthAs_45 : decode cX8_strengthAs 45 = .ok (.istore 4, 2) := by decide +kernel
theorem d_X8_strengthAs_47 : decode cX8_strengthAs 47 = .ok (.iinc 5 1, 3) := by decide +kernel
theorem d_X8_strengthAs_50 : decode cX8_strengthAs 50 = .ok (.goto (-44), 3) := by decide +kernel
theorem d_X8_strengthAs_53 : decode cX8_strengthAs 53 = .ok (.iload 4, 2) := by decide +kernel
theorem d_X8_strengthAs_55 : decode cX8_strengthAs 55 = .ok (.ireturn, 1) := by decide +kernel
abbrev X_X8_strengthAs : gX := (RX8, cX8_strengthAs, 7, (some .int), false)
def F_X8_strengthAs_b47 (k6 : Option Nat → Option Nat → Int32 → Int32 → Int32 → Int32 → Option Int32) (M : gM) (l0 : Option Nat) (l1 : Option Nat) (l2 : Int32) (l3 : Int32) (l4 : Int32) (l5 : Int32) : Option Int32 :=
  k6 l0 l1 l2 l3 l4 (l5 + 1)
theorem T_X8_strengthAs_b47 (k6 : Option Nat → Option Nat → Int32 → Int32 → Int32 → Int32 → Option Int32) (M : gM) (r : Int32) (hk6 : ∀ (l0 : Option Nat) (l1 : Option Nat) (l2 : Int32) (l3 : Int32) (l4 : Int32) (l5 : Int32), k6 l0 l1 l2 l3 l4 l5 = some r → GW 0 0 0 X_X8_strengthAs 6 [(0, vr l0), (1, vr l1), (2, vi l2), (3, vi l3), (4, vi l4), (5, vi l5)] [] M (some (vi r), M)) (l0 : Option Nat) (l1 : Option Nat) (l2 : Int32) (l3 : Int32) (l4 : Int32) (l5 : Int32) (h : F_X8_strengthAs_b47 k6 M l0 l1 l2 l3 l4 l5 = some r) : GW 0 0 0 X_X8_strengthAs 47 [(0, vr l0), (1, vr l1), (2, vi l2), (3, vi l3), (4, vi l4), (5, vi l5)] [] M (some (vi r), M) := by
  delta F_X8_strengthAs_b47 at h
  refine GW_iinc (j := 5) (X := X_X8_strengthAs) (pc := 47) d_X8_strengthAs_47 rfl (congrArg (fun z => _ + z) (by decide : Int32.ofInt 1 = (1 : Int32))) (Nat.le_of_ble_eq_true rfl) (lv2 := [(5, vi (l5 + 1)), (0, vr l0), (1, vr l1), (2, vi l2), (3, vi l3), (4, vi l4)]) rfl ?_
  refine GW_goto (X := X_X8_strengthAs) (pc := 50) 6 d_X8_strengthAs_50 (by decide) ?_
  refine GW_sub [1, 2, 3, 4, 5, 0] rfl ?_
  exact hk6 l0 l1 l2 l3 l4 (l5 + 1) h
def F_X8_strengthAs_b6 (k6 : Option Nat → Option Nat → Int32 → Int32 → Int32 → Int32 → Option Int32) (M : gM) (l0 : Option Nat) (l1 : Option Nat) (l2 : Int32) (l3 : Int32) (l4 : Int32) (l5 : Int32) : Option Int32 :=
  (gI 1 M l1 7).bind fun v1 => if v1 ≤ l5 then (some l4) else ((gR 8 M l0 0).bind fun v2 => (aI 20 M v2 ((l5 * (7 : Int32)) + l2)).bind fun v3 => if v3 = l3 then ((gR 8 M l0 1).bind fun v4 => (aI 20 M v4 ((l5 * (7 : Int32)) + l2)).bind fun v5 => F_X8_strengthAs_b47 k6 M l0 l1 l2 l3 (l4 + v5) l5) else (F_X8_strengthAs_b47 k6 M l0 l1 l2 l3 l4 l5))
set_option maxHeartbeats 1000000 in
theorem T_X8_strengthAs_b6 (k6 : Option Nat → Option Nat → Int32 → Int32 → Int32 → Int32 → Option Int32) (M : gM) (r : Int32) (hk6 : ∀ (l0 : Option Nat) (l1 : Option Nat) (l2 : Int32) (l3 : Int32) (l4 : Int32) (l5 : Int32), k6 l0 l1 l2 l3 l4 l5 = some r → GW 0 0 0 X_X8_strengthAs 6 [(0, vr l0), (1, vr l1), (2, vi l2), (3, vi l3), (4, vi l4), (5, vi l5)] [] M (some (vi r), M)) (l0 : Option Nat) (l1 : Option Nat) (l2 : Int32) (l3 : Int32) (l4 : Int32) (l5 : Int32) (h : F_X8_strengthAs_b6 k6 M l0 l1 l2 l3 l4 l5 = some r) : GW 0 0 0 X_X8_strengthAs 6 [(0, vr l0), (1, vr l1), (2, vi l2), (3, vi l3), (4, vi l4), (5, vi l5)] [] M (some (vi r), M) := by
  delta F_X8_strengthAs_b6 at h
  refine GW_iload (X := X_X8_strengthAs) (pc := 6) d_X8_strengthAs_6 5 rfl ?_
  refine GW_aload_n (X := X_X8_strengthAs) (pc := 8) d_X8_strengthAs_8 rfl 1 rfl ?_
  replace h := g_bd h
  obtain ⟨v1, hv1, h⟩ := h
  refine GW_getI (X := X_X8_strengthAs) (pc := 9) f_X8_66 d_X8_strengthAs_9 hv1 (Or.inl ty_1_7) ?_
  refine GW_icmp_ge (X := X_X8_strengthAs) (pc := 12) 53 d_X8_strengthAs_12 (by decide) (fun c => ?_) (fun c => ?_)
  · replace h := g_ip c h
    refine GW_iload (X := X_X8_strengthAs) (pc := 53) d_X8_strengthAs_53 4 rfl ?_
    replace h := Option.some.inj h
    subst h
    exact GW_ret (X := X_X8_strengthAs) (pc := 55) d_X8_strengthAs_55 rfl trivial
  · replace h := g_ie c h
    refine GW_iload (X := X_X8_strengthAs) (pc := 15) d_X8_strengthAs_15 5 rfl ?_
    refine GW_bipush (X := X_X8_strengthAs) (pc := 17) (v := 7) d_X8_strengthAs_17 (by decide) ?_
    refine GW_imul (X := X_X8_strengthAs) (pc := 19) d_X8_strengthAs_19 ?_
    refine GW_iload_n (X := X_X8_strengthAs) (pc := 20) d_X8_strengthAs_20 rfl 2 rfl ?_
    refine GW_iadd (X := X_X8_strengthAs) (pc := 21) d_X8_strengthAs_21 ?_
    refine GW_istore (X := X_X8_strengthAs) (pc := 22) d_X8_strengthAs_22 (Nat.le_of_ble_eq_true rfl) (lv2 := [(6, vi ((l5 * (7 : Int32)) + l2)), (0, vr l0), (1, vr l1), (2, vi l2), (3, vi l3), (4, vi l4), (5, vi l5)]) rfl ?_
    refine GW_aload_n (X := X_X8_strengthAs) (pc := 24) d_X8_strengthAs_24 rfl 1 rfl ?_
    replace h := g_bd h
    obtain ⟨v2, hv2, h⟩ := h
    refine GW_getR (X := X_X8_strengthAs) (pc := 25) f_X8_9 d_X8_strengthAs_25 hv2 (Or.inr ⟨_, ty_8_0⟩) ?_
    refine GW_iload (X := X_X8_strengthAs) (pc := 28) d_X8_strengthAs_28 0 rfl ?_
    replace h := g_bd h
    obtain ⟨v3, hv3, h⟩ := h
    refine GW_iald (X := X_X8_strengthAs) (pc := 30) d_X8_strengthAs_30 hv3 ?_
    refine GW_iload_n (X := X_X8_strengthAs) (pc := 31) d_X8_strengthAs_31 rfl 4 rfl ?_
    refine GW_icmp_ne (X := X_X8_strengthAs) (pc := 32) 47 d_X8_strengthAs_32 (by decide) (fun c => ?_) (fun c => ?_)
    · replace h := g_ie c h
      refine GW_sub [1, 2, 3, 4, 5, 6] rfl ?_
      exact T_X8_strengthAs_b47 k6 M r hk6 l0 l1 l2 l3 l4 l5 h
    · replace h := g_ip c h
      refine GW_iload (X := X_X8_strengthAs) (pc := 35) d_X8_strengthAs_35 5 rfl ?_
      refine GW_aload_n (X := X_X8_strengthAs) (pc := 37) d_X8_strengthAs_37 rfl 1 rfl ?_
      replace h := g_bd h
      obtain ⟨v4, hv4, h⟩ := h
      refine GW_getR (X := X_X8_strengthAs) (pc := 38) f_X8_15 d_X8_strengthAs_38 hv4 (Or.inr ⟨_, ty_8_1⟩) ?_
      refine GW_iload (X := X_X8_strengthAs) (pc := 41) d_X8_strengthAs_41 0 rfl ?_
      replace h := g_bd h
      obtain ⟨v5, hv5, h⟩ := h
      refine GW_iald (X := X_X8_strengthAs) (pc := 43) d_X8_strengthAs_43 hv5 ?_
      refine GW_iadd (X := X_X8_strengthAs) (pc := 44) d_X8_strengthAs_44 ?_
      refine GW_istore (X := X_X8_strengthAs) (pc := 45) d_X8_strengthAs_45 (Nat.le_of_ble_eq_true rfl) (lv2 := [(4, vi (l4 + v5)), (6, vi ((l5 * (7 : Int32)) + l2)), (0, vr l0), (1, vr l1), (2, vi l2), (3, vi l3), (5, vi l5)]) rfl ?_
      refine GW_sub [2, 3, 4, 5, 0, 6] rfl ?_
      exact T_X8_strengthAs_b47 k6 M r hk6 l0 l1 l2 l3 (l4 + v5) l5 h
def F_X8_strengthAs_L6 (M : gM) : Nat → Option Nat → Option Nat → Int32 → Int32 → Int32 → Int32 → Option Int32
  | 0 => fun _ _ _ _ _ _ => none
  | n + 1 => F_X8_strengthAs_b6 (F_X8_strengthAs_L6 M n) M
theorem T_X8_strengthAs_L6 (M : gM) (r : Int32) : ∀ (n : Nat) (l0 : Option Nat) (l1 : Option Nat) (l2 : Int32) (l3 : Int32) (l4 : Int32) (l5 : Int32), F_X8_strengthAs_L6 M n l0 l1 l2 l3 l4 l5 = some r → GW 0 0 0 X_X8_strengthAs 6 [(0, vr l0), (1, vr l1), (2, vi l2), (3, vi l3), (4, vi l4), (5, vi l5)] [] M (some (vi r), M) := by
  intro n
  induction n with
  | zero => intro l0 l1 l2 l3 l4 l5 h; exact g_no h
  | succ n ih => intro l0 l1 l2 l3 l4 l5 h; exact T_X8_strengthAs_b6 (F_X8_strengthAs_L6 M n) M r ih l0 l1 l2 l3 l4 l5 h
def F_X8_strengthAs_b0 (M : gM) (l0 : Option Nat) (l1 : Option Nat) (l2 : Int32) (l3 : Int32) : Option Int32 :=
  F_X8_strengthAs_L6 M g_fuel l0 l1 l2 l3 (0 : Int32) (0 : Int32)
theorem T_X8_strengthAs_b0 (M : gM) (r : Int32) (l0 : Option Nat) (l1 : Option Nat) (l2 : Int32) (l3 : Int32) (h : F_X8_strengthAs_b0 M l0 l1 l2 l3 = some r) : GW 0 0 0 X_X8_strengthAs 0 [(0, vr l0), (1, vr l1), (2, vi l2), (3, vi l3)] [] M (some (vi r), M) := by
  delta F_X8_strengthAs_b0 at h
  refine GW_iconst (X := X_X8_strengthAs) (pc := 0) (v := 0) d_X8_strengthAs_0 (by decide) ?_
  refine GW_istore (X := X_X8_strengthAs) (pc := 1) d_X8_strengthAs_1 (Nat.le_of_ble_eq_true rfl) (lv2 := [(4, vi (0 : Int32)), (0, vr l0), (1, vr l1), (2, vi l2), (3, vi l3)]) rfl ?_
  refine GW_iconst (X := X_X8_strengthAs) (pc := 3) (v := 0) d_X8_strengthAs_3 (by decide) ?_
  refine GW_istore (X := X_X8_strengthAs) (pc := 4) d_X8_strengthAs_4 (Nat.le_of_ble_eq_true rfl) (lv2 := [(5, vi (0 : Int32)), (4, vi (0 : Int32)), (0, vr l0), (1, vr l1), (2, vi l2), (3, vi l3)]) rfl ?_
  refine GW_sub [2, 3, 4, 5, 1, 0] rfl ?_
  exact T_X8_strengthAs_L6 M r g_fuel l0 l1 l2 l3 (0 : Int32) (0 : Int32) h
def F_X8_strengthAs (l0 : Option Nat) (l1 : Option Nat) (l2 : Int32) (l3 : Int32) (M : gM) : Option Int32 := F_X8_strengthAs_b0 M l0 l1 l2 l3
theorem T_X8_strengthAs (l0 : Option Nat) (l1 : Option Nat) (l2 : Int32) (l3 : Int32) (M : gM) (r : Int32) (h : F_X8_strengthAs l0 l1 l2 l3 M = some r) : g_Met 0 0 0 yX8_strengthAs X_X8_strengthAs [vr l0, vr l1, vi l2, vi l3] M (some (vi r), M) :=
  g_Met_of pn_RX8 rfl (Nat.le_of_ble_eq_true rfl) (fun h => by cases h) (GW_sub [0, 1, 2, 3] rfl (T_X8_strengthAs_b0 M r l0 l1 l2 l3 h))
/-! ForgetHeirs.likeliest(II)I -/
theorem d_X11_likeliest_0 : decode cX11_likeliest 0 = .ok (.aload_n 0, 1) := by decide +kernel
theorem d_X11_likeliest_1 : decode cX11_likeliest 1 = .ok (.iload_n 1, 1) := by decide +kernel
theorem d_X11_likeliest_2 : decode cX11_likeliest 2 = .ok (.invokevirtual 154, 3) := by decide +kernel
theorem d_X11_likeliest_5 : decode cX11_likeliest 5 = .ok (.ifCond .eq 12, 3) := by decide +kernel
theorem d_X11_likeliest_8 : decode cX11_likeliest 8 = .ok (.iload_n 2, 1) := by decide +kernel
theorem d_X11_likeliest_9 : decode cX11_likeliest 9 = .ok (.ifCond .lt 8, 3) := by decide +kernel
theorem d_X11_likeliest_12 : decode cX11_likeliest 12 = .ok (.iload_n 2, 1) := by decide +kernel
theorem d_X11_likeliest_13 : decode cX11_likeliest 13 = .ok (.iconst 1, 1) := by decide +kernel
theorem d_X11_likeliest_14 : decode cX11_likeliest 14 = .ok (.if_icmp .le 5, 3) := by decide +kernel
theorem d_X11_likeliest_17 : decode cX11_likeliest 17 = .ok (.iconst (-1), 1) := by decide +kernel
theorem d_X11_likeliest_18 : decode cX11_likeliest 18 = .ok (.ireturn, 1) := by decide +kernel
theorem d_X11_likeliest_19 : decode cX11_likeliest 19 = .ok (.iconst (-1), 1) := by decide +kernel
theorem d_X11_likeliest_20 : decode cX11_likeliest 20 = .ok (.istore_n 3, 1) := by decide +kernel
theorem d_X11_likeliest_21 : decode cX11_likeliest 21 = .ok (.iconst 0, 1) := by decide +kernel
theorem d_X11_likeliest_22 : decode cX11_likeliest 22 = .ok (.istore 4, 2) := by decide +kernel
theorem d_X11_likeliest_24 : decode cX11_likeliest 24 = .ok (.iconst 0, 1) := by decide +kernel
theorem d_X11_likeliest_25 : decode cX11_likeliest 25 = .ok (.istore 5, 2) := by decide +kernel
theorem d_X11_likeliest_27 : decode cX11_likeliest 27 = .ok (.iload 5, 2) := by decide +kernel
theorem d_X11_likeliest_29 : decode cX11_likeliest 29 = .ok (.bipush 9, 2) := by decide +kernel
theorem d_X11_likeliest_31 : decode cX11_likeliest 31 = .ok (.if_icmp .gt 39, 3) := by decide +kernel
theorem d_X11_likeliest_34 : decode cX11_likeliest 34 = .ok (.aload_n 0, 1) := by decide +kernel
theorem d_X11_likeliest_35 : decode cX11_likeliest 35 = .ok (.getfield 25, 3) := by decide +kernel
theorem d_X11_likeliest_38 : decode cX11_likeliest 38 = .ok (.aload_n 0, 1) := by decide +kernel
theorem d_X11_likeliest_39 : decode cX11_likeliest 39 = .ok (.getfield 59, 3) := by decide +kernel
theorem d_X11_likeliest_42 : decode cX11_likeliest 42 = .ok (.iload_n 1, 1) := by decide +kernel
theorem d_X11_likeliest_43 : decode cX11_likeliest 43 = .ok (.iload 5, 2) := by decide +kernel
theorem d_X11_likeliest_45 : decode cX11_likeliest 45 = .ok (.invokevirtual 274, 3) := by decide +kernel
theorem d_X11_likeliest_48 : decode cX11_likeliest 48 = .ok (.istore 6, 2) := by decide +kernel
theorem d_X11_likeliest_50 : decode cX11_likeliest 50 = .ok (.iload 6, 2) := by decide +kernel
theorem d_X11_likeliest_52 : decode cX11_likeliest 52 = .ok (.iload 4, 2) := by decide +kernel
theorem d_X11_likeliest_54 : decode cX11_likeliest 54 = .ok (.if_icmp .le 10, 3) := by decide +kernel
theorem d_X11_likeliest_57 : decode cX11_likeliest 57 = .ok (.iload 5, 2) := by decide +kernel
theorem d_X11_likeliest_59 : decode cX11_likeliest 59 = .ok (.istore_n 3, 1) := by decide +kernel
theorem d_X11_likeliest_60 : decode cX11_likeliest 60 = .ok (.iload 6, 2) := by decide +kernel
theorem d_X11_likeliest_62 : decode cX11_likeliest 62 = .ok (.istore 4, 2) := by decide +kernel
theorem d_X11_likeliest_64 : decode cX11_likeliest 64 = .ok (.iinc 5 1, 3) := by decide +kernel
theorem d_X11_likeliest_67 : decode cX11_likeliest 67 = .ok (.goto (-40), 3) := by decide +kernel
theorem d_X11_likeliest_70 : decode cX11_likeliest 70 = .ok (.iload_n 3, 1) := by decide +kernel
theorem d_X11_likeliest_71 : decode cX11_likeliest 71 = .ok (.iconst (-1), 1) := by decide +kernel
theorem d_X11_likeliest_72 : decode cX11_likeliest 72 = .ok (.if_icmp .ne 6, 3) := by decide +kernel
theorem d_X11_likeliest_75 : decode cX11_likeliest 75 = .ok (.bipush (-2), 2) := by decide +kernel
theorem d_X11_likeliest_77 : decode cX11_likeliest 77 = .ok (.ireturn, 1) := by decide +kernel
theorem d_X11_likeliest_78 : decode cX11_likeliest 78 = .ok (.iload_n 2, 1) := by decide +kernel
theorem d_X11_likeliest_79 : decode cX11_likeliest 79 = .ok (.ifCond .ne 7, 3) := by decide +kernel
theorem d_X11_likeliest_82 : decode cX11_likeliest 82 = .ok (.iload_n 3, 1) := by decide +kernel
theorem d_X11_likeliest_83 : decode cX11_likeliest 83 = .ok (.goto 5, 3) := by decide +kernel
theorem d_X11_likeliest_86 : decode cX11_likeliest 86 = .ok (.iload 4, 2) := by decide +kernel
theorem d_X11_likeliest_88 : decode cX11_likeliest 88 = .ok (.ireturn, 1) := by decide +kernel
abbrev X_X11_likeliest : gX := (RX11, cX11_likeliest, 7, (some .int), false)
def F_X11_likeliest_b17 (M : gM) : Option Int32 :=
  some (-1 : Int32)
theorem T_X11_likeliest_b17 (M : gM) (r : Int32) (h : F_X11_likeliest_b17 M = some r) : GW 1 0 0 X_X11_likeliest 17 [] [] M (some (vi r), M) := by
  delta F_X11_likeliest_b17 at h
  refine GW_iconst (X := X_X11_likeliest) (pc := 17) (v := -1) d_X11_likeliest_17 (by decide) ?_
  replace h := Option.some.inj h
  subst h
  exact GW_ret (X := X_X11_likeliest) (pc := 18) d_X11_likeliest_18 rfl trivial
def F_X11_likeliest_b64 (k27 : Option Nat → Int32 → Int32 → Int32 → Int32 → Int32 → Option Int32) (M : gM) (l0 : Option Nat) (l1 : Int32) (l2 : Int32) (l3 : Int32) (l4 : Int32) (l5 : Int32) : Option Int32 :=
  k27 l0 l1 l2 l3 l4 (l5 + 1)
theorem T_X11_likeliest_b64 (k27 : Option Nat → Int32 → Int32 → Int32 → Int32 → Int32 → Option Int32) (M : gM) (r : Int32) (hk27 : ∀ (l0 : Option Nat) (l1 : Int32) (l2 : Int32) (l3 : Int32) (l4 : Int32) (l5 : Int32), k27 l0 l1 l2 l3 l4 l5 = some r → GW 1 0 0 X_X11_likeliest 27 [(0, vr l0), (1, vi l1), (2, vi l2), (3, vi l3), (4, vi l4), (5, vi l5)] [] M (some (vi r), M)) (l0 : Option Nat) (l1 : Int32) (l2 : Int32) (l3 : Int32) (l4 : Int32) (l5 : Int32) (h : F_X11_likeliest_b64 k27 M l0 l1 l2 l3 l4 l5 = some r) : GW 1 0 0 X_X11_likeliest 64 [(0, vr l0), (1, vi l1), (2, vi l2), (3, vi l3), (4, vi l4), (5, vi l5)] [] M (some (vi r), M) := by
  delta F_X11_likeliest_b64 at h
  refine GW_iinc (j := 5) (X := X_X11_likeliest) (pc := 64) d_X11_likeliest_64 rfl (congrArg (fun z => _ + z) (by decide : Int32.ofInt 1 = (1 : Int32))) (Nat.le_of_ble_eq_true rfl) (lv2 := [(5, vi (l5 + 1)), (0, vr l0), (1, vi l1), (2, vi l2), (3, vi l3), (4, vi l4)]) rfl ?_
  refine GW_goto (X := X_X11_likeliest) (pc := 67) 27 d_X11_likeliest_67 (by decide) ?_
  refine GW_sub [1, 2, 3, 4, 5, 0] rfl ?_
  exact hk27 l0 l1 l2 l3 l4 (l5 + 1) h
def F_X11_likeliest_b27 (k27 : Option Nat → Int32 → Int32 → Int32 → Int32 → Int32 → Option Int32) (M : gM) (l0 : Option Nat) (l1 : Int32) (l2 : Int32) (l3 : Int32) (l4 : Int32) (l5 : Int32) : Option Int32 :=
  if (9 : Int32) < l5 then (if l3 = (-1 : Int32) then (some (-2 : Int32)) else (if l2 = 0 then (some l3) else (some l4))) else ((gR 11 M l0 5).bind fun v1 => (gR 11 M l0 11).bind fun v2 => (gO 8 M v1).bind fun i3 => (F_X8_strengthAs (some i3) v2 l1 l5 M).bind fun v4 => if v4 ≤ l4 then (F_X11_likeliest_b64 k27 M l0 l1 l2 l3 l4 l5) else (F_X11_likeliest_b64 k27 M l0 l1 l2 l5 v4 l5))
set_option maxHeartbeats 1000000 in
theorem T_X11_likeliest_b27 (k27 : Option Nat → Int32 → Int32 → Int32 → Int32 → Int32 → Option Int32) (M : gM) (r : Int32) (hk27 : ∀ (l0 : Option Nat) (l1 : Int32) (l2 : Int32) (l3 : Int32) (l4 : Int32) (l5 : Int32), k27 l0 l1 l2 l3 l4 l5 = some r → GW 1 0 0 X_X11_likeliest 27 [(0, vr l0), (1, vi l1), (2, vi l2), (3, vi l3), (4, vi l4), (5, vi l5)] [] M (some (vi r), M)) (l0 : Option Nat) (l1 : Int32) (l2 : Int32) (l3 : Int32) (l4 : Int32) (l5 : Int32) (h : F_X11_likeliest_b27 k27 M l0 l1 l2 l3 l4 l5 = some r) : GW 1 0 0 X_X11_likeliest 27 [(0, vr l0), (1, vi l1), (2, vi l2), (3, vi l3), (4, vi l4), (5, vi l5)] [] M (some (vi r), M) := by
  delta F_X11_likeliest_b27 at h
  refine GW_iload (X := X_X11_likeliest) (pc := 27) d_X11_likeliest_27 5 rfl ?_
  refine GW_bipush (X := X_X11_likeliest) (pc := 29) (v := 9) d_X11_likeliest_29 (by decide) ?_
  refine GW_icmp_gt (X := X_X11_likeliest) (pc := 31) 70 d_X11_likeliest_31 (by decide) (fun c => ?_) (fun c => ?_)
  · replace h := g_ip c h
    refine GW_iload_n (X := X_X11_likeliest) (pc := 70) d_X11_likeliest_70 rfl 3 rfl ?_
    refine GW_iconst (X := X_X11_likeliest) (pc := 71) (v := -1) d_X11_likeliest_71 (by decide) ?_
    refine GW_icmp_ne (X := X_X11_likeliest) (pc := 72) 78 d_X11_likeliest_72 (by decide) (fun c => ?_) (fun c => ?_)
    · replace h := g_ie c h
      refine GW_iload_n (X := X_X11_likeliest) (pc := 78) d_X11_likeliest_78 rfl 2 rfl ?_
      refine GW_if_ne (X := X_X11_likeliest) (pc := 79) 86 d_X11_likeliest_79 (by decide) (fun c => ?_) (fun c => ?_)
      · replace h := g_ie c h
        refine GW_iload (X := X_X11_likeliest) (pc := 86) d_X11_likeliest_86 4 rfl ?_
        replace h := Option.some.inj h
        subst h
        exact GW_ret (X := X_X11_likeliest) (pc := 88) d_X11_likeliest_88 rfl trivial
      · replace h := g_ip c h
        refine GW_iload_n (X := X_X11_likeliest) (pc := 82) d_X11_likeliest_82 rfl 3 rfl ?_
        refine GW_goto (X := X_X11_likeliest) (pc := 83) 88 d_X11_likeliest_83 (by decide) ?_
        replace h := Option.some.inj h
        subst h
        exact GW_ret (X := X_X11_likeliest) (pc := 88) d_X11_likeliest_88 rfl trivial
    · replace h := g_ip c h
      refine GW_bipush (X := X_X11_likeliest) (pc := 75) (v := -2) d_X11_likeliest_75 (by decide) ?_
      replace h := Option.some.inj h
      subst h
      exact GW_ret (X := X_X11_likeliest) (pc := 77) d_X11_likeliest_77 rfl trivial
  · replace h := g_ie c h
    refine GW_aload_n (X := X_X11_likeliest) (pc := 34) d_X11_likeliest_34 rfl 0 rfl ?_
    replace h := g_bd h
    obtain ⟨v1, hv1, h⟩ := h
    refine GW_getR (X := X_X11_likeliest) (pc := 35) f_X11_25 d_X11_likeliest_35 hv1 (Or.inl ⟨_, ty_11_5⟩) ?_
    refine GW_aload_n (X := X_X11_likeliest) (pc := 38) d_X11_likeliest_38 rfl 0 rfl ?_
    replace h := g_bd h
    obtain ⟨v2, hv2, h⟩ := h
    refine GW_getR (X := X_X11_likeliest) (pc := 39) f_X11_59 d_X11_likeliest_39 hv2 (Or.inl ⟨_, ty_11_11⟩) ?_
    refine GW_iload_n (X := X_X11_likeliest) (pc := 42) d_X11_likeliest_42 rfl 1 rfl ?_
    refine GW_iload (X := X_X11_likeliest) (pc := 43) d_X11_likeliest_43 5 rfl ?_
    replace h := g_bd h
    obtain ⟨i3, hi3, h⟩ := h
    obtain ⟨rfl, ki3⟩ := g_gO hi3
    replace h := g_bd h
    obtain ⟨v4, hv4, h⟩ := h
    refine GW_callV (X := X_X11_likeliest) (pc := 45) (bc0 := 0) (bs0 := 0) (r := some (vi v4)) (M2 := M) (c0 := 8) (T_X8_strengthAs (some i3) v2 l1 l5 M v4 hv4) (Nat.le_of_ble_eq_true rfl) (Nat.le_of_ble_eq_true rfl) rfl g_cok8 ki3 yc_X8_strengthAs ⟨m_1020, m_1021, m_1022, m_119, m_1023⟩ d_X11_likeliest_45 rfl (st := []) rfl (Nat.le_of_ble_eq_true rfl) (Nat.le_of_ble_eq_true rfl) (Nat.le_of_ble_eq_true rfl) (st2 := [vi v4]) rfl ?_
    refine GW_istore (X := X_X11_likeliest) (pc := 48) d_X11_likeliest_48 (Nat.le_of_ble_eq_true rfl) (lv2 := [(6, vi v4), (0, vr l0), (1, vi l1), (2, vi l2), (3, vi l3), (4, vi l4), (5, vi l5)]) rfl ?_
    refine GW_iload (X := X_X11_likeliest) (pc := 50) d_X11_likeliest_50 0 rfl ?_
    refine GW_iload (X := X_X11_likeliest) (pc := 52) d_X11_likeliest_52 5 rfl ?_
    refine GW_icmp_le (X := X_X11_likeliest) (pc := 54) 64 d_X11_likeliest_54 (by decide) (fun c => ?_) (fun c => ?_)
    · replace h := g_ip c h
      refine GW_sub [1, 2, 3, 4, 5, 6] rfl ?_
      exact T_X11_likeliest_b64 k27 M r hk27 l0 l1 l2 l3 l4 l5 h
    · replace h := g_ie c h
      refine GW_iload (X := X_X11_likeliest) (pc := 57) d_X11_likeliest_57 6 rfl ?_
      refine GW_istore_n (X := X_X11_likeliest) (pc := 59) d_X11_likeliest_59 rfl (Nat.le_of_ble_eq_true rfl) (lv2 := [(3, vi l5), (6, vi v4), (0, vr l0), (1, vi l1), (2, vi l2), (4, vi l4), (5, vi l5)]) rfl ?_
      refine GW_iload (X := X_X11_likeliest) (pc := 60) d_X11_likeliest_60 1 rfl ?_
      refine GW_istore (X := X_X11_likeliest) (pc := 62) d_X11_likeliest_62 (Nat.le_of_ble_eq_true rfl) (lv2 := [(4, vi v4), (3, vi l5), (6, vi v4), (0, vr l0), (1, vi l1), (2, vi l2), (5, vi l5)]) rfl ?_
      refine GW_sub [3, 4, 5, 1, 0, 6] rfl ?_
      exact T_X11_likeliest_b64 k27 M r hk27 l0 l1 l2 l5 v4 l5 h
def F_X11_likeliest_L27 (M : gM) : Nat → Option Nat → Int32 → Int32 → Int32 → Int32 → Int32 → Option Int32
  | 0 => fun _ _ _ _ _ _ => none
  | n + 1 => F_X11_likeliest_b27 (F_X11_likeliest_L27 M n) M
theorem T_X11_likeliest_L27 (M : gM) (r : Int32) : ∀ (n : Nat) (l0 : Option Nat) (l1 : Int32) (l2 : Int32) (l3 : Int32) (l4 : Int32) (l5 : Int32), F_X11_likeliest_L27 M n l0 l1 l2 l3 l4 l5 = some r → GW 1 0 0 X_X11_likeliest 27 [(0, vr l0), (1, vi l1), (2, vi l2), (3, vi l3), (4, vi l4), (5, vi l5)] [] M (some (vi r), M) := by
  intro n
  induction n with
  | zero => intro l0 l1 l2 l3 l4 l5 h; exact g_no h
  | succ n ih => intro l0 l1 l2 l3 l4 l5 h; exact T_X11_likeliest_b27 (F_X11_likeliest_L27 M n) M r ih l0 l1 l2 l3 l4 l5 h
def F_X11_likeliest_b0 (M : gM) (l0 : Option Nat) (l1 : Int32) (l2 : Int32) : Option Int32 :=
  (gO 11 M l0).bind fun i1 => (F_X11_isThing (some i1) l1 M).bind fun v2 => if v2 = 0 then (F_X11_likeliest_b17 M ) else (if l2 < 0 then (F_X11_likeliest_b17 M ) else (if l2 ≤ (1 : Int32) then (F_X11_likeliest_L27 M g_fuel (some i1) l1 l2 (-1 : Int32) (0 : Int32) (0 : Int32)) else (F_X11_likeliest_b17 M )))
theorem T_X11_likeliest_b0 (M : gM) (r : Int32) (l0 : Option Nat) (l1 : Int32) (l2 : Int32) (h : F_X11_likeliest_b0 M l0 l1 l2 = some r) : GW 1 0 0 X_X11_likeliest 0 [(0, vr l0), (1, vi l1), (2, vi l2)] [] M (some (vi r), M) := by
  delta F_X11_likeliest_b0 at h
  refine GW_aload_n (X := X_X11_likeliest) (pc := 0) d_X11_likeliest_0 rfl 0 rfl ?_
  refine GW_iload_n (X := X_X11_likeliest) (pc := 1) d_X11_likeliest_1 rfl 1 rfl ?_
  replace h := g_bd h
  obtain ⟨i1, hi1, h⟩ := h
  obtain ⟨rfl, ki1⟩ := g_gO hi1
  replace h := g_bd h
  obtain ⟨v2, hv2, h⟩ := h
  refine GW_callV (X := X_X11_likeliest) (pc := 2) (bc0 := 0) (bs0 := 0) (r := some (vi v2)) (M2 := M) (c0 := 11) (T_X11_isThing (some i1) l1 M v2 hv2) (Nat.le_of_ble_eq_true rfl) (Nat.le_of_ble_eq_true rfl) rfl g_cok11 ki1 yc_X11_isThing ⟨m_794, m_796, m_22, m_116, m_797⟩ d_X11_likeliest_2 rfl (st := []) rfl (Nat.le_of_ble_eq_true rfl) (Nat.le_of_ble_eq_true rfl) (Nat.le_of_ble_eq_true rfl) (st2 := [vi v2]) rfl ?_
  refine GW_if_eq (X := X_X11_likeliest) (pc := 5) 17 d_X11_likeliest_5 (by decide) (fun c => ?_) (fun c => ?_)
  · replace h := g_ip c h
    refine GW_sub [] rfl ?_
    exact T_X11_likeliest_b17 M r  h
  · replace h := g_ie c h
    refine GW_iload_n (X := X_X11_likeliest) (pc := 8) d_X11_likeliest_8 rfl 2 rfl ?_
    refine GW_if_lt (X := X_X11_likeliest) (pc := 9) 17 d_X11_likeliest_9 (by decide) (fun c => ?_) (fun c => ?_)
    · replace h := g_ip c h
      refine GW_sub [] rfl ?_
      exact T_X11_likeliest_b17 M r  h
    · replace h := g_ie c h
      refine GW_iload_n (X := X_X11_likeliest) (pc := 12) d_X11_likeliest_12 rfl 2 rfl ?_
      refine GW_iconst (X := X_X11_likeliest) (pc := 13) (v := 1) d_X11_likeliest_13 (by decide) ?_
      refine GW_icmp_le (X := X_X11_likeliest) (pc := 14) 19 d_X11_likeliest_14 (by decide) (fun c => ?_) (fun c => ?_)
      · replace h := g_ip c h
        refine GW_iconst (X := X_X11_likeliest) (pc := 19) (v := -1) d_X11_likeliest_19 (by decide) ?_
        refine GW_istore_n (X := X_X11_likeliest) (pc := 20) d_X11_likeliest_20 rfl (Nat.le_of_ble_eq_true rfl) (lv2 := [(3, vi (-1 : Int32)), (0, vr (some i1)), (1, vi l1), (2, vi l2)]) rfl ?_
        refine GW_iconst (X := X_X11_likeliest) (pc := 21) (v := 0) d_X11_likeliest_21 (by decide) ?_
        refine GW_istore (X := X_X11_likeliest) (pc := 22) d_X11_likeliest_22 (Nat.le_of_ble_eq_true rfl) (lv2 := [(4, vi (0 : Int32)), (3, vi (-1 : Int32)), (0, vr (some i1)), (1, vi l1), (2, vi l2)]) rfl ?_
        refine GW_iconst (X := X_X11_likeliest) (pc := 24) (v := 0) d_X11_likeliest_24 (by decide) ?_
        refine GW_istore (X := X_X11_likeliest) (pc := 25) d_X11_likeliest_25 (Nat.le_of_ble_eq_true rfl) (lv2 := [(5, vi (0 : Int32)), (4, vi (0 : Int32)), (3, vi (-1 : Int32)), (0, vr (some i1)), (1, vi l1), (2, vi l2)]) rfl ?_
        refine GW_sub [3, 4, 5, 2, 1, 0] rfl ?_
        exact T_X11_likeliest_L27 M r g_fuel (some i1) l1 l2 (-1 : Int32) (0 : Int32) (0 : Int32) h
      · replace h := g_ie c h
        refine GW_sub [] rfl ?_
        exact T_X11_likeliest_b17 M r  h
def F_X11_likeliest (l0 : Option Nat) (l1 : Int32) (l2 : Int32) (M : gM) : Option Int32 := F_X11_likeliest_b0 M l0 l1 l2
theorem T_X11_likeliest (l0 : Option Nat) (l1 : Int32) (l2 : Int32) (M : gM) (r : Int32) (h : F_X11_likeliest l0 l1 l2 M = some r) : g_Met 1 0 0 yX11_likeliest X_X11_likeliest [vr l0, vi l1, vi l2] M (some (vi r), M) :=
  g_Met_of pn_RX11 rfl (Nat.le_of_ble_eq_true rfl) (fun h => by cases h) (GW_sub [0, 1, 2] rfl (T_X11_likeliest_b0 M r l0 l1 l2 h))
/-! ForgetHeirsModel.likeliest(II)I -/
theorem d_X12_likeliest_0 : decode cX12_likeliest 0 = .ok (.aload_n 0, 1) := by decide +kernel
theorem d_X12_likeliest_1 : decode cX12_likeliest 1 = .ok (.iload_n 1, 1) := by decide +kernel
theorem d_X12_likeliest_2 : decode cX12_likeliest 2 = .ok (.invokevirtual 327, 3) := by decide +kernel
theorem d_X12_likeliest_5 : decode cX12_likeliest 5 = .ok (.ifCond .eq 13, 3) := by decide +kernel
theorem d_X12_likeliest_8 : decode cX12_likeliest 8 = .ok (.iload_n 2, 1) := by decide +kernel
theorem d_X12_likeliest_9 : decode cX12_likeliest 9 = .ok (.i2l, 1) := by decide +kernel
theorem d_X12_likeliest_10 : decode cX12_likeliest 10 = .ok (.lconst 0, 1) := by decide +kernel
theorem d_X12_likeliest_11 : decode cX12_likeliest 11 = .ok (.lconst 1, 1) := by decide +kernel
theorem d_X12_likeliest_12 : decode cX12_likeliest 12 = .ok (.invokestatic 118, 3) := by decide +kernel
theorem d_X12_likeliest_15 : decode cX12_likeliest 15 = .ok (.ifCond .ne 5, 3) := by decide +kernel
theorem d_X12_likeliest_18 : decode cX12_likeliest 18 = .ok (.iconst (-1), 1) := by decide +kernel
theorem d_X12_likeliest_19 : decode cX12_likeliest 19 = .ok (.ireturn, 1) := by decide +kernel
theorem d_X12_likeliest_20 : decode cX12_likeliest 20 = .ok (.bipush (-2), 2) := by decide +kernel
theorem d_X12_likeliest_22 : decode cX12_likeliest 22 = .ok (.istore_n 3, 1) := by decide +kernel
theorem d_X12_likeliest_23 : decode cX12_likeliest 23 = .ok (.bipush (-2), 2) := by decide +kernel
theorem d_X12_likeliest_25 : decode cX12_likeliest 25 = .ok (.istore 4, 2) := by decide +kernel
theorem d_X12_likeliest_27 : decode cX12_likeliest 27 = .ok (.iconst 0, 1) := by decide +kernel
theorem d_X12_likeliest_28 : decode cX12_likeliest 28 = .ok (.istore 5, 2) := by decide +kernel
theorem d_X12_likeliest_30 : decode cX12_likeliest 30 = .ok (.iload 5, 2) := by decide +kernel
theorem d_X12_likeliest_32 : decode cX12_likeliest 32 = .ok (.bipush 10, 2) := by decide +kernel
theorem d_X12_likeliest_34 : decode cX12_likeliest 34 = .ok (.if_icmp .ge 82, 3) := by decide +kernel
theorem d_X12_likeliest_37 : decode cX12_likeliest 37 = .ok (.iconst 0, 1) := by decide +kernel
theorem d_X12_likeliest_38 : decode cX12_likeliest 38 = .ok (.istore 6, 2) := by decide +kernel
theorem d_X12_likeliest_40 : decode cX12_likeliest 40 = .ok (.iconst 0, 1) := by decide +kernel
theorem d_X12_likeliest_41 : decode cX12_likeliest 41 = .ok (.istore 7, 2) := by decide +kernel
theorem d_X12_likeliest_43 : decode cX12_likeliest 43 = .ok (.iload 7, 2) := by decide +kernel
theorem d_X12_likeliest_45 : decode cX12_likeliest 45 = .ok (.aload_n 0, 1) := by decide +kernel
theorem d_X12_likeliest_46 : decode cX12_likeliest 46 = .ok (.getfield 39, 3) := by decide +kernel
theorem d_X12_likeliest_49 : decode cX12_likeliest 49 = .ok (.iconst 2, 1) := by decide +kernel
theorem d_X12_likeliest_50 : decode cX12_likeliest 50 = .ok (.iaload, 1) := by decide +kernel
theorem d_X12_likeliest_51 : decode cX12_likeliest 51 = .ok (.if_icmp .ge 37, 3) := by decide +kernel
theorem d_X12_likeliest_54 : decode cX12_likeliest 54 = .ok (.iload 6, 2) := by decide +kernel
theorem d_X12_likeliest_56 : decode cX12_likeliest 56 = .ok (.aload_n 0, 1) := by decide +kernel
theorem d_X12_likeliest_57 : decode cX12_likeliest 57 = .ok (.iload 7, 2) := by decide +kernel
theorem d_X12_likeliest_59 : decode cX12_likeliest 59 = .ok (.iload_n 1, 1) := by decide +kernel
theorem d_X12_likeliest_60 : decode cX12_likeliest 60 = .ok (.invokevirtual 297, 3) := by decide +kernel
theorem d_X12_likeliest_63 : decode cX12_likeliest 63 = .ok (.iload 5, 2) := by decide +kernel
theorem d_X12_likeliest_65 : decode cX12_likeliest 65 = .ok (.if_icmp .ne 13, 3) := by decide +kernel
theorem d_X12_likeliest_68 : decode cX12_likeliest 68 = .ok (.aload_n 0, 1) := by decide +kernel
theorem d_X12_likeliest_69 : decode cX12_likeliest 69 = .ok (.iload 7, 2) := by decide +kernel
theorem d_X12_likeliest_71 : decode cX12_likeliest 71 = .ok (.iload_n 1, 1) := by decide +kernel
theorem d_X12_likeliest_72 : decode cX12_likeliest 72 = .ok (.invokevirtual 335, 3) := by decide +kernel
theorem d_X12_likeliest_75 : decode cX12_likeliest 75 = .ok (.goto 4, 3) := by decide +kernel
theorem d_X12_likeliest_78 : decode cX12_likeliest 78 = .ok (.iconst 0, 1) := by decide +kernel
theorem d_X12_likeliest_79 : decode cX12_likeliest 79 = .ok (.iadd, 1) := by decide +kernel
theorem d_X12_likeliest_80 : decode cX12_likeliest 80 = .ok (.istore 6, 2) := by decide +kernel
theorem d_X12_likeliest_82 : decode cX12_likeliest 82 = .ok (.iinc 7 1, 3) := by decide +kernel
theorem d_X12_likeliest_85 : decode cX12_likeliest 85 = .ok (.goto (-42), 3) := by decide +kernel
theorem d_X12_likeliest_88 : decode cX12_likeliest 88 = .ok (.iload 6, 2) := by decide +kernel
theorem d_X12_likeliest_90 : decode cX12_likeliest 90 = .ok (.ifCond .eq 20, 3) := by decide +kernel
theorem d_X12_likeliest_93 : decode cX12_likeliest 93 = .ok (.iload 6, 2) := by decide +kernel
theorem d_X12_likeliest_95 : decode cX12_likeliest 95 = .ok (.iload 4, 2) := by decide +kernel
theorem d_X12_likeliest_97 : decode cX12_likeliest 97 = .ok (.if_icmp .gt 6, 3) := by decide +kernel
theorem d_X12_likeliest_100 : decode cX12_likeliest 100 = .ok (.goto 10, 3) := by decide +kernel
theorem d_X12_likeliest_103 : decode cX12_likeliest 103 = .ok (.iload 5, 2) := by decide +kernel
theorem d_X12_likeliest_105 : decode cX12_likeliest 105 = .ok (.istore_n 3, 1) := by decide +kernel
theorem d_X12_likeliest_106 : decode cX12_likeliest 106 = .ok (.iload 6, 2) := by decide +kernel
theorem d_X12_likeliest_108 : decode cX12_likeliest 108 = .ok (.istore 4, 2) := by decide +kernel
theorem d_X12_likeliest_110 : decode cX12_likeliest 110 = .ok (.iinc 5 1, 3) := by decide +kernel
theorem d_X12_likeliest_113 : decode cX12_likeliest 113 = .ok (.goto (-83), 3) := by decide +kernel
theorem d_X12_likeliest_116 : decode cX12_likeliest 116 = .ok (.iload_n 2, 1) := by decide +kernel
theorem d_X12_likeliest_117 : decode cX12_likeliest 117 = .ok (.ifCond .ne 7, 3) := by decide +kernel
theorem d_X12_likeliest_120 : decode cX12_likeliest 120 = .ok (.iload_n 3, 1) := by decide +kernel
theorem d_X12_likeliest_121 : decode cX12_likeliest 121 = .ok (.goto 5, 3) := by decide +kernel
theorem d_X12_likeliest_124 : decode cX12_likeliest 124 = .ok (.iload 4, 2) := by decide +kernel
theorem d_X12_likeliest_126 : decode cX12_likeliest 126 = .ok (.ireturn, 1) := by decide +kernel
abbrev X_X12_likeliest : gX := (RX12, cX12_likeliest, 8, (some .int), false)
def F_X12_likeliest_b18 (M : gM) : Option Int32 :=
  some (-1 : Int32)
theorem T_X12_likeliest_b18 (M : gM) (r : Int32) (h : F_X12_likeliest_b18 M = some r) : GW 1 0 0 X_X12_likeliest 18 [] [] M (some (vi r), M) := by
  delta F_X12_likeliest_b18 at h
  refine GW_iconst (X := X_X12_likeliest) (pc := 18) (v := -1) d_X12_likeliest_18 (by decide) ?_
  replace h := Option.some.inj h
  subst h
  exact GW_ret (X := X_X12_likeliest) (pc := 19) d_X12_likeliest_19 rfl trivial
def F_X12_likeliest_b110 (k30 : Option Nat → Int32 → Int32 → Int32 → Int32 → Int32 → Option Int32) (M : gM) (l0 : Option Nat) (l1 : Int32) (l2 : Int32) (l3 : Int32) (l4 : Int32) (l5 : Int32) : Option Int32 :=
  k30 l0 l1 l2 l3 l4 (l5 + 1)
theorem T_X12_likeliest_b110 (k30 : Option Nat → Int32 → Int32 → Int32 → Int32 → Int32 → Option Int32) (M : gM) (r : Int32) (hk30 : ∀ (l0 : Option Nat) (l1 : Int32) (l2 : Int32) (l3 : Int32) (l4 : Int32) (l5 : Int32), k30 l0 l1 l2 l3 l4 l5 = some r → GW 1 0 0 X_X12_likeliest 30 [(0, vr l0), (1, vi l1), (2, vi l2), (3, vi l3), (4, vi l4), (5, vi l5)] [] M (some (vi r), M)) (l0 : Option Nat) (l1 : Int32) (l2 : Int32) (l3 : Int32) (l4 : Int32) (l5 : Int32) (h : F_X12_likeliest_b110 k30 M l0 l1 l2 l3 l4 l5 = some r) : GW 1 0 0 X_X12_likeliest 110 [(0, vr l0), (1, vi l1), (2, vi l2), (3, vi l3), (4, vi l4), (5, vi l5)] [] M (some (vi r), M) := by
  delta F_X12_likeliest_b110 at h
  refine GW_iinc (j := 5) (X := X_X12_likeliest) (pc := 110) d_X12_likeliest_110 rfl (congrArg (fun z => _ + z) (by decide : Int32.ofInt 1 = (1 : Int32))) (Nat.le_of_ble_eq_true rfl) (lv2 := [(5, vi (l5 + 1)), (0, vr l0), (1, vi l1), (2, vi l2), (3, vi l3), (4, vi l4)]) rfl ?_
  refine GW_goto (X := X_X12_likeliest) (pc := 113) 30 d_X12_likeliest_113 (by decide) ?_
  refine GW_sub [1, 2, 3, 4, 5, 0] rfl ?_
  exact hk30 l0 l1 l2 l3 l4 (l5 + 1) h
def F_X12_likeliest_b79 (k30 : Option Nat → Int32 → Int32 → Int32 → Int32 → Int32 → Option Int32) (k43 : Option Nat → Int32 → Int32 → Int32 → Int32 → Int32 → Int32 → Int32 → Option Int32) (M : gM) (l0 : Option Nat) (l1 : Int32) (l2 : Int32) (l3 : Int32) (l4 : Int32) (l5 : Int32) (l7 : Int32) (s0 : Int32) (s1 : Int32) : Option Int32 :=
  k43 l0 l1 l2 l3 l4 l5 (s0 + s1) (l7 + 1)
theorem T_X12_likeliest_b79 (k30 : Option Nat → Int32 → Int32 → Int32 → Int32 → Int32 → Option Int32) (k43 : Option Nat → Int32 → Int32 → Int32 → Int32 → Int32 → Int32 → Int32 → Option Int32) (M : gM) (r : Int32) (hk30 : ∀ (l0 : Option Nat) (l1 : Int32) (l2 : Int32) (l3 : Int32) (l4 : Int32) (l5 : Int32), k30 l0 l1 l2 l3 l4 l5 = some r → GW 1 0 0 X_X12_likeliest 30 [(0, vr l0), (1, vi l1), (2, vi l2), (3, vi l3), (4, vi l4), (5, vi l5)] [] M (some (vi r), M)) (hk43 : ∀ (l0 : Option Nat) (l1 : Int32) (l2 : Int32) (l3 : Int32) (l4 : Int32) (l5 : Int32) (l6 : Int32) (l7 : Int32), k43 l0 l1 l2 l3 l4 l5 l6 l7 = some r → GW 1 0 0 X_X12_likeliest 43 [(0, vr l0), (1, vi l1), (2, vi l2), (3, vi l3), (4, vi l4), (5, vi l5), (6, vi l6), (7, vi l7)] [] M (some (vi r), M)) (l0 : Option Nat) (l1 : Int32) (l2 : Int32) (l3 : Int32) (l4 : Int32) (l5 : Int32) (l7 : Int32) (s0 : Int32) (s1 : Int32) (h : F_X12_likeliest_b79 k30 k43 M l0 l1 l2 l3 l4 l5 l7 s0 s1 = some r) : GW 1 0 0 X_X12_likeliest 79 [(0, vr l0), (1, vi l1), (2, vi l2), (3, vi l3), (4, vi l4), (5, vi l5), (7, vi l7)] [vi s1, vi s0] M (some (vi r), M) := by
  delta F_X12_likeliest_b79 at h
  refine GW_iadd (X := X_X12_likeliest) (pc := 79) d_X12_likeliest_79 ?_
  refine GW_istore (X := X_X12_likeliest) (pc := 80) d_X12_likeliest_80 (Nat.le_of_ble_eq_true rfl) (lv2 := [(6, vi (s0 + s1)), (0, vr l0), (1, vi l1), (2, vi l2), (3, vi l3), (4, vi l4), (5, vi l5), (7, vi l7)]) rfl ?_
  refine GW_iinc (j := 7) (X := X_X12_likeliest) (pc := 82) d_X12_likeliest_82 rfl (congrArg (fun z => _ + z) (by decide : Int32.ofInt 1 = (1 : Int32))) (Nat.le_of_ble_eq_true rfl) (lv2 := [(7, vi (l7 + 1)), (6, vi (s0 + s1)), (0, vr l0), (1, vi l1), (2, vi l2), (3, vi l3), (4, vi l4), (5, vi l5)]) rfl ?_
  refine GW_goto (X := X_X12_likeliest) (pc := 85) 43 d_X12_likeliest_85 (by decide) ?_
  refine GW_sub [2, 3, 4, 5, 6, 7, 1, 0] rfl ?_
  exact hk43 l0 l1 l2 l3 l4 l5 (s0 + s1) (l7 + 1) h
def F_X12_likeliest_b43 (k30 : Option Nat → Int32 → Int32 → Int32 → Int32 → Int32 → Option Int32) (k43 : Option Nat → Int32 → Int32 → Int32 → Int32 → Int32 → Int32 → Int32 → Option Int32) (M : gM) (l0 : Option Nat) (l1 : Int32) (l2 : Int32) (l3 : Int32) (l4 : Int32) (l5 : Int32) (l6 : Int32) (l7 : Int32) : Option Int32 :=
  (gR 12 M l0 20).bind fun v1 => (aI 20 M v1 (2 : Int32)).bind fun v2 => if v2 ≤ l7 then (if l6 = 0 then (F_X12_likeliest_b110 k30 M l0 l1 l2 l3 l4 l5) else (if l4 < l6 then (F_X12_likeliest_b110 k30 M l0 l1 l2 l5 l6 l5) else (F_X12_likeliest_b110 k30 M l0 l1 l2 l3 l4 l5))) else ((gO 12 M l0).bind fun i3 => (F_X12_valueOf (some i3) l7 l1 M).bind fun v4 => if v4 = l5 then ((F_X12_strengthOf (some i3) l7 l1 M).bind fun v5 => F_X12_likeliest_b79 k30 k43 M (some i3) l1 l2 l3 l4 l5 l7 l6 v5) else (F_X12_likeliest_b79 k30 k43 M (some i3) l1 l2 l3 l4 l5 l7 l6 (0 : Int32)))
set_option maxHeartbeats 1000000 in
theorem T_X12_likeliest_b43 (k30 : Option Nat → Int32 → Int32 → Int32 → Int32 → Int32 → Option Int32) (k43 : Option Nat → Int32 → Int32 → Int32 → Int32 → Int32 → Int32 → Int32 → Option Int32) (M : gM) (r : Int32) (hk30 : ∀ (l0 : Option Nat) (l1 : Int32) (l2 : Int32) (l3 : Int32) (l4 : Int32) (l5 : Int32), k30 l0 l1 l2 l3 l4 l5 = some r → GW 1 0 0 X_X12_likeliest 30 [(0, vr l0), (1, vi l1), (2, vi l2), (3, vi l3), (4, vi l4), (5, vi l5)] [] M (some (vi r), M)) (hk43 : ∀ (l0 : Option Nat) (l1 : Int32) (l2 : Int32) (l3 : Int32) (l4 : Int32) (l5 : Int32) (l6 : Int32) (l7 : Int32), k43 l0 l1 l2 l3 l4 l5 l6 l7 = some r → GW 1 0 0 X_X12_likeliest 43 [(0, vr l0), (1, vi l1), (2, vi l2), (3, vi l3), (4, vi l4), (5, vi l5), (6, vi l6), (7, vi l7)] [] M (some (vi r), M)) (l0 : Option Nat) (l1 : Int32) (l2 : Int32) (l3 : Int32) (l4 : Int32) (l5 : Int32) (l6 : Int32) (l7 : Int32) (h : F_X12_likeliest_b43 k30 k43 M l0 l1 l2 l3 l4 l5 l6 l7 = some r) : GW 1 0 0 X_X12_likeliest 43 [(0, vr l0), (1, vi l1), (2, vi l2), (3, vi l3), (4, vi l4), (5, vi l5), (6, vi l6), (7, vi l7)] [] M (some (vi r), M) := by
  delta F_X12_likeliest_b43 at h
  refine GW_iload (X := X_X12_likeliest) (pc := 43) d_X12_likeliest_43 7 rfl ?_
  refine GW_aload_n (X := X_X12_likeliest) (pc := 45) d_X12_likeliest_45 rfl 0 rfl ?_
  replace h := g_bd h
  obtain ⟨v1, hv1, h⟩ := h
  refine GW_getR (X := X_X12_likeliest) (pc := 46) f_X12_39 d_X12_likeliest_46 hv1 (Or.inr ⟨_, ty_12_20⟩) ?_
  refine GW_iconst (X := X_X12_likeliest) (pc := 49) (v := 2) d_X12_likeliest_49 (by decide) ?_
  replace h := g_bd h
  obtain ⟨v2, hv2, h⟩ := h
  refine GW_iald (X := X_X12_likeliest) (pc := 50) d_X12_likeliest_50 hv2 ?_
  refine GW_icmp_ge (X := X_X12_likeliest) (pc := 51) 88 d_X12_likeliest_51 (by decide) (fun c => ?_) (fun c => ?_)
  · replace h := g_ip c h
    refine GW_iload (X := X_X12_likeliest) (pc := 88) d_X12_likeliest_88 6 rfl ?_
    refine GW_if_eq (X := X_X12_likeliest) (pc := 90) 110 d_X12_likeliest_90 (by decide) (fun c => ?_) (fun c => ?_)
    · replace h := g_ip c h
      refine GW_sub [0, 1, 2, 3, 4, 5] rfl ?_
      exact T_X12_likeliest_b110 k30 M r hk30 l0 l1 l2 l3 l4 l5 h
    · replace h := g_ie c h
      refine GW_iload (X := X_X12_likeliest) (pc := 93) d_X12_likeliest_93 6 rfl ?_
      refine GW_iload (X := X_X12_likeliest) (pc := 95) d_X12_likeliest_95 4 rfl ?_
      refine GW_icmp_gt (X := X_X12_likeliest) (pc := 97) 103 d_X12_likeliest_97 (by decide) (fun c => ?_) (fun c => ?_)
      · replace h := g_ip c h
        refine GW_iload (X := X_X12_likeliest) (pc := 103) d_X12_likeliest_103 5 rfl ?_
        refine GW_istore_n (X := X_X12_likeliest) (pc := 105) d_X12_likeliest_105 rfl (Nat.le_of_ble_eq_true rfl) (lv2 := [(3, vi l5), (0, vr l0), (1, vi l1), (2, vi l2), (4, vi l4), (5, vi l5), (6, vi l6), (7, vi l7)]) rfl ?_
        refine GW_iload (X := X_X12_likeliest) (pc := 106) d_X12_likeliest_106 6 rfl ?_
        refine GW_istore (X := X_X12_likeliest) (pc := 108) d_X12_likeliest_108 (Nat.le_of_ble_eq_true rfl) (lv2 := [(4, vi l6), (3, vi l5), (0, vr l0), (1, vi l1), (2, vi l2), (5, vi l5), (6, vi l6), (7, vi l7)]) rfl ?_
        refine GW_sub [2, 3, 4, 1, 0, 5] rfl ?_
        exact T_X12_likeliest_b110 k30 M r hk30 l0 l1 l2 l5 l6 l5 h
      · replace h := g_ie c h
        refine GW_goto (X := X_X12_likeliest) (pc := 100) 110 d_X12_likeliest_100 (by decide) ?_
        refine GW_sub [0, 1, 2, 3, 4, 5] rfl ?_
        exact T_X12_likeliest_b110 k30 M r hk30 l0 l1 l2 l3 l4 l5 h
  · replace h := g_ie c h
    refine GW_iload (X := X_X12_likeliest) (pc := 54) d_X12_likeliest_54 6 rfl ?_
    refine GW_aload_n (X := X_X12_likeliest) (pc := 56) d_X12_likeliest_56 rfl 0 rfl ?_
    refine GW_iload (X := X_X12_likeliest) (pc := 57) d_X12_likeliest_57 7 rfl ?_
    refine GW_iload_n (X := X_X12_likeliest) (pc := 59) d_X12_likeliest_59 rfl 1 rfl ?_
    replace h := g_bd h
    obtain ⟨i3, hi3, h⟩ := h
    obtain ⟨rfl, ki3⟩ := g_gO hi3
    replace h := g_bd h
    obtain ⟨v4, hv4, h⟩ := h
    refine GW_callV (X := X_X12_likeliest) (pc := 60) (bc0 := 0) (bs0 := 0) (r := some (vi v4)) (M2 := M) (c0 := 12) (T_X12_valueOf (some i3) l7 l1 M v4 hv4) (Nat.le_of_ble_eq_true rfl) (Nat.le_of_ble_eq_true rfl) rfl g_cok12 ki3 yc_X12_valueOf ⟨m_1436, m_1438, m_81, m_127, m_1439⟩ d_X12_likeliest_60 rfl (st := [vi l6]) rfl (Nat.le_of_ble_eq_true rfl) (Nat.le_of_ble_eq_true rfl) (Nat.le_of_ble_eq_true rfl) (st2 := [vi v4, vi l6]) rfl ?_
    refine GW_iload (X := X_X12_likeliest) (pc := 63) d_X12_likeliest_63 5 rfl ?_
    refine GW_icmp_ne (X := X_X12_likeliest) (pc := 65) 78 d_X12_likeliest_65 (by decide) (fun c => ?_) (fun c => ?_)
    · replace h := g_ie c h
      refine GW_iconst (X := X_X12_likeliest) (pc := 78) (v := 0) d_X12_likeliest_78 (by decide) ?_
      refine GW_sub [0, 1, 2, 3, 4, 5, 7] rfl ?_
      exact T_X12_likeliest_b79 k30 k43 M r hk30 hk43 (some i3) l1 l2 l3 l4 l5 l7 l6 (0 : Int32) h
    · replace h := g_ip c h
      refine GW_aload_n (X := X_X12_likeliest) (pc := 68) d_X12_likeliest_68 rfl 0 rfl ?_
      refine GW_iload (X := X_X12_likeliest) (pc := 69) d_X12_likeliest_69 7 rfl ?_
      refine GW_iload_n (X := X_X12_likeliest) (pc := 71) d_X12_likeliest_71 rfl 1 rfl ?_
      replace h := g_bd h
      obtain ⟨v5, hv5, h⟩ := h
      refine GW_callV (X := X_X12_likeliest) (pc := 72) (bc0 := 0) (bs0 := 0) (r := some (vi v5)) (M2 := M) (c0 := 12) (T_X12_strengthOf (some i3) l7 l1 M v5 hv5) (Nat.le_of_ble_eq_true rfl) (Nat.le_of_ble_eq_true rfl) rfl g_cok12 ki3 yc_X12_strengthOf ⟨m_1493, m_1495, m_91, m_127, m_1496⟩ d_X12_likeliest_72 rfl (st := [vi l6]) rfl (Nat.le_of_ble_eq_true rfl) (Nat.le_of_ble_eq_true rfl) (Nat.le_of_ble_eq_true rfl) (st2 := [vi v5, vi l6]) rfl ?_
      refine GW_goto (X := X_X12_likeliest) (pc := 75) 79 d_X12_likeliest_75 (by decide) ?_
      refine GW_sub [0, 1, 2, 3, 4, 5, 7] rfl ?_
      exact T_X12_likeliest_b79 k30 k43 M r hk30 hk43 (some i3) l1 l2 l3 l4 l5 l7 l6 v5 h
def F_X12_likeliest_L43 (k30 : Option Nat → Int32 → Int32 → Int32 → Int32 → Int32 → Option Int32) (M : gM) : Nat → Option Nat → Int32 → Int32 → Int32 → Int32 → Int32 → Int32 → Int32 → Option Int32
  | 0 => fun _ _ _ _ _ _ _ _ => none
  | n + 1 => F_X12_likeliest_b43 k30 (F_X12_likeliest_L43 k30 M n) M
theorem T_X12_likeliest_L43 (k30 : Option Nat → Int32 → Int32 → Int32 → Int32 → Int32 → Option Int32) (M : gM) (r : Int32) (hk30 : ∀ (l0 : Option Nat) (l1 : Int32) (l2 : Int32) (l3 : Int32) (l4 : Int32) (l5 : Int32), k30 l0 l1 l2 l3 l4 l5 = some r → GW 1 0 0 X_X12_likeliest 30 [(0, vr l0), (1, vi l1), (2, vi l2), (3, vi l3), (4, vi l4), (5, vi l5)] [] M (some (vi r), M)) : ∀ (n : Nat) (l0 : Option Nat) (l1 : Int32) (l2 : Int32) (l3 : Int32) (l4 : Int32) (l5 : Int32) (l6 : Int32) (l7 : Int32), F_X12_likeliest_L43 k30 M n l0 l1 l2 l3 l4 l5 l6 l7 = some r → GW 1 0 0 X_X12_likeliest 43 [(0, vr l0), (1, vi l1), (2, vi l2), (3, vi l3), (4, vi l4), (5, vi l5), (6, vi l6), (7, vi l7)] [] M (some (vi r), M) := by
  intro n
  induction n with
  | zero => intro l0 l1 l2 l3 l4 l5 l6 l7 h; exact g_no h
  | succ n ih => intro l0 l1 l2 l3 l4 l5 l6 l7 h; exact T_X12_likeliest_b43 k30 (F_X12_likeliest_L43 k30 M n) M r hk30 ih l0 l1 l2 l3 l4 l5 l6 l7 h
def F_X12_likeliest_b30 (k30 : Option Nat → Int32 → Int32 → Int32 → Int32 → Int32 → Option Int32) (M : gM) (l0 : Option Nat) (l1 : Int32) (l2 : Int32) (l3 : Int32) (l4 : Int32) (l5 : Int32) : Option Int32 :=
  if (10 : Int32) ≤ l5 then (if l2 = 0 then (some l3) else (some l4)) else (F_X12_likeliest_L43 k30 M g_fuel l0 l1 l2 l3 l4 l5 (0 : Int32) (0 : Int32))
theorem T_X12_likeliest_b30 (k30 : Option Nat → Int32 → Int32 → Int32 → Int32 → Int32 → Option Int32) (M : gM) (r : Int32) (hk30 : ∀ (l0 : Option Nat) (l1 : Int32) (l2 : Int32) (l3 : Int32) (l4 : Int32) (l5 : Int32), k30 l0 l1 l2 l3 l4 l5 = some r → GW 1 0 0 X_X12_likeliest 30 [(0, vr l0), (1, vi l1), (2, vi l2), (3, vi l3), (4, vi l4), (5, vi l5)] [] M (some (vi r), M)) (l0 : Option Nat) (l1 : Int32) (l2 : Int32) (l3 : Int32) (l4 : Int32) (l5 : Int32) (h : F_X12_likeliest_b30 k30 M l0 l1 l2 l3 l4 l5 = some r) : GW 1 0 0 X_X12_likeliest 30 [(0, vr l0), (1, vi l1), (2, vi l2), (3, vi l3), (4, vi l4), (5, vi l5)] [] M (some (vi r), M) := by
  delta F_X12_likeliest_b30 at h
  refine GW_iload (X := X_X12_likeliest) (pc := 30) d_X12_likeliest_30 5 rfl ?_
  refine GW_bipush (X := X_X12_likeliest) (pc := 32) (v := 10) d_X12_likeliest_32 (by decide) ?_
  refine GW_icmp_ge (X := X_X12_likeliest) (pc := 34) 116 d_X12_likeliest_34 (by decide) (fun c => ?_) (fun c => ?_)
  · replace h := g_ip c h
    refine GW_iload_n (X := X_X12_likeliest) (pc := 116) d_X12_likeliest_116 rfl 2 rfl ?_
    refine GW_if_ne (X := X_X12_likeliest) (pc := 117) 124 d_X12_likeliest_117 (by decide) (fun c => ?_) (fun c => ?_)
    · replace h := g_ie c h
      refine GW_iload (X := X_X12_likeliest) (pc := 124) d_X12_likeliest_124 4 rfl ?_
      replace h := Option.some.inj h
      subst h
      exact GW_ret (X := X_X12_likeliest) (pc := 126) d_X12_likeliest_126 rfl trivial
    · replace h := g_ip c h
      refine GW_iload_n (X := X_X12_likeliest) (pc := 120) d_X12_likeliest_120 rfl 3 rfl ?_
      refine GW_goto (X := X_X12_likeliest) (pc := 121) 126 d_X12_likeliest_121 (by decide) ?_
      replace h := Option.some.inj h
      subst h
      exact GW_ret (X := X_X12_likeliest) (pc := 126) d_X12_likeliest_126 rfl trivial
  · replace h := g_ie c h
    refine GW_iconst (X := X_X12_likeliest) (pc := 37) (v := 0) d_X12_likeliest_37 (by decide) ?_
    refine GW_istore (X := X_X12_likeliest) (pc := 38) d_X12_likeliest_38 (Nat.le_of_ble_eq_true rfl) (lv2 := [(6, vi (0 : Int32)), (0, vr l0), (1, vi l1), (2, vi l2), (3, vi l3), (4, vi l4), (5, vi l5)]) rfl ?_
    refine GW_iconst (X := X_X12_likeliest) (pc := 40) (v := 0) d_X12_likeliest_40 (by decide) ?_
    refine GW_istore (X := X_X12_likeliest) (pc := 41) d_X12_likeliest_41 (Nat.le_of_ble_eq_true rfl) (lv2 := [(7, vi (0 : Int32)), (6, vi (0 : Int32)), (0, vr l0), (1, vi l1), (2, vi l2), (3, vi l3), (4, vi l4), (5, vi l5)]) rfl ?_
    refine GW_sub [2, 3, 4, 5, 6, 7, 1, 0] rfl ?_
    exact T_X12_likeliest_L43 k30 M r hk30 g_fuel l0 l1 l2 l3 l4 l5 (0 : Int32) (0 : Int32) h
def F_X12_likeliest_L30 (M : gM) : Nat → Option Nat → Int32 → Int32 → Int32 → Int32 → Int32 → Option Int32
  | 0 => fun _ _ _ _ _ _ => none
  | n + 1 => F_X12_likeliest_b30 (F_X12_likeliest_L30 M n) M
theorem T_X12_likeliest_L30 (M : gM) (r : Int32) : ∀ (n : Nat) (l0 : Option Nat) (l1 : Int32) (l2 : Int32) (l3 : Int32) (l4 : Int32) (l5 : Int32), F_X12_likeliest_L30 M n l0 l1 l2 l3 l4 l5 = some r → GW 1 0 0 X_X12_likeliest 30 [(0, vr l0), (1, vi l1), (2, vi l2), (3, vi l3), (4, vi l4), (5, vi l5)] [] M (some (vi r), M) := by
  intro n
  induction n with
  | zero => intro l0 l1 l2 l3 l4 l5 h; exact g_no h
  | succ n ih => intro l0 l1 l2 l3 l4 l5 h; exact T_X12_likeliest_b30 (F_X12_likeliest_L30 M n) M r ih l0 l1 l2 l3 l4 l5 h
def F_X12_likeliest_b0 (M : gM) (l0 : Option Nat) (l1 : Int32) (l2 : Int32) : Option Int32 :=
  (gO 12 M l0).bind fun i1 => (F_X12_isThing (some i1) l1 M).bind fun v2 => if v2 = 0 then (F_X12_likeliest_b18 M ) else ((F_X12_in (l2).toInt64 (0 : Int64) (1 : Int64) M).bind fun v3 => if v3 = 0 then (F_X12_likeliest_b18 M ) else (F_X12_likeliest_L30 M g_fuel (some i1) l1 l2 (-2 : Int32) (-2 : Int32) (0 : Int32)))
theorem T_X12_likeliest_b0 (M : gM) (r : Int32) (l0 : Option Nat) (l1 : Int32) (l2 : Int32) (h : F_X12_likeliest_b0 M l0 l1 l2 = some r) : GW 1 0 0 X_X12_likeliest 0 [(0, vr l0), (1, vi l1), (2, vi l2)] [] M (some (vi r), M) := by
  delta F_X12_likeliest_b0 at h
  refine GW_aload_n (X := X_X12_likeliest) (pc := 0) d_X12_likeliest_0 rfl 0 rfl ?_
  refine GW_iload_n (X := X_X12_likeliest) (pc := 1) d_X12_likeliest_1 rfl 1 rfl ?_
  replace h := g_bd h
  obtain ⟨i1, hi1, h⟩ := h
  obtain ⟨rfl, ki1⟩ := g_gO hi1
  replace h := g_bd h
  obtain ⟨v2, hv2, h⟩ := h
  refine GW_callV (X := X_X12_likeliest) (pc := 2) (bc0 := 0) (bs0 := 0) (r := some (vi v2)) (M2 := M) (c0 := 12) (T_X12_isThing (some i1) l1 M v2 hv2) (Nat.le_of_ble_eq_true rfl) (Nat.le_of_ble_eq_true rfl) rfl g_cok12 ki1 yc_X12_isThing ⟨m_1448, m_1450, m_83, m_127, m_1451⟩ d_X12_likeliest_2 rfl (st := []) rfl (Nat.le_of_ble_eq_true rfl) (Nat.le_of_ble_eq_true rfl) (Nat.le_of_ble_eq_true rfl) (st2 := [vi v2]) rfl ?_
  refine GW_if_eq (X := X_X12_likeliest) (pc := 5) 18 d_X12_likeliest_5 (by decide) (fun c => ?_) (fun c => ?_)
  · replace h := g_ip c h
    refine GW_sub [] rfl ?_
    exact T_X12_likeliest_b18 M r  h
  · replace h := g_ie c h
    refine GW_iload_n (X := X_X12_likeliest) (pc := 8) d_X12_likeliest_8 rfl 2 rfl ?_
    refine GW_i2l (X := X_X12_likeliest) (pc := 9) d_X12_likeliest_9 ?_
    refine GW_lconst (X := X_X12_likeliest) (pc := 10) (v := 0) d_X12_likeliest_10 (by decide) ?_
    refine GW_lconst (X := X_X12_likeliest) (pc := 11) (v := 1) d_X12_likeliest_11 (by decide) ?_
    replace h := g_bd h
    obtain ⟨v3, hv3, h⟩ := h
    refine GW_callS (X := X_X12_likeliest) (pc := 12) (bc0 := 0) (bs0 := 0) (r := some (vi v3)) (M2 := M) (T_X12_in (l2).toInt64 (0 : Int64) (1 : Int64) M v3 hv3) (Nat.le_of_ble_eq_true rfl) (Nat.le_of_ble_eq_true rfl) yc_X12_in ⟨m_1291, m_1292, m_127, m_1293⟩ d_X12_likeliest_12 rfl (st := []) rfl (Nat.le_of_ble_eq_true rfl) (Nat.le_of_ble_eq_true rfl) (Nat.le_of_ble_eq_true rfl) (st2 := [vi v3]) rfl ?_
    refine GW_if_ne (X := X_X12_likeliest) (pc := 15) 20 d_X12_likeliest_15 (by decide) (fun c => ?_) (fun c => ?_)
    · replace h := g_ie c h
      refine GW_bipush (X := X_X12_likeliest) (pc := 20) (v := -2) d_X12_likeliest_20 (by decide) ?_
      refine GW_istore_n (X := X_X12_likeliest) (pc := 22) d_X12_likeliest_22 rfl (Nat.le_of_ble_eq_true rfl) (lv2 := [(3, vi (-2 : Int32)), (0, vr (some i1)), (1, vi l1), (2, vi l2)]) rfl ?_
      refine GW_bipush (X := X_X12_likeliest) (pc := 23) (v := -2) d_X12_likeliest_23 (by decide) ?_
      refine GW_istore (X := X_X12_likeliest) (pc := 25) d_X12_likeliest_25 (Nat.le_of_ble_eq_true rfl) (lv2 := [(4, vi (-2 : Int32)), (3, vi (-2 : Int32)), (0, vr (some i1)), (1, vi l1), (2, vi l2)]) rfl ?_
      refine GW_iconst (X := X_X12_likeliest) (pc := 27) (v := 0) d_X12_likeliest_27 (by decide) ?_
      refine GW_istore (X := X_X12_likeliest) (pc := 28) d_X12_likeliest_28 (Nat.le_of_ble_eq_true rfl) (lv2 := [(5, vi (0 : Int32)), (4, vi (-2 : Int32)), (3, vi (-2 : Int32)), (0, vr (some i1)), (1, vi l1), (2, vi l2)]) rfl ?_
      refine GW_sub [3, 4, 5, 2, 1, 0] rfl ?_
      exact T_X12_likeliest_L30 M r g_fuel (some i1) l1 l2 (-2 : Int32) (-2 : Int32) (0 : Int32) h
    · replace h := g_ip c h
      refine GW_sub [] rfl ?_
      exact T_X12_likeliest_b18 M r  h
def F_X12_likeliest (l0 : Option Nat) (l1 : Int32) (l2 : Int32) (M : gM) : Option Int32 := F_X12_likeliest_b0 M l0 l1 l2
theorem T_X12_likeliest (l0 : Option Nat) (l1 : Int32) (l2 : Int32) (M : gM) (r : Int32) (h : F_X12_likeliest l0 l1 l2 M = some r) : g_Met 1 0 0 yX12_likeliest X_X12_likeliest [vr l0, vi l1, vi l2] M (some (vi r), M) :=
  g_Met_of pn_RX12 rfl (Nat.le_of_ble_eq_true rfl) (fun h => by cases h) (GW_sub [0, 1, 2] rfl (T_X12_likeliest_b0 M r l0 l1 l2 h))
/-! ForgetHeirs$State.knownUnlike(LForgetHeirs$House;II)I -/
theorem d_X8_knownUnlike_0 : decode cX8_knownUnlike 0 = .ok (.iconst 0, 1) := by decide +kernel
theorem d_X8_knownUnlike_1 : decode cX8_knownUnlike 1 = .ok (.istore 4, 2) := by decide +kernel
theorem d_X8_knownUnlike_3 : decode cX8_knownUnlike 3 = .ok (.iconst 0, 1) := by decide +kernel
theorem d_X8_knownUnlike_4 : decode cX8_knownUnlike 4 = .ok (.istore 5, 2) := by decide +kernel
theorem d_X8_knownUnlike_6 : decode cX8_knownUnlike 6 = .ok (.iload 5, 2) := by decide +kernel
theorem d_X8_knownUnlike_8 : decode cX8_knownUnlike 8 = .ok (.aload_n 1, 1) := by decide +kernel
theorem d_X8_knownUnlike_9 : decode cX8_knownUnlike 9 = .ok (.getfield 63, 3) := by decide +kernel
theorem d_X8_knownUnlike_12 : decode cX8_knownUnlike 12 = .ok (.if_icmp .ge 117, 3) := by decide +kernel
theorem d_X8_knownUnlike_15 : decode cX8_knownUnlike 15 = .ok (.iload_n 2, 1) := by decide +kernel
theorem d_X8_knownUnlike_16 : decode cX8_knownUnlike 16 = .ok (.bipush 7, 2) := by decide +kernel
theorem d_X8_knownUnlike_18 : decode cX8_knownUnlike 18 = .ok (.imul, 1) := by decide +kernel
theorem d_X8_knownUnlike_19 : decode cX8_knownUnlike 19 = .ok (.iload 5, 2) := by decide +kernel
theorem d_X8_knownUnlike_21 : decode cX8_knownUnlike 21 = .ok (.iadd, 1) := by decide +kernel
theorem d_X8_knownUnlike_22 : decode cX8_knownUnlike 22 = .ok (.istore 6, 2) := by decide +kernel
theorem d_X8_knownUnlike_24 : decode cX8_knownUnlike 24 = .ok (.iload_n 3, 1) := by decide +kernel
theorem d_X8_knownUnlike_25 : decode cX8_knownUnlike 25 = .ok (.bipush 7, 2) := by decide +kernel
theorem d_X8_knownUnlike_27 : decode cX8_knownUnlike 27 = .ok (.imul, 1) := by decide +kernel
theorem d_X8_knownUnlike_28 : decode cX8_knownUnlike 28 = .ok (.iload 5, 2) := by decide +kernel
theorem d_X8_knownUnlike_30 : decode cX8_knownUnlike 30 = .ok (.iadd, 1) := by decide +kernel
theorem d_X8_knownUnlike_31 : decode cX8_knownUnlike 31 = .ok (.istore 7, 2) := by decide +kernel
theorem d_X8_knownUnlike_33 : decode cX8_knownUnlike 33 = .ok (.aload_n 0, 1) := by decide +kernel
theorem d_X8_knownUnlike_34 : decode cX8_knownUnlike 34 = .ok (.getfield 15, 3) := by decide +kernel
theorem d_X8_knownUnlike_37 : decode cX8_knownUnlike 37 = .ok (.iload 6, 2) := by decide +kernel
theorem d_X8_knownUnlike_39 : decode cX8_knownUnlike 39 = .ok (.iaload, 1) := by decide +kernel
theorem d_X8_knownUnlike_40 : decode cX8_knownUnlike 40 = .ok (.ifCond .le 17, 3) := by decide +kernel
theorem d_X8_knownUnlike_43 : decode cX8_knownUnlike 43 = .ok (.aload_n 0, 1) := by decide +kernel
theorem d_X8_knownUnlike_44 : decode cX8_knownUnlike 44 = .ok (.getfield 15, 3) := by decide +kernel
theorem d_X8_knownUnlike_47 : decode cX8_knownUnlike 47 = .ok (.iload 7, 2) := by decide +kernel
theorem d_X8_knownUnlike_49 : decode cX8_knownUnlike 49 = .ok (.iaload, 1) := by decide +kernel
theorem d_X8_knownUnlike_50 : decode cX8_knownUnlike 50 = .ok (.ifCond .le 7, 3) := by decide +kernel
theorem d_X8_knownUnlike_53 : decode cX8_knownUnlike 53 = .ok (.iconst 1, 1) := by decide +kernel
theorem d_X8_knownUnlike_54 : decode cX8_knownUnlike 54 = .ok (.goto 4, 3) := by decide +kernel
theorem d_X8_knownUnlike_57 : decode cX8_knownUnlike 57 = .ok (.iconst 0, 1) := by decide +kernel
theorem d_X8_knownUnlike_58 : decode cX8_knownUnlike 58 = .ok (.istore 8, 2) := by decide +kernel
theorem d_X8_knownUnlike_60 : decode cX8_knownUnlike 60 = .ok (.aload_n 0, 1) := by decide +kernel
theorem d_X8_knownUnlike_61 : decode cX8_knownUnlike 61 = .ok (.getfield 15, 3) := by decide +kernel
theorem d_X8_knownUnlike_64 : decode cX8_knownUnlike 64 = .ok (.iload 6, 2) := by decide +kernel
theorem d_X8_knownUnlike_66 : decode cX8_knownUnlike 66 = .ok (.iaload, 1) := by decide +kernel
theorem d_X8_knownUnlike_67 : decode cX8_knownUnlike 67 = .ok (.ifCond .ne 17, 3) := by decide +kernel
theorem d_X8_knownUnlike_70 : decode cX8_knownUnlike 70 = .ok (.aload_n 0, 1) := by decide +kernel
theorem d_X8_knownUnlike_71 : decode cX8_knownUnlike 71 = .ok (.getfield 15, 3) := by decide +kernel
theorem d_X8_knownUnlike_74 : decode cX8_knownUnlike 74 = .ok (.iload 7, 2) := by decide +kernel
theorem d_X8_knownUnlike_76 : decode cX8_knownUnlike 76 = .ok (.iaload, 1) := by decide +kernel
theorem d_X8_knownUnlike_77 : decode cX8_knownUnlike 77 = .ok (.ifCond .ne 7, 3) := by decide +kernel
theorem d_X8_knownUnlike_80 : decode cX8_knownUnlike 80 = .ok (.iconst 1, 1) := by decide +kernel
theorem d_X8_knownUnlike_81 : decode cX8_knownUnlike 81 = .ok (.goto 4, 3) := by decide +kernel
theorem d_X8_knownUnlike_84 : decode cX8_knownUnlike 84 = .ok (.iconst 0, 1) := by decide +kernel
theorem d_X8_knownUnlike_85 : decode cX8_knownUnlike 85 = .ok (.istore 9, 2) := by decide +kernel
theorem d_X8_knownUnlike_87 : decode cX8_knownUnlike 87 = .ok (.iload 9, 2) := by decide +kernel
theorem d_X8_knownUnlike_89 : decode cX8_knownUnlike 89 = .ok (.ifCond .ne 34, 3) := by decide +kernel
theorem d_X8_knownUnlike_92 : decode cX8_knownUnlike 92 = .ok (.iload 8, 2) := by decide +kernel
theorem d_X8_knownUnlike_94 : decode cX8_knownUnlike 94 = .ok (.ifCond .eq 20, 3) := by decide +kernel
theorem d_X8_knownUnlike_97 : decode cX8_knownUnlike 97 = .ok (.aload_n 0, 1) := by decide +kernel
theorem d_X8_knownUnlike_98 : decode cX8_knownUnlike 98 = .ok (.getfield 9, 3) := by decide +kernel
theorem d_X8_knownUnlike_101 : decode cX8_knownUnlike 101 = .ok (.iload 6, 2) := by decide +kernel
theorem d_X8_knownUnlike_103 : decode cX8_knownUnlike 103 = .ok (.iaload, 1) := by decide +kernel
theorem d_X8_knownUnlike_104 : decode cX8_knownUnlike 104 = .ok (.aload_n 0, 1) := by decide +kernel
theorem d_X8_knownUnlike_105 : decode cX8_knownUnlike 105 = .ok (.getfield 9, 3) := by decide +kernel
theorem d_X8_knownUnlike_108 : decode cX8_knownUnlike 108 = .ok (.iload 7, 2) := by decide +kernel
theorem d_X8_knownUnlike_110 : decode cX8_knownUnlike 110 = .ok (.iaload, 1) := by decide +kernel
theorem d_X8_knownUnlike_111 : decode cX8_knownUnlike 111 = .ok (.if_icmp .eq 12, 3) := by decide +kernel
theorem d_X8_knownUnlike_114 : decode cX8_knownUnlike 114 = .ok (.iload 4, 2) := by decide +kernel
theorem d_X8_knownUnlike_116 : decode cX8_knownUnlike 116 = .ok (.iconst 1, 1) := by decide +kernel
theorem d_X8_knownUnlike_117 : decode cX8_knownUnlike 117 = .ok (.iload 5, 2) := by decide +kernel
theorem d_X8_knownUnlike_119 : decode cX8_knownUnlike 119 = .ok (.ishl, 1) := by decide +kernel
theorem d_X8_knownUnlike_120 : decode cX8_knownUnlike 120 = .ok (.ior, 1) := by decide +kernel
theorem d_X8_knownUnlike_121 : decode cX8_knownUnlike 121 = .ok (.istore 4, 2) := by decide +kernel
theorem d_X8_knownUnlike_123 : decode cX8_knownUnlike 123 = .ok (.iinc 5 1, 3) := by decide +kernel
theorem d_X8_knownUnlike_126 : decode cX8_knownUnlike 126 = .ok (.goto (-120), 3) := by decide +kernel
theorem d_X8_knownUnlike_129 : decode cX8_knownUnlike 129 = .ok (.iload 4, 2) := by decide +kernel
theorem d_X8_knownUnlike_131 : decode cX8_knownUnlike 131 = .ok (.ireturn, 1) := by decide +kernel
abbrev X_X8_knownUnlike : gX := (RX8, cX8_knownUnlike, 10, (some .int), false)
def F_X8_knownUnlike_b123 (k6 : Option Nat → Option Nat → Int32 → Int32 → Int32 → Int32 → Option Int32) (M : gM) (l0 : Option Nat) (l1 : Option Nat) (l2 : Int32) (l3 : Int32) (l4 : Int32) (l5 : Int32) : Option Int32 :=
  k6 l0 l1 l2 l3 l4 (l5 + 1)
theorem T_X8_knownUnlike_b123 (k6 : Option Nat → Option Nat → Int32 → Int32 → Int32 → Int32 → Option Int32) (M : gM) (r : Int32) (hk6 : ∀ (l0 : Option Nat) (l1 : Option Nat) (l2 : Int32) (l3 : Int32) (l4 : Int32) (l5 : Int32), k6 l0 l1 l2 l3 l4 l5 = some r → GW 0 0 0 X_X8_knownUnlike 6 [(0, vr l0), (1, vr l1), (2, vi l2), (3, vi l3), (4, vi l4), (5, vi l5)] [] M (some (vi r), M)) (l0 : Option Nat) (l1 : Option Nat) (l2 : Int32) (l3 : Int32) (l4 : Int32) (l5 : Int32) (h : F_X8_knownUnlike_b123 k6 M l0 l1 l2 l3 l4 l5 = some r) : GW 0 0 0 X_X8_knownUnlike 123 [(0, vr l0), (1, vr l1), (2, vi l2), (3, vi l3), (4, vi l4), (5, vi l5)] [] M (some (vi r), M) := by
  delta F_X8_knownUnlike_b123 at h
  refine GW_iinc (j := 5) (X := X_X8_knownUnlike) (pc := 123) d_X8_knownUnlike_123 rfl (congrArg (fun z => _ + z) (by decide : Int32.ofInt 1 = (1 : Int32))) (Nat.le_of_ble_eq_true rfl) (lv2 := [(5, vi (l5 + 1)), (0, vr l0), (1, vr l1), (2, vi l2), (3, vi l3), (4, vi l4)]) rfl ?_
  refine GW_goto (X := X_X8_knownUnlike) (pc := 126) 6 d_X8_knownUnlike_126 (by decide) ?_
  refine GW_sub [1, 2, 3, 4, 5, 0] rfl ?_
  exact hk6 l0 l1 l2 l3 l4 (l5 + 1) h
def F_X8_knownUnlike_b114 (k6 : Option Nat → Option Nat → Int32 → Int32 → Int32 → Int32 → Option Int32) (M : gM) (l0 : Option Nat) (l1 : Option Nat) (l2 : Int32) (l3 : Int32) (l4 : Int32) (l5 : Int32) : Option Int32 :=
  F_X8_knownUnlike_b123 k6 M l0 l1 l2 l3 (l4 ||| ((1 : Int32) <<< (l5 &&& 31))) l5
theorem T_X8_knownUnlike_b114 (k6 : Option Nat → Option Nat → Int32 → Int32 → Int32 → Int32 → Option Int32) (M : gM) (r : Int32) (hk6 : ∀ (l0 : Option Nat) (l1 : Option Nat) (l2 : Int32) (l3 : Int32) (l4 : Int32) (l5 : Int32), k6 l0 l1 l2 l3 l4 l5 = some r → GW 0 0 0 X_X8_knownUnlike 6 [(0, vr l0), (1, vr l1), (2, vi l2), (3, vi l3), (4, vi l4), (5, vi l5)] [] M (some (vi r), M)) (l0 : Option Nat) (l1 : Option Nat) (l2 : Int32) (l3 : Int32) (l4 : Int32) (l5 : Int32) (h : F_X8_knownUnlike_b114 k6 M l0 l1 l2 l3 l4 l5 = some r) : GW 0 0 0 X_X8_knownUnlike 114 [(0, vr l0), (1, vr l1), (2, vi l2), (3, vi l3), (4, vi l4), (5, vi l5)] [] M (some (vi r), M) := by
  delta F_X8_knownUnlike_b114 at h
  refine GW_iload (X := X_X8_knownUnlike) (pc := 114) d_X8_knownUnlike_114 4 rfl ?_
  refine GW_iconst (X := X_X8_knownUnlike) (pc := 116) (v := 1) d_X8_knownUnlike_116 (by decide) ?_
  refine GW_iload (X := X_X8_knownUnlike) (pc := 117) d_X8_knownUnlike_117 5 rfl ?_
  refine GW_ishl (X := X_X8_knownUnlike) (pc := 119) d_X8_knownUnlike_119 ?_
  refine GW_ior (X := X_X8_knownUnlike) (pc := 120) d_X8_knownUnlike_120 ?_
  refine GW_istore (X := X_X8_knownUnlike) (pc := 121) d_X8_knownUnlike_121 (Nat.le_of_ble_eq_true rfl) (lv2 := [(4, vi (l4 ||| ((1 : Int32) <<< (l5 &&& 31)))), (0, vr l0), (1, vr l1), (2, vi l2), (3, vi l3), (5, vi l5)]) rfl ?_
  refine GW_sub [1, 2, 3, 4, 0, 5] rfl ?_
  exact T_X8_knownUnlike_b123 k6 M r hk6 l0 l1 l2 l3 (l4 ||| ((1 : Int32) <<< (l5 &&& 31))) l5 h
def F_X8_knownUnlike_b85 (k6 : Option Nat → Option Nat → Int32 → Int32 → Int32 → Int32 → Option Int32) (M : gM) (l0 : Option Nat) (l1 : Option Nat) (l2 : Int32) (l3 : Int32) (l4 : Int32) (l5 : Int32) (l6 : Int32) (l7 : Int32) (l8 : Int32) (s0 : Int32) : Option Int32 :=
  if s0 = 0 then (if l8 = 0 then (F_X8_knownUnlike_b114 k6 M l0 l1 l2 l3 l4 l5) else ((gR 8 M l0 0).bind fun v1 => (aI 20 M v1 l6).bind fun v2 => (gR 8 M l0 0).bind fun v3 => (aI 20 M v3 l7).bind fun v4 => if v2 = v4 then (F_X8_knownUnlike_b123 k6 M l0 l1 l2 l3 l4 l5) else (F_X8_knownUnlike_b114 k6 M l0 l1 l2 l3 l4 l5))) else (F_X8_knownUnlike_b123 k6 M l0 l1 l2 l3 l4 l5)
theorem T_X8_knownUnlike_b85 (k6 : Option Nat → Option Nat → Int32 → Int32 → Int32 → Int32 → Option Int32) (M : gM) (r : Int32) (hk6 : ∀ (l0 : Option Nat) (l1 : Option Nat) (l2 : Int32) (l3 : Int32) (l4 : Int32) (l5 : Int32), k6 l0 l1 l2 l3 l4 l5 = some r → GW 0 0 0 X_X8_knownUnlike 6 [(0, vr l0), (1, vr l1), (2, vi l2), (3, vi l3), (4, vi l4), (5, vi l5)] [] M (some (vi r), M)) (l0 : Option Nat) (l1 : Option Nat) (l2 : Int32) (l3 : Int32) (l4 : Int32) (l5 : Int32) (l6 : Int32) (l7 : Int32) (l8 : Int32) (s0 : Int32) (h : F_X8_knownUnlike_b85 k6 M l0 l1 l2 l3 l4 l5 l6 l7 l8 s0 = some r) : GW 0 0 0 X_X8_knownUnlike 85 [(0, vr l0), (1, vr l1), (2, vi l2), (3, vi l3), (4, vi l4), (5, vi l5), (6, vi l6), (7, vi l7), (8, vi l8)] [vi s0] M (some (vi r), M) := by
  delta F_X8_knownUnlike_b85 at h
  refine GW_istore (X := X_X8_knownUnlike) (pc := 85) d_X8_knownUnlike_85 (Nat.le_of_ble_eq_true rfl) (lv2 := [(9, vi s0), (0, vr l0), (1, vr l1), (2, vi l2), (3, vi l3), (4, vi l4), (5, vi l5), (6, vi l6), (7, vi l7), (8, vi l8)]) rfl ?_
  refine GW_iload (X := X_X8_knownUnlike) (pc := 87) d_X8_knownUnlike_87 0 rfl ?_
  refine GW_if_ne (X := X_X8_knownUnlike) (pc := 89) 123 d_X8_knownUnlike_89 (by decide) (fun c => ?_) (fun c => ?_)
  · replace h := g_ie c h
    refine GW_sub [1, 2, 3, 4, 5, 6] rfl ?_
    exact T_X8_knownUnlike_b123 k6 M r hk6 l0 l1 l2 l3 l4 l5 h
  · replace h := g_ip c h
    refine GW_iload (X := X_X8_knownUnlike) (pc := 92) d_X8_knownUnlike_92 9 rfl ?_
    refine GW_if_eq (X := X_X8_knownUnlike) (pc := 94) 114 d_X8_knownUnlike_94 (by decide) (fun c => ?_) (fun c => ?_)
    · replace h := g_ip c h
      refine GW_sub [1, 2, 3, 4, 5, 6] rfl ?_
      exact T_X8_knownUnlike_b114 k6 M r hk6 l0 l1 l2 l3 l4 l5 h
    · replace h := g_ie c h
      refine GW_aload_n (X := X_X8_knownUnlike) (pc := 97) d_X8_knownUnlike_97 rfl 1 rfl ?_
      replace h := g_bd h
      obtain ⟨v1, hv1, h⟩ := h
      refine GW_getR (X := X_X8_knownUnlike) (pc := 98) f_X8_9 d_X8_knownUnlike_98 hv1 (Or.inr ⟨_, ty_8_0⟩) ?_
      refine GW_iload (X := X_X8_knownUnlike) (pc := 101) d_X8_knownUnlike_101 7 rfl ?_
      replace h := g_bd h
      obtain ⟨v2, hv2, h⟩ := h
      refine GW_iald (X := X_X8_knownUnlike) (pc := 103) d_X8_knownUnlike_103 hv2 ?_
      refine GW_aload_n (X := X_X8_knownUnlike) (pc := 104) d_X8_knownUnlike_104 rfl 1 rfl ?_
      replace h := g_bd h
      obtain ⟨v3, hv3, h⟩ := h
      refine GW_getR (X := X_X8_knownUnlike) (pc := 105) f_X8_9 d_X8_knownUnlike_105 hv3 (Or.inr ⟨_, ty_8_0⟩) ?_
      refine GW_iload (X := X_X8_knownUnlike) (pc := 108) d_X8_knownUnlike_108 8 rfl ?_
      replace h := g_bd h
      obtain ⟨v4, hv4, h⟩ := h
      refine GW_iald (X := X_X8_knownUnlike) (pc := 110) d_X8_knownUnlike_110 hv4 ?_
      refine GW_icmp_eq (X := X_X8_knownUnlike) (pc := 111) 123 d_X8_knownUnlike_111 (by decide) (fun c => ?_) (fun c => ?_)
      · replace h := g_ip c h
        refine GW_sub [1, 2, 3, 4, 5, 6] rfl ?_
        exact T_X8_knownUnlike_b123 k6 M r hk6 l0 l1 l2 l3 l4 l5 h
      · replace h := g_ie c h
        refine GW_sub [1, 2, 3, 4, 5, 6] rfl ?_
        exact T_X8_knownUnlike_b114 k6 M r hk6 l0 l1 l2 l3 l4 l5 h
def F_X8_knownUnlike_b84 (k6 : Option Nat → Option Nat → Int32 → Int32 → Int32 → Int32 → Option Int32) (M : gM) (l0 : Option Nat) (l1 : Option Nat) (l2 : Int32) (l3 : Int32) (l4 : Int32) (l5 : Int32) (l6 : Int32) (l7 : Int32) (l8 : Int32) : Option Int32 :=
  F_X8_knownUnlike_b85 k6 M l0 l1 l2 l3 l4 l5 l6 l7 l8 (0 : Int32)
theorem T_X8_knownUnlike_b84 (k6 : Option Nat → Option Nat → Int32 → Int32 → Int32 → Int32 → Option Int32) (M : gM) (r : Int32) (hk6 : ∀ (l0 : Option Nat) (l1 : Option Nat) (l2 : Int32) (l3 : Int32) (l4 : Int32) (l5 : Int32), k6 l0 l1 l2 l3 l4 l5 = some r → GW 0 0 0 X_X8_knownUnlike 6 [(0, vr l0), (1, vr l1), (2, vi l2), (3, vi l3), (4, vi l4), (5, vi l5)] [] M (some (vi r), M)) (l0 : Option Nat) (l1 : Option Nat) (l2 : Int32) (l3 : Int32) (l4 : Int32) (l5 : Int32) (l6 : Int32) (l7 : Int32) (l8 : Int32) (h : F_X8_knownUnlike_b84 k6 M l0 l1 l2 l3 l4 l5 l6 l7 l8 = some r) : GW 0 0 0 X_X8_knownUnlike 84 [(0, vr l0), (1, vr l1), (2, vi l2), (3, vi l3), (4, vi l4), (5, vi l5), (6, vi l6), (7, vi l7), (8, vi l8)] [] M (some (vi r), M) := by
  delta F_X8_knownUnlike_b84 at h
  refine GW_iconst (X := X_X8_knownUnlike) (pc := 84) (v := 0) d_X8_knownUnlike_84 (by decide) ?_
  exact T_X8_knownUnlike_b85 k6 M r hk6 l0 l1 l2 l3 l4 l5 l6 l7 l8 (0 : Int32) h
def F_X8_knownUnlike_b58 (k6 : Option Nat → Option Nat → Int32 → Int32 → Int32 → Int32 → Option Int32) (M : gM) (l0 : Option Nat) (l1 : Option Nat) (l2 : Int32) (l3 : Int32) (l4 : Int32) (l5 : Int32) (l6 : Int32) (l7 : Int32) (s0 : Int32) : Option Int32 :=
  (gR 8 M l0 1).bind fun v1 => (aI 20 M v1 l6).bind fun v2 => if v2 = 0 then ((gR 8 M l0 1).bind fun v3 => (aI 20 M v3 l7).bind fun v4 => if v4 = 0 then (F_X8_knownUnlike_b85 k6 M l0 l1 l2 l3 l4 l5 l6 l7 s0 (1 : Int32)) else (F_X8_knownUnlike_b84 k6 M l0 l1 l2 l3 l4 l5 l6 l7 s0)) else (F_X8_knownUnlike_b84 k6 M l0 l1 l2 l3 l4 l5 l6 l7 s0)
theorem T_X8_knownUnlike_b58 (k6 : Option Nat → Option Nat → Int32 → Int32 → Int32 → Int32 → Option Int32) (M : gM) (r : Int32) (hk6 : ∀ (l0 : Option Nat) (l1 : Option Nat) (l2 : Int32) (l3 : Int32) (l4 : Int32) (l5 : Int32), k6 l0 l1 l2 l3 l4 l5 = some r → GW 0 0 0 X_X8_knownUnlike 6 [(0, vr l0), (1, vr l1), (2, vi l2), (3, vi l3), (4, vi l4), (5, vi l5)] [] M (some (vi r), M)) (l0 : Option Nat) (l1 : Option Nat) (l2 : Int32) (l3 : Int32) (l4 : Int32) (l5 : Int32) (l6 : Int32) (l7 : Int32) (s0 : Int32) (h : F_X8_knownUnlike_b58 k6 M l0 l1 l2 l3 l4 l5 l6 l7 s0 = some r) : GW 0 0 0 X_X8_knownUnlike 58 [(0, vr l0), (1, vr l1), (2, vi l2), (3, vi l3), (4, vi l4), (5, vi l5), (6, vi l6), (7, vi l7)] [vi s0] M (some (vi r), M) := by
  delta F_X8_knownUnlike_b58 at h
  refine GW_istore (X := X_X8_knownUnlike) (pc := 58) d_X8_knownUnlike_58 (Nat.le_of_ble_eq_true rfl) (lv2 := [(8, vi s0), (0, vr l0), (1, vr l1), (2, vi l2), (3, vi l3), (4, vi l4), (5, vi l5), (6, vi l6), (7, vi l7)]) rfl ?_
  refine GW_aload_n (X := X_X8_knownUnlike) (pc := 60) d_X8_knownUnlike_60 rfl 1 rfl ?_
  replace h := g_bd h
  obtain ⟨v1, hv1, h⟩ := h
  refine GW_getR (X := X_X8_knownUnlike) (pc := 61) f_X8_15 d_X8_knownUnlike_61 hv1 (Or.inr ⟨_, ty_8_1⟩) ?_
  refine GW_iload (X := X_X8_knownUnlike) (pc := 64) d_X8_knownUnlike_64 7 rfl ?_
  replace h := g_bd h
  obtain ⟨v2, hv2, h⟩ := h
  refine GW_iald (X := X_X8_knownUnlike) (pc := 66) d_X8_knownUnlike_66 hv2 ?_
  refine GW_if_ne (X := X_X8_knownUnlike) (pc := 67) 84 d_X8_knownUnlike_67 (by decide) (fun c => ?_) (fun c => ?_)
  · replace h := g_ie c h
    refine GW_sub [1, 2, 3, 4, 5, 6, 7, 8, 0] rfl ?_
    exact T_X8_knownUnlike_b84 k6 M r hk6 l0 l1 l2 l3 l4 l5 l6 l7 s0 h
  · replace h := g_ip c h
    refine GW_aload_n (X := X_X8_knownUnlike) (pc := 70) d_X8_knownUnlike_70 rfl 1 rfl ?_
    replace h := g_bd h
    obtain ⟨v3, hv3, h⟩ := h
    refine GW_getR (X := X_X8_knownUnlike) (pc := 71) f_X8_15 d_X8_knownUnlike_71 hv3 (Or.inr ⟨_, ty_8_1⟩) ?_
    refine GW_iload (X := X_X8_knownUnlike) (pc := 74) d_X8_knownUnlike_74 8 rfl ?_
    replace h := g_bd h
    obtain ⟨v4, hv4, h⟩ := h
    refine GW_iald (X := X_X8_knownUnlike) (pc := 76) d_X8_knownUnlike_76 hv4 ?_
    refine GW_if_ne (X := X_X8_knownUnlike) (pc := 77) 84 d_X8_knownUnlike_77 (by decide) (fun c => ?_) (fun c => ?_)
    · replace h := g_ie c h
      refine GW_sub [1, 2, 3, 4, 5, 6, 7, 8, 0] rfl ?_
      exact T_X8_knownUnlike_b84 k6 M r hk6 l0 l1 l2 l3 l4 l5 l6 l7 s0 h
    · replace h := g_ip c h
      refine GW_iconst (X := X_X8_knownUnlike) (pc := 80) (v := 1) d_X8_knownUnlike_80 (by decide) ?_
      refine GW_goto (X := X_X8_knownUnlike) (pc := 81) 85 d_X8_knownUnlike_81 (by decide) ?_
      refine GW_sub [1, 2, 3, 4, 5, 6, 7, 8, 0] rfl ?_
      exact T_X8_knownUnlike_b85 k6 M r hk6 l0 l1 l2 l3 l4 l5 l6 l7 s0 (1 : Int32) h
def F_X8_knownUnlike_b57 (k6 : Option Nat → Option Nat → Int32 → Int32 → Int32 → Int32 → Option Int32) (M : gM) (l0 : Option Nat) (l1 : Option Nat) (l2 : Int32) (l3 : Int32) (l4 : Int32) (l5 : Int32) (l6 : Int32) (l7 : Int32) : Option Int32 :=
  F_X8_knownUnlike_b58 k6 M l0 l1 l2 l3 l4 l5 l6 l7 (0 : Int32)
theorem T_X8_knownUnlike_b57 (k6 : Option Nat → Option Nat → Int32 → Int32 → Int32 → Int32 → Option Int32) (M : gM) (r : Int32) (hk6 : ∀ (l0 : Option Nat) (l1 : Option Nat) (l2 : Int32) (l3 : Int32) (l4 : Int32) (l5 : Int32), k6 l0 l1 l2 l3 l4 l5 = some r → GW 0 0 0 X_X8_knownUnlike 6 [(0, vr l0), (1, vr l1), (2, vi l2), (3, vi l3), (4, vi l4), (5, vi l5)] [] M (some (vi r), M)) (l0 : Option Nat) (l1 : Option Nat) (l2 : Int32) (l3 : Int32) (l4 : Int32) (l5 : Int32) (l6 : Int32) (l7 : Int32) (h : F_X8_knownUnlike_b57 k6 M l0 l1 l2 l3 l4 l5 l6 l7 = some r) : GW 0 0 0 X_X8_knownUnlike 57 [(0, vr l0), (1, vr l1), (2, vi l2), (3, vi l3), (4, vi l4), (5, vi l5), (6, vi l6), (7, vi l7)] [] M (some (vi r), M) := by
  delta F_X8_knownUnlike_b57 at h
  refine GW_iconst (X := X_X8_knownUnlike) (pc := 57) (v := 0) d_X8_knownUnlike_57 (by decide) ?_
  exact T_X8_knownUnlike_b58 k6 M r hk6 l0 l1 l2 l3 l4 l5 l6 l7 (0 : Int32) h
def F_X8_knownUnlike_b6 (k6 : Option Nat → Option Nat → Int32 → Int32 → Int32 → Int32 → Option Int32) (M : gM) (l0 : Option Nat) (l1 : Option Nat) (l2 : Int32) (l3 : Int32) (l4 : Int32) (l5 : Int32) : Option Int32 :=
  (gI 1 M l1 6).bind fun v1 => if v1 ≤ l5 then (some l4) else ((gR 8 M l0 1).bind fun v2 => (aI 20 M v2 ((l2 * (7 : Int32)) + l5)).bind fun v3 => if v3 ≤ 0 then (F_X8_knownUnlike_b57 k6 M l0 l1 l2 l3 l4 l5 ((l2 * (7 : Int32)) + l5) ((l3 * (7 : Int32)) + l5)) else ((gR 8 M l0 1).bind fun v4 => (aI 20 M v4 ((l3 * (7 : Int32)) + l5)).bind fun v5 => if v5 ≤ 0 then (F_X8_knownUnlike_b57 k6 M l0 l1 l2 l3 l4 l5 ((l2 * (7 : Int32)) + l5) ((l3 * (7 : Int32)) + l5)) else (F_X8_knownUnlike_b58 k6 M l0 l1 l2 l3 l4 l5 ((l2 * (7 : Int32)) + l5) ((l3 * (7 : Int32)) + l5) (1 : Int32))))
set_option maxHeartbeats 1000000 in
theorem T_X8_knownUnlike_b6 (k6 : Option Nat → Option Nat → Int32 → Int32 → Int32 → Int32 → Option Int32) (M : gM) (r : Int32) (hk6 : ∀ (l0 : Option Nat) (l1 : Option Nat) (l2 : Int32) (l3 : Int32) (l4 : Int32) (l5 : Int32), k6 l0 l1 l2 l3 l4 l5 = some r → GW 0 0 0 X_X8_knownUnlike 6 [(0, vr l0), (1, vr l1), (2, vi l2), (3, vi l3), (4, vi l4), (5, vi l5)] [] M (some (vi r), M)) (l0 : Option Nat) (l1 : Option Nat) (l2 : Int32) (l3 : Int32) (l4 : Int32) (l5 : Int32) (h : F_X8_knownUnlike_b6 k6 M l0 l1 l2 l3 l4 l5 = some r) : GW 0 0 0 X_X8_knownUnlike 6 [(0, vr l0), (1, vr l1), (2, vi l2), (3, vi l3), (4, vi l4), (5, vi l5)] [] M (some (vi r), M) := by
  delta F_X8_knownUnlike_b6 at h
  refine GW_iload (X := X_X8_knownUnlike) (pc := 6) d_X8_knownUnlike_6 5 rfl ?_
  refine GW_aload_n (X := X_X8_knownUnlike) (pc := 8) d_X8_knownUnlike_8 rfl 1 rfl ?_
  replace h := g_bd h
  obtain ⟨v1, hv1, h⟩ := h
  refine GW_getI (X := X_X8_knownUnlike) (pc := 9) f_X8_63 d_X8_knownUnlike_9 hv1 (Or.inl ty_1_6) ?_
  refine GW_icmp_ge (X := X_X8_knownUnlike) (pc := 12) 129 d_X8_knownUnlike_12 (by decide) (fun c => ?_) (fun c => ?_)
  · replace h := g_ip c h
    refine GW_iload (X := X_X8_knownUnlike) (pc := 129) d_X8_knownUnlike_129 4 rfl ?_
    replace h := Option.some.inj h
    subst h
    exact GW_ret (X := X_X8_knownUnlike) (pc := 131) d_X8_knownUnlike_131 rfl trivial
  · replace h := g_ie c h
    refine GW_iload_n (X := X_X8_knownUnlike) (pc := 15) d_X8_knownUnlike_15 rfl 2 rfl ?_
    refine GW_bipush (X := X_X8_knownUnlike) (pc := 16) (v := 7) d_X8_knownUnlike_16 (by decide) ?_
    refine GW_imul (X := X_X8_knownUnlike) (pc := 18) d_X8_knownUnlike_18 ?_
    refine GW_iload (X := X_X8_knownUnlike) (pc := 19) d_X8_knownUnlike_19 5 rfl ?_
    refine GW_iadd (X := X_X8_knownUnlike) (pc := 21) d_X8_knownUnlike_21 ?_
    refine GW_istore (X := X_X8_knownUnlike) (pc := 22) d_X8_knownUnlike_22 (Nat.le_of_ble_eq_true rfl) (lv2 := [(6, vi ((l2 * (7 : Int32)) + l5)), (0, vr l0), (1, vr l1), (2, vi l2), (3, vi l3), (4, vi l4), (5, vi l5)]) rfl ?_
    refine GW_iload_n (X := X_X8_knownUnlike) (pc := 24) d_X8_knownUnlike_24 rfl 4 rfl ?_
    refine GW_bipush (X := X_X8_knownUnlike) (pc := 25) (v := 7) d_X8_knownUnlike_25 (by decide) ?_
    refine GW_imul (X := X_X8_knownUnlike) (pc := 27) d_X8_knownUnlike_27 ?_
    refine GW_iload (X := X_X8_knownUnlike) (pc := 28) d_X8_knownUnlike_28 6 rfl ?_
    refine GW_iadd (X := X_X8_knownUnlike) (pc := 30) d_X8_knownUnlike_30 ?_
    refine GW_istore (X := X_X8_knownUnlike) (pc := 31) d_X8_knownUnlike_31 (Nat.le_of_ble_eq_true rfl) (lv2 := [(7, vi ((l3 * (7 : Int32)) + l5)), (6, vi ((l2 * (7 : Int32)) + l5)), (0, vr l0), (1, vr l1), (2, vi l2), (3, vi l3), (4, vi l4), (5, vi l5)]) rfl ?_
    refine GW_aload_n (X := X_X8_knownUnlike) (pc := 33) d_X8_knownUnlike_33 rfl 2 rfl ?_
    replace h := g_bd h
    obtain ⟨v2, hv2, h⟩ := h
    refine GW_getR (X := X_X8_knownUnlike) (pc := 34) f_X8_15 d_X8_knownUnlike_34 hv2 (Or.inr ⟨_, ty_8_1⟩) ?_
    refine GW_iload (X := X_X8_knownUnlike) (pc := 37) d_X8_knownUnlike_37 1 rfl ?_
    replace h := g_bd h
    obtain ⟨v3, hv3, h⟩ := h
    refine GW_iald (X := X_X8_knownUnlike) (pc := 39) d_X8_knownUnlike_39 hv3 ?_
    refine GW_if_le (X := X_X8_knownUnlike) (pc := 40) 57 d_X8_knownUnlike_40 (by decide) (fun c => ?_) (fun c => ?_)
    · replace h := g_ip c h
      refine GW_sub [2, 3, 4, 5, 6, 7, 1, 0] rfl ?_
      exact T_X8_knownUnlike_b57 k6 M r hk6 l0 l1 l2 l3 l4 l5 ((l2 * (7 : Int32)) + l5) ((l3 * (7 : Int32)) + l5) h
    · replace h := g_ie c h
      refine GW_aload_n (X := X_X8_knownUnlike) (pc := 43) d_X8_knownUnlike_43 rfl 2 rfl ?_
      replace h := g_bd h
      obtain ⟨v4, hv4, h⟩ := h
      refine GW_getR (X := X_X8_knownUnlike) (pc := 44) f_X8_15 d_X8_knownUnlike_44 hv4 (Or.inr ⟨_, ty_8_1⟩) ?_
      refine GW_iload (X := X_X8_knownUnlike) (pc := 47) d_X8_knownUnlike_47 0 rfl ?_
      replace h := g_bd h
      obtain ⟨v5, hv5, h⟩ := h
      refine GW_iald (X := X_X8_knownUnlike) (pc := 49) d_X8_knownUnlike_49 hv5 ?_
      refine GW_if_le (X := X_X8_knownUnlike) (pc := 50) 57 d_X8_knownUnlike_50 (by decide) (fun c => ?_) (fun c => ?_)
      · replace h := g_ip c h
        refine GW_sub [2, 3, 4, 5, 6, 7, 1, 0] rfl ?_
        exact T_X8_knownUnlike_b57 k6 M r hk6 l0 l1 l2 l3 l4 l5 ((l2 * (7 : Int32)) + l5) ((l3 * (7 : Int32)) + l5) h
      · replace h := g_ie c h
        refine GW_iconst (X := X_X8_knownUnlike) (pc := 53) (v := 1) d_X8_knownUnlike_53 (by decide) ?_
        refine GW_goto (X := X_X8_knownUnlike) (pc := 54) 58 d_X8_knownUnlike_54 (by decide) ?_
        refine GW_sub [2, 3, 4, 5, 6, 7, 1, 0] rfl ?_
        exact T_X8_knownUnlike_b58 k6 M r hk6 l0 l1 l2 l3 l4 l5 ((l2 * (7 : Int32)) + l5) ((l3 * (7 : Int32)) + l5) (1 : Int32) h
def F_X8_knownUnlike_L6 (M : gM) : Nat → Option Nat → Option Nat → Int32 → Int32 → Int32 → Int32 → Option Int32
  | 0 => fun _ _ _ _ _ _ => none
  | n + 1 => F_X8_knownUnlike_b6 (F_X8_knownUnlike_L6 M n) M
theorem T_X8_knownUnlike_L6 (M : gM) (r : Int32) : ∀ (n : Nat) (l0 : Option Nat) (l1 : Option Nat) (l2 : Int32) (l3 : Int32) (l4 : Int32) (l5 : Int32), F_X8_knownUnlike_L6 M n l0 l1 l2 l3 l4 l5 = some r → GW 0 0 0 X_X8_knownUnlike 6 [(0, vr l0), (1, vr l1), (2, vi l2), (3, vi l3), (4, vi l4), (5, vi l5)] [] M (some (vi r), M) := by
  intro n
  induction n with
  | zero => intro l0 l1 l2 l3 l4 l5 h; exact g_no h
  | succ n ih => intro l0 l1 l2 l3 l4 l5 h; exact T_X8_knownUnlike_b6 (F_X8_knownUnlike_L6 M n) M r ih l0 l1 l2 l3 l4 l5 h
def F_X8_knownUnlike_b0 (M : gM) (l0 : Option Nat) (l1 : Option Nat) (l2 : Int32) (l3 : Int32) : Option Int32 :=
  F_X8_knownUnlike_L6 M g_fuel l0 l1 l2 l3 (0 : Int32) (0 : Int32)
theorem T_X8_knownUnlike_b0 (M : gM) (r : Int32) (l0 : Option Nat) (l1 : Option Nat) (l2 : Int32) (l3 : Int32) (h : F_X8_knownUnlike_b0 M l0 l1 l2 l3 = some r) : GW 0 0 0 X_X8_knownUnlike 0 [(0, vr l0), (1, vr l1), (2, vi l2), (3, vi l3)] [] M (some (vi r), M) := by
  delta F_X8_knownUnlike_b0 at h
  refine GW_iconst (X := X_X8_knownUnlike) (pc := 0) (v := 0) d_X8_knownUnlike_0 (by decide) ?_
  refine GW_istore (X := X_X8_knownUnlike) (pc := 1) d_X8_knownUnlike_1 (Nat.le_of_ble_eq_true rfl) (lv2 := [(4, vi (0 : Int32)), (0, vr l0), (1, vr l1), (2, vi l2), (3, vi l3)]) rfl ?_
  refine GW_iconst (X := X_X8_knownUnlike) (pc := 3) (v := 0) d_X8_knownUnlike_3 (by decide) ?_
  refine GW_istore (X := X_X8_knownUnlike) (pc := 4) d_X8_knownUnlike_4 (Nat.le_of_ble_eq_true rfl) (lv2 := [(5, vi (0 : Int32)), (4, vi (0 : Int32)), (0, vr l0), (1, vr l1), (2, vi l2), (3, vi l3)]) rfl ?_
  refine GW_sub [2, 3, 4, 5, 1, 0] rfl ?_
  exact T_X8_knownUnlike_L6 M r g_fuel l0 l1 l2 l3 (0 : Int32) (0 : Int32) h
def F_X8_knownUnlike (l0 : Option Nat) (l1 : Option Nat) (l2 : Int32) (l3 : Int32) (M : gM) : Option Int32 := F_X8_knownUnlike_b0 M l0 l1 l2 l3
theorem T_X8_knownUnlike (l0 : Option Nat) (l1 : Option Nat) (l2 : Int32) (l3 : Int32) (M : gM) (r : Int32) (h : F_X8_knownUnlike l0 l1 l2 l3 M = some r) : g_Met 0 0 0 yX8_knownUnlike X_X8_knownUnlike [vr l0, vr l1, vi l2, vi l3] M (some (vi r), M) :=
  g_Met_of pn_RX8 rfl (Nat.le_of_ble_eq_true rfl) (fun h => by cases h) (GW_sub [0, 1, 2, 3] rfl (T_X8_knownUnlike_b0 M r l0 l1 l2 l3 h))
/-! ForgetHeirs.fillUnlike(I)I -/
theorem d_X11_fillUnlike_0 : decode cX11_fillUnlike 0 = .ok (.iconst 0, 1) := by decide +kernel
theorem d_X11_fillUnlike_1 : decode cX11_fillUnlike 1 = .ok (.istore_n 2, 1) := by decide +kernel
theorem d_X11_fillUnlike_2 : decode cX11_fillUnlike 2 = .ok (.iconst 0, 1) := by decide +kernel
theorem d_X11_fillUnlike_3 : decode cX11_fillUnlike 3 = .ok (.istore_n 3, 1) := by decide +kernel
theorem d_X11_fillUnlike_4 : decode cX11_fillUnlike 4 = .ok (.iload_n 3, 1) := by decide +kernel
theorem d_X11_fillUnlike_5 : decode cX11_fillUnlike 5 = .ok (.aload_n 0, 1) := by decide +kernel
theorem d_X11_fillUnlike_6 : decode cX11_fillUnlike 6 = .ok (.getfield 59, 3) := by decide +kernel
theorem d_X11_fillUnlike_9 : decode cX11_fillUnlike 9 = .ok (.getfield 121, 3) := by decide +kernel
theorem d_X11_fillUnlike_12 : decode cX11_fillUnlike 12 = .ok (.if_icmp .ge 83, 3) := by decide +kernel
theorem d_X11_fillUnlike_15 : decode cX11_fillUnlike 15 = .ok (.iload_n 3, 1) := by decide +kernel
theorem d_X11_fillUnlike_16 : decode cX11_fillUnlike 16 = .ok (.iconst 1, 1) := by decide +kernel
theorem d_X11_fillUnlike_17 : decode cX11_fillUnlike 17 = .ok (.iadd, 1) := by decide +kernel
theorem d_X11_fillUnlike_18 : decode cX11_fillUnlike 18 = .ok (.istore 4, 2) := by decide +kernel
theorem d_X11_fillUnlike_20 : decode cX11_fillUnlike 20 = .ok (.iload 4, 2) := by decide +kernel
theorem d_X11_fillUnlike_22 : decode cX11_fillUnlike 22 = .ok (.aload_n 0, 1) := by decide +kernel
theorem d_X11_fillUnlike_23 : decode cX11_fillUnlike 23 = .ok (.getfield 59, 3) := by decide +kernel
theorem d_X11_fillUnlike_26 : decode cX11_fillUnlike 26 = .ok (.getfield 121, 3) := by decide +kernel
theorem d_X11_fillUnlike_29 : decode cX11_fillUnlike 29 = .ok (.if_icmp .ge 60, 3) := by decide +kernel
theorem d_X11_fillUnlike_32 : decode cX11_fillUnlike 32 = .ok (.iload_n 1, 1) := by decide +kernel
theorem d_X11_fillUnlike_33 : decode cX11_fillUnlike 33 = .ok (.iload_n 3, 1) := by decide +kernel
theorem d_X11_fillUnlike_34 : decode cX11_fillUnlike 34 = .ok (.invokestatic 140, 3) := by decide +kernel
theorem d_X11_fillUnlike_37 : decode cX11_fillUnlike 37 = .ok (.iconst 1, 1) := by decide +kernel
theorem d_X11_fillUnlike_38 : decode cX11_fillUnlike 38 = .ok (.if_icmp .ne 45, 3) := by decide +kernel
theorem d_X11_fillUnlike_41 : decode cX11_fillUnlike 41 = .ok (.iload_n 1, 1) := by decide +kernel
theorem d_X11_fillUnlike_42 : decode cX11_fillUnlike 42 = .ok (.iload 4, 2) := by decide +kernel
theorem d_X11_fillUnlike_44 : decode cX11_fillUnlike 44 = .ok (.invokestatic 140, 3) := by decide +kernel
theorem d_X11_fillUnlike_47 : decode cX11_fillUnlike 47 = .ok (.iconst 1, 1) := by decide +kernel
theorem d_X11_fillUnlike_48 : decode cX11_fillUnlike 48 = .ok (.if_icmp .ne 35, 3) := by decide +kernel
theorem d_X11_fillUnlike_51 : decode cX11_fillUnlike 51 = .ok (.iload_n 2, 1) := by decide +kernel
theorem d_X11_fillUnlike_52 : decode cX11_fillUnlike 52 = .ok (.aload_n 0, 1) := by decide +kernel
theorem d_X11_fillUnlike_53 : decode cX11_fillUnlike 53 = .ok (.getfield 45, 3) := by decide +kernel
theorem d_X11_fillUnlike_56 : decode cX11_fillUnlike 56 = .ok (.arraylength, 1) := by decide +kernel
theorem d_X11_fillUnlike_57 : decode cX11_fillUnlike 57 = .ok (.if_icmp .ge 26, 3) := by decide +kernel
theorem d_X11_fillUnlike_60 : decode cX11_fillUnlike 60 = .ok (.aload_n 0, 1) := by decide +kernel
theorem d_X11_fillUnlike_61 : decode cX11_fillUnlike 61 = .ok (.getfield 45, 3) := by decide +kernel
theorem d_X11_fillUnlike_64 : decode cX11_fillUnlike 64 = .ok (.iload_n 2, 1) := by decide +kernel
theorem d_X11_fillUnlike_65 : decode cX11_fillUnlike 65 = .ok (.aload_n 0, 1) := by decide +kernel
theorem d_X11_fillUnlike_66 : decode cX11_fillUnlike 66 = .ok (.getfield 25, 3) := by decide +kernel
theorem d_X11_fillUnlike_69 : decode cX11_fillUnlike 69 = .ok (.aload_n 0, 1) := by decide +kernel
theorem d_X11_fillUnlike_70 : decode cX11_fillUnlike 70 = .ok (.getfield 59, 3) := by decide +kernel
theorem d_X11_fillUnlike_73 : decode cX11_fillUnlike 73 = .ok (.iload_n 3, 1) := by decide +kernel
theorem d_X11_fillUnlike_74 : decode cX11_fillUnlike 74 = .ok (.iload 4, 2) := by decide +kernel
theorem d_X11_fillUnlike_76 : decode cX11_fillUnlike 76 = .ok (.invokevirtual 289, 3) := by decide +kernel
theorem d_X11_fillUnlike_79 : decode cX11_fillUnlike 79 = .ok (.iastore, 1) := by decide +kernel
theorem d_X11_fillUnlike_80 : decode cX11_fillUnlike 80 = .ok (.iinc 2 1, 3) := by decide +kernel
theorem d_X11_fillUnlike_83 : decode cX11_fillUnlike 83 = .ok (.iinc 4 1, 3) := by decide +kernel
theorem d_X11_fillUnlike_86 : decode cX11_fillUnlike 86 = .ok (.goto (-66), 3) := by decide +kernel
theorem d_X11_fillUnlike_89 : decode cX11_fillUnlike 89 = .ok (.iinc 3 1, 3) := by decide +kernel
theorem d_X11_fillUnlike_92 : decode cX11_fillUnlike 92 = .ok (.goto (-88), 3) := by decide +kernel
theorem d_X11_fillUnlike_95 : decode cX11_fillUnlike 95 = .ok (.iload_n 2, 1) := by decide +kernel
theorem d_X11_fillUnlike_96 : decode cX11_fillUnlike 96 = .ok (.ireturn, 1) := by decide +kernel
abbrev X_X11_fillUnlike : gX := (RX11, cX11_fillUnlike, 5, (some .int), false)
def F_X11_fillUnlike_b83 (k4 : Option Nat → Int32 → Int32 → Int32 → gM → Option (Int32 × gM)) (k20 : Option Nat → Int32 → Int32 → Int32 → Int32 → gM → Option (Int32 × gM)) (l0 : Option Nat) (l1 : Int32) (l2 : Int32) (l3 : Int32) (l4 : Int32) (M : gM) : Option (Int32 × gM) :=
  k20 l0 l1 l2 l3 (l4 + 1) M
theorem T_X11_fillUnlike_b83 (k4 : Option Nat → Int32 → Int32 → Int32 → gM → Option (Int32 × gM)) (k20 : Option Nat → Int32 → Int32 → Int32 → Int32 → gM → Option (Int32 × gM)) (r : (Int32 × gM)) (hk4 : ∀ (l0 : Option Nat) (l1 : Int32) (l2 : Int32) (l3 : Int32) (M : gM), k4 l0 l1 l2 l3 M = some r → GW 1 0 0 X_X11_fillUnlike 4 [(0, vr l0), (1, vi l1), (2, vi l2), (3, vi l3)] [] M (some (vi r.1), r.2)) (hk20 : ∀ (l0 : Option Nat) (l1 : Int32) (l2 : Int32) (l3 : Int32) (l4 : Int32) (M : gM), k20 l0 l1 l2 l3 l4 M = some r → GW 1 0 0 X_X11_fillUnlike 20 [(0, vr l0), (1, vi l1), (2, vi l2), (3, vi l3), (4, vi l4)] [] M (some (vi r.1), r.2)) (l0 : Option Nat) (l1 : Int32) (l2 : Int32) (l3 : Int32) (l4 : Int32) (M : gM) (h : F_X11_fillUnlike_b83 k4 k20 l0 l1 l2 l3 l4 M = some r) : GW 1 0 0 X_X11_fillUnlike 83 [(0, vr l0), (1, vi l1), (2, vi l2), (3, vi l3), (4, vi l4)] [] M (some (vi r.1), r.2) := by
  delta F_X11_fillUnlike_b83 at h
  refine GW_iinc (j := 4) (X := X_X11_fillUnlike) (pc := 83) d_X11_fillUnlike_83 rfl (congrArg (fun z => _ + z) (by decide : Int32.ofInt 1 = (1 : Int32))) (Nat.le_of_ble_eq_true rfl) (lv2 := [(4, vi (l4 + 1)), (0, vr l0), (1, vi l1), (2, vi l2), (3, vi l3)]) rfl ?_
  refine GW_goto (X := X_X11_fillUnlike) (pc := 86) 20 d_X11_fillUnlike_86 (by decide) ?_
  refine GW_sub [1, 2, 3, 4, 0] rfl ?_
  exact hk20 l0 l1 l2 l3 (l4 + 1) M h
def F_X11_fillUnlike_b20 (k4 : Option Nat → Int32 → Int32 → Int32 → gM → Option (Int32 × gM)) (k20 : Option Nat → Int32 → Int32 → Int32 → Int32 → gM → Option (Int32 × gM)) (l0 : Option Nat) (l1 : Int32) (l2 : Int32) (l3 : Int32) (l4 : Int32) (M : gM) : Option (Int32 × gM) :=
  (gR 11 M l0 11).bind fun v1 => (gI 1 M v1 7).bind fun v2 => if v2 ≤ l4 then (k4 l0 l1 l2 (l3 + 1) M) else ((F_X11_bit l1 l3 M).bind fun v3 => if v3 = (1 : Int32) then ((F_X11_bit l1 l4 M).bind fun v4 => if v4 = (1 : Int32) then ((gR 11 M l0 9).bind fun v5 => (aN M v5).bind fun v6 => if v6 ≤ l2 then (F_X11_fillUnlike_b83 k4 k20 l0 l1 l2 l3 l4 M) else ((gR 11 M l0 9).bind fun v7 => (gR 11 M l0 5).bind fun v8 => (gR 11 M l0 11).bind fun v9 => (gO 8 M v8).bind fun i10 => (F_X8_knownUnlike (some i10) v9 l3 l4 M).bind fun v11 => (sI M v7 l2 v11).bind fun M12 => F_X11_fillUnlike_b83 k4 k20 l0 l1 (l2 + 1) l3 l4 M12)) else (F_X11_fillUnlike_b83 k4 k20 l0 l1 l2 l3 l4 M)) else (F_X11_fillUnlike_b83 k4 k20 l0 l1 l2 l3 l4 M))
set_option maxHeartbeats 1000000 in
theorem T_X11_fillUnlike_b20 (k4 : Option Nat → Int32 → Int32 → Int32 → gM → Option (Int32 × gM)) (k20 : Option Nat → Int32 → Int32 → Int32 → Int32 → gM → Option (Int32 × gM)) (r : (Int32 × gM)) (hk4 : ∀ (l0 : Option Nat) (l1 : Int32) (l2 : Int32) (l3 : Int32) (M : gM), k4 l0 l1 l2 l3 M = some r → GW 1 0 0 X_X11_fillUnlike 4 [(0, vr l0), (1, vi l1), (2, vi l2), (3, vi l3)] [] M (some (vi r.1), r.2)) (hk20 : ∀ (l0 : Option Nat) (l1 : Int32) (l2 : Int32) (l3 : Int32) (l4 : Int32) (M : gM), k20 l0 l1 l2 l3 l4 M = some r → GW 1 0 0 X_X11_fillUnlike 20 [(0, vr l0), (1, vi l1), (2, vi l2), (3, vi l3), (4, vi l4)] [] M (some (vi r.1), r.2)) (l0 : Option Nat) (l1 : Int32) (l2 : Int32) (l3 : Int32) (l4 : Int32) (M : gM) (h : F_X11_fillUnlike_b20 k4 k20 l0 l1 l2 l3 l4 M = some r) : GW 1 0 0 X_X11_fillUnlike 20 [(0, vr l0), (1, vi l1), (2, vi l2), (3, vi l3), (4, vi l4)] [] M (some (vi r.1), r.2) := by
  delta F_X11_fillUnlike_b20 at h
  refine GW_iload (X := X_X11_fillUnlike) (pc := 20) d_X11_fillUnlike_20 4 rfl ?_
  refine GW_aload_n (X := X_X11_fillUnlike) (pc := 22) d_X11_fillUnlike_22 rfl 0 rfl ?_
  replace h := g_bd h
  obtain ⟨v1, hv1, h⟩ := h
  refine GW_getR (X := X_X11_fillUnlike) (pc := 23) f_X11_59 d_X11_fillUnlike_23 hv1 (Or.inl ⟨_, ty_11_11⟩) ?_
  replace h := g_bd h
  obtain ⟨v2, hv2, h⟩ := h
  refine GW_getI (X := X_X11_fillUnlike) (pc := 26) f_X11_121 d_X11_fillUnlike_26 hv2 (Or.inl ty_1_7) ?_
  refine GW_icmp_ge (X := X_X11_fillUnlike) (pc := 29) 89 d_X11_fillUnlike_29 (by decide) (fun c => ?_) (fun c => ?_)
  · replace h := g_ip c h
    refine GW_iinc (j := 3) (X := X_X11_fillUnlike) (pc := 89) d_X11_fillUnlike_89 rfl (congrArg (fun z => _ + z) (by decide : Int32.ofInt 1 = (1 : Int32))) (Nat.le_of_ble_eq_true rfl) (lv2 := [(3, vi (l3 + 1)), (0, vr l0), (1, vi l1), (2, vi l2), (4, vi l4)]) rfl ?_
    refine GW_goto (X := X_X11_fillUnlike) (pc := 92) 4 d_X11_fillUnlike_92 (by decide) ?_
    refine GW_sub [1, 2, 3, 0] rfl ?_
    exact hk4 l0 l1 l2 (l3 + 1) M h
  · replace h := g_ie c h
    refine GW_iload_n (X := X_X11_fillUnlike) (pc := 32) d_X11_fillUnlike_32 rfl 1 rfl ?_
    refine GW_iload_n (X := X_X11_fillUnlike) (pc := 33) d_X11_fillUnlike_33 rfl 3 rfl ?_
    replace h := g_bd h
    obtain ⟨v3, hv3, h⟩ := h
    refine GW_callS (X := X_X11_fillUnlike) (pc := 34) (bc0 := 0) (bs0 := 0) (r := some (vi v3)) (M2 := M) (T_X11_bit l1 l3 M v3 hv3) (Nat.le_of_ble_eq_true rfl) (Nat.le_of_ble_eq_true rfl) yc_X11_bit ⟨m_772, m_646, m_116, m_647⟩ d_X11_fillUnlike_34 rfl (st := []) rfl (Nat.le_of_ble_eq_true rfl) (Nat.le_of_ble_eq_true rfl) (Nat.le_of_ble_eq_true rfl) (st2 := [vi v3]) rfl ?_
    refine GW_iconst (X := X_X11_fillUnlike) (pc := 37) (v := 1) d_X11_fillUnlike_37 (by decide) ?_
    refine GW_icmp_ne (X := X_X11_fillUnlike) (pc := 38) 83 d_X11_fillUnlike_38 (by decide) (fun c => ?_) (fun c => ?_)
    · replace h := g_ie c h
      exact T_X11_fillUnlike_b83 k4 k20 r hk4 hk20 l0 l1 l2 l3 l4 M h
    · replace h := g_ip c h
      refine GW_iload_n (X := X_X11_fillUnlike) (pc := 41) d_X11_fillUnlike_41 rfl 1 rfl ?_
      refine GW_iload (X := X_X11_fillUnlike) (pc := 42) d_X11_fillUnlike_42 4 rfl ?_
      replace h := g_bd h
      obtain ⟨v4, hv4, h⟩ := h
      refine GW_callS (X := X_X11_fillUnlike) (pc := 44) (bc0 := 0) (bs0 := 0) (r := some (vi v4)) (M2 := M) (T_X11_bit l1 l4 M v4 hv4) (Nat.le_of_ble_eq_true rfl) (Nat.le_of_ble_eq_true rfl) yc_X11_bit ⟨m_772, m_646, m_116, m_647⟩ d_X11_fillUnlike_44 rfl (st := []) rfl (Nat.le_of_ble_eq_true rfl) (Nat.le_of_ble_eq_true rfl) (Nat.le_of_ble_eq_true rfl) (st2 := [vi v4]) rfl ?_
      refine GW_iconst (X := X_X11_fillUnlike) (pc := 47) (v := 1) d_X11_fillUnlike_47 (by decide) ?_
      refine GW_icmp_ne (X := X_X11_fillUnlike) (pc := 48) 83 d_X11_fillUnlike_48 (by decide) (fun c => ?_) (fun c => ?_)
      · replace h := g_ie c h
        exact T_X11_fillUnlike_b83 k4 k20 r hk4 hk20 l0 l1 l2 l3 l4 M h
      · replace h := g_ip c h
        refine GW_iload_n (X := X_X11_fillUnlike) (pc := 51) d_X11_fillUnlike_51 rfl 2 rfl ?_
        refine GW_aload_n (X := X_X11_fillUnlike) (pc := 52) d_X11_fillUnlike_52 rfl 0 rfl ?_
        replace h := g_bd h
        obtain ⟨v5, hv5, h⟩ := h
        refine GW_getR (X := X_X11_fillUnlike) (pc := 53) f_X11_45 d_X11_fillUnlike_53 hv5 (Or.inr ⟨_, ty_11_9⟩) ?_
        replace h := g_bd h
        obtain ⟨v6, hv6, h⟩ := h
        refine GW_alen (X := X_X11_fillUnlike) (pc := 56) d_X11_fillUnlike_56 hv6 ?_
        refine GW_icmp_ge (X := X_X11_fillUnlike) (pc := 57) 83 d_X11_fillUnlike_57 (by decide) (fun c => ?_) (fun c => ?_)
        · replace h := g_ip c h
          exact T_X11_fillUnlike_b83 k4 k20 r hk4 hk20 l0 l1 l2 l3 l4 M h
        · replace h := g_ie c h
          refine GW_aload_n (X := X_X11_fillUnlike) (pc := 60) d_X11_fillUnlike_60 rfl 0 rfl ?_
          replace h := g_bd h
          obtain ⟨v7, hv7, h⟩ := h
          refine GW_getR (X := X_X11_fillUnlike) (pc := 61) f_X11_45 d_X11_fillUnlike_61 hv7 (Or.inr ⟨_, ty_11_9⟩) ?_
          refine GW_iload_n (X := X_X11_fillUnlike) (pc := 64) d_X11_fillUnlike_64 rfl 2 rfl ?_
          refine GW_aload_n (X := X_X11_fillUnlike) (pc := 65) d_X11_fillUnlike_65 rfl 0 rfl ?_
          replace h := g_bd h
          obtain ⟨v8, hv8, h⟩ := h
          refine GW_getR (X := X_X11_fillUnlike) (pc := 66) f_X11_25 d_X11_fillUnlike_66 hv8 (Or.inl ⟨_, ty_11_5⟩) ?_
          refine GW_aload_n (X := X_X11_fillUnlike) (pc := 69) d_X11_fillUnlike_69 rfl 0 rfl ?_
          replace h := g_bd h
          obtain ⟨v9, hv9, h⟩ := h
          refine GW_getR (X := X_X11_fillUnlike) (pc := 70) f_X11_59 d_X11_fillUnlike_70 hv9 (Or.inl ⟨_, ty_11_11⟩) ?_
          refine GW_iload_n (X := X_X11_fillUnlike) (pc := 73) d_X11_fillUnlike_73 rfl 3 rfl ?_
          refine GW_iload (X := X_X11_fillUnlike) (pc := 74) d_X11_fillUnlike_74 4 rfl ?_
          replace h := g_bd h
          obtain ⟨i10, hi10, h⟩ := h
          obtain ⟨rfl, ki10⟩ := g_gO hi10
          replace h := g_bd h
          obtain ⟨v11, hv11, h⟩ := h
          refine GW_callV (X := X_X11_fillUnlike) (pc := 76) (bc0 := 0) (bs0 := 0) (r := some (vi v11)) (M2 := M) (c0 := 8) (T_X8_knownUnlike (some i10) v9 l3 l4 M v11 hv11) (Nat.le_of_ble_eq_true rfl) (Nat.le_of_ble_eq_true rfl) rfl g_cok8 ki10 yc_X8_knownUnlike ⟨m_1032, m_1033, m_1034, m_119, m_1035⟩ d_X11_fillUnlike_76 rfl (st := [vi l2, vr v7]) rfl (Nat.le_of_ble_eq_true rfl) (Nat.le_of_ble_eq_true rfl) (Nat.le_of_ble_eq_true rfl) (st2 := [vi v11, vi l2, vr v7]) rfl ?_
          replace h := g_bd h
          obtain ⟨M12, hM12, h⟩ := h
          refine GW_iast (X := X_X11_fillUnlike) (pc := 79) d_X11_fillUnlike_79 hM12 ?_
          refine GW_iinc (j := 2) (X := X_X11_fillUnlike) (pc := 80) d_X11_fillUnlike_80 rfl (congrArg (fun z => _ + z) (by decide : Int32.ofInt 1 = (1 : Int32))) (Nat.le_of_ble_eq_true rfl) (lv2 := [(2, vi (l2 + 1)), (0, vr l0), (1, vi l1), (3, vi l3), (4, vi l4)]) rfl ?_
          refine GW_sub [1, 2, 0, 3, 4] rfl ?_
          exact T_X11_fillUnlike_b83 k4 k20 r hk4 hk20 l0 l1 (l2 + 1) l3 l4 M12 h
def F_X11_fillUnlike_L20 (k4 : Option Nat → Int32 → Int32 → Int32 → gM → Option (Int32 × gM)) : Nat → Option Nat → Int32 → Int32 → Int32 → Int32 → gM → Option (Int32 × gM)
  | 0 => fun _ _ _ _ _ _ => none
  | n + 1 => F_X11_fillUnlike_b20 k4 (F_X11_fillUnlike_L20 k4 n)
theorem T_X11_fillUnlike_L20 (k4 : Option Nat → Int32 → Int32 → Int32 → gM → Option (Int32 × gM)) (r : (Int32 × gM)) (hk4 : ∀ (l0 : Option Nat) (l1 : Int32) (l2 : Int32) (l3 : Int32) (M : gM), k4 l0 l1 l2 l3 M = some r → GW 1 0 0 X_X11_fillUnlike 4 [(0, vr l0), (1, vi l1), (2, vi l2), (3, vi l3)] [] M (some (vi r.1), r.2)) : ∀ (n : Nat) (l0 : Option Nat) (l1 : Int32) (l2 : Int32) (l3 : Int32) (l4 : Int32) (M : gM), F_X11_fillUnlike_L20 k4 n l0 l1 l2 l3 l4 M = some r → GW 1 0 0 X_X11_fillUnlike 20 [(0, vr l0), (1, vi l1), (2, vi l2), (3, vi l3), (4, vi l4)] [] M (some (vi r.1), r.2) := by
  intro n
  induction n with
  | zero => intro l0 l1 l2 l3 l4 M h; exact g_no h
  | succ n ih => intro l0 l1 l2 l3 l4 M h; exact T_X11_fillUnlike_b20 k4 (F_X11_fillUnlike_L20 k4 n) r hk4 ih l0 l1 l2 l3 l4 M h
def F_X11_fillUnlike_b4 (k4 : Option Nat → Int32 → Int32 → Int32 → gM → Option (Int32 × gM)) (l0 : Option Nat) (l1 : Int32) (l2 : Int32) (l3 : Int32) (M : gM) : Option (Int32 × gM) :=
  (gR 11 M l0 11).bind fun v1 => (gI 1 M v1 7).bind fun v2 => if v2 ≤ l3 then (some (l2, M)) else (F_X11_fillUnlike_L20 k4 g_fuel l0 l1 l2 l3 (l3 + (1 : Int32)) M)
theorem T_X11_fillUnlike_b4 (k4 : Option Nat → Int32 → Int32 → Int32 → gM → Option (Int32 × gM)) (r : (Int32 × gM)) (hk4 : ∀ (l0 : Option Nat) (l1 : Int32) (l2 : Int32) (l3 : Int32) (M : gM), k4 l0 l1 l2 l3 M = some r → GW 1 0 0 X_X11_fillUnlike 4 [(0, vr l0), (1, vi l1), (2, vi l2), (3, vi l3)] [] M (some (vi r.1), r.2)) (l0 : Option Nat) (l1 : Int32) (l2 : Int32) (l3 : Int32) (M : gM) (h : F_X11_fillUnlike_b4 k4 l0 l1 l2 l3 M = some r) : GW 1 0 0 X_X11_fillUnlike 4 [(0, vr l0), (1, vi l1), (2, vi l2), (3, vi l3)] [] M (some (vi r.1), r.2) := by
  delta F_X11_fillUnlike_b4 at h
  refine GW_iload_n (X := X_X11_fillUnlike) (pc := 4) d_X11_fillUnlike_4 rfl 3 rfl ?_
  refine GW_aload_n (X := X_X11_fillUnlike) (pc := 5) d_X11_fillUnlike_5 rfl 0 rfl ?_
  replace h := g_bd h
  obtain ⟨v1, hv1, h⟩ := h
  refine GW_getR (X := X_X11_fillUnlike) (pc := 6) f_X11_59 d_X11_fillUnlike_6 hv1 (Or.inl ⟨_, ty_11_11⟩) ?_
  replace h := g_bd h
  obtain ⟨v2, hv2, h⟩ := h
  refine GW_getI (X := X_X11_fillUnlike) (pc := 9) f_X11_121 d_X11_fillUnlike_9 hv2 (Or.inl ty_1_7) ?_
  refine GW_icmp_ge (X := X_X11_fillUnlike) (pc := 12) 95 d_X11_fillUnlike_12 (by decide) (fun c => ?_) (fun c => ?_)
  · replace h := g_ip c h
    refine GW_iload_n (X := X_X11_fillUnlike) (pc := 95) d_X11_fillUnlike_95 rfl 2 rfl ?_
    replace h := Option.some.inj h
    subst h
    exact GW_ret (X := X_X11_fillUnlike) (pc := 96) d_X11_fillUnlike_96 rfl trivial
  · replace h := g_ie c h
    refine GW_iload_n (X := X_X11_fillUnlike) (pc := 15) d_X11_fillUnlike_15 rfl 3 rfl ?_
    refine GW_iconst (X := X_X11_fillUnlike) (pc := 16) (v := 1) d_X11_fillUnlike_16 (by decide) ?_
    refine GW_iadd (X := X_X11_fillUnlike) (pc := 17) d_X11_fillUnlike_17 ?_
    refine GW_istore (X := X_X11_fillUnlike) (pc := 18) d_X11_fillUnlike_18 (Nat.le_of_ble_eq_true rfl) (lv2 := [(4, vi (l3 + (1 : Int32))), (0, vr l0), (1, vi l1), (2, vi l2), (3, vi l3)]) rfl ?_
    refine GW_sub [1, 2, 3, 4, 0] rfl ?_
    exact T_X11_fillUnlike_L20 k4 r hk4 g_fuel l0 l1 l2 l3 (l3 + (1 : Int32)) M h
def F_X11_fillUnlike_L4 : Nat → Option Nat → Int32 → Int32 → Int32 → gM → Option (Int32 × gM)
  | 0 => fun _ _ _ _ _ => none
  | n + 1 => F_X11_fillUnlike_b4 (F_X11_fillUnlike_L4 n)
theorem T_X11_fillUnlike_L4 (r : (Int32 × gM)) : ∀ (n : Nat) (l0 : Option Nat) (l1 : Int32) (l2 : Int32) (l3 : Int32) (M : gM), F_X11_fillUnlike_L4 n l0 l1 l2 l3 M = some r → GW 1 0 0 X_X11_fillUnlike 4 [(0, vr l0), (1, vi l1), (2, vi l2), (3, vi l3)] [] M (some (vi r.1), r.2) := by
  intro n
  induction n with
  | zero => intro l0 l1 l2 l3 M h; exact g_no h
  | succ n ih => intro l0 l1 l2 l3 M h; exact T_X11_fillUnlike_b4 (F_X11_fillUnlike_L4 n) r ih l0 l1 l2 l3 M h
def F_X11_fillUnlike_b0 (l0 : Option Nat) (l1 : Int32) (M : gM) : Option (Int32 × gM) :=
  F_X11_fillUnlike_L4 g_fuel l0 l1 (0 : Int32) (0 : Int32) M
theorem T_X11_fillUnlike_b0 (r : (Int32 × gM)) (l0 : Option Nat) (l1 : Int32) (M : gM) (h : F_X11_fillUnlike_b0 l0 l1 M = some r) : GW 1 0 0 X_X11_fillUnlike 0 [(0, vr l0), (1, vi l1)] [] M (some (vi r.1), r.2) := by
  delta F_X11_fillUnlike_b0 at h
  refine GW_iconst (X := X_X11_fillUnlike) (pc := 0) (v := 0) d_X11_fillUnlike_0 (by decide) ?_
  refine GW_istore_n (X := X_X11_fillUnlike) (pc := 1) d_X11_fillUnlike_1 rfl (Nat.le_of_ble_eq_true rfl) (lv2 := [(2, vi (0 : Int32)), (0, vr l0), (1, vi l1)]) rfl ?_
  refine GW_iconst (X := X_X11_fillUnlike) (pc := 2) (v := 0) d_X11_fillUnlike_2 (by decide) ?_
  refine GW_istore_n (X := X_X11_fillUnlike) (pc := 3) d_X11_fillUnlike_3 rfl (Nat.le_of_ble_eq_true rfl) (lv2 := [(3, vi (0 : Int32)), (2, vi (0 : Int32)), (0, vr l0), (1, vi l1)]) rfl ?_
  refine GW_sub [2, 3, 1, 0] rfl ?_
  exact T_X11_fillUnlike_L4 r g_fuel l0 l1 (0 : Int32) (0 : Int32) M h
def F_X11_fillUnlike (l0 : Option Nat) (l1 : Int32) (M : gM) : Option (Int32 × gM) := F_X11_fillUnlike_b0 l0 l1 M
theorem T_X11_fillUnlike (l0 : Option Nat) (l1 : Int32) (M : gM) (r : (Int32 × gM)) (h : F_X11_fillUnlike l0 l1 M = some r) : g_Met 1 0 0 yX11_fillUnlike X_X11_fillUnlike [vr l0, vi l1] M (some (vi r.1), r.2) :=
  g_Met_of pn_RX11 rfl (Nat.le_of_ble_eq_true rfl) (fun h => by cases h) (GW_sub [0, 1] rfl (T_X11_fillUnlike_b0 r l0 l1 M h))
/-! ForgetHeirs.partsAll(II)Z -/
theorem d_X11_partsAll_0 : decode cX11_partsAll 0 = .ok (.iconst 0, 1) := by decide +kernel
theorem d_X11_partsAll_1 : decode cX11_partsAll 1 = .ok (.istore_n 3, 1) := by decide +kernel
theorem d_X11_partsAll_2 : decode cX11_partsAll 2 = .ok (.iload_n 3, 1) := by decide +kernel
theorem d_X11_partsAll_3 : decode cX11_partsAll 3 = .ok (.iload_n 2, 1) := by decide +kernel
theorem d_X11_partsAll_4 : decode cX11_partsAll 4 = .ok (.if_icmp .ge 31, 3) := by decide +kernel
theorem d_X11_partsAll_7 : decode cX11_partsAll 7 = .ok (.iload_n 3, 1) := by decide +kernel
theorem d_X11_partsAll_8 : decode cX11_partsAll 8 = .ok (.aload_n 0, 1) := by decide +kernel
theorem d_X11_partsAll_9 : decode cX11_partsAll 9 = .ok (.getfield 45, 3) := by decide +kernel
theorem d_X11_partsAll_12 : decode cX11_partsAll 12 = .ok (.arraylength, 1) := by decide +kernel
theorem d_X11_partsAll_13 : decode cX11_partsAll 13 = .ok (.if_icmp .ge 22, 3) := by decide +kernel
theorem d_X11_partsAll_16 : decode cX11_partsAll 16 = .ok (.aload_n 0, 1) := by decide +kernel
theorem d_X11_partsAll_17 : decode cX11_partsAll 17 = .ok (.getfield 45, 3) := by decide +kernel
theorem d_X11_partsAll_20 : decode cX11_partsAll 20 = .ok (.iload_n 3, 1) := by decide +kernel
theorem d_X11_partsAll_21 : decode cX11_partsAll 21 = .ok (.iaload, 1) := by decide +kernel
theorem d_X11_partsAll_22 : decode cX11_partsAll 22 = .ok (.iload_n 1, 1) := by decide +kernel
theorem d_X11_partsAll_23 : decode cX11_partsAll 23 = .ok (.iand, 1) := by decide +kernel
theorem d_X11_partsAll_24 : decode cX11_partsAll 24 = .ok (.ifCond .ne 5, 3) := by decide +kernel
theorem d_X11_partsAll_27 : decode cX11_partsAll 27 = .ok (.iconst 0, 1) := by decide +kernel
theorem d_X11_partsAll_28 : decode cX11_partsAll 28 = .ok (.ireturn, 1) := by decide +kernel
theorem d_X11_partsAll_29 : decode cX11_partsAll 29 = .ok (.iinc 3 1, 3) := by decide +kernel
theorem d_X11_partsAll_32 : decode cX11_partsAll 32 = .ok (.goto (-30), 3) := by decide +kernel
theorem d_X11_partsAll_35 : decode cX11_partsAll 35 = .ok (.iconst 1, 1) := by decide +kernel
theorem d_X11_partsAll_36 : decode cX11_partsAll 36 = .ok (.ireturn, 1) := by decide +kernel
abbrev X_X11_partsAll : gX := (RX11, cX11_partsAll, 4, (some .boolean), false)
def F_X11_partsAll_b35 (M : gM) : Option Int32 :=
  some (1 : Int32)
theorem T_X11_partsAll_b35 (M : gM) (r : Int32) (h : F_X11_partsAll_b35 M = some r) : GW 0 0 0 X_X11_partsAll 35 [] [] M (some (vi r), M) := by
  delta F_X11_partsAll_b35 at h
  refine GW_iconst (X := X_X11_partsAll) (pc := 35) (v := 1) d_X11_partsAll_35 (by decide) ?_
  replace h := Option.some.inj h
  subst h
  exact GW_ret (X := X_X11_partsAll) (pc := 36) d_X11_partsAll_36 rfl g_rok1
def F_X11_partsAll_b2 (k2 : Option Nat → Int32 → Int32 → Int32 → Option Int32) (M : gM) (l0 : Option Nat) (l1 : Int32) (l2 : Int32) (l3 : Int32) : Option Int32 :=
  if l2 ≤ l3 then (F_X11_partsAll_b35 M ) else ((gR 11 M l0 9).bind fun v1 => (aN M v1).bind fun v2 => if v2 ≤ l3 then (F_X11_partsAll_b35 M ) else ((gR 11 M l0 9).bind fun v3 => (aI 20 M v3 l3).bind fun v4 => if (v4 &&& l1) = 0 then (some (0 : Int32)) else (k2 l0 l1 l2 (l3 + 1))))
set_option maxHeartbeats 1000000 in
theorem T_X11_partsAll_b2 (k2 : Option Nat → Int32 → Int32 → Int32 → Option Int32) (M : gM) (r : Int32) (hk2 : ∀ (l0 : Option Nat) (l1 : Int32) (l2 : Int32) (l3 : Int32), k2 l0 l1 l2 l3 = some r → GW 0 0 0 X_X11_partsAll 2 [(0, vr l0), (1, vi l1), (2, vi l2), (3, vi l3)] [] M (some (vi r), M)) (l0 : Option Nat) (l1 : Int32) (l2 : Int32) (l3 : Int32) (h : F_X11_partsAll_b2 k2 M l0 l1 l2 l3 = some r) : GW 0 0 0 X_X11_partsAll 2 [(0, vr l0), (1, vi l1), (2, vi l2), (3, vi l3)] [] M (some (vi r), M) := by
  delta F_X11_partsAll_b2 at h
  refine GW_iload_n (X := X_X11_partsAll) (pc := 2) d_X11_partsAll_2 rfl 3 rfl ?_
  refine GW_iload_n (X := X_X11_partsAll) (pc := 3) d_X11_partsAll_3 rfl 2 rfl ?_
  refine GW_icmp_ge (X := X_X11_partsAll) (pc := 4) 35 d_X11_partsAll_4 (by decide) (fun c => ?_) (fun c => ?_)
  · replace h := g_ip c h
    refine GW_sub [] rfl ?_
    exact T_X11_partsAll_b35 M r  h
  · replace h := g_ie c h
    refine GW_iload_n (X := X_X11_partsAll) (pc := 7) d_X11_partsAll_7 rfl 3 rfl ?_
    refine GW_aload_n (X := X_X11_partsAll) (pc := 8) d_X11_partsAll_8 rfl 0 rfl ?_
    replace h := g_bd h
    obtain ⟨v1, hv1, h⟩ := h
    refine GW_getR (X := X_X11_partsAll) (pc := 9) f_X11_45 d_X11_partsAll_9 hv1 (Or.inr ⟨_, ty_11_9⟩) ?_
    replace h := g_bd h
    obtain ⟨v2, hv2, h⟩ := h
    refine GW_alen (X := X_X11_partsAll) (pc := 12) d_X11_partsAll_12 hv2 ?_
    refine GW_icmp_ge (X := X_X11_partsAll) (pc := 13) 35 d_X11_partsAll_13 (by decide) (fun c => ?_) (fun c => ?_)
    · replace h := g_ip c h
      refine GW_sub [] rfl ?_
      exact T_X11_partsAll_b35 M r  h
    · replace h := g_ie c h
      refine GW_aload_n (X := X_X11_partsAll) (pc := 16) d_X11_partsAll_16 rfl 0 rfl ?_
      replace h := g_bd h
      obtain ⟨v3, hv3, h⟩ := h
      refine GW_getR (X := X_X11_partsAll) (pc := 17) f_X11_45 d_X11_partsAll_17 hv3 (Or.inr ⟨_, ty_11_9⟩) ?_
      refine GW_iload_n (X := X_X11_partsAll) (pc := 20) d_X11_partsAll_20 rfl 3 rfl ?_
      replace h := g_bd h
      obtain ⟨v4, hv4, h⟩ := h
      refine GW_iald (X := X_X11_partsAll) (pc := 21) d_X11_partsAll_21 hv4 ?_
      refine GW_iload_n (X := X_X11_partsAll) (pc := 22) d_X11_partsAll_22 rfl 1 rfl ?_
      refine GW_iand (X := X_X11_partsAll) (pc := 23) d_X11_partsAll_23 ?_
      refine GW_if_ne (X := X_X11_partsAll) (pc := 24) 29 d_X11_partsAll_24 (by decide) (fun c => ?_) (fun c => ?_)
      · replace h := g_ie c h
        refine GW_iinc (j := 3) (X := X_X11_partsAll) (pc := 29) d_X11_partsAll_29 rfl (congrArg (fun z => _ + z) (by decide : Int32.ofInt 1 = (1 : Int32))) (Nat.le_of_ble_eq_true rfl) (lv2 := [(3, vi (l3 + 1)), (0, vr l0), (1, vi l1), (2, vi l2)]) rfl ?_
        refine GW_goto (X := X_X11_partsAll) (pc := 32) 2 d_X11_partsAll_32 (by decide) ?_
        refine GW_sub [1, 2, 3, 0] rfl ?_
        exact hk2 l0 l1 l2 (l3 + 1) h
      · replace h := g_ip c h
        refine GW_iconst (X := X_X11_partsAll) (pc := 27) (v := 0) d_X11_partsAll_27 (by decide) ?_
        replace h := Option.some.inj h
        subst h
        exact GW_ret (X := X_X11_partsAll) (pc := 28) d_X11_partsAll_28 rfl g_rok0
def F_X11_partsAll_L2 (M : gM) : Nat → Option Nat → Int32 → Int32 → Int32 → Option Int32
  | 0 => fun _ _ _ _ => none
  | n + 1 => F_X11_partsAll_b2 (F_X11_partsAll_L2 M n) M
theorem T_X11_partsAll_L2 (M : gM) (r : Int32) : ∀ (n : Nat) (l0 : Option Nat) (l1 : Int32) (l2 : Int32) (l3 : Int32), F_X11_partsAll_L2 M n l0 l1 l2 l3 = some r → GW 0 0 0 X_X11_partsAll 2 [(0, vr l0), (1, vi l1), (2, vi l2), (3, vi l3)] [] M (some (vi r), M) := by
  intro n
  induction n with
  | zero => intro l0 l1 l2 l3 h; exact g_no h
  | succ n ih => intro l0 l1 l2 l3 h; exact T_X11_partsAll_b2 (F_X11_partsAll_L2 M n) M r ih l0 l1 l2 l3 h
def F_X11_partsAll_b0 (M : gM) (l0 : Option Nat) (l1 : Int32) (l2 : Int32) : Option Int32 :=
  F_X11_partsAll_L2 M g_fuel l0 l1 l2 (0 : Int32)
theorem T_X11_partsAll_b0 (M : gM) (r : Int32) (l0 : Option Nat) (l1 : Int32) (l2 : Int32) (h : F_X11_partsAll_b0 M l0 l1 l2 = some r) : GW 0 0 0 X_X11_partsAll 0 [(0, vr l0), (1, vi l1), (2, vi l2)] [] M (some (vi r), M) := by
  delta F_X11_partsAll_b0 at h
  refine GW_iconst (X := X_X11_partsAll) (pc := 0) (v := 0) d_X11_partsAll_0 (by decide) ?_
  refine GW_istore_n (X := X_X11_partsAll) (pc := 1) d_X11_partsAll_1 rfl (Nat.le_of_ble_eq_true rfl) (lv2 := [(3, vi (0 : Int32)), (0, vr l0), (1, vi l1), (2, vi l2)]) rfl ?_
  refine GW_sub [1, 2, 3, 0] rfl ?_
  exact T_X11_partsAll_L2 M r g_fuel l0 l1 l2 (0 : Int32) h
def F_X11_partsAll (l0 : Option Nat) (l1 : Int32) (l2 : Int32) (M : gM) : Option Int32 := F_X11_partsAll_b0 M l0 l1 l2
theorem T_X11_partsAll (l0 : Option Nat) (l1 : Int32) (l2 : Int32) (M : gM) (r : Int32) (h : F_X11_partsAll l0 l1 l2 M = some r) : g_Met 0 0 0 yX11_partsAll X_X11_partsAll [vr l0, vi l1, vi l2] M (some (vi r), M) :=
  g_Met_of pn_RX11 rfl (Nat.le_of_ble_eq_true rfl) (fun h => by cases h) (GW_sub [0, 1, 2] rfl (T_X11_partsAll_b0 M r l0 l1 l2 h))
/-! ForgetHeirs.parts(II)I -/
theorem d_X11_parts_0 : decode cX11_parts 0 = .ok (.iload_n 1, 1) := by decide +kernel
theorem d_X11_parts_1 : decode cX11_parts 1 = .ok (.ifCond .lt 25, 3) := by decide +kernel
theorem d_X11_parts_4 : decode cX11_parts 4 = .ok (.iload_n 1, 1) := by decide +kernel
theorem d_X11_parts_5 : decode cX11_parts 5 = .ok (.iconst 1, 1) := by decide +kernel
theorem d_X11_parts_6 : decode cX11_parts 6 = .ok (.aload_n 0, 1) := by decide +kernel
theorem d_X11_parts_7 : decode cX11_parts 7 = .ok (.getfield 59, 3) := by decide +kernel
theorem d_X11_parts_10 : decode cX11_parts 10 = .ok (.getfield 121, 3) := by decide +kernel
theorem d_X11_parts_13 : decode cX11_parts 13 = .ok (.ishl, 1) := by decide +kernel
theorem d_X11_parts_14 : decode cX11_parts 14 = .ok (.if_icmp .ge 12, 3) := by decide +kernel
theorem d_X11_parts_17 : decode cX11_parts 17 = .ok (.iload_n 2, 1) := by decide +kernel
theorem d_X11_parts_18 : decode cX11_parts 18 = .ok (.ifCond .lt 8, 3) := by decide +kernel
theorem d_X11_parts_21 : decode cX11_parts 21 = .ok (.iload_n 2, 1) := by decide +kernel
theorem d_X11_parts_22 : decode cX11_parts 22 = .ok (.iconst 1, 1) := by decide +kernel
theorem d_X11_parts_23 : decode cX11_parts 23 = .ok (.if_icmp .le 5, 3) := by decide +kernel
theorem d_X11_parts_26 : decode cX11_parts 26 = .ok (.iconst (-1), 1) := by decide +kernel
theorem d_X11_parts_27 : decode cX11_parts 27 = .ok (.ireturn, 1) := by decide +kernel
theorem d_X11_parts_28 : decode cX11_parts 28 = .ok (.aload_n 0, 1) := by decide +kernel
theorem d_X11_parts_29 : decode cX11_parts 29 = .ok (.iload_n 1, 1) := by decide +kernel
theorem d_X11_parts_30 : decode cX11_parts 30 = .ok (.invokevirtual 278, 3) := by decide +kernel
theorem d_X11_parts_33 : decode cX11_parts 33 = .ok (.istore_n 3, 1) := by decide +kernel
theorem d_X11_parts_34 : decode cX11_parts 34 = .ok (.iconst (-1), 1) := by decide +kernel
theorem d_X11_parts_35 : decode cX11_parts 35 = .ok (.istore 4, 2) := by decide +kernel
theorem d_X11_parts_37 : decode cX11_parts 37 = .ok (.iconst 0, 1) := by decide +kernel
theorem d_X11_parts_38 : decode cX11_parts 38 = .ok (.istore 5, 2) := by decide +kernel
theorem d_X11_parts_40 : decode cX11_parts 40 = .ok (.iload 5, 2) := by decide +kernel
theorem d_X11_parts_42 : decode cX11_parts 42 = .ok (.iconst 1, 1) := by decide +kernel
theorem d_X11_parts_43 : decode cX11_parts 43 = .ok (.aload_n 0, 1) := by decide +kernel
theorem d_X11_parts_44 : decode cX11_parts 44 = .ok (.getfield 59, 3) := by decide +kernel
theorem d_X11_parts_47 : decode cX11_parts 47 = .ok (.getfield 184, 3) := by decide +kernel
theorem d_X11_parts_50 : decode cX11_parts 50 = .ok (.ishl, 1) := by decide +kernel
theorem d_X11_parts_51 : decode cX11_parts 51 = .ok (.if_icmp .ge 54, 3) := by decide +kernel
theorem d_X11_parts_54 : decode cX11_parts 54 = .ok (.iload 4, 2) := by decide +kernel
theorem d_X11_parts_56 : decode cX11_parts 56 = .ok (.iconst (-1), 1) := by decide +kernel
theorem d_X11_parts_57 : decode cX11_parts 57 = .ok (.if_icmp .eq 16, 3) := by decide +kernel
theorem d_X11_parts_60 : decode cX11_parts 60 = .ok (.iload 5, 2) := by decide +kernel
theorem d_X11_parts_62 : decode cX11_parts 62 = .ok (.invokestatic 281, 3) := by decide +kernel
theorem d_X11_parts_65 : decode cX11_parts 65 = .ok (.iload 4, 2) := by decide +kernel
theorem d_X11_parts_67 : decode cX11_parts 67 = .ok (.invokestatic 281, 3) := by decide +kernel
theorem d_X11_parts_70 : decode cX11_parts 70 = .ok (.if_icmp .ge 7, 3) := by decide +kernel
theorem d_X11_parts_73 : decode cX11_parts 73 = .ok (.iconst 1, 1) := by decide +kernel
theorem d_X11_parts_74 : decode cX11_parts 74 = .ok (.goto 4, 3) := by decide +kernel
theorem d_X11_parts_77 : decode cX11_parts 77 = .ok (.iconst 0, 1) := by decide +kernel
theorem d_X11_parts_78 : decode cX11_parts 78 = .ok (.istore 6, 2) := by decide +kernel
theorem d_X11_parts_80 : decode cX11_parts 80 = .ok (.iload 6, 2) := by decide +kernel
theorem d_X11_parts_82 : decode cX11_parts 82 = .ok (.ifCond .eq 17, 3) := by decide +kernel
theorem d_X11_parts_85 : decode cX11_parts 85 = .ok (.aload_n 0, 1) := by decide +kernel
theorem d_X11_parts_86 : decode cX11_parts 86 = .ok (.iload 5, 2) := by decide +kernel
theorem d_X11_parts_88 : decode cX11_parts 88 = .ok (.iload_n 3, 1) := by decide +kernel
theorem d_X11_parts_89 : decode cX11_parts 89 = .ok (.invokevirtual 286, 3) := by decide +kernel
theorem d_X11_parts_92 : decode cX11_parts 92 = .ok (.ifCond .eq 7, 3) := by decide +kernel
theorem d_X11_parts_95 : decode cX11_parts 95 = .ok (.iload 5, 2) := by decide +kernel
theorem d_X11_parts_97 : decode cX11_parts 97 = .ok (.istore 4, 2) := by decide +kernel
theorem d_X11_parts_99 : decode cX11_parts 99 = .ok (.iinc 5 1, 3) := by decide +kernel
theorem d_X11_parts_102 : decode cX11_parts 102 = .ok (.goto (-62), 3) := by decide +kernel
theorem d_X11_parts_105 : decode cX11_parts 105 = .ok (.iload 4, 2) := by decide +kernel
theorem d_X11_parts_107 : decode cX11_parts 107 = .ok (.iconst (-1), 1) := by decide +kernel
theorem d_X11_parts_108 : decode cX11_parts 108 = .ok (.if_icmp .ne 6, 3) := by decide +kernel
theorem d_X11_parts_111 : decode cX11_parts 111 = .ok (.bipush (-2), 2) := by decide +kernel
theorem d_X11_parts_113 : decode cX11_parts 113 = .ok (.ireturn, 1) := by decide +kernel
theorem d_X11_parts_114 : decode cX11_parts 114 = .ok (.iload_n 2, 1) := by decide +kernel
theorem d_X11_parts_115 : decode cX11_parts 115 = .ok (.ifCond .ne 11, 3) := by decide +kernel
theorem d_X11_parts_118 : decode cX11_parts 118 = .ok (.iload 4, 2) := by decide +kernel
theorem d_X11_parts_120 : decode cX11_parts 120 = .ok (.invokestatic 281, 3) := by decide +kernel
theorem d_X11_parts_123 : decode cX11_parts 123 = .ok (.goto 5, 3) := by decide +kernel
theorem d_X11_parts_126 : decode cX11_parts 126 = .ok (.iload 4, 2) := by decide +kernel
theorem d_X11_parts_128 : decode cX11_parts 128 = .ok (.ireturn, 1) := by decide +kernel
abbrev X_X11_parts : gX := (RX11, cX11_parts, 7, (some .int), false)
def F_X11_parts_b26 (M : gM) : Option (Int32 × gM) :=
  some ((-1 : Int32), M)
theorem T_X11_parts_b26 (r : (Int32 × gM)) (M : gM) (h : F_X11_parts_b26 M = some r) : GW 2 0 0 X_X11_parts 26 [] [] M (some (vi r.1), r.2) := by
  delta F_X11_parts_b26 at h
  refine GW_iconst (X := X_X11_parts) (pc := 26) (v := -1) d_X11_parts_26 (by decide) ?_
  replace h := Option.some.inj h
  subst h
  exact GW_ret (X := X_X11_parts) (pc := 27) d_X11_parts_27 rfl trivial
def F_X11_parts_b99 (k40 : Option Nat → Int32 → Int32 → Int32 → Int32 → gM → Option (Int32 × gM)) (l0 : Option Nat) (l2 : Int32) (l3 : Int32) (l4 : Int32) (l5 : Int32) (M : gM) : Option (Int32 × gM) :=
  k40 l0 l2 l3 l4 (l5 + 1) M
theorem T_X11_parts_b99 (k40 : Option Nat → Int32 → Int32 → Int32 → Int32 → gM → Option (Int32 × gM)) (r : (Int32 × gM)) (hk40 : ∀ (l0 : Option Nat) (l2 : Int32) (l3 : Int32) (l4 : Int32) (l5 : Int32) (M : gM), k40 l0 l2 l3 l4 l5 M = some r → GW 2 0 0 X_X11_parts 40 [(0, vr l0), (2, vi l2), (3, vi l3), (4, vi l4), (5, vi l5)] [] M (some (vi r.1), r.2)) (l0 : Option Nat) (l2 : Int32) (l3 : Int32) (l4 : Int32) (l5 : Int32) (M : gM) (h : F_X11_parts_b99 k40 l0 l2 l3 l4 l5 M = some r) : GW 2 0 0 X_X11_parts 99 [(0, vr l0), (2, vi l2), (3, vi l3), (4, vi l4), (5, vi l5)] [] M (some (vi r.1), r.2) := by
  delta F_X11_parts_b99 at h
  refine GW_iinc (j := 4) (X := X_X11_parts) (pc := 99) d_X11_parts_99 rfl (congrArg (fun z => _ + z) (by decide : Int32.ofInt 1 = (1 : Int32))) (Nat.le_of_ble_eq_true rfl) (lv2 := [(5, vi (l5 + 1)), (0, vr l0), (2, vi l2), (3, vi l3), (4, vi l4)]) rfl ?_
  refine GW_goto (X := X_X11_parts) (pc := 102) 40 d_X11_parts_102 (by decide) ?_
  refine GW_sub [1, 2, 3, 4, 0] rfl ?_
  exact hk40 l0 l2 l3 l4 (l5 + 1) M h
def F_X11_parts_b78 (k40 : Option Nat → Int32 → Int32 → Int32 → Int32 → gM → Option (Int32 × gM)) (l0 : Option Nat) (l2 : Int32) (l3 : Int32) (l4 : Int32) (l5 : Int32) (s0 : Int32) (M : gM) : Option (Int32 × gM) :=
  if s0 = 0 then (F_X11_parts_b99 k40 l0 l2 l3 l4 l5 M) else ((gO 11 M l0).bind fun i1 => (F_X11_partsAll (some i1) l5 l3 M).bind fun v2 => if v2 = 0 then (F_X11_parts_b99 k40 (some i1) l2 l3 l4 l5 M) else (F_X11_parts_b99 k40 (some i1) l2 l3 l5 l5 M))
theorem T_X11_parts_b78 (k40 : Option Nat → Int32 → Int32 → Int32 → Int32 → gM → Option (Int32 × gM)) (r : (Int32 × gM)) (hk40 : ∀ (l0 : Option Nat) (l2 : Int32) (l3 : Int32) (l4 : Int32) (l5 : Int32) (M : gM), k40 l0 l2 l3 l4 l5 M = some r → GW 2 0 0 X_X11_parts 40 [(0, vr l0), (2, vi l2), (3, vi l3), (4, vi l4), (5, vi l5)] [] M (some (vi r.1), r.2)) (l0 : Option Nat) (l2 : Int32) (l3 : Int32) (l4 : Int32) (l5 : Int32) (s0 : Int32) (M : gM) (h : F_X11_parts_b78 k40 l0 l2 l3 l4 l5 s0 M = some r) : GW 2 0 0 X_X11_parts 78 [(0, vr l0), (2, vi l2), (3, vi l3), (4, vi l4), (5, vi l5)] [vi s0] M (some (vi r.1), r.2) := by
  delta F_X11_parts_b78 at h
  refine GW_istore (X := X_X11_parts) (pc := 78) d_X11_parts_78 (Nat.le_of_ble_eq_true rfl) (lv2 := [(6, vi s0), (0, vr l0), (2, vi l2), (3, vi l3), (4, vi l4), (5, vi l5)]) rfl ?_
  refine GW_iload (X := X_X11_parts) (pc := 80) d_X11_parts_80 0 rfl ?_
  refine GW_if_eq (X := X_X11_parts) (pc := 82) 99 d_X11_parts_82 (by decide) (fun c => ?_) (fun c => ?_)
  · replace h := g_ip c h
    refine GW_sub [1, 2, 3, 4, 5] rfl ?_
    exact T_X11_parts_b99 k40 r hk40 l0 l2 l3 l4 l5 M h
  · replace h := g_ie c h
    refine GW_aload_n (X := X_X11_parts) (pc := 85) d_X11_parts_85 rfl 1 rfl ?_
    refine GW_iload (X := X_X11_parts) (pc := 86) d_X11_parts_86 5 rfl ?_
    refine GW_iload_n (X := X_X11_parts) (pc := 88) d_X11_parts_88 rfl 3 rfl ?_
    replace h := g_bd h
    obtain ⟨i1, hi1, h⟩ := h
    obtain ⟨rfl, ki1⟩ := g_gO hi1
    replace h := g_bd h
    obtain ⟨v2, hv2, h⟩ := h
    refine GW_callV (X := X_X11_parts) (pc := 89) (bc0 := 0) (bs0 := 0) (r := some (vi v2)) (M2 := M) (c0 := 11) (T_X11_partsAll (some i1) l5 l3 M v2 hv2) (Nat.le_of_ble_eq_true rfl) (Nat.le_of_ble_eq_true rfl) rfl g_cok11 ki1 yc_X11_partsAll ⟨m_1037, m_1039, m_36, m_116, m_1040⟩ d_X11_parts_89 rfl (st := []) rfl (Nat.le_of_ble_eq_true rfl) (Nat.le_of_ble_eq_true rfl) (Nat.le_of_ble_eq_true rfl) (st2 := [vi v2]) rfl ?_
    refine GW_if_eq (X := X_X11_parts) (pc := 92) 99 d_X11_parts_92 (by decide) (fun c => ?_) (fun c => ?_)
    · replace h := g_ip c h
      refine GW_sub [1, 2, 3, 4, 5] rfl ?_
      exact T_X11_parts_b99 k40 r hk40 (some i1) l2 l3 l4 l5 M h
    · replace h := g_ie c h
      refine GW_iload (X := X_X11_parts) (pc := 95) d_X11_parts_95 5 rfl ?_
      refine GW_istore (X := X_X11_parts) (pc := 97) d_X11_parts_97 (Nat.le_of_ble_eq_true rfl) (lv2 := [(4, vi l5), (6, vi s0), (0, vr (some i1)), (2, vi l2), (3, vi l3), (5, vi l5)]) rfl ?_
      refine GW_sub [2, 3, 4, 0, 5] rfl ?_
      exact T_X11_parts_b99 k40 r hk40 (some i1) l2 l3 l5 l5 M h
def F_X11_parts_b73 (k40 : Option Nat → Int32 → Int32 → Int32 → Int32 → gM → Option (Int32 × gM)) (l0 : Option Nat) (l2 : Int32) (l3 : Int32) (l4 : Int32) (l5 : Int32) (M : gM) : Option (Int32 × gM) :=
  F_X11_parts_b78 k40 l0 l2 l3 l4 l5 (1 : Int32) M
theorem T_X11_parts_b73 (k40 : Option Nat → Int32 → Int32 → Int32 → Int32 → gM → Option (Int32 × gM)) (r : (Int32 × gM)) (hk40 : ∀ (l0 : Option Nat) (l2 : Int32) (l3 : Int32) (l4 : Int32) (l5 : Int32) (M : gM), k40 l0 l2 l3 l4 l5 M = some r → GW 2 0 0 X_X11_parts 40 [(0, vr l0), (2, vi l2), (3, vi l3), (4, vi l4), (5, vi l5)] [] M (some (vi r.1), r.2)) (l0 : Option Nat) (l2 : Int32) (l3 : Int32) (l4 : Int32) (l5 : Int32) (M : gM) (h : F_X11_parts_b73 k40 l0 l2 l3 l4 l5 M = some r) : GW 2 0 0 X_X11_parts 73 [(0, vr l0), (2, vi l2), (3, vi l3), (4, vi l4), (5, vi l5)] [] M (some (vi r.1), r.2) := by
  delta F_X11_parts_b73 at h
  refine GW_iconst (X := X_X11_parts) (pc := 73) (v := 1) d_X11_parts_73 (by decide) ?_
  refine GW_goto (X := X_X11_parts) (pc := 74) 78 d_X11_parts_74 (by decide) ?_
  exact T_X11_parts_b78 k40 r hk40 l0 l2 l3 l4 l5 (1 : Int32) M h
def F_X11_parts_b40 (k40 : Option Nat → Int32 → Int32 → Int32 → Int32 → gM → Option (Int32 × gM)) (l0 : Option Nat) (l2 : Int32) (l3 : Int32) (l4 : Int32) (l5 : Int32) (M : gM) : Option (Int32 × gM) :=
  (gR 11 M l0 11).bind fun v1 => (gI 1 M v1 6).bind fun v2 => if ((1 : Int32) <<< (v2 &&& 31)) ≤ l5 then (if l4 = (-1 : Int32) then (some ((-2 : Int32), M)) else (if l2 = 0 then ((F_J6_bitCount_0f7a4 l4 M).bind fun v3 => some (v3, M)) else (some (l4, M)))) else (if l4 = (-1 : Int32) then (F_X11_parts_b73 k40 l0 l2 l3 l4 l5 M) else ((F_J6_bitCount_0f7a4 l5 M).bind fun v4 => (F_J6_bitCount_0f7a4 l4 M).bind fun v5 => if v5 ≤ v4 then (F_X11_parts_b78 k40 l0 l2 l3 l4 l5 (0 : Int32) M) else (F_X11_parts_b73 k40 l0 l2 l3 l4 l5 M)))
set_option maxHeartbeats 1000000 in
theorem T_X11_parts_b40 (k40 : Option Nat → Int32 → Int32 → Int32 → Int32 → gM → Option (Int32 × gM)) (r : (Int32 × gM)) (hk40 : ∀ (l0 : Option Nat) (l2 : Int32) (l3 : Int32) (l4 : Int32) (l5 : Int32) (M : gM), k40 l0 l2 l3 l4 l5 M = some r → GW 2 0 0 X_X11_parts 40 [(0, vr l0), (2, vi l2), (3, vi l3), (4, vi l4), (5, vi l5)] [] M (some (vi r.1), r.2)) (l0 : Option Nat) (l2 : Int32) (l3 : Int32) (l4 : Int32) (l5 : Int32) (M : gM) (h : F_X11_parts_b40 k40 l0 l2 l3 l4 l5 M = some r) : GW 2 0 0 X_X11_parts 40 [(0, vr l0), (2, vi l2), (3, vi l3), (4, vi l4), (5, vi l5)] [] M (some (vi r.1), r.2) := by
  delta F_X11_parts_b40 at h
  refine GW_iload (X := X_X11_parts) (pc := 40) d_X11_parts_40 4 rfl ?_
  refine GW_iconst (X := X_X11_parts) (pc := 42) (v := 1) d_X11_parts_42 (by decide) ?_
  refine GW_aload_n (X := X_X11_parts) (pc := 43) d_X11_parts_43 rfl 0 rfl ?_
  replace h := g_bd h
  obtain ⟨v1, hv1, h⟩ := h
  refine GW_getR (X := X_X11_parts) (pc := 44) f_X11_59 d_X11_parts_44 hv1 (Or.inl ⟨_, ty_11_11⟩) ?_
  replace h := g_bd h
  obtain ⟨v2, hv2, h⟩ := h
  refine GW_getI (X := X_X11_parts) (pc := 47) f_X11_184 d_X11_parts_47 hv2 (Or.inl ty_1_6) ?_
  refine GW_ishl (X := X_X11_parts) (pc := 50) d_X11_parts_50 ?_
  refine GW_icmp_ge (X := X_X11_parts) (pc := 51) 105 d_X11_parts_51 (by decide) (fun c => ?_) (fun c => ?_)
  · replace h := g_ip c h
    refine GW_iload (X := X_X11_parts) (pc := 105) d_X11_parts_105 3 rfl ?_
    refine GW_iconst (X := X_X11_parts) (pc := 107) (v := -1) d_X11_parts_107 (by decide) ?_
    refine GW_icmp_ne (X := X_X11_parts) (pc := 108) 114 d_X11_parts_108 (by decide) (fun c => ?_) (fun c => ?_)
    · replace h := g_ie c h
      refine GW_iload_n (X := X_X11_parts) (pc := 114) d_X11_parts_114 rfl 1 rfl ?_
      refine GW_if_ne (X := X_X11_parts) (pc := 115) 126 d_X11_parts_115 (by decide) (fun c => ?_) (fun c => ?_)
      · replace h := g_ie c h
        refine GW_iload (X := X_X11_parts) (pc := 126) d_X11_parts_126 3 rfl ?_
        replace h := Option.some.inj h
        subst h
        exact GW_ret (X := X_X11_parts) (pc := 128) d_X11_parts_128 rfl trivial
      · replace h := g_ip c h
        refine GW_iload (X := X_X11_parts) (pc := 118) d_X11_parts_118 3 rfl ?_
        replace h := g_bd h
        obtain ⟨v3, hv3, h⟩ := h
        refine GW_callS (X := X_X11_parts) (pc := 120) (bc0 := 0) (bs0 := 0) (r := some (vi v3)) (M2 := M) (T_J6_bitCount_0f7a4 l4 M v3 hv3) (Nat.le_of_ble_eq_true rfl) (Nat.le_of_ble_eq_true rfl) yc_J6_bitCount_0f7a4 ⟨m_1036, m_816, m_136, m_817⟩ d_X11_parts_120 rfl (st := []) rfl (Nat.le_of_ble_eq_true rfl) (Nat.le_of_ble_eq_true rfl) (Nat.le_of_ble_eq_true rfl) (st2 := [vi v3]) rfl ?_
        refine GW_goto (X := X_X11_parts) (pc := 123) 128 d_X11_parts_123 (by decide) ?_
        replace h := Option.some.inj h
        subst h
        exact GW_ret (X := X_X11_parts) (pc := 128) d_X11_parts_128 rfl trivial
    · replace h := g_ip c h
      refine GW_bipush (X := X_X11_parts) (pc := 111) (v := -2) d_X11_parts_111 (by decide) ?_
      replace h := Option.some.inj h
      subst h
      exact GW_ret (X := X_X11_parts) (pc := 113) d_X11_parts_113 rfl trivial
  · replace h := g_ie c h
    refine GW_iload (X := X_X11_parts) (pc := 54) d_X11_parts_54 3 rfl ?_
    refine GW_iconst (X := X_X11_parts) (pc := 56) (v := -1) d_X11_parts_56 (by decide) ?_
    refine GW_icmp_eq (X := X_X11_parts) (pc := 57) 73 d_X11_parts_57 (by decide) (fun c => ?_) (fun c => ?_)
    · replace h := g_ip c h
      exact T_X11_parts_b73 k40 r hk40 l0 l2 l3 l4 l5 M h
    · replace h := g_ie c h
      refine GW_iload (X := X_X11_parts) (pc := 60) d_X11_parts_60 4 rfl ?_
      replace h := g_bd h
      obtain ⟨v4, hv4, h⟩ := h
      refine GW_callS (X := X_X11_parts) (pc := 62) (bc0 := 0) (bs0 := 0) (r := some (vi v4)) (M2 := M) (T_J6_bitCount_0f7a4 l5 M v4 hv4) (Nat.le_of_ble_eq_true rfl) (Nat.le_of_ble_eq_true rfl) yc_J6_bitCount_0f7a4 ⟨m_1036, m_816, m_136, m_817⟩ d_X11_parts_62 rfl (st := []) rfl (Nat.le_of_ble_eq_true rfl) (Nat.le_of_ble_eq_true rfl) (Nat.le_of_ble_eq_true rfl) (st2 := [vi v4]) rfl ?_
      refine GW_iload (X := X_X11_parts) (pc := 65) d_X11_parts_65 3 rfl ?_
      replace h := g_bd h
      obtain ⟨v5, hv5, h⟩ := h
      refine GW_callS (X := X_X11_parts) (pc := 67) (bc0 := 0) (bs0 := 0) (r := some (vi v5)) (M2 := M) (T_J6_bitCount_0f7a4 l4 M v5 hv5) (Nat.le_of_ble_eq_true rfl) (Nat.le_of_ble_eq_true rfl) yc_J6_bitCount_0f7a4 ⟨m_1036, m_816, m_136, m_817⟩ d_X11_parts_67 rfl (st := [vi v4]) rfl (Nat.le_of_ble_eq_true rfl) (Nat.le_of_ble_eq_true rfl) (Nat.le_of_ble_eq_true rfl) (st2 := [vi v5, vi v4]) rfl ?_
      refine GW_icmp_ge (X := X_X11_parts) (pc := 70) 77 d_X11_parts_70 (by decide) (fun c => ?_) (fun c => ?_)
      · replace h := g_ip c h
        refine GW_iconst (X := X_X11_parts) (pc := 77) (v := 0) d_X11_parts_77 (by decide) ?_
        exact T_X11_parts_b78 k40 r hk40 l0 l2 l3 l4 l5 (0 : Int32) M h
      · replace h := g_ie c h
        exact T_X11_parts_b73 k40 r hk40 l0 l2 l3 l4 l5 M h
def F_X11_parts_L40 : Nat → Option Nat → Int32 → Int32 → Int32 → Int32 → gM → Option (Int32 × gM)
  | 0 => fun _ _ _ _ _ _ => none
  | n + 1 => F_X11_parts_b40 (F_X11_parts_L40 n)
theorem T_X11_parts_L40 (r : (Int32 × gM)) : ∀ (n : Nat) (l0 : Option Nat) (l2 : Int32) (l3 : Int32) (l4 : Int32) (l5 : Int32) (M : gM), F_X11_parts_L40 n l0 l2 l3 l4 l5 M = some r → GW 2 0 0 X_X11_parts 40 [(0, vr l0), (2, vi l2), (3, vi l3), (4, vi l4), (5, vi l5)] [] M (some (vi r.1), r.2) := by
  intro n
  induction n with
  | zero => intro l0 l2 l3 l4 l5 M h; exact g_no h
  | succ n ih => intro l0 l2 l3 l4 l5 M h; exact T_X11_parts_b40 (F_X11_parts_L40 n) r ih l0 l2 l3 l4 l5 M h
def F_X11_parts_b0 (l0 : Option Nat) (l1 : Int32) (l2 : Int32) (M : gM) : Option (Int32 × gM) :=
  if l1 < 0 then (F_X11_parts_b26 M) else ((gR 11 M l0 11).bind fun v1 => (gI 1 M v1 7).bind fun v2 => if ((1 : Int32) <<< (v2 &&& 31)) ≤ l1 then (F_X11_parts_b26 M) else (if l2 < 0 then (F_X11_parts_b26 M) else (if l2 ≤ (1 : Int32) then ((gO 11 M l0).bind fun i3 => (F_X11_fillUnlike (some i3) l1 M).bind fun (v4, M5) => F_X11_parts_L40 g_fuel (some i3) l2 v4 (-1 : Int32) (0 : Int32) M5) else (F_X11_parts_b26 M))))
set_option maxHeartbeats 1000000 in
theorem T_X11_parts_b0 (r : (Int32 × gM)) (l0 : Option Nat) (l1 : Int32) (l2 : Int32) (M : gM) (h : F_X11_parts_b0 l0 l1 l2 M = some r) : GW 2 0 0 X_X11_parts 0 [(0, vr l0), (1, vi l1), (2, vi l2)] [] M (some (vi r.1), r.2) := by
  delta F_X11_parts_b0 at h
  refine GW_iload_n (X := X_X11_parts) (pc := 0) d_X11_parts_0 rfl 1 rfl ?_
  refine GW_if_lt (X := X_X11_parts) (pc := 1) 26 d_X11_parts_1 (by decide) (fun c => ?_) (fun c => ?_)
  · replace h := g_ip c h
    refine GW_sub [] rfl ?_
    exact T_X11_parts_b26 r M h
  · replace h := g_ie c h
    refine GW_iload_n (X := X_X11_parts) (pc := 4) d_X11_parts_4 rfl 1 rfl ?_
    refine GW_iconst (X := X_X11_parts) (pc := 5) (v := 1) d_X11_parts_5 (by decide) ?_
    refine GW_aload_n (X := X_X11_parts) (pc := 6) d_X11_parts_6 rfl 0 rfl ?_
    replace h := g_bd h
    obtain ⟨v1, hv1, h⟩ := h
    refine GW_getR (X := X_X11_parts) (pc := 7) f_X11_59 d_X11_parts_7 hv1 (Or.inl ⟨_, ty_11_11⟩) ?_
    replace h := g_bd h
    obtain ⟨v2, hv2, h⟩ := h
    refine GW_getI (X := X_X11_parts) (pc := 10) f_X11_121 d_X11_parts_10 hv2 (Or.inl ty_1_7) ?_
    refine GW_ishl (X := X_X11_parts) (pc := 13) d_X11_parts_13 ?_
    refine GW_icmp_ge (X := X_X11_parts) (pc := 14) 26 d_X11_parts_14 (by decide) (fun c => ?_) (fun c => ?_)
    · replace h := g_ip c h
      refine GW_sub [] rfl ?_
      exact T_X11_parts_b26 r M h
    · replace h := g_ie c h
      refine GW_iload_n (X := X_X11_parts) (pc := 17) d_X11_parts_17 rfl 2 rfl ?_
      refine GW_if_lt (X := X_X11_parts) (pc := 18) 26 d_X11_parts_18 (by decide) (fun c => ?_) (fun c => ?_)
      · replace h := g_ip c h
        refine GW_sub [] rfl ?_
        exact T_X11_parts_b26 r M h
      · replace h := g_ie c h
        refine GW_iload_n (X := X_X11_parts) (pc := 21) d_X11_parts_21 rfl 2 rfl ?_
        refine GW_iconst (X := X_X11_parts) (pc := 22) (v := 1) d_X11_parts_22 (by decide) ?_
        refine GW_icmp_le (X := X_X11_parts) (pc := 23) 28 d_X11_parts_23 (by decide) (fun c => ?_) (fun c => ?_)
        · replace h := g_ip c h
          refine GW_aload_n (X := X_X11_parts) (pc := 28) d_X11_parts_28 rfl 0 rfl ?_
          refine GW_iload_n (X := X_X11_parts) (pc := 29) d_X11_parts_29 rfl 1 rfl ?_
          replace h := g_bd h
          obtain ⟨i3, hi3, h⟩ := h
          obtain ⟨rfl, ki3⟩ := g_gO hi3
          replace h := g_bd h
          obtain ⟨⟨v4, M5⟩, hv4, h⟩ := h
          dsimp only at h
          refine GW_callV (X := X_X11_parts) (pc := 30) (bc0 := 0) (bs0 := 0) (r := some (vi v4)) (M2 := M5) (c0 := 11) (T_X11_fillUnlike (some i3) l1 M (v4, M5) hv4) (Nat.le_of_ble_eq_true rfl) (Nat.le_of_ble_eq_true rfl) rfl g_cok11 ki3 yc_X11_fillUnlike ⟨m_1028, m_1030, m_35, m_116, m_1031⟩ d_X11_parts_30 rfl (st := []) rfl (Nat.le_of_ble_eq_true rfl) (Nat.le_of_ble_eq_true rfl) (Nat.le_of_ble_eq_true rfl) (st2 := [vi v4]) rfl ?_
          refine GW_istore_n (X := X_X11_parts) (pc := 33) d_X11_parts_33 rfl (Nat.le_of_ble_eq_true rfl) (lv2 := [(3, vi v4), (0, vr (some i3)), (1, vi l1), (2, vi l2)]) rfl ?_
          refine GW_iconst (X := X_X11_parts) (pc := 34) (v := -1) d_X11_parts_34 (by decide) ?_
          refine GW_istore (X := X_X11_parts) (pc := 35) d_X11_parts_35 (Nat.le_of_ble_eq_true rfl) (lv2 := [(4, vi (-1 : Int32)), (3, vi v4), (0, vr (some i3)), (1, vi l1), (2, vi l2)]) rfl ?_
          refine GW_iconst (X := X_X11_parts) (pc := 37) (v := 0) d_X11_parts_37 (by decide) ?_
          refine GW_istore (X := X_X11_parts) (pc := 38) d_X11_parts_38 (Nat.le_of_ble_eq_true rfl) (lv2 := [(5, vi (0 : Int32)), (4, vi (-1 : Int32)), (3, vi v4), (0, vr (some i3)), (1, vi l1), (2, vi l2)]) rfl ?_
          refine GW_sub [3, 5, 2, 1, 0] rfl ?_
          exact T_X11_parts_L40 r g_fuel (some i3) l2 v4 (-1 : Int32) (0 : Int32) M5 h
        · replace h := g_ie c h
          refine GW_sub [] rfl ?_
          exact T_X11_parts_b26 r M h
def F_X11_parts (l0 : Option Nat) (l1 : Int32) (l2 : Int32) (M : gM) : Option (Int32 × gM) := F_X11_parts_b0 l0 l1 l2 M
theorem T_X11_parts (l0 : Option Nat) (l1 : Int32) (l2 : Int32) (M : gM) (r : (Int32 × gM)) (h : F_X11_parts l0 l1 l2 M = some r) : g_Met 2 0 0 yX11_parts X_X11_parts [vr l0, vi l1, vi l2] M (some (vi r.1), r.2) :=
  g_Met_of pn_RX11 rfl (Nat.le_of_ble_eq_true rfl) (fun h => by cases h) (GW_sub [0, 1, 2] rfl (T_X11_parts_b0 r l0 l1 l2 M h))
/-! ForgetHeirsModel.areParted(II)Z -/
theorem d_X12_areParted_0 : decode cX12_areParted 0 = .ok (.iconst 0, 1) := by decide +kernel
theorem d_X12_areParted_1 : decode cX12_areParted 1 = .ok (.istore_n 3, 1) := by decide +kernel
theorem d_X12_areParted_2 : decode cX12_areParted 2 = .ok (.iload_n 3, 1) := by decide +kernel
theorem d_X12_areParted_3 : decode cX12_areParted 3 = .ok (.aload_n 0, 1) := by decide +kernel
theorem d_X12_areParted_4 : decode cX12_areParted 4 = .ok (.getfield 39, 3) := by decide +kernel
theorem d_X12_areParted_7 : decode cX12_areParted 7 = .ok (.iconst 2, 1) := by decide +kernel
theorem d_X12_areParted_8 : decode cX12_areParted 8 = .ok (.iaload, 1) := by decide +kernel
theorem d_X12_areParted_9 : decode cX12_areParted 9 = .ok (.if_icmp .ge 113, 3) := by decide +kernel
theorem d_X12_areParted_12 : decode cX12_areParted 12 = .ok (.iconst 0, 1) := by decide +kernel
theorem d_X12_areParted_13 : decode cX12_areParted 13 = .ok (.istore 4, 2) := by decide +kernel
theorem d_X12_areParted_15 : decode cX12_areParted 15 = .ok (.iload 4, 2) := by decide +kernel
theorem d_X12_areParted_17 : decode cX12_areParted 17 = .ok (.iload_n 3, 1) := by decide +kernel
theorem d_X12_areParted_18 : decode cX12_areParted 18 = .ok (.if_icmp .ge 98, 3) := by decide +kernel
theorem d_X12_areParted_21 : decode cX12_areParted 21 = .ok (.iload_n 1, 1) := by decide +kernel
theorem d_X12_areParted_22 : decode cX12_areParted 22 = .ok (.iload_n 3, 1) := by decide +kernel
theorem d_X12_areParted_23 : decode cX12_areParted 23 = .ok (.invokestatic 226, 3) := by decide +kernel
theorem d_X12_areParted_26 : decode cX12_areParted 26 = .ok (.ifCond .eq 84, 3) := by decide +kernel
theorem d_X12_areParted_29 : decode cX12_areParted 29 = .ok (.iload_n 1, 1) := by decide +kernel
theorem d_X12_areParted_30 : decode cX12_areParted 30 = .ok (.iload 4, 2) := by decide +kernel
theorem d_X12_areParted_32 : decode cX12_areParted 32 = .ok (.invokestatic 226, 3) := by decide +kernel
theorem d_X12_areParted_35 : decode cX12_areParted 35 = .ok (.ifCond .ne 6, 3) := by decide +kernel
theorem d_X12_areParted_38 : decode cX12_areParted 38 = .ok (.goto 72, 3) := by decide +kernel
theorem d_X12_areParted_41 : decode cX12_areParted 41 = .ok (.iconst 0, 1) := by decide +kernel
theorem d_X12_areParted_42 : decode cX12_areParted 42 = .ok (.istore 5, 2) := by decide +kernel
theorem d_X12_areParted_44 : decode cX12_areParted 44 = .ok (.iconst 0, 1) := by decide +kernel
theorem d_X12_areParted_45 : decode cX12_areParted 45 = .ok (.istore 6, 2) := by decide +kernel
theorem d_X12_areParted_47 : decode cX12_areParted 47 = .ok (.iload 6, 2) := by decide +kernel
theorem d_X12_areParted_49 : decode cX12_areParted 49 = .ok (.aload_n 0, 1) := by decide +kernel
theorem d_X12_areParted_50 : decode cX12_areParted 50 = .ok (.getfield 39, 3) := by decide +kernel
theorem d_X12_areParted_53 : decode cX12_areParted 53 = .ok (.iconst 1, 1) := by decide +kernel
theorem d_X12_areParted_54 : decode cX12_areParted 54 = .ok (.iaload, 1) := by decide +kernel
theorem d_X12_areParted_55 : decode cX12_areParted 55 = .ok (.if_icmp .ge 48, 3) := by decide +kernel
theorem d_X12_areParted_58 : decode cX12_areParted 58 = .ok (.iload 5, 2) := by decide +kernel
theorem d_X12_areParted_60 : decode cX12_areParted 60 = .ok (.ifCond .ne 30, 3) := by decide +kernel
theorem d_X12_areParted_63 : decode cX12_areParted 63 = .ok (.iload_n 2, 1) := by decide +kernel
theorem d_X12_areParted_64 : decode cX12_areParted 64 = .ok (.iload 6, 2) := by decide +kernel
theorem d_X12_areParted_66 : decode cX12_areParted 66 = .ok (.invokestatic 226, 3) := by decide +kernel
theorem d_X12_areParted_69 : decode cX12_areParted 69 = .ok (.ifCond .eq 25, 3) := by decide +kernel
theorem d_X12_areParted_72 : decode cX12_areParted 72 = .ok (.aload_n 0, 1) := by decide +kernel
theorem d_X12_areParted_73 : decode cX12_areParted 73 = .ok (.iload_n 3, 1) := by decide +kernel
theorem d_X12_areParted_74 : decode cX12_areParted 74 = .ok (.iload 6, 2) := by decide +kernel
theorem d_X12_areParted_76 : decode cX12_areParted 76 = .ok (.invokevirtual 297, 3) := by decide +kernel
theorem d_X12_areParted_79 : decode cX12_areParted 79 = .ok (.aload_n 0, 1) := by decide +kernel
theorem d_X12_areParted_80 : decode cX12_areParted 80 = .ok (.iload 4, 2) := by decide +kernel
theorem d_X12_areParted_82 : decode cX12_areParted 82 = .ok (.iload 6, 2) := by decide +kernel
theorem d_X12_areParted_84 : decode cX12_areParted 84 = .ok (.invokevirtual 297, 3) := by decide +kernel
theorem d_X12_areParted_87 : decode cX12_areParted 87 = .ok (.if_icmp .eq 7, 3) := by decide +kernel
theorem d_X12_areParted_90 : decode cX12_areParted 90 = .ok (.iconst 1, 1) := by decide +kernel
theorem d_X12_areParted_91 : decode cX12_areParted 91 = .ok (.goto 4, 3) := by decide +kernel
theorem d_X12_areParted_94 : decode cX12_areParted 94 = .ok (.iconst 0, 1) := by decide +kernel
theorem d_X12_areParted_95 : decode cX12_areParted 95 = .ok (.istore 5, 2) := by decide +kernel
theorem d_X12_areParted_97 : decode cX12_areParted 97 = .ok (.iinc 6 1, 3) := by decide +kernel
theorem d_X12_areParted_100 : decode cX12_areParted 100 = .ok (.goto (-53), 3) := by decide +kernel
theorem d_X12_areParted_103 : decode cX12_areParted 103 = .ok (.iload 5, 2) := by decide +kernel
theorem d_X12_areParted_105 : decode cX12_areParted 105 = .ok (.ifCond .ne 5, 3) := by decide +kernel
theorem d_X12_areParted_108 : decode cX12_areParted 108 = .ok (.iconst 0, 1) := by decide +kernel
theorem d_X12_areParted_109 : decode cX12_areParted 109 = .ok (.ireturn, 1) := by decide +kernel
theorem d_X12_areParted_110 : decode cX12_areParted 110 = .ok (.iinc 4 1, 3) := by decide +kernel
theorem d_X12_areParted_113 : decode cX12_areParted 113 = .ok (.goto (-98), 3) := by decide +kernel
theorem d_X12_areParted_116 : decode cX12_areParted 116 = .ok (.iinc 3 1, 3) := by decide +kernel
theorem d_X12_areParted_119 : decode cX12_areParted 119 = .ok (.goto (-117), 3) := by decide +kernel
theorem d_X12_areParted_122 : decode cX12_areParted 122 = .ok (.iconst 1, 1) := by decide +kernel
theorem d_X12_areParted_123 : decode cX12_areParted 123 = .ok (.ireturn, 1) := by decide +kernel
abbrev X_X12_areParted : gX := (RX12, cX12_areParted, 7, (some .boolean), false)
def F_X12_areParted_b110 (k2 : Option Nat → Int32 → Int32 → Int32 → Option Int32) (k15 : Option Nat → Int32 → Int32 → Int32 → Int32 → Option Int32) (M : gM) (l0 : Option Nat) (l1 : Int32) (l2 : Int32) (l3 : Int32) (l4 : Int32) : Option Int32 :=
  k15 l0 l1 l2 l3 (l4 + 1)
theorem T_X12_areParted_b110 (k2 : Option Nat → Int32 → Int32 → Int32 → Option Int32) (k15 : Option Nat → Int32 → Int32 → Int32 → Int32 → Option Int32) (M : gM) (r : Int32) (hk2 : ∀ (l0 : Option Nat) (l1 : Int32) (l2 : Int32) (l3 : Int32), k2 l0 l1 l2 l3 = some r → GW 1 0 0 X_X12_areParted 2 [(0, vr l0), (1, vi l1), (2, vi l2), (3, vi l3)] [] M (some (vi r), M)) (hk15 : ∀ (l0 : Option Nat) (l1 : Int32) (l2 : Int32) (l3 : Int32) (l4 : Int32), k15 l0 l1 l2 l3 l4 = some r → GW 1 0 0 X_X12_areParted 15 [(0, vr l0), (1, vi l1), (2, vi l2), (3, vi l3), (4, vi l4)] [] M (some (vi r), M)) (l0 : Option Nat) (l1 : Int32) (l2 : Int32) (l3 : Int32) (l4 : Int32) (h : F_X12_areParted_b110 k2 k15 M l0 l1 l2 l3 l4 = some r) : GW 1 0 0 X_X12_areParted 110 [(0, vr l0), (1, vi l1), (2, vi l2), (3, vi l3), (4, vi l4)] [] M (some (vi r), M) := by
  delta F_X12_areParted_b110 at h
  refine GW_iinc (j := 4) (X := X_X12_areParted) (pc := 110) d_X12_areParted_110 rfl (congrArg (fun z => _ + z) (by decide : Int32.ofInt 1 = (1 : Int32))) (Nat.le_of_ble_eq_true rfl) (lv2 := [(4, vi (l4 + 1)), (0, vr l0), (1, vi l1), (2, vi l2), (3, vi l3)]) rfl ?_
  refine GW_goto (X := X_X12_areParted) (pc := 113) 15 d_X12_areParted_113 (by decide) ?_
  refine GW_sub [1, 2, 3, 4, 0] rfl ?_
  exact hk15 l0 l1 l2 l3 (l4 + 1) h
def F_X12_areParted_b95 (k2 : Option Nat → Int32 → Int32 → Int32 → Option Int32) (k15 : Option Nat → Int32 → Int32 → Int32 → Int32 → Option Int32) (k47 : Option Nat → Int32 → Int32 → Int32 → Int32 → Int32 → Int32 → Option Int32) (M : gM) (l0 : Option Nat) (l1 : Int32) (l2 : Int32) (l3 : Int32) (l4 : Int32) (l6 : Int32) (s0 : Int32) : Option Int32 :=
  k47 l0 l1 l2 l3 l4 s0 (l6 + 1)
theorem T_X12_areParted_b95 (k2 : Option Nat → Int32 → Int32 → Int32 → Option Int32) (k15 : Option Nat → Int32 → Int32 → Int32 → Int32 → Option Int32) (k47 : Option Nat → Int32 → Int32 → Int32 → Int32 → Int32 → Int32 → Option Int32) (M : gM) (r : Int32) (hk2 : ∀ (l0 : Option Nat) (l1 : Int32) (l2 : Int32) (l3 : Int32), k2 l0 l1 l2 l3 = some r → GW 1 0 0 X_X12_areParted 2 [(0, vr l0), (1, vi l1), (2, vi l2), (3, vi l3)] [] M (some (vi r), M)) (hk15 : ∀ (l0 : Option Nat) (l1 : Int32) (l2 : Int32) (l3 : Int32) (l4 : Int32), k15 l0 l1 l2 l3 l4 = some r → GW 1 0 0 X_X12_areParted 15 [(0, vr l0), (1, vi l1), (2, vi l2), (3, vi l3), (4, vi l4)] [] M (some (vi r), M)) (hk47 : ∀ (l0 : Option Nat) (l1 : Int32) (l2 : Int32) (l3 : Int32) (l4 : Int32) (l5 : Int32) (l6 : Int32), k47 l0 l1 l2 l3 l4 l5 l6 = some r → GW 1 0 0 X_X12_areParted 47 [(0, vr l0), (1, vi l1), (2, vi l2), (3, vi l3), (4, vi l4), (5, vi l5), (6, vi l6)] [] M (some (vi r), M)) (l0 : Option Nat) (l1 : Int32) (l2 : Int32) (l3 : Int32) (l4 : Int32) (l6 : Int32) (s0 : Int32) (h : F_X12_areParted_b95 k2 k15 k47 M l0 l1 l2 l3 l4 l6 s0 = some r) : GW 1 0 0 X_X12_areParted 95 [(0, vr l0), (1, vi l1), (2, vi l2), (3, vi l3), (4, vi l4), (6, vi l6)] [vi s0] M (some (vi r), M) := by
  delta F_X12_areParted_b95 at h
  refine GW_istore (X := X_X12_areParted) (pc := 95) d_X12_areParted_95 (Nat.le_of_ble_eq_true rfl) (lv2 := [(5, vi s0), (0, vr l0), (1, vi l1), (2, vi l2), (3, vi l3), (4, vi l4), (6, vi l6)]) rfl ?_
  refine GW_iinc (j := 6) (X := X_X12_areParted) (pc := 97) d_X12_areParted_97 rfl (congrArg (fun z => _ + z) (by decide : Int32.ofInt 1 = (1 : Int32))) (Nat.le_of_ble_eq_true rfl) (lv2 := [(6, vi (l6 + 1)), (5, vi s0), (0, vr l0), (1, vi l1), (2, vi l2), (3, vi l3), (4, vi l4)]) rfl ?_
  refine GW_goto (X := X_X12_areParted) (pc := 100) 47 d_X12_areParted_100 (by decide) ?_
  refine GW_sub [2, 3, 4, 5, 6, 1, 0] rfl ?_
  exact hk47 l0 l1 l2 l3 l4 s0 (l6 + 1) h
def F_X12_areParted_b90 (k2 : Option Nat → Int32 → Int32 → Int32 → Option Int32) (k15 : Option Nat → Int32 → Int32 → Int32 → Int32 → Option Int32) (k47 : Option Nat → Int32 → Int32 → Int32 → Int32 → Int32 → Int32 → Option Int32) (M : gM) (l0 : Option Nat) (l1 : Int32) (l2 : Int32) (l3 : Int32) (l4 : Int32) (l6 : Int32) : Option Int32 :=
  F_X12_areParted_b95 k2 k15 k47 M l0 l1 l2 l3 l4 l6 (1 : Int32)
theorem T_X12_areParted_b90 (k2 : Option Nat → Int32 → Int32 → Int32 → Option Int32) (k15 : Option Nat → Int32 → Int32 → Int32 → Int32 → Option Int32) (k47 : Option Nat → Int32 → Int32 → Int32 → Int32 → Int32 → Int32 → Option Int32) (M : gM) (r : Int32) (hk2 : ∀ (l0 : Option Nat) (l1 : Int32) (l2 : Int32) (l3 : Int32), k2 l0 l1 l2 l3 = some r → GW 1 0 0 X_X12_areParted 2 [(0, vr l0), (1, vi l1), (2, vi l2), (3, vi l3)] [] M (some (vi r), M)) (hk15 : ∀ (l0 : Option Nat) (l1 : Int32) (l2 : Int32) (l3 : Int32) (l4 : Int32), k15 l0 l1 l2 l3 l4 = some r → GW 1 0 0 X_X12_areParted 15 [(0, vr l0), (1, vi l1), (2, vi l2), (3, vi l3), (4, vi l4)] [] M (some (vi r), M)) (hk47 : ∀ (l0 : Option Nat) (l1 : Int32) (l2 : Int32) (l3 : Int32) (l4 : Int32) (l5 : Int32) (l6 : Int32), k47 l0 l1 l2 l3 l4 l5 l6 = some r → GW 1 0 0 X_X12_areParted 47 [(0, vr l0), (1, vi l1), (2, vi l2), (3, vi l3), (4, vi l4), (5, vi l5), (6, vi l6)] [] M (some (vi r), M)) (l0 : Option Nat) (l1 : Int32) (l2 : Int32) (l3 : Int32) (l4 : Int32) (l6 : Int32) (h : F_X12_areParted_b90 k2 k15 k47 M l0 l1 l2 l3 l4 l6 = some r) : GW 1 0 0 X_X12_areParted 90 [(0, vr l0), (1, vi l1), (2, vi l2), (3, vi l3), (4, vi l4), (6, vi l6)] [] M (some (vi r), M) := by
  delta F_X12_areParted_b90 at h
  refine GW_iconst (X := X_X12_areParted) (pc := 90) (v := 1) d_X12_areParted_90 (by decide) ?_
  refine GW_goto (X := X_X12_areParted) (pc := 91) 95 d_X12_areParted_91 (by decide) ?_
  exact T_X12_areParted_b95 k2 k15 k47 M r hk2 hk15 hk47 l0 l1 l2 l3 l4 l6 (1 : Int32) h
def F_X12_areParted_b94 (k2 : Option Nat → Int32 → Int32 → Int32 → Option Int32) (k15 : Option Nat → Int32 → Int32 → Int32 → Int32 → Option Int32) (k47 : Option Nat → Int32 → Int32 → Int32 → Int32 → Int32 → Int32 → Option Int32) (M : gM) (l0 : Option Nat) (l1 : Int32) (l2 : Int32) (l3 : Int32) (l4 : Int32) (l6 : Int32) : Option Int32 :=
  F_X12_areParted_b95 k2 k15 k47 M l0 l1 l2 l3 l4 l6 (0 : Int32)
theorem T_X12_areParted_b94 (k2 : Option Nat → Int32 → Int32 → Int32 → Option Int32) (k15 : Option Nat → Int32 → Int32 → Int32 → Int32 → Option Int32) (k47 : Option Nat → Int32 → Int32 → Int32 → Int32 → Int32 → Int32 → Option Int32) (M : gM) (r : Int32) (hk2 : ∀ (l0 : Option Nat) (l1 : Int32) (l2 : Int32) (l3 : Int32), k2 l0 l1 l2 l3 = some r → GW 1 0 0 X_X12_areParted 2 [(0, vr l0), (1, vi l1), (2, vi l2), (3, vi l3)] [] M (some (vi r), M)) (hk15 : ∀ (l0 : Option Nat) (l1 : Int32) (l2 : Int32) (l3 : Int32) (l4 : Int32), k15 l0 l1 l2 l3 l4 = some r → GW 1 0 0 X_X12_areParted 15 [(0, vr l0), (1, vi l1), (2, vi l2), (3, vi l3), (4, vi l4)] [] M (some (vi r), M)) (hk47 : ∀ (l0 : Option Nat) (l1 : Int32) (l2 : Int32) (l3 : Int32) (l4 : Int32) (l5 : Int32) (l6 : Int32), k47 l0 l1 l2 l3 l4 l5 l6 = some r → GW 1 0 0 X_X12_areParted 47 [(0, vr l0), (1, vi l1), (2, vi l2), (3, vi l3), (4, vi l4), (5, vi l5), (6, vi l6)] [] M (some (vi r), M)) (l0 : Option Nat) (l1 : Int32) (l2 : Int32) (l3 : Int32) (l4 : Int32) (l6 : Int32) (h : F_X12_areParted_b94 k2 k15 k47 M l0 l1 l2 l3 l4 l6 = some r) : GW 1 0 0 X_X12_areParted 94 [(0, vr l0), (1, vi l1), (2, vi l2), (3, vi l3), (4, vi l4), (6, vi l6)] [] M (some (vi r), M) := by
  delta F_X12_areParted_b94 at h
  refine GW_iconst (X := X_X12_areParted) (pc := 94) (v := 0) d_X12_areParted_94 (by decide) ?_
  exact T_X12_areParted_b95 k2 k15 k47 M r hk2 hk15 hk47 l0 l1 l2 l3 l4 l6 (0 : Int32) h
def F_X12_areParted_b47 (k2 : Option Nat → Int32 → Int32 → Int32 → Option Int32) (k15 : Option Nat → Int32 → Int32 → Int32 → Int32 → Option Int32) (k47 : Option Nat → Int32 → Int32 → Int32 → Int32 → Int32 → Int32 → Option Int32) (M : gM) (l0 : Option Nat) (l1 : Int32) (l2 : Int32) (l3 : Int32) (l4 : Int32) (l5 : Int32) (l6 : Int32) : Option Int32 :=
  (gR 12 M l0 20).bind fun v1 => (aI 20 M v1 (1 : Int32)).bind fun v2 => if v2 ≤ l6 then (if l5 = 0 then (some (0 : Int32)) else (F_X12_areParted_b110 k2 k15 M l0 l1 l2 l3 l4)) else (if l5 = 0 then ((F_X12_isOf l2 l6 M).bind fun v3 => if v3 = 0 then (F_X12_areParted_b94 k2 k15 k47 M l0 l1 l2 l3 l4 l6) else ((gO 12 M l0).bind fun i4 => (F_X12_valueOf (some i4) l3 l6 M).bind fun v5 => (F_X12_valueOf (some i4) l4 l6 M).bind fun v6 => if v5 = v6 then (F_X12_areParted_b94 k2 k15 k47 M (some i4) l1 l2 l3 l4 l6) else (F_X12_areParted_b90 k2 k15 k47 M (some i4) l1 l2 l3 l4 l6))) else (F_X12_areParted_b90 k2 k15 k47 M l0 l1 l2 l3 l4 l6))
set_option maxHeartbeats 1000000 in
theorem T_X12_areParted_b47 (k2 : Option Nat → Int32 → Int32 → Int32 → Option Int32) (k15 : Option Nat → Int32 → Int32 → Int32 → Int32 → Option Int32) (k47 : Option Nat → Int32 → Int32 → Int32 → Int32 → Int32 → Int32 → Option Int32) (M : gM) (r : Int32) (hk2 : ∀ (l0 : Option Nat) (l1 : Int32) (l2 : Int32) (l3 : Int32), k2 l0 l1 l2 l3 = some r → GW 1 0 0 X_X12_areParted 2 [(0, vr l0), (1, vi l1), (2, vi l2), (3, vi l3)] [] M (some (vi r), M)) (hk15 : ∀ (l0 : Option Nat) (l1 : Int32) (l2 : Int32) (l3 : Int32) (l4 : Int32), k15 l0 l1 l2 l3 l4 = some r → GW 1 0 0 X_X12_areParted 15 [(0, vr l0), (1, vi l1), (2, vi l2), (3, vi l3), (4, vi l4)] [] M (some (vi r), M)) (hk47 : ∀ (l0 : Option Nat) (l1 : Int32) (l2 : Int32) (l3 : Int32) (l4 : Int32) (l5 : Int32) (l6 : Int32), k47 l0 l1 l2 l3 l4 l5 l6 = some r → GW 1 0 0 X_X12_areParted 47 [(0, vr l0), (1, vi l1), (2, vi l2), (3, vi l3), (4, vi l4), (5, vi l5), (6, vi l6)] [] M (some (vi r), M)) (l0 : Option Nat) (l1 : Int32) (l2 : Int32) (l3 : Int32) (l4 : Int32) (l5 : Int32) (l6 : Int32) (h : F_X12_areParted_b47 k2 k15 k47 M l0 l1 l2 l3 l4 l5 l6 = some r) : GW 1 0 0 X_X12_areParted 47 [(0, vr l0), (1, vi l1), (2, vi l2), (3, vi l3), (4, vi l4), (5, vi l5), (6, vi l6)] [] M (some (vi r), M) := by
  delta F_X12_areParted_b47 at h
  refine GW_iload (X := X_X12_areParted) (pc := 47) d_X12_areParted_47 6 rfl ?_
  refine GW_aload_n (X := X_X12_areParted) (pc := 49) d_X12_areParted_49 rfl 0 rfl ?_
  replace h := g_bd h
  obtain ⟨v1, hv1, h⟩ := h
  refine GW_getR (X := X_X12_areParted) (pc := 50) f_X12_39 d_X12_areParted_50 hv1 (Or.inr ⟨_, ty_12_20⟩) ?_
  refine GW_iconst (X := X_X12_areParted) (pc := 53) (v := 1) d_X12_areParted_53 (by decide) ?_
  replace h := g_bd h
  obtain ⟨v2, hv2, h⟩ := h
  refine GW_iald (X := X_X12_areParted) (pc := 54) d_X12_areParted_54 hv2 ?_
  refine GW_icmp_ge (X := X_X12_areParted) (pc := 55) 103 d_X12_areParted_55 (by decide) (fun c => ?_) (fun c => ?_)
  · replace h := g_ip c h
    refine GW_iload (X := X_X12_areParted) (pc := 103) d_X12_areParted_103 5 rfl ?_
    refine GW_if_ne (X := X_X12_areParted) (pc := 105) 110 d_X12_areParted_105 (by decide) (fun c => ?_) (fun c => ?_)
    · replace h := g_ie c h
      refine GW_sub [0, 1, 2, 3, 4] rfl ?_
      exact T_X12_areParted_b110 k2 k15 M r hk2 hk15 l0 l1 l2 l3 l4 h
    · replace h := g_ip c h
      refine GW_iconst (X := X_X12_areParted) (pc := 108) (v := 0) d_X12_areParted_108 (by decide) ?_
      replace h := Option.some.inj h
      subst h
      exact GW_ret (X := X_X12_areParted) (pc := 109) d_X12_areParted_109 rfl g_rok0
  · replace h := g_ie c h
    refine GW_iload (X := X_X12_areParted) (pc := 58) d_X12_areParted_58 5 rfl ?_
    refine GW_if_ne (X := X_X12_areParted) (pc := 60) 90 d_X12_areParted_60 (by decide) (fun c => ?_) (fun c => ?_)
    · replace h := g_ie c h
      refine GW_sub [0, 1, 2, 3, 4, 6] rfl ?_
      exact T_X12_areParted_b90 k2 k15 k47 M r hk2 hk15 hk47 l0 l1 l2 l3 l4 l6 h
    · replace h := g_ip c h
      refine GW_iload_n (X := X_X12_areParted) (pc := 63) d_X12_areParted_63 rfl 2 rfl ?_
      refine GW_iload (X := X_X12_areParted) (pc := 64) d_X12_areParted_64 6 rfl ?_
      replace h := g_bd h
      obtain ⟨v3, hv3, h⟩ := h
      refine GW_callS (X := X_X12_areParted) (pc := 66) (bc0 := 0) (bs0 := 0) (r := some (vi v3)) (M2 := M) (T_X12_isOf l2 l6 M v3 hv3) (Nat.le_of_ble_eq_true rfl) (Nat.le_of_ble_eq_true rfl) yc_X12_isOf ⟨m_1314, m_1315, m_127, m_1316⟩ d_X12_areParted_66 rfl (st := []) rfl (Nat.le_of_ble_eq_true rfl) (Nat.le_of_ble_eq_true rfl) (Nat.le_of_ble_eq_true rfl) (st2 := [vi v3]) rfl ?_
      refine GW_if_eq (X := X_X12_areParted) (pc := 69) 94 d_X12_areParted_69 (by decide) (fun c => ?_) (fun c => ?_)
      · replace h := g_ip c h
        refine GW_sub [0, 1, 2, 3, 4, 6] rfl ?_
        exact T_X12_areParted_b94 k2 k15 k47 M r hk2 hk15 hk47 l0 l1 l2 l3 l4 l6 h
      · replace h := g_ie c h
        refine GW_aload_n (X := X_X12_areParted) (pc := 72) d_X12_areParted_72 rfl 0 rfl ?_
        refine GW_iload_n (X := X_X12_areParted) (pc := 73) d_X12_areParted_73 rfl 3 rfl ?_
        refine GW_iload (X := X_X12_areParted) (pc := 74) d_X12_areParted_74 6 rfl ?_
        replace h := g_bd h
        obtain ⟨i4, hi4, h⟩ := h
        obtain ⟨rfl, ki4⟩ := g_gO hi4
        replace h := g_bd h
        obtain ⟨v5, hv5, h⟩ := h
        refine GW_callV (X := X_X12_areParted) (pc := 76) (bc0 := 0) (bs0 := 0) (r := some (vi v5)) (M2 := M) (c0 := 12) (T_X12_valueOf (some i4) l3 l6 M v5 hv5) (Nat.le_of_ble_eq_true rfl) (Nat.le_of_ble_eq_true rfl) rfl g_cok12 ki4 yc_X12_valueOf ⟨m_1436, m_1438, m_81, m_127, m_1439⟩ d_X12_areParted_76 rfl (st := []) rfl (Nat.le_of_ble_eq_true rfl) (Nat.le_of_ble_eq_true rfl) (Nat.le_of_ble_eq_true rfl) (st2 := [vi v5]) rfl ?_
        refine GW_aload_n (X := X_X12_areParted) (pc := 79) d_X12_areParted_79 rfl 0 rfl ?_
        refine GW_iload (X := X_X12_areParted) (pc := 80) d_X12_areParted_80 4 rfl ?_
        refine GW_iload (X := X_X12_areParted) (pc := 82) d_X12_areParted_82 6 rfl ?_
        replace h := g_bd h
        obtain ⟨v6, hv6, h⟩ := h
        refine GW_callV (X := X_X12_areParted) (pc := 84) (bc0 := 0) (bs0 := 0) (r := some (vi v6)) (M2 := M) (c0 := 12) (T_X12_valueOf (some i4) l4 l6 M v6 hv6) (Nat.le_of_ble_eq_true rfl) (Nat.le_of_ble_eq_true rfl) rfl g_cok12 ki4 yc_X12_valueOf ⟨m_1436, m_1438, m_81, m_127, m_1439⟩ d_X12_areParted_84 rfl (st := [vi v5]) rfl (Nat.le_of_ble_eq_true rfl) (Nat.le_of_ble_eq_true rfl) (Nat.le_of_ble_eq_true rfl) (st2 := [vi v6, vi v5]) rfl ?_
        refine GW_icmp_eq (X := X_X12_areParted) (pc := 87) 94 d_X12_areParted_87 (by decide) (fun c => ?_) (fun c => ?_)
        · replace h := g_ip c h
          refine GW_sub [0, 1, 2, 3, 4, 6] rfl ?_
          exact T_X12_areParted_b94 k2 k15 k47 M r hk2 hk15 hk47 (some i4) l1 l2 l3 l4 l6 h
        · replace h := g_ie c h
          refine GW_sub [0, 1, 2, 3, 4, 6] rfl ?_
          exact T_X12_areParted_b90 k2 k15 k47 M r hk2 hk15 hk47 (some i4) l1 l2 l3 l4 l6 h
def F_X12_areParted_L47 (k2 : Option Nat → Int32 → Int32 → Int32 → Option Int32) (k15 : Option Nat → Int32 → Int32 → Int32 → Int32 → Option Int32) (M : gM) : Nat → Option Nat → Int32 → Int32 → Int32 → Int32 → Int32 → Int32 → Option Int32
  | 0 => fun _ _ _ _ _ _ _ => none
  | n + 1 => F_X12_areParted_b47 k2 k15 (F_X12_areParted_L47 k2 k15 M n) M
theorem T_X12_areParted_L47 (k2 : Option Nat → Int32 → Int32 → Int32 → Option Int32) (k15 : Option Nat → Int32 → Int32 → Int32 → Int32 → Option Int32) (M : gM) (r : Int32) (hk2 : ∀ (l0 : Option Nat) (l1 : Int32) (l2 : Int32) (l3 : Int32), k2 l0 l1 l2 l3 = some r → GW 1 0 0 X_X12_areParted 2 [(0, vr l0), (1, vi l1), (2, vi l2), (3, vi l3)] [] M (some (vi r), M)) (hk15 : ∀ (l0 : Option Nat) (l1 : Int32) (l2 : Int32) (l3 : Int32) (l4 : Int32), k15 l0 l1 l2 l3 l4 = some r → GW 1 0 0 X_X12_areParted 15 [(0, vr l0), (1, vi l1), (2, vi l2), (3, vi l3), (4, vi l4)] [] M (some (vi r), M)) : ∀ (n : Nat) (l0 : Option Nat) (l1 : Int32) (l2 : Int32) (l3 : Int32) (l4 : Int32) (l5 : Int32) (l6 : Int32), F_X12_areParted_L47 k2 k15 M n l0 l1 l2 l3 l4 l5 l6 = some r → GW 1 0 0 X_X12_areParted 47 [(0, vr l0), (1, vi l1), (2, vi l2), (3, vi l3), (4, vi l4), (5, vi l5), (6, vi l6)] [] M (some (vi r), M) := by
  intro n
  induction n with
  | zero => intro l0 l1 l2 l3 l4 l5 l6 h; exact g_no h
  | succ n ih => intro l0 l1 l2 l3 l4 l5 l6 h; exact T_X12_areParted_b47 k2 k15 (F_X12_areParted_L47 k2 k15 M n) M r hk2 hk15 ih l0 l1 l2 l3 l4 l5 l6 h
def F_X12_areParted_b15 (k2 : Option Nat → Int32 → Int32 → Int32 → Option Int32) (k15 : Option Nat → Int32 → Int32 → Int32 → Int32 → Option Int32) (M : gM) (l0 : Option Nat) (l1 : Int32) (l2 : Int32) (l3 : Int32) (l4 : Int32) : Option Int32 :=
  if l3 ≤ l4 then (k2 l0 l1 l2 (l3 + 1)) else ((F_X12_isOf l1 l3 M).bind fun v1 => if v1 = 0 then (F_X12_areParted_b110 k2 k15 M l0 l1 l2 l3 l4) else ((F_X12_isOf l1 l4 M).bind fun v2 => if v2 = 0 then (F_X12_areParted_b110 k2 k15 M l0 l1 l2 l3 l4) else (F_X12_areParted_L47 k2 k15 M g_fuel l0 l1 l2 l3 l4 (0 : Int32) (0 : Int32))))
theorem T_X12_areParted_b15 (k2 : Option Nat → Int32 → Int32 → Int32 → Option Int32) (k15 : Option Nat → Int32 → Int32 → Int32 → Int32 → Option Int32) (M : gM) (r : Int32) (hk2 : ∀ (l0 : Option Nat) (l1 : Int32) (l2 : Int32) (l3 : Int32), k2 l0 l1 l2 l3 = some r → GW 1 0 0 X_X12_areParted 2 [(0, vr l0), (1, vi l1), (2, vi l2), (3, vi l3)] [] M (some (vi r), M)) (hk15 : ∀ (l0 : Option Nat) (l1 : Int32) (l2 : Int32) (l3 : Int32) (l4 : Int32), k15 l0 l1 l2 l3 l4 = some r → GW 1 0 0 X_X12_areParted 15 [(0, vr l0), (1, vi l1), (2, vi l2), (3, vi l3), (4, vi l4)] [] M (some (vi r), M)) (l0 : Option Nat) (l1 : Int32) (l2 : Int32) (l3 : Int32) (l4 : Int32) (h : F_X12_areParted_b15 k2 k15 M l0 l1 l2 l3 l4 = some r) : GW 1 0 0 X_X12_areParted 15 [(0, vr l0), (1, vi l1), (2, vi l2), (3, vi l3), (4, vi l4)] [] M (some (vi r), M) := by
  delta F_X12_areParted_b15 at h
  refine GW_iload (X := X_X12_areParted) (pc := 15) d_X12_areParted_15 4 rfl ?_
  refine GW_iload_n (X := X_X12_areParted) (pc := 17) d_X12_areParted_17 rfl 3 rfl ?_
  refine GW_icmp_ge (X := X_X12_areParted) (pc := 18) 116 d_X12_areParted_18 (by decide) (fun c => ?_) (fun c => ?_)
  · replace h := g_ip c h
    refine GW_iinc (j := 3) (X := X_X12_areParted) (pc := 116) d_X12_areParted_116 rfl (congrArg (fun z => _ + z) (by decide : Int32.ofInt 1 = (1 : Int32))) (Nat.le_of_ble_eq_true rfl) (lv2 := [(3, vi (l3 + 1)), (0, vr l0), (1, vi l1), (2, vi l2), (4, vi l4)]) rfl ?_
    refine GW_goto (X := X_X12_areParted) (pc := 119) 2 d_X12_areParted_119 (by decide) ?_
    refine GW_sub [1, 2, 3, 0] rfl ?_
    exact hk2 l0 l1 l2 (l3 + 1) h
  · replace h := g_ie c h
    refine GW_iload_n (X := X_X12_areParted) (pc := 21) d_X12_areParted_21 rfl 1 rfl ?_
    refine GW_iload_n (X := X_X12_areParted) (pc := 22) d_X12_areParted_22 rfl 3 rfl ?_
    replace h := g_bd h
    obtain ⟨v1, hv1, h⟩ := h
    refine GW_callS (X := X_X12_areParted) (pc := 23) (bc0 := 0) (bs0 := 0) (r := some (vi v1)) (M2 := M) (T_X12_isOf l1 l3 M v1 hv1) (Nat.le_of_ble_eq_true rfl) (Nat.le_of_ble_eq_true rfl) yc_X12_isOf ⟨m_1314, m_1315, m_127, m_1316⟩ d_X12_areParted_23 rfl (st := []) rfl (Nat.le_of_ble_eq_true rfl) (Nat.le_of_ble_eq_true rfl) (Nat.le_of_ble_eq_true rfl) (st2 := [vi v1]) rfl ?_
    refine GW_if_eq (X := X_X12_areParted) (pc := 26) 110 d_X12_areParted_26 (by decide) (fun c => ?_) (fun c => ?_)
    · replace h := g_ip c h
      exact T_X12_areParted_b110 k2 k15 M r hk2 hk15 l0 l1 l2 l3 l4 h
    · replace h := g_ie c h
      refine GW_iload_n (X := X_X12_areParted) (pc := 29) d_X12_areParted_29 rfl 1 rfl ?_
      refine GW_iload (X := X_X12_areParted) (pc := 30) d_X12_areParted_30 4 rfl ?_
      replace h := g_bd h
      obtain ⟨v2, hv2, h⟩ := h
      refine GW_callS (X := X_X12_areParted) (pc := 32) (bc0 := 0) (bs0 := 0) (r := some (vi v2)) (M2 := M) (T_X12_isOf l1 l4 M v2 hv2) (Nat.le_of_ble_eq_true rfl) (Nat.le_of_ble_eq_true rfl) yc_X12_isOf ⟨m_1314, m_1315, m_127, m_1316⟩ d_X12_areParted_32 rfl (st := []) rfl (Nat.le_of_ble_eq_true rfl) (Nat.le_of_ble_eq_true rfl) (Nat.le_of_ble_eq_true rfl) (st2 := [vi v2]) rfl ?_
      refine GW_if_ne (X := X_X12_areParted) (pc := 35) 41 d_X12_areParted_35 (by decide) (fun c => ?_) (fun c => ?_)
      · replace h := g_ie c h
        refine GW_iconst (X := X_X12_areParted) (pc := 41) (v := 0) d_X12_areParted_41 (by decide) ?_
        refine GW_istore (X := X_X12_areParted) (pc := 42) d_X12_areParted_42 (Nat.le_of_ble_eq_true rfl) (lv2 := [(5, vi (0 : Int32)), (0, vr l0), (1, vi l1), (2, vi l2), (3, vi l3), (4, vi l4)]) rfl ?_
        refine GW_iconst (X := X_X12_areParted) (pc := 44) (v := 0) d_X12_areParted_44 (by decide) ?_
        refine GW_istore (X := X_X12_areParted) (pc := 45) d_X12_areParted_45 (Nat.le_of_ble_eq_true rfl) (lv2 := [(6, vi (0 : Int32)), (5, vi (0 : Int32)), (0, vr l0), (1, vi l1), (2, vi l2), (3, vi l3), (4, vi l4)]) rfl ?_
        refine GW_sub [2, 3, 4, 5, 6, 1, 0] rfl ?_
        exact T_X12_areParted_L47 k2 k15 M r hk2 hk15 g_fuel l0 l1 l2 l3 l4 (0 : Int32) (0 : Int32) h
      · replace h := g_ip c h
        refine GW_goto (X := X_X12_areParted) (pc := 38) 110 d_X12_areParted_38 (by decide) ?_
        exact T_X12_areParted_b110 k2 k15 M r hk2 hk15 l0 l1 l2 l3 l4 h
def F_X12_areParted_L15 (k2 : Option Nat → Int32 → Int32 → Int32 → Option Int32) (M : gM) : Nat → Option Nat → Int32 → Int32 → Int32 → Int32 → Option Int32
  | 0 => fun _ _ _ _ _ => none
  | n + 1 => F_X12_areParted_b15 k2 (F_X12_areParted_L15 k2 M n) M
theorem T_X12_areParted_L15 (k2 : Option Nat → Int32 → Int32 → Int32 → Option Int32) (M : gM) (r : Int32) (hk2 : ∀ (l0 : Option Nat) (l1 : Int32) (l2 : Int32) (l3 : Int32), k2 l0 l1 l2 l3 = some r → GW 1 0 0 X_X12_areParted 2 [(0, vr l0), (1, vi l1), (2, vi l2), (3, vi l3)] [] M (some (vi r), M)) : ∀ (n : Nat) (l0 : Option Nat) (l1 : Int32) (l2 : Int32) (l3 : Int32) (l4 : Int32), F_X12_areParted_L15 k2 M n l0 l1 l2 l3 l4 = some r → GW 1 0 0 X_X12_areParted 15 [(0, vr l0), (1, vi l1), (2, vi l2), (3, vi l3), (4, vi l4)] [] M (some (vi r), M) := by
  intro n
  induction n with
  | zero => intro l0 l1 l2 l3 l4 h; exact g_no h
  | succ n ih => intro l0 l1 l2 l3 l4 h; exact T_X12_areParted_b15 k2 (F_X12_areParted_L15 k2 M n) M r hk2 ih l0 l1 l2 l3 l4 h
def F_X12_areParted_b2 (k2 : Option Nat → Int32 → Int32 → Int32 → Option Int32) (M : gM) (l0 : Option Nat) (l1 : Int32) (l2 : Int32) (l3 : Int32) : Option Int32 :=
  (gR 12 M l0 20).bind fun v1 => (aI 20 M v1 (2 : Int32)).bind fun v2 => if v2 ≤ l3 then (some (1 : Int32)) else (F_X12_areParted_L15 k2 M g_fuel l0 l1 l2 l3 (0 : Int32))
theorem T_X12_areParted_b2 (k2 : Option Nat → Int32 → Int32 → Int32 → Option Int32) (M : gM) (r : Int32) (hk2 : ∀ (l0 : Option Nat) (l1 : Int32) (l2 : Int32) (l3 : Int32), k2 l0 l1 l2 l3 = some r → GW 1 0 0 X_X12_areParted 2 [(0, vr l0), (1, vi l1), (2, vi l2), (3, vi l3)] [] M (some (vi r), M)) (l0 : Option Nat) (l1 : Int32) (l2 : Int32) (l3 : Int32) (h : F_X12_areParted_b2 k2 M l0 l1 l2 l3 = some r) : GW 1 0 0 X_X12_areParted 2 [(0, vr l0), (1, vi l1), (2, vi l2), (3, vi l3)] [] M (some (vi r), M) := by
  delta F_X12_areParted_b2 at h
  refine GW_iload_n (X := X_X12_areParted) (pc := 2) d_X12_areParted_2 rfl 3 rfl ?_
  refine GW_aload_n (X := X_X12_areParted) (pc := 3) d_X12_areParted_3 rfl 0 rfl ?_
  replace h := g_bd h
  obtain ⟨v1, hv1, h⟩ := h
  refine GW_getR (X := X_X12_areParted) (pc := 4) f_X12_39 d_X12_areParted_4 hv1 (Or.inr ⟨_, ty_12_20⟩) ?_
  refine GW_iconst (X := X_X12_areParted) (pc := 7) (v := 2) d_X12_areParted_7 (by decide) ?_
  replace h := g_bd h
  obtain ⟨v2, hv2, h⟩ := h
  refine GW_iald (X := X_X12_areParted) (pc := 8) d_X12_areParted_8 hv2 ?_
  refine GW_icmp_ge (X := X_X12_areParted) (pc := 9) 122 d_X12_areParted_9 (by decide) (fun c => ?_) (fun c => ?_)
  · replace h := g_ip c h
    refine GW_iconst (X := X_X12_areParted) (pc := 122) (v := 1) d_X12_areParted_122 (by decide) ?_
    replace h := Option.some.inj h
    subst h
    exact GW_ret (X := X_X12_areParted) (pc := 123) d_X12_areParted_123 rfl g_rok1
  · replace h := g_ie c h
    refine GW_iconst (X := X_X12_areParted) (pc := 12) (v := 0) d_X12_areParted_12 (by decide) ?_
    refine GW_istore (X := X_X12_areParted) (pc := 13) d_X12_areParted_13 (Nat.le_of_ble_eq_true rfl) (lv2 := [(4, vi (0 : Int32)), (0, vr l0), (1, vi l1), (2, vi l2), (3, vi l3)]) rfl ?_
    refine GW_sub [1, 2, 3, 4, 0] rfl ?_
    exact T_X12_areParted_L15 k2 M r hk2 g_fuel l0 l1 l2 l3 (0 : Int32) h
def F_X12_areParted_L2 (M : gM) : Nat → Option Nat → Int32 → Int32 → Int32 → Option Int32
  | 0 => fun _ _ _ _ => none
  | n + 1 => F_X12_areParted_b2 (F_X12_areParted_L2 M n) M
theorem T_X12_areParted_L2 (M : gM) (r : Int32) : ∀ (n : Nat) (l0 : Option Nat) (l1 : Int32) (l2 : Int32) (l3 : Int32), F_X12_areParted_L2 M n l0 l1 l2 l3 = some r → GW 1 0 0 X_X12_areParted 2 [(0, vr l0), (1, vi l1), (2, vi l2), (3, vi l3)] [] M (some (vi r), M) := by
  intro n
  induction n with
  | zero => intro l0 l1 l2 l3 h; exact g_no h
  | succ n ih => intro l0 l1 l2 l3 h; exact T_X12_areParted_b2 (F_X12_areParted_L2 M n) M r ih l0 l1 l2 l3 h
def F_X12_areParted_b0 (M : gM) (l0 : Option Nat) (l1 : Int32) (l2 : Int32) : Option Int32 :=
  F_X12_areParted_L2 M g_fuel l0 l1 l2 (0 : Int32)
theorem T_X12_areParted_b0 (M : gM) (r : Int32) (l0 : Option Nat) (l1 : Int32) (l2 : Int32) (h : F_X12_areParted_b0 M l0 l1 l2 = some r) : GW 1 0 0 X_X12_areParted 0 [(0, vr l0), (1, vi l1), (2, vi l2)] [] M (some (vi r), M) := by
  delta F_X12_areParted_b0 at h
  refine GW_iconst (X := X_X12_areParted) (pc := 0) (v := 0) d_X12_areParted_0 (by decide) ?_
  refine GW_istore_n (X := X_X12_areParted) (pc := 1) d_X12_areParted_1 rfl (Nat.le_of_ble_eq_true rfl) (lv2 := [(3, vi (0 : Int32)), (0, vr l0), (1, vi l1), (2, vi l2)]) rfl ?_
  refine GW_sub [1, 2, 3, 0] rfl ?_
  exact T_X12_areParted_L2 M r g_fuel l0 l1 l2 (0 : Int32) h
def F_X12_areParted (l0 : Option Nat) (l1 : Int32) (l2 : Int32) (M : gM) : Option Int32 := F_X12_areParted_b0 M l0 l1 l2
theorem T_X12_areParted (l0 : Option Nat) (l1 : Int32) (l2 : Int32) (M : gM) (r : Int32) (h : F_X12_areParted l0 l1 l2 M = some r) : g_Met 1 0 0 yX12_areParted X_X12_areParted [vr l0, vi l1, vi l2] M (some (vi r), M) :=
  g_Met_of pn_RX12 rfl (Nat.le_of_ble_eq_true rfl) (fun h => by cases h) (GW_sub [0, 1, 2] rfl (T_X12_areParted_b0 M r l0 l1 l2 h))
/-! ForgetHeirsModel.parts(II)I -/
theorem d_X12_parts_0 : decode cX12_parts 0 = .ok (.aload_n 0, 1) := by decide +kernel
theorem d_X12_parts_1 : decode cX12_parts 1 = .ok (.invokevirtual 362, 3) := by decide +kernel
theorem d_X12_parts_4 : decode cX12_parts 4 = .ok (.ifCond .eq 29, 3) := by decide +kernel
theorem d_X12_parts_7 : decode cX12_parts 7 = .ok (.iload_n 1, 1) := by decide +kernel
theorem d_X12_parts_8 : decode cX12_parts 8 = .ok (.ifCond .lt 25, 3) := by decide +kernel
theorem d_X12_parts_11 : decode cX12_parts 11 = .ok (.iload_n 1, 1) := by decide +kernel
theorem d_X12_parts_12 : decode cX12_parts 12 = .ok (.iconst 1, 1) := by decide +kernel
theorem d_X12_parts_13 : decode cX12_parts 13 = .ok (.aload_n 0, 1) := by decide +kernel
theorem d_X12_parts_14 : decode cX12_parts 14 = .ok (.getfield 39, 3) := by decide +kernel
theorem d_X12_parts_17 : decode cX12_parts 17 = .ok (.iconst 2, 1) := by decide +kernel
theorem d_X12_parts_18 : decode cX12_parts 18 = .ok (.iaload, 1) := by decide +kernel
theorem d_X12_parts_19 : decode cX12_parts 19 = .ok (.ishl, 1) := by decide +kernel
theorem d_X12_parts_20 : decode cX12_parts 20 = .ok (.if_icmp .ge 13, 3) := by decide +kernel
theorem d_X12_parts_23 : decode cX12_parts 23 = .ok (.iload_n 2, 1) := by decide +kernel
theorem d_X12_parts_24 : decode cX12_parts 24 = .ok (.i2l, 1) := by decide +kernel
theorem d_X12_parts_25 : decode cX12_parts 25 = .ok (.lconst 0, 1) := by decide +kernel
theorem d_X12_parts_26 : decode cX12_parts 26 = .ok (.lconst 1, 1) := by decide +kernel
theorem d_X12_parts_27 : decode cX12_parts 27 = .ok (.invokestatic 118, 3) := by decide +kernel
theorem d_X12_parts_30 : decode cX12_parts 30 = .ok (.ifCond .ne 5, 3) := by decide +kernel
theorem d_X12_parts_33 : decode cX12_parts 33 = .ok (.iconst (-1), 1) := by decide +kernel
theorem d_X12_parts_34 : decode cX12_parts 34 = .ok (.ireturn, 1) := by decide +kernel
theorem d_X12_parts_35 : decode cX12_parts 35 = .ok (.bipush (-2), 2) := by decide +kernel
theorem d_X12_parts_37 : decode cX12_parts 37 = .ok (.istore_n 3, 1) := by decide +kernel
theorem d_X12_parts_38 : decode cX12_parts 38 = .ok (.iconst 0, 1) := by decide +kernel
theorem d_X12_parts_39 : decode cX12_parts 39 = .ok (.istore 4, 2) := by decide +kernel
theorem d_X12_parts_41 : decode cX12_parts 41 = .ok (.iload 4, 2) := by decide +kernel
theorem d_X12_parts_43 : decode cX12_parts 43 = .ok (.iconst 1, 1) := by decide +kernel
theorem d_X12_parts_44 : decode cX12_parts 44 = .ok (.aload_n 0, 1) := by decide +kernel
theorem d_X12_parts_45 : decode cX12_parts 45 = .ok (.getfield 39, 3) := by decide +kernel
theorem d_X12_parts_48 : decode cX12_parts 48 = .ok (.iconst 1, 1) := by decide +kernel
theorem d_X12_parts_49 : decode cX12_parts 49 = .ok (.iaload, 1) := by decide +kernel
theorem d_X12_parts_50 : decode cX12_parts 50 = .ok (.ishl, 1) := by decide +kernel
theorem d_X12_parts_51 : decode cX12_parts 51 = .ok (.if_icmp .ge 38, 3) := by decide +kernel
theorem d_X12_parts_54 : decode cX12_parts 54 = .ok (.iload_n 3, 1) := by decide +kernel
theorem d_X12_parts_55 : decode cX12_parts 55 = .ok (.ifCond .lt 15, 3) := by decide +kernel
theorem d_X12_parts_58 : decode cX12_parts 58 = .ok (.iload 4, 2) := by decide +kernel
theorem d_X12_parts_60 : decode cX12_parts 60 = .ok (.invokestatic 316, 3) := by decide +kernel
theorem d_X12_parts_63 : decode cX12_parts 63 = .ok (.iload_n 3, 1) := by decide +kernel
theorem d_X12_parts_64 : decode cX12_parts 64 = .ok (.invokestatic 316, 3) := by decide +kernel
theorem d_X12_parts_67 : decode cX12_parts 67 = .ok (.if_icmp .ge 16, 3) := by decide +kernel
theorem d_X12_parts_70 : decode cX12_parts 70 = .ok (.aload_n 0, 1) := by decide +kernel
theorem d_X12_parts_71 : decode cX12_parts 71 = .ok (.iload_n 1, 1) := by decide +kernel
theorem d_X12_parts_72 : decode cX12_parts 72 = .ok (.iload 4, 2) := by decide +kernel
theorem d_X12_parts_74 : decode cX12_parts 74 = .ok (.invokevirtual 401, 3) := by decide +kernel
theorem d_X12_parts_77 : decode cX12_parts 77 = .ok (.ifCond .eq 6, 3) := by decide +kernel
theorem d_X12_parts_80 : decode cX12_parts 80 = .ok (.iload 4, 2) := by decide +kernel
theorem d_X12_parts_82 : decode cX12_parts 82 = .ok (.istore_n 3, 1) := by decide +kernel
theorem d_X12_parts_83 : decode cX12_parts 83 = .ok (.iinc 4 1, 3) := by decide +kernel
theorem d_X12_parts_86 : decode cX12_parts 86 = .ok (.goto (-45), 3) := by decide +kernel
theorem d_X12_parts_89 : decode cX12_parts 89 = .ok (.iload_n 3, 1) := by decide +kernel
theorem d_X12_parts_90 : decode cX12_parts 90 = .ok (.ifCond .ge 8, 3) := by decide +kernel
theorem d_X12_parts_93 : decode cX12_parts 93 = .ok (.bipush (-2), 2) := by decide +kernel
theorem d_X12_parts_95 : decode cX12_parts 95 = .ok (.goto 15, 3) := by decide +kernel
theorem d_X12_parts_98 : decode cX12_parts 98 = .ok (.iload_n 2, 1) := by decide +kernel
theorem d_X12_parts_99 : decode cX12_parts 99 = .ok (.ifCond .ne 10, 3) := by decide +kernel
theorem d_X12_parts_102 : decode cX12_parts 102 = .ok (.iload_n 3, 1) := by decide +kernel
theorem d_X12_parts_103 : decode cX12_parts 103 = .ok (.invokestatic 316, 3) := by decide +kernel
theorem d_X12_parts_106 : decode cX12_parts 106 = .ok (.goto 4, 3) := by decide +kernel
theorem d_X12_parts_109 : decode cX12_parts 109 = .ok (.iload_n 3, 1) := by decide +kernel
theorem d_X12_parts_110 : decode cX12_parts 110 = .ok (.ireturn, 1) := by decide +kernel
abbrev X_X12_parts : gX := (RX12, cX12_parts, 5, (some .int), false)
def F_X12_parts_b33 (M : gM) : Option Int32 :=
  some (-1 : Int32)
theorem T_X12_parts_b33 (M : gM) (r : Int32) (h : F_X12_parts_b33 M = some r) : GW 2 0 0 X_X12_parts 33 [] [] M (some (vi r), M) := by
  delta F_X12_parts_b33 at h
  refine GW_iconst (X := X_X12_parts) (pc := 33) (v := -1) d_X12_parts_33 (by decide) ?_
  replace h := Option.some.inj h
  subst h
  exact GW_ret (X := X_X12_parts) (pc := 34) d_X12_parts_34 rfl trivial
def F_X12_parts_b83 (k41 : Option Nat → Int32 → Int32 → Int32 → Int32 → Option Int32) (M : gM) (l0 : Option Nat) (l1 : Int32) (l2 : Int32) (l3 : Int32) (l4 : Int32) : Option Int32 :=
  k41 l0 l1 l2 l3 (l4 + 1)
theorem T_X12_parts_b83 (k41 : Option Nat → Int32 → Int32 → Int32 → Int32 → Option Int32) (M : gM) (r : Int32) (hk41 : ∀ (l0 : Option Nat) (l1 : Int32) (l2 : Int32) (l3 : Int32) (l4 : Int32), k41 l0 l1 l2 l3 l4 = some r → GW 2 0 0 X_X12_parts 41 [(0, vr l0), (1, vi l1), (2, vi l2), (3, vi l3), (4, vi l4)] [] M (some (vi r), M)) (l0 : Option Nat) (l1 : Int32) (l2 : Int32) (l3 : Int32) (l4 : Int32) (h : F_X12_parts_b83 k41 M l0 l1 l2 l3 l4 = some r) : GW 2 0 0 X_X12_parts 83 [(0, vr l0), (1, vi l1), (2, vi l2), (3, vi l3), (4, vi l4)] [] M (some (vi r), M) := by
  delta F_X12_parts_b83 at h
  refine GW_iinc (j := 4) (X := X_X12_parts) (pc := 83) d_X12_parts_83 rfl (congrArg (fun z => _ + z) (by decide : Int32.ofInt 1 = (1 : Int32))) (Nat.le_of_ble_eq_true rfl) (lv2 := [(4, vi (l4 + 1)), (0, vr l0), (1, vi l1), (2, vi l2), (3, vi l3)]) rfl ?_
  refine GW_goto (X := X_X12_parts) (pc := 86) 41 d_X12_parts_86 (by decide) ?_
  refine GW_sub [1, 2, 3, 4, 0] rfl ?_
  exact hk41 l0 l1 l2 l3 (l4 + 1) h
def F_X12_parts_b70 (k41 : Option Nat → Int32 → Int32 → Int32 → Int32 → Option Int32) (M : gM) (l0 : Option Nat) (l1 : Int32) (l2 : Int32) (l3 : Int32) (l4 : Int32) : Option Int32 :=
  (gO 12 M l0).bind fun i1 => (F_X12_areParted (some i1) l1 l4 M).bind fun v2 => if v2 = 0 then (F_X12_parts_b83 k41 M (some i1) l1 l2 l3 l4) else (F_X12_parts_b83 k41 M (some i1) l1 l2 l4 l4)
theorem T_X12_parts_b70 (k41 : Option Nat → Int32 → Int32 → Int32 → Int32 → Option Int32) (M : gM) (r : Int32) (hk41 : ∀ (l0 : Option Nat) (l1 : Int32) (l2 : Int32) (l3 : Int32) (l4 : Int32), k41 l0 l1 l2 l3 l4 = some r → GW 2 0 0 X_X12_parts 41 [(0, vr l0), (1, vi l1), (2, vi l2), (3, vi l3), (4, vi l4)] [] M (some (vi r), M)) (l0 : Option Nat) (l1 : Int32) (l2 : Int32) (l3 : Int32) (l4 : Int32) (h : F_X12_parts_b70 k41 M l0 l1 l2 l3 l4 = some r) : GW 2 0 0 X_X12_parts 70 [(0, vr l0), (1, vi l1), (2, vi l2), (3, vi l3), (4, vi l4)] [] M (some (vi r), M) := by
  delta F_X12_parts_b70 at h
  refine GW_aload_n (X := X_X12_parts) (pc := 70) d_X12_parts_70 rfl 0 rfl ?_
  refine GW_iload_n (X := X_X12_parts) (pc := 71) d_X12_parts_71 rfl 1 rfl ?_
  refine GW_iload (X := X_X12_parts) (pc := 72) d_X12_parts_72 4 rfl ?_
  replace h := g_bd h
  obtain ⟨i1, hi1, h⟩ := h
  obtain ⟨rfl, ki1⟩ := g_gO hi1
  replace h := g_bd h
  obtain ⟨v2, hv2, h⟩ := h
  refine GW_callV (X := X_X12_parts) (pc := 74) (bc0 := 0) (bs0 := 0) (r := some (vi v2)) (M2 := M) (c0 := 12) (T_X12_areParted (some i1) l1 l4 M v2 hv2) (Nat.le_of_ble_eq_true rfl) (Nat.le_of_ble_eq_true rfl) rfl g_cok12 ki1 yc_X12_areParted ⟨m_1611, m_1613, m_105, m_127, m_1614⟩ d_X12_parts_74 rfl (st := []) rfl (Nat.le_of_ble_eq_true rfl) (Nat.le_of_ble_eq_true rfl) (Nat.le_of_ble_eq_true rfl) (st2 := [vi v2]) rfl ?_
  refine GW_if_eq (X := X_X12_parts) (pc := 77) 83 d_X12_parts_77 (by decide) (fun c => ?_) (fun c => ?_)
  · replace h := g_ip c h
    exact T_X12_parts_b83 k41 M r hk41 (some i1) l1 l2 l3 l4 h
  · replace h := g_ie c h
    refine GW_iload (X := X_X12_parts) (pc := 80) d_X12_parts_80 4 rfl ?_
    refine GW_istore_n (X := X_X12_parts) (pc := 82) d_X12_parts_82 rfl (Nat.le_of_ble_eq_true rfl) (lv2 := [(3, vi l4), (0, vr (some i1)), (1, vi l1), (2, vi l2), (4, vi l4)]) rfl ?_
    refine GW_sub [1, 2, 3, 0, 4] rfl ?_
    exact T_X12_parts_b83 k41 M r hk41 (some i1) l1 l2 l4 l4 h
def F_X12_parts_b41 (k41 : Option Nat → Int32 → Int32 → Int32 → Int32 → Option Int32) (M : gM) (l0 : Option Nat) (l1 : Int32) (l2 : Int32) (l3 : Int32) (l4 : Int32) : Option Int32 :=
  (gR 12 M l0 20).bind fun v1 => (aI 20 M v1 (1 : Int32)).bind fun v2 => if ((1 : Int32) <<< (v2 &&& 31)) ≤ l4 then (if 0 ≤ l3 then (if l2 = 0 then ((F_X12_bits l3 M).bind fun v3 => some v3) else (some l3)) else (some (-2 : Int32))) else (if l3 < 0 then (F_X12_parts_b70 k41 M l0 l1 l2 l3 l4) else ((F_X12_bits l4 M).bind fun v4 => (F_X12_bits l3 M).bind fun v5 => if v5 ≤ v4 then (F_X12_parts_b83 k41 M l0 l1 l2 l3 l4) else (F_X12_parts_b70 k41 M l0 l1 l2 l3 l4)))
set_option maxHeartbeats 1000000 in
theorem T_X12_parts_b41 (k41 : Option Nat → Int32 → Int32 → Int32 → Int32 → Option Int32) (M : gM) (r : Int32) (hk41 : ∀ (l0 : Option Nat) (l1 : Int32) (l2 : Int32) (l3 : Int32) (l4 : Int32), k41 l0 l1 l2 l3 l4 = some r → GW 2 0 0 X_X12_parts 41 [(0, vr l0), (1, vi l1), (2, vi l2), (3, vi l3), (4, vi l4)] [] M (some (vi r), M)) (l0 : Option Nat) (l1 : Int32) (l2 : Int32) (l3 : Int32) (l4 : Int32) (h : F_X12_parts_b41 k41 M l0 l1 l2 l3 l4 = some r) : GW 2 0 0 X_X12_parts 41 [(0, vr l0), (1, vi l1), (2, vi l2), (3, vi l3), (4, vi l4)] [] M (some (vi r), M) := by
  delta F_X12_parts_b41 at h
  refine GW_iload (X := X_X12_parts) (pc := 41) d_X12_parts_41 4 rfl ?_
  refine GW_iconst (X := X_X12_parts) (pc := 43) (v := 1) d_X12_parts_43 (by decide) ?_
  refine GW_aload_n (X := X_X12_parts) (pc := 44) d_X12_parts_44 rfl 0 rfl ?_
  replace h := g_bd h
  obtain ⟨v1, hv1, h⟩ := h
  refine GW_getR (X := X_X12_parts) (pc := 45) f_X12_39 d_X12_parts_45 hv1 (Or.inr ⟨_, ty_12_20⟩) ?_
  refine GW_iconst (X := X_X12_parts) (pc := 48) (v := 1) d_X12_parts_48 (by decide) ?_
  replace h := g_bd h
  obtain ⟨v2, hv2, h⟩ := h
  refine GW_iald (X := X_X12_parts) (pc := 49) d_X12_parts_49 hv2 ?_
  refine GW_ishl (X := X_X12_parts) (pc := 50) d_X12_parts_50 ?_
  refine GW_icmp_ge (X := X_X12_parts) (pc := 51) 89 d_X12_parts_51 (by decide) (fun c => ?_) (fun c => ?_)
  · replace h := g_ip c h
    refine GW_iload_n (X := X_X12_parts) (pc := 89) d_X12_parts_89 rfl 3 rfl ?_
    refine GW_if_ge (X := X_X12_parts) (pc := 90) 98 d_X12_parts_90 (by decide) (fun c => ?_) (fun c => ?_)
    · replace h := g_ip c h
      refine GW_iload_n (X := X_X12_parts) (pc := 98) d_X12_parts_98 rfl 2 rfl ?_
      refine GW_if_ne (X := X_X12_parts) (pc := 99) 109 d_X12_parts_99 (by decide) (fun c => ?_) (fun c => ?_)
      · replace h := g_ie c h
        refine GW_iload_n (X := X_X12_parts) (pc := 109) d_X12_parts_109 rfl 3 rfl ?_
        replace h := Option.some.inj h
        subst h
        exact GW_ret (X := X_X12_parts) (pc := 110) d_X12_parts_110 rfl trivial
      · replace h := g_ip c h
        refine GW_iload_n (X := X_X12_parts) (pc := 102) d_X12_parts_102 rfl 3 rfl ?_
        replace h := g_bd h
        obtain ⟨v3, hv3, h⟩ := h
        refine GW_callS (X := X_X12_parts) (pc := 103) (bc0 := 0) (bs0 := 0) (r := some (vi v3)) (M2 := M) (T_X12_bits l3 M v3 hv3) (Nat.le_of_ble_eq_true rfl) (Nat.le_of_ble_eq_true rfl) yc_X12_bits ⟨m_1578, m_1579, m_127, m_1580⟩ d_X12_parts_103 rfl (st := []) rfl (Nat.le_of_ble_eq_true rfl) (Nat.le_of_ble_eq_true rfl) (Nat.le_of_ble_eq_true rfl) (st2 := [vi v3]) rfl ?_
        refine GW_goto (X := X_X12_parts) (pc := 106) 110 d_X12_parts_106 (by decide) ?_
        replace h := Option.some.inj h
        subst h
        exact GW_ret (X := X_X12_parts) (pc := 110) d_X12_parts_110 rfl trivial
    · replace h := g_ie c h
      refine GW_bipush (X := X_X12_parts) (pc := 93) (v := -2) d_X12_parts_93 (by decide) ?_
      refine GW_goto (X := X_X12_parts) (pc := 95) 110 d_X12_parts_95 (by decide) ?_
      replace h := Option.some.inj h
      subst h
      exact GW_ret (X := X_X12_parts) (pc := 110) d_X12_parts_110 rfl trivial
  · replace h := g_ie c h
    refine GW_iload_n (X := X_X12_parts) (pc := 54) d_X12_parts_54 rfl 3 rfl ?_
    refine GW_if_lt (X := X_X12_parts) (pc := 55) 70 d_X12_parts_55 (by decide) (fun c => ?_) (fun c => ?_)
    · replace h := g_ip c h
      exact T_X12_parts_b70 k41 M r hk41 l0 l1 l2 l3 l4 h
    · replace h := g_ie c h
      refine GW_iload (X := X_X12_parts) (pc := 58) d_X12_parts_58 4 rfl ?_
      replace h := g_bd h
      obtain ⟨v4, hv4, h⟩ := h
      refine GW_callS (X := X_X12_parts) (pc := 60) (bc0 := 0) (bs0 := 0) (r := some (vi v4)) (M2 := M) (T_X12_bits l4 M v4 hv4) (Nat.le_of_ble_eq_true rfl) (Nat.le_of_ble_eq_true rfl) yc_X12_bits ⟨m_1578, m_1579, m_127, m_1580⟩ d_X12_parts_60 rfl (st := []) rfl (Nat.le_of_ble_eq_true rfl) (Nat.le_of_ble_eq_true rfl) (Nat.le_of_ble_eq_true rfl) (st2 := [vi v4]) rfl ?_
      refine GW_iload_n (X := X_X12_parts) (pc := 63) d_X12_parts_63 rfl 3 rfl ?_
      replace h := g_bd h
      obtain ⟨v5, hv5, h⟩ := h
      refine GW_callS (X := X_X12_parts) (pc := 64) (bc0 := 0) (bs0 := 0) (r := some (vi v5)) (M2 := M) (T_X12_bits l3 M v5 hv5) (Nat.le_of_ble_eq_true rfl) (Nat.le_of_ble_eq_true rfl) yc_X12_bits ⟨m_1578, m_1579, m_127, m_1580⟩ d_X12_parts_64 rfl (st := [vi v4]) rfl (Nat.le_of_ble_eq_true rfl) (Nat.le_of_ble_eq_true rfl) (Nat.le_of_ble_eq_true rfl) (st2 := [vi v5, vi v4]) rfl ?_
      refine GW_icmp_ge (X := X_X12_parts) (pc := 67) 83 d_X12_parts_67 (by decide) (fun c => ?_) (fun c => ?_)
      · replace h := g_ip c h
        exact T_X12_parts_b83 k41 M r hk41 l0 l1 l2 l3 l4 h
      · replace h := g_ie c h
        exact T_X12_parts_b70 k41 M r hk41 l0 l1 l2 l3 l4 h
def F_X12_parts_L41 (M : gM) : Nat → Option Nat → Int32 → Int32 → Int32 → Int32 → Option Int32
  | 0 => fun _ _ _ _ _ => none
  | n + 1 => F_X12_parts_b41 (F_X12_parts_L41 M n) M
theorem T_X12_parts_L41 (M : gM) (r : Int32) : ∀ (n : Nat) (l0 : Option Nat) (l1 : Int32) (l2 : Int32) (l3 : Int32) (l4 : Int32), F_X12_parts_L41 M n l0 l1 l2 l3 l4 = some r → GW 2 0 0 X_X12_parts 41 [(0, vr l0), (1, vi l1), (2, vi l2), (3, vi l3), (4, vi l4)] [] M (some (vi r), M) := by
  intro n
  induction n with
  | zero => intro l0 l1 l2 l3 l4 h; exact g_no h
  | succ n ih => intro l0 l1 l2 l3 l4 h; exact T_X12_parts_b41 (F_X12_parts_L41 M n) M r ih l0 l1 l2 l3 l4 h
def F_X12_parts_b0 (M : gM) (l0 : Option Nat) (l1 : Int32) (l2 : Int32) : Option Int32 :=
  (gO 12 M l0).bind fun i1 => (F_X12_isHouse (some i1) M).bind fun v2 => if v2 = 0 then (F_X12_parts_b33 M ) else (if l1 < 0 then (F_X12_parts_b33 M ) else ((gR 12 M (some i1) 20).bind fun v3 => (aI 20 M v3 (2 : Int32)).bind fun v4 => if ((1 : Int32) <<< (v4 &&& 31)) ≤ l1 then (F_X12_parts_b33 M ) else ((F_X12_in (l2).toInt64 (0 : Int64) (1 : Int64) M).bind fun v5 => if v5 = 0 then (F_X12_parts_b33 M ) else (F_X12_parts_L41 M g_fuel (some i1) l1 l2 (-2 : Int32) (0 : Int32)))))
set_option maxHeartbeats 1000000 in
theorem T_X12_parts_b0 (M : gM) (r : Int32) (l0 : Option Nat) (l1 : Int32) (l2 : Int32) (h : F_X12_parts_b0 M l0 l1 l2 = some r) : GW 2 0 0 X_X12_parts 0 [(0, vr l0), (1, vi l1), (2, vi l2)] [] M (some (vi r), M) := by
  delta F_X12_parts_b0 at h
  refine GW_aload_n (X := X_X12_parts) (pc := 0) d_X12_parts_0 rfl 0 rfl ?_
  replace h := g_bd h
  obtain ⟨i1, hi1, h⟩ := h
  obtain ⟨rfl, ki1⟩ := g_gO hi1
  replace h := g_bd h
  obtain ⟨v2, hv2, h⟩ := h
  refine GW_callV (X := X_X12_parts) (pc := 1) (bc0 := 0) (bs0 := 0) (r := some (vi v2)) (M2 := M) (c0 := 12) (T_X12_isHouse (some i1) M v2 hv2) (Nat.le_of_ble_eq_true rfl) (Nat.le_of_ble_eq_true rfl) rfl g_cok12 ki1 yc_X12_isHouse ⟨m_1469, m_1471, m_85, m_127, m_1472⟩ d_X12_parts_1 rfl (st := []) rfl (Nat.le_of_ble_eq_true rfl) (Nat.le_of_ble_eq_true rfl) (Nat.le_of_ble_eq_true rfl) (st2 := [vi v2]) rfl ?_
  refine GW_if_eq (X := X_X12_parts) (pc := 4) 33 d_X12_parts_4 (by decide) (fun c => ?_) (fun c => ?_)
  · replace h := g_ip c h
    refine GW_sub [] rfl ?_
    exact T_X12_parts_b33 M r  h
  · replace h := g_ie c h
    refine GW_iload_n (X := X_X12_parts) (pc := 7) d_X12_parts_7 rfl 1 rfl ?_
    refine GW_if_lt (X := X_X12_parts) (pc := 8) 33 d_X12_parts_8 (by decide) (fun c => ?_) (fun c => ?_)
    · replace h := g_ip c h
      refine GW_sub [] rfl ?_
      exact T_X12_parts_b33 M r  h
    · replace h := g_ie c h
      refine GW_iload_n (X := X_X12_parts) (pc := 11) d_X12_parts_11 rfl 1 rfl ?_
      refine GW_iconst (X := X_X12_parts) (pc := 12) (v := 1) d_X12_parts_12 (by decide) ?_
      refine GW_aload_n (X := X_X12_parts) (pc := 13) d_X12_parts_13 rfl 0 rfl ?_
      replace h := g_bd h
      obtain ⟨v3, hv3, h⟩ := h
      refine GW_getR (X := X_X12_parts) (pc := 14) f_X12_39 d_X12_parts_14 hv3 (Or.inr ⟨_, ty_12_20⟩) ?_
      refine GW_iconst (X := X_X12_parts) (pc := 17) (v := 2) d_X12_parts_17 (by decide) ?_
      replace h := g_bd h
      obtain ⟨v4, hv4, h⟩ := h
      refine GW_iald (X := X_X12_parts) (pc := 18) d_X12_parts_18 hv4 ?_
      refine GW_ishl (X := X_X12_parts) (pc := 19) d_X12_parts_19 ?_
      refine GW_icmp_ge (X := X_X12_parts) (pc := 20) 33 d_X12_parts_20 (by decide) (fun c => ?_) (fun c => ?_)
      · replace h := g_ip c h
        refine GW_sub [] rfl ?_
        exact T_X12_parts_b33 M r  h
      · replace h := g_ie c h
        refine GW_iload_n (X := X_X12_parts) (pc := 23) d_X12_parts_23 rfl 2 rfl ?_
        refine GW_i2l (X := X_X12_parts) (pc := 24) d_X12_parts_24 ?_
        refine GW_lconst (X := X_X12_parts) (pc := 25) (v := 0) d_X12_parts_25 (by decide) ?_
        refine GW_lconst (X := X_X12_parts) (pc := 26) (v := 1) d_X12_parts_26 (by decide) ?_
        replace h := g_bd h
        obtain ⟨v5, hv5, h⟩ := h
        refine GW_callS (X := X_X12_parts) (pc := 27) (bc0 := 0) (bs0 := 0) (r := some (vi v5)) (M2 := M) (T_X12_in (l2).toInt64 (0 : Int64) (1 : Int64) M v5 hv5) (Nat.le_of_ble_eq_true rfl) (Nat.le_of_ble_eq_true rfl) yc_X12_in ⟨m_1291, m_1292, m_127, m_1293⟩ d_X12_parts_27 rfl (st := []) rfl (Nat.le_of_ble_eq_true rfl) (Nat.le_of_ble_eq_true rfl) (Nat.le_of_ble_eq_true rfl) (st2 := [vi v5]) rfl ?_
        refine GW_if_ne (X := X_X12_parts) (pc := 30) 35 d_X12_parts_30 (by decide) (fun c => ?_) (fun c => ?_)
        · replace h := g_ie c h
          refine GW_bipush (X := X_X12_parts) (pc := 35) (v := -2) d_X12_parts_35 (by decide) ?_
          refine GW_istore_n (X := X_X12_parts) (pc := 37) d_X12_parts_37 rfl (Nat.le_of_ble_eq_true rfl) (lv2 := [(3, vi (-2 : Int32)), (0, vr (some i1)), (1, vi l1), (2, vi l2)]) rfl ?_
          refine GW_iconst (X := X_X12_parts) (pc := 38) (v := 0) d_X12_parts_38 (by decide) ?_
          refine GW_istore (X := X_X12_parts) (pc := 39) d_X12_parts_39 (Nat.le_of_ble_eq_true rfl) (lv2 := [(4, vi (0 : Int32)), (3, vi (-2 : Int32)), (0, vr (some i1)), (1, vi l1), (2, vi l2)]) rfl ?_
          refine GW_sub [2, 3, 4, 1, 0] rfl ?_
          exact T_X12_parts_L41 M r g_fuel (some i1) l1 l2 (-2 : Int32) (0 : Int32) h
        · replace h := g_ip c h
          refine GW_sub [] rfl ?_
          exact T_X12_parts_b33 M r  h
def F_X12_parts (l0 : Option Nat) (l1 : Int32) (l2 : Int32) (M : gM) : Option Int32 := F_X12_parts_b0 M l0 l1 l2
theorem T_X12_parts (l0 : Option Nat) (l1 : Int32) (l2 : Int32) (M : gM) (r : Int32) (h : F_X12_parts l0 l1 l2 M = some r) : g_Met 2 0 0 yX12_parts X_X12_parts [vr l0, vi l1, vi l2] M (some (vi r), M) :=
  g_Met_of pn_RX12 rfl (Nat.le_of_ble_eq_true rfl) (fun h => by cases h) (GW_sub [0, 1, 2] rfl (T_X12_parts_b0 M r l0 l1 l2 h))
/-! ForgetHeirs$Forests.clear(I)V -/
theorem d_X0_clear_0 : decode cX0_clear 0 = .ok (.aload_n 0, 1) := by decide +kernel
theorem d_X0_clear_1 : decode cX0_clear 1 = .ok (.bipush 7, 2) := by decide +kernel
theorem d_X0_clear_3 : decode cX0_clear 3 = .ok (.iload_n 1, 1) := by decide +kernel
theorem d_X0_clear_4 : decode cX0_clear 4 = .ok (.invokestatic 19, 3) := by decide +kernel
theorem d_X0_clear_7 : decode cX0_clear 7 = .ok (.putfield 15, 3) := by decide +kernel
theorem d_X0_clear_10 : decode cX0_clear 10 = .ok (.iconst 0, 1) := by decide +kernel
theorem d_X0_clear_11 : decode cX0_clear 11 = .ok (.istore_n 2, 1) := by decide +kernel
theorem d_X0_clear_12 : decode cX0_clear 12 = .ok (.iload_n 2, 1) := by decide +kernel
theorem d_X0_clear_13 : decode cX0_clear 13 = .ok (.bipush 49, 2) := by decide +kernel
theorem d_X0_clear_15 : decode cX0_clear 15 = .ok (.if_icmp .ge 31, 3) := by decide +kernel
theorem d_X0_clear_18 : decode cX0_clear 18 = .ok (.aload_n 0, 1) := by decide +kernel
theorem d_X0_clear_19 : decode cX0_clear 19 = .ok (.getfield 9, 3) := by decide +kernel
theorem d_X0_clear_22 : decode cX0_clear 22 = .ok (.iload_n 2, 1) := by decide +kernel
theorem d_X0_clear_23 : decode cX0_clear 23 = .ok (.iload_n 2, 1) := by decide +kernel
theorem d_X0_clear_24 : decode cX0_clear 24 = .ok (.bipush 7, 2) := by decide +kernel
theorem d_X0_clear_26 : decode cX0_clear 26 = .ok (.idiv, 1) := by decide +kernel
theorem d_X0_clear_27 : decode cX0_clear 27 = .ok (.iload_n 2, 1) := by decide +kernel
theorem d_X0_clear_28 : decode cX0_clear 28 = .ok (.bipush 7, 2) := by decide +kernel
theorem d_X0_clear_30 : decode cX0_clear 30 = .ok (.irem, 1) := by decide +kernel
theorem d_X0_clear_31 : decode cX0_clear 31 = .ok (.if_icmp .ne 7, 3) := by decide +kernel
theorem d_X0_clear_34 : decode cX0_clear 34 = .ok (.lconst 1, 1) := by decide +kernel
theorem d_X0_clear_35 : decode cX0_clear 35 = .ok (.goto 4, 3) := by decide +kernel
theorem d_X0_clear_38 : decode cX0_clear 38 = .ok (.lconst 0, 1) := by decide +kernel
theorem d_X0_clear_39 : decode cX0_clear 39 = .ok (.lastore, 1) := by decide +kernel
theorem d_X0_clear_40 : decode cX0_clear 40 = .ok (.iinc 2 1, 3) := by decide +kernel
theorem d_X0_clear_43 : decode cX0_clear 43 = .ok (.goto (-31), 3) := by decide +kernel
theorem d_X0_clear_46 : decode cX0_clear 46 = .ok (.return_, 1) := by decide +kernel
abbrev X_X0_clear : gX := (RX0, cX0_clear, 3, none, false)
def F_X0_clear_b39 (k12 : Option Nat → Int32 → gM → Option gM) (l0 : Option Nat) (l2 : Int32) (s0 : Option Nat) (s1 : Int32) (s2 : Int64) (M : gM) : Option gM :=
  (sL M s0 s1 s2).bind fun M1 => k12 l0 (l2 + 1) M1
theorem T_X0_clear_b39 (k12 : Option Nat → Int32 → gM → Option gM) (r : gM) (hk12 : ∀ (l0 : Option Nat) (l2 : Int32) (M : gM), k12 l0 l2 M = some r → GW 1 0 0 X_X0_clear 12 [(0, vr l0), (2, vi l2)] [] M (none, r)) (l0 : Option Nat) (l2 : Int32) (s0 : Option Nat) (s1 : Int32) (s2 : Int64) (M : gM) (h : F_X0_clear_b39 k12 l0 l2 s0 s1 s2 M = some r) : GW 1 0 0 X_X0_clear 39 [(0, vr l0), (2, vi l2)] [vl s2, vi s1, vr s0] M (none, r) := by
  delta F_X0_clear_b39 at h
  replace h := g_bd h
  obtain ⟨M1, hM1, h⟩ := h
  refine GW_last (X := X_X0_clear) (pc := 39) d_X0_clear_39 hM1 ?_
  refine GW_iinc (j := 1) (X := X_X0_clear) (pc := 40) d_X0_clear_40 rfl (congrArg (fun z => _ + z) (by decide : Int32.ofInt 1 = (1 : Int32))) (Nat.le_of_ble_eq_true rfl) (lv2 := [(2, vi (l2 + 1)), (0, vr l0)]) rfl ?_
  refine GW_goto (X := X_X0_clear) (pc := 43) 12 d_X0_clear_43 (by decide) ?_
  refine GW_sub [1, 0] rfl ?_
  exact hk12 l0 (l2 + 1) M1 h
def F_X0_clear_b12 (k12 : Option Nat → Int32 → gM → Option gM) (l0 : Option Nat) (l2 : Int32) (M : gM) : Option gM :=
  if (49 : Int32) ≤ l2 then (some M) else ((gR 0 M l0 0).bind fun v1 => if (l2 / (7 : Int32)) = (l2 - l2 / (7 : Int32) * (7 : Int32)) then (F_X0_clear_b39 k12 l0 l2 v1 l2 (1 : Int64) M) else (F_X0_clear_b39 k12 l0 l2 v1 l2 (0 : Int64) M))
theorem T_X0_clear_b12 (k12 : Option Nat → Int32 → gM → Option gM) (r : gM) (hk12 : ∀ (l0 : Option Nat) (l2 : Int32) (M : gM), k12 l0 l2 M = some r → GW 1 0 0 X_X0_clear 12 [(0, vr l0), (2, vi l2)] [] M (none, r)) (l0 : Option Nat) (l2 : Int32) (M : gM) (h : F_X0_clear_b12 k12 l0 l2 M = some r) : GW 1 0 0 X_X0_clear 12 [(0, vr l0), (2, vi l2)] [] M (none, r) := by
  delta F_X0_clear_b12 at h
  refine GW_iload_n (X := X_X0_clear) (pc := 12) d_X0_clear_12 rfl 1 rfl ?_
  refine GW_bipush (X := X_X0_clear) (pc := 13) (v := 49) d_X0_clear_13 (by decide) ?_
  refine GW_icmp_ge (X := X_X0_clear) (pc := 15) 46 d_X0_clear_15 (by decide) (fun c => ?_) (fun c => ?_)
  · replace h := g_ip c h
    replace h := Option.some.inj h
    subst h
    exact GW_ret (X := X_X0_clear) (pc := 46) d_X0_clear_46 rfl trivial
  · replace h := g_ie c h
    refine GW_aload_n (X := X_X0_clear) (pc := 18) d_X0_clear_18 rfl 0 rfl ?_
    replace h := g_bd h
    obtain ⟨v1, hv1, h⟩ := h
    refine GW_getR (X := X_X0_clear) (pc := 19) f_X0_9 d_X0_clear_19 hv1 (Or.inr ⟨_, ty_0_0⟩) ?_
    refine GW_iload_n (X := X_X0_clear) (pc := 22) d_X0_clear_22 rfl 1 rfl ?_
    refine GW_iload_n (X := X_X0_clear) (pc := 23) d_X0_clear_23 rfl 1 rfl ?_
    refine GW_bipush (X := X_X0_clear) (pc := 24) (v := 7) d_X0_clear_24 (by decide) ?_
    refine GW_idiv (X := X_X0_clear) (pc := 26) d_X0_clear_26 (by decide) ?_
    refine GW_iload_n (X := X_X0_clear) (pc := 27) d_X0_clear_27 rfl 1 rfl ?_
    refine GW_bipush (X := X_X0_clear) (pc := 28) (v := 7) d_X0_clear_28 (by decide) ?_
    refine GW_irem (X := X_X0_clear) (pc := 30) d_X0_clear_30 (by decide) ?_
    refine GW_icmp_ne (X := X_X0_clear) (pc := 31) 38 d_X0_clear_31 (by decide) (fun c => ?_) (fun c => ?_)
    · replace h := g_ie c h
      refine GW_lconst (X := X_X0_clear) (pc := 38) (v := 0) d_X0_clear_38 (by decide) ?_
      exact T_X0_clear_b39 k12 r hk12 l0 l2 v1 l2 (0 : Int64) M h
    · replace h := g_ip c h
      refine GW_lconst (X := X_X0_clear) (pc := 34) (v := 1) d_X0_clear_34 (by decide) ?_
      refine GW_goto (X := X_X0_clear) (pc := 35) 39 d_X0_clear_35 (by decide) ?_
      exact T_X0_clear_b39 k12 r hk12 l0 l2 v1 l2 (1 : Int64) M h
def F_X0_clear_L12 : Nat → Option Nat → Int32 → gM → Option gM
  | 0 => fun _ _ _ => none
  | n + 1 => F_X0_clear_b12 (F_X0_clear_L12 n)
theorem T_X0_clear_L12 (r : gM) : ∀ (n : Nat) (l0 : Option Nat) (l2 : Int32) (M : gM), F_X0_clear_L12 n l0 l2 M = some r → GW 1 0 0 X_X0_clear 12 [(0, vr l0), (2, vi l2)] [] M (none, r) := by
  intro n
  induction n with
  | zero => intro l0 l2 M h; exact g_no h
  | succ n ih => intro l0 l2 M h; exact T_X0_clear_b12 (F_X0_clear_L12 n) r ih l0 l2 M h
def F_X0_clear_b0 (l0 : Option Nat) (l1 : Int32) (M : gM) : Option gM :=
  (pI 0 M l0 1 (if l1 < (7 : Int32) then l1 else (7 : Int32))).bind fun M1 => F_X0_clear_L12 g_fuel l0 (0 : Int32) M1
theorem T_X0_clear_b0 (r : gM) (l0 : Option Nat) (l1 : Int32) (M : gM) (h : F_X0_clear_b0 l0 l1 M = some r) : GW 1 0 0 X_X0_clear 0 [(0, vr l0), (1, vi l1)] [] M (none, r) := by
  delta F_X0_clear_b0 at h
  refine GW_aload_n (X := X_X0_clear) (pc := 0) d_X0_clear_0 rfl 0 rfl ?_
  refine GW_bipush (X := X_X0_clear) (pc := 1) (v := 7) d_X0_clear_1 (by decide) ?_
  refine GW_iload_n (X := X_X0_clear) (pc := 3) d_X0_clear_3 rfl 1 rfl ?_
  refine GW_mmin (X := X_X0_clear) (pc := 4) m_1049 d_X0_clear_4 (Nat.le_of_ble_eq_true rfl) (Nat.le_of_ble_eq_true rfl) ?_
  replace h := g_bd h
  obtain ⟨M1, hM1, h⟩ := h
  refine GW_putI (X := X_X0_clear) (pc := 7) f_X0_15 d_X0_clear_7 hM1 (Or.inl fi_0_1) (Or.inl ty_0_1) ?_
  refine GW_iconst (X := X_X0_clear) (pc := 10) (v := 0) d_X0_clear_10 (by decide) ?_
  refine GW_istore_n (X := X_X0_clear) (pc := 11) d_X0_clear_11 rfl (Nat.le_of_ble_eq_true rfl) (lv2 := [(2, vi (0 : Int32)), (0, vr l0), (1, vi l1)]) rfl ?_
  refine GW_sub [1, 0] rfl ?_
  exact T_X0_clear_L12 r g_fuel l0 (0 : Int32) M1 h
def F_X0_clear (l0 : Option Nat) (l1 : Int32) (M : gM) : Option gM := F_X0_clear_b0 l0 l1 M
theorem T_X0_clear (l0 : Option Nat) (l1 : Int32) (M : gM) (r : gM) (h : F_X0_clear l0 l1 M = some r) : g_Met 1 0 0 yX0_clear X_X0_clear [vr l0, vi l1] M (none, r) :=
  g_Met_of pn_RX0 rfl (Nat.le_of_ble_eq_true rfl) (fun h => by cases h) (GW_sub [0, 1] rfl (T_X0_clear_b0 r l0 l1 M h))
/-! ForgetHeirs.sharers(II)I -/
theorem d_X11_sharers_0 : decode cX11_sharers 0 = .ok (.aload_n 0, 1) := by decide +kernel
theorem d_X11_sharers_1 : decode cX11_sharers 1 = .ok (.getfield 25, 3) := by decide +kernel
theorem d_X11_sharers_4 : decode cX11_sharers 4 = .ok (.aload_n 0, 1) := by decide +kernel
theorem d_X11_sharers_5 : decode cX11_sharers 5 = .ok (.getfield 59, 3) := by decide +kernel
theorem d_X11_sharers_8 : decode cX11_sharers 8 = .ok (.iload_n 1, 1) := by decide +kernel
theorem d_X11_sharers_9 : decode cX11_sharers 9 = .ok (.iload_n 2, 1) := by decide +kernel
theorem d_X11_sharers_10 : decode cX11_sharers 10 = .ok (.invokevirtual 304, 3) := by decide +kernel
theorem d_X11_sharers_13 : decode cX11_sharers 13 = .ok (.ifCond .ne 5, 3) := by decide +kernel
theorem d_X11_sharers_16 : decode cX11_sharers 16 = .ok (.iconst 0, 1) := by decide +kernel
theorem d_X11_sharers_17 : decode cX11_sharers 17 = .ok (.ireturn, 1) := by decide +kernel
theorem d_X11_sharers_18 : decode cX11_sharers 18 = .ok (.aload_n 0, 1) := by decide +kernel
theorem d_X11_sharers_19 : decode cX11_sharers 19 = .ok (.getfield 59, 3) := by decide +kernel
theorem d_X11_sharers_22 : decode cX11_sharers 22 = .ok (.getfield 144, 3) := by decide +kernel
theorem d_X11_sharers_25 : decode cX11_sharers 25 = .ok (.iload_n 1, 1) := by decide +kernel
theorem d_X11_sharers_26 : decode cX11_sharers 26 = .ok (.iaload, 1) := by decide +kernel
theorem d_X11_sharers_27 : decode cX11_sharers 27 = .ok (.aload_n 0, 1) := by decide +kernel
theorem d_X11_sharers_28 : decode cX11_sharers 28 = .ok (.getfield 25, 3) := by decide +kernel
theorem d_X11_sharers_31 : decode cX11_sharers 31 = .ok (.aload_n 0, 1) := by decide +kernel
theorem d_X11_sharers_32 : decode cX11_sharers 32 = .ok (.getfield 59, 3) := by decide +kernel
theorem d_X11_sharers_35 : decode cX11_sharers 35 = .ok (.iload_n 2, 1) := by decide +kernel
theorem d_X11_sharers_36 : decode cX11_sharers 36 = .ok (.aload_n 0, 1) := by decide +kernel
theorem d_X11_sharers_37 : decode cX11_sharers 37 = .ok (.getfield 25, 3) := by decide +kernel
theorem d_X11_sharers_40 : decode cX11_sharers 40 = .ok (.getfield 181, 3) := by decide +kernel
theorem d_X11_sharers_43 : decode cX11_sharers 43 = .ok (.iload_n 1, 1) := by decide +kernel
theorem d_X11_sharers_44 : decode cX11_sharers 44 = .ok (.bipush 7, 2) := by decide +kernel
theorem d_X11_sharers_46 : decode cX11_sharers 46 = .ok (.imul, 1) := by decide +kernel
theorem d_X11_sharers_47 : decode cX11_sharers 47 = .ok (.iload_n 2, 1) := by decide +kernel
theorem d_X11_sharers_48 : decode cX11_sharers 48 = .ok (.iadd, 1) := by decide +kernel
theorem d_X11_sharers_49 : decode cX11_sharers 49 = .ok (.iaload, 1) := by decide +kernel
theorem d_X11_sharers_50 : decode cX11_sharers 50 = .ok (.invokevirtual 308, 3) := by decide +kernel
theorem d_X11_sharers_53 : decode cX11_sharers 53 = .ok (.iand, 1) := by decide +kernel
theorem d_X11_sharers_54 : decode cX11_sharers 54 = .ok (.ireturn, 1) := by decide +kernel
abbrev X_X11_sharers : gX := (RX11, cX11_sharers, 3, (some .int), false)
def F_X11_sharers_b0 (M : gM) (l0 : Option Nat) (l1 : Int32) (l2 : Int32) : Option Int32 :=
  (gR 11 M l0 5).bind fun v1 => (gR 11 M l0 11).bind fun v2 => (gO 8 M v1).bind fun i3 => (F_X8_errs (some i3) v2 l1 l2 M).bind fun v4 => if v4 = 0 then (some (0 : Int32)) else ((gR 11 M l0 11).bind fun v5 => (gR 1 M v5 4).bind fun v6 => (aI 20 M v6 l1).bind fun v7 => (gR 11 M l0 5).bind fun v8 => (gR 11 M l0 11).bind fun v9 => (gR 11 M l0 5).bind fun v10 => (gR 8 M v10 0).bind fun v11 => (aI 20 M v11 ((l1 * (7 : Int32)) + l2)).bind fun v12 => (gO 8 M v8).bind fun i13 => (F_X8_knowersAs (some i13) v9 l2 v12 M).bind fun v14 => some (v7 &&& v14))
set_option maxHeartbeats 1000000 in
theorem T_X11_sharers_b0 (M : gM) (r : Int32) (l0 : Option Nat) (l1 : Int32) (l2 : Int32) (h : F_X11_sharers_b0 M l0 l1 l2 = some r) : GW 1 0 0 X_X11_sharers 0 [(0, vr l0), (1, vi l1), (2, vi l2)] [] M (some (vi r), M) := by
  delta F_X11_sharers_b0 at h
  refine GW_aload_n (X := X_X11_sharers) (pc := 0) d_X11_sharers_0 rfl 0 rfl ?_
  replace h := g_bd h
  obtain ⟨v1, hv1, h⟩ := h
  refine GW_getR (X := X_X11_sharers) (pc := 1) f_X11_25 d_X11_sharers_1 hv1 (Or.inl ⟨_, ty_11_5⟩) ?_
  refine GW_aload_n (X := X_X11_sharers) (pc := 4) d_X11_sharers_4 rfl 0 rfl ?_
  replace h := g_bd h
  obtain ⟨v2, hv2, h⟩ := h
  refine GW_getR (X := X_X11_sharers) (pc := 5) f_X11_59 d_X11_sharers_5 hv2 (Or.inl ⟨_, ty_11_11⟩) ?_
  refine GW_iload_n (X := X_X11_sharers) (pc := 8) d_X11_sharers_8 rfl 1 rfl ?_
  refine GW_iload_n (X := X_X11_sharers) (pc := 9) d_X11_sharers_9 rfl 2 rfl ?_
  replace h := g_bd h
  obtain ⟨i3, hi3, h⟩ := h
  obtain ⟨rfl, ki3⟩ := g_gO hi3
  replace h := g_bd h
  obtain ⟨v4, hv4, h⟩ := h
  refine GW_callV (X := X_X11_sharers) (pc := 10) (bc0 := 0) (bs0 := 0) (r := some (vi v4)) (M2 := M) (c0 := 8) (T_X8_errs (some i3) v2 l1 l2 M v4 hv4) (Nat.le_of_ble_eq_true rfl) (Nat.le_of_ble_eq_true rfl) rfl g_cok8 ki3 yc_X8_errs ⟨m_1054, m_936, m_937, m_119, m_938⟩ d_X11_sharers_10 rfl (st := []) rfl (Nat.le_of_ble_eq_true rfl) (Nat.le_of_ble_eq_true rfl) (Nat.le_of_ble_eq_true rfl) (st2 := [vi v4]) rfl ?_
  refine GW_if_ne (X := X_X11_sharers) (pc := 13) 18 d_X11_sharers_13 (by decide) (fun c => ?_) (fun c => ?_)
  · replace h := g_ie c h
    refine GW_aload_n (X := X_X11_sharers) (pc := 18) d_X11_sharers_18 rfl 0 rfl ?_
    replace h := g_bd h
    obtain ⟨v5, hv5, h⟩ := h
    refine GW_getR (X := X_X11_sharers) (pc := 19) f_X11_59 d_X11_sharers_19 hv5 (Or.inl ⟨_, ty_11_11⟩) ?_
    replace h := g_bd h
    obtain ⟨v6, hv6, h⟩ := h
    refine GW_getR (X := X_X11_sharers) (pc := 22) f_X11_144 d_X11_sharers_22 hv6 (Or.inr ⟨_, ty_1_4⟩) ?_
    refine GW_iload_n (X := X_X11_sharers) (pc := 25) d_X11_sharers_25 rfl 1 rfl ?_
    replace h := g_bd h
    obtain ⟨v7, hv7, h⟩ := h
    refine GW_iald (X := X_X11_sharers) (pc := 26) d_X11_sharers_26 hv7 ?_
    refine GW_aload_n (X := X_X11_sharers) (pc := 27) d_X11_sharers_27 rfl 0 rfl ?_
    replace h := g_bd h
    obtain ⟨v8, hv8, h⟩ := h
    refine GW_getR (X := X_X11_sharers) (pc := 28) f_X11_25 d_X11_sharers_28 hv8 (Or.inl ⟨_, ty_11_5⟩) ?_
    refine GW_aload_n (X := X_X11_sharers) (pc := 31) d_X11_sharers_31 rfl 0 rfl ?_
    replace h := g_bd h
    obtain ⟨v9, hv9, h⟩ := h
    refine GW_getR (X := X_X11_sharers) (pc := 32) f_X11_59 d_X11_sharers_32 hv9 (Or.inl ⟨_, ty_11_11⟩) ?_
    refine GW_iload_n (X := X_X11_sharers) (pc := 35) d_X11_sharers_35 rfl 2 rfl ?_
    refine GW_aload_n (X := X_X11_sharers) (pc := 36) d_X11_sharers_36 rfl 0 rfl ?_
    replace h := g_bd h
    obtain ⟨v10, hv10, h⟩ := h
    refine GW_getR (X := X_X11_sharers) (pc := 37) f_X11_25 d_X11_sharers_37 hv10 (Or.inl ⟨_, ty_11_5⟩) ?_
    replace h := g_bd h
    obtain ⟨v11, hv11, h⟩ := h
    refine GW_getR (X := X_X11_sharers) (pc := 40) f_X11_181 d_X11_sharers_40 hv11 (Or.inr ⟨_, ty_8_0⟩) ?_
    refine GW_iload_n (X := X_X11_sharers) (pc := 43) d_X11_sharers_43 rfl 1 rfl ?_
    refine GW_bipush (X := X_X11_sharers) (pc := 44) (v := 7) d_X11_sharers_44 (by decide) ?_
    refine GW_imul (X := X_X11_sharers) (pc := 46) d_X11_sharers_46 ?_
    refine GW_iload_n (X := X_X11_sharers) (pc := 47) d_X11_sharers_47 rfl 2 rfl ?_
    refine GW_iadd (X := X_X11_sharers) (pc := 48) d_X11_sharers_48 ?_
    replace h := g_bd h
    obtain ⟨v12, hv12, h⟩ := h
    refine GW_iald (X := X_X11_sharers) (pc := 49) d_X11_sharers_49 hv12 ?_
    replace h := g_bd h
    obtain ⟨i13, hi13, h⟩ := h
    obtain ⟨rfl, ki13⟩ := g_gO hi13
    replace h := g_bd h
    obtain ⟨v14, hv14, h⟩ := h
    refine GW_callV (X := X_X11_sharers) (pc := 50) (bc0 := 0) (bs0 := 0) (r := some (vi v14)) (M2 := M) (c0 := 8) (T_X8_knowersAs (some i13) v9 l2 v12 M v14 hv14) (Nat.le_of_ble_eq_true rfl) (Nat.le_of_ble_eq_true rfl) rfl g_cok8 ki13 yc_X8_knowersAs ⟨m_1055, m_854, m_855, m_119, m_856⟩ d_X11_sharers_50 rfl (st := [vi v7]) rfl (Nat.le_of_ble_eq_true rfl) (Nat.le_of_ble_eq_true rfl) (Nat.le_of_ble_eq_true rfl) (st2 := [vi v14, vi v7]) rfl ?_
    refine GW_iand (X := X_X11_sharers) (pc := 53) d_X11_sharers_53 ?_
    replace h := Option.some.inj h
    subst h
    exact GW_ret (X := X_X11_sharers) (pc := 54) d_X11_sharers_54 rfl trivial
  · replace h := g_ip c h
    refine GW_iconst (X := X_X11_sharers) (pc := 16) (v := 0) d_X11_sharers_16 (by decide) ?_
    replace h := Option.some.inj h
    subst h
    exact GW_ret (X := X_X11_sharers) (pc := 17) d_X11_sharers_17 rfl trivial
def F_X11_sharers (l0 : Option Nat) (l1 : Int32) (l2 : Int32) (M : gM) : Option Int32 := F_X11_sharers_b0 M l0 l1 l2
theorem T_X11_sharers (l0 : Option Nat) (l1 : Int32) (l2 : Int32) (M : gM) (r : Int32) (h : F_X11_sharers l0 l1 l2 M = some r) : g_Met 1 0 0 yX11_sharers X_X11_sharers [vr l0, vi l1, vi l2] M (some (vi r), M) :=
  g_Met_of pn_RX11 rfl (Nat.le_of_ble_eq_true rfl) (fun h => by cases h) (GW_sub [0, 1, 2] rfl (T_X11_sharers_b0 M r l0 l1 l2 h))
/-! ForgetHeirs$Forests.join(II)V -/
theorem d_X0_join_0 : decode cX0_join 0 = .ok (.aload_n 0, 1) := by decide +kernel
theorem d_X0_join_1 : decode cX0_join 1 = .ok (.getfield 9, 3) := by decide +kernel
theorem d_X0_join_4 : decode cX0_join 4 = .ok (.iload_n 1, 1) := by decide +kernel
theorem d_X0_join_5 : decode cX0_join 5 = .ok (.bipush 7, 2) := by decide +kernel
theorem d_X0_join_7 : decode cX0_join 7 = .ok (.imul, 1) := by decide +kernel
theorem d_X0_join_8 : decode cX0_join 8 = .ok (.iload_n 1, 1) := by decide +kernel
theorem d_X0_join_9 : decode cX0_join 9 = .ok (.iadd, 1) := by decide +kernel
theorem d_X0_join_10 : decode cX0_join 10 = .ok (.dup2, 1) := by decide +kernel
theorem d_X0_join_11 : decode cX0_join 11 = .ok (.laload, 1) := by decide +kernel
theorem d_X0_join_12 : decode cX0_join 12 = .ok (.lconst 1, 1) := by decide +kernel
theorem d_X0_join_13 : decode cX0_join 13 = .ok (.ladd, 1) := by decide +kernel
theorem d_X0_join_14 : decode cX0_join 14 = .ok (.lastore, 1) := by decide +kernel
theorem d_X0_join_15 : decode cX0_join 15 = .ok (.aload_n 0, 1) := by decide +kernel
theorem d_X0_join_16 : decode cX0_join 16 = .ok (.getfield 9, 3) := by decide +kernel
theorem d_X0_join_19 : decode cX0_join 19 = .ok (.iload_n 2, 1) := by decide +kernel
theorem d_X0_join_20 : decode cX0_join 20 = .ok (.bipush 7, 2) := by decide +kernel
theorem d_X0_join_22 : decode cX0_join 22 = .ok (.imul, 1) := by decide +kernel
theorem d_X0_join_23 : decode cX0_join 23 = .ok (.iload_n 2, 1) := by decide +kernel
theorem d_X0_join_24 : decode cX0_join 24 = .ok (.iadd, 1) := by decide +kernel
theorem d_X0_join_25 : decode cX0_join 25 = .ok (.dup2, 1) := by decide +kernel
theorem d_X0_join_26 : decode cX0_join 26 = .ok (.laload, 1) := by decide +kernel
theorem d_X0_join_27 : decode cX0_join 27 = .ok (.lconst 1, 1) := by decide +kernel
theorem d_X0_join_28 : decode cX0_join 28 = .ok (.ladd, 1) := by decide +kernel
theorem d_X0_join_29 : decode cX0_join 29 = .ok (.lastore, 1) := by decide +kernel
theorem d_X0_join_30 : decode cX0_join 30 = .ok (.aload_n 0, 1) := by decide +kernel
theorem d_X0_join_31 : decode cX0_join 31 = .ok (.getfield 9, 3) := by decide +kernel
theorem d_X0_join_34 : decode cX0_join 34 = .ok (.iload_n 1, 1) := by decide +kernel
theorem d_X0_join_35 : decode cX0_join 35 = .ok (.bipush 7, 2) := by decide +kernel
theorem d_X0_join_37 : decode cX0_join 37 = .ok (.imul, 1) := by decide +kernel
theorem d_X0_join_38 : decode cX0_join 38 = .ok (.iload_n 2, 1) := by decide +kernel
theorem d_X0_join_39 : decode cX0_join 39 = .ok (.iadd, 1) := by decide +kernel
theorem d_X0_join_40 : decode cX0_join 40 = .ok (.dup2, 1) := by decide +kernel
theorem d_X0_join_41 : decode cX0_join 41 = .ok (.laload, 1) := by decide +kernel
theorem d_X0_join_42 : decode cX0_join 42 = .ok (.lconst 1, 1) := by decide +kernel
theorem d_X0_join_43 : decode cX0_join 43 = .ok (.lsub, 1) := by decide +kernel
theorem d_X0_join_44 : decode cX0_join 44 = .ok (.lastore, 1) := by decide +kernel
theorem d_X0_join_45 : decode cX0_join 45 = .ok (.aload_n 0, 1) := by decide +kernel
theorem d_X0_join_46 : decode cX0_join 46 = .ok (.getfield 9, 3) := by decide +kernel
theorem d_X0_join_49 : decode cX0_join 49 = .ok (.iload_n 2, 1) := by decide +kernel
theorem d_X0_join_50 : decode cX0_join 50 = .ok (.bipush 7, 2) := by decide +kernel
theorem d_X0_join_52 : decode cX0_join 52 = .ok (.imul, 1) := by decide +kernel
theorem d_X0_join_53 : decode cX0_join 53 = .ok (.iload_n 1, 1) := by decide +kernel
theorem d_X0_join_54 : decode cX0_join 54 = .ok (.iadd, 1) := by decide +kernel
theorem d_X0_join_55 : decode cX0_join 55 = .ok (.dup2, 1) := by decide +kernel
theorem d_X0_join_56 : decode cX0_join 56 = .ok (.laload, 1) := by decide +kernel
theorem d_X0_join_57 : decode cX0_join 57 = .ok (.lconst 1, 1) := by decide +kernel
theorem d_X0_join_58 : decode cX0_join 58 = .ok (.lsub, 1) := by decide +kernel
theorem d_X0_join_59 : decode cX0_join 59 = .ok (.lastore, 1) := by decide +kernel
theorem d_X0_join_60 : decode cX0_join 60 = .ok (.return_, 1) := by decide +kernel
abbrev X_X0_join : gX := (RX0, cX0_join, 3, none, false)
def F_X0_join_b0 (l0 : Option Nat) (l1 : Int32) (l2 : Int32) (M : gM) : Option gM :=
  (gR 0 M l0 0).bind fun v1 => (aL M v1 ((l1 * (7 : Int32)) + l1)).bind fun v2 => (sL M v1 ((l1 * (7 : Int32)) + l1) (v2 + (1 : Int64))).bind fun M3 => (gR 0 M3 l0 0).bind fun v4 => (aL M3 v4 ((l2 * (7 : Int32)) + l2)).bind fun v5 => (sL M3 v4 ((l2 * (7 : Int32)) + l2) (v5 + (1 : Int64))).bind fun M6 => (gR 0 M6 l0 0).bind fun v7 => (aL M6 v7 ((l1 * (7 : Int32)) + l2)).bind fun v8 => (sL M6 v7 ((l1 * (7 : Int32)) + l2) (v8 - (1 : Int64))).bind fun M9 => (gR 0 M9 l0 0).bind fun v10 => (aL M9 v10 ((l2 * (7 : Int32)) + l1)).bind fun v11 => (sL M9 v10 ((l2 * (7 : Int32)) + l1) (v11 - (1 : Int64))).bind fun M12 => some M12
set_option maxHeartbeats 1000000 in
theorem T_X0_join_b0 (r : gM) (l0 : Option Nat) (l1 : Int32) (l2 : Int32) (M : gM) (h : F_X0_join_b0 l0 l1 l2 M = some r) : GW 0 0 0 X_X0_join 0 [(0, vr l0), (1, vi l1), (2, vi l2)] [] M (none, r) := by
  delta F_X0_join_b0 at h
  refine GW_aload_n (X := X_X0_join) (pc := 0) d_X0_join_0 rfl 0 rfl ?_
  replace h := g_bd h
  obtain ⟨v1, hv1, h⟩ := h
  refine GW_getR (X := X_X0_join) (pc := 1) f_X0_9 d_X0_join_1 hv1 (Or.inr ⟨_, ty_0_0⟩) ?_
  refine GW_iload_n (X := X_X0_join) (pc := 4) d_X0_join_4 rfl 1 rfl ?_
  refine GW_bipush (X := X_X0_join) (pc := 5) (v := 7) d_X0_join_5 (by decide) ?_
  refine GW_imul (X := X_X0_join) (pc := 7) d_X0_join_7 ?_
  refine GW_iload_n (X := X_X0_join) (pc := 8) d_X0_join_8 rfl 1 rfl ?_
  refine GW_iadd (X := X_X0_join) (pc := 9) d_X0_join_9 ?_
  refine GW_dup2 (X := X_X0_join) (pc := 10) d_X0_join_10 rfl rfl ?_
  replace h := g_bd h
  obtain ⟨v2, hv2, h⟩ := h
  refine GW_lald (X := X_X0_join) (pc := 11) d_X0_join_11 hv2 ?_
  refine GW_lconst (X := X_X0_join) (pc := 12) (v := 1) d_X0_join_12 (by decide) ?_
  refine GW_ladd (X := X_X0_join) (pc := 13) d_X0_join_13 ?_
  replace h := g_bd h
  obtain ⟨M3, hM3, h⟩ := h
  refine GW_last (X := X_X0_join) (pc := 14) d_X0_join_14 hM3 ?_
  refine GW_aload_n (X := X_X0_join) (pc := 15) d_X0_join_15 rfl 0 rfl ?_
  replace h := g_bd h
  obtain ⟨v4, hv4, h⟩ := h
  refine GW_getR (X := X_X0_join) (pc := 16) f_X0_9 d_X0_join_16 hv4 (Or.inr ⟨_, ty_0_0⟩) ?_
  refine GW_iload_n (X := X_X0_join) (pc := 19) d_X0_join_19 rfl 2 rfl ?_
  refine GW_bipush (X := X_X0_join) (pc := 20) (v := 7) d_X0_join_20 (by decide) ?_
  refine GW_imul (X := X_X0_join) (pc := 22) d_X0_join_22 ?_
  refine GW_iload_n (X := X_X0_join) (pc := 23) d_X0_join_23 rfl 2 rfl ?_
  refine GW_iadd (X := X_X0_join) (pc := 24) d_X0_join_24 ?_
  refine GW_dup2 (X := X_X0_join) (pc := 25) d_X0_join_25 rfl rfl ?_
  replace h := g_bd h
  obtain ⟨v5, hv5, h⟩ := h
  refine GW_lald (X := X_X0_join) (pc := 26) d_X0_join_26 hv5 ?_
  refine GW_lconst (X := X_X0_join) (pc := 27) (v := 1) d_X0_join_27 (by decide) ?_
  refine GW_ladd (X := X_X0_join) (pc := 28) d_X0_join_28 ?_
  replace h := g_bd h
  obtain ⟨M6, hM6, h⟩ := h
  refine GW_last (X := X_X0_join) (pc := 29) d_X0_join_29 hM6 ?_
  refine GW_aload_n (X := X_X0_join) (pc := 30) d_X0_join_30 rfl 0 rfl ?_
  replace h := g_bd h
  obtain ⟨v7, hv7, h⟩ := h
  refine GW_getR (X := X_X0_join) (pc := 31) f_X0_9 d_X0_join_31 hv7 (Or.inr ⟨_, ty_0_0⟩) ?_
  refine GW_iload_n (X := X_X0_join) (pc := 34) d_X0_join_34 rfl 1 rfl ?_
  refine GW_bipush (X := X_X0_join) (pc := 35) (v := 7) d_X0_join_35 (by decide) ?_
  refine GW_imul (X := X_X0_join) (pc := 37) d_X0_join_37 ?_
  refine GW_iload_n (X := X_X0_join) (pc := 38) d_X0_join_38 rfl 2 rfl ?_
  refine GW_iadd (X := X_X0_join) (pc := 39) d_X0_join_39 ?_
  refine GW_dup2 (X := X_X0_join) (pc := 40) d_X0_join_40 rfl rfl ?_
  replace h := g_bd h
  obtain ⟨v8, hv8, h⟩ := h
  refine GW_lald (X := X_X0_join) (pc := 41) d_X0_join_41 hv8 ?_
  refine GW_lconst (X := X_X0_join) (pc := 42) (v := 1) d_X0_join_42 (by decide) ?_
  refine GW_lsub (X := X_X0_join) (pc := 43) d_X0_join_43 ?_
  replace h := g_bd h
  obtain ⟨M9, hM9, h⟩ := h
  refine GW_last (X := X_X0_join) (pc := 44) d_X0_join_44 hM9 ?_
  refine GW_aload_n (X := X_X0_join) (pc := 45) d_X0_join_45 rfl 0 rfl ?_
  replace h := g_bd h
  obtain ⟨v10, hv10, h⟩ := h
  refine GW_getR (X := X_X0_join) (pc := 46) f_X0_9 d_X0_join_46 hv10 (Or.inr ⟨_, ty_0_0⟩) ?_
  refine GW_iload_n (X := X_X0_join) (pc := 49) d_X0_join_49 rfl 2 rfl ?_
  refine GW_bipush (X := X_X0_join) (pc := 50) (v := 7) d_X0_join_50 (by decide) ?_
  refine GW_imul (X := X_X0_join) (pc := 52) d_X0_join_52 ?_
  refine GW_iload_n (X := X_X0_join) (pc := 53) d_X0_join_53 rfl 1 rfl ?_
  refine GW_iadd (X := X_X0_join) (pc := 54) d_X0_join_54 ?_
  refine GW_dup2 (X := X_X0_join) (pc := 55) d_X0_join_55 rfl rfl ?_
  replace h := g_bd h
  obtain ⟨v11, hv11, h⟩ := h
  refine GW_lald (X := X_X0_join) (pc := 56) d_X0_join_56 hv11 ?_
  refine GW_lconst (X := X_X0_join) (pc := 57) (v := 1) d_X0_join_57 (by decide) ?_
  refine GW_lsub (X := X_X0_join) (pc := 58) d_X0_join_58 ?_
  replace h := g_bd h
  obtain ⟨M12, hM12, h⟩ := h
  refine GW_last (X := X_X0_join) (pc := 59) d_X0_join_59 hM12 ?_
  replace h := Option.some.inj h
  subst h
  exact GW_ret (X := X_X0_join) (pc := 60) d_X0_join_60 rfl trivial
def F_X0_join (l0 : Option Nat) (l1 : Int32) (l2 : Int32) (M : gM) : Option gM := F_X0_join_b0 l0 l1 l2 M
theorem T_X0_join (l0 : Option Nat) (l1 : Int32) (l2 : Int32) (M : gM) (r : gM) (h : F_X0_join l0 l1 l2 M = some r) : g_Met 0 0 0 yX0_join X_X0_join [vr l0, vi l1, vi l2] M (none, r) :=
  g_Met_of pn_RX0 rfl (Nat.le_of_ble_eq_true rfl) (fun h => by cases h) (GW_sub [0, 1, 2] rfl (T_X0_join_b0 r l0 l1 l2 M h))
/-! ForgetHeirs$Forests.howMany()I -/
theorem d_X0_howMany_0 : decode cX0_howMany 0 = .ok (.lconst 1, 1) := by decide +kernel
theorem d_X0_howMany_1 : decode cX0_howMany 1 = .ok (.lstore_n 1, 1) := by decide +kernel
theorem d_X0_howMany_2 : decode cX0_howMany 2 = .ok (.iconst 0, 1) := by decide +kernel
theorem d_X0_howMany_3 : decode cX0_howMany 3 = .ok (.istore_n 3, 1) := by decide +kernel
theorem d_X0_howMany_4 : decode cX0_howMany 4 = .ok (.iload_n 3, 1) := by decide +kernel
theorem d_X0_howMany_5 : decode cX0_howMany 5 = .ok (.aload_n 0, 1) := by decide +kernel
theorem d_X0_howMany_6 : decode cX0_howMany 6 = .ok (.getfield 15, 3) := by decide +kernel
theorem d_X0_howMany_9 : decode cX0_howMany 9 = .ok (.if_icmp .ge 141, 3) := by decide +kernel
theorem d_X0_howMany_12 : decode cX0_howMany 12 = .ok (.aload_n 0, 1) := by decide +kernel
theorem d_X0_howMany_13 : decode cX0_howMany 13 = .ok (.getfield 9, 3) := by decide +kernel
theorem d_X0_howMany_16 : decode cX0_howMany 16 = .ok (.iload_n 3, 1) := by decide +kernel
theorem d_X0_howMany_17 : decode cX0_howMany 17 = .ok (.bipush 7, 2) := by decide +kernel
theorem d_X0_howMany_19 : decode cX0_howMany 19 = .ok (.imul, 1) := by decide +kernel
theorem d_X0_howMany_20 : decode cX0_howMany 20 = .ok (.iload_n 3, 1) := by decide +kernel
theorem d_X0_howMany_21 : decode cX0_howMany 21 = .ok (.iadd, 1) := by decide +kernel
theorem d_X0_howMany_22 : decode cX0_howMany 22 = .ok (.laload, 1) := by decide +kernel
theorem d_X0_howMany_23 : decode cX0_howMany 23 = .ok (.lstore 4, 2) := by decide +kernel
theorem d_X0_howMany_25 : decode cX0_howMany 25 = .ok (.lload 4, 2) := by decide +kernel
theorem d_X0_howMany_27 : decode cX0_howMany 27 = .ok (.lconst 0, 1) := by decide +kernel
theorem d_X0_howMany_28 : decode cX0_howMany 28 = .ok (.lcmp, 1) := by decide +kernel
theorem d_X0_howMany_29 : decode cX0_howMany 29 = .ok (.ifCond .eq 9, 3) := by decide +kernel
theorem d_X0_howMany_32 : decode cX0_howMany 32 = .ok (.lload_n 1, 1) := by decide +kernel
theorem d_X0_howMany_33 : decode cX0_howMany 33 = .ok (.lconst 0, 1) := by decide +kernel
theorem d_X0_howMany_34 : decode cX0_howMany 34 = .ok (.lcmp, 1) := by decide +kernel
theorem d_X0_howMany_35 : decode cX0_howMany 35 = .ok (.ifCond .ne 5, 3) := by decide +kernel
theorem d_X0_howMany_38 : decode cX0_howMany 38 = .ok (.iconst 0, 1) := by decide +kernel
theorem d_X0_howMany_39 : decode cX0_howMany 39 = .ok (.ireturn, 1) := by decide +kernel
theorem d_X0_howMany_40 : decode cX0_howMany 40 = .ok (.iload_n 3, 1) := by decide +kernel
theorem d_X0_howMany_41 : decode cX0_howMany 41 = .ok (.iconst 1, 1) := by decide +kernel
theorem d_X0_howMany_42 : decode cX0_howMany 42 = .ok (.iadd, 1) := by decide +kernel
theorem d_X0_howMany_43 : decode cX0_howMany 43 = .ok (.istore 6, 2) := by decide +kernel
theorem d_X0_howMany_45 : decode cX0_howMany 45 = .ok (.iload 6, 2) := by decide +kernel
theorem d_X0_howMany_47 : decode cX0_howMany 47 = .ok (.aload_n 0, 1) := by decide +kernel
theorem d_X0_howMany_48 : decode cX0_howMany 48 = .ok (.getfield 15, 3) := by decide +kernel
theorem d_X0_howMany_51 : decode cX0_howMany 51 = .ok (.if_icmp .ge 90, 3) := by decide +kernel
theorem d_X0_howMany_54 : decode cX0_howMany 54 = .ok (.iload_n 3, 1) := by decide +kernel
theorem d_X0_howMany_55 : decode cX0_howMany 55 = .ok (.iconst 1, 1) := by decide +kernel
theorem d_X0_howMany_56 : decode cX0_howMany 56 = .ok (.iadd, 1) := by decide +kernel
theorem d_X0_howMany_57 : decode cX0_howMany 57 = .ok (.istore 7, 2) := by decide +kernel
theorem d_X0_howMany_59 : decode cX0_howMany 59 = .ok (.iload 7, 2) := by decide +kernel
theorem d_X0_howMany_61 : decode cX0_howMany 61 = .ok (.aload_n 0, 1) := by decide +kernel
theorem d_X0_howMany_62 : decode cX0_howMany 62 = .ok (.getfield 15, 3) := by decide +kernel
theorem d_X0_howMany_65 : decode cX0_howMany 65 = .ok (.if_icmp .ge 70, 3) := by decide +kernel
theorem d_X0_howMany_68 : decode cX0_howMany 68 = .ok (.aload_n 0, 1) := by decide +kernel
theorem d_X0_howMany_69 : decode cX0_howMany 69 = .ok (.getfield 9, 3) := by decide +kernel
theorem d_X0_howMany_72 : decode cX0_howMany 72 = .ok (.iload 6, 2) := by decide +kernel
theorem d_X0_howMany_74 : decode cX0_howMany 74 = .ok (.bipush 7, 2) := by decide +kernel
theorem d_X0_howMany_76 : decode cX0_howMany 76 = .ok (.imul, 1) := by decide +kernel
theorem d_X0_howMany_77 : decode cX0_howMany 77 = .ok (.iload_n 3, 1) := by decide +kernel
theorem d_X0_howMany_78 : decode cX0_howMany 78 = .ok (.iadd, 1) := by decide +kernel
theorem d_X0_howMany_79 : decode cX0_howMany 79 = .ok (.laload, 1) := by decide +kernel
theorem d_X0_howMany_80 : decode cX0_howMany 80 = .ok (.aload_n 0, 1) := by decide +kernel
theorem d_X0_howMany_81 : decode cX0_howMany 81 = .ok (.getfield 9, 3) := by decide +kernel
theorem d_X0_howMany_84 : decode cX0_howMany 84 = .ok (.iload_n 3, 1) := by decide +kernel
theorem d_X0_howMany_85 : decode cX0_howMany 85 = .ok (.bipush 7, 2) := by decide +kernel
theorem d_X0_howMany_87 : decode cX0_howMany 87 = .ok (.imul, 1) := by decide +kernel
theorem d_X0_howMany_88 : decode cX0_howMany 88 = .ok (.iload 7, 2) := by decide +kernel
theorem d_X0_howMany_90 : decode cX0_howMany 90 = .ok (.iadd, 1) := by decide +kernel
theorem d_X0_howMany_91 : decode cX0_howMany 91 = .ok (.laload, 1) := by decide +kernel
theorem d_X0_howMany_92 : decode cX0_howMany 92 = .ok (.lmul, 1) := by decide +kernel
theorem d_X0_howMany_93 : decode cX0_howMany 93 = .ok (.lstore 8, 2) := by decide +kernel
theorem d_X0_howMany_95 : decode cX0_howMany 95 = .ok (.aload_n 0, 1) := by decide +kernel
theorem d_X0_howMany_96 : decode cX0_howMany 96 = .ok (.getfield 9, 3) := by decide +kernel
theorem d_X0_howMany_99 : decode cX0_howMany 99 = .ok (.iload 6, 2) := by decide +kernel
theorem d_X0_howMany_101 : decode cX0_howMany 101 = .ok (.bipush 7, 2) := by decide +kernel
theorem d_X0_howMany_103 : decode cX0_howMany 103 = .ok (.imul, 1) := by decide +kernel
theorem d_X0_howMany_104 : decode cX0_howMany 104 = .ok (.iload 7, 2) := by decide +kernel
theorem d_X0_howMany_106 : decode cX0_howMany 106 = .ok (.iadd, 1) := by decide +kernel
theorem d_X0_howMany_107 : decode cX0_howMany 107 = .ok (.aload_n 0, 1) := by decide +kernel
theorem d_X0_howMany_108 : decode cX0_howMany 108 = .ok (.getfield 9, 3) := by decide +kernel
theorem d_X0_howMany_111 : decode cX0_howMany 111 = .ok (.iload 6, 2) := by decide +kernel
theorem d_X0_howMany_113 : decode cX0_howMany 113 = .ok (.bipush 7, 2) := by decide +kernel
theorem d_X0_howMany_115 : decode cX0_howMany 115 = .ok (.imul, 1) := by decide +kernel
theorem d_X0_howMany_116 : decode cX0_howMany 116 = .ok (.iload 7, 2) := by decide +kernel
theorem d_X0_howMany_118 : decode cX0_howMany 118 = .ok (.iadd, 1) := by decide +kernel
theorem d_X0_howMany_119 : decode cX0_howMany 119 = .ok (.laload, 1) := by decide +kernel
theorem d_X0_howMany_120 : decode cX0_howMany 120 = .ok (.lload 4, 2) := by decide +kernel
theorem d_X0_howMany_122 : decode cX0_howMany 122 = .ok (.lmul, 1) := by decide +kernel
theorem d_X0_howMany_123 : decode cX0_howMany 123 = .ok (.lload 8, 2) := by decide +kernel
theorem d_X0_howMany_125 : decode cX0_howMany 125 = .ok (.lsub, 1) := by decide +kernel
theorem d_X0_howMany_126 : decode cX0_howMany 126 = .ok (.lload_n 1, 1) := by decide +kernel
theorem d_X0_howMany_127 : decode cX0_howMany 127 = .ok (.ldiv, 1) := by decide +kernel
theorem d_X0_howMany_128 : decode cX0_howMany 128 = .ok (.lastore, 1) := by decide +kernel
theorem d_X0_howMany_129 : decode cX0_howMany 129 = .ok (.iinc 7 1, 3) := by decide +kernel
theorem d_X0_howMany_132 : decode cX0_howMany 132 = .ok (.goto (-73), 3) := by decide +kernel
theorem d_X0_howMany_135 : decode cX0_howMany 135 = .ok (.iinc 6 1, 3) := by decide +kernel
theorem d_X0_howMany_138 : decode cX0_howMany 138 = .ok (.goto (-93), 3) := by decide +kernel
theorem d_X0_howMany_141 : decode cX0_howMany 141 = .ok (.lload 4, 2) := by decide +kernel
theorem d_X0_howMany_143 : decode cX0_howMany 143 = .ok (.lstore_n 1, 1) := by decide +kernel
theorem d_X0_howMany_144 : decode cX0_howMany 144 = .ok (.iinc 3 1, 3) := by decide +kernel
theorem d_X0_howMany_147 : decode cX0_howMany 147 = .ok (.goto (-143), 3) := by decide +kernel
theorem d_X0_howMany_150 : decode cX0_howMany 150 = .ok (.lload_n 1, 1) := by decide +kernel
theorem d_X0_howMany_151 : decode cX0_howMany 151 = .ok (.l2i, 1) := by decide +kernel
theorem d_X0_howMany_152 : decode cX0_howMany 152 = .ok (.ireturn, 1) := by decide +kernel
abbrev X_X0_howMany : gX := (RX0, cX0_howMany, 10, (some .int), false)
def F_X0_howMany_b38 (M : gM) : Option (Int32 × gM) :=
  some ((0 : Int32), M)
theorem T_X0_howMany_b38 (r : (Int32 × gM)) (M : gM) (h : F_X0_howMany_b38 M = some r) : GW 0 0 0 X_X0_howMany 38 [] [] M (some (vi r.1), r.2) := by
  delta F_X0_howMany_b38 at h
  refine GW_iconst (X := X_X0_howMany) (pc := 38) (v := 0) d_X0_howMany_38 (by decide) ?_
  replace h := Option.some.inj h
  subst h
  exact GW_ret (X := X_X0_howMany) (pc := 39) d_X0_howMany_39 rfl trivial
def F_X0_howMany_b59 (k4 : Option Nat → Int64 → Int32 → gM → Option (Int32 × gM)) (k45 : Option Nat → Int64 → Int32 → Int64 → Int32 → gM → Option (Int32 × gM)) (k59 : Option Nat → Int64 → Int32 → Int64 → Int32 → Int32 → gM → Option (Int32 × gM)) (l0 : Option Nat) (l1 : Int64) (l3 : Int32) (l4 : Int64) (l6 : Int32) (l7 : Int32) (M : gM) : Option (Int32 × gM) :=
  (gI 0 M l0 1).bind fun v1 => if v1 ≤ l7 then (k45 l0 l1 l3 l4 (l6 + 1) M) else ((gR 0 M l0 0).bind fun v2 => (aL M v2 ((l6 * (7 : Int32)) + l3)).bind fun v3 => (gR 0 M l0 0).bind fun v4 => (aL M v4 ((l3 * (7 : Int32)) + l7)).bind fun v5 => (gR 0 M l0 0).bind fun v6 => (gR 0 M l0 0).bind fun v7 => (aL M v7 ((l6 * (7 : Int32)) + l7)).bind fun v8 => if l1 = 0 then none else (sL M v6 ((l6 * (7 : Int32)) + l7) (((v8 * l4) - (v3 * v5)) / l1)).bind fun M10 => k59 l0 l1 l3 l4 l6 (l7 + 1) M10)
set_option maxHeartbeats 1000000 in
theorem T_X0_howMany_b59 (k4 : Option Nat → Int64 → Int32 → gM → Option (Int32 × gM)) (k45 : Option Nat → Int64 → Int32 → Int64 → Int32 → gM → Option (Int32 × gM)) (k59 : Option Nat → Int64 → Int32 → Int64 → Int32 → Int32 → gM → Option (Int32 × gM)) (r : (Int32 × gM)) (hk4 : ∀ (l0 : Option Nat) (l1 : Int64) (l3 : Int32) (M : gM), k4 l0 l1 l3 M = some r → GW 0 0 0 X_X0_howMany 4 [(0, vr l0), (1, vl l1), (3, vi l3)] [] M (some (vi r.1), r.2)) (hk45 : ∀ (l0 : Option Nat) (l1 : Int64) (l3 : Int32) (l4 : Int64) (l6 : Int32) (M : gM), k45 l0 l1 l3 l4 l6 M = some r → GW 0 0 0 X_X0_howMany 45 [(0, vr l0), (1, vl l1), (3, vi l3), (4, vl l4), (6, vi l6)] [] M (some (vi r.1), r.2)) (hk59 : ∀ (l0 : Option Nat) (l1 : Int64) (l3 : Int32) (l4 : Int64) (l6 : Int32) (l7 : Int32) (M : gM), k59 l0 l1 l3 l4 l6 l7 M = some r → GW 0 0 0 X_X0_howMany 59 [(0, vr l0), (1, vl l1), (3, vi l3), (4, vl l4), (6, vi l6), (7, vi l7)] [] M (some (vi r.1), r.2)) (l0 : Option Nat) (l1 : Int64) (l3 : Int32) (l4 : Int64) (l6 : Int32) (l7 : Int32) (M : gM) (h : F_X0_howMany_b59 k4 k45 k59 l0 l1 l3 l4 l6 l7 M = some r) : GW 0 0 0 X_X0_howMany 59 [(0, vr l0), (1, vl l1), (3, vi l3), (4, vl l4), (6, vi l6), (7, vi l7)] [] M (some (vi r.1), r.2) := by
  delta F_X0_howMany_b59 at h
  refine GW_iload (X := X_X0_howMany) (pc := 59) d_X0_howMany_59 5 rfl ?_
  refine GW_aload_n (X := X_X0_howMany) (pc := 61) d_X0_howMany_61 rfl 0 rfl ?_
  replace h := g_bd h
  obtain ⟨v1, hv1, h⟩ := h
  refine GW_getI (X := X_X0_howMany) (pc := 62) f_X0_15 d_X0_howMany_62 hv1 (Or.inl ty_0_1) ?_
  refine GW_icmp_ge (X := X_X0_howMany) (pc := 65) 135 d_X0_howMany_65 (by decide) (fun c => ?_) (fun c => ?_)
  · replace h := g_ip c h
    refine GW_iinc (j := 4) (X := X_X0_howMany) (pc := 135) d_X0_howMany_135 rfl (congrArg (fun z => _ + z) (by decide : Int32.ofInt 1 = (1 : Int32))) (Nat.le_of_ble_eq_true rfl) (lv2 := [(6, vi (l6 + 1)), (0, vr l0), (1, vl l1), (3, vi l3), (4, vl l4), (7, vi l7)]) rfl ?_
    refine GW_goto (X := X_X0_howMany) (pc := 138) 45 d_X0_howMany_138 (by decide) ?_
    refine GW_sub [1, 2, 3, 4, 0] rfl ?_
    exact hk45 l0 l1 l3 l4 (l6 + 1) M h
  · replace h := g_ie c h
    refine GW_aload_n (X := X_X0_howMany) (pc := 68) d_X0_howMany_68 rfl 0 rfl ?_
    replace h := g_bd h
    obtain ⟨v2, hv2, h⟩ := h
    refine GW_getR (X := X_X0_howMany) (pc := 69) f_X0_9 d_X0_howMany_69 hv2 (Or.inr ⟨_, ty_0_0⟩) ?_
    refine GW_iload (X := X_X0_howMany) (pc := 72) d_X0_howMany_72 4 rfl ?_
    refine GW_bipush (X := X_X0_howMany) (pc := 74) (v := 7) d_X0_howMany_74 (by decide) ?_
    refine GW_imul (X := X_X0_howMany) (pc := 76) d_X0_howMany_76 ?_
    refine GW_iload_n (X := X_X0_howMany) (pc := 77) d_X0_howMany_77 rfl 2 rfl ?_
    refine GW_iadd (X := X_X0_howMany) (pc := 78) d_X0_howMany_78 ?_
    replace h := g_bd h
    obtain ⟨v3, hv3, h⟩ := h
    refine GW_lald (X := X_X0_howMany) (pc := 79) d_X0_howMany_79 hv3 ?_
    refine GW_aload_n (X := X_X0_howMany) (pc := 80) d_X0_howMany_80 rfl 0 rfl ?_
    replace h := g_bd h
    obtain ⟨v4, hv4, h⟩ := h
    refine GW_getR (X := X_X0_howMany) (pc := 81) f_X0_9 d_X0_howMany_81 hv4 (Or.inr ⟨_, ty_0_0⟩) ?_
    refine GW_iload_n (X := X_X0_howMany) (pc := 84) d_X0_howMany_84 rfl 2 rfl ?_
    refine GW_bipush (X := X_X0_howMany) (pc := 85) (v := 7) d_X0_howMany_85 (by decide) ?_
    refine GW_imul (X := X_X0_howMany) (pc := 87) d_X0_howMany_87 ?_
    refine GW_iload (X := X_X0_howMany) (pc := 88) d_X0_howMany_88 5 rfl ?_
    refine GW_iadd (X := X_X0_howMany) (pc := 90) d_X0_howMany_90 ?_
    replace h := g_bd h
    obtain ⟨v5, hv5, h⟩ := h
    refine GW_lald (X := X_X0_howMany) (pc := 91) d_X0_howMany_91 hv5 ?_
    refine GW_lmul (X := X_X0_howMany) (pc := 92) d_X0_howMany_92 ?_
    refine GW_lstore (X := X_X0_howMany) (pc := 93) d_X0_howMany_93 (Nat.le_of_ble_eq_true rfl) (lv2 := [(8, vl (v3 * v5)), (0, vr l0), (1, vl l1), (3, vi l3), (4, vl l4), (6, vi l6), (7, vi l7)]) rfl ?_
    refine GW_aload_n (X := X_X0_howMany) (pc := 95) d_X0_howMany_95 rfl 1 rfl ?_
    replace h := g_bd h
    obtain ⟨v6, hv6, h⟩ := h
    refine GW_getR (X := X_X0_howMany) (pc := 96) f_X0_9 d_X0_howMany_96 hv6 (Or.inr ⟨_, ty_0_0⟩) ?_
    refine GW_iload (X := X_X0_howMany) (pc := 99) d_X0_howMany_99 5 rfl ?_
    refine GW_bipush (X := X_X0_howMany) (pc := 101) (v := 7) d_X0_howMany_101 (by decide) ?_
    refine GW_imul (X := X_X0_howMany) (pc := 103) d_X0_howMany_103 ?_
    refine GW_iload (X := X_X0_howMany) (pc := 104) d_X0_howMany_104 6 rfl ?_
    refine GW_iadd (X := X_X0_howMany) (pc := 106) d_X0_howMany_106 ?_
    refine GW_aload_n (X := X_X0_howMany) (pc := 107) d_X0_howMany_107 rfl 1 rfl ?_
    replace h := g_bd h
    obtain ⟨v7, hv7, h⟩ := h
    refine GW_getR (X := X_X0_howMany) (pc := 108) f_X0_9 d_X0_howMany_108 hv7 (Or.inr ⟨_, ty_0_0⟩) ?_
    refine GW_iload (X := X_X0_howMany) (pc := 111) d_X0_howMany_111 5 rfl ?_
    refine GW_bipush (X := X_X0_howMany) (pc := 113) (v := 7) d_X0_howMany_113 (by decide) ?_
    refine GW_imul (X := X_X0_howMany) (pc := 115) d_X0_howMany_115 ?_
    refine GW_iload (X := X_X0_howMany) (pc := 116) d_X0_howMany_116 6 rfl ?_
    refine GW_iadd (X := X_X0_howMany) (pc := 118) d_X0_howMany_118 ?_
    replace h := g_bd h
    obtain ⟨v8, hv8, h⟩ := h
    refine GW_lald (X := X_X0_howMany) (pc := 119) d_X0_howMany_119 hv8 ?_
    refine GW_lload (X := X_X0_howMany) (pc := 120) d_X0_howMany_120 4 rfl ?_
    refine GW_lmul (X := X_X0_howMany) (pc := 122) d_X0_howMany_122 ?_
    refine GW_lload (X := X_X0_howMany) (pc := 123) d_X0_howMany_123 0 rfl ?_
    refine GW_lsub (X := X_X0_howMany) (pc := 125) d_X0_howMany_125 ?_
    refine GW_lload_n (X := X_X0_howMany) (pc := 126) d_X0_howMany_126 rfl 2 rfl ?_
    replace h := g_ife h
    obtain ⟨hz9, h⟩ := h
    refine GW_ldiv (X := X_X0_howMany) (pc := 127) d_X0_howMany_127 hz9 ?_
    replace h := g_bd h
    obtain ⟨M10, hM10, h⟩ := h
    refine GW_last (X := X_X0_howMany) (pc := 128) d_X0_howMany_128 hM10 ?_
    refine GW_iinc (j := 6) (X := X_X0_howMany) (pc := 129) d_X0_howMany_129 rfl (congrArg (fun z => _ + z) (by decide : Int32.ofInt 1 = (1 : Int32))) (Nat.le_of_ble_eq_true rfl) (lv2 := [(7, vi (l7 + 1)), (8, vl (v3 * v5)), (0, vr l0), (1, vl l1), (3, vi l3), (4, vl l4), (6, vi l6)]) rfl ?_
    refine GW_goto (X := X_X0_howMany) (pc := 132) 59 d_X0_howMany_132 (by decide) ?_
    refine GW_sub [2, 3, 4, 5, 6, 0] rfl ?_
    exact hk59 l0 l1 l3 l4 l6 (l7 + 1) M10 h
def F_X0_howMany_L59 (k4 : Option Nat → Int64 → Int32 → gM → Option (Int32 × gM)) (k45 : Option Nat → Int64 → Int32 → Int64 → Int32 → gM → Option (Int32 × gM)) : Nat → Option Nat → Int64 → Int32 → Int64 → Int32 → Int32 → gM → Option (Int32 × gM)
  | 0 => fun _ _ _ _ _ _ _ => none
  | n + 1 => F_X0_howMany_b59 k4 k45 (F_X0_howMany_L59 k4 k45 n)
theorem T_X0_howMany_L59 (k4 : Option Nat → Int64 → Int32 → gM → Option (Int32 × gM)) (k45 : Option Nat → Int64 → Int32 → Int64 → Int32 → gM → Option (Int32 × gM)) (r : (Int32 × gM)) (hk4 : ∀ (l0 : Option Nat) (l1 : Int64) (l3 : Int32) (M : gM), k4 l0 l1 l3 M = some r → GW 0 0 0 X_X0_howMany 4 [(0, vr l0), (1, vl l1), (3, vi l3)] [] M (some (vi r.1), r.2)) (hk45 : ∀ (l0 : Option Nat) (l1 : Int64) (l3 : Int32) (l4 : Int64) (l6 : Int32) (M : gM), k45 l0 l1 l3 l4 l6 M = some r → GW 0 0 0 X_X0_howMany 45 [(0, vr l0), (1, vl l1), (3, vi l3), (4, vl l4), (6, vi l6)] [] M (some (vi r.1), r.2)) : ∀ (n : Nat) (l0 : Option Nat) (l1 : Int64) (l3 : Int32) (l4 : Int64) (l6 : Int32) (l7 : Int32) (M : gM), F_X0_howMany_L59 k4 k45 n l0 l1 l3 l4 l6 l7 M = some r → GW 0 0 0 X_X0_howMany 59 [(0, vr l0), (1, vl l1), (3, vi l3), (4, vl l4), (6, vi l6), (7, vi l7)] [] M (some (vi r.1), r.2) := by
  intro n
  induction n with
  | zero => intro l0 l1 l3 l4 l6 l7 M h; exact g_no h
  | succ n ih => intro l0 l1 l3 l4 l6 l7 M h; exact T_X0_howMany_b59 k4 k45 (F_X0_howMany_L59 k4 k45 n) r hk4 hk45 ih l0 l1 l3 l4 l6 l7 M h
def F_X0_howMany_b45 (k4 : Option Nat → Int64 → Int32 → gM → Option (Int32 × gM)) (k45 : Option Nat → Int64 → Int32 → Int64 → Int32 → gM → Option (Int32 × gM)) (l0 : Option Nat) (l1 : Int64) (l3 : Int32) (l4 : Int64) (l6 : Int32) (M : gM) : Option (Int32 × gM) :=
  (gI 0 M l0 1).bind fun v1 => if v1 ≤ l6 then (k4 l0 l4 (l3 + 1) M) else (F_X0_howMany_L59 k4 k45 g_fuel l0 l1 l3 l4 l6 (l3 + (1 : Int32)) M)
theorem T_X0_howMany_b45 (k4 : Option Nat → Int64 → Int32 → gM → Option (Int32 × gM)) (k45 : Option Nat → Int64 → Int32 → Int64 → Int32 → gM → Option (Int32 × gM)) (r : (Int32 × gM)) (hk4 : ∀ (l0 : Option Nat) (l1 : Int64) (l3 : Int32) (M : gM), k4 l0 l1 l3 M = some r → GW 0 0 0 X_X0_howMany 4 [(0, vr l0), (1, vl l1), (3, vi l3)] [] M (some (vi r.1), r.2)) (hk45 : ∀ (l0 : Option Nat) (l1 : Int64) (l3 : Int32) (l4 : Int64) (l6 : Int32) (M : gM), k45 l0 l1 l3 l4 l6 M = some r → GW 0 0 0 X_X0_howMany 45 [(0, vr l0), (1, vl l1), (3, vi l3), (4, vl l4), (6, vi l6)] [] M (some (vi r.1), r.2)) (l0 : Option Nat) (l1 : Int64) (l3 : Int32) (l4 : Int64) (l6 : Int32) (M : gM) (h : F_X0_howMany_b45 k4 k45 l0 l1 l3 l4 l6 M = some r) : GW 0 0 0 X_X0_howMany 45 [(0, vr l0), (1, vl l1), (3, vi l3), (4, vl l4), (6, vi l6)] [] M (some (vi r.1), r.2) := by
  delta F_X0_howMany_b45 at h
  refine GW_iload (X := X_X0_howMany) (pc := 45) d_X0_howMany_45 4 rfl ?_
  refine GW_aload_n (X := X_X0_howMany) (pc := 47) d_X0_howMany_47 rfl 0 rfl ?_
  replace h := g_bd h
  obtain ⟨v1, hv1, h⟩ := h
  refine GW_getI (X := X_X0_howMany) (pc := 48) f_X0_15 d_X0_howMany_48 hv1 (Or.inl ty_0_1) ?_
  refine GW_icmp_ge (X := X_X0_howMany) (pc := 51) 141 d_X0_howMany_51 (by decide) (fun c => ?_) (fun c => ?_)
  · replace h := g_ip c h
    refine GW_lload (X := X_X0_howMany) (pc := 141) d_X0_howMany_141 3 rfl ?_
    refine GW_lstore_n (X := X_X0_howMany) (pc := 143) d_X0_howMany_143 rfl (Nat.le_of_ble_eq_true rfl) (lv2 := [(1, vl l4), (0, vr l0), (3, vi l3), (4, vl l4), (6, vi l6)]) rfl ?_
    refine GW_iinc (j := 2) (X := X_X0_howMany) (pc := 144) d_X0_howMany_144 rfl (congrArg (fun z => _ + z) (by decide : Int32.ofInt 1 = (1 : Int32))) (Nat.le_of_ble_eq_true rfl) (lv2 := [(3, vi (l3 + 1)), (1, vl l4), (0, vr l0), (4, vl l4), (6, vi l6)]) rfl ?_
    refine GW_goto (X := X_X0_howMany) (pc := 147) 4 d_X0_howMany_147 (by decide) ?_
    refine GW_sub [2, 1, 0] rfl ?_
    exact hk4 l0 l4 (l3 + 1) M h
  · replace h := g_ie c h
    refine GW_iload_n (X := X_X0_howMany) (pc := 54) d_X0_howMany_54 rfl 2 rfl ?_
    refine GW_iconst (X := X_X0_howMany) (pc := 55) (v := 1) d_X0_howMany_55 (by decide) ?_
    refine GW_iadd (X := X_X0_howMany) (pc := 56) d_X0_howMany_56 ?_
    refine GW_istore (X := X_X0_howMany) (pc := 57) d_X0_howMany_57 (Nat.le_of_ble_eq_true rfl) (lv2 := [(7, vi (l3 + (1 : Int32))), (0, vr l0), (1, vl l1), (3, vi l3), (4, vl l4), (6, vi l6)]) rfl ?_
    refine GW_sub [1, 2, 3, 4, 5, 0] rfl ?_
    exact T_X0_howMany_L59 k4 k45 r hk4 hk45 g_fuel l0 l1 l3 l4 l6 (l3 + (1 : Int32)) M h
def F_X0_howMany_L45 (k4 : Option Nat → Int64 → Int32 → gM → Option (Int32 × gM)) : Nat → Option Nat → Int64 → Int32 → Int64 → Int32 → gM → Option (Int32 × gM)
  | 0 => fun _ _ _ _ _ _ => none
  | n + 1 => F_X0_howMany_b45 k4 (F_X0_howMany_L45 k4 n)
theorem T_X0_howMany_L45 (k4 : Option Nat → Int64 → Int32 → gM → Option (Int32 × gM)) (r : (Int32 × gM)) (hk4 : ∀ (l0 : Option Nat) (l1 : Int64) (l3 : Int32) (M : gM), k4 l0 l1 l3 M = some r → GW 0 0 0 X_X0_howMany 4 [(0, vr l0), (1, vl l1), (3, vi l3)] [] M (some (vi r.1), r.2)) : ∀ (n : Nat) (l0 : Option Nat) (l1 : Int64) (l3 : Int32) (l4 : Int64) (l6 : Int32) (M : gM), F_X0_howMany_L45 k4 n l0 l1 l3 l4 l6 M = some r → GW 0 0 0 X_X0_howMany 45 [(0, vr l0), (1, vl l1), (3, vi l3), (4, vl l4), (6, vi l6)] [] M (some (vi r.1), r.2) := by
  intro n
  induction n with
  | zero => intro l0 l1 l3 l4 l6 M h; exact g_no h
  | succ n ih => intro l0 l1 l3 l4 l6 M h; exact T_X0_howMany_b45 k4 (F_X0_howMany_L45 k4 n) r hk4 ih l0 l1 l3 l4 l6 M h
def F_X0_howMany_b4 (k4 : Option Nat → Int64 → Int32 → gM → Option (Int32 × gM)) (l0 : Option Nat) (l1 : Int64) (l3 : Int32) (M : gM) : Option (Int32 × gM) :=
  (gI 0 M l0 1).bind fun v1 => if v1 ≤ l3 then (some ((l1).toInt32, M)) else ((gR 0 M l0 0).bind fun v2 => (aL M v2 ((l3 * (7 : Int32)) + l3)).bind fun v3 => if (lg_cmp v3 (0 : Int64)) = 0 then (F_X0_howMany_b38 M) else (if (lg_cmp l1 (0 : Int64)) = 0 then (F_X0_howMany_b38 M) else (F_X0_howMany_L45 k4 g_fuel l0 l1 l3 v3 (l3 + (1 : Int32)) M)))
set_option maxHeartbeats 1000000 in
theorem T_X0_howMany_b4 (k4 : Option Nat → Int64 → Int32 → gM → Option (Int32 × gM)) (r : (Int32 × gM)) (hk4 : ∀ (l0 : Option Nat) (l1 : Int64) (l3 : Int32) (M : gM), k4 l0 l1 l3 M = some r → GW 0 0 0 X_X0_howMany 4 [(0, vr l0), (1, vl l1), (3, vi l3)] [] M (some (vi r.1), r.2)) (l0 : Option Nat) (l1 : Int64) (l3 : Int32) (M : gM) (h : F_X0_howMany_b4 k4 l0 l1 l3 M = some r) : GW 0 0 0 X_X0_howMany 4 [(0, vr l0), (1, vl l1), (3, vi l3)] [] M (some (vi r.1), r.2) := by
  delta F_X0_howMany_b4 at h
  refine GW_iload_n (X := X_X0_howMany) (pc := 4) d_X0_howMany_4 rfl 2 rfl ?_
  refine GW_aload_n (X := X_X0_howMany) (pc := 5) d_X0_howMany_5 rfl 0 rfl ?_
  replace h := g_bd h
  obtain ⟨v1, hv1, h⟩ := h
  refine GW_getI (X := X_X0_howMany) (pc := 6) f_X0_15 d_X0_howMany_6 hv1 (Or.inl ty_0_1) ?_
  refine GW_icmp_ge (X := X_X0_howMany) (pc := 9) 150 d_X0_howMany_9 (by decide) (fun c => ?_) (fun c => ?_)
  · replace h := g_ip c h
    refine GW_lload_n (X := X_X0_howMany) (pc := 150) d_X0_howMany_150 rfl 1 rfl ?_
    refine GW_l2i (X := X_X0_howMany) (pc := 151) d_X0_howMany_151 ?_
    replace h := Option.some.inj h
    subst h
    exact GW_ret (X := X_X0_howMany) (pc := 152) d_X0_howMany_152 rfl trivial
  · replace h := g_ie c h
    refine GW_aload_n (X := X_X0_howMany) (pc := 12) d_X0_howMany_12 rfl 0 rfl ?_
    replace h := g_bd h
    obtain ⟨v2, hv2, h⟩ := h
    refine GW_getR (X := X_X0_howMany) (pc := 13) f_X0_9 d_X0_howMany_13 hv2 (Or.inr ⟨_, ty_0_0⟩) ?_
    refine GW_iload_n (X := X_X0_howMany) (pc := 16) d_X0_howMany_16 rfl 2 rfl ?_
    refine GW_bipush (X := X_X0_howMany) (pc := 17) (v := 7) d_X0_howMany_17 (by decide) ?_
    refine GW_imul (X := X_X0_howMany) (pc := 19) d_X0_howMany_19 ?_
    refine GW_iload_n (X := X_X0_howMany) (pc := 20) d_X0_howMany_20 rfl 2 rfl ?_
    refine GW_iadd (X := X_X0_howMany) (pc := 21) d_X0_howMany_21 ?_
    replace h := g_bd h
    obtain ⟨v3, hv3, h⟩ := h
    refine GW_lald (X := X_X0_howMany) (pc := 22) d_X0_howMany_22 hv3 ?_
    refine GW_lstore (X := X_X0_howMany) (pc := 23) d_X0_howMany_23 (Nat.le_of_ble_eq_true rfl) (lv2 := [(4, vl v3), (0, vr l0), (1, vl l1), (3, vi l3)]) rfl ?_
    refine GW_lload (X := X_X0_howMany) (pc := 25) d_X0_howMany_25 0 rfl ?_
    refine GW_lconst (X := X_X0_howMany) (pc := 27) (v := 0) d_X0_howMany_27 (by decide) ?_
    refine GW_lcmp (X := X_X0_howMany) (pc := 28) d_X0_howMany_28 ?_
    refine GW_if_eq (X := X_X0_howMany) (pc := 29) 38 d_X0_howMany_29 (by decide) (fun c => ?_) (fun c => ?_)
    · replace h := g_ip c h
      refine GW_sub [] rfl ?_
      exact T_X0_howMany_b38 r M h
    · replace h := g_ie c h
      refine GW_lload_n (X := X_X0_howMany) (pc := 32) d_X0_howMany_32 rfl 2 rfl ?_
      refine GW_lconst (X := X_X0_howMany) (pc := 33) (v := 0) d_X0_howMany_33 (by decide) ?_
      refine GW_lcmp (X := X_X0_howMany) (pc := 34) d_X0_howMany_34 ?_
      refine GW_if_ne (X := X_X0_howMany) (pc := 35) 40 d_X0_howMany_35 (by decide) (fun c => ?_) (fun c => ?_)
      · replace h := g_ie c h
        refine GW_iload_n (X := X_X0_howMany) (pc := 40) d_X0_howMany_40 rfl 3 rfl ?_
        refine GW_iconst (X := X_X0_howMany) (pc := 41) (v := 1) d_X0_howMany_41 (by decide) ?_
        refine GW_iadd (X := X_X0_howMany) (pc := 42) d_X0_howMany_42 ?_
        refine GW_istore (X := X_X0_howMany) (pc := 43) d_X0_howMany_43 (Nat.le_of_ble_eq_true rfl) (lv2 := [(6, vi (l3 + (1 : Int32))), (4, vl v3), (0, vr l0), (1, vl l1), (3, vi l3)]) rfl ?_
        refine GW_sub [2, 3, 4, 1, 0] rfl ?_
        exact T_X0_howMany_L45 k4 r hk4 g_fuel l0 l1 l3 v3 (l3 + (1 : Int32)) M h
      · replace h := g_ip c h
        refine GW_sub [] rfl ?_
        exact T_X0_howMany_b38 r M h
def F_X0_howMany_L4 : Nat → Option Nat → Int64 → Int32 → gM → Option (Int32 × gM)
  | 0 => fun _ _ _ _ => none
  | n + 1 => F_X0_howMany_b4 (F_X0_howMany_L4 n)
theorem T_X0_howMany_L4 (r : (Int32 × gM)) : ∀ (n : Nat) (l0 : Option Nat) (l1 : Int64) (l3 : Int32) (M : gM), F_X0_howMany_L4 n l0 l1 l3 M = some r → GW 0 0 0 X_X0_howMany 4 [(0, vr l0), (1, vl l1), (3, vi l3)] [] M (some (vi r.1), r.2) := by
  intro n
  induction n with
  | zero => intro l0 l1 l3 M h; exact g_no h
  | succ n ih => intro l0 l1 l3 M h; exact T_X0_howMany_b4 (F_X0_howMany_L4 n) r ih l0 l1 l3 M h
def F_X0_howMany_b0 (l0 : Option Nat) (M : gM) : Option (Int32 × gM) :=
  F_X0_howMany_L4 g_fuel l0 (1 : Int64) (0 : Int32) M
theorem T_X0_howMany_b0 (r : (Int32 × gM)) (l0 : Option Nat) (M : gM) (h : F_X0_howMany_b0 l0 M = some r) : GW 0 0 0 X_X0_howMany 0 [(0, vr l0)] [] M (some (vi r.1), r.2) := by
  delta F_X0_howMany_b0 at h
  refine GW_lconst (X := X_X0_howMany) (pc := 0) (v := 1) d_X0_howMany_0 (by decide) ?_
  refine GW_lstore_n (X := X_X0_howMany) (pc := 1) d_X0_howMany_1 rfl (Nat.le_of_ble_eq_true rfl) (lv2 := [(1, vl (1 : Int64)), (0, vr l0)]) rfl ?_
  refine GW_iconst (X := X_X0_howMany) (pc := 2) (v := 0) d_X0_howMany_2 (by decide) ?_
  refine GW_istore_n (X := X_X0_howMany) (pc := 3) d_X0_howMany_3 rfl (Nat.le_of_ble_eq_true rfl) (lv2 := [(3, vi (0 : Int32)), (1, vl (1 : Int64)), (0, vr l0)]) rfl ?_
  refine GW_sub [2, 1, 0] rfl ?_
  exact T_X0_howMany_L4 r g_fuel l0 (1 : Int64) (0 : Int32) M h
def F_X0_howMany (l0 : Option Nat) (M : gM) : Option (Int32 × gM) := F_X0_howMany_b0 l0 M
theorem T_X0_howMany (l0 : Option Nat) (M : gM) (r : (Int32 × gM)) (h : F_X0_howMany l0 M = some r) : g_Met 0 0 0 yX0_howMany X_X0_howMany [vr l0] M (some (vi r.1), r.2) :=
  g_Met_of pn_RX0 rfl (Nat.le_of_ble_eq_true rfl) (fun h => by cases h) (GW_sub [0] rfl (T_X0_howMany_b0 r l0 M h))
/-! ForgetHeirs.ways(I)I -/
theorem d_X11_ways_0 : decode cX11_ways 0 = .ok (.aload_n 0, 1) := by decide +kernel
theorem d_X11_ways_1 : decode cX11_ways 1 = .ok (.iload_n 1, 1) := by decide +kernel
theorem d_X11_ways_2 : decode cX11_ways 2 = .ok (.invokevirtual 154, 3) := by decide +kernel
theorem d_X11_ways_5 : decode cX11_ways 5 = .ok (.ifCond .ne 5, 3) := by decide +kernel
theorem d_X11_ways_8 : decode cX11_ways 8 = .ok (.iconst (-1), 1) := by decide +kernel
theorem d_X11_ways_9 : decode cX11_ways 9 = .ok (.ireturn, 1) := by decide +kernel
theorem d_X11_ways_10 : decode cX11_ways 10 = .ok (.aload_n 0, 1) := by decide +kernel
theorem d_X11_ways_11 : decode cX11_ways 11 = .ok (.getfield 52, 3) := by decide +kernel
theorem d_X11_ways_14 : decode cX11_ways 14 = .ok (.aload_n 0, 1) := by decide +kernel
theorem d_X11_ways_15 : decode cX11_ways 15 = .ok (.getfield 59, 3) := by decide +kernel
theorem d_X11_ways_18 : decode cX11_ways 18 = .ok (.getfield 121, 3) := by decide +kernel
theorem d_X11_ways_21 : decode cX11_ways 21 = .ok (.invokevirtual 292, 3) := by decide +kernel
theorem d_X11_ways_24 : decode cX11_ways 24 = .ok (.iconst 0, 1) := by decide +kernel
theorem d_X11_ways_25 : decode cX11_ways 25 = .ok (.istore_n 2, 1) := by decide +kernel
theorem d_X11_ways_26 : decode cX11_ways 26 = .ok (.iload_n 2, 1) := by decide +kernel
theorem d_X11_ways_27 : decode cX11_ways 27 = .ok (.aload_n 0, 1) := by decide +kernel
theorem d_X11_ways_28 : decode cX11_ways 28 = .ok (.getfield 59, 3) := by decide +kernel
theorem d_X11_ways_31 : decode cX11_ways 31 = .ok (.getfield 121, 3) := by decide +kernel
theorem d_X11_ways_34 : decode cX11_ways 34 = .ok (.if_icmp .ge 53, 3) := by decide +kernel
theorem d_X11_ways_37 : decode cX11_ways 37 = .ok (.iload_n 2, 1) := by decide +kernel
theorem d_X11_ways_38 : decode cX11_ways 38 = .ok (.iconst 1, 1) := by decide +kernel
theorem d_X11_ways_39 : decode cX11_ways 39 = .ok (.iadd, 1) := by decide +kernel
theorem d_X11_ways_40 : decode cX11_ways 40 = .ok (.istore_n 3, 1) := by decide +kernel
theorem d_X11_ways_41 : decode cX11_ways 41 = .ok (.iload_n 3, 1) := by decide +kernel
theorem d_X11_ways_42 : decode cX11_ways 42 = .ok (.aload_n 0, 1) := by decide +kernel
theorem d_X11_ways_43 : decode cX11_ways 43 = .ok (.getfield 59, 3) := by decide +kernel
theorem d_X11_ways_46 : decode cX11_ways 46 = .ok (.getfield 121, 3) := by decide +kernel
theorem d_X11_ways_49 : decode cX11_ways 49 = .ok (.if_icmp .ge 32, 3) := by decide +kernel
theorem d_X11_ways_52 : decode cX11_ways 52 = .ok (.aload_n 0, 1) := by decide +kernel
theorem d_X11_ways_53 : decode cX11_ways 53 = .ok (.iload_n 2, 1) := by decide +kernel
theorem d_X11_ways_54 : decode cX11_ways 54 = .ok (.iload_n 1, 1) := by decide +kernel
theorem d_X11_ways_55 : decode cX11_ways 55 = .ok (.invokevirtual 294, 3) := by decide +kernel
theorem d_X11_ways_58 : decode cX11_ways 58 = .ok (.iload_n 3, 1) := by decide +kernel
theorem d_X11_ways_59 : decode cX11_ways 59 = .ok (.invokestatic 140, 3) := by decide +kernel
theorem d_X11_ways_62 : decode cX11_ways 62 = .ok (.iconst 1, 1) := by decide +kernel
theorem d_X11_ways_63 : decode cX11_ways 63 = .ok (.if_icmp .ne 12, 3) := by decide +kernel
theorem d_X11_ways_66 : decode cX11_ways 66 = .ok (.aload_n 0, 1) := by decide +kernel
theorem d_X11_ways_67 : decode cX11_ways 67 = .ok (.getfield 52, 3) := by decide +kernel
theorem d_X11_ways_70 : decode cX11_ways 70 = .ok (.iload_n 2, 1) := by decide +kernel
theorem d_X11_ways_71 : decode cX11_ways 71 = .ok (.iload_n 3, 1) := by decide +kernel
theorem d_X11_ways_72 : decode cX11_ways 72 = .ok (.invokevirtual 297, 3) := by decide +kernel
theorem d_X11_ways_75 : decode cX11_ways 75 = .ok (.iinc 3 1, 3) := by decide +kernel
theorem d_X11_ways_78 : decode cX11_ways 78 = .ok (.goto (-37), 3) := by decide +kernel
theorem d_X11_ways_81 : decode cX11_ways 81 = .ok (.iinc 2 1, 3) := by decide +kernel
theorem d_X11_ways_84 : decode cX11_ways 84 = .ok (.goto (-58), 3) := by decide +kernel
theorem d_X11_ways_87 : decode cX11_ways 87 = .ok (.aload_n 0, 1) := by decide +kernel
theorem d_X11_ways_88 : decode cX11_ways 88 = .ok (.getfield 52, 3) := by decide +kernel
theorem d_X11_ways_91 : decode cX11_ways 91 = .ok (.invokevirtual 300, 3) := by decide +kernel
theorem d_X11_ways_94 : decode cX11_ways 94 = .ok (.ireturn, 1) := by decide +kernel
abbrev X_X11_ways : gX := (RX11, cX11_ways, 4, (some .int), false)
def F_X11_ways_b75 (k26 : Option Nat → Int32 → Int32 → gM → Option (Int32 × gM)) (k41 : Option Nat → Int32 → Int32 → Int32 → gM → Option (Int32 × gM)) (l0 : Option Nat) (l1 : Int32) (l2 : Int32) (l3 : Int32) (M : gM) : Option (Int32 × gM) :=
  k41 l0 l1 l2 (l3 + 1) M
theorem T_X11_ways_b75 (k26 : Option Nat → Int32 → Int32 → gM → Option (Int32 × gM)) (k41 : Option Nat → Int32 → Int32 → Int32 → gM → Option (Int32 × gM)) (r : (Int32 × gM)) (hk26 : ∀ (l0 : Option Nat) (l1 : Int32) (l2 : Int32) (M : gM), k26 l0 l1 l2 M = some r → GW 2 0 0 X_X11_ways 26 [(0, vr l0), (1, vi l1), (2, vi l2)] [] M (some (vi r.1), r.2)) (hk41 : ∀ (l0 : Option Nat) (l1 : Int32) (l2 : Int32) (l3 : Int32) (M : gM), k41 l0 l1 l2 l3 M = some r → GW 2 0 0 X_X11_ways 41 [(0, vr l0), (1, vi l1), (2, vi l2), (3, vi l3)] [] M (some (vi r.1), r.2)) (l0 : Option Nat) (l1 : Int32) (l2 : Int32) (l3 : Int32) (M : gM) (h : F_X11_ways_b75 k26 k41 l0 l1 l2 l3 M = some r) : GW 2 0 0 X_X11_ways 75 [(0, vr l0), (1, vi l1), (2, vi l2), (3, vi l3)] [] M (some (vi r.1), r.2) := by
  delta F_X11_ways_b75 at h
  refine GW_iinc (j := 3) (X := X_X11_ways) (pc := 75) d_X11_ways_75 rfl (congrArg (fun z => _ + z) (by decide : Int32.ofInt 1 = (1 : Int32))) (Nat.le_of_ble_eq_true rfl) (lv2 := [(3, vi (l3 + 1)), (0, vr l0), (1, vi l1), (2, vi l2)]) rfl ?_
  refine GW_goto (X := X_X11_ways) (pc := 78) 41 d_X11_ways_78 (by decide) ?_
  refine GW_sub [1, 2, 3, 0] rfl ?_
  exact hk41 l0 l1 l2 (l3 + 1) M h
def F_X11_ways_b41 (k26 : Option Nat → Int32 → Int32 → gM → Option (Int32 × gM)) (k41 : Option Nat → Int32 → Int32 → Int32 → gM → Option (Int32 × gM)) (l0 : Option Nat) (l1 : Int32) (l2 : Int32) (l3 : Int32) (M : gM) : Option (Int32 × gM) :=
  (gR 11 M l0 11).bind fun v1 => (gI 1 M v1 7).bind fun v2 => if v2 ≤ l3 then (k26 l0 l1 (l2 + 1) M) else ((gO 11 M l0).bind fun i3 => (F_X11_sharers (some i3) l2 l1 M).bind fun v4 => (F_X11_bit v4 l3 M).bind fun v5 => if v5 = (1 : Int32) then ((gR 11 M (some i3) 10).bind fun v6 => (gO 0 M v6).bind fun i7 => (F_X0_join (some i7) l2 l3 M).bind fun M8 => F_X11_ways_b75 k26 k41 (some i3) l1 l2 l3 M8) else (F_X11_ways_b75 k26 k41 (some i3) l1 l2 l3 M))
set_option maxHeartbeats 1000000 in
theorem T_X11_ways_b41 (k26 : Option Nat → Int32 → Int32 → gM → Option (Int32 × gM)) (k41 : Option Nat → Int32 → Int32 → Int32 → gM → Option (Int32 × gM)) (r : (Int32 × gM)) (hk26 : ∀ (l0 : Option Nat) (l1 : Int32) (l2 : Int32) (M : gM), k26 l0 l1 l2 M = some r → GW 2 0 0 X_X11_ways 26 [(0, vr l0), (1, vi l1), (2, vi l2)] [] M (some (vi r.1), r.2)) (hk41 : ∀ (l0 : Option Nat) (l1 : Int32) (l2 : Int32) (l3 : Int32) (M : gM), k41 l0 l1 l2 l3 M = some r → GW 2 0 0 X_X11_ways 41 [(0, vr l0), (1, vi l1), (2, vi l2), (3, vi l3)] [] M (some (vi r.1), r.2)) (l0 : Option Nat) (l1 : Int32) (l2 : Int32) (l3 : Int32) (M : gM) (h : F_X11_ways_b41 k26 k41 l0 l1 l2 l3 M = some r) : GW 2 0 0 X_X11_ways 41 [(0, vr l0), (1, vi l1), (2, vi l2), (3, vi l3)] [] M (some (vi r.1), r.2) := by
  delta F_X11_ways_b41 at h
  refine GW_iload_n (X := X_X11_ways) (pc := 41) d_X11_ways_41 rfl 3 rfl ?_
  refine GW_aload_n (X := X_X11_ways) (pc := 42) d_X11_ways_42 rfl 0 rfl ?_
  replace h := g_bd h
  obtain ⟨v1, hv1, h⟩ := h
  refine GW_getR (X := X_X11_ways) (pc := 43) f_X11_59 d_X11_ways_43 hv1 (Or.inl ⟨_, ty_11_11⟩) ?_
  replace h := g_bd h
  obtain ⟨v2, hv2, h⟩ := h
  refine GW_getI (X := X_X11_ways) (pc := 46) f_X11_121 d_X11_ways_46 hv2 (Or.inl ty_1_7) ?_
  refine GW_icmp_ge (X := X_X11_ways) (pc := 49) 81 d_X11_ways_49 (by decide) (fun c => ?_) (fun c => ?_)
  · replace h := g_ip c h
    refine GW_iinc (j := 2) (X := X_X11_ways) (pc := 81) d_X11_ways_81 rfl (congrArg (fun z => _ + z) (by decide : Int32.ofInt 1 = (1 : Int32))) (Nat.le_of_ble_eq_true rfl) (lv2 := [(2, vi (l2 + 1)), (0, vr l0), (1, vi l1), (3, vi l3)]) rfl ?_
    refine GW_goto (X := X_X11_ways) (pc := 84) 26 d_X11_ways_84 (by decide) ?_
    refine GW_sub [1, 2, 0] rfl ?_
    exact hk26 l0 l1 (l2 + 1) M h
  · replace h := g_ie c h
    refine GW_aload_n (X := X_X11_ways) (pc := 52) d_X11_ways_52 rfl 0 rfl ?_
    refine GW_iload_n (X := X_X11_ways) (pc := 53) d_X11_ways_53 rfl 2 rfl ?_
    refine GW_iload_n (X := X_X11_ways) (pc := 54) d_X11_ways_54 rfl 1 rfl ?_
    replace h := g_bd h
    obtain ⟨i3, hi3, h⟩ := h
    obtain ⟨rfl, ki3⟩ := g_gO hi3
    replace h := g_bd h
    obtain ⟨v4, hv4, h⟩ := h
    refine GW_callV (X := X_X11_ways) (pc := 55) (bc0 := 0) (bs0 := 0) (r := some (vi v4)) (M2 := M) (c0 := 11) (T_X11_sharers (some i3) l2 l1 M v4 hv4) (Nat.le_of_ble_eq_true rfl) (Nat.le_of_ble_eq_true rfl) rfl g_cok11 ki3 yc_X11_sharers ⟨m_1050, m_1052, m_37, m_116, m_1053⟩ d_X11_ways_55 rfl (st := []) rfl (Nat.le_of_ble_eq_true rfl) (Nat.le_of_ble_eq_true rfl) (Nat.le_of_ble_eq_true rfl) (st2 := [vi v4]) rfl ?_
    refine GW_iload_n (X := X_X11_ways) (pc := 58) d_X11_ways_58 rfl 3 rfl ?_
    replace h := g_bd h
    obtain ⟨v5, hv5, h⟩ := h
    refine GW_callS (X := X_X11_ways) (pc := 59) (bc0 := 0) (bs0 := 0) (r := some (vi v5)) (M2 := M) (T_X11_bit v4 l3 M v5 hv5) (Nat.le_of_ble_eq_true rfl) (Nat.le_of_ble_eq_true rfl) yc_X11_bit ⟨m_772, m_646, m_116, m_647⟩ d_X11_ways_59 rfl (st := []) rfl (Nat.le_of_ble_eq_true rfl) (Nat.le_of_ble_eq_true rfl) (Nat.le_of_ble_eq_true rfl) (st2 := [vi v5]) rfl ?_
    refine GW_iconst (X := X_X11_ways) (pc := 62) (v := 1) d_X11_ways_62 (by decide) ?_
    refine GW_icmp_ne (X := X_X11_ways) (pc := 63) 75 d_X11_ways_63 (by decide) (fun c => ?_) (fun c => ?_)
    · replace h := g_ie c h
      exact T_X11_ways_b75 k26 k41 r hk26 hk41 (some i3) l1 l2 l3 M h
    · replace h := g_ip c h
      refine GW_aload_n (X := X_X11_ways) (pc := 66) d_X11_ways_66 rfl 0 rfl ?_
      replace h := g_bd h
      obtain ⟨v6, hv6, h⟩ := h
      refine GW_getR (X := X_X11_ways) (pc := 67) f_X11_52 d_X11_ways_67 hv6 (Or.inl ⟨_, ty_11_10⟩) ?_
      refine GW_iload_n (X := X_X11_ways) (pc := 70) d_X11_ways_70 rfl 2 rfl ?_
      refine GW_iload_n (X := X_X11_ways) (pc := 71) d_X11_ways_71 rfl 3 rfl ?_
      replace h := g_bd h
      obtain ⟨i7, hi7, h⟩ := h
      obtain ⟨rfl, ki7⟩ := g_gO hi7
      replace h := g_bd h
      obtain ⟨M8, hM8, h⟩ := h
      refine GW_callV (X := X_X11_ways) (pc := 72) (bc0 := 0) (bs0 := 0) (r := none) (M2 := M8) (c0 := 0) (T_X0_join (some i7) l2 l3 M M8 hM8) (Nat.le_of_ble_eq_true rfl) (Nat.le_of_ble_eq_true rfl) rfl g_cok0 ki7 yc_X0_join ⟨m_1056, m_1057, m_1058, m_121, m_1059⟩ d_X11_ways_72 rfl (st := []) rfl (Nat.le_of_ble_eq_true rfl) (Nat.le_of_ble_eq_true rfl) (Nat.le_of_ble_eq_true rfl) (st2 := []) rfl ?_
      exact T_X11_ways_b75 k26 k41 r hk26 hk41 (some i3) l1 l2 l3 M8 h
def F_X11_ways_L41 (k26 : Option Nat → Int32 → Int32 → gM → Option (Int32 × gM)) : Nat → Option Nat → Int32 → Int32 → Int32 → gM → Option (Int32 × gM)
  | 0 => fun _ _ _ _ _ => none
  | n + 1 => F_X11_ways_b41 k26 (F_X11_ways_L41 k26 n)
theorem T_X11_ways_L41 (k26 : Option Nat → Int32 → Int32 → gM → Option (Int32 × gM)) (r : (Int32 × gM)) (hk26 : ∀ (l0 : Option Nat) (l1 : Int32) (l2 : Int32) (M : gM), k26 l0 l1 l2 M = some r → GW 2 0 0 X_X11_ways 26 [(0, vr l0), (1, vi l1), (2, vi l2)] [] M (some (vi r.1), r.2)) : ∀ (n : Nat) (l0 : Option Nat) (l1 : Int32) (l2 : Int32) (l3 : Int32) (M : gM), F_X11_ways_L41 k26 n l0 l1 l2 l3 M = some r → GW 2 0 0 X_X11_ways 41 [(0, vr l0), (1, vi l1), (2, vi l2), (3, vi l3)] [] M (some (vi r.1), r.2) := by
  intro n
  induction n with
  | zero => intro l0 l1 l2 l3 M h; exact g_no h
  | succ n ih => intro l0 l1 l2 l3 M h; exact T_X11_ways_b41 k26 (F_X11_ways_L41 k26 n) r hk26 ih l0 l1 l2 l3 M h
def F_X11_ways_b26 (k26 : Option Nat → Int32 → Int32 → gM → Option (Int32 × gM)) (l0 : Option Nat) (l1 : Int32) (l2 : Int32) (M : gM) : Option (Int32 × gM) :=
  (gR 11 M l0 11).bind fun v1 => (gI 1 M v1 7).bind fun v2 => if v2 ≤ l2 then ((gR 11 M l0 10).bind fun v3 => (gO 0 M v3).bind fun i4 => (F_X0_howMany (some i4) M).bind fun (v5, M6) => some (v5, M6)) else (F_X11_ways_L41 k26 g_fuel l0 l1 l2 (l2 + (1 : Int32)) M)
theorem T_X11_ways_b26 (k26 : Option Nat → Int32 → Int32 → gM → Option (Int32 × gM)) (r : (Int32 × gM)) (hk26 : ∀ (l0 : Option Nat) (l1 : Int32) (l2 : Int32) (M : gM), k26 l0 l1 l2 M = some r → GW 2 0 0 X_X11_ways 26 [(0, vr l0), (1, vi l1), (2, vi l2)] [] M (some (vi r.1), r.2)) (l0 : Option Nat) (l1 : Int32) (l2 : Int32) (M : gM) (h : F_X11_ways_b26 k26 l0 l1 l2 M = some r) : GW 2 0 0 X_X11_ways 26 [(0, vr l0), (1, vi l1), (2, vi l2)] [] M (some (vi r.1), r.2) := by
  delta F_X11_ways_b26 at h
  refine GW_iload_n (X := X_X11_ways) (pc := 26) d_X11_ways_26 rfl 2 rfl ?_
  refine GW_aload_n (X := X_X11_ways) (pc := 27) d_X11_ways_27 rfl 0 rfl ?_
  replace h := g_bd h
  obtain ⟨v1, hv1, h⟩ := h
  refine GW_getR (X := X_X11_ways) (pc := 28) f_X11_59 d_X11_ways_28 hv1 (Or.inl ⟨_, ty_11_11⟩) ?_
  replace h := g_bd h
  obtain ⟨v2, hv2, h⟩ := h
  refine GW_getI (X := X_X11_ways) (pc := 31) f_X11_121 d_X11_ways_31 hv2 (Or.inl ty_1_7) ?_
  refine GW_icmp_ge (X := X_X11_ways) (pc := 34) 87 d_X11_ways_34 (by decide) (fun c => ?_) (fun c => ?_)
  · replace h := g_ip c h
    refine GW_aload_n (X := X_X11_ways) (pc := 87) d_X11_ways_87 rfl 0 rfl ?_
    replace h := g_bd h
    obtain ⟨v3, hv3, h⟩ := h
    refine GW_getR (X := X_X11_ways) (pc := 88) f_X11_52 d_X11_ways_88 hv3 (Or.inl ⟨_, ty_11_10⟩) ?_
    replace h := g_bd h
    obtain ⟨i4, hi4, h⟩ := h
    obtain ⟨rfl, ki4⟩ := g_gO hi4
    replace h := g_bd h
    obtain ⟨⟨v5, M6⟩, hv5, h⟩ := h
    dsimp only at h
    refine GW_callV (X := X_X11_ways) (pc := 91) (bc0 := 0) (bs0 := 0) (r := some (vi v5)) (M2 := M6) (c0 := 0) (T_X0_howMany (some i4) M (v5, M6) hv5) (Nat.le_of_ble_eq_true rfl) (Nat.le_of_ble_eq_true rfl) rfl g_cok0 ki4 yc_X0_howMany ⟨m_1060, m_1061, m_1062, m_121, m_1063⟩ d_X11_ways_91 rfl (st := []) rfl (Nat.le_of_ble_eq_true rfl) (Nat.le_of_ble_eq_true rfl) (Nat.le_of_ble_eq_true rfl) (st2 := [vi v5]) rfl ?_
    replace h := Option.some.inj h
    subst h
    exact GW_ret (X := X_X11_ways) (pc := 94) d_X11_ways_94 rfl trivial
  · replace h := g_ie c h
    refine GW_iload_n (X := X_X11_ways) (pc := 37) d_X11_ways_37 rfl 2 rfl ?_
    refine GW_iconst (X := X_X11_ways) (pc := 38) (v := 1) d_X11_ways_38 (by decide) ?_
    refine GW_iadd (X := X_X11_ways) (pc := 39) d_X11_ways_39 ?_
    refine GW_istore_n (X := X_X11_ways) (pc := 40) d_X11_ways_40 rfl (Nat.le_of_ble_eq_true rfl) (lv2 := [(3, vi (l2 + (1 : Int32))), (0, vr l0), (1, vi l1), (2, vi l2)]) rfl ?_
    refine GW_sub [1, 2, 3, 0] rfl ?_
    exact T_X11_ways_L41 k26 r hk26 g_fuel l0 l1 l2 (l2 + (1 : Int32)) M h
def F_X11_ways_L26 : Nat → Option Nat → Int32 → Int32 → gM → Option (Int32 × gM)
  | 0 => fun _ _ _ _ => none
  | n + 1 => F_X11_ways_b26 (F_X11_ways_L26 n)
theorem T_X11_ways_L26 (r : (Int32 × gM)) : ∀ (n : Nat) (l0 : Option Nat) (l1 : Int32) (l2 : Int32) (M : gM), F_X11_ways_L26 n l0 l1 l2 M = some r → GW 2 0 0 X_X11_ways 26 [(0, vr l0), (1, vi l1), (2, vi l2)] [] M (some (vi r.1), r.2) := by
  intro n
  induction n with
  | zero => intro l0 l1 l2 M h; exact g_no h
  | succ n ih => intro l0 l1 l2 M h; exact T_X11_ways_b26 (F_X11_ways_L26 n) r ih l0 l1 l2 M h
def F_X11_ways_b0 (l0 : Option Nat) (l1 : Int32) (M : gM) : Option (Int32 × gM) :=
  (gO 11 M l0).bind fun i1 => (F_X11_isThing (some i1) l1 M).bind fun v2 => if v2 = 0 then (some ((-1 : Int32), M)) else ((gR 11 M (some i1) 10).bind fun v3 => (gR 11 M (some i1) 11).bind fun v4 => (gI 1 M v4 7).bind fun v5 => (gO 0 M v3).bind fun i6 => (F_X0_clear (some i6) v5 M).bind fun M7 => F_X11_ways_L26 g_fuel (some i1) l1 (0 : Int32) M7)
theorem T_X11_ways_b0 (r : (Int32 × gM)) (l0 : Option Nat) (l1 : Int32) (M : gM) (h : F_X11_ways_b0 l0 l1 M = some r) : GW 2 0 0 X_X11_ways 0 [(0, vr l0), (1, vi l1)] [] M (some (vi r.1), r.2) := by
  delta F_X11_ways_b0 at h
  refine GW_aload_n (X := X_X11_ways) (pc := 0) d_X11_ways_0 rfl 0 rfl ?_
  refine GW_iload_n (X := X_X11_ways) (pc := 1) d_X11_ways_1 rfl 1 rfl ?_
  replace h := g_bd h
  obtain ⟨i1, hi1, h⟩ := h
  obtain ⟨rfl, ki1⟩ := g_gO hi1
  replace h := g_bd h
  obtain ⟨v2, hv2, h⟩ := h
  refine GW_callV (X := X_X11_ways) (pc := 2) (bc0 := 0) (bs0 := 0) (r := some (vi v2)) (M2 := M) (c0 := 11) (T_X11_isThing (some i1) l1 M v2 hv2) (Nat.le_of_ble_eq_true rfl) (Nat.le_of_ble_eq_true rfl) rfl g_cok11 ki1 yc_X11_isThing ⟨m_794, m_796, m_22, m_116, m_797⟩ d_X11_ways_2 rfl (st := []) rfl (Nat.le_of_ble_eq_true rfl) (Nat.le_of_ble_eq_true rfl) (Nat.le_of_ble_eq_true rfl) (st2 := [vi v2]) rfl ?_
  refine GW_if_ne (X := X_X11_ways) (pc := 5) 10 d_X11_ways_5 (by decide) (fun c => ?_) (fun c => ?_)
  · replace h := g_ie c h
    refine GW_aload_n (X := X_X11_ways) (pc := 10) d_X11_ways_10 rfl 0 rfl ?_
    replace h := g_bd h
    obtain ⟨v3, hv3, h⟩ := h
    refine GW_getR (X := X_X11_ways) (pc := 11) f_X11_52 d_X11_ways_11 hv3 (Or.inl ⟨_, ty_11_10⟩) ?_
    refine GW_aload_n (X := X_X11_ways) (pc := 14) d_X11_ways_14 rfl 0 rfl ?_
    replace h := g_bd h
    obtain ⟨v4, hv4, h⟩ := h
    refine GW_getR (X := X_X11_ways) (pc := 15) f_X11_59 d_X11_ways_15 hv4 (Or.inl ⟨_, ty_11_11⟩) ?_
    replace h := g_bd h
    obtain ⟨v5, hv5, h⟩ := h
    refine GW_getI (X := X_X11_ways) (pc := 18) f_X11_121 d_X11_ways_18 hv5 (Or.inl ty_1_7) ?_
    replace h := g_bd h
    obtain ⟨i6, hi6, h⟩ := h
    obtain ⟨rfl, ki6⟩ := g_gO hi6
    replace h := g_bd h
    obtain ⟨M7, hM7, h⟩ := h
    refine GW_callV (X := X_X11_ways) (pc := 21) (bc0 := 0) (bs0 := 0) (r := none) (M2 := M7) (c0 := 0) (T_X0_clear (some i6) v5 M M7 hM7) (Nat.le_of_ble_eq_true rfl) (Nat.le_of_ble_eq_true rfl) rfl g_cok0 ki6 yc_X0_clear ⟨m_1045, m_1046, m_1047, m_121, m_1048⟩ d_X11_ways_21 rfl (st := []) rfl (Nat.le_of_ble_eq_true rfl) (Nat.le_of_ble_eq_true rfl) (Nat.le_of_ble_eq_true rfl) (st2 := []) rfl ?_
    refine GW_iconst (X := X_X11_ways) (pc := 24) (v := 0) d_X11_ways_24 (by decide) ?_
    refine GW_istore_n (X := X_X11_ways) (pc := 25) d_X11_ways_25 rfl (Nat.le_of_ble_eq_true rfl) (lv2 := [(2, vi (0 : Int32)), (0, vr (some i1)), (1, vi l1)]) rfl ?_
    refine GW_sub [1, 2, 0] rfl ?_
    exact T_X11_ways_L26 r g_fuel (some i1) l1 (0 : Int32) M7 h
  · replace h := g_ip c h
    refine GW_iconst (X := X_X11_ways) (pc := 8) (v := -1) d_X11_ways_8 (by decide) ?_
    replace h := Option.some.inj h
    subst h
    exact GW_ret (X := X_X11_ways) (pc := 9) d_X11_ways_9 rfl trivial
def F_X11_ways (l0 : Option Nat) (l1 : Int32) (M : gM) : Option (Int32 × gM) := F_X11_ways_b0 l0 l1 M
theorem T_X11_ways (l0 : Option Nat) (l1 : Int32) (M : gM) (r : (Int32 × gM)) (h : F_X11_ways l0 l1 M = some r) : g_Met 2 0 0 yX11_ways X_X11_ways [vr l0, vi l1] M (some (vi r.1), r.2) :=
  g_Met_of pn_RX11 rfl (Nat.le_of_ble_eq_true rfl) (fun h => by cases h) (GW_sub [0, 1] rfl (T_X11_ways_b0 r l0 l1 M h))
/-! ForgetHeirsModel.countsWay()V -/
theorem d_X12_countsWay_0 : decode cX12_countsWay 0 = .ok (.aload_n 0, 1) := by decide +kernel
theorem d_X12_countsWay_1 : decode cX12_countsWay 1 = .ok (.dup, 1) := by decide +kernel
theorem d_X12_countsWay_2 : decode cX12_countsWay 2 = .ok (.getfield 404, 3) := by decide +kernel
theorem d_X12_countsWay_5 : decode cX12_countsWay 5 = .ok (.iconst 1, 1) := by decide +kernel
theorem d_X12_countsWay_6 : decode cX12_countsWay 6 = .ok (.iadd, 1) := by decide +kernel
theorem d_X12_countsWay_7 : decode cX12_countsWay 7 = .ok (.putfield 404, 3) := by decide +kernel
theorem d_X12_countsWay_10 : decode cX12_countsWay 10 = .ok (.iconst 0, 1) := by decide +kernel
theorem d_X12_countsWay_11 : decode cX12_countsWay 11 = .ok (.istore_n 1, 1) := by decide +kernel
theorem d_X12_countsWay_12 : decode cX12_countsWay 12 = .ok (.iload_n 1, 1) := by decide +kernel
theorem d_X12_countsWay_13 : decode cX12_countsWay 13 = .ok (.aload_n 0, 1) := by decide +kernel
theorem d_X12_countsWay_14 : decode cX12_countsWay 14 = .ok (.getfield 39, 3) := by decide +kernel
theorem d_X12_countsWay_17 : decode cX12_countsWay 17 = .ok (.iconst 2, 1) := by decide +kernel
theorem d_X12_countsWay_18 : decode cX12_countsWay 18 = .ok (.iaload, 1) := by decide +kernel
theorem d_X12_countsWay_19 : decode cX12_countsWay 19 = .ok (.if_icmp .ge 40, 3) := by decide +kernel
theorem d_X12_countsWay_22 : decode cX12_countsWay 22 = .ok (.aload_n 0, 1) := by decide +kernel
theorem d_X12_countsWay_23 : decode cX12_countsWay 23 = .ok (.getfield 55, 3) := by decide +kernel
theorem d_X12_countsWay_26 : decode cX12_countsWay 26 = .ok (.iload_n 1, 1) := by decide +kernel
theorem d_X12_countsWay_27 : decode cX12_countsWay 27 = .ok (.iaload, 1) := by decide +kernel
theorem d_X12_countsWay_28 : decode cX12_countsWay 28 = .ok (.bipush 8, 2) := by decide +kernel
theorem d_X12_countsWay_30 : decode cX12_countsWay 30 = .ok (.if_icmp .ge 23, 3) := by decide +kernel
theorem d_X12_countsWay_33 : decode cX12_countsWay 33 = .ok (.aload_n 0, 1) := by decide +kernel
theorem d_X12_countsWay_34 : decode cX12_countsWay 34 = .ok (.getfield 58, 3) := by decide +kernel
theorem d_X12_countsWay_37 : decode cX12_countsWay 37 = .ok (.bipush 8, 2) := by decide +kernel
theorem d_X12_countsWay_39 : decode cX12_countsWay 39 = .ok (.iload_n 1, 1) := by decide +kernel
theorem d_X12_countsWay_40 : decode cX12_countsWay 40 = .ok (.imul, 1) := by decide +kernel
theorem d_X12_countsWay_41 : decode cX12_countsWay 41 = .ok (.aload_n 0, 1) := by decide +kernel
theorem d_X12_countsWay_42 : decode cX12_countsWay 42 = .ok (.getfield 55, 3) := by decide +kernel
theorem d_X12_countsWay_45 : decode cX12_countsWay 45 = .ok (.iload_n 1, 1) := by decide +kernel
theorem d_X12_countsWay_46 : decode cX12_countsWay 46 = .ok (.iaload, 1) := by decide +kernel
theorem d_X12_countsWay_47 : decode cX12_countsWay 47 = .ok (.iadd, 1) := by decide +kernel
theorem d_X12_countsWay_48 : decode cX12_countsWay 48 = .ok (.dup2, 1) := by decide +kernel
theorem d_X12_countsWay_49 : decode cX12_countsWay 49 = .ok (.iaload, 1) := by decide +kernel
theorem d_X12_countsWay_50 : decode cX12_countsWay 50 = .ok (.iconst 1, 1) := by decide +kernel
theorem d_X12_countsWay_51 : decode cX12_countsWay 51 = .ok (.iadd, 1) := by decide +kernel
theorem d_X12_countsWay_52 : decode cX12_countsWay 52 = .ok (.iastore, 1) := by decide +kernel
theorem d_X12_countsWay_53 : decode cX12_countsWay 53 = .ok (.iinc 1 1, 3) := by decide +kernel
theorem d_X12_countsWay_56 : decode cX12_countsWay 56 = .ok (.goto (-44), 3) := by decide +kernel
theorem d_X12_countsWay_59 : decode cX12_countsWay 59 = .ok (.return_, 1) := by decide +kernel
abbrev X_X12_countsWay : gX := (RX12, cX12_countsWay, 2, none, false)
def F_X12_countsWay_b53 (k12 : Option Nat → Int32 → gM → Option gM) (l0 : Option Nat) (l1 : Int32) (M : gM) : Option gM :=
  k12 l0 (l1 + 1) M
theorem T_X12_countsWay_b53 (k12 : Option Nat → Int32 → gM → Option gM) (r : gM) (hk12 : ∀ (l0 : Option Nat) (l1 : Int32) (M : gM), k12 l0 l1 M = some r → GW 0 0 0 X_X12_countsWay 12 [(0, vr l0), (1, vi l1)] [] M (none, r)) (l0 : Option Nat) (l1 : Int32) (M : gM) (h : F_X12_countsWay_b53 k12 l0 l1 M = some r) : GW 0 0 0 X_X12_countsWay 53 [(0, vr l0), (1, vi l1)] [] M (none, r) := by
  delta F_X12_countsWay_b53 at h
  refine GW_iinc (j := 1) (X := X_X12_countsWay) (pc := 53) d_X12_countsWay_53 rfl (congrArg (fun z => _ + z) (by decide : Int32.ofInt 1 = (1 : Int32))) (Nat.le_of_ble_eq_true rfl) (lv2 := [(1, vi (l1 + 1)), (0, vr l0)]) rfl ?_
  refine GW_goto (X := X_X12_countsWay) (pc := 56) 12 d_X12_countsWay_56 (by decide) ?_
  refine GW_sub [1, 0] rfl ?_
  exact hk12 l0 (l1 + 1) M h
def F_X12_countsWay_b12 (k12 : Option Nat → Int32 → gM → Option gM) (l0 : Option Nat) (l1 : Int32) (M : gM) : Option gM :=
  (gR 12 M l0 20).bind fun v1 => (aI 20 M v1 (2 : Int32)).bind fun v2 => if v2 ≤ l1 then (some M) else ((gR 12 M l0 27).bind fun v3 => (aI 20 M v3 l1).bind fun v4 => if (8 : Int32) ≤ v4 then (F_X12_countsWay_b53 k12 l0 l1 M) else ((gR 12 M l0 28).bind fun v5 => (gR 12 M l0 27).bind fun v6 => (aI 20 M v6 l1).bind fun v7 => (aI 20 M v5 (((8 : Int32) * l1) + v7)).bind fun v8 => (sI M v5 (((8 : Int32) * l1) + v7) (v8 + (1 : Int32))).bind fun M9 => F_X12_countsWay_b53 k12 l0 l1 M9))
set_option maxHeartbeats 1000000 in
theorem T_X12_countsWay_b12 (k12 : Option Nat → Int32 → gM → Option gM) (r : gM) (hk12 : ∀ (l0 : Option Nat) (l1 : Int32) (M : gM), k12 l0 l1 M = some r → GW 0 0 0 X_X12_countsWay 12 [(0, vr l0), (1, vi l1)] [] M (none, r)) (l0 : Option Nat) (l1 : Int32) (M : gM) (h : F_X12_countsWay_b12 k12 l0 l1 M = some r) : GW 0 0 0 X_X12_countsWay 12 [(0, vr l0), (1, vi l1)] [] M (none, r) := by
  delta F_X12_countsWay_b12 at h
  refine GW_iload_n (X := X_X12_countsWay) (pc := 12) d_X12_countsWay_12 rfl 1 rfl ?_
  refine GW_aload_n (X := X_X12_countsWay) (pc := 13) d_X12_countsWay_13 rfl 0 rfl ?_
  replace h := g_bd h
  obtain ⟨v1, hv1, h⟩ := h
  refine GW_getR (X := X_X12_countsWay) (pc := 14) f_X12_39 d_X12_countsWay_14 hv1 (Or.inr ⟨_, ty_12_20⟩) ?_
  refine GW_iconst (X := X_X12_countsWay) (pc := 17) (v := 2) d_X12_countsWay_17 (by decide) ?_
  replace h := g_bd h
  obtain ⟨v2, hv2, h⟩ := h
  refine GW_iald (X := X_X12_countsWay) (pc := 18) d_X12_countsWay_18 hv2 ?_
  refine GW_icmp_ge (X := X_X12_countsWay) (pc := 19) 59 d_X12_countsWay_19 (by decide) (fun c => ?_) (fun c => ?_)
  · replace h := g_ip c h
    replace h := Option.some.inj h
    subst h
    exact GW_ret (X := X_X12_countsWay) (pc := 59) d_X12_countsWay_59 rfl trivial
  · replace h := g_ie c h
    refine GW_aload_n (X := X_X12_countsWay) (pc := 22) d_X12_countsWay_22 rfl 0 rfl ?_
    replace h := g_bd h
    obtain ⟨v3, hv3, h⟩ := h
    refine GW_getR (X := X_X12_countsWay) (pc := 23) f_X12_55 d_X12_countsWay_23 hv3 (Or.inr ⟨_, ty_12_27⟩) ?_
    refine GW_iload_n (X := X_X12_countsWay) (pc := 26) d_X12_countsWay_26 rfl 1 rfl ?_
    replace h := g_bd h
    obtain ⟨v4, hv4, h⟩ := h
    refine GW_iald (X := X_X12_countsWay) (pc := 27) d_X12_countsWay_27 hv4 ?_
    refine GW_bipush (X := X_X12_countsWay) (pc := 28) (v := 8) d_X12_countsWay_28 (by decide) ?_
    refine GW_icmp_ge (X := X_X12_countsWay) (pc := 30) 53 d_X12_countsWay_30 (by decide) (fun c => ?_) (fun c => ?_)
    · replace h := g_ip c h
      exact T_X12_countsWay_b53 k12 r hk12 l0 l1 M h
    · replace h := g_ie c h
      refine GW_aload_n (X := X_X12_countsWay) (pc := 33) d_X12_countsWay_33 rfl 0 rfl ?_
      replace h := g_bd h
      obtain ⟨v5, hv5, h⟩ := h
      refine GW_getR (X := X_X12_countsWay) (pc := 34) f_X12_58 d_X12_countsWay_34 hv5 (Or.inr ⟨_, ty_12_28⟩) ?_
      refine GW_bipush (X := X_X12_countsWay) (pc := 37) (v := 8) d_X12_countsWay_37 (by decide) ?_
      refine GW_iload_n (X := X_X12_countsWay) (pc := 39) d_X12_countsWay_39 rfl 1 rfl ?_
      refine GW_imul (X := X_X12_countsWay) (pc := 40) d_X12_countsWay_40 ?_
      refine GW_aload_n (X := X_X12_countsWay) (pc := 41) d_X12_countsWay_41 rfl 0 rfl ?_
      replace h := g_bd h
      obtain ⟨v6, hv6, h⟩ := h
      refine GW_getR (X := X_X12_countsWay) (pc := 42) f_X12_55 d_X12_countsWay_42 hv6 (Or.inr ⟨_, ty_12_27⟩) ?_
      refine GW_iload_n (X := X_X12_countsWay) (pc := 45) d_X12_countsWay_45 rfl 1 rfl ?_
      replace h := g_bd h
      obtain ⟨v7, hv7, h⟩ := h
      refine GW_iald (X := X_X12_countsWay) (pc := 46) d_X12_countsWay_46 hv7 ?_
      refine GW_iadd (X := X_X12_countsWay) (pc := 47) d_X12_countsWay_47 ?_
      refine GW_dup2 (X := X_X12_countsWay) (pc := 48) d_X12_countsWay_48 rfl rfl ?_
      replace h := g_bd h
      obtain ⟨v8, hv8, h⟩ := h
      refine GW_iald (X := X_X12_countsWay) (pc := 49) d_X12_countsWay_49 hv8 ?_
      refine GW_iconst (X := X_X12_countsWay) (pc := 50) (v := 1) d_X12_countsWay_50 (by decide) ?_
      refine GW_iadd (X := X_X12_countsWay) (pc := 51) d_X12_countsWay_51 ?_
      replace h := g_bd h
      obtain ⟨M9, hM9, h⟩ := h
      refine GW_iast (X := X_X12_countsWay) (pc := 52) d_X12_countsWay_52 hM9 ?_
      exact T_X12_countsWay_b53 k12 r hk12 l0 l1 M9 h
def F_X12_countsWay_L12 : Nat → Option Nat → Int32 → gM → Option gM
  | 0 => fun _ _ _ => none
  | n + 1 => F_X12_countsWay_b12 (F_X12_countsWay_L12 n)
theorem T_X12_countsWay_L12 (r : gM) : ∀ (n : Nat) (l0 : Option Nat) (l1 : Int32) (M : gM), F_X12_countsWay_L12 n l0 l1 M = some r → GW 0 0 0 X_X12_countsWay 12 [(0, vr l0), (1, vi l1)] [] M (none, r) := by
  intro n
  induction n with
  | zero => intro l0 l1 M h; exact g_no h
  | succ n ih => intro l0 l1 M h; exact T_X12_countsWay_b12 (F_X12_countsWay_L12 n) r ih l0 l1 M h
def F_X12_countsWay_b0 (l0 : Option Nat) (M : gM) : Option gM :=
  (gI 12 M l0 29).bind fun v1 => (pI 12 M l0 29 (v1 + (1 : Int32))).bind fun M2 => F_X12_countsWay_L12 g_fuel l0 (0 : Int32) M2
theorem T_X12_countsWay_b0 (r : gM) (l0 : Option Nat) (M : gM) (h : F_X12_countsWay_b0 l0 M = some r) : GW 0 0 0 X_X12_countsWay 0 [(0, vr l0)] [] M (none, r) := by
  delta F_X12_countsWay_b0 at h
  refine GW_aload_n (X := X_X12_countsWay) (pc := 0) d_X12_countsWay_0 rfl 0 rfl ?_
  refine GW_dup (X := X_X12_countsWay) (pc := 1) d_X12_countsWay_1 rfl ?_
  replace h := g_bd h
  obtain ⟨v1, hv1, h⟩ := h
  refine GW_getI (X := X_X12_countsWay) (pc := 2) f_X12_404 d_X12_countsWay_2 hv1 (Or.inl ty_12_29) ?_
  refine GW_iconst (X := X_X12_countsWay) (pc := 5) (v := 1) d_X12_countsWay_5 (by decide) ?_
  refine GW_iadd (X := X_X12_countsWay) (pc := 6) d_X12_countsWay_6 ?_
  replace h := g_bd h
  obtain ⟨M2, hM2, h⟩ := h
  refine GW_putI (X := X_X12_countsWay) (pc := 7) f_X12_404 d_X12_countsWay_7 hM2 (Or.inl fi_12_29) (Or.inl ty_12_29) ?_
  refine GW_iconst (X := X_X12_countsWay) (pc := 10) (v := 0) d_X12_countsWay_10 (by decide) ?_
  refine GW_istore_n (X := X_X12_countsWay) (pc := 11) d_X12_countsWay_11 rfl (Nat.le_of_ble_eq_true rfl) (lv2 := [(1, vi (0 : Int32)), (0, vr l0)]) rfl ?_
  refine GW_sub [1, 0] rfl ?_
  exact T_X12_countsWay_L12 r g_fuel l0 (0 : Int32) M2 h
def F_X12_countsWay (l0 : Option Nat) (M : gM) : Option gM := F_X12_countsWay_b0 l0 M
theorem T_X12_countsWay (l0 : Option Nat) (M : gM) (r : gM) (h : F_X12_countsWay l0 M = some r) : g_Met 0 0 0 yX12_countsWay X_X12_countsWay [vr l0] M (none, r) :=
  g_Met_of pn_RX12 rfl (Nat.le_of_ble_eq_true rfl) (fun h => by cases h) (GW_sub [0] rfl (T_X12_countsWay_b0 r l0 M h))
