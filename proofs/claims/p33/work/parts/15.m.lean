/-! ForgetHeirs$State.clear()V -/
theorem d_X8_clear_0 : decode cX8_clear 0 = .ok (.iconst 0, 1) := by decide +kernel
theorem d_X8_clear_1 : decode cX8_clear 1 = .ok (.istore_n 1, 1) := by decide +kernel
theorem d_X8_clear_2 : decode cX8_clear 2 = .ok (.iload_n 1, 1) := by decide +kernel
theorem d_X8_clear_3 : decode cX8_clear 3 = .ok (.bipush 49, 2) := by decide +kernel
theorem d_X8_clear_5 : decode cX8_clear 5 = .ok (.if_icmp .ge 23, 3) := by decide +kernel
theorem d_X8_clear_8 : decode cX8_clear 8 = .ok (.aload_n 0, 1) := by decide +kernel
theorem d_X8_clear_9 : decode cX8_clear 9 = .ok (.getfield 9, 3) := by decide +kernel
theorem d_X8_clear_12 : decode cX8_clear 12 = .ok (.iload_n 1, 1) := by decide +kernel
theorem d_X8_clear_13 : decode cX8_clear 13 = .ok (.iconst 0, 1) := by decide +kernel
theorem d_X8_clear_14 : decode cX8_clear 14 = .ok (.iastore, 1) := by decide +kernel
theorem d_X8_clear_15 : decode cX8_clear 15 = .ok (.aload_n 0, 1) := by decide +kernel
theorem d_X8_clear_16 : decode cX8_clear 16 = .ok (.getfield 15, 3) := by decide +kernel
theorem d_X8_clear_19 : decode cX8_clear 19 = .ok (.iload_n 1, 1) := by decide +kernel
theorem d_X8_clear_20 : decode cX8_clear 20 = .ok (.iconst 0, 1) := by decide +kernel
theorem d_X8_clear_21 : decode cX8_clear 21 = .ok (.iastore, 1) := by decide +kernel
theorem d_X8_clear_22 : decode cX8_clear 22 = .ok (.iinc 1 1, 3) := by decide +kernel
theorem d_X8_clear_25 : decode cX8_clear 25 = .ok (.goto (-23), 3) := by decide +kernel
theorem d_X8_clear_28 : decode cX8_clear 28 = .ok (.iconst 0, 1) := by decide +kernel
theorem d_X8_clear_29 : decode cX8_clear 29 = .ok (.istore_n 1, 1) := by decide +kernel
theorem d_X8_clear_30 : decode cX8_clear 30 = .ok (.iload_n 1, 1) := by decide +kernel
theorem d_X8_clear_31 : decode cX8_clear 31 = .ok (.bipush 7, 2) := by decide +kernel
theorem d_X8_clear_33 : decode cX8_clear 33 = .ok (.if_icmp .ge 23, 3) := by decide +kernel
theorem d_X8_clear_36 : decode cX8_clear 36 = .ok (.aload_n 0, 1) := by decide +kernel
theorem d_X8_clear_37 : decode cX8_clear 37 = .ok (.getfield 18, 3) := by decide +kernel
theorem d_X8_clear_40 : decode cX8_clear 40 = .ok (.iload_n 1, 1) := by decide +kernel
theorem d_X8_clear_41 : decode cX8_clear 41 = .ok (.iconst 0, 1) := by decide +kernel
theorem d_X8_clear_42 : decode cX8_clear 42 = .ok (.iastore, 1) := by decide +kernel
theorem d_X8_clear_43 : decode cX8_clear 43 = .ok (.aload_n 0, 1) := by decide +kernel
theorem d_X8_clear_44 : decode cX8_clear 44 = .ok (.getfield 21, 3) := by decide +kernel
theorem d_X8_clear_47 : decode cX8_clear 47 = .ok (.iload_n 1, 1) := by decide +kernel
theorem d_X8_clear_48 : decode cX8_clear 48 = .ok (.iconst (-1), 1) := by decide +kernel
theorem d_X8_clear_49 : decode cX8_clear 49 = .ok (.iastore, 1) := by decide +kernel
theorem d_X8_clear_50 : decode cX8_clear 50 = .ok (.iinc 1 1, 3) := by decide +kernel
theorem d_X8_clear_53 : decode cX8_clear 53 = .ok (.goto (-23), 3) := by decide +kernel
theorem d_X8_clear_56 : decode cX8_clear 56 = .ok (.aload_n 0, 1) := by decide +kernel
theorem d_X8_clear_57 : decode cX8_clear 57 = .ok (.iconst 0, 1) := by decide +kernel
theorem d_X8_clear_58 : decode cX8_clear 58 = .ok (.putfield 24, 3) := by decide +kernel
theorem d_X8_clear_61 : decode cX8_clear 61 = .ok (.aload_n 0, 1) := by decide +kernel
theorem d_X8_clear_62 : decode cX8_clear 62 = .ok (.iconst 0, 1) := by decide +kernel
theorem d_X8_clear_63 : decode cX8_clear 63 = .ok (.putfield 28, 3) := by decide +kernel
theorem d_X8_clear_66 : decode cX8_clear 66 = .ok (.aload_n 0, 1) := by decide +kernel
theorem d_X8_clear_67 : decode cX8_clear 67 = .ok (.iconst 0, 1) := by decide +kernel
theorem d_X8_clear_68 : decode cX8_clear 68 = .ok (.putfield 31, 3) := by decide +kernel
theorem d_X8_clear_71 : decode cX8_clear 71 = .ok (.return_, 1) := by decide +kernel
abbrev X_X8_clear : gX := (RX8, cX8_clear, 2, none, false)
def F_X8_clear_b30 (k30 : Option Nat → Int32 → gM → Option gM) (l0 : Option Nat) (l1 : Int32) (M : gM) : Option gM :=
  if (7 : Int32) ≤ l1 then ((pI 8 M l0 4 (0 : Int32)).bind fun M1 => (pI 8 M1 l0 5 (0 : Int32)).bind fun M2 => (pI 8 M2 l0 6 (0 : Int32)).bind fun M3 => some M3) else ((gR 8 M l0 2).bind fun v4 => (sI M v4 l1 (0 : Int32)).bind fun M5 => (gR 8 M5 l0 3).bind fun v6 => (sI M5 v6 l1 (-1 : Int32)).bind fun M7 => k30 l0 (l1 + 1) M7)
set_option maxHeartbeats 1000000 in
theorem T_X8_clear_b30 (k30 : Option Nat → Int32 → gM → Option gM) (r : gM) (hk30 : ∀ (l0 : Option Nat) (l1 : Int32) (M : gM), k30 l0 l1 M = some r → GW 0 0 0 X_X8_clear 30 [(0, vr l0), (1, vi l1)] [] M (none, r)) (l0 : Option Nat) (l1 : Int32) (M : gM) (h : F_X8_clear_b30 k30 l0 l1 M = some r) : GW 0 0 0 X_X8_clear 30 [(0, vr l0), (1, vi l1)] [] M (none, r) := by
  delta F_X8_clear_b30 at h
  refine GW_iload_n (X := X_X8_clear) (pc := 30) d_X8_clear_30 rfl 1 rfl ?_
  refine GW_bipush (X := X_X8_clear) (pc := 31) (v := 7) d_X8_clear_31 (by decide) ?_
  refine GW_icmp_ge (X := X_X8_clear) (pc := 33) 56 d_X8_clear_33 (by decide) (fun c => ?_) (fun c => ?_)
  · replace h := g_ip c h
    refine GW_aload_n (X := X_X8_clear) (pc := 56) d_X8_clear_56 rfl 0 rfl ?_
    refine GW_iconst (X := X_X8_clear) (pc := 57) (v := 0) d_X8_clear_57 (by decide) ?_
    replace h := g_bd h
    obtain ⟨M1, hM1, h⟩ := h
    refine GW_putI (X := X_X8_clear) (pc := 58) f_X8_24 d_X8_clear_58 hM1 (Or.inl fi_8_4) (Or.inl ty_8_4) ?_
    refine GW_aload_n (X := X_X8_clear) (pc := 61) d_X8_clear_61 rfl 0 rfl ?_
    refine GW_iconst (X := X_X8_clear) (pc := 62) (v := 0) d_X8_clear_62 (by decide) ?_
    replace h := g_bd h
    obtain ⟨M2, hM2, h⟩ := h
    refine GW_putI (X := X_X8_clear) (pc := 63) f_X8_28 d_X8_clear_63 hM2 (Or.inl fi_8_5) (Or.inl ty_8_5) ?_
    refine GW_aload_n (X := X_X8_clear) (pc := 66) d_X8_clear_66 rfl 0 rfl ?_
    refine GW_iconst (X := X_X8_clear) (pc := 67) (v := 0) d_X8_clear_67 (by decide) ?_
    replace h := g_bd h
    obtain ⟨M3, hM3, h⟩ := h
    refine GW_putI (X := X_X8_clear) (pc := 68) f_X8_31 d_X8_clear_68 hM3 (Or.inl fi_8_6) (Or.inl ty_8_6) ?_
    replace h := Option.some.inj h
    subst h
    exact GW_ret (X := X_X8_clear) (pc := 71) d_X8_clear_71 rfl trivial
  · replace h := g_ie c h
    refine GW_aload_n (X := X_X8_clear) (pc := 36) d_X8_clear_36 rfl 0 rfl ?_
    replace h := g_bd h
    obtain ⟨v4, hv4, h⟩ := h
    refine GW_getR (X := X_X8_clear) (pc := 37) f_X8_18 d_X8_clear_37 hv4 (Or.inr ⟨_, ty_8_2⟩) ?_
    refine GW_iload_n (X := X_X8_clear) (pc := 40) d_X8_clear_40 rfl 1 rfl ?_
    refine GW_iconst (X := X_X8_clear) (pc := 41) (v := 0) d_X8_clear_41 (by decide) ?_
    replace h := g_bd h
    obtain ⟨M5, hM5, h⟩ := h
    refine GW_iast (X := X_X8_clear) (pc := 42) d_X8_clear_42 hM5 ?_
    refine GW_aload_n (X := X_X8_clear) (pc := 43) d_X8_clear_43 rfl 0 rfl ?_
    replace h := g_bd h
    obtain ⟨v6, hv6, h⟩ := h
    refine GW_getR (X := X_X8_clear) (pc := 44) f_X8_21 d_X8_clear_44 hv6 (Or.inr ⟨_, ty_8_3⟩) ?_
    refine GW_iload_n (X := X_X8_clear) (pc := 47) d_X8_clear_47 rfl 1 rfl ?_
    refine GW_iconst (X := X_X8_clear) (pc := 48) (v := -1) d_X8_clear_48 (by decide) ?_
    replace h := g_bd h
    obtain ⟨M7, hM7, h⟩ := h
    refine GW_iast (X := X_X8_clear) (pc := 49) d_X8_clear_49 hM7 ?_
    refine GW_iinc (j := 1) (X := X_X8_clear) (pc := 50) d_X8_clear_50 rfl (congrArg (fun z => _ + z) (by decide : Int32.ofInt 1 = (1 : Int32))) (Nat.le_of_ble_eq_true rfl) (lv2 := [(1, vi (l1 + 1)), (0, vr l0)]) rfl ?_
    refine GW_goto (X := X_X8_clear) (pc := 53) 30 d_X8_clear_53 (by decide) ?_
    refine GW_sub [1, 0] rfl ?_
    exact hk30 l0 (l1 + 1) M7 h
def F_X8_clear_L30 : Nat → Option Nat → Int32 → gM → Option gM
  | 0 => fun _ _ _ => none
  | n + 1 => F_X8_clear_b30 (F_X8_clear_L30 n)
theorem T_X8_clear_L30 (r : gM) : ∀ (n : Nat) (l0 : Option Nat) (l1 : Int32) (M : gM), F_X8_clear_L30 n l0 l1 M = some r → GW 0 0 0 X_X8_clear 30 [(0, vr l0), (1, vi l1)] [] M (none, r) := by
  intro n
  induction n with
  | zero => intro l0 l1 M h; exact g_no h
  | succ n ih => intro l0 l1 M h; exact T_X8_clear_b30 (F_X8_clear_L30 n) r ih l0 l1 M h
def F_X8_clear_b2 (k2 : Option Nat → Int32 → gM → Option gM) (l0 : Option Nat) (l1 : Int32) (M : gM) : Option gM :=
  if (49 : Int32) ≤ l1 then (F_X8_clear_L30 g_fuel l0 (0 : Int32) M) else ((gR 8 M l0 0).bind fun v1 => (sI M v1 l1 (0 : Int32)).bind fun M2 => (gR 8 M2 l0 1).bind fun v3 => (sI M2 v3 l1 (0 : Int32)).bind fun M4 => k2 l0 (l1 + 1) M4)
theorem T_X8_clear_b2 (k2 : Option Nat → Int32 → gM → Option gM) (r : gM) (hk2 : ∀ (l0 : Option Nat) (l1 : Int32) (M : gM), k2 l0 l1 M = some r → GW 0 0 0 X_X8_clear 2 [(0, vr l0), (1, vi l1)] [] M (none, r)) (l0 : Option Nat) (l1 : Int32) (M : gM) (h : F_X8_clear_b2 k2 l0 l1 M = some r) : GW 0 0 0 X_X8_clear 2 [(0, vr l0), (1, vi l1)] [] M (none, r) := by
  delta F_X8_clear_b2 at h
  refine GW_iload_n (X := X_X8_clear) (pc := 2) d_X8_clear_2 rfl 1 rfl ?_
  refine GW_bipush (X := X_X8_clear) (pc := 3) (v := 49) d_X8_clear_3 (by decide) ?_
  refine GW_icmp_ge (X := X_X8_clear) (pc := 5) 28 d_X8_clear_5 (by decide) (fun c => ?_) (fun c => ?_)
  · replace h := g_ip c h
    refine GW_iconst (X := X_X8_clear) (pc := 28) (v := 0) d_X8_clear_28 (by decide) ?_
    refine GW_istore_n (X := X_X8_clear) (pc := 29) d_X8_clear_29 rfl (Nat.le_of_ble_eq_true rfl) (lv2 := [(1, vi (0 : Int32)), (0, vr l0)]) rfl ?_
    refine GW_sub [1, 0] rfl ?_
    exact T_X8_clear_L30 r g_fuel l0 (0 : Int32) M h
  · replace h := g_ie c h
    refine GW_aload_n (X := X_X8_clear) (pc := 8) d_X8_clear_8 rfl 0 rfl ?_
    replace h := g_bd h
    obtain ⟨v1, hv1, h⟩ := h
    refine GW_getR (X := X_X8_clear) (pc := 9) f_X8_9 d_X8_clear_9 hv1 (Or.inr ⟨_, ty_8_0⟩) ?_
    refine GW_iload_n (X := X_X8_clear) (pc := 12) d_X8_clear_12 rfl 1 rfl ?_
    refine GW_iconst (X := X_X8_clear) (pc := 13) (v := 0) d_X8_clear_13 (by decide) ?_
    replace h := g_bd h
    obtain ⟨M2, hM2, h⟩ := h
    refine GW_iast (X := X_X8_clear) (pc := 14) d_X8_clear_14 hM2 ?_
    refine GW_aload_n (X := X_X8_clear) (pc := 15) d_X8_clear_15 rfl 0 rfl ?_
    replace h := g_bd h
    obtain ⟨v3, hv3, h⟩ := h
    refine GW_getR (X := X_X8_clear) (pc := 16) f_X8_15 d_X8_clear_16 hv3 (Or.inr ⟨_, ty_8_1⟩) ?_
    refine GW_iload_n (X := X_X8_clear) (pc := 19) d_X8_clear_19 rfl 1 rfl ?_
    refine GW_iconst (X := X_X8_clear) (pc := 20) (v := 0) d_X8_clear_20 (by decide) ?_
    replace h := g_bd h
    obtain ⟨M4, hM4, h⟩ := h
    refine GW_iast (X := X_X8_clear) (pc := 21) d_X8_clear_21 hM4 ?_
    refine GW_iinc (j := 1) (X := X_X8_clear) (pc := 22) d_X8_clear_22 rfl (congrArg (fun z => _ + z) (by decide : Int32.ofInt 1 = (1 : Int32))) (Nat.le_of_ble_eq_true rfl) (lv2 := [(1, vi (l1 + 1)), (0, vr l0)]) rfl ?_
    refine GW_goto (X := X_X8_clear) (pc := 25) 2 d_X8_clear_25 (by decide) ?_
    refine GW_sub [1, 0] rfl ?_
    exact hk2 l0 (l1 + 1) M4 h
def F_X8_clear_L2 : Nat → Option Nat → Int32 → gM → Option gM
  | 0 => fun _ _ _ => none
  | n + 1 => F_X8_clear_b2 (F_X8_clear_L2 n)
theorem T_X8_clear_L2 (r : gM) : ∀ (n : Nat) (l0 : Option Nat) (l1 : Int32) (M : gM), F_X8_clear_L2 n l0 l1 M = some r → GW 0 0 0 X_X8_clear 2 [(0, vr l0), (1, vi l1)] [] M (none, r) := by
  intro n
  induction n with
  | zero => intro l0 l1 M h; exact g_no h
  | succ n ih => intro l0 l1 M h; exact T_X8_clear_b2 (F_X8_clear_L2 n) r ih l0 l1 M h
def F_X8_clear_b0 (l0 : Option Nat) (M : gM) : Option gM :=
  F_X8_clear_L2 g_fuel l0 (0 : Int32) M
theorem T_X8_clear_b0 (r : gM) (l0 : Option Nat) (M : gM) (h : F_X8_clear_b0 l0 M = some r) : GW 0 0 0 X_X8_clear 0 [(0, vr l0)] [] M (none, r) := by
  delta F_X8_clear_b0 at h
  refine GW_iconst (X := X_X8_clear) (pc := 0) (v := 0) d_X8_clear_0 (by decide) ?_
  refine GW_istore_n (X := X_X8_clear) (pc := 1) d_X8_clear_1 rfl (Nat.le_of_ble_eq_true rfl) (lv2 := [(1, vi (0 : Int32)), (0, vr l0)]) rfl ?_
  refine GW_sub [1, 0] rfl ?_
  exact T_X8_clear_L2 r g_fuel l0 (0 : Int32) M h
def F_X8_clear (l0 : Option Nat) (M : gM) : Option gM := F_X8_clear_b0 l0 M
theorem T_X8_clear (l0 : Option Nat) (M : gM) (r : gM) (h : F_X8_clear l0 M = some r) : g_Met 0 0 0 yX8_clear X_X8_clear [vr l0] M (none, r) :=
  g_Met_of pn_RX8 rfl (Nat.le_of_ble_eq_true rfl) (fun h => by cases h) (GW_sub [0] rfl (T_X8_clear_b0 r l0 M h))
/-! ForgetHeirs$Tape.kind()I -/
theorem d_X9_kind_0 : decode cX9_kind 0 = .ok (.aload_n 0, 1) := by decide +kernel
theorem d_X9_kind_1 : decode cX9_kind 1 = .ok (.getfield 29, 3) := by decide +kernel
theorem d_X9_kind_4 : decode cX9_kind 4 = .ok (.aload_n 0, 1) := by decide +kernel
theorem d_X9_kind_5 : decode cX9_kind 5 = .ok (.getfield 25, 3) := by decide +kernel
theorem d_X9_kind_8 : decode cX9_kind 8 = .ok (.if_icmp .ge 15, 3) := by decide +kernel
theorem d_X9_kind_11 : decode cX9_kind 11 = .ok (.aload_n 0, 1) := by decide +kernel
theorem d_X9_kind_12 : decode cX9_kind 12 = .ok (.getfield 15, 3) := by decide +kernel
theorem d_X9_kind_15 : decode cX9_kind 15 = .ok (.aload_n 0, 1) := by decide +kernel
theorem d_X9_kind_16 : decode cX9_kind 16 = .ok (.getfield 29, 3) := by decide +kernel
theorem d_X9_kind_19 : decode cX9_kind 19 = .ok (.iaload, 1) := by decide +kernel
theorem d_X9_kind_20 : decode cX9_kind 20 = .ok (.goto 6, 3) := by decide +kernel
theorem d_X9_kind_23 : decode cX9_kind 23 = .ok (.sipush 256, 3) := by decide +kernel
theorem d_X9_kind_26 : decode cX9_kind 26 = .ok (.ireturn, 1) := by decide +kernel
abbrev X_X9_kind : gX := (RX9, cX9_kind, 1, (some .int), false)
def F_X9_kind_b0 (M : gM) (l0 : Option Nat) : Option Int32 :=
  (gI 9 M l0 5).bind fun v1 => (gI 9 M l0 4).bind fun v2 => if v2 ≤ v1 then (some (256 : Int32)) else ((gR 9 M l0 1).bind fun v3 => (gI 9 M l0 5).bind fun v4 => (aI 20 M v3 v4).bind fun v5 => some v5)
theorem T_X9_kind_b0 (M : gM) (r : Int32) (l0 : Option Nat) (h : F_X9_kind_b0 M l0 = some r) : GW 0 0 0 X_X9_kind 0 [(0, vr l0)] [] M (some (vi r), M) := by
  delta F_X9_kind_b0 at h
  refine GW_aload_n (X := X_X9_kind) (pc := 0) d_X9_kind_0 rfl 0 rfl ?_
  replace h := g_bd h
  obtain ⟨v1, hv1, h⟩ := h
  refine GW_getI (X := X_X9_kind) (pc := 1) f_X9_29 d_X9_kind_1 hv1 (Or.inl ty_9_5) ?_
  refine GW_aload_n (X := X_X9_kind) (pc := 4) d_X9_kind_4 rfl 0 rfl ?_
  replace h := g_bd h
  obtain ⟨v2, hv2, h⟩ := h
  refine GW_getI (X := X_X9_kind) (pc := 5) f_X9_25 d_X9_kind_5 hv2 (Or.inl ty_9_4) ?_
  refine GW_icmp_ge (X := X_X9_kind) (pc := 8) 23 d_X9_kind_8 (by decide) (fun c => ?_) (fun c => ?_)
  · replace h := g_ip c h
    refine GW_sipush (X := X_X9_kind) (pc := 23) (v := 256) d_X9_kind_23 (by decide) ?_
    replace h := Option.some.inj h
    subst h
    exact GW_ret (X := X_X9_kind) (pc := 26) d_X9_kind_26 rfl trivial
  · replace h := g_ie c h
    refine GW_aload_n (X := X_X9_kind) (pc := 11) d_X9_kind_11 rfl 0 rfl ?_
    replace h := g_bd h
    obtain ⟨v3, hv3, h⟩ := h
    refine GW_getR (X := X_X9_kind) (pc := 12) f_X9_15 d_X9_kind_12 hv3 (Or.inr ⟨_, ty_9_1⟩) ?_
    refine GW_aload_n (X := X_X9_kind) (pc := 15) d_X9_kind_15 rfl 0 rfl ?_
    replace h := g_bd h
    obtain ⟨v4, hv4, h⟩ := h
    refine GW_getI (X := X_X9_kind) (pc := 16) f_X9_29 d_X9_kind_16 hv4 (Or.inl ty_9_5) ?_
    replace h := g_bd h
    obtain ⟨v5, hv5, h⟩ := h
    refine GW_iald (X := X_X9_kind) (pc := 19) d_X9_kind_19 hv5 ?_
    refine GW_goto (X := X_X9_kind) (pc := 20) 26 d_X9_kind_20 (by decide) ?_
    replace h := Option.some.inj h
    subst h
    exact GW_ret (X := X_X9_kind) (pc := 26) d_X9_kind_26 rfl trivial
def F_X9_kind (l0 : Option Nat) (M : gM) : Option Int32 := F_X9_kind_b0 M l0
theorem T_X9_kind (l0 : Option Nat) (M : gM) (r : Int32) (h : F_X9_kind l0 M = some r) : g_Met 0 0 0 yX9_kind X_X9_kind [vr l0] M (some (vi r), M) :=
  g_Met_of pn_RX9 rfl (Nat.le_of_ble_eq_true rfl) (fun h => by cases h) (GW_sub [0] rfl (T_X9_kind_b0 M r l0 h))
/-! ForgetHeirs$HouseReader.isClause(I)Z -/
theorem d_X2_isClause_0 : decode cX2_isClause 0 = .ok (.iload_n 0, 1) := by decide +kernel
theorem d_X2_isClause_1 : decode cX2_isClause 1 = .ok (.sipush 275, 3) := by decide +kernel
theorem d_X2_isClause_4 : decode cX2_isClause 4 = .ok (.if_icmp .eq 45, 3) := by decide +kernel
theorem d_X2_isClause_7 : decode cX2_isClause 7 = .ok (.iload_n 0, 1) := by decide +kernel
theorem d_X2_isClause_8 : decode cX2_isClause 8 = .ok (.sipush 262, 3) := by decide +kernel
theorem d_X2_isClause_11 : decode cX2_isClause 11 = .ok (.if_icmp .eq 38, 3) := by decide +kernel
theorem d_X2_isClause_14 : decode cX2_isClause 14 = .ok (.iload_n 0, 1) := by decide +kernel
theorem d_X2_isClause_15 : decode cX2_isClause 15 = .ok (.sipush 268, 3) := by decide +kernel
theorem d_X2_isClause_18 : decode cX2_isClause 18 = .ok (.if_icmp .eq 31, 3) := by decide +kernel
theorem d_X2_isClause_21 : decode cX2_isClause 21 = .ok (.iload_n 0, 1) := by decide +kernel
theorem d_X2_isClause_22 : decode cX2_isClause 22 = .ok (.sipush 261, 3) := by decide +kernel
theorem d_X2_isClause_25 : decode cX2_isClause 25 = .ok (.if_icmp .eq 24, 3) := by decide +kernel
theorem d_X2_isClause_28 : decode cX2_isClause 28 = .ok (.iload_n 0, 1) := by decide +kernel
theorem d_X2_isClause_29 : decode cX2_isClause 29 = .ok (.sipush 267, 3) := by decide +kernel
theorem d_X2_isClause_32 : decode cX2_isClause 32 = .ok (.if_icmp .eq 17, 3) := by decide +kernel
theorem d_X2_isClause_35 : decode cX2_isClause 35 = .ok (.iload_n 0, 1) := by decide +kernel
theorem d_X2_isClause_36 : decode cX2_isClause 36 = .ok (.sipush 276, 3) := by decide +kernel
theorem d_X2_isClause_39 : decode cX2_isClause 39 = .ok (.if_icmp .eq 10, 3) := by decide +kernel
theorem d_X2_isClause_42 : decode cX2_isClause 42 = .ok (.iload_n 0, 1) := by decide +kernel
theorem d_X2_isClause_43 : decode cX2_isClause 43 = .ok (.sipush 277, 3) := by decide +kernel
theorem d_X2_isClause_46 : decode cX2_isClause 46 = .ok (.if_icmp .ne 7, 3) := by decide +kernel
theorem d_X2_isClause_49 : decode cX2_isClause 49 = .ok (.iconst 1, 1) := by decide +kernel
theorem d_X2_isClause_50 : decode cX2_isClause 50 = .ok (.goto 4, 3) := by decide +kernel
theorem d_X2_isClause_53 : decode cX2_isClause 53 = .ok (.iconst 0, 1) := by decide +kernel
theorem d_X2_isClause_54 : decode cX2_isClause 54 = .ok (.ireturn, 1) := by decide +kernel
abbrev X_X2_isClause : gX := (RX2, cX2_isClause, 1, (some .boolean), false)
def F_X2_isClause_b49 (M : gM) : Option Int32 :=
  some (1 : Int32)
theorem T_X2_isClause_b49 (M : gM) (r : Int32) (h : F_X2_isClause_b49 M = some r) : GW 0 0 0 X_X2_isClause 49 [] [] M (some (vi r), M) := by
  delta F_X2_isClause_b49 at h
  refine GW_iconst (X := X_X2_isClause) (pc := 49) (v := 1) d_X2_isClause_49 (by decide) ?_
  refine GW_goto (X := X_X2_isClause) (pc := 50) 54 d_X2_isClause_50 (by decide) ?_
  replace h := Option.some.inj h
  subst h
  exact GW_ret (X := X_X2_isClause) (pc := 54) d_X2_isClause_54 rfl g_rok1
def F_X2_isClause_b0 (M : gM) (l0 : Int32) : Option Int32 :=
  if l0 = (275 : Int32) then (F_X2_isClause_b49 M ) else (if l0 = (262 : Int32) then (F_X2_isClause_b49 M ) else (if l0 = (268 : Int32) then (F_X2_isClause_b49 M ) else (if l0 = (261 : Int32) then (F_X2_isClause_b49 M ) else (if l0 = (267 : Int32) then (F_X2_isClause_b49 M ) else (if l0 = (276 : Int32) then (F_X2_isClause_b49 M ) else (if l0 = (277 : Int32) then (F_X2_isClause_b49 M ) else (some (0 : Int32))))))))
set_option maxHeartbeats 1000000 in
theorem T_X2_isClause_b0 (M : gM) (r : Int32) (l0 : Int32) (h : F_X2_isClause_b0 M l0 = some r) : GW 0 0 0 X_X2_isClause 0 [(0, vi l0)] [] M (some (vi r), M) := by
  delta F_X2_isClause_b0 at h
  refine GW_iload_n (X := X_X2_isClause) (pc := 0) d_X2_isClause_0 rfl 0 rfl ?_
  refine GW_sipush (X := X_X2_isClause) (pc := 1) (v := 275) d_X2_isClause_1 (by decide) ?_
  refine GW_icmp_eq (X := X_X2_isClause) (pc := 4) 49 d_X2_isClause_4 (by decide) (fun c => ?_) (fun c => ?_)
  · replace h := g_ip c h
    refine GW_sub [] rfl ?_
    exact T_X2_isClause_b49 M r  h
  · replace h := g_ie c h
    refine GW_iload_n (X := X_X2_isClause) (pc := 7) d_X2_isClause_7 rfl 0 rfl ?_
    refine GW_sipush (X := X_X2_isClause) (pc := 8) (v := 262) d_X2_isClause_8 (by decide) ?_
    refine GW_icmp_eq (X := X_X2_isClause) (pc := 11) 49 d_X2_isClause_11 (by decide) (fun c => ?_) (fun c => ?_)
    · replace h := g_ip c h
      refine GW_sub [] rfl ?_
      exact T_X2_isClause_b49 M r  h
    · replace h := g_ie c h
      refine GW_iload_n (X := X_X2_isClause) (pc := 14) d_X2_isClause_14 rfl 0 rfl ?_
      refine GW_sipush (X := X_X2_isClause) (pc := 15) (v := 268) d_X2_isClause_15 (by decide) ?_
      refine GW_icmp_eq (X := X_X2_isClause) (pc := 18) 49 d_X2_isClause_18 (by decide) (fun c => ?_) (fun c => ?_)
      · replace h := g_ip c h
        refine GW_sub [] rfl ?_
        exact T_X2_isClause_b49 M r  h
      · replace h := g_ie c h
        refine GW_iload_n (X := X_X2_isClause) (pc := 21) d_X2_isClause_21 rfl 0 rfl ?_
        refine GW_sipush (X := X_X2_isClause) (pc := 22) (v := 261) d_X2_isClause_22 (by decide) ?_
        refine GW_icmp_eq (X := X_X2_isClause) (pc := 25) 49 d_X2_isClause_25 (by decide) (fun c => ?_) (fun c => ?_)
        · replace h := g_ip c h
          refine GW_sub [] rfl ?_
          exact T_X2_isClause_b49 M r  h
        · replace h := g_ie c h
          refine GW_iload_n (X := X_X2_isClause) (pc := 28) d_X2_isClause_28 rfl 0 rfl ?_
          refine GW_sipush (X := X_X2_isClause) (pc := 29) (v := 267) d_X2_isClause_29 (by decide) ?_
          refine GW_icmp_eq (X := X_X2_isClause) (pc := 32) 49 d_X2_isClause_32 (by decide) (fun c => ?_) (fun c => ?_)
          · replace h := g_ip c h
            refine GW_sub [] rfl ?_
            exact T_X2_isClause_b49 M r  h
          · replace h := g_ie c h
            refine GW_iload_n (X := X_X2_isClause) (pc := 35) d_X2_isClause_35 rfl 0 rfl ?_
            refine GW_sipush (X := X_X2_isClause) (pc := 36) (v := 276) d_X2_isClause_36 (by decide) ?_
            refine GW_icmp_eq (X := X_X2_isClause) (pc := 39) 49 d_X2_isClause_39 (by decide) (fun c => ?_) (fun c => ?_)
            · replace h := g_ip c h
              refine GW_sub [] rfl ?_
              exact T_X2_isClause_b49 M r  h
            · replace h := g_ie c h
              refine GW_iload_n (X := X_X2_isClause) (pc := 42) d_X2_isClause_42 rfl 0 rfl ?_
              refine GW_sipush (X := X_X2_isClause) (pc := 43) (v := 277) d_X2_isClause_43 (by decide) ?_
              refine GW_icmp_ne (X := X_X2_isClause) (pc := 46) 53 d_X2_isClause_46 (by decide) (fun c => ?_) (fun c => ?_)
              · replace h := g_ie c h
                refine GW_iconst (X := X_X2_isClause) (pc := 53) (v := 0) d_X2_isClause_53 (by decide) ?_
                replace h := Option.some.inj h
                subst h
                exact GW_ret (X := X_X2_isClause) (pc := 54) d_X2_isClause_54 rfl g_rok0
              · replace h := g_ip c h
                refine GW_sub [] rfl ?_
                exact T_X2_isClause_b49 M r  h
def F_X2_isClause (l0 : Int32) (M : gM) : Option Int32 := F_X2_isClause_b0 M l0
theorem T_X2_isClause (l0 : Int32) (M : gM) (r : Int32) (h : F_X2_isClause l0 M = some r) : g_Met 0 0 0 yX2_isClause X_X2_isClause [vi l0] M (some (vi r), M) :=
  g_Met_of pn_RX2 rfl (Nat.le_of_ble_eq_true rfl) (fun h => by cases h) (GW_sub [0] rfl (T_X2_isClause_b0 M r l0 h))
/-! ForgetHeirs$Tape.place()I -/
theorem d_X9_place_0 : decode cX9_place 0 = .ok (.aload_n 0, 1) := by decide +kernel
theorem d_X9_place_1 : decode cX9_place 1 = .ok (.getfield 29, 3) := by decide +kernel
theorem d_X9_place_4 : decode cX9_place 4 = .ok (.aload_n 0, 1) := by decide +kernel
theorem d_X9_place_5 : decode cX9_place 5 = .ok (.getfield 25, 3) := by decide +kernel
theorem d_X9_place_8 : decode cX9_place 8 = .ok (.if_icmp .ge 15, 3) := by decide +kernel
theorem d_X9_place_11 : decode cX9_place 11 = .ok (.aload_n 0, 1) := by decide +kernel
theorem d_X9_place_12 : decode cX9_place 12 = .ok (.getfield 19, 3) := by decide +kernel
theorem d_X9_place_15 : decode cX9_place 15 = .ok (.aload_n 0, 1) := by decide +kernel
theorem d_X9_place_16 : decode cX9_place 16 = .ok (.getfield 29, 3) := by decide +kernel
theorem d_X9_place_19 : decode cX9_place 19 = .ok (.iaload, 1) := by decide +kernel
theorem d_X9_place_20 : decode cX9_place 20 = .ok (.goto 7, 3) := by decide +kernel
theorem d_X9_place_23 : decode cX9_place 23 = .ok (.aload_n 0, 1) := by decide +kernel
theorem d_X9_place_24 : decode cX9_place 24 = .ok (.getfield 32, 3) := by decide +kernel
theorem d_X9_place_27 : decode cX9_place 27 = .ok (.ireturn, 1) := by decide +kernel
abbrev X_X9_place : gX := (RX9, cX9_place, 1, (some .int), false)
def F_X9_place_b0 (M : gM) (l0 : Option Nat) : Option Int32 :=
  (gI 9 M l0 5).bind fun v1 => (gI 9 M l0 4).bind fun v2 => if v2 ≤ v1 then ((gI 9 M l0 6).bind fun v3 => some v3) else ((gR 9 M l0 2).bind fun v4 => (gI 9 M l0 5).bind fun v5 => (aI 20 M v4 v5).bind fun v6 => some v6)
theorem T_X9_place_b0 (M : gM) (r : Int32) (l0 : Option Nat) (h : F_X9_place_b0 M l0 = some r) : GW 0 0 0 X_X9_place 0 [(0, vr l0)] [] M (some (vi r), M) := by
  delta F_X9_place_b0 at h
  refine GW_aload_n (X := X_X9_place) (pc := 0) d_X9_place_0 rfl 0 rfl ?_
  replace h := g_bd h
  obtain ⟨v1, hv1, h⟩ := h
  refine GW_getI (X := X_X9_place) (pc := 1) f_X9_29 d_X9_place_1 hv1 (Or.inl ty_9_5) ?_
  refine GW_aload_n (X := X_X9_place) (pc := 4) d_X9_place_4 rfl 0 rfl ?_
  replace h := g_bd h
  obtain ⟨v2, hv2, h⟩ := h
  refine GW_getI (X := X_X9_place) (pc := 5) f_X9_25 d_X9_place_5 hv2 (Or.inl ty_9_4) ?_
  refine GW_icmp_ge (X := X_X9_place) (pc := 8) 23 d_X9_place_8 (by decide) (fun c => ?_) (fun c => ?_)
  · replace h := g_ip c h
    refine GW_aload_n (X := X_X9_place) (pc := 23) d_X9_place_23 rfl 0 rfl ?_
    replace h := g_bd h
    obtain ⟨v3, hv3, h⟩ := h
    refine GW_getI (X := X_X9_place) (pc := 24) f_X9_32 d_X9_place_24 hv3 (Or.inl ty_9_6) ?_
    replace h := Option.some.inj h
    subst h
    exact GW_ret (X := X_X9_place) (pc := 27) d_X9_place_27 rfl trivial
  · replace h := g_ie c h
    refine GW_aload_n (X := X_X9_place) (pc := 11) d_X9_place_11 rfl 0 rfl ?_
    replace h := g_bd h
    obtain ⟨v4, hv4, h⟩ := h
    refine GW_getR (X := X_X9_place) (pc := 12) f_X9_19 d_X9_place_12 hv4 (Or.inr ⟨_, ty_9_2⟩) ?_
    refine GW_aload_n (X := X_X9_place) (pc := 15) d_X9_place_15 rfl 0 rfl ?_
    replace h := g_bd h
    obtain ⟨v5, hv5, h⟩ := h
    refine GW_getI (X := X_X9_place) (pc := 16) f_X9_29 d_X9_place_16 hv5 (Or.inl ty_9_5) ?_
    replace h := g_bd h
    obtain ⟨v6, hv6, h⟩ := h
    refine GW_iald (X := X_X9_place) (pc := 19) d_X9_place_19 hv6 ?_
    refine GW_goto (X := X_X9_place) (pc := 20) 27 d_X9_place_20 (by decide) ?_
    replace h := Option.some.inj h
    subst h
    exact GW_ret (X := X_X9_place) (pc := 27) d_X9_place_27 rfl trivial
def F_X9_place (l0 : Option Nat) (M : gM) : Option Int32 := F_X9_place_b0 M l0
theorem T_X9_place (l0 : Option Nat) (M : gM) (r : Int32) (h : F_X9_place l0 M = some r) : g_Met 0 0 0 yX9_place X_X9_place [vr l0] M (some (vi r), M) :=
  g_Met_of pn_RX9 rfl (Nat.le_of_ble_eq_true rfl) (fun h => by cases h) (GW_sub [0] rfl (T_X9_place_b0 M r l0 h))
/-! ForgetHeirs$Tape.blame(II)V -/
theorem d_X9_blame_0 : decode cX9_blame 0 = .ok (.aload_n 0, 1) := by decide +kernel
theorem d_X9_blame_1 : decode cX9_blame 1 = .ok (.getfield 35, 3) := by decide +kernel
theorem d_X9_blame_4 : decode cX9_blame 4 = .ok (.ifCond .ne 15, 3) := by decide +kernel
theorem d_X9_blame_7 : decode cX9_blame 7 = .ok (.aload_n 0, 1) := by decide +kernel
theorem d_X9_blame_8 : decode cX9_blame 8 = .ok (.iconst 1, 1) := by decide +kernel
theorem d_X9_blame_9 : decode cX9_blame 9 = .ok (.bipush 8, 2) := by decide +kernel
theorem d_X9_blame_11 : decode cX9_blame 11 = .ok (.iload_n 1, 1) := by decide +kernel
theorem d_X9_blame_12 : decode cX9_blame 12 = .ok (.imul, 1) := by decide +kernel
theorem d_X9_blame_13 : decode cX9_blame 13 = .ok (.iadd, 1) := by decide +kernel
theorem d_X9_blame_14 : decode cX9_blame 14 = .ok (.iload_n 2, 1) := by decide +kernel
theorem d_X9_blame_15 : decode cX9_blame 15 = .ok (.iadd, 1) := by decide +kernel
theorem d_X9_blame_16 : decode cX9_blame 16 = .ok (.putfield 35, 3) := by decide +kernel
theorem d_X9_blame_19 : decode cX9_blame 19 = .ok (.return_, 1) := by decide +kernel
abbrev X_X9_blame : gX := (RX9, cX9_blame, 3, none, false)
def F_X9_blame_b0 (l0 : Option Nat) (l1 : Int32) (l2 : Int32) (M : gM) : Option gM :=
  (gI 9 M l0 7).bind fun v1 => if v1 = 0 then ((pI 9 M l0 7 (((1 : Int32) + ((8 : Int32) * l1)) + l2)).bind fun M2 => some M2) else (some M)
theorem T_X9_blame_b0 (r : gM) (l0 : Option Nat) (l1 : Int32) (l2 : Int32) (M : gM) (h : F_X9_blame_b0 l0 l1 l2 M = some r) : GW 0 0 0 X_X9_blame 0 [(0, vr l0), (1, vi l1), (2, vi l2)] [] M (none, r) := by
  delta F_X9_blame_b0 at h
  refine GW_aload_n (X := X_X9_blame) (pc := 0) d_X9_blame_0 rfl 0 rfl ?_
  replace h := g_bd h
  obtain ⟨v1, hv1, h⟩ := h
  refine GW_getI (X := X_X9_blame) (pc := 1) f_X9_35 d_X9_blame_1 hv1 (Or.inl ty_9_7) ?_
  refine GW_if_ne (X := X_X9_blame) (pc := 4) 19 d_X9_blame_4 (by decide) (fun c => ?_) (fun c => ?_)
  · replace h := g_ie c h
    replace h := Option.some.inj h
    subst h
    exact GW_ret (X := X_X9_blame) (pc := 19) d_X9_blame_19 rfl trivial
  · replace h := g_ip c h
    refine GW_aload_n (X := X_X9_blame) (pc := 7) d_X9_blame_7 rfl 0 rfl ?_
    refine GW_iconst (X := X_X9_blame) (pc := 8) (v := 1) d_X9_blame_8 (by decide) ?_
    refine GW_bipush (X := X_X9_blame) (pc := 9) (v := 8) d_X9_blame_9 (by decide) ?_
    refine GW_iload_n (X := X_X9_blame) (pc := 11) d_X9_blame_11 rfl 1 rfl ?_
    refine GW_imul (X := X_X9_blame) (pc := 12) d_X9_blame_12 ?_
    refine GW_iadd (X := X_X9_blame) (pc := 13) d_X9_blame_13 ?_
    refine GW_iload_n (X := X_X9_blame) (pc := 14) d_X9_blame_14 rfl 2 rfl ?_
    refine GW_iadd (X := X_X9_blame) (pc := 15) d_X9_blame_15 ?_
    replace h := g_bd h
    obtain ⟨M2, hM2, h⟩ := h
    refine GW_putI (X := X_X9_blame) (pc := 16) f_X9_35 d_X9_blame_16 hM2 (Or.inl fi_9_7) (Or.inl ty_9_7) ?_
    replace h := Option.some.inj h
    subst h
    exact GW_ret (X := X_X9_blame) (pc := 19) d_X9_blame_19 rfl trivial
def F_X9_blame (l0 : Option Nat) (l1 : Int32) (l2 : Int32) (M : gM) : Option gM := F_X9_blame_b0 l0 l1 l2 M
theorem T_X9_blame (l0 : Option Nat) (l1 : Int32) (l2 : Int32) (M : gM) (r : gM) (h : F_X9_blame l0 l1 l2 M = some r) : g_Met 0 0 0 yX9_blame X_X9_blame [vr l0, vi l1, vi l2] M (none, r) :=
  g_Met_of pn_RX9 rfl (Nat.le_of_ble_eq_true rfl) (fun h => by cases h) (GW_sub [0, 1, 2] rfl (T_X9_blame_b0 r l0 l1 l2 M h))
/-! ForgetHeirs$HouseReader.isFull(I)Z -/
theorem d_X2_isFull_0 : decode cX2_isFull 0 = .ok (.iload_n 1, 1) := by decide +kernel
theorem d_X2_isFull_1 : decode cX2_isFull 1 = .ok (.sipush 262, 3) := by decide +kernel
theorem d_X2_isFull_4 : decode cX2_isFull 4 = .ok (.if_icmp .ne 15, 3) := by decide +kernel
theorem d_X2_isFull_7 : decode cX2_isFull 7 = .ok (.aload_n 0, 1) := by decide +kernel
theorem d_X2_isFull_8 : decode cX2_isFull 8 = .ok (.getfield 12, 3) := by decide +kernel
theorem d_X2_isFull_11 : decode cX2_isFull 11 = .ok (.getfield 76, 3) := by decide +kernel
theorem d_X2_isFull_14 : decode cX2_isFull 14 = .ok (.bipush 7, 2) := by decide +kernel
theorem d_X2_isFull_16 : decode cX2_isFull 16 = .ok (.if_icmp .ge 41, 3) := by decide +kernel
theorem d_X2_isFull_19 : decode cX2_isFull 19 = .ok (.iload_n 1, 1) := by decide +kernel
theorem d_X2_isFull_20 : decode cX2_isFull 20 = .ok (.sipush 261, 3) := by decide +kernel
theorem d_X2_isFull_23 : decode cX2_isFull 23 = .ok (.if_icmp .ne 15, 3) := by decide +kernel
theorem d_X2_isFull_26 : decode cX2_isFull 26 = .ok (.aload_n 0, 1) := by decide +kernel
theorem d_X2_isFull_27 : decode cX2_isFull 27 = .ok (.getfield 12, 3) := by decide +kernel
theorem d_X2_isFull_30 : decode cX2_isFull 30 = .ok (.getfield 80, 3) := by decide +kernel
theorem d_X2_isFull_33 : decode cX2_isFull 33 = .ok (.bipush 7, 2) := by decide +kernel
theorem d_X2_isFull_35 : decode cX2_isFull 35 = .ok (.if_icmp .ge 22, 3) := by decide +kernel
theorem d_X2_isFull_38 : decode cX2_isFull 38 = .ok (.iload_n 1, 1) := by decide +kernel
theorem d_X2_isFull_39 : decode cX2_isFull 39 = .ok (.sipush 276, 3) := by decide +kernel
theorem d_X2_isFull_42 : decode cX2_isFull 42 = .ok (.if_icmp .ne 19, 3) := by decide +kernel
theorem d_X2_isFull_45 : decode cX2_isFull 45 = .ok (.aload_n 0, 1) := by decide +kernel
theorem d_X2_isFull_46 : decode cX2_isFull 46 = .ok (.getfield 12, 3) := by decide +kernel
theorem d_X2_isFull_49 : decode cX2_isFull 49 = .ok (.getfield 83, 3) := by decide +kernel
theorem d_X2_isFull_52 : decode cX2_isFull 52 = .ok (.bipush 10, 2) := by decide +kernel
theorem d_X2_isFull_54 : decode cX2_isFull 54 = .ok (.if_icmp .lt 7, 3) := by decide +kernel
theorem d_X2_isFull_57 : decode cX2_isFull 57 = .ok (.iconst 1, 1) := by decide +kernel
theorem d_X2_isFull_58 : decode cX2_isFull 58 = .ok (.goto 4, 3) := by decide +kernel
theorem d_X2_isFull_61 : decode cX2_isFull 61 = .ok (.iconst 0, 1) := by decide +kernel
theorem d_X2_isFull_62 : decode cX2_isFull 62 = .ok (.ireturn, 1) := by decide +kernel
abbrev X_X2_isFull : gX := (RX2, cX2_isFull, 2, (some .boolean), false)
def F_X2_isFull_b61 (M : gM) : Option Int32 :=
  some (0 : Int32)
theorem T_X2_isFull_b61 (M : gM) (r : Int32) (h : F_X2_isFull_b61 M = some r) : GW 0 0 0 X_X2_isFull 61 [] [] M (some (vi r), M) := by
  delta F_X2_isFull_b61 at h
  refine GW_iconst (X := X_X2_isFull) (pc := 61) (v := 0) d_X2_isFull_61 (by decide) ?_
  replace h := Option.some.inj h
  subst h
  exact GW_ret (X := X_X2_isFull) (pc := 62) d_X2_isFull_62 rfl g_rok0
def F_X2_isFull_b57 (M : gM) : Option Int32 :=
  some (1 : Int32)
theorem T_X2_isFull_b57 (M : gM) (r : Int32) (h : F_X2_isFull_b57 M = some r) : GW 0 0 0 X_X2_isFull 57 [] [] M (some (vi r), M) := by
  delta F_X2_isFull_b57 at h
  refine GW_iconst (X := X_X2_isFull) (pc := 57) (v := 1) d_X2_isFull_57 (by decide) ?_
  refine GW_goto (X := X_X2_isFull) (pc := 58) 62 d_X2_isFull_58 (by decide) ?_
  replace h := Option.some.inj h
  subst h
  exact GW_ret (X := X_X2_isFull) (pc := 62) d_X2_isFull_62 rfl g_rok1
def F_X2_isFull_b38 (M : gM) (l0 : Option Nat) (l1 : Int32) : Option Int32 :=
  if l1 = (276 : Int32) then ((gR 2 M l0 1).bind fun v1 => (gI 1 M v1 8).bind fun v2 => if v2 < (10 : Int32) then (F_X2_isFull_b61 M ) else (F_X2_isFull_b57 M )) else (F_X2_isFull_b61 M )
theorem T_X2_isFull_b38 (M : gM) (r : Int32) (l0 : Option Nat) (l1 : Int32) (h : F_X2_isFull_b38 M l0 l1 = some r) : GW 0 0 0 X_X2_isFull 38 [(0, vr l0), (1, vi l1)] [] M (some (vi r), M) := by
  delta F_X2_isFull_b38 at h
  refine GW_iload_n (X := X_X2_isFull) (pc := 38) d_X2_isFull_38 rfl 1 rfl ?_
  refine GW_sipush (X := X_X2_isFull) (pc := 39) (v := 276) d_X2_isFull_39 (by decide) ?_
  refine GW_icmp_ne (X := X_X2_isFull) (pc := 42) 61 d_X2_isFull_42 (by decide) (fun c => ?_) (fun c => ?_)
  · replace h := g_ie c h
    refine GW_sub [] rfl ?_
    exact T_X2_isFull_b61 M r  h
  · replace h := g_ip c h
    refine GW_aload_n (X := X_X2_isFull) (pc := 45) d_X2_isFull_45 rfl 0 rfl ?_
    replace h := g_bd h
    obtain ⟨v1, hv1, h⟩ := h
    refine GW_getR (X := X_X2_isFull) (pc := 46) f_X2_12 d_X2_isFull_46 hv1 (Or.inl ⟨_, ty_2_1⟩) ?_
    replace h := g_bd h
    obtain ⟨v2, hv2, h⟩ := h
    refine GW_getI (X := X_X2_isFull) (pc := 49) f_X2_83 d_X2_isFull_49 hv2 (Or.inl ty_1_8) ?_
    refine GW_bipush (X := X_X2_isFull) (pc := 52) (v := 10) d_X2_isFull_52 (by decide) ?_
    refine GW_icmp_lt (X := X_X2_isFull) (pc := 54) 61 d_X2_isFull_54 (by decide) (fun c => ?_) (fun c => ?_)
    · replace h := g_ip c h
      refine GW_sub [] rfl ?_
      exact T_X2_isFull_b61 M r  h
    · replace h := g_ie c h
      refine GW_sub [] rfl ?_
      exact T_X2_isFull_b57 M r  h
def F_X2_isFull_b19 (M : gM) (l0 : Option Nat) (l1 : Int32) : Option Int32 :=
  if l1 = (261 : Int32) then ((gR 2 M l0 1).bind fun v1 => (gI 1 M v1 7).bind fun v2 => if (7 : Int32) ≤ v2 then (F_X2_isFull_b57 M ) else (F_X2_isFull_b38 M l0 l1)) else (F_X2_isFull_b38 M l0 l1)
theorem T_X2_isFull_b19 (M : gM) (r : Int32) (l0 : Option Nat) (l1 : Int32) (h : F_X2_isFull_b19 M l0 l1 = some r) : GW 0 0 0 X_X2_isFull 19 [(0, vr l0), (1, vi l1)] [] M (some (vi r), M) := by
  delta F_X2_isFull_b19 at h
  refine GW_iload_n (X := X_X2_isFull) (pc := 19) d_X2_isFull_19 rfl 1 rfl ?_
  refine GW_sipush (X := X_X2_isFull) (pc := 20) (v := 261) d_X2_isFull_20 (by decide) ?_
  refine GW_icmp_ne (X := X_X2_isFull) (pc := 23) 38 d_X2_isFull_23 (by decide) (fun c => ?_) (fun c => ?_)
  · replace h := g_ie c h
    exact T_X2_isFull_b38 M r l0 l1 h
  · replace h := g_ip c h
    refine GW_aload_n (X := X_X2_isFull) (pc := 26) d_X2_isFull_26 rfl 0 rfl ?_
    replace h := g_bd h
    obtain ⟨v1, hv1, h⟩ := h
    refine GW_getR (X := X_X2_isFull) (pc := 27) f_X2_12 d_X2_isFull_27 hv1 (Or.inl ⟨_, ty_2_1⟩) ?_
    replace h := g_bd h
    obtain ⟨v2, hv2, h⟩ := h
    refine GW_getI (X := X_X2_isFull) (pc := 30) f_X2_80 d_X2_isFull_30 hv2 (Or.inl ty_1_7) ?_
    refine GW_bipush (X := X_X2_isFull) (pc := 33) (v := 7) d_X2_isFull_33 (by decide) ?_
    refine GW_icmp_ge (X := X_X2_isFull) (pc := 35) 57 d_X2_isFull_35 (by decide) (fun c => ?_) (fun c => ?_)
    · replace h := g_ip c h
      refine GW_sub [] rfl ?_
      exact T_X2_isFull_b57 M r  h
    · replace h := g_ie c h
      exact T_X2_isFull_b38 M r l0 l1 h
def F_X2_isFull_b0 (M : gM) (l0 : Option Nat) (l1 : Int32) : Option Int32 :=
  if l1 = (262 : Int32) then ((gR 2 M l0 1).bind fun v1 => (gI 1 M v1 6).bind fun v2 => if (7 : Int32) ≤ v2 then (F_X2_isFull_b57 M ) else (F_X2_isFull_b19 M l0 l1)) else (F_X2_isFull_b19 M l0 l1)
theorem T_X2_isFull_b0 (M : gM) (r : Int32) (l0 : Option Nat) (l1 : Int32) (h : F_X2_isFull_b0 M l0 l1 = some r) : GW 0 0 0 X_X2_isFull 0 [(0, vr l0), (1, vi l1)] [] M (some (vi r), M) := by
  delta F_X2_isFull_b0 at h
  refine GW_iload_n (X := X_X2_isFull) (pc := 0) d_X2_isFull_0 rfl 1 rfl ?_
  refine GW_sipush (X := X_X2_isFull) (pc := 1) (v := 262) d_X2_isFull_1 (by decide) ?_
  refine GW_icmp_ne (X := X_X2_isFull) (pc := 4) 19 d_X2_isFull_4 (by decide) (fun c => ?_) (fun c => ?_)
  · replace h := g_ie c h
    exact T_X2_isFull_b19 M r l0 l1 h
  · replace h := g_ip c h
    refine GW_aload_n (X := X_X2_isFull) (pc := 7) d_X2_isFull_7 rfl 0 rfl ?_
    replace h := g_bd h
    obtain ⟨v1, hv1, h⟩ := h
    refine GW_getR (X := X_X2_isFull) (pc := 8) f_X2_12 d_X2_isFull_8 hv1 (Or.inl ⟨_, ty_2_1⟩) ?_
    replace h := g_bd h
    obtain ⟨v2, hv2, h⟩ := h
    refine GW_getI (X := X_X2_isFull) (pc := 11) f_X2_76 d_X2_isFull_11 hv2 (Or.inl ty_1_6) ?_
    refine GW_bipush (X := X_X2_isFull) (pc := 14) (v := 7) d_X2_isFull_14 (by decide) ?_
    refine GW_icmp_ge (X := X_X2_isFull) (pc := 16) 57 d_X2_isFull_16 (by decide) (fun c => ?_) (fun c => ?_)
    · replace h := g_ip c h
      refine GW_sub [] rfl ?_
      exact T_X2_isFull_b57 M r  h
    · replace h := g_ie c h
      exact T_X2_isFull_b19 M r l0 l1 h
def F_X2_isFull (l0 : Option Nat) (l1 : Int32) (M : gM) : Option Int32 := F_X2_isFull_b0 M l0 l1
theorem T_X2_isFull (l0 : Option Nat) (l1 : Int32) (M : gM) (r : Int32) (h : F_X2_isFull l0 l1 M = some r) : g_Met 0 0 0 yX2_isFull X_X2_isFull [vr l0, vi l1] M (some (vi r), M) :=
  g_Met_of pn_RX2 rfl (Nat.le_of_ble_eq_true rfl) (fun h => by cases h) (GW_sub [0, 1] rfl (T_X2_isFull_b0 M r l0 l1 h))
/-! ForgetHeirs$Tape.next()V -/
theorem d_X9_next_0 : decode cX9_next 0 = .ok (.aload_n 0, 1) := by decide +kernel
theorem d_X9_next_1 : decode cX9_next 1 = .ok (.getfield 29, 3) := by decide +kernel
theorem d_X9_next_4 : decode cX9_next 4 = .ok (.aload_n 0, 1) := by decide +kernel
theorem d_X9_next_5 : decode cX9_next 5 = .ok (.getfield 25, 3) := by decide +kernel
theorem d_X9_next_8 : decode cX9_next 8 = .ok (.iconst 1, 1) := by decide +kernel
theorem d_X9_next_9 : decode cX9_next 9 = .ok (.isub, 1) := by decide +kernel
theorem d_X9_next_10 : decode cX9_next 10 = .ok (.if_icmp .ge 13, 3) := by decide +kernel
theorem d_X9_next_13 : decode cX9_next 13 = .ok (.aload_n 0, 1) := by decide +kernel
theorem d_X9_next_14 : decode cX9_next 14 = .ok (.dup, 1) := by decide +kernel
theorem d_X9_next_15 : decode cX9_next 15 = .ok (.getfield 29, 3) := by decide +kernel
theorem d_X9_next_18 : decode cX9_next 18 = .ok (.iconst 1, 1) := by decide +kernel
theorem d_X9_next_19 : decode cX9_next 19 = .ok (.iadd, 1) := by decide +kernel
theorem d_X9_next_20 : decode cX9_next 20 = .ok (.putfield 29, 3) := by decide +kernel
theorem d_X9_next_23 : decode cX9_next 23 = .ok (.return_, 1) := by decide +kernel
abbrev X_X9_next : gX := (RX9, cX9_next, 1, none, false)
def F_X9_next_b0 (l0 : Option Nat) (M : gM) : Option gM :=
  (gI 9 M l0 5).bind fun v1 => (gI 9 M l0 4).bind fun v2 => if (v2 - (1 : Int32)) ≤ v1 then (some M) else ((gI 9 M l0 5).bind fun v3 => (pI 9 M l0 5 (v3 + (1 : Int32))).bind fun M4 => some M4)
theorem T_X9_next_b0 (r : gM) (l0 : Option Nat) (M : gM) (h : F_X9_next_b0 l0 M = some r) : GW 0 0 0 X_X9_next 0 [(0, vr l0)] [] M (none, r) := by
  delta F_X9_next_b0 at h
  refine GW_aload_n (X := X_X9_next) (pc := 0) d_X9_next_0 rfl 0 rfl ?_
  replace h := g_bd h
  obtain ⟨v1, hv1, h⟩ := h
  refine GW_getI (X := X_X9_next) (pc := 1) f_X9_29 d_X9_next_1 hv1 (Or.inl ty_9_5) ?_
  refine GW_aload_n (X := X_X9_next) (pc := 4) d_X9_next_4 rfl 0 rfl ?_
  replace h := g_bd h
  obtain ⟨v2, hv2, h⟩ := h
  refine GW_getI (X := X_X9_next) (pc := 5) f_X9_25 d_X9_next_5 hv2 (Or.inl ty_9_4) ?_
  refine GW_iconst (X := X_X9_next) (pc := 8) (v := 1) d_X9_next_8 (by decide) ?_
  refine GW_isub (X := X_X9_next) (pc := 9) d_X9_next_9 ?_
  refine GW_icmp_ge (X := X_X9_next) (pc := 10) 23 d_X9_next_10 (by decide) (fun c => ?_) (fun c => ?_)
  · replace h := g_ip c h
    replace h := Option.some.inj h
    subst h
    exact GW_ret (X := X_X9_next) (pc := 23) d_X9_next_23 rfl trivial
  · replace h := g_ie c h
    refine GW_aload_n (X := X_X9_next) (pc := 13) d_X9_next_13 rfl 0 rfl ?_
    refine GW_dup (X := X_X9_next) (pc := 14) d_X9_next_14 rfl ?_
    replace h := g_bd h
    obtain ⟨v3, hv3, h⟩ := h
    refine GW_getI (X := X_X9_next) (pc := 15) f_X9_29 d_X9_next_15 hv3 (Or.inl ty_9_5) ?_
    refine GW_iconst (X := X_X9_next) (pc := 18) (v := 1) d_X9_next_18 (by decide) ?_
    refine GW_iadd (X := X_X9_next) (pc := 19) d_X9_next_19 ?_
    replace h := g_bd h
    obtain ⟨M4, hM4, h⟩ := h
    refine GW_putI (X := X_X9_next) (pc := 20) f_X9_29 d_X9_next_20 hM4 (Or.inl fi_9_5) (Or.inl ty_9_5) ?_
    replace h := Option.some.inj h
    subst h
    exact GW_ret (X := X_X9_next) (pc := 23) d_X9_next_23 rfl trivial
def F_X9_next (l0 : Option Nat) (M : gM) : Option gM := F_X9_next_b0 l0 M
theorem T_X9_next (l0 : Option Nat) (M : gM) (r : gM) (h : F_X9_next l0 M = some r) : g_Met 0 0 0 yX9_next X_X9_next [vr l0] M (none, r) :=
  g_Met_of pn_RX9 rfl (Nat.le_of_ble_eq_true rfl) (fun h => by cases h) (GW_sub [0] rfl (T_X9_next_b0 r l0 M h))
/-! ForgetHeirs$Tape.isFaulty()Z -/
theorem d_X9_isFaulty_0 : decode cX9_isFaulty 0 = .ok (.aload_n 0, 1) := by decide +kernel
theorem d_X9_isFaulty_1 : decode cX9_isFaulty 1 = .ok (.getfield 35, 3) := by decide +kernel
theorem d_X9_isFaulty_4 : decode cX9_isFaulty 4 = .ok (.ifCond .eq 7, 3) := by decide +kernel
theorem d_X9_isFaulty_7 : decode cX9_isFaulty 7 = .ok (.iconst 1, 1) := by decide +kernel
theorem d_X9_isFaulty_8 : decode cX9_isFaulty 8 = .ok (.goto 4, 3) := by decide +kernel
theorem d_X9_isFaulty_11 : decode cX9_isFaulty 11 = .ok (.iconst 0, 1) := by decide +kernel
theorem d_X9_isFaulty_12 : decode cX9_isFaulty 12 = .ok (.ireturn, 1) := by decide +kernel
abbrev X_X9_isFaulty : gX := (RX9, cX9_isFaulty, 1, (some .boolean), false)
def F_X9_isFaulty_b0 (M : gM) (l0 : Option Nat) : Option Int32 :=
  (gI 9 M l0 7).bind fun v1 => if v1 = 0 then (some (0 : Int32)) else (some (1 : Int32))
theorem T_X9_isFaulty_b0 (M : gM) (r : Int32) (l0 : Option Nat) (h : F_X9_isFaulty_b0 M l0 = some r) : GW 0 0 0 X_X9_isFaulty 0 [(0, vr l0)] [] M (some (vi r), M) := by
  delta F_X9_isFaulty_b0 at h
  refine GW_aload_n (X := X_X9_isFaulty) (pc := 0) d_X9_isFaulty_0 rfl 0 rfl ?_
  replace h := g_bd h
  obtain ⟨v1, hv1, h⟩ := h
  refine GW_getI (X := X_X9_isFaulty) (pc := 1) f_X9_35 d_X9_isFaulty_1 hv1 (Or.inl ty_9_7) ?_
  refine GW_if_eq (X := X_X9_isFaulty) (pc := 4) 11 d_X9_isFaulty_4 (by decide) (fun c => ?_) (fun c => ?_)
  · replace h := g_ip c h
    refine GW_iconst (X := X_X9_isFaulty) (pc := 11) (v := 0) d_X9_isFaulty_11 (by decide) ?_
    replace h := Option.some.inj h
    subst h
    exact GW_ret (X := X_X9_isFaulty) (pc := 12) d_X9_isFaulty_12 rfl g_rok0
  · replace h := g_ie c h
    refine GW_iconst (X := X_X9_isFaulty) (pc := 7) (v := 1) d_X9_isFaulty_7 (by decide) ?_
    refine GW_goto (X := X_X9_isFaulty) (pc := 8) 12 d_X9_isFaulty_8 (by decide) ?_
    replace h := Option.some.inj h
    subst h
    exact GW_ret (X := X_X9_isFaulty) (pc := 12) d_X9_isFaulty_12 rfl g_rok1
def F_X9_isFaulty (l0 : Option Nat) (M : gM) : Option Int32 := F_X9_isFaulty_b0 M l0
theorem T_X9_isFaulty (l0 : Option Nat) (M : gM) (r : Int32) (h : F_X9_isFaulty l0 M = some r) : g_Met 0 0 0 yX9_isFaulty X_X9_isFaulty [vr l0] M (some (vi r), M) :=
  g_Met_of pn_RX9 rfl (Nat.le_of_ble_eq_true rfl) (fun h => by cases h) (GW_sub [0] rfl (T_X9_isFaulty_b0 M r l0 h))
/-! ForgetHeirs$Tape.number(II)I -/
theorem d_X9_number_0 : decode cX9_number 0 = .ok (.aload_n 0, 1) := by decide +kernel
theorem d_X9_number_1 : decode cX9_number 1 = .ok (.invokevirtual 76, 3) := by decide +kernel
theorem d_X9_number_4 : decode cX9_number 4 = .ok (.ifCond .eq 5, 3) := by decide +kernel
theorem d_X9_number_7 : decode cX9_number 7 = .ok (.iconst (-1), 1) := by decide +kernel
theorem d_X9_number_8 : decode cX9_number 8 = .ok (.ireturn, 1) := by decide +kernel
theorem d_X9_number_9 : decode cX9_number 9 = .ok (.aload_n 0, 1) := by decide +kernel
theorem d_X9_number_10 : decode cX9_number 10 = .ok (.invokevirtual 80, 3) := by decide +kernel
theorem d_X9_number_13 : decode cX9_number 13 = .ok (.sipush 257, 3) := by decide +kernel
theorem d_X9_number_16 : decode cX9_number 16 = .ok (.if_icmp .ne 14, 3) := by decide +kernel
theorem d_X9_number_19 : decode cX9_number 19 = .ok (.aload_n 0, 1) := by decide +kernel
theorem d_X9_number_20 : decode cX9_number 20 = .ok (.getfield 29, 3) := by decide +kernel
theorem d_X9_number_23 : decode cX9_number 23 = .ok (.aload_n 0, 1) := by decide +kernel
theorem d_X9_number_24 : decode cX9_number 24 = .ok (.getfield 25, 3) := by decide +kernel
theorem d_X9_number_27 : decode cX9_number 27 = .ok (.if_icmp .lt 14, 3) := by decide +kernel
theorem d_X9_number_30 : decode cX9_number 30 = .ok (.aload_n 0, 1) := by decide +kernel
theorem d_X9_number_31 : decode cX9_number 31 = .ok (.aload_n 0, 1) := by decide +kernel
theorem d_X9_number_32 : decode cX9_number 32 = .ok (.invokevirtual 83, 3) := by decide +kernel
theorem d_X9_number_35 : decode cX9_number 35 = .ok (.iconst 0, 1) := by decide +kernel
theorem d_X9_number_36 : decode cX9_number 36 = .ok (.invokevirtual 86, 3) := by decide +kernel
theorem d_X9_number_39 : decode cX9_number 39 = .ok (.iconst (-1), 1) := by decide +kernel
theorem d_X9_number_40 : decode cX9_number 40 = .ok (.ireturn, 1) := by decide +kernel
theorem d_X9_number_41 : decode cX9_number 41 = .ok (.aload_n 0, 1) := by decide +kernel
theorem d_X9_number_42 : decode cX9_number 42 = .ok (.getfield 22, 3) := by decide +kernel
theorem d_X9_number_45 : decode cX9_number 45 = .ok (.aload_n 0, 1) := by decide +kernel
theorem d_X9_number_46 : decode cX9_number 46 = .ok (.getfield 29, 3) := by decide +kernel
theorem d_X9_number_49 : decode cX9_number 49 = .ok (.iaload, 1) := by decide +kernel
theorem d_X9_number_50 : decode cX9_number 50 = .ok (.istore_n 3, 1) := by decide +kernel
theorem d_X9_number_51 : decode cX9_number 51 = .ok (.iload_n 3, 1) := by decide +kernel
theorem d_X9_number_52 : decode cX9_number 52 = .ok (.iload_n 1, 1) := by decide +kernel
theorem d_X9_number_53 : decode cX9_number 53 = .ok (.if_icmp .lt 8, 3) := by decide +kernel
theorem d_X9_number_56 : decode cX9_number 56 = .ok (.iload_n 3, 1) := by decide +kernel
theorem d_X9_number_57 : decode cX9_number 57 = .ok (.iload_n 2, 1) := by decide +kernel
theorem d_X9_number_58 : decode cX9_number 58 = .ok (.if_icmp .le 14, 3) := by decide +kernel
theorem d_X9_number_61 : decode cX9_number 61 = .ok (.aload_n 0, 1) := by decide +kernel
theorem d_X9_number_62 : decode cX9_number 62 = .ok (.aload_n 0, 1) := by decide +kernel
theorem d_X9_number_63 : decode cX9_number 63 = .ok (.invokevirtual 83, 3) := by decide +kernel
theorem d_X9_number_66 : decode cX9_number 66 = .ok (.iconst 1, 1) := by decide +kernel
theorem d_X9_number_67 : decode cX9_number 67 = .ok (.invokevirtual 86, 3) := by decide +kernel
theorem d_X9_number_70 : decode cX9_number 70 = .ok (.iconst (-1), 1) := by decide +kernel
theorem d_X9_number_71 : decode cX9_number 71 = .ok (.ireturn, 1) := by decide +kernel
theorem d_X9_number_72 : decode cX9_number 72 = .ok (.aload_n 0, 1) := by decide +kernel
theorem d_X9_number_73 : decode cX9_number 73 = .ok (.invokevirtual 90, 3) := by decide +kernel
theorem d_X9_number_76 : decode cX9_number 76 = .ok (.iload_n 3, 1) := by decide +kernel
theorem d_X9_number_77 : decode cX9_number 77 = .ok (.ireturn, 1) := by decide +kernel
abbrev X_X9_number : gX := (RX9, cX9_number, 4, (some .int), false)
def F_X9_number_b30 (l0 : Option Nat) (M : gM) : Option (Int32 × gM) :=
  (gO 9 M l0).bind fun i1 => (F_X9_place (some i1) M).bind fun v2 => (F_X9_blame (some i1) v2 (0 : Int32) M).bind fun M3 => some ((-1 : Int32), M3)
theorem T_X9_number_b30 (r : (Int32 × gM)) (l0 : Option Nat) (M : gM) (h : F_X9_number_b30 l0 M = some r) : GW 1 0 0 X_X9_number 30 [(0, vr l0)] [] M (some (vi r.1), r.2) := by
  delta F_X9_number_b30 at h
  refine GW_aload_n (X := X_X9_number) (pc := 30) d_X9_number_30 rfl 0 rfl ?_
  refine GW_aload_n (X := X_X9_number) (pc := 31) d_X9_number_31 rfl 0 rfl ?_
  replace h := g_bd h
  obtain ⟨i1, hi1, h⟩ := h
  obtain ⟨rfl, ki1⟩ := g_gO hi1
  replace h := g_bd h
  obtain ⟨v2, hv2, h⟩ := h
  refine GW_callV (X := X_X9_number) (pc := 32) (bc0 := 0) (bs0 := 0) (r := some (vi v2)) (M2 := M) (c0 := 9) (T_X9_place (some i1) M v2 hv2) (Nat.le_of_ble_eq_true rfl) (Nat.le_of_ble_eq_true rfl) rfl g_cok9 ki1 yc_X9_place ⟨m_626, m_598, m_599, m_123, m_600⟩ d_X9_number_32 rfl (st := [vr (some i1)]) rfl (Nat.le_of_ble_eq_true rfl) (Nat.le_of_ble_eq_true rfl) (Nat.le_of_ble_eq_true rfl) (st2 := [vi v2, vr (some i1)]) rfl ?_
  refine GW_iconst (X := X_X9_number) (pc := 35) (v := 0) d_X9_number_35 (by decide) ?_
  replace h := g_bd h
  obtain ⟨M3, hM3, h⟩ := h
  refine GW_callV (X := X_X9_number) (pc := 36) (bc0 := 0) (bs0 := 0) (r := none) (M2 := M3) (c0 := 9) (T_X9_blame (some i1) v2 (0 : Int32) M M3 hM3) (Nat.le_of_ble_eq_true rfl) (Nat.le_of_ble_eq_true rfl) rfl g_cok9 ki1 yc_X9_blame ⟨m_627, m_602, m_603, m_123, m_604⟩ d_X9_number_36 rfl (st := []) rfl (Nat.le_of_ble_eq_true rfl) (Nat.le_of_ble_eq_true rfl) (Nat.le_of_ble_eq_true rfl) (st2 := []) rfl ?_
  refine GW_iconst (X := X_X9_number) (pc := 39) (v := -1) d_X9_number_39 (by decide) ?_
  replace h := Option.some.inj h
  subst h
  exact GW_ret (X := X_X9_number) (pc := 40) d_X9_number_40 rfl trivial
def F_X9_number_b61 (l0 : Option Nat) (M : gM) : Option (Int32 × gM) :=
  (gO 9 M l0).bind fun i1 => (F_X9_place (some i1) M).bind fun v2 => (F_X9_blame (some i1) v2 (1 : Int32) M).bind fun M3 => some ((-1 : Int32), M3)
theorem T_X9_number_b61 (r : (Int32 × gM)) (l0 : Option Nat) (M : gM) (h : F_X9_number_b61 l0 M = some r) : GW 1 0 0 X_X9_number 61 [(0, vr l0)] [] M (some (vi r.1), r.2) := by
  delta F_X9_number_b61 at h
  refine GW_aload_n (X := X_X9_number) (pc := 61) d_X9_number_61 rfl 0 rfl ?_
  refine GW_aload_n (X := X_X9_number) (pc := 62) d_X9_number_62 rfl 0 rfl ?_
  replace h := g_bd h
  obtain ⟨i1, hi1, h⟩ := h
  obtain ⟨rfl, ki1⟩ := g_gO hi1
  replace h := g_bd h
  obtain ⟨v2, hv2, h⟩ := h
  refine GW_callV (X := X_X9_number) (pc := 63) (bc0 := 0) (bs0 := 0) (r := some (vi v2)) (M2 := M) (c0 := 9) (T_X9_place (some i1) M v2 hv2) (Nat.le_of_ble_eq_true rfl) (Nat.le_of_ble_eq_true rfl) rfl g_cok9 ki1 yc_X9_place ⟨m_626, m_598, m_599, m_123, m_600⟩ d_X9_number_63 rfl (st := [vr (some i1)]) rfl (Nat.le_of_ble_eq_true rfl) (Nat.le_of_ble_eq_true rfl) (Nat.le_of_ble_eq_true rfl) (st2 := [vi v2, vr (some i1)]) rfl ?_
  refine GW_iconst (X := X_X9_number) (pc := 66) (v := 1) d_X9_number_66 (by decide) ?_
  replace h := g_bd h
  obtain ⟨M3, hM3, h⟩ := h
  refine GW_callV (X := X_X9_number) (pc := 67) (bc0 := 0) (bs0 := 0) (r := none) (M2 := M3) (c0 := 9) (T_X9_blame (some i1) v2 (1 : Int32) M M3 hM3) (Nat.le_of_ble_eq_true rfl) (Nat.le_of_ble_eq_true rfl) rfl g_cok9 ki1 yc_X9_blame ⟨m_627, m_602, m_603, m_123, m_604⟩ d_X9_number_67 rfl (st := []) rfl (Nat.le_of_ble_eq_true rfl) (Nat.le_of_ble_eq_true rfl) (Nat.le_of_ble_eq_true rfl) (st2 := []) rfl ?_
  refine GW_iconst (X := X_X9_number) (pc := 70) (v := -1) d_X9_number_70 (by decide) ?_
  replace h := Option.some.inj h
  subst h
  exact GW_ret (X := X_X9_number) (pc := 71) d_X9_number_71 rfl trivial
def F_X9_number_b0 (l0 : Option Nat) (l1 : Int32) (l2 : Int32) (M : gM) : Option (Int32 × gM) :=
  (gO 9 M l0).bind fun i1 => (F_X9_isFaulty (some i1) M).bind fun v2 => if v2 = 0 then ((F_X9_kind (some i1) M).bind fun v3 => if v3 = (257 : Int32) then ((gI 9 M (some i1) 5).bind fun v4 => (gI 9 M (some i1) 4).bind fun v5 => if v4 < v5 then ((gR 9 M (some i1) 3).bind fun v6 => (gI 9 M (some i1) 5).bind fun v7 => (aI 20 M v6 v7).bind fun v8 => if v8 < l1 then (F_X9_number_b61 (some i1) M) else (if v8 ≤ l2 then ((F_X9_next (some i1) M).bind fun M9 => some (v8, M9)) else (F_X9_number_b61 (some i1) M))) else (F_X9_number_b30 (some i1) M)) else (F_X9_number_b30 (some i1) M)) else (some ((-1 : Int32), M))
set_option maxHeartbeats 1000000 in
theorem T_X9_number_b0 (r : (Int32 × gM)) (l0 : Option Nat) (l1 : Int32) (l2 : Int32) (M : gM) (h : F_X9_number_b0 l0 l1 l2 M = some r) : GW 1 0 0 X_X9_number 0 [(0, vr l0), (1, vi l1), (2, vi l2)] [] M (some (vi r.1), r.2) := by
  delta F_X9_number_b0 at h
  refine GW_aload_n (X := X_X9_number) (pc := 0) d_X9_number_0 rfl 0 rfl ?_
  replace h := g_bd h
  obtain ⟨i1, hi1, h⟩ := h
  obtain ⟨rfl, ki1⟩ := g_gO hi1
  replace h := g_bd h
  obtain ⟨v2, hv2, h⟩ := h
  refine GW_callV (X := X_X9_number) (pc := 1) (bc0 := 0) (bs0 := 0) (r := some (vi v2)) (M2 := M) (c0 := 9) (T_X9_isFaulty (some i1) M v2 hv2) (Nat.le_of_ble_eq_true rfl) (Nat.le_of_ble_eq_true rfl) rfl g_cok9 ki1 yc_X9_isFaulty ⟨m_621, m_622, m_623, m_123, m_624⟩ d_X9_number_1 rfl (st := []) rfl (Nat.le_of_ble_eq_true rfl) (Nat.le_of_ble_eq_true rfl) (Nat.le_of_ble_eq_true rfl) (st2 := [vi v2]) rfl ?_
  refine GW_if_eq (X := X_X9_number) (pc := 4) 9 d_X9_number_4 (by decide) (fun c => ?_) (fun c => ?_)
  · replace h := g_ip c h
    refine GW_aload_n (X := X_X9_number) (pc := 9) d_X9_number_9 rfl 0 rfl ?_
    replace h := g_bd h
    obtain ⟨v3, hv3, h⟩ := h
    refine GW_callV (X := X_X9_number) (pc := 10) (bc0 := 0) (bs0 := 0) (r := some (vi v3)) (M2 := M) (c0 := 9) (T_X9_kind (some i1) M v3 hv3) (Nat.le_of_ble_eq_true rfl) (Nat.le_of_ble_eq_true rfl) rfl g_cok9 ki1 yc_X9_kind ⟨m_625, m_591, m_592, m_123, m_593⟩ d_X9_number_10 rfl (st := []) rfl (Nat.le_of_ble_eq_true rfl) (Nat.le_of_ble_eq_true rfl) (Nat.le_of_ble_eq_true rfl) (st2 := [vi v3]) rfl ?_
    refine GW_sipush (X := X_X9_number) (pc := 13) (v := 257) d_X9_number_13 (by decide) ?_
    refine GW_icmp_ne (X := X_X9_number) (pc := 16) 30 d_X9_number_16 (by decide) (fun c => ?_) (fun c => ?_)
    · replace h := g_ie c h
      refine GW_sub [0] rfl ?_
      exact T_X9_number_b30 r (some i1) M h
    · replace h := g_ip c h
      refine GW_aload_n (X := X_X9_number) (pc := 19) d_X9_number_19 rfl 0 rfl ?_
      replace h := g_bd h
      obtain ⟨v4, hv4, h⟩ := h
      refine GW_getI (X := X_X9_number) (pc := 20) f_X9_29 d_X9_number_20 hv4 (Or.inl ty_9_5) ?_
      refine GW_aload_n (X := X_X9_number) (pc := 23) d_X9_number_23 rfl 0 rfl ?_
      replace h := g_bd h
      obtain ⟨v5, hv5, h⟩ := h
      refine GW_getI (X := X_X9_number) (pc := 24) f_X9_25 d_X9_number_24 hv5 (Or.inl ty_9_4) ?_
      refine GW_icmp_lt (X := X_X9_number) (pc := 27) 41 d_X9_number_27 (by decide) (fun c => ?_) (fun c => ?_)
      · replace h := g_ip c h
        refine GW_aload_n (X := X_X9_number) (pc := 41) d_X9_number_41 rfl 0 rfl ?_
        replace h := g_bd h
        obtain ⟨v6, hv6, h⟩ := h
        refine GW_getR (X := X_X9_number) (pc := 42) f_X9_22 d_X9_number_42 hv6 (Or.inr ⟨_, ty_9_3⟩) ?_
        refine GW_aload_n (X := X_X9_number) (pc := 45) d_X9_number_45 rfl 0 rfl ?_
        replace h := g_bd h
        obtain ⟨v7, hv7, h⟩ := h
        refine GW_getI (X := X_X9_number) (pc := 46) f_X9_29 d_X9_number_46 hv7 (Or.inl ty_9_5) ?_
        replace h := g_bd h
        obtain ⟨v8, hv8, h⟩ := h
        refine GW_iald (X := X_X9_number) (pc := 49) d_X9_number_49 hv8 ?_
        refine GW_istore_n (X := X_X9_number) (pc := 50) d_X9_number_50 rfl (Nat.le_of_ble_eq_true rfl) (lv2 := [(3, vi v8), (0, vr (some i1)), (1, vi l1), (2, vi l2)]) rfl ?_
        refine GW_iload_n (X := X_X9_number) (pc := 51) d_X9_number_51 rfl 0 rfl ?_
        refine GW_iload_n (X := X_X9_number) (pc := 52) d_X9_number_52 rfl 2 rfl ?_
        refine GW_icmp_lt (X := X_X9_number) (pc := 53) 61 d_X9_number_53 (by decide) (fun c => ?_) (fun c => ?_)
        · replace h := g_ip c h
          refine GW_sub [1] rfl ?_
          exact T_X9_number_b61 r (some i1) M h
        · replace h := g_ie c h
          refine GW_iload_n (X := X_X9_number) (pc := 56) d_X9_number_56 rfl 0 rfl ?_
          refine GW_iload_n (X := X_X9_number) (pc := 57) d_X9_number_57 rfl 3 rfl ?_
          refine GW_icmp_le (X := X_X9_number) (pc := 58) 72 d_X9_number_58 (by decide) (fun c => ?_) (fun c => ?_)
          · replace h := g_ip c h
            refine GW_aload_n (X := X_X9_number) (pc := 72) d_X9_number_72 rfl 1 rfl ?_
            replace h := g_bd h
            obtain ⟨M9, hM9, h⟩ := h
            refine GW_callV (X := X_X9_number) (pc := 73) (bc0 := 0) (bs0 := 0) (r := none) (M2 := M9) (c0 := 9) (T_X9_next (some i1) M M9 hM9) (Nat.le_of_ble_eq_true rfl) (Nat.le_of_ble_eq_true rfl) rfl g_cok9 ki1 yc_X9_next ⟨m_628, m_610, m_611, m_123, m_612⟩ d_X9_number_73 rfl (st := []) rfl (Nat.le_of_ble_eq_true rfl) (Nat.le_of_ble_eq_true rfl) (Nat.le_of_ble_eq_true rfl) (st2 := []) rfl ?_
            refine GW_iload_n (X := X_X9_number) (pc := 76) d_X9_number_76 rfl 0 rfl ?_
            replace h := Option.some.inj h
            subst h
            exact GW_ret (X := X_X9_number) (pc := 77) d_X9_number_77 rfl trivial
          · replace h := g_ie c h
            refine GW_sub [1] rfl ?_
            exact T_X9_number_b61 r (some i1) M h
      · replace h := g_ie c h
        refine GW_sub [0] rfl ?_
        exact T_X9_number_b30 r (some i1) M h
  · replace h := g_ie c h
    refine GW_iconst (X := X_X9_number) (pc := 7) (v := -1) d_X9_number_7 (by decide) ?_
    replace h := Option.some.inj h
    subst h
    exact GW_ret (X := X_X9_number) (pc := 8) d_X9_number_8 rfl trivial
def F_X9_number (l0 : Option Nat) (l1 : Int32) (l2 : Int32) (M : gM) : Option (Int32 × gM) := F_X9_number_b0 l0 l1 l2 M
theorem T_X9_number (l0 : Option Nat) (l1 : Int32) (l2 : Int32) (M : gM) (r : (Int32 × gM)) (h : F_X9_number l0 l1 l2 M = some r) : g_Met 1 0 0 yX9_number X_X9_number [vr l0, vi l1, vi l2] M (some (vi r.1), r.2) :=
  g_Met_of pn_RX9 rfl (Nat.le_of_ble_eq_true rfl) (fun h => by cases h) (GW_sub [0, 1, 2] rfl (T_X9_number_b0 r l0 l1 l2 M h))
/-! ForgetHeirs$HouseReader.readThing()V -/
theorem d_X2_readThing_0 : decode cX2_readThing 0 = .ok (.aload_n 0, 1) := by decide +kernel
theorem d_X2_readThing_1 : decode cX2_readThing 1 = .ok (.getfield 25, 3) := by decide +kernel
theorem d_X2_readThing_4 : decode cX2_readThing 4 = .ok (.iconst 0, 1) := by decide +kernel
theorem d_X2_readThing_5 : decode cX2_readThing 5 = .ok (.bipush 9, 2) := by decide +kernel
theorem d_X2_readThing_7 : decode cX2_readThing 7 = .ok (.invokevirtual 86, 3) := by decide +kernel
theorem d_X2_readThing_10 : decode cX2_readThing 10 = .ok (.istore_n 1, 1) := by decide +kernel
theorem d_X2_readThing_11 : decode cX2_readThing 11 = .ok (.aload_n 0, 1) := by decide +kernel
theorem d_X2_readThing_12 : decode cX2_readThing 12 = .ok (.getfield 25, 3) := by decide +kernel
theorem d_X2_readThing_15 : decode cX2_readThing 15 = .ok (.iconst 0, 1) := by decide +kernel
theorem d_X2_readThing_16 : decode cX2_readThing 16 = .ok (.bipush 20, 2) := by decide +kernel
theorem d_X2_readThing_18 : decode cX2_readThing 18 = .ok (.invokevirtual 86, 3) := by decide +kernel
theorem d_X2_readThing_21 : decode cX2_readThing 21 = .ok (.istore_n 2, 1) := by decide +kernel
theorem d_X2_readThing_22 : decode cX2_readThing 22 = .ok (.aload_n 0, 1) := by decide +kernel
theorem d_X2_readThing_23 : decode cX2_readThing 23 = .ok (.getfield 25, 3) := by decide +kernel
theorem d_X2_readThing_26 : decode cX2_readThing 26 = .ok (.iconst 0, 1) := by decide +kernel
theorem d_X2_readThing_27 : decode cX2_readThing 27 = .ok (.bipush 99, 2) := by decide +kernel
theorem d_X2_readThing_29 : decode cX2_readThing 29 = .ok (.invokevirtual 86, 3) := by decide +kernel
theorem d_X2_readThing_32 : decode cX2_readThing 32 = .ok (.istore_n 3, 1) := by decide +kernel
theorem d_X2_readThing_33 : decode cX2_readThing 33 = .ok (.aload_n 0, 1) := by decide +kernel
theorem d_X2_readThing_34 : decode cX2_readThing 34 = .ok (.getfield 25, 3) := by decide +kernel
theorem d_X2_readThing_37 : decode cX2_readThing 37 = .ok (.invokevirtual 45, 3) := by decide +kernel
theorem d_X2_readThing_40 : decode cX2_readThing 40 = .ok (.ifCond .ne 76, 3) := by decide +kernel
theorem d_X2_readThing_43 : decode cX2_readThing 43 = .ok (.aload_n 0, 1) := by decide +kernel
theorem d_X2_readThing_44 : decode cX2_readThing 44 = .ok (.getfield 12, 3) := by decide +kernel
theorem d_X2_readThing_47 : decode cX2_readThing 47 = .ok (.getfield 76, 3) := by decide +kernel
theorem d_X2_readThing_50 : decode cX2_readThing 50 = .ok (.bipush 7, 2) := by decide +kernel
theorem d_X2_readThing_52 : decode cX2_readThing 52 = .ok (.if_icmp .ge 64, 3) := by decide +kernel
theorem d_X2_readThing_55 : decode cX2_readThing 55 = .ok (.aload_n 0, 1) := by decide +kernel
theorem d_X2_readThing_56 : decode cX2_readThing 56 = .ok (.getfield 12, 3) := by decide +kernel
theorem d_X2_readThing_59 : decode cX2_readThing 59 = .ok (.getfield 115, 3) := by decide +kernel
theorem d_X2_readThing_62 : decode cX2_readThing 62 = .ok (.aload_n 0, 1) := by decide +kernel
theorem d_X2_readThing_63 : decode cX2_readThing 63 = .ok (.getfield 12, 3) := by decide +kernel
theorem d_X2_readThing_66 : decode cX2_readThing 66 = .ok (.getfield 76, 3) := by decide +kernel
theorem d_X2_readThing_69 : decode cX2_readThing 69 = .ok (.iload_n 1, 1) := by decide +kernel
theorem d_X2_readThing_70 : decode cX2_readThing 70 = .ok (.iastore, 1) := by decide +kernel
theorem d_X2_readThing_71 : decode cX2_readThing 71 = .ok (.aload_n 0, 1) := by decide +kernel
theorem d_X2_readThing_72 : decode cX2_readThing 72 = .ok (.getfield 12, 3) := by decide +kernel
theorem d_X2_readThing_75 : decode cX2_readThing 75 = .ok (.getfield 119, 3) := by decide +kernel
theorem d_X2_readThing_78 : decode cX2_readThing 78 = .ok (.aload_n 0, 1) := by decide +kernel
theorem d_X2_readThing_79 : decode cX2_readThing 79 = .ok (.getfield 12, 3) := by decide +kernel
theorem d_X2_readThing_82 : decode cX2_readThing 82 = .ok (.getfield 76, 3) := by decide +kernel
theorem d_X2_readThing_85 : decode cX2_readThing 85 = .ok (.iload_n 2, 1) := by decide +kernel
theorem d_X2_readThing_86 : decode cX2_readThing 86 = .ok (.iastore, 1) := by decide +kernel
theorem d_X2_readThing_87 : decode cX2_readThing 87 = .ok (.aload_n 0, 1) := by decide +kernel
theorem d_X2_readThing_88 : decode cX2_readThing 88 = .ok (.getfield 12, 3) := by decide +kernel
theorem d_X2_readThing_91 : decode cX2_readThing 91 = .ok (.getfield 122, 3) := by decide +kernel
theorem d_X2_readThing_94 : decode cX2_readThing 94 = .ok (.aload_n 0, 1) := by decide +kernel
theorem d_X2_readThing_95 : decode cX2_readThing 95 = .ok (.getfield 12, 3) := by decide +kernel
theorem d_X2_readThing_98 : decode cX2_readThing 98 = .ok (.getfield 76, 3) := by decide +kernel
theorem d_X2_readThing_101 : decode cX2_readThing 101 = .ok (.iload_n 3, 1) := by decide +kernel
theorem d_X2_readThing_102 : decode cX2_readThing 102 = .ok (.iastore, 1) := by decide +kernel
theorem d_X2_readThing_103 : decode cX2_readThing 103 = .ok (.aload_n 0, 1) := by decide +kernel
theorem d_X2_readThing_104 : decode cX2_readThing 104 = .ok (.getfield 12, 3) := by decide +kernel
theorem d_X2_readThing_107 : decode cX2_readThing 107 = .ok (.dup, 1) := by decide +kernel
theorem d_X2_readThing_108 : decode cX2_readThing 108 = .ok (.getfield 76, 3) := by decide +kernel
theorem d_X2_readThing_111 : decode cX2_readThing 111 = .ok (.iconst 1, 1) := by decide +kernel
theorem d_X2_readThing_112 : decode cX2_readThing 112 = .ok (.iadd, 1) := by decide +kernel
theorem d_X2_readThing_113 : decode cX2_readThing 113 = .ok (.putfield 76, 3) := by decide +kernel
theorem d_X2_readThing_116 : decode cX2_readThing 116 = .ok (.return_, 1) := by decide +kernel
abbrev X_X2_readThing : gX := (RX2, cX2_readThing, 4, none, false)
def F_X2_readThing_b0 (l0 : Option Nat) (M : gM) : Option gM :=
  (gR 2 M l0 0).bind fun v1 => (gO 9 M v1).bind fun i2 => (F_X9_number (some i2) (0 : Int32) (9 : Int32) M).bind fun (v3, M4) => (gR 2 M4 l0 0).bind fun v5 => (gO 9 M4 v5).bind fun i6 => (F_X9_number (some i6) (0 : Int32) (20 : Int32) M4).bind fun (v7, M8) => (gR 2 M8 l0 0).bind fun v9 => (gO 9 M8 v9).bind fun i10 => (F_X9_number (some i10) (0 : Int32) (99 : Int32) M8).bind fun (v11, M12) => (gR 2 M12 l0 0).bind fun v13 => (gO 9 M12 v13).bind fun i14 => (F_X9_isFaulty (some i14) M12).bind fun v15 => if v15 = 0 then ((gR 2 M12 l0 1).bind fun v16 => (gI 1 M12 v16 6).bind fun v17 => if (7 : Int32) ≤ v17 then (some M12) else ((gR 2 M12 l0 1).bind fun v18 => (gR 1 M12 v18 0).bind fun v19 => (gR 2 M12 l0 1).bind fun v20 => (gI 1 M12 v20 6).bind fun v21 => (sI M12 v19 v21 v3).bind fun M22 => (gR 2 M22 l0 1).bind fun v23 => (gR 1 M22 v23 1).bind fun v24 => (gR 2 M22 l0 1).bind fun v25 => (gI 1 M22 v25 6).bind fun v26 => (sI M22 v24 v26 v7).bind fun M27 => (gR 2 M27 l0 1).bind fun v28 => (gR 1 M27 v28 2).bind fun v29 => (gR 2 M27 l0 1).bind fun v30 => (gI 1 M27 v30 6).bind fun v31 => (sI M27 v29 v31 v11).bind fun M32 => (gR 2 M32 l0 1).bind fun v33 => (gI 1 M32 v33 6).bind fun v34 => (pI 1 M32 v33 6 (v34 + (1 : Int32))).bind fun M35 => some M35)) else (some M12)
set_option maxHeartbeats 1000000 in
theorem T_X2_readThing_b0 (r : gM) (l0 : Option Nat) (M : gM) (h : F_X2_readThing_b0 l0 M = some r) : GW 2 0 0 X_X2_readThing 0 [(0, vr l0)] [] M (none, r) := by
  delta F_X2_readThing_b0 at h
  refine GW_aload_n (X := X_X2_readThing) (pc := 0) d_X2_readThing_0 rfl 0 rfl ?_
  replace h := g_bd h
  obtain ⟨v1, hv1, h⟩ := h
  refine GW_getR (X := X_X2_readThing) (pc := 1) f_X2_25 d_X2_readThing_1 hv1 (Or.inl ⟨_, ty_2_0⟩) ?_
  refine GW_iconst (X := X_X2_readThing) (pc := 4) (v := 0) d_X2_readThing_4 (by decide) ?_
  refine GW_bipush (X := X_X2_readThing) (pc := 5) (v := 9) d_X2_readThing_5 (by decide) ?_
  replace h := g_bd h
  obtain ⟨i2, hi2, h⟩ := h
  obtain ⟨rfl, ki2⟩ := g_gO hi2
  replace h := g_bd h
  obtain ⟨⟨v3, M4⟩, hv3, h⟩ := h
  dsimp only at h
  refine GW_callV (X := X_X2_readThing) (pc := 7) (bc0 := 0) (bs0 := 0) (r := some (vi v3)) (M2 := M4) (c0 := 9) (T_X9_number (some i2) (0 : Int32) (9 : Int32) M (v3, M4) hv3) (Nat.le_of_ble_eq_true rfl) (Nat.le_of_ble_eq_true rfl) rfl g_cok9 ki2 yc_X9_number ⟨m_617, m_618, m_619, m_123, m_620⟩ d_X2_readThing_7 rfl (st := []) rfl (Nat.le_of_ble_eq_true rfl) (Nat.le_of_ble_eq_true rfl) (Nat.le_of_ble_eq_true rfl) (st2 := [vi v3]) rfl ?_
  refine GW_istore_n (X := X_X2_readThing) (pc := 10) d_X2_readThing_10 rfl (Nat.le_of_ble_eq_true rfl) (lv2 := [(1, vi v3), (0, vr l0)]) rfl ?_
  refine GW_aload_n (X := X_X2_readThing) (pc := 11) d_X2_readThing_11 rfl 1 rfl ?_
  replace h := g_bd h
  obtain ⟨v5, hv5, h⟩ := h
  refine GW_getR (X := X_X2_readThing) (pc := 12) f_X2_25 d_X2_readThing_12 hv5 (Or.inl ⟨_, ty_2_0⟩) ?_
  refine GW_iconst (X := X_X2_readThing) (pc := 15) (v := 0) d_X2_readThing_15 (by decide) ?_
  refine GW_bipush (X := X_X2_readThing) (pc := 16) (v := 20) d_X2_readThing_16 (by decide) ?_
  replace h := g_bd h
  obtain ⟨i6, hi6, h⟩ := h
  obtain ⟨rfl, ki6⟩ := g_gO hi6
  replace h := g_bd h
  obtain ⟨⟨v7, M8⟩, hv7, h⟩ := h
  dsimp only at h
  refine GW_callV (X := X_X2_readThing) (pc := 18) (bc0 := 0) (bs0 := 0) (r := some (vi v7)) (M2 := M8) (c0 := 9) (T_X9_number (some i6) (0 : Int32) (20 : Int32) M4 (v7, M8) hv7) (Nat.le_of_ble_eq_true rfl) (Nat.le_of_ble_eq_true rfl) rfl g_cok9 ki6 yc_X9_number ⟨m_617, m_618, m_619, m_123, m_620⟩ d_X2_readThing_18 rfl (st := []) rfl (Nat.le_of_ble_eq_true rfl) (Nat.le_of_ble_eq_true rfl) (Nat.le_of_ble_eq_true rfl) (st2 := [vi v7]) rfl ?_
  refine GW_istore_n (X := X_X2_readThing) (pc := 21) d_X2_readThing_21 rfl (Nat.le_of_ble_eq_true rfl) (lv2 := [(2, vi v7), (1, vi v3), (0, vr l0)]) rfl ?_
  refine GW_aload_n (X := X_X2_readThing) (pc := 22) d_X2_readThing_22 rfl 2 rfl ?_
  replace h := g_bd h
  obtain ⟨v9, hv9, h⟩ := h
  refine GW_getR (X := X_X2_readThing) (pc := 23) f_X2_25 d_X2_readThing_23 hv9 (Or.inl ⟨_, ty_2_0⟩) ?_
  refine GW_iconst (X := X_X2_readThing) (pc := 26) (v := 0) d_X2_readThing_26 (by decide) ?_
  refine GW_bipush (X := X_X2_readThing) (pc := 27) (v := 99) d_X2_readThing_27 (by decide) ?_
  replace h := g_bd h
  obtain ⟨i10, hi10, h⟩ := h
  obtain ⟨rfl, ki10⟩ := g_gO hi10
  replace h := g_bd h
  obtain ⟨⟨v11, M12⟩, hv11, h⟩ := h
  dsimp only at h
  refine GW_callV (X := X_X2_readThing) (pc := 29) (bc0 := 0) (bs0 := 0) (r := some (vi v11)) (M2 := M12) (c0 := 9) (T_X9_number (some i10) (0 : Int32) (99 : Int32) M8 (v11, M12) hv11) (Nat.le_of_ble_eq_true rfl) (Nat.le_of_ble_eq_true rfl) rfl g_cok9 ki10 yc_X9_number ⟨m_617, m_618, m_619, m_123, m_620⟩ d_X2_readThing_29 rfl (st := []) rfl (Nat.le_of_ble_eq_true rfl) (Nat.le_of_ble_eq_true rfl) (Nat.le_of_ble_eq_true rfl) (st2 := [vi v11]) rfl ?_
  refine GW_istore_n (X := X_X2_readThing) (pc := 32) d_X2_readThing_32 rfl (Nat.le_of_ble_eq_true rfl) (lv2 := [(3, vi v11), (2, vi v7), (1, vi v3), (0, vr l0)]) rfl ?_
  refine GW_aload_n (X := X_X2_readThing) (pc := 33) d_X2_readThing_33 rfl 3 rfl ?_
  replace h := g_bd h
  obtain ⟨v13, hv13, h⟩ := h
  refine GW_getR (X := X_X2_readThing) (pc := 34) f_X2_25 d_X2_readThing_34 hv13 (Or.inl ⟨_, ty_2_0⟩) ?_
  replace h := g_bd h
  obtain ⟨i14, hi14, h⟩ := h
  obtain ⟨rfl, ki14⟩ := g_gO hi14
  replace h := g_bd h
  obtain ⟨v15, hv15, h⟩ := h
  refine GW_callV (X := X_X2_readThing) (pc := 37) (bc0 := 0) (bs0 := 0) (r := some (vi v15)) (M2 := M12) (c0 := 9) (T_X9_isFaulty (some i14) M12 v15 hv15) (Nat.le_of_ble_eq_true rfl) (Nat.le_of_ble_eq_true rfl) rfl g_cok9 ki14 yc_X9_isFaulty ⟨m_633, m_622, m_623, m_123, m_624⟩ d_X2_readThing_37 rfl (st := []) rfl (Nat.le_of_ble_eq_true rfl) (Nat.le_of_ble_eq_true rfl) (Nat.le_of_ble_eq_true rfl) (st2 := [vi v15]) rfl ?_
  refine GW_if_ne (X := X_X2_readThing) (pc := 40) 116 d_X2_readThing_40 (by decide) (fun c => ?_) (fun c => ?_)
  · replace h := g_ie c h
    replace h := Option.some.inj h
    subst h
    exact GW_ret (X := X_X2_readThing) (pc := 116) d_X2_readThing_116 rfl trivial
  · replace h := g_ip c h
    refine GW_aload_n (X := X_X2_readThing) (pc := 43) d_X2_readThing_43 rfl 3 rfl ?_
    replace h := g_bd h
    obtain ⟨v16, hv16, h⟩ := h
    refine GW_getR (X := X_X2_readThing) (pc := 44) f_X2_12 d_X2_readThing_44 hv16 (Or.inl ⟨_, ty_2_1⟩) ?_
    replace h := g_bd h
    obtain ⟨v17, hv17, h⟩ := h
    refine GW_getI (X := X_X2_readThing) (pc := 47) f_X2_76 d_X2_readThing_47 hv17 (Or.inl ty_1_6) ?_
    refine GW_bipush (X := X_X2_readThing) (pc := 50) (v := 7) d_X2_readThing_50 (by decide) ?_
    refine GW_icmp_ge (X := X_X2_readThing) (pc := 52) 116 d_X2_readThing_52 (by decide) (fun c => ?_) (fun c => ?_)
    · replace h := g_ip c h
      replace h := Option.some.inj h
      subst h
      exact GW_ret (X := X_X2_readThing) (pc := 116) d_X2_readThing_116 rfl trivial
    · replace h := g_ie c h
      refine GW_aload_n (X := X_X2_readThing) (pc := 55) d_X2_readThing_55 rfl 3 rfl ?_
      replace h := g_bd h
      obtain ⟨v18, hv18, h⟩ := h
      refine GW_getR (X := X_X2_readThing) (pc := 56) f_X2_12 d_X2_readThing_56 hv18 (Or.inl ⟨_, ty_2_1⟩) ?_
      replace h := g_bd h
      obtain ⟨v19, hv19, h⟩ := h
      refine GW_getR (X := X_X2_readThing) (pc := 59) f_X2_115 d_X2_readThing_59 hv19 (Or.inr ⟨_, ty_1_0⟩) ?_
      refine GW_aload_n (X := X_X2_readThing) (pc := 62) d_X2_readThing_62 rfl 3 rfl ?_
      replace h := g_bd h
      obtain ⟨v20, hv20, h⟩ := h
      refine GW_getR (X := X_X2_readThing) (pc := 63) f_X2_12 d_X2_readThing_63 hv20 (Or.inl ⟨_, ty_2_1⟩) ?_
      replace h := g_bd h
      obtain ⟨v21, hv21, h⟩ := h
      refine GW_getI (X := X_X2_readThing) (pc := 66) f_X2_76 d_X2_readThing_66 hv21 (Or.inl ty_1_6) ?_
      refine GW_iload_n (X := X_X2_readThing) (pc := 69) d_X2_readThing_69 rfl 2 rfl ?_
      replace h := g_bd h
      obtain ⟨M22, hM22, h⟩ := h
      refine GW_iast (X := X_X2_readThing) (pc := 70) d_X2_readThing_70 hM22 ?_
      refine GW_aload_n (X := X_X2_readThing) (pc := 71) d_X2_readThing_71 rfl 3 rfl ?_
      replace h := g_bd h
      obtain ⟨v23, hv23, h⟩ := h
      refine GW_getR (X := X_X2_readThing) (pc := 72) f_X2_12 d_X2_readThing_72 hv23 (Or.inl ⟨_, ty_2_1⟩) ?_
      replace h := g_bd h
      obtain ⟨v24, hv24, h⟩ := h
      refine GW_getR (X := X_X2_readThing) (pc := 75) f_X2_119 d_X2_readThing_75 hv24 (Or.inr ⟨_, ty_1_1⟩) ?_
      refine GW_aload_n (X := X_X2_readThing) (pc := 78) d_X2_readThing_78 rfl 3 rfl ?_
      replace h := g_bd h
      obtain ⟨v25, hv25, h⟩ := h
      refine GW_getR (X := X_X2_readThing) (pc := 79) f_X2_12 d_X2_readThing_79 hv25 (Or.inl ⟨_, ty_2_1⟩) ?_
      replace h := g_bd h
      obtain ⟨v26, hv26, h⟩ := h
      refine GW_getI (X := X_X2_readThing) (pc := 82) f_X2_76 d_X2_readThing_82 hv26 (Or.inl ty_1_6) ?_
      refine GW_iload_n (X := X_X2_readThing) (pc := 85) d_X2_readThing_85 rfl 1 rfl ?_
      replace h := g_bd h
      obtain ⟨M27, hM27, h⟩ := h
      refine GW_iast (X := X_X2_readThing) (pc := 86) d_X2_readThing_86 hM27 ?_
      refine GW_aload_n (X := X_X2_readThing) (pc := 87) d_X2_readThing_87 rfl 3 rfl ?_
      replace h := g_bd h
      obtain ⟨v28, hv28, h⟩ := h
      refine GW_getR (X := X_X2_readThing) (pc := 88) f_X2_12 d_X2_readThing_88 hv28 (Or.inl ⟨_, ty_2_1⟩) ?_
      replace h := g_bd h
      obtain ⟨v29, hv29, h⟩ := h
      refine GW_getR (X := X_X2_readThing) (pc := 91) f_X2_122 d_X2_readThing_91 hv29 (Or.inr ⟨_, ty_1_2⟩) ?_
      refine GW_aload_n (X := X_X2_readThing) (pc := 94) d_X2_readThing_94 rfl 3 rfl ?_
      replace h := g_bd h
      obtain ⟨v30, hv30, h⟩ := h
      refine GW_getR (X := X_X2_readThing) (pc := 95) f_X2_12 d_X2_readThing_95 hv30 (Or.inl ⟨_, ty_2_1⟩) ?_
      replace h := g_bd h
      obtain ⟨v31, hv31, h⟩ := h
      refine GW_getI (X := X_X2_readThing) (pc := 98) f_X2_76 d_X2_readThing_98 hv31 (Or.inl ty_1_6) ?_
      refine GW_iload_n (X := X_X2_readThing) (pc := 101) d_X2_readThing_101 rfl 0 rfl ?_
      replace h := g_bd h
      obtain ⟨M32, hM32, h⟩ := h
      refine GW_iast (X := X_X2_readThing) (pc := 102) d_X2_readThing_102 hM32 ?_
      refine GW_aload_n (X := X_X2_readThing) (pc := 103) d_X2_readThing_103 rfl 3 rfl ?_
      replace h := g_bd h
      obtain ⟨v33, hv33, h⟩ := h
      refine GW_getR (X := X_X2_readThing) (pc := 104) f_X2_12 d_X2_readThing_104 hv33 (Or.inl ⟨_, ty_2_1⟩) ?_
      refine GW_dup (X := X_X2_readThing) (pc := 107) d_X2_readThing_107 rfl ?_
      replace h := g_bd h
      obtain ⟨v34, hv34, h⟩ := h
      refine GW_getI (X := X_X2_readThing) (pc := 108) f_X2_76 d_X2_readThing_108 hv34 (Or.inl ty_1_6) ?_
      refine GW_iconst (X := X_X2_readThing) (pc := 111) (v := 1) d_X2_readThing_111 (by decide) ?_
      refine GW_iadd (X := X_X2_readThing) (pc := 112) d_X2_readThing_112 ?_
      replace h := g_bd h
      obtain ⟨M35, hM35, h⟩ := h
      refine GW_putI (X := X_X2_readThing) (pc := 113) f_X2_76 d_X2_readThing_113 hM35 (Or.inl fi_1_6) (Or.inl ty_1_6) ?_
      replace h := Option.some.inj h
      subst h
      exact GW_ret (X := X_X2_readThing) (pc := 116) d_X2_readThing_116 rfl trivial
def F_X2_readThing (l0 : Option Nat) (M : gM) : Option gM := F_X2_readThing_b0 l0 M
theorem T_X2_readThing (l0 : Option Nat) (M : gM) (r : gM) (h : F_X2_readThing l0 M = some r) : g_Met 2 0 0 yX2_readThing X_X2_readThing [vr l0] M (none, r) :=
  g_Met_of pn_RX2 rfl (Nat.le_of_ble_eq_true rfl) (fun h => by cases h) (GW_sub [0] rfl (T_X2_readThing_b0 r l0 M h))
/-! ForgetHeirs$HouseReader.bitOf(I)I -/
theorem d_X2_bitOf_0 : decode cX2_bitOf 0 = .ok (.iload_n 0, 1) := by decide +kernel
theorem d_X2_bitOf_1 : decode cX2_bitOf 1 = .ok (.ifCond .ge 7, 3) := by decide +kernel
theorem d_X2_bitOf_4 : decode cX2_bitOf 4 = .ok (.iconst 0, 1) := by decide +kernel
theorem d_X2_bitOf_5 : decode cX2_bitOf 5 = .ok (.goto 6, 3) := by decide +kernel
theorem d_X2_bitOf_8 : decode cX2_bitOf 8 = .ok (.iconst 1, 1) := by decide +kernel
theorem d_X2_bitOf_9 : decode cX2_bitOf 9 = .ok (.iload_n 0, 1) := by decide +kernel
theorem d_X2_bitOf_10 : decode cX2_bitOf 10 = .ok (.ishl, 1) := by decide +kernel
theorem d_X2_bitOf_11 : decode cX2_bitOf 11 = .ok (.ireturn, 1) := by decide +kernel
abbrev X_X2_bitOf : gX := (RX2, cX2_bitOf, 1, (some .int), false)
def F_X2_bitOf_b0 (M : gM) (l0 : Int32) : Option Int32 :=
  if 0 ≤ l0 then (some ((1 : Int32) <<< (l0 &&& 31))) else (some (0 : Int32))
theorem T_X2_bitOf_b0 (M : gM) (r : Int32) (l0 : Int32) (h : F_X2_bitOf_b0 M l0 = some r) : GW 0 0 0 X_X2_bitOf 0 [(0, vi l0)] [] M (some (vi r), M) := by
  delta F_X2_bitOf_b0 at h
  refine GW_iload_n (X := X_X2_bitOf) (pc := 0) d_X2_bitOf_0 rfl 0 rfl ?_
  refine GW_if_ge (X := X_X2_bitOf) (pc := 1) 8 d_X2_bitOf_1 (by decide) (fun c => ?_) (fun c => ?_)
  · replace h := g_ip c h
    refine GW_iconst (X := X_X2_bitOf) (pc := 8) (v := 1) d_X2_bitOf_8 (by decide) ?_
    refine GW_iload_n (X := X_X2_bitOf) (pc := 9) d_X2_bitOf_9 rfl 0 rfl ?_
    refine GW_ishl (X := X_X2_bitOf) (pc := 10) d_X2_bitOf_10 ?_
    replace h := Option.some.inj h
    subst h
    exact GW_ret (X := X_X2_bitOf) (pc := 11) d_X2_bitOf_11 rfl trivial
  · replace h := g_ie c h
    refine GW_iconst (X := X_X2_bitOf) (pc := 4) (v := 0) d_X2_bitOf_4 (by decide) ?_
    refine GW_goto (X := X_X2_bitOf) (pc := 5) 11 d_X2_bitOf_5 (by decide) ?_
    replace h := Option.some.inj h
    subst h
    exact GW_ret (X := X_X2_bitOf) (pc := 11) d_X2_bitOf_11 rfl trivial
def F_X2_bitOf (l0 : Int32) (M : gM) : Option Int32 := F_X2_bitOf_b0 M l0
theorem T_X2_bitOf (l0 : Int32) (M : gM) (r : Int32) (h : F_X2_bitOf l0 M = some r) : g_Met 0 0 0 yX2_bitOf X_X2_bitOf [vi l0] M (some (vi r), M) :=
  g_Met_of pn_RX2 rfl (Nat.le_of_ble_eq_true rfl) (fun h => by cases h) (GW_sub [0] rfl (T_X2_bitOf_b0 M r l0 h))
/-! ForgetHeirs$HouseReader.readHeir()V -/
theorem d_X2_readHeir_0 : decode cX2_readHeir 0 = .ok (.aload_n 0, 1) := by decide +kernel
theorem d_X2_readHeir_1 : decode cX2_readHeir 1 = .ok (.getfield 25, 3) := by decide +kernel
theorem d_X2_readHeir_4 : decode cX2_readHeir 4 = .ok (.iconst 0, 1) := by decide +kernel
theorem d_X2_readHeir_5 : decode cX2_readHeir 5 = .ok (.bipush 99, 2) := by decide +kernel
theorem d_X2_readHeir_7 : decode cX2_readHeir 7 = .ok (.invokevirtual 86, 3) := by decide +kernel
theorem d_X2_readHeir_10 : decode cX2_readHeir 10 = .ok (.istore_n 1, 1) := by decide +kernel
theorem d_X2_readHeir_11 : decode cX2_readHeir 11 = .ok (.aload_n 0, 1) := by decide +kernel
theorem d_X2_readHeir_12 : decode cX2_readHeir 12 = .ok (.getfield 25, 3) := by decide +kernel
theorem d_X2_readHeir_15 : decode cX2_readHeir 15 = .ok (.iconst 0, 1) := by decide +kernel
theorem d_X2_readHeir_16 : decode cX2_readHeir 16 = .ok (.bipush 100, 2) := by decide +kernel
theorem d_X2_readHeir_18 : decode cX2_readHeir 18 = .ok (.invokevirtual 86, 3) := by decide +kernel
theorem d_X2_readHeir_21 : decode cX2_readHeir 21 = .ok (.istore_n 2, 1) := by decide +kernel
theorem d_X2_readHeir_22 : decode cX2_readHeir 22 = .ok (.aload_n 0, 1) := by decide +kernel
theorem d_X2_readHeir_23 : decode cX2_readHeir 23 = .ok (.getfield 25, 3) := by decide +kernel
theorem d_X2_readHeir_26 : decode cX2_readHeir 26 = .ok (.invokevirtual 45, 3) := by decide +kernel
theorem d_X2_readHeir_29 : decode cX2_readHeir 29 = .ok (.ifCond .ne 60, 3) := by decide +kernel
theorem d_X2_readHeir_32 : decode cX2_readHeir 32 = .ok (.aload_n 0, 1) := by decide +kernel
theorem d_X2_readHeir_33 : decode cX2_readHeir 33 = .ok (.getfield 12, 3) := by decide +kernel
theorem d_X2_readHeir_36 : decode cX2_readHeir 36 = .ok (.getfield 80, 3) := by decide +kernel
theorem d_X2_readHeir_39 : decode cX2_readHeir 39 = .ok (.bipush 7, 2) := by decide +kernel
theorem d_X2_readHeir_41 : decode cX2_readHeir 41 = .ok (.if_icmp .ge 48, 3) := by decide +kernel
theorem d_X2_readHeir_44 : decode cX2_readHeir 44 = .ok (.aload_n 0, 1) := by decide +kernel
theorem d_X2_readHeir_45 : decode cX2_readHeir 45 = .ok (.getfield 21, 3) := by decide +kernel
theorem d_X2_readHeir_48 : decode cX2_readHeir 48 = .ok (.getfield 125, 3) := by decide +kernel
theorem d_X2_readHeir_51 : decode cX2_readHeir 51 = .ok (.aload_n 0, 1) := by decide +kernel
theorem d_X2_readHeir_52 : decode cX2_readHeir 52 = .ok (.getfield 12, 3) := by decide +kernel
theorem d_X2_readHeir_55 : decode cX2_readHeir 55 = .ok (.getfield 80, 3) := by decide +kernel
theorem d_X2_readHeir_58 : decode cX2_readHeir 58 = .ok (.iload_n 1, 1) := by decide +kernel
theorem d_X2_readHeir_59 : decode cX2_readHeir 59 = .ok (.iastore, 1) := by decide +kernel
theorem d_X2_readHeir_60 : decode cX2_readHeir 60 = .ok (.aload_n 0, 1) := by decide +kernel
theorem d_X2_readHeir_61 : decode cX2_readHeir 61 = .ok (.getfield 12, 3) := by decide +kernel
theorem d_X2_readHeir_64 : decode cX2_readHeir 64 = .ok (.getfield 128, 3) := by decide +kernel
theorem d_X2_readHeir_67 : decode cX2_readHeir 67 = .ok (.aload_n 0, 1) := by decide +kernel
theorem d_X2_readHeir_68 : decode cX2_readHeir 68 = .ok (.getfield 12, 3) := by decide +kernel
theorem d_X2_readHeir_71 : decode cX2_readHeir 71 = .ok (.getfield 80, 3) := by decide +kernel
theorem d_X2_readHeir_74 : decode cX2_readHeir 74 = .ok (.iload_n 2, 1) := by decide +kernel
theorem d_X2_readHeir_75 : decode cX2_readHeir 75 = .ok (.iastore, 1) := by decide +kernel
theorem d_X2_readHeir_76 : decode cX2_readHeir 76 = .ok (.aload_n 0, 1) := by decide +kernel
theorem d_X2_readHeir_77 : decode cX2_readHeir 77 = .ok (.getfield 12, 3) := by decide +kernel
theorem d_X2_readHeir_80 : decode cX2_readHeir 80 = .ok (.dup, 1) := by decide +kernel
theorem d_X2_readHeir_81 : decode cX2_readHeir 81 = .ok (.getfield 80, 3) := by decide +kernel
theorem d_X2_readHeir_84 : decode cX2_readHeir 84 = .ok (.iconst 1, 1) := by decide +kernel
theorem d_X2_readHeir_85 : decode cX2_readHeir 85 = .ok (.iadd, 1) := by decide +kernel
theorem d_X2_readHeir_86 : decode cX2_readHeir 86 = .ok (.putfield 80, 3) := by decide +kernel
theorem d_X2_readHeir_89 : decode cX2_readHeir 89 = .ok (.return_, 1) := by decide +kernel
abbrev X_X2_readHeir : gX := (RX2, cX2_readHeir, 3, none, false)
def F_X2_readHeir_b0 (l0 : Option Nat) (M : gM) : Option gM :=
  (gR 2 M l0 0).bind fun v1 => (gO 9 M v1).bind fun i2 => (F_X9_number (some i2) (0 : Int32) (99 : Int32) M).bind fun (v3, M4) => (gR 2 M4 l0 0).bind fun v5 => (gO 9 M4 v5).bind fun i6 => (F_X9_number (some i6) (0 : Int32) (100 : Int32) M4).bind fun (v7, M8) => (gR 2 M8 l0 0).bind fun v9 => (gO 9 M8 v9).bind fun i10 => (F_X9_isFaulty (some i10) M8).bind fun v11 => if v11 = 0 then ((gR 2 M8 l0 1).bind fun v12 => (gI 1 M8 v12 7).bind fun v13 => if (7 : Int32) ≤ v13 then (some M8) else ((gR 2 M8 l0 2).bind fun v14 => (gR 8 M8 v14 2).bind fun v15 => (gR 2 M8 l0 1).bind fun v16 => (gI 1 M8 v16 7).bind fun v17 => (sI M8 v15 v17 v3).bind fun M18 => (gR 2 M18 l0 1).bind fun v19 => (gR 1 M18 v19 3).bind fun v20 => (gR 2 M18 l0 1).bind fun v21 => (gI 1 M18 v21 7).bind fun v22 => (sI M18 v20 v22 v7).bind fun M23 => (gR 2 M23 l0 1).bind fun v24 => (gI 1 M23 v24 7).bind fun v25 => (pI 1 M23 v24 7 (v25 + (1 : Int32))).bind fun M26 => some M26)) else (some M8)
set_option maxHeartbeats 1000000 in
theorem T_X2_readHeir_b0 (r : gM) (l0 : Option Nat) (M : gM) (h : F_X2_readHeir_b0 l0 M = some r) : GW 2 0 0 X_X2_readHeir 0 [(0, vr l0)] [] M (none, r) := by
  delta F_X2_readHeir_b0 at h
  refine GW_aload_n (X := X_X2_readHeir) (pc := 0) d_X2_readHeir_0 rfl 0 rfl ?_
  replace h := g_bd h
  obtain ⟨v1, hv1, h⟩ := h
  refine GW_getR (X := X_X2_readHeir) (pc := 1) f_X2_25 d_X2_readHeir_1 hv1 (Or.inl ⟨_, ty_2_0⟩) ?_
  refine GW_iconst (X := X_X2_readHeir) (pc := 4) (v := 0) d_X2_readHeir_4 (by decide) ?_
  refine GW_bipush (X := X_X2_readHeir) (pc := 5) (v := 99) d_X2_readHeir_5 (by decide) ?_
  replace h := g_bd h
  obtain ⟨i2, hi2, h⟩ := h
  obtain ⟨rfl, ki2⟩ := g_gO hi2
  replace h := g_bd h
  obtain ⟨⟨v3, M4⟩, hv3, h⟩ := h
  dsimp only at h
  refine GW_callV (X := X_X2_readHeir) (pc := 7) (bc0 := 0) (bs0 := 0) (r := some (vi v3)) (M2 := M4) (c0 := 9) (T_X9_number (some i2) (0 : Int32) (99 : Int32) M (v3, M4) hv3) (Nat.le_of_ble_eq_true rfl) (Nat.le_of_ble_eq_true rfl) rfl g_cok9 ki2 yc_X9_number ⟨m_617, m_618, m_619, m_123, m_620⟩ d_X2_readHeir_7 rfl (st := []) rfl (Nat.le_of_ble_eq_true rfl) (Nat.le_of_ble_eq_true rfl) (Nat.le_of_ble_eq_true rfl) (st2 := [vi v3]) rfl ?_
  refine GW_istore_n (X := X_X2_readHeir) (pc := 10) d_X2_readHeir_10 rfl (Nat.le_of_ble_eq_true rfl) (lv2 := [(1, vi v3), (0, vr l0)]) rfl ?_
  refine GW_aload_n (X := X_X2_readHeir) (pc := 11) d_X2_readHeir_11 rfl 1 rfl ?_
  replace h := g_bd h
  obtain ⟨v5, hv5, h⟩ := h
  refine GW_getR (X := X_X2_readHeir) (pc := 12) f_X2_25 d_X2_readHeir_12 hv5 (Or.inl ⟨_, ty_2_0⟩) ?_
  refine GW_iconst (X := X_X2_readHeir) (pc := 15) (v := 0) d_X2_readHeir_15 (by decide) ?_
  refine GW_bipush (X := X_X2_readHeir) (pc := 16) (v := 100) d_X2_readHeir_16 (by decide) ?_
  replace h := g_bd h
  obtain ⟨i6, hi6, h⟩ := h
  obtain ⟨rfl, ki6⟩ := g_gO hi6
  replace h := g_bd h
  obtain ⟨⟨v7, M8⟩, hv7, h⟩ := h
  dsimp only at h
  refine GW_callV (X := X_X2_readHeir) (pc := 18) (bc0 := 0) (bs0 := 0) (r := some (vi v7)) (M2 := M8) (c0 := 9) (T_X9_number (some i6) (0 : Int32) (100 : Int32) M4 (v7, M8) hv7) (Nat.le_of_ble_eq_true rfl) (Nat.le_of_ble_eq_true rfl) rfl g_cok9 ki6 yc_X9_number ⟨m_617, m_618, m_619, m_123, m_620⟩ d_X2_readHeir_18 rfl (st := []) rfl (Nat.le_of_ble_eq_true rfl) (Nat.le_of_ble_eq_true rfl) (Nat.le_of_ble_eq_true rfl) (st2 := [vi v7]) rfl ?_
  refine GW_istore_n (X := X_X2_readHeir) (pc := 21) d_X2_readHeir_21 rfl (Nat.le_of_ble_eq_true rfl) (lv2 := [(2, vi v7), (1, vi v3), (0, vr l0)]) rfl ?_
  refine GW_aload_n (X := X_X2_readHeir) (pc := 22) d_X2_readHeir_22 rfl 2 rfl ?_
  replace h := g_bd h
  obtain ⟨v9, hv9, h⟩ := h
  refine GW_getR (X := X_X2_readHeir) (pc := 23) f_X2_25 d_X2_readHeir_23 hv9 (Or.inl ⟨_, ty_2_0⟩) ?_
  replace h := g_bd h
  obtain ⟨i10, hi10, h⟩ := h
  obtain ⟨rfl, ki10⟩ := g_gO hi10
  replace h := g_bd h
  obtain ⟨v11, hv11, h⟩ := h
  refine GW_callV (X := X_X2_readHeir) (pc := 26) (bc0 := 0) (bs0 := 0) (r := some (vi v11)) (M2 := M8) (c0 := 9) (T_X9_isFaulty (some i10) M8 v11 hv11) (Nat.le_of_ble_eq_true rfl) (Nat.le_of_ble_eq_true rfl) rfl g_cok9 ki10 yc_X9_isFaulty ⟨m_633, m_622, m_623, m_123, m_624⟩ d_X2_readHeir_26 rfl (st := []) rfl (Nat.le_of_ble_eq_true rfl) (Nat.le_of_ble_eq_true rfl) (Nat.le_of_ble_eq_true rfl) (st2 := [vi v11]) rfl ?_
  refine GW_if_ne (X := X_X2_readHeir) (pc := 29) 89 d_X2_readHeir_29 (by decide) (fun c => ?_) (fun c => ?_)
  · replace h := g_ie c h
    replace h := Option.some.inj h
    subst h
    exact GW_ret (X := X_X2_readHeir) (pc := 89) d_X2_readHeir_89 rfl trivial
  · replace h := g_ip c h
    refine GW_aload_n (X := X_X2_readHeir) (pc := 32) d_X2_readHeir_32 rfl 2 rfl ?_
    replace h := g_bd h
    obtain ⟨v12, hv12, h⟩ := h
    refine GW_getR (X := X_X2_readHeir) (pc := 33) f_X2_12 d_X2_readHeir_33 hv12 (Or.inl ⟨_, ty_2_1⟩) ?_
    replace h := g_bd h
    obtain ⟨v13, hv13, h⟩ := h
    refine GW_getI (X := X_X2_readHeir) (pc := 36) f_X2_80 d_X2_readHeir_36 hv13 (Or.inl ty_1_7) ?_
    refine GW_bipush (X := X_X2_readHeir) (pc := 39) (v := 7) d_X2_readHeir_39 (by decide) ?_
    refine GW_icmp_ge (X := X_X2_readHeir) (pc := 41) 89 d_X2_readHeir_41 (by decide) (fun c => ?_) (fun c => ?_)
    · replace h := g_ip c h
      replace h := Option.some.inj h
      subst h
      exact GW_ret (X := X_X2_readHeir) (pc := 89) d_X2_readHeir_89 rfl trivial
    · replace h := g_ie c h
      refine GW_aload_n (X := X_X2_readHeir) (pc := 44) d_X2_readHeir_44 rfl 2 rfl ?_
      replace h := g_bd h
      obtain ⟨v14, hv14, h⟩ := h
      refine GW_getR (X := X_X2_readHeir) (pc := 45) f_X2_21 d_X2_readHeir_45 hv14 (Or.inl ⟨_, ty_2_2⟩) ?_
      replace h := g_bd h
      obtain ⟨v15, hv15, h⟩ := h
      refine GW_getR (X := X_X2_readHeir) (pc := 48) f_X2_125 d_X2_readHeir_48 hv15 (Or.inr ⟨_, ty_8_2⟩) ?_
      refine GW_aload_n (X := X_X2_readHeir) (pc := 51) d_X2_readHeir_51 rfl 2 rfl ?_
      replace h := g_bd h
      obtain ⟨v16, hv16, h⟩ := h
      refine GW_getR (X := X_X2_readHeir) (pc := 52) f_X2_12 d_X2_readHeir_52 hv16 (Or.inl ⟨_, ty_2_1⟩) ?_
      replace h := g_bd h
      obtain ⟨v17, hv17, h⟩ := h
      refine GW_getI (X := X_X2_readHeir) (pc := 55) f_X2_80 d_X2_readHeir_55 hv17 (Or.inl ty_1_7) ?_
      refine GW_iload_n (X := X_X2_readHeir) (pc := 58) d_X2_readHeir_58 rfl 1 rfl ?_
      replace h := g_bd h
      obtain ⟨M18, hM18, h⟩ := h
      refine GW_iast (X := X_X2_readHeir) (pc := 59) d_X2_readHeir_59 hM18 ?_
      refine GW_aload_n (X := X_X2_readHeir) (pc := 60) d_X2_readHeir_60 rfl 2 rfl ?_
      replace h := g_bd h
      obtain ⟨v19, hv19, h⟩ := h
      refine GW_getR (X := X_X2_readHeir) (pc := 61) f_X2_12 d_X2_readHeir_61 hv19 (Or.inl ⟨_, ty_2_1⟩) ?_
      replace h := g_bd h
      obtain ⟨v20, hv20, h⟩ := h
      refine GW_getR (X := X_X2_readHeir) (pc := 64) f_X2_128 d_X2_readHeir_64 hv20 (Or.inr ⟨_, ty_1_3⟩) ?_
      refine GW_aload_n (X := X_X2_readHeir) (pc := 67) d_X2_readHeir_67 rfl 2 rfl ?_
      replace h := g_bd h
      obtain ⟨v21, hv21, h⟩ := h
      refine GW_getR (X := X_X2_readHeir) (pc := 68) f_X2_12 d_X2_readHeir_68 hv21 (Or.inl ⟨_, ty_2_1⟩) ?_
      replace h := g_bd h
      obtain ⟨v22, hv22, h⟩ := h
      refine GW_getI (X := X_X2_readHeir) (pc := 71) f_X2_80 d_X2_readHeir_71 hv22 (Or.inl ty_1_7) ?_
      refine GW_iload_n (X := X_X2_readHeir) (pc := 74) d_X2_readHeir_74 rfl 0 rfl ?_
      replace h := g_bd h
      obtain ⟨M23, hM23, h⟩ := h
      refine GW_iast (X := X_X2_readHeir) (pc := 75) d_X2_readHeir_75 hM23 ?_
      refine GW_aload_n (X := X_X2_readHeir) (pc := 76) d_X2_readHeir_76 rfl 2 rfl ?_
      replace h := g_bd h
      obtain ⟨v24, hv24, h⟩ := h
      refine GW_getR (X := X_X2_readHeir) (pc := 77) f_X2_12 d_X2_readHeir_77 hv24 (Or.inl ⟨_, ty_2_1⟩) ?_
      refine GW_dup (X := X_X2_readHeir) (pc := 80) d_X2_readHeir_80 rfl ?_
      replace h := g_bd h
      obtain ⟨v25, hv25, h⟩ := h
      refine GW_getI (X := X_X2_readHeir) (pc := 81) f_X2_80 d_X2_readHeir_81 hv25 (Or.inl ty_1_7) ?_
      refine GW_iconst (X := X_X2_readHeir) (pc := 84) (v := 1) d_X2_readHeir_84 (by decide) ?_
      refine GW_iadd (X := X_X2_readHeir) (pc := 85) d_X2_readHeir_85 ?_
      replace h := g_bd h
      obtain ⟨M26, hM26, h⟩ := h
      refine GW_putI (X := X_X2_readHeir) (pc := 86) f_X2_80 d_X2_readHeir_86 hM26 (Or.inl fi_1_7) (Or.inl ty_1_7) ?_
      replace h := Option.some.inj h
      subst h
      exact GW_ret (X := X_X2_readHeir) (pc := 89) d_X2_readHeir_89 rfl trivial
def F_X2_readHeir (l0 : Option Nat) (M : gM) : Option gM := F_X2_readHeir_b0 l0 M
theorem T_X2_readHeir (l0 : Option Nat) (M : gM) (r : gM) (h : F_X2_readHeir l0 M = some r) : g_Met 2 0 0 yX2_readHeir X_X2_readHeir [vr l0] M (none, r) :=
  g_Met_of pn_RX2 rfl (Nat.le_of_ble_eq_true rfl) (fun h => by cases h) (GW_sub [0] rfl (T_X2_readHeir_b0 r l0 M h))
/-! ForgetHeirs.bit(II)I -/
theorem d_X11_bit_0 : decode cX11_bit 0 = .ok (.iload_n 0, 1) := by decide +kernel
theorem d_X11_bit_1 : decode cX11_bit 1 = .ok (.iload_n 1, 1) := by decide +kernel
theorem d_X11_bit_2 : decode cX11_bit 2 = .ok (.ishr, 1) := by decide +kernel
theorem d_X11_bit_3 : decode cX11_bit 3 = .ok (.iconst 1, 1) := by decide +kernel
theorem d_X11_bit_4 : decode cX11_bit 4 = .ok (.iand, 1) := by decide +kernel
theorem d_X11_bit_5 : decode cX11_bit 5 = .ok (.ireturn, 1) := by decide +kernel
abbrev X_X11_bit : gX := (RX11, cX11_bit, 2, (some .int), false)
def F_X11_bit_b0 (M : gM) (l0 : Int32) (l1 : Int32) : Option Int32 :=
  some ((l0 >>> (l1 &&& 31)) &&& (1 : Int32))
theorem T_X11_bit_b0 (M : gM) (r : Int32) (l0 : Int32) (l1 : Int32) (h : F_X11_bit_b0 M l0 l1 = some r) : GW 0 0 0 X_X11_bit 0 [(0, vi l0), (1, vi l1)] [] M (some (vi r), M) := by
  delta F_X11_bit_b0 at h
  refine GW_iload_n (X := X_X11_bit) (pc := 0) d_X11_bit_0 rfl 0 rfl ?_
  refine GW_iload_n (X := X_X11_bit) (pc := 1) d_X11_bit_1 rfl 1 rfl ?_
  refine GW_ishr (X := X_X11_bit) (pc := 2) d_X11_bit_2 ?_
  refine GW_iconst (X := X_X11_bit) (pc := 3) (v := 1) d_X11_bit_3 (by decide) ?_
  refine GW_iand (X := X_X11_bit) (pc := 4) d_X11_bit_4 ?_
  replace h := Option.some.inj h
  subst h
  exact GW_ret (X := X_X11_bit) (pc := 5) d_X11_bit_5 rfl trivial
def F_X11_bit (l0 : Int32) (l1 : Int32) (M : gM) : Option Int32 := F_X11_bit_b0 M l0 l1
theorem T_X11_bit (l0 : Int32) (l1 : Int32) (M : gM) (r : Int32) (h : F_X11_bit l0 l1 M = some r) : g_Met 0 0 0 yX11_bit X_X11_bit [vi l0, vi l1] M (some (vi r), M) :=
  g_Met_of pn_RX11 rfl (Nat.le_of_ble_eq_true rfl) (fun h => by cases h) (GW_sub [0, 1] rfl (T_X11_bit_b0 M r l0 l1 h))
/-! ForgetHeirs$HouseReader.readCousins()V -/
theorem d_X2_readCousins_0 : decode cX2_readCousins 0 = .ok (.aload_n 0, 1) := by decide +kernel
theorem d_X2_readCousins_1 : decode cX2_readCousins 1 = .ok (.getfield 25, 3) := by decide +kernel
theorem d_X2_readCousins_4 : decode cX2_readCousins 4 = .ok (.iconst 0, 1) := by decide +kernel
theorem d_X2_readCousins_5 : decode cX2_readCousins 5 = .ok (.aload_n 0, 1) := by decide +kernel
theorem d_X2_readCousins_6 : decode cX2_readCousins 6 = .ok (.getfield 12, 3) := by decide +kernel
theorem d_X2_readCousins_9 : decode cX2_readCousins 9 = .ok (.getfield 80, 3) := by decide +kernel
theorem d_X2_readCousins_12 : decode cX2_readCousins 12 = .ok (.iconst 1, 1) := by decide +kernel
theorem d_X2_readCousins_13 : decode cX2_readCousins 13 = .ok (.isub, 1) := by decide +kernel
theorem d_X2_readCousins_14 : decode cX2_readCousins 14 = .ok (.invokevirtual 86, 3) := by decide +kernel
theorem d_X2_readCousins_17 : decode cX2_readCousins 17 = .ok (.istore_n 1, 1) := by decide +kernel
theorem d_X2_readCousins_18 : decode cX2_readCousins 18 = .ok (.aload_n 0, 1) := by decide +kernel
theorem d_X2_readCousins_19 : decode cX2_readCousins 19 = .ok (.getfield 25, 3) := by decide +kernel
theorem d_X2_readCousins_22 : decode cX2_readCousins 22 = .ok (.invokevirtual 60, 3) := by decide +kernel
theorem d_X2_readCousins_25 : decode cX2_readCousins 25 = .ok (.istore_n 2, 1) := by decide +kernel
theorem d_X2_readCousins_26 : decode cX2_readCousins 26 = .ok (.aload_n 0, 1) := by decide +kernel
theorem d_X2_readCousins_27 : decode cX2_readCousins 27 = .ok (.getfield 25, 3) := by decide +kernel
theorem d_X2_readCousins_30 : decode cX2_readCousins 30 = .ok (.iconst 0, 1) := by decide +kernel
theorem d_X2_readCousins_31 : decode cX2_readCousins 31 = .ok (.aload_n 0, 1) := by decide +kernel
theorem d_X2_readCousins_32 : decode cX2_readCousins 32 = .ok (.getfield 12, 3) := by decide +kernel
theorem d_X2_readCousins_35 : decode cX2_readCousins 35 = .ok (.getfield 80, 3) := by decide +kernel
theorem d_X2_readCousins_38 : decode cX2_readCousins 38 = .ok (.iconst 1, 1) := by decide +kernel
theorem d_X2_readCousins_39 : decode cX2_readCousins 39 = .ok (.isub, 1) := by decide +kernel
theorem d_X2_readCousins_40 : decode cX2_readCousins 40 = .ok (.invokevirtual 86, 3) := by decide +kernel
theorem d_X2_readCousins_43 : decode cX2_readCousins 43 = .ok (.istore_n 3, 1) := by decide +kernel
theorem d_X2_readCousins_44 : decode cX2_readCousins 44 = .ok (.aload_n 0, 1) := by decide +kernel
theorem d_X2_readCousins_45 : decode cX2_readCousins 45 = .ok (.getfield 25, 3) := by decide +kernel
theorem d_X2_readCousins_48 : decode cX2_readCousins 48 = .ok (.invokevirtual 45, 3) := by decide +kernel
theorem d_X2_readCousins_51 : decode cX2_readCousins 51 = .ok (.ifCond .ne 11, 3) := by decide +kernel
theorem d_X2_readCousins_54 : decode cX2_readCousins 54 = .ok (.iload_n 1, 1) := by decide +kernel
theorem d_X2_readCousins_55 : decode cX2_readCousins 55 = .ok (.ifCond .lt 7, 3) := by decide +kernel
theorem d_X2_readCousins_58 : decode cX2_readCousins 58 = .ok (.iload_n 3, 1) := by decide +kernel
theorem d_X2_readCousins_59 : decode cX2_readCousins 59 = .ok (.ifCond .ge 4, 3) := by decide +kernel
theorem d_X2_readCousins_62 : decode cX2_readCousins 62 = .ok (.return_, 1) := by decide +kernel
theorem d_X2_readCousins_63 : decode cX2_readCousins 63 = .ok (.iload_n 1, 1) := by decide +kernel
theorem d_X2_readCousins_64 : decode cX2_readCousins 64 = .ok (.iload_n 3, 1) := by decide +kernel
theorem d_X2_readCousins_65 : decode cX2_readCousins 65 = .ok (.if_icmp .eq 20, 3) := by decide +kernel
theorem d_X2_readCousins_68 : decode cX2_readCousins 68 = .ok (.aload_n 0, 1) := by decide +kernel
theorem d_X2_readCousins_69 : decode cX2_readCousins 69 = .ok (.getfield 12, 3) := by decide +kernel
theorem d_X2_readCousins_72 : decode cX2_readCousins 72 = .ok (.getfield 131, 3) := by decide +kernel
theorem d_X2_readCousins_75 : decode cX2_readCousins 75 = .ok (.iload_n 1, 1) := by decide +kernel
theorem d_X2_readCousins_76 : decode cX2_readCousins 76 = .ok (.iaload, 1) := by decide +kernel
theorem d_X2_readCousins_77 : decode cX2_readCousins 77 = .ok (.iload_n 3, 1) := by decide +kernel
theorem d_X2_readCousins_78 : decode cX2_readCousins 78 = .ok (.invokestatic 134, 3) := by decide +kernel
theorem d_X2_readCousins_81 : decode cX2_readCousins 81 = .ok (.iconst 1, 1) := by decide +kernel
theorem d_X2_readCousins_82 : decode cX2_readCousins 82 = .ok (.if_icmp .ne 13, 3) := by decide +kernel
theorem d_X2_readCousins_85 : decode cX2_readCousins 85 = .ok (.aload_n 0, 1) := by decide +kernel
theorem d_X2_readCousins_86 : decode cX2_readCousins 86 = .ok (.getfield 25, 3) := by decide +kernel
theorem d_X2_readCousins_89 : decode cX2_readCousins 89 = .ok (.iload_n 2, 1) := by decide +kernel
theorem d_X2_readCousins_90 : decode cX2_readCousins 90 = .ok (.iconst 1, 1) := by decide +kernel
theorem d_X2_readCousins_91 : decode cX2_readCousins 91 = .ok (.invokevirtual 63, 3) := by decide +kernel
theorem d_X2_readCousins_94 : decode cX2_readCousins 94 = .ok (.return_, 1) := by decide +kernel
theorem d_X2_readCousins_95 : decode cX2_readCousins 95 = .ok (.aload_n 0, 1) := by decide +kernel
theorem d_X2_readCousins_96 : decode cX2_readCousins 96 = .ok (.getfield 12, 3) := by decide +kernel
theorem d_X2_readCousins_99 : decode cX2_readCousins 99 = .ok (.getfield 131, 3) := by decide +kernel
theorem d_X2_readCousins_102 : decode cX2_readCousins 102 = .ok (.iload_n 1, 1) := by decide +kernel
theorem d_X2_readCousins_103 : decode cX2_readCousins 103 = .ok (.dup2, 1) := by decide +kernel
theorem d_X2_readCousins_104 : decode cX2_readCousins 104 = .ok (.iaload, 1) := by decide +kernel
theorem d_X2_readCousins_105 : decode cX2_readCousins 105 = .ok (.iconst 1, 1) := by decide +kernel
theorem d_X2_readCousins_106 : decode cX2_readCousins 106 = .ok (.iload_n 3, 1) := by decide +kernel
theorem d_X2_readCousins_107 : decode cX2_readCousins 107 = .ok (.ishl, 1) := by decide +kernel
theorem d_X2_readCousins_108 : decode cX2_readCousins 108 = .ok (.ior, 1) := by decide +kernel
theorem d_X2_readCousins_109 : decode cX2_readCousins 109 = .ok (.iastore, 1) := by decide +kernel
theorem d_X2_readCousins_110 : decode cX2_readCousins 110 = .ok (.aload_n 0, 1) := by decide +kernel
theorem d_X2_readCousins_111 : decode cX2_readCousins 111 = .ok (.getfield 12, 3) := by decide +kernel
theorem d_X2_readCousins_114 : decode cX2_readCousins 114 = .ok (.getfield 131, 3) := by decide +kernel
theorem d_X2_readCousins_117 : decode cX2_readCousins 117 = .ok (.iload_n 3, 1) := by decide +kernel
theorem d_X2_readCousins_118 : decode cX2_readCousins 118 = .ok (.dup2, 1) := by decide +kernel
theorem d_X2_readCousins_119 : decode cX2_readCousins 119 = .ok (.iaload, 1) := by decide +kernel
theorem d_X2_readCousins_120 : decode cX2_readCousins 120 = .ok (.iconst 1, 1) := by decide +kernel
theorem d_X2_readCousins_121 : decode cX2_readCousins 121 = .ok (.iload_n 1, 1) := by decide +kernel
theorem d_X2_readCousins_122 : decode cX2_readCousins 122 = .ok (.ishl, 1) := by decide +kernel
theorem d_X2_readCousins_123 : decode cX2_readCousins 123 = .ok (.ior, 1) := by decide +kernel
theorem d_X2_readCousins_124 : decode cX2_readCousins 124 = .ok (.iastore, 1) := by decide +kernel
theorem d_X2_readCousins_125 : decode cX2_readCousins 125 = .ok (.aload_n 0, 1) := by decide +kernel
theorem d_X2_readCousins_126 : decode cX2_readCousins 126 = .ok (.getfield 12, 3) := by decide +kernel
theorem d_X2_readCousins_129 : decode cX2_readCousins 129 = .ok (.dup, 1) := by decide +kernel
theorem d_X2_readCousins_130 : decode cX2_readCousins 130 = .ok (.getfield 83, 3) := by decide +kernel
theorem d_X2_readCousins_133 : decode cX2_readCousins 133 = .ok (.iconst 1, 1) := by decide +kernel
theorem d_X2_readCousins_134 : decode cX2_readCousins 134 = .ok (.iadd, 1) := by decide +kernel
theorem d_X2_readCousins_135 : decode cX2_readCousins 135 = .ok (.putfield 83, 3) := by decide +kernel
theorem d_X2_readCousins_138 : decode cX2_readCousins 138 = .ok (.return_, 1) := by decide +kernel
abbrev X_X2_readCousins : gX := (RX2, cX2_readCousins, 4, none, false)
def F_X2_readCousins_b85 (l0 : Option Nat) (l2 : Int32) (M : gM) : Option gM :=
  (gR 2 M l0 0).bind fun v1 => (gO 9 M v1).bind fun i2 => (F_X9_blame (some i2) l2 (1 : Int32) M).bind fun M3 => some M3
theorem T_X2_readCousins_b85 (r : gM) (l0 : Option Nat) (l2 : Int32) (M : gM) (h : F_X2_readCousins_b85 l0 l2 M = some r) : GW 2 0 0 X_X2_readCousins 85 [(0, vr l0), (2, vi l2)] [] M (none, r) := by
  delta F_X2_readCousins_b85 at h
  refine GW_aload_n (X := X_X2_readCousins) (pc := 85) d_X2_readCousins_85 rfl 0 rfl ?_
  replace h := g_bd h
  obtain ⟨v1, hv1, h⟩ := h
  refine GW_getR (X := X_X2_readCousins) (pc := 86) f_X2_25 d_X2_readCousins_86 hv1 (Or.inl ⟨_, ty_2_0⟩) ?_
  refine GW_iload_n (X := X_X2_readCousins) (pc := 89) d_X2_readCousins_89 rfl 1 rfl ?_
  refine GW_iconst (X := X_X2_readCousins) (pc := 90) (v := 1) d_X2_readCousins_90 (by decide) ?_
  replace h := g_bd h
  obtain ⟨i2, hi2, h⟩ := h
  obtain ⟨rfl, ki2⟩ := g_gO hi2
  replace h := g_bd h
  obtain ⟨M3, hM3, h⟩ := h
  refine GW_callV (X := X_X2_readCousins) (pc := 91) (bc0 := 0) (bs0 := 0) (r := none) (M2 := M3) (c0 := 9) (T_X9_blame (some i2) l2 (1 : Int32) M M3 hM3) (Nat.le_of_ble_eq_true rfl) (Nat.le_of_ble_eq_true rfl) rfl g_cok9 ki2 yc_X9_blame ⟨m_601, m_602, m_603, m_123, m_604⟩ d_X2_readCousins_91 rfl (st := []) rfl (Nat.le_of_ble_eq_true rfl) (Nat.le_of_ble_eq_true rfl) (Nat.le_of_ble_eq_true rfl) (st2 := []) rfl ?_
  replace h := Option.some.inj h
  subst h
  exact GW_ret (X := X_X2_readCousins) (pc := 94) d_X2_readCousins_94 rfl trivial
def F_X2_readCousins_b0 (l0 : Option Nat) (M : gM) : Option gM :=
  (gR 2 M l0 0).bind fun v1 => (gR 2 M l0 1).bind fun v2 => (gI 1 M v2 7).bind fun v3 => (gO 9 M v1).bind fun i4 => (F_X9_number (some i4) (0 : Int32) (v3 - (1 : Int32)) M).bind fun (v5, M6) => (gR 2 M6 l0 0).bind fun v7 => (gO 9 M6 v7).bind fun i8 => (F_X9_place (some i8) M6).bind fun v9 => (gR 2 M6 l0 0).bind fun v10 => (gR 2 M6 l0 1).bind fun v11 => (gI 1 M6 v11 7).bind fun v12 => (gO 9 M6 v10).bind fun i13 => (F_X9_number (some i13) (0 : Int32) (v12 - (1 : Int32)) M6).bind fun (v14, M15) => (gR 2 M15 l0 0).bind fun v16 => (gO 9 M15 v16).bind fun i17 => (F_X9_isFaulty (some i17) M15).bind fun v18 => if v18 = 0 then (if v5 < 0 then (some M15) else (if 0 ≤ v14 then (if v5 = v14 then (F_X2_readCousins_b85 l0 v9 M15) else ((gR 2 M15 l0 1).bind fun v19 => (gR 1 M15 v19 4).bind fun v20 => (aI 20 M15 v20 v5).bind fun v21 => (F_X11_bit v21 v14 M15).bind fun v22 => if v22 = (1 : Int32) then (F_X2_readCousins_b85 l0 v9 M15) else ((gR 2 M15 l0 1).bind fun v23 => (gR 1 M15 v23 4).bind fun v24 => (aI 20 M15 v24 v5).bind fun v25 => (sI M15 v24 v5 (v25 ||| ((1 : Int32) <<< (v14 &&& 31)))).bind fun M26 => (gR 2 M26 l0 1).bind fun v27 => (gR 1 M26 v27 4).bind fun v28 => (aI 20 M26 v28 v14).bind fun v29 => (sI M26 v28 v14 (v29 ||| ((1 : Int32) <<< (v5 &&& 31)))).bind fun M30 => (gR 2 M30 l0 1).bind fun v31 => (gI 1 M30 v31 8).bind fun v32 => (pI 1 M30 v31 8 (v32 + (1 : Int32))).bind fun M33 => some M33))) else (some M15))) else (some M15)
set_option maxHeartbeats 4000000 in
theorem T_X2_readCousins_b0 (r : gM) (l0 : Option Nat) (M : gM) (h : F_X2_readCousins_b0 l0 M = some r) : GW 2 0 0 X_X2_readCousins 0 [(0, vr l0)] [] M (none, r) := by
  delta F_X2_readCousins_b0 at h
  refine GW_aload_n (X := X_X2_readCousins) (pc := 0) d_X2_readCousins_0 rfl 0 rfl ?_
  replace h := g_bd h
  obtain ⟨v1, hv1, h⟩ := h
  refine GW_getR (X := X_X2_readCousins) (pc := 1) f_X2_25 d_X2_readCousins_1 hv1 (Or.inl ⟨_, ty_2_0⟩) ?_
  refine GW_iconst (X := X_X2_readCousins) (pc := 4) (v := 0) d_X2_readCousins_4 (by decide) ?_
  refine GW_aload_n (X := X_X2_readCousins) (pc := 5) d_X2_readCousins_5 rfl 0 rfl ?_
  replace h := g_bd h
  obtain ⟨v2, hv2, h⟩ := h
  refine GW_getR (X := X_X2_readCousins) (pc := 6) f_X2_12 d_X2_readCousins_6 hv2 (Or.inl ⟨_, ty_2_1⟩) ?_
  replace h := g_bd h
  obtain ⟨v3, hv3, h⟩ := h
  refine GW_getI (X := X_X2_readCousins) (pc := 9) f_X2_80 d_X2_readCousins_9 hv3 (Or.inl ty_1_7) ?_
  refine GW_iconst (X := X_X2_readCousins) (pc := 12) (v := 1) d_X2_readCousins_12 (by decide) ?_
  refine GW_isub (X := X_X2_readCousins) (pc := 13) d_X2_readCousins_13 ?_
  replace h := g_bd h
  obtain ⟨i4, hi4, h⟩ := h
  obtain ⟨rfl, ki4⟩ := g_gO hi4
  replace h := g_bd h
  obtain ⟨⟨v5, M6⟩, hv5, h⟩ := h
  dsimp only at h
  refine GW_callV (X := X_X2_readCousins) (pc := 14) (bc0 := 0) (bs0 := 0) (r := some (vi v5)) (M2 := M6) (c0 := 9) (T_X9_number (some i4) (0 : Int32) (v3 - (1 : Int32)) M (v5, M6) hv5) (Nat.le_of_ble_eq_true rfl) (Nat.le_of_ble_eq_true rfl) rfl g_cok9 ki4 yc_X9_number ⟨m_617, m_618, m_619, m_123, m_620⟩ d_X2_readCousins_14 rfl (st := []) rfl (Nat.le_of_ble_eq_true rfl) (Nat.le_of_ble_eq_true rfl) (Nat.le_of_ble_eq_true rfl) (st2 := [vi v5]) rfl ?_
  refine GW_istore_n (X := X_X2_readCousins) (pc := 17) d_X2_readCousins_17 rfl (Nat.le_of_ble_eq_true rfl) (lv2 := [(1, vi v5), (0, vr l0)]) rfl ?_
  refine GW_aload_n (X := X_X2_readCousins) (pc := 18) d_X2_readCousins_18 rfl 1 rfl ?_
  replace h := g_bd h
  obtain ⟨v7, hv7, h⟩ := h
  refine GW_getR (X := X_X2_readCousins) (pc := 19) f_X2_25 d_X2_readCousins_19 hv7 (Or.inl ⟨_, ty_2_0⟩) ?_
  replace h := g_bd h
  obtain ⟨i8, hi8, h⟩ := h
  obtain ⟨rfl, ki8⟩ := g_gO hi8
  replace h := g_bd h
  obtain ⟨v9, hv9, h⟩ := h
  refine GW_callV (X := X_X2_readCousins) (pc := 22) (bc0 := 0) (bs0 := 0) (r := some (vi v9)) (M2 := M6) (c0 := 9) (T_X9_place (some i8) M6 v9 hv9) (Nat.le_of_ble_eq_true rfl) (Nat.le_of_ble_eq_true rfl) rfl g_cok9 ki8 yc_X9_place ⟨m_597, m_598, m_599, m_123, m_600⟩ d_X2_readCousins_22 rfl (st := []) rfl (Nat.le_of_ble_eq_true rfl) (Nat.le_of_ble_eq_true rfl) (Nat.le_of_ble_eq_true rfl) (st2 := [vi v9]) rfl ?_
  refine GW_istore_n (X := X_X2_readCousins) (pc := 25) d_X2_readCousins_25 rfl (Nat.le_of_ble_eq_true rfl) (lv2 := [(2, vi v9), (1, vi v5), (0, vr l0)]) rfl ?_
  refine GW_aload_n (X := X_X2_readCousins) (pc := 26) d_X2_readCousins_26 rfl 2 rfl ?_
  replace h := g_bd h
  obtain ⟨v10, hv10, h⟩ := h
  refine GW_getR (X := X_X2_readCousins) (pc := 27) f_X2_25 d_X2_readCousins_27 hv10 (Or.inl ⟨_, ty_2_0⟩) ?_
  refine GW_iconst (X := X_X2_readCousins) (pc := 30) (v := 0) d_X2_readCousins_30 (by decide) ?_
  refine GW_aload_n (X := X_X2_readCousins) (pc := 31) d_X2_readCousins_31 rfl 2 rfl ?_
  replace h := g_bd h
  obtain ⟨v11, hv11, h⟩ := h
  refine GW_getR (X := X_X2_readCousins) (pc := 32) f_X2_12 d_X2_readCousins_32 hv11 (Or.inl ⟨_, ty_2_1⟩) ?_
  replace h := g_bd h
  obtain ⟨v12, hv12, h⟩ := h
  refine GW_getI (X := X_X2_readCousins) (pc := 35) f_X2_80 d_X2_readCousins_35 hv12 (Or.inl ty_1_7) ?_
  refine GW_iconst (X := X_X2_readCousins) (pc := 38) (v := 1) d_X2_readCousins_38 (by decide) ?_
  refine GW_isub (X := X_X2_readCousins) (pc := 39) d_X2_readCousins_39 ?_
  replace h := g_bd h
  obtain ⟨i13, hi13, h⟩ := h
  obtain ⟨rfl, ki13⟩ := g_gO hi13
  replace h := g_bd h
  obtain ⟨⟨v14, M15⟩, hv14, h⟩ := h
  dsimp only at h
  refine GW_callV (X := X_X2_readCousins) (pc := 40) (bc0 := 0) (bs0 := 0) (r := some (vi v14)) (M2 := M15) (c0 := 9) (T_X9_number (some i13) (0 : Int32) (v12 - (1 : Int32)) M6 (v14, M15) hv14) (Nat.le_of_ble_eq_true rfl) (Nat.le_of_ble_eq_true rfl) rfl g_cok9 ki13 yc_X9_number ⟨m_617, m_618, m_619, m_123, m_620⟩ d_X2_readCousins_40 rfl (st := []) rfl (Nat.le_of_ble_eq_true rfl) (Nat.le_of_ble_eq_true rfl) (Nat.le_of_ble_eq_true rfl) (st2 := [vi v14]) rfl ?_
  refine GW_istore_n (X := X_X2_readCousins) (pc := 43) d_X2_readCousins_43 rfl (Nat.le_of_ble_eq_true rfl) (lv2 := [(3, vi v14), (2, vi v9), (1, vi v5), (0, vr l0)]) rfl ?_
  refine GW_aload_n (X := X_X2_readCousins) (pc := 44) d_X2_readCousins_44 rfl 3 rfl ?_
  replace h := g_bd h
  obtain ⟨v16, hv16, h⟩ := h
  refine GW_getR (X := X_X2_readCousins) (pc := 45) f_X2_25 d_X2_readCousins_45 hv16 (Or.inl ⟨_, ty_2_0⟩) ?_
  replace h := g_bd h
  obtain ⟨i17, hi17, h⟩ := h
  obtain ⟨rfl, ki17⟩ := g_gO hi17
  replace h := g_bd h
  obtain ⟨v18, hv18, h⟩ := h
  refine GW_callV (X := X_X2_readCousins) (pc := 48) (bc0 := 0) (bs0 := 0) (r := some (vi v18)) (M2 := M15) (c0 := 9) (T_X9_isFaulty (some i17) M15 v18 hv18) (Nat.le_of_ble_eq_true rfl) (Nat.le_of_ble_eq_true rfl) rfl g_cok9 ki17 yc_X9_isFaulty ⟨m_633, m_622, m_623, m_123, m_624⟩ d_X2_readCousins_48 rfl (st := []) rfl (Nat.le_of_ble_eq_true rfl) (Nat.le_of_ble_eq_true rfl) (Nat.le_of_ble_eq_true rfl) (st2 := [vi v18]) rfl ?_
  refine GW_if_ne (X := X_X2_readCousins) (pc := 51) 62 d_X2_readCousins_51 (by decide) (fun c => ?_) (fun c => ?_)
  · replace h := g_ie c h
    replace h := Option.some.inj h
    subst h
    exact GW_ret (X := X_X2_readCousins) (pc := 62) d_X2_readCousins_62 rfl trivial
  · replace h := g_ip c h
    refine GW_iload_n (X := X_X2_readCousins) (pc := 54) d_X2_readCousins_54 rfl 2 rfl ?_
    refine GW_if_lt (X := X_X2_readCousins) (pc := 55) 62 d_X2_readCousins_55 (by decide) (fun c => ?_) (fun c => ?_)
    · replace h := g_ip c h
      replace h := Option.some.inj h
      subst h
      exact GW_ret (X := X_X2_readCousins) (pc := 62) d_X2_readCousins_62 rfl trivial
    · replace h := g_ie c h
      refine GW_iload_n (X := X_X2_readCousins) (pc := 58) d_X2_readCousins_58 rfl 0 rfl ?_
      refine GW_if_ge (X := X_X2_readCousins) (pc := 59) 63 d_X2_readCousins_59 (by decide) (fun c => ?_) (fun c => ?_)
      · replace h := g_ip c h
        refine GW_iload_n (X := X_X2_readCousins) (pc := 63) d_X2_readCousins_63 rfl 2 rfl ?_
        refine GW_iload_n (X := X_X2_readCousins) (pc := 64) d_X2_readCousins_64 rfl 0 rfl ?_
        refine GW_icmp_eq (X := X_X2_readCousins) (pc := 65) 85 d_X2_readCousins_65 (by decide) (fun c => ?_) (fun c => ?_)
        · replace h := g_ip c h
          refine GW_sub [3, 1] rfl ?_
          exact T_X2_readCousins_b85 r l0 v9 M15 h
        · replace h := g_ie c h
          refine GW_aload_n (X := X_X2_readCousins) (pc := 68) d_X2_readCousins_68 rfl 3 rfl ?_
          replace h := g_bd h
          obtain ⟨v19, hv19, h⟩ := h
          refine GW_getR (X := X_X2_readCousins) (pc := 69) f_X2_12 d_X2_readCousins_69 hv19 (Or.inl ⟨_, ty_2_1⟩) ?_
          replace h := g_bd h
          obtain ⟨v20, hv20, h⟩ := h
          refine GW_getR (X := X_X2_readCousins) (pc := 72) f_X2_131 d_X2_readCousins_72 hv20 (Or.inr ⟨_, ty_1_4⟩) ?_
          refine GW_iload_n (X := X_X2_readCousins) (pc := 75) d_X2_readCousins_75 rfl 2 rfl ?_
          replace h := g_bd h
          obtain ⟨v21, hv21, h⟩ := h
          refine GW_iald (X := X_X2_readCousins) (pc := 76) d_X2_readCousins_76 hv21 ?_
          refine GW_iload_n (X := X_X2_readCousins) (pc := 77) d_X2_readCousins_77 rfl 0 rfl ?_
          replace h := g_bd h
          obtain ⟨v22, hv22, h⟩ := h
          refine GW_callSN (X := X_X2_readCousins) (pc := 78) (bc0 := 0) (bs0 := 0) (r := some (vi v22)) (M2 := M15) (host := RX11) (T_X11_bit v21 v14 M15 v22 hv22) (Nat.le_of_ble_eq_true rfl) (Nat.le_of_ble_eq_true rfl) yc_X11_bit (List.mem_of_getElem? (i := 11) rfl) ⟨m_646, m_116, m_647⟩ d_X2_readCousins_78 rfl (st := []) rfl (Nat.le_of_ble_eq_true rfl) (Nat.le_of_ble_eq_true rfl) (Nat.le_of_ble_eq_true rfl) (st2 := [vi v22]) rfl ?_
          refine GW_iconst (X := X_X2_readCousins) (pc := 81) (v := 1) d_X2_readCousins_81 (by decide) ?_
          refine GW_icmp_ne (X := X_X2_readCousins) (pc := 82) 95 d_X2_readCousins_82 (by decide) (fun c => ?_) (fun c => ?_)
          · replace h := g_ie c h
            refine GW_aload_n (X := X_X2_readCousins) (pc := 95) d_X2_readCousins_95 rfl 3 rfl ?_
            replace h := g_bd h
            obtain ⟨v23, hv23, h⟩ := h
            refine GW_getR (X := X_X2_readCousins) (pc := 96) f_X2_12 d_X2_readCousins_96 hv23 (Or.inl ⟨_, ty_2_1⟩) ?_
            replace h := g_bd h
            obtain ⟨v24, hv24, h⟩ := h
            refine GW_getR (X := X_X2_readCousins) (pc := 99) f_X2_131 d_X2_readCousins_99 hv24 (Or.inr ⟨_, ty_1_4⟩) ?_
            refine GW_iload_n (X := X_X2_readCousins) (pc := 102) d_X2_readCousins_102 rfl 2 rfl ?_
            refine GW_dup2 (X := X_X2_readCousins) (pc := 103) d_X2_readCousins_103 rfl rfl ?_
            replace h := g_bd h
            obtain ⟨v25, hv25, h⟩ := h
            refine GW_iald (X := X_X2_readCousins) (pc := 104) d_X2_readCousins_104 hv25 ?_
            refine GW_iconst (X := X_X2_readCousins) (pc := 105) (v := 1) d_X2_readCousins_105 (by decide) ?_
            refine GW_iload_n (X := X_X2_readCousins) (pc := 106) d_X2_readCousins_106 rfl 0 rfl ?_
            refine GW_ishl (X := X_X2_readCousins) (pc := 107) d_X2_readCousins_107 ?_
            refine GW_ior (X := X_X2_readCousins) (pc := 108) d_X2_readCousins_108 ?_
            replace h := g_bd h
            obtain ⟨M26, hM26, h⟩ := h
            refine GW_iast (X := X_X2_readCousins) (pc := 109) d_X2_readCousins_109 hM26 ?_
            refine GW_aload_n (X := X_X2_readCousins) (pc := 110) d_X2_readCousins_110 rfl 3 rfl ?_
            replace h := g_bd h
            obtain ⟨v27, hv27, h⟩ := h
            refine GW_getR (X := X_X2_readCousins) (pc := 111) f_X2_12 d_X2_readCousins_111 hv27 (Or.inl ⟨_, ty_2_1⟩) ?_
            replace h := g_bd h
            obtain ⟨v28, hv28, h⟩ := h
            refine GW_getR (X := X_X2_readCousins) (pc := 114) f_X2_131 d_X2_readCousins_114 hv28 (Or.inr ⟨_, ty_1_4⟩) ?_
            refine GW_iload_n (X := X_X2_readCousins) (pc := 117) d_X2_readCousins_117 rfl 0 rfl ?_
            refine GW_dup2 (X := X_X2_readCousins) (pc := 118) d_X2_readCousins_118 rfl rfl ?_
            replace h := g_bd h
            obtain ⟨v29, hv29, h⟩ := h
            refine GW_iald (X := X_X2_readCousins) (pc := 119) d_X2_readCousins_119 hv29 ?_
            refine GW_iconst (X := X_X2_readCousins) (pc := 120) (v := 1) d_X2_readCousins_120 (by decide) ?_
            refine GW_iload_n (X := X_X2_readCousins) (pc := 121) d_X2_readCousins_121 rfl 2 rfl ?_
            refine GW_ishl (X := X_X2_readCousins) (pc := 122) d_X2_readCousins_122 ?_
            refine GW_ior (X := X_X2_readCousins) (pc := 123) d_X2_readCousins_123 ?_
            replace h := g_bd h
            obtain ⟨M30, hM30, h⟩ := h
            refine GW_iast (X := X_X2_readCousins) (pc := 124) d_X2_readCousins_124 hM30 ?_
            refine GW_aload_n (X := X_X2_readCousins) (pc := 125) d_X2_readCousins_125 rfl 3 rfl ?_
            replace h := g_bd h
            obtain ⟨v31, hv31, h⟩ := h
            refine GW_getR (X := X_X2_readCousins) (pc := 126) f_X2_12 d_X2_readCousins_126 hv31 (Or.inl ⟨_, ty_2_1⟩) ?_
            refine GW_dup (X := X_X2_readCousins) (pc := 129) d_X2_readCousins_129 rfl ?_
            replace h := g_bd h
            obtain ⟨v32, hv32, h⟩ := h
            refine GW_getI (X := X_X2_readCousins) (pc := 130) f_X2_83 d_X2_readCousins_130 hv32 (Or.inl ty_1_8) ?_
            refine GW_iconst (X := X_X2_readCousins) (pc := 133) (v := 1) d_X2_readCousins_133 (by decide) ?_
            refine GW_iadd (X := X_X2_readCousins) (pc := 134) d_X2_readCousins_134 ?_
            replace h := g_bd h
            obtain ⟨M33, hM33, h⟩ := h
            refine GW_putI (X := X_X2_readCousins) (pc := 135) f_X2_83 d_X2_readCousins_135 hM33 (Or.inl fi_1_8) (Or.inl ty_1_8) ?_
            replace h := Option.some.inj h
            subst h
            exact GW_ret (X := X_X2_readCousins) (pc := 138) d_X2_readCousins_138 rfl trivial
          · replace h := g_ip c h
            refine GW_sub [3, 1] rfl ?_
            exact T_X2_readCousins_b85 r l0 v9 M15 h
      · replace h := g_ie c h
        replace h := Option.some.inj h
        subst h
        exact GW_ret (X := X_X2_readCousins) (pc := 62) d_X2_readCousins_62 rfl trivial
def F_X2_readCousins (l0 : Option Nat) (M : gM) : Option gM := F_X2_readCousins_b0 l0 M
theorem T_X2_readCousins (l0 : Option Nat) (M : gM) (r : gM) (h : F_X2_readCousins l0 M = some r) : g_Met 2 0 0 yX2_readCousins X_X2_readCousins [vr l0] M (none, r) :=
  g_Met_of pn_RX2 rfl (Nat.le_of_ble_eq_true rfl) (fun h => by cases h) (GW_sub [0] rfl (T_X2_readCousins_b0 r l0 M h))
/-! ForgetHeirs$State.learn(IIII)V -/
theorem d_X8_learn_0 : decode cX8_learn 0 = .ok (.aload_n 0, 1) := by decide +kernel
theorem d_X8_learn_1 : decode cX8_learn 1 = .ok (.getfield 9, 3) := by decide +kernel
theorem d_X8_learn_4 : decode cX8_learn 4 = .ok (.iload_n 1, 1) := by decide +kernel
theorem d_X8_learn_5 : decode cX8_learn 5 = .ok (.bipush 7, 2) := by decide +kernel
theorem d_X8_learn_7 : decode cX8_learn 7 = .ok (.imul, 1) := by decide +kernel
theorem d_X8_learn_8 : decode cX8_learn 8 = .ok (.iload_n 2, 1) := by decide +kernel
theorem d_X8_learn_9 : decode cX8_learn 9 = .ok (.iadd, 1) := by decide +kernel
theorem d_X8_learn_10 : decode cX8_learn 10 = .ok (.iload_n 3, 1) := by decide +kernel
theorem d_X8_learn_11 : decode cX8_learn 11 = .ok (.iastore, 1) := by decide +kernel
theorem d_X8_learn_12 : decode cX8_learn 12 = .ok (.aload_n 0, 1) := by decide +kernel
theorem d_X8_learn_13 : decode cX8_learn 13 = .ok (.getfield 15, 3) := by decide +kernel
theorem d_X8_learn_16 : decode cX8_learn 16 = .ok (.iload_n 1, 1) := by decide +kernel
theorem d_X8_learn_17 : decode cX8_learn 17 = .ok (.bipush 7, 2) := by decide +kernel
theorem d_X8_learn_19 : decode cX8_learn 19 = .ok (.imul, 1) := by decide +kernel
theorem d_X8_learn_20 : decode cX8_learn 20 = .ok (.iload_n 2, 1) := by decide +kernel
theorem d_X8_learn_21 : decode cX8_learn 21 = .ok (.iadd, 1) := by decide +kernel
theorem d_X8_learn_22 : decode cX8_learn 22 = .ok (.iload 4, 2) := by decide +kernel
theorem d_X8_learn_24 : decode cX8_learn 24 = .ok (.iastore, 1) := by decide +kernel
theorem d_X8_learn_25 : decode cX8_learn 25 = .ok (.return_, 1) := by decide +kernel
abbrev X_X8_learn : gX := (RX8, cX8_learn, 5, none, false)
def F_X8_learn_b0 (l0 : Option Nat) (l1 : Int32) (l2 : Int32) (l3 : Int32) (l4 : Int32) (M : gM) : Option gM :=
  (gR 8 M l0 0).bind fun v1 => (sI M v1 ((l1 * (7 : Int32)) + l2) l3).bind fun M2 => (gR 8 M2 l0 1).bind fun v3 => (sI M2 v3 ((l1 * (7 : Int32)) + l2) l4).bind fun M4 => some M4
theorem T_X8_learn_b0 (r : gM) (l0 : Option Nat) (l1 : Int32) (l2 : Int32) (l3 : Int32) (l4 : Int32) (M : gM) (h : F_X8_learn_b0 l0 l1 l2 l3 l4 M = some r) : GW 0 0 0 X_X8_learn 0 [(0, vr l0), (1, vi l1), (2, vi l2), (3, vi l3), (4, vi l4)] [] M (none, r) := by
  delta F_X8_learn_b0 at h
  refine GW_aload_n (X := X_X8_learn) (pc := 0) d_X8_learn_0 rfl 0 rfl ?_
  replace h := g_bd h
  obtain ⟨v1, hv1, h⟩ := h
  refine GW_getR (X := X_X8_learn) (pc := 1) f_X8_9 d_X8_learn_1 hv1 (Or.inr ⟨_, ty_8_0⟩) ?_
  refine GW_iload_n (X := X_X8_learn) (pc := 4) d_X8_learn_4 rfl 1 rfl ?_
  refine GW_bipush (X := X_X8_learn) (pc := 5) (v := 7) d_X8_learn_5 (by decide) ?_
  refine GW_imul (X := X_X8_learn) (pc := 7) d_X8_learn_7 ?_
  refine GW_iload_n (X := X_X8_learn) (pc := 8) d_X8_learn_8 rfl 2 rfl ?_
  refine GW_iadd (X := X_X8_learn) (pc := 9) d_X8_learn_9 ?_
  refine GW_iload_n (X := X_X8_learn) (pc := 10) d_X8_learn_10 rfl 3 rfl ?_
  replace h := g_bd h
  obtain ⟨M2, hM2, h⟩ := h
  refine GW_iast (X := X_X8_learn) (pc := 11) d_X8_learn_11 hM2 ?_
  refine GW_aload_n (X := X_X8_learn) (pc := 12) d_X8_learn_12 rfl 0 rfl ?_
  replace h := g_bd h
  obtain ⟨v3, hv3, h⟩ := h
  refine GW_getR (X := X_X8_learn) (pc := 13) f_X8_15 d_X8_learn_13 hv3 (Or.inr ⟨_, ty_8_1⟩) ?_
  refine GW_iload_n (X := X_X8_learn) (pc := 16) d_X8_learn_16 rfl 1 rfl ?_
  refine GW_bipush (X := X_X8_learn) (pc := 17) (v := 7) d_X8_learn_17 (by decide) ?_
  refine GW_imul (X := X_X8_learn) (pc := 19) d_X8_learn_19 ?_
  refine GW_iload_n (X := X_X8_learn) (pc := 20) d_X8_learn_20 rfl 2 rfl ?_
  refine GW_iadd (X := X_X8_learn) (pc := 21) d_X8_learn_21 ?_
  refine GW_iload (X := X_X8_learn) (pc := 22) d_X8_learn_22 4 rfl ?_
  replace h := g_bd h
  obtain ⟨M4, hM4, h⟩ := h
  refine GW_iast (X := X_X8_learn) (pc := 24) d_X8_learn_24 hM4 ?_
  replace h := Option.some.inj h
  subst h
  exact GW_ret (X := X_X8_learn) (pc := 25) d_X8_learn_25 rfl trivial
def F_X8_learn (l0 : Option Nat) (l1 : Int32) (l2 : Int32) (l3 : Int32) (l4 : Int32) (M : gM) : Option gM := F_X8_learn_b0 l0 l1 l2 l3 l4 M
theorem T_X8_learn (l0 : Option Nat) (l1 : Int32) (l2 : Int32) (l3 : Int32) (l4 : Int32) (M : gM) (r : gM) (h : F_X8_learn l0 l1 l2 l3 l4 M = some r) : g_Met 0 0 0 yX8_learn X_X8_learn [vr l0, vi l1, vi l2, vi l3, vi l4] M (none, r) :=
  g_Met_of pn_RX8 rfl (Nat.le_of_ble_eq_true rfl) (fun h => by cases h) (GW_sub [0, 1, 2, 3, 4] rfl (T_X8_learn_b0 r l0 l1 l2 l3 l4 M h))
/-! ForgetHeirs$HouseReader.readKnows()V -/
theorem d_X2_readKnows_0 : decode cX2_readKnows 0 = .ok (.aload_n 0, 1) := by decide +kernel
theorem d_X2_readKnows_1 : decode cX2_readKnows 1 = .ok (.getfield 25, 3) := by decide +kernel
theorem d_X2_readKnows_4 : decode cX2_readKnows 4 = .ok (.iconst 0, 1) := by decide +kernel
theorem d_X2_readKnows_5 : decode cX2_readKnows 5 = .ok (.aload_n 0, 1) := by decide +kernel
theorem d_X2_readKnows_6 : decode cX2_readKnows 6 = .ok (.getfield 12, 3) := by decide +kernel
theorem d_X2_readKnows_9 : decode cX2_readKnows 9 = .ok (.getfield 80, 3) := by decide +kernel
theorem d_X2_readKnows_12 : decode cX2_readKnows 12 = .ok (.iconst 1, 1) := by decide +kernel
theorem d_X2_readKnows_13 : decode cX2_readKnows 13 = .ok (.isub, 1) := by decide +kernel
theorem d_X2_readKnows_14 : decode cX2_readKnows 14 = .ok (.invokevirtual 86, 3) := by decide +kernel
theorem d_X2_readKnows_17 : decode cX2_readKnows 17 = .ok (.istore_n 1, 1) := by decide +kernel
theorem d_X2_readKnows_18 : decode cX2_readKnows 18 = .ok (.aload_n 0, 1) := by decide +kernel
theorem d_X2_readKnows_19 : decode cX2_readKnows 19 = .ok (.getfield 25, 3) := by decide +kernel
theorem d_X2_readKnows_22 : decode cX2_readKnows 22 = .ok (.iconst 0, 1) := by decide +kernel
theorem d_X2_readKnows_23 : decode cX2_readKnows 23 = .ok (.aload_n 0, 1) := by decide +kernel
theorem d_X2_readKnows_24 : decode cX2_readKnows 24 = .ok (.getfield 12, 3) := by decide +kernel
theorem d_X2_readKnows_27 : decode cX2_readKnows 27 = .ok (.getfield 76, 3) := by decide +kernel
theorem d_X2_readKnows_30 : decode cX2_readKnows 30 = .ok (.iconst 1, 1) := by decide +kernel
theorem d_X2_readKnows_31 : decode cX2_readKnows 31 = .ok (.isub, 1) := by decide +kernel
theorem d_X2_readKnows_32 : decode cX2_readKnows 32 = .ok (.invokevirtual 86, 3) := by decide +kernel
theorem d_X2_readKnows_35 : decode cX2_readKnows 35 = .ok (.istore_n 2, 1) := by decide +kernel
theorem d_X2_readKnows_36 : decode cX2_readKnows 36 = .ok (.aload_n 0, 1) := by decide +kernel
theorem d_X2_readKnows_37 : decode cX2_readKnows 37 = .ok (.getfield 25, 3) := by decide +kernel
theorem d_X2_readKnows_40 : decode cX2_readKnows 40 = .ok (.iconst 0, 1) := by decide +kernel
theorem d_X2_readKnows_41 : decode cX2_readKnows 41 = .ok (.bipush 9, 2) := by decide +kernel
theorem d_X2_readKnows_43 : decode cX2_readKnows 43 = .ok (.invokevirtual 86, 3) := by decide +kernel
theorem d_X2_readKnows_46 : decode cX2_readKnows 46 = .ok (.istore_n 3, 1) := by decide +kernel
theorem d_X2_readKnows_47 : decode cX2_readKnows 47 = .ok (.aload_n 0, 1) := by decide +kernel
theorem d_X2_readKnows_48 : decode cX2_readKnows 48 = .ok (.getfield 25, 3) := by decide +kernel
theorem d_X2_readKnows_51 : decode cX2_readKnows 51 = .ok (.iconst 1, 1) := by decide +kernel
theorem d_X2_readKnows_52 : decode cX2_readKnows 52 = .ok (.bipush 99, 2) := by decide +kernel
theorem d_X2_readKnows_54 : decode cX2_readKnows 54 = .ok (.invokevirtual 86, 3) := by decide +kernel
theorem d_X2_readKnows_57 : decode cX2_readKnows 57 = .ok (.istore 4, 2) := by decide +kernel
theorem d_X2_readKnows_59 : decode cX2_readKnows 59 = .ok (.aload_n 0, 1) := by decide +kernel
theorem d_X2_readKnows_60 : decode cX2_readKnows 60 = .ok (.getfield 25, 3) := by decide +kernel
theorem d_X2_readKnows_63 : decode cX2_readKnows 63 = .ok (.invokevirtual 45, 3) := by decide +kernel
theorem d_X2_readKnows_66 : decode cX2_readKnows 66 = .ok (.ifCond .ne 23, 3) := by decide +kernel
theorem d_X2_readKnows_69 : decode cX2_readKnows 69 = .ok (.iload_n 1, 1) := by decide +kernel
theorem d_X2_readKnows_70 : decode cX2_readKnows 70 = .ok (.ifCond .lt 19, 3) := by decide +kernel
theorem d_X2_readKnows_73 : decode cX2_readKnows 73 = .ok (.iload_n 2, 1) := by decide +kernel
theorem d_X2_readKnows_74 : decode cX2_readKnows 74 = .ok (.ifCond .lt 15, 3) := by decide +kernel
theorem d_X2_readKnows_77 : decode cX2_readKnows 77 = .ok (.aload_n 0, 1) := by decide +kernel
theorem d_X2_readKnows_78 : decode cX2_readKnows 78 = .ok (.getfield 21, 3) := by decide +kernel
theorem d_X2_readKnows_81 : decode cX2_readKnows 81 = .ok (.iload_n 1, 1) := by decide +kernel
theorem d_X2_readKnows_82 : decode cX2_readKnows 82 = .ok (.iload_n 2, 1) := by decide +kernel
theorem d_X2_readKnows_83 : decode cX2_readKnows 83 = .ok (.iload_n 3, 1) := by decide +kernel
theorem d_X2_readKnows_84 : decode cX2_readKnows 84 = .ok (.iload 4, 2) := by decide +kernel
theorem d_X2_readKnows_86 : decode cX2_readKnows 86 = .ok (.invokevirtual 137, 3) := by decide +kernel
theorem d_X2_readKnows_89 : decode cX2_readKnows 89 = .ok (.return_, 1) := by decide +kernel
abbrev X_X2_readKnows : gX := (RX2, cX2_readKnows, 5, none, false)
def F_X2_readKnows_b0 (l0 : Option Nat) (M : gM) : Option gM :=
  (gR 2 M l0 0).bind fun v1 => (gR 2 M l0 1).bind fun v2 => (gI 1 M v2 7).bind fun v3 => (gO 9 M v1).bind fun i4 => (F_X9_number (some i4) (0 : Int32) (v3 - (1 : Int32)) M).bind fun (v5, M6) => (gR 2 M6 l0 0).bind fun v7 => (gR 2 M6 l0 1).bind fun v8 => (gI 1 M6 v8 6).bind fun v9 => (gO 9 M6 v7).bind fun i10 => (F_X9_number (some i10) (0 : Int32) (v9 - (1 : Int32)) M6).bind fun (v11, M12) => (gR 2 M12 l0 0).bind fun v13 => (gO 9 M12 v13).bind fun i14 => (F_X9_number (some i14) (0 : Int32) (9 : Int32) M12).bind fun (v15, M16) => (gR 2 M16 l0 0).bind fun v17 => (gO 9 M16 v17).bind fun i18 => (F_X9_number (some i18) (1 : Int32) (99 : Int32) M16).bind fun (v19, M20) => (gR 2 M20 l0 0).bind fun v21 => (gO 9 M20 v21).bind fun i22 => (F_X9_isFaulty (some i22) M20).bind fun v23 => if v23 = 0 then (if v5 < 0 then (some M20) else (if v11 < 0 then (some M20) else ((gR 2 M20 l0 2).bind fun v24 => (gO 8 M20 v24).bind fun i25 => (F_X8_learn (some i25) v5 v11 v15 v19 M20).bind fun M26 => some M26))) else (some M20)
set_option maxHeartbeats 1000000 in
theorem T_X2_readKnows_b0 (r : gM) (l0 : Option Nat) (M : gM) (h : F_X2_readKnows_b0 l0 M = some r) : GW 2 0 0 X_X2_readKnows 0 [(0, vr l0)] [] M (none, r) := by
  delta F_X2_readKnows_b0 at h
  refine GW_aload_n (X := X_X2_readKnows) (pc := 0) d_X2_readKnows_0 rfl 0 rfl ?_
  replace h := g_bd h
  obtain ⟨v1, hv1, h⟩ := h
  refine GW_getR (X := X_X2_readKnows) (pc := 1) f_X2_25 d_X2_readKnows_1 hv1 (Or.inl ⟨_, ty_2_0⟩) ?_
  refine GW_iconst (X := X_X2_readKnows) (pc := 4) (v := 0) d_X2_readKnows_4 (by decide) ?_
  refine GW_aload_n (X := X_X2_readKnows) (pc := 5) d_X2_readKnows_5 rfl 0 rfl ?_
  replace h := g_bd h
  obtain ⟨v2, hv2, h⟩ := h
  refine GW_getR (X := X_X2_readKnows) (pc := 6) f_X2_12 d_X2_readKnows_6 hv2 (Or.inl ⟨_, ty_2_1⟩) ?_
  replace h := g_bd h
  obtain ⟨v3, hv3, h⟩ := h
  refine GW_getI (X := X_X2_readKnows) (pc := 9) f_X2_80 d_X2_readKnows_9 hv3 (Or.inl ty_1_7) ?_
  refine GW_iconst (X := X_X2_readKnows) (pc := 12) (v := 1) d_X2_readKnows_12 (by decide) ?_
  refine GW_isub (X := X_X2_readKnows) (pc := 13) d_X2_readKnows_13 ?_
  replace h := g_bd h
  obtain ⟨i4, hi4, h⟩ := h
  obtain ⟨rfl, ki4⟩ := g_gO hi4
  replace h := g_bd h
  obtain ⟨⟨v5, M6⟩, hv5, h⟩ := h
  dsimp only at h
  refine GW_callV (X := X_X2_readKnows) (pc := 14) (bc0 := 0) (bs0 := 0) (r := some (vi v5)) (M2 := M6) (c0 := 9) (T_X9_number (some i4) (0 : Int32) (v3 - (1 : Int32)) M (v5, M6) hv5) (Nat.le_of_ble_eq_true rfl) (Nat.le_of_ble_eq_true rfl) rfl g_cok9 ki4 yc_X9_number ⟨m_617, m_618, m_619, m_123, m_620⟩ d_X2_readKnows_14 rfl (st := []) rfl (Nat.le_of_ble_eq_true rfl) (Nat.le_of_ble_eq_true rfl) (Nat.le_of_ble_eq_true rfl) (st2 := [vi v5]) rfl ?_
  refine GW_istore_n (X := X_X2_readKnows) (pc := 17) d_X2_readKnows_17 rfl (Nat.le_of_ble_eq_true rfl) (lv2 := [(1, vi v5), (0, vr l0)]) rfl ?_
  refine GW_aload_n (X := X_X2_readKnows) (pc := 18) d_X2_readKnows_18 rfl 1 rfl ?_
  replace h := g_bd h
  obtain ⟨v7, hv7, h⟩ := h
  refine GW_getR (X := X_X2_readKnows) (pc := 19) f_X2_25 d_X2_readKnows_19 hv7 (Or.inl ⟨_, ty_2_0⟩) ?_
  refine GW_iconst (X := X_X2_readKnows) (pc := 22) (v := 0) d_X2_readKnows_22 (by decide) ?_
  refine GW_aload_n (X := X_X2_readKnows) (pc := 23) d_X2_readKnows_23 rfl 1 rfl ?_
  replace h := g_bd h
  obtain ⟨v8, hv8, h⟩ := h
  refine GW_getR (X := X_X2_readKnows) (pc := 24) f_X2_12 d_X2_readKnows_24 hv8 (Or.inl ⟨_, ty_2_1⟩) ?_
  replace h := g_bd h
  obtain ⟨v9, hv9, h⟩ := h
  refine GW_getI (X := X_X2_readKnows) (pc := 27) f_X2_76 d_X2_readKnows_27 hv9 (Or.inl ty_1_6) ?_
  refine GW_iconst (X := X_X2_readKnows) (pc := 30) (v := 1) d_X2_readKnows_30 (by decide) ?_
  refine GW_isub (X := X_X2_readKnows) (pc := 31) d_X2_readKnows_31 ?_
  replace h := g_bd h
  obtain ⟨i10, hi10, h⟩ := h
  obtain ⟨rfl, ki10⟩ := g_gO hi10
  replace h := g_bd h
  obtain ⟨⟨v11, M12⟩, hv11, h⟩ := h
  dsimp only at h
  refine GW_callV (X := X_X2_readKnows) (pc := 32) (bc0 := 0) (bs0 := 0) (r := some (vi v11)) (M2 := M12) (c0 := 9) (T_X9_number (some i10) (0 : Int32) (v9 - (1 : Int32)) M6 (v11, M12) hv11) (Nat.le_of_ble_eq_true rfl) (Nat.le_of_ble_eq_true rfl) rfl g_cok9 ki10 yc_X9_number ⟨m_617, m_618, m_619, m_123, m_620⟩ d_X2_readKnows_32 rfl (st := []) rfl (Nat.le_of_ble_eq_true rfl) (Nat.le_of_ble_eq_true rfl) (Nat.le_of_ble_eq_true rfl) (st2 := [vi v11]) rfl ?_
  refine GW_istore_n (X := X_X2_readKnows) (pc := 35) d_X2_readKnows_35 rfl (Nat.le_of_ble_eq_true rfl) (lv2 := [(2, vi v11), (1, vi v5), (0, vr l0)]) rfl ?_
  refine GW_aload_n (X := X_X2_readKnows) (pc := 36) d_X2_readKnows_36 rfl 2 rfl ?_
  replace h := g_bd h
  obtain ⟨v13, hv13, h⟩ := h
  refine GW_getR (X := X_X2_readKnows) (pc := 37) f_X2_25 d_X2_readKnows_37 hv13 (Or.inl ⟨_, ty_2_0⟩) ?_
  refine GW_iconst (X := X_X2_readKnows) (pc := 40) (v := 0) d_X2_readKnows_40 (by decide) ?_
  refine GW_bipush (X := X_X2_readKnows) (pc := 41) (v := 9) d_X2_readKnows_41 (by decide) ?_
  replace h := g_bd h
  obtain ⟨i14, hi14, h⟩ := h
  obtain ⟨rfl, ki14⟩ := g_gO hi14
  replace h := g_bd h
  obtain ⟨⟨v15, M16⟩, hv15, h⟩ := h
  dsimp only at h
  refine GW_callV (X := X_X2_readKnows) (pc := 43) (bc0 := 0) (bs0 := 0) (r := some (vi v15)) (M2 := M16) (c0 := 9) (T_X9_number (some i14) (0 : Int32) (9 : Int32) M12 (v15, M16) hv15) (Nat.le_of_ble_eq_true rfl) (Nat.le_of_ble_eq_true rfl) rfl g_cok9 ki14 yc_X9_number ⟨m_617, m_618, m_619, m_123, m_620⟩ d_X2_readKnows_43 rfl (st := []) rfl (Nat.le_of_ble_eq_true rfl) (Nat.le_of_ble_eq_true rfl) (Nat.le_of_ble_eq_true rfl) (st2 := [vi v15]) rfl ?_
  refine GW_istore_n (X := X_X2_readKnows) (pc := 46) d_X2_readKnows_46 rfl (Nat.le_of_ble_eq_true rfl) (lv2 := [(3, vi v15), (2, vi v11), (1, vi v5), (0, vr l0)]) rfl ?_
  refine GW_aload_n (X := X_X2_readKnows) (pc := 47) d_X2_readKnows_47 rfl 3 rfl ?_
  replace h := g_bd h
  obtain ⟨v17, hv17, h⟩ := h
  refine GW_getR (X := X_X2_readKnows) (pc := 48) f_X2_25 d_X2_readKnows_48 hv17 (Or.inl ⟨_, ty_2_0⟩) ?_
  refine GW_iconst (X := X_X2_readKnows) (pc := 51) (v := 1) d_X2_readKnows_51 (by decide) ?_
  refine GW_bipush (X := X_X2_readKnows) (pc := 52) (v := 99) d_X2_readKnows_52 (by decide) ?_
  replace h := g_bd h
  obtain ⟨i18, hi18, h⟩ := h
  obtain ⟨rfl, ki18⟩ := g_gO hi18
  replace h := g_bd h
  obtain ⟨⟨v19, M20⟩, hv19, h⟩ := h
  dsimp only at h
  refine GW_callV (X := X_X2_readKnows) (pc := 54) (bc0 := 0) (bs0 := 0) (r := some (vi v19)) (M2 := M20) (c0 := 9) (T_X9_number (some i18) (1 : Int32) (99 : Int32) M16 (v19, M20) hv19) (Nat.le_of_ble_eq_true rfl) (Nat.le_of_ble_eq_true rfl) rfl g_cok9 ki18 yc_X9_number ⟨m_617, m_618, m_619, m_123, m_620⟩ d_X2_readKnows_54 rfl (st := []) rfl (Nat.le_of_ble_eq_true rfl) (Nat.le_of_ble_eq_true rfl) (Nat.le_of_ble_eq_true rfl) (st2 := [vi v19]) rfl ?_
  refine GW_istore (X := X_X2_readKnows) (pc := 57) d_X2_readKnows_57 (Nat.le_of_ble_eq_true rfl) (lv2 := [(4, vi v19), (3, vi v15), (2, vi v11), (1, vi v5), (0, vr l0)]) rfl ?_
  refine GW_aload_n (X := X_X2_readKnows) (pc := 59) d_X2_readKnows_59 rfl 4 rfl ?_
  replace h := g_bd h
  obtain ⟨v21, hv21, h⟩ := h
  refine GW_getR (X := X_X2_readKnows) (pc := 60) f_X2_25 d_X2_readKnows_60 hv21 (Or.inl ⟨_, ty_2_0⟩) ?_
  replace h := g_bd h
  obtain ⟨i22, hi22, h⟩ := h
  obtain ⟨rfl, ki22⟩ := g_gO hi22
  replace h := g_bd h
  obtain ⟨v23, hv23, h⟩ := h
  refine GW_callV (X := X_X2_readKnows) (pc := 63) (bc0 := 0) (bs0 := 0) (r := some (vi v23)) (M2 := M20) (c0 := 9) (T_X9_isFaulty (some i22) M20 v23 hv23) (Nat.le_of_ble_eq_true rfl) (Nat.le_of_ble_eq_true rfl) rfl g_cok9 ki22 yc_X9_isFaulty ⟨m_633, m_622, m_623, m_123, m_624⟩ d_X2_readKnows_63 rfl (st := []) rfl (Nat.le_of_ble_eq_true rfl) (Nat.le_of_ble_eq_true rfl) (Nat.le_of_ble_eq_true rfl) (st2 := [vi v23]) rfl ?_
  refine GW_if_ne (X := X_X2_readKnows) (pc := 66) 89 d_X2_readKnows_66 (by decide) (fun c => ?_) (fun c => ?_)
  · replace h := g_ie c h
    replace h := Option.some.inj h
    subst h
    exact GW_ret (X := X_X2_readKnows) (pc := 89) d_X2_readKnows_89 rfl trivial
  · replace h := g_ip c h
    refine GW_iload_n (X := X_X2_readKnows) (pc := 69) d_X2_readKnows_69 rfl 3 rfl ?_
    refine GW_if_lt (X := X_X2_readKnows) (pc := 70) 89 d_X2_readKnows_70 (by decide) (fun c => ?_) (fun c => ?_)
    · replace h := g_ip c h
      replace h := Option.some.inj h
      subst h
      exact GW_ret (X := X_X2_readKnows) (pc := 89) d_X2_readKnows_89 rfl trivial
    · replace h := g_ie c h
      refine GW_iload_n (X := X_X2_readKnows) (pc := 73) d_X2_readKnows_73 rfl 2 rfl ?_
      refine GW_if_lt (X := X_X2_readKnows) (pc := 74) 89 d_X2_readKnows_74 (by decide) (fun c => ?_) (fun c => ?_)
      · replace h := g_ip c h
        replace h := Option.some.inj h
        subst h
        exact GW_ret (X := X_X2_readKnows) (pc := 89) d_X2_readKnows_89 rfl trivial
      · replace h := g_ie c h
        refine GW_aload_n (X := X_X2_readKnows) (pc := 77) d_X2_readKnows_77 rfl 4 rfl ?_
        replace h := g_bd h
        obtain ⟨v24, hv24, h⟩ := h
        refine GW_getR (X := X_X2_readKnows) (pc := 78) f_X2_21 d_X2_readKnows_78 hv24 (Or.inl ⟨_, ty_2_2⟩) ?_
        refine GW_iload_n (X := X_X2_readKnows) (pc := 81) d_X2_readKnows_81 rfl 3 rfl ?_
        refine GW_iload_n (X := X_X2_readKnows) (pc := 82) d_X2_readKnows_82 rfl 2 rfl ?_
        refine GW_iload_n (X := X_X2_readKnows) (pc := 83) d_X2_readKnows_83 rfl 1 rfl ?_
        refine GW_iload (X := X_X2_readKnows) (pc := 84) d_X2_readKnows_84 0 rfl ?_
        replace h := g_bd h
        obtain ⟨i25, hi25, h⟩ := h
        obtain ⟨rfl, ki25⟩ := g_gO hi25
        replace h := g_bd h
        obtain ⟨M26, hM26, h⟩ := h
        refine GW_callV (X := X_X2_readKnows) (pc := 86) (bc0 := 0) (bs0 := 0) (r := none) (M2 := M26) (c0 := 8) (T_X8_learn (some i25) v5 v11 v15 v19 M20 M26 hM26) (Nat.le_of_ble_eq_true rfl) (Nat.le_of_ble_eq_true rfl) rfl g_cok8 ki25 yc_X8_learn ⟨m_652, m_653, m_654, m_119, m_655⟩ d_X2_readKnows_86 rfl (st := []) rfl (Nat.le_of_ble_eq_true rfl) (Nat.le_of_ble_eq_true rfl) (Nat.le_of_ble_eq_true rfl) (st2 := []) rfl ?_
        replace h := Option.some.inj h
        subst h
        exact GW_ret (X := X_X2_readKnows) (pc := 89) d_X2_readKnows_89 rfl trivial
def F_X2_readKnows (l0 : Option Nat) (M : gM) : Option gM := F_X2_readKnows_b0 l0 M
theorem T_X2_readKnows (l0 : Option Nat) (M : gM) (r : gM) (h : F_X2_readKnows l0 M = some r) : g_Met 2 0 0 yX2_readKnows X_X2_readKnows [vr l0] M (none, r) :=
  g_Met_of pn_RX2 rfl (Nat.le_of_ble_eq_true rfl) (fun h => by cases h) (GW_sub [0] rfl (T_X2_readKnows_b0 r l0 M h))
/-! ForgetHeirs$HouseReader.readNumbers(I)V -/
theorem d_X2_readNumbers_0 : decode cX2_readNumbers 0 = .ok (.iload_n 1, 1) := by decide +kernel
theorem d_X2_readNumbers_1 : decode cX2_readNumbers 1 = .ok (.tableswitch 190 261 276 #[141, 99, 190, 190, 190, 190, 148, 106, 190, 190, 190, 190, 190, 190, 79, 183], 79) := by decide +kernel
theorem d_X2_readNumbers_80 : decode cX2_readNumbers 80 = .ok (.aload_n 0, 1) := by decide +kernel
theorem d_X2_readNumbers_81 : decode cX2_readNumbers 81 = .ok (.getfield 21, 3) := by decide +kernel
theorem d_X2_readNumbers_84 : decode cX2_readNumbers 84 = .ok (.aload_n 0, 1) := by decide +kernel
theorem d_X2_readNumbers_85 : decode cX2_readNumbers 85 = .ok (.getfield 25, 3) := by decide +kernel
theorem d_X2_readNumbers_88 : decode cX2_readNumbers 88 = .ok (.iconst 1, 1) := by decide +kernel
theorem d_X2_readNumbers_89 : decode cX2_readNumbers 89 = .ok (.bipush 20, 2) := by decide +kernel
theorem d_X2_readNumbers_91 : decode cX2_readNumbers 91 = .ok (.invokevirtual 86, 3) := by decide +kernel
theorem d_X2_readNumbers_94 : decode cX2_readNumbers 94 = .ok (.putfield 90, 3) := by decide +kernel
theorem d_X2_readNumbers_97 : decode cX2_readNumbers 97 = .ok (.goto 98, 3) := by decide +kernel
theorem d_X2_readNumbers_100 : decode cX2_readNumbers 100 = .ok (.aload_n 0, 1) := by decide +kernel
theorem d_X2_readNumbers_101 : decode cX2_readNumbers 101 = .ok (.invokevirtual 93, 3) := by decide +kernel
theorem d_X2_readNumbers_104 : decode cX2_readNumbers 104 = .ok (.goto 91, 3) := by decide +kernel
theorem d_X2_readNumbers_107 : decode cX2_readNumbers 107 = .ok (.aload_n 0, 1) := by decide +kernel
theorem d_X2_readNumbers_108 : decode cX2_readNumbers 108 = .ok (.getfield 12, 3) := by decide +kernel
theorem d_X2_readNumbers_111 : decode cX2_readNumbers 111 = .ok (.dup, 1) := by decide +kernel
theorem d_X2_readNumbers_112 : decode cX2_readNumbers 112 = .ok (.getfield 96, 3) := by decide +kernel
theorem d_X2_readNumbers_115 : decode cX2_readNumbers 115 = .ok (.aload_n 0, 1) := by decide +kernel
theorem d_X2_readNumbers_116 : decode cX2_readNumbers 116 = .ok (.getfield 25, 3) := by decide +kernel
theorem d_X2_readNumbers_119 : decode cX2_readNumbers 119 = .ok (.iconst 0, 1) := by decide +kernel
theorem d_X2_readNumbers_120 : decode cX2_readNumbers 120 = .ok (.aload_n 0, 1) := by decide +kernel
theorem d_X2_readNumbers_121 : decode cX2_readNumbers 121 = .ok (.getfield 12, 3) := by decide +kernel
theorem d_X2_readNumbers_124 : decode cX2_readNumbers 124 = .ok (.getfield 76, 3) := by decide +kernel
theorem d_X2_readNumbers_127 : decode cX2_readNumbers 127 = .ok (.iconst 1, 1) := by decide +kernel
theorem d_X2_readNumbers_128 : decode cX2_readNumbers 128 = .ok (.isub, 1) := by decide +kernel
theorem d_X2_readNumbers_129 : decode cX2_readNumbers 129 = .ok (.invokevirtual 86, 3) := by decide +kernel
theorem d_X2_readNumbers_132 : decode cX2_readNumbers 132 = .ok (.invokestatic 99, 3) := by decide +kernel
theorem d_X2_readNumbers_135 : decode cX2_readNumbers 135 = .ok (.ior, 1) := by decide +kernel
theorem d_X2_readNumbers_136 : decode cX2_readNumbers 136 = .ok (.putfield 96, 3) := by decide +kernel
theorem d_X2_readNumbers_139 : decode cX2_readNumbers 139 = .ok (.goto 56, 3) := by decide +kernel
theorem d_X2_readNumbers_142 : decode cX2_readNumbers 142 = .ok (.aload_n 0, 1) := by decide +kernel
theorem d_X2_readNumbers_143 : decode cX2_readNumbers 143 = .ok (.invokevirtual 103, 3) := by decide +kernel
theorem d_X2_readNumbers_146 : decode cX2_readNumbers 146 = .ok (.goto 49, 3) := by decide +kernel
theorem d_X2_readNumbers_149 : decode cX2_readNumbers 149 = .ok (.aload_n 0, 1) := by decide +kernel
theorem d_X2_readNumbers_150 : decode cX2_readNumbers 150 = .ok (.getfield 12, 3) := by decide +kernel
theorem d_X2_readNumbers_153 : decode cX2_readNumbers 153 = .ok (.dup, 1) := by decide +kernel
theorem d_X2_readNumbers_154 : decode cX2_readNumbers 154 = .ok (.getfield 106, 3) := by decide +kernel
theorem d_X2_readNumbers_157 : decode cX2_readNumbers 157 = .ok (.aload_n 0, 1) := by decide +kernel
theorem d_X2_readNumbers_158 : decode cX2_readNumbers 158 = .ok (.getfield 25, 3) := by decide +kernel
theorem d_X2_readNumbers_161 : decode cX2_readNumbers 161 = .ok (.iconst 0, 1) := by decide +kernel
theorem d_X2_readNumbers_162 : decode cX2_readNumbers 162 = .ok (.aload_n 0, 1) := by decide +kernel
theorem d_X2_readNumbers_163 : decode cX2_readNumbers 163 = .ok (.getfield 12, 3) := by decide +kernel
theorem d_X2_readNumbers_166 : decode cX2_readNumbers 166 = .ok (.getfield 80, 3) := by decide +kernel
theorem d_X2_readNumbers_169 : decode cX2_readNumbers 169 = .ok (.iconst 1, 1) := by decide +kernel
theorem d_X2_readNumbers_170 : decode cX2_readNumbers 170 = .ok (.isub, 1) := by decide +kernel
theorem d_X2_readNumbers_171 : decode cX2_readNumbers 171 = .ok (.invokevirtual 86, 3) := by decide +kernel
theorem d_X2_readNumbers_174 : decode cX2_readNumbers 174 = .ok (.invokestatic 99, 3) := by decide +kernel
theorem d_X2_readNumbers_177 : decode cX2_readNumbers 177 = .ok (.ior, 1) := by decide +kernel
theorem d_X2_readNumbers_178 : decode cX2_readNumbers 178 = .ok (.putfield 106, 3) := by decide +kernel
theorem d_X2_readNumbers_181 : decode cX2_readNumbers 181 = .ok (.goto 14, 3) := by decide +kernel
theorem d_X2_readNumbers_184 : decode cX2_readNumbers 184 = .ok (.aload_n 0, 1) := by decide +kernel
theorem d_X2_readNumbers_185 : decode cX2_readNumbers 185 = .ok (.invokevirtual 109, 3) := by decide +kernel
theorem d_X2_readNumbers_188 : decode cX2_readNumbers 188 = .ok (.goto 7, 3) := by decide +kernel
theorem d_X2_readNumbers_191 : decode cX2_readNumbers 191 = .ok (.aload_n 0, 1) := by decide +kernel
theorem d_X2_readNumbers_192 : decode cX2_readNumbers 192 = .ok (.invokevirtual 112, 3) := by decide +kernel
theorem d_X2_readNumbers_195 : decode cX2_readNumbers 195 = .ok (.return_, 1) := by decide +kernel
abbrev X_X2_readNumbers : gX := (RX2, cX2_readNumbers, 2, none, false)
def F_X2_readNumbers_b191 (l0 : Option Nat) (M : gM) : Option gM :=
  (gO 2 M l0).bind fun i1 => (F_X2_readKnows (some i1) M).bind fun M2 => some M2
theorem T_X2_readNumbers_b191 (r : gM) (l0 : Option Nat) (M : gM) (h : F_X2_readNumbers_b191 l0 M = some r) : GW 3 0 0 X_X2_readNumbers 191 [(0, vr l0)] [] M (none, r) := by
  delta F_X2_readNumbers_b191 at h
  refine GW_aload_n (X := X_X2_readNumbers) (pc := 191) d_X2_readNumbers_191 rfl 0 rfl ?_
  replace h := g_bd h
  obtain ⟨i1, hi1, h⟩ := h
  obtain ⟨rfl, ki1⟩ := g_gO hi1
  replace h := g_bd h
  obtain ⟨M2, hM2, h⟩ := h
  refine GW_callV (X := X_X2_readNumbers) (pc := 192) (bc0 := 0) (bs0 := 0) (r := none) (M2 := M2) (c0 := 2) (T_X2_readKnows (some i1) M M2 hM2) (Nat.le_of_ble_eq_true rfl) (Nat.le_of_ble_eq_true rfl) rfl g_cok2 ki1 yc_X2_readKnows ⟨m_648, m_650, m_11, m_124, m_651⟩ d_X2_readNumbers_192 rfl (st := []) rfl (Nat.le_of_ble_eq_true rfl) (Nat.le_of_ble_eq_true rfl) (Nat.le_of_ble_eq_true rfl) (st2 := []) rfl ?_
  replace h := Option.some.inj h
  subst h
  exact GW_ret (X := X_X2_readNumbers) (pc := 195) d_X2_readNumbers_195 rfl trivial
def F_X2_readNumbers_b0 (l0 : Option Nat) (l1 : Int32) (M : gM) : Option gM :=
  if l1 = (261 : Int32) then ((gO 2 M l0).bind fun i1 => (F_X2_readHeir (some i1) M).bind fun M2 => some M2) else if l1 = (262 : Int32) then ((gO 2 M l0).bind fun i3 => (F_X2_readThing (some i3) M).bind fun M4 => some M4) else if l1 = (267 : Int32) then ((gR 2 M l0 1).bind fun v5 => (gI 1 M v5 10).bind fun v6 => (gR 2 M l0 0).bind fun v7 => (gR 2 M l0 1).bind fun v8 => (gI 1 M v8 7).bind fun v9 => (gO 9 M v7).bind fun i10 => (F_X9_number (some i10) (0 : Int32) (v9 - (1 : Int32)) M).bind fun (v11, M12) => (F_X2_bitOf v11 M12).bind fun v13 => (pI 1 M12 v5 10 (v6 ||| v13)).bind fun M14 => some M14) else if l1 = (268 : Int32) then ((gR 2 M l0 1).bind fun v15 => (gI 1 M v15 9).bind fun v16 => (gR 2 M l0 0).bind fun v17 => (gR 2 M l0 1).bind fun v18 => (gI 1 M v18 6).bind fun v19 => (gO 9 M v17).bind fun i20 => (F_X9_number (some i20) (0 : Int32) (v19 - (1 : Int32)) M).bind fun (v21, M22) => (F_X2_bitOf v21 M22).bind fun v23 => (pI 1 M22 v15 9 (v16 ||| v23)).bind fun M24 => some M24) else if l1 = (275 : Int32) then ((gR 2 M l0 2).bind fun v25 => (gR 2 M l0 0).bind fun v26 => (gO 9 M v26).bind fun i27 => (F_X9_number (some i27) (1 : Int32) (20 : Int32) M).bind fun (v28, M29) => (pI 8 M29 v25 6 v28).bind fun M30 => some M30) else if l1 = (276 : Int32) then ((gO 2 M l0).bind fun i31 => (F_X2_readCousins (some i31) M).bind fun M32 => some M32) else (F_X2_readNumbers_b191 l0 M)
set_option maxHeartbeats 4000000 in
theorem T_X2_readNumbers_b0 (r : gM) (l0 : Option Nat) (l1 : Int32) (M : gM) (h : F_X2_readNumbers_b0 l0 l1 M = some r) : GW 3 0 0 X_X2_readNumbers 0 [(0, vr l0), (1, vi l1)] [] M (none, r) := by
  delta F_X2_readNumbers_b0 at h
  refine GW_iload_n (X := X_X2_readNumbers) (pc := 0) d_X2_readNumbers_0 rfl 1 rfl ?_
  by_cases c0 : l1 = (261 : Int32)
  · replace h := g_ip c0 h
    refine GW_tableIn (X := X_X2_readNumbers) (pc := 1) 142 d_X2_readNumbers_1 (by rw [c0]; decide) (by rw [c0]; decide) (off := 141) (by rw [c0]; rfl) (by decide) ?_
    refine GW_aload_n (X := X_X2_readNumbers) (pc := 142) d_X2_readNumbers_142 rfl 0 rfl ?_
    replace h := g_bd h
    obtain ⟨i1, hi1, h⟩ := h
    obtain ⟨rfl, ki1⟩ := g_gO hi1
    replace h := g_bd h
    obtain ⟨M2, hM2, h⟩ := h
    refine GW_callV (X := X_X2_readNumbers) (pc := 143) (bc0 := 0) (bs0 := 0) (r := none) (M2 := M2) (c0 := 2) (T_X2_readHeir (some i1) M M2 hM2) (Nat.le_of_ble_eq_true rfl) (Nat.le_of_ble_eq_true rfl) rfl g_cok2 ki1 yc_X2_readHeir ⟨m_637, m_639, m_9, m_124, m_640⟩ d_X2_readNumbers_143 rfl (st := []) rfl (Nat.le_of_ble_eq_true rfl) (Nat.le_of_ble_eq_true rfl) (Nat.le_of_ble_eq_true rfl) (st2 := []) rfl ?_
    refine GW_goto (X := X_X2_readNumbers) (pc := 146) 195 d_X2_readNumbers_146 (by decide) ?_
    replace h := Option.some.inj h
    subst h
    exact GW_ret (X := X_X2_readNumbers) (pc := 195) d_X2_readNumbers_195 rfl trivial
  · replace h := g_ie c0 h
    by_cases c1 : l1 = (262 : Int32)
    · replace h := g_ip c1 h
      refine GW_tableIn (X := X_X2_readNumbers) (pc := 1) 100 d_X2_readNumbers_1 (by rw [c1]; decide) (by rw [c1]; decide) (off := 99) (by rw [c1]; rfl) (by decide) ?_
      refine GW_aload_n (X := X_X2_readNumbers) (pc := 100) d_X2_readNumbers_100 rfl 0 rfl ?_
      replace h := g_bd h
      obtain ⟨i3, hi3, h⟩ := h
      obtain ⟨rfl, ki3⟩ := g_gO hi3
      replace h := g_bd h
      obtain ⟨M4, hM4, h⟩ := h
      refine GW_callV (X := X_X2_readNumbers) (pc := 101) (bc0 := 0) (bs0 := 0) (r := none) (M2 := M4) (c0 := 2) (T_X2_readThing (some i3) M M4 hM4) (Nat.le_of_ble_eq_true rfl) (Nat.le_of_ble_eq_true rfl) rfl g_cok2 ki3 yc_X2_readThing ⟨m_629, m_631, m_8, m_124, m_632⟩ d_X2_readNumbers_101 rfl (st := []) rfl (Nat.le_of_ble_eq_true rfl) (Nat.le_of_ble_eq_true rfl) (Nat.le_of_ble_eq_true rfl) (st2 := []) rfl ?_
      refine GW_goto (X := X_X2_readNumbers) (pc := 104) 195 d_X2_readNumbers_104 (by decide) ?_
      replace h := Option.some.inj h
      subst h
      exact GW_ret (X := X_X2_readNumbers) (pc := 195) d_X2_readNumbers_195 rfl trivial
    · replace h := g_ie c1 h
      by_cases c2 : l1 = (267 : Int32)
      · replace h := g_ip c2 h
        refine GW_tableIn (X := X_X2_readNumbers) (pc := 1) 149 d_X2_readNumbers_1 (by rw [c2]; decide) (by rw [c2]; decide) (off := 148) (by rw [c2]; rfl) (by decide) ?_
        refine GW_aload_n (X := X_X2_readNumbers) (pc := 149) d_X2_readNumbers_149 rfl 0 rfl ?_
        replace h := g_bd h
        obtain ⟨v5, hv5, h⟩ := h
        refine GW_getR (X := X_X2_readNumbers) (pc := 150) f_X2_12 d_X2_readNumbers_150 hv5 (Or.inl ⟨_, ty_2_1⟩) ?_
        refine GW_dup (X := X_X2_readNumbers) (pc := 153) d_X2_readNumbers_153 rfl ?_
        replace h := g_bd h
        obtain ⟨v6, hv6, h⟩ := h
        refine GW_getI (X := X_X2_readNumbers) (pc := 154) f_X2_106 d_X2_readNumbers_154 hv6 (Or.inl ty_1_10) ?_
        refine GW_aload_n (X := X_X2_readNumbers) (pc := 157) d_X2_readNumbers_157 rfl 0 rfl ?_
        replace h := g_bd h
        obtain ⟨v7, hv7, h⟩ := h
        refine GW_getR (X := X_X2_readNumbers) (pc := 158) f_X2_25 d_X2_readNumbers_158 hv7 (Or.inl ⟨_, ty_2_0⟩) ?_
        refine GW_iconst (X := X_X2_readNumbers) (pc := 161) (v := 0) d_X2_readNumbers_161 (by decide) ?_
        refine GW_aload_n (X := X_X2_readNumbers) (pc := 162) d_X2_readNumbers_162 rfl 0 rfl ?_
        replace h := g_bd h
        obtain ⟨v8, hv8, h⟩ := h
        refine GW_getR (X := X_X2_readNumbers) (pc := 163) f_X2_12 d_X2_readNumbers_163 hv8 (Or.inl ⟨_, ty_2_1⟩) ?_
        replace h := g_bd h
        obtain ⟨v9, hv9, h⟩ := h
        refine GW_getI (X := X_X2_readNumbers) (pc := 166) f_X2_80 d_X2_readNumbers_166 hv9 (Or.inl ty_1_7) ?_
        refine GW_iconst (X := X_X2_readNumbers) (pc := 169) (v := 1) d_X2_readNumbers_169 (by decide) ?_
        refine GW_isub (X := X_X2_readNumbers) (pc := 170) d_X2_readNumbers_170 ?_
        replace h := g_bd h
        obtain ⟨i10, hi10, h⟩ := h
        obtain ⟨rfl, ki10⟩ := g_gO hi10
        replace h := g_bd h
        obtain ⟨⟨v11, M12⟩, hv11, h⟩ := h
        dsimp only at h
        refine GW_callV (X := X_X2_readNumbers) (pc := 171) (bc0 := 0) (bs0 := 0) (r := some (vi v11)) (M2 := M12) (c0 := 9) (T_X9_number (some i10) (0 : Int32) (v9 - (1 : Int32)) M (v11, M12) hv11) (Nat.le_of_ble_eq_true rfl) (Nat.le_of_ble_eq_true rfl) rfl g_cok9 ki10 yc_X9_number ⟨m_617, m_618, m_619, m_123, m_620⟩ d_X2_readNumbers_171 rfl (st := [vi v6, vr v5]) rfl (Nat.le_of_ble_eq_true rfl) (Nat.le_of_ble_eq_true rfl) (Nat.le_of_ble_eq_true rfl) (st2 := [vi v11, vi v6, vr v5]) rfl ?_
        replace h := g_bd h
        obtain ⟨v13, hv13, h⟩ := h
        refine GW_callS (X := X_X2_readNumbers) (pc := 174) (bc0 := 0) (bs0 := 0) (r := some (vi v13)) (M2 := M12) (T_X2_bitOf v11 M12 v13 hv13) (Nat.le_of_ble_eq_true rfl) (Nat.le_of_ble_eq_true rfl) yc_X2_bitOf ⟨m_634, m_635, m_124, m_636⟩ d_X2_readNumbers_174 rfl (st := [vi v6, vr v5]) rfl (Nat.le_of_ble_eq_true rfl) (Nat.le_of_ble_eq_true rfl) (Nat.le_of_ble_eq_true rfl) (st2 := [vi v13, vi v6, vr v5]) rfl ?_
        refine GW_ior (X := X_X2_readNumbers) (pc := 177) d_X2_readNumbers_177 ?_
        replace h := g_bd h
        obtain ⟨M14, hM14, h⟩ := h
        refine GW_putI (X := X_X2_readNumbers) (pc := 178) f_X2_106 d_X2_readNumbers_178 hM14 (Or.inl fi_1_10) (Or.inl ty_1_10) ?_
        refine GW_goto (X := X_X2_readNumbers) (pc := 181) 195 d_X2_readNumbers_181 (by decide) ?_
        replace h := Option.some.inj h
        subst h
        exact GW_ret (X := X_X2_readNumbers) (pc := 195) d_X2_readNumbers_195 rfl trivial
      · replace h := g_ie c2 h
        by_cases c3 : l1 = (268 : Int32)
        · replace h := g_ip c3 h
          refine GW_tableIn (X := X_X2_readNumbers) (pc := 1) 107 d_X2_readNumbers_1 (by rw [c3]; decide) (by rw [c3]; decide) (off := 106) (by rw [c3]; rfl) (by decide) ?_
          refine GW_aload_n (X := X_X2_readNumbers) (pc := 107) d_X2_readNumbers_107 rfl 0 rfl ?_
          replace h := g_bd h
          obtain ⟨v15, hv15, h⟩ := h
          refine GW_getR (X := X_X2_readNumbers) (pc := 108) f_X2_12 d_X2_readNumbers_108 hv15 (Or.inl ⟨_, ty_2_1⟩) ?_
          refine GW_dup (X := X_X2_readNumbers) (pc := 111) d_X2_readNumbers_111 rfl ?_
          replace h := g_bd h
          obtain ⟨v16, hv16, h⟩ := h
          refine GW_getI (X := X_X2_readNumbers) (pc := 112) f_X2_96 d_X2_readNumbers_112 hv16 (Or.inl ty_1_9) ?_
          refine GW_aload_n (X := X_X2_readNumbers) (pc := 115) d_X2_readNumbers_115 rfl 0 rfl ?_
          replace h := g_bd h
          obtain ⟨v17, hv17, h⟩ := h
          refine GW_getR (X := X_X2_readNumbers) (pc := 116) f_X2_25 d_X2_readNumbers_116 hv17 (Or.inl ⟨_, ty_2_0⟩) ?_
          refine GW_iconst (X := X_X2_readNumbers) (pc := 119) (v := 0) d_X2_readNumbers_119 (by decide) ?_
          refine GW_aload_n (X := X_X2_readNumbers) (pc := 120) d_X2_readNumbers_120 rfl 0 rfl ?_
          replace h := g_bd h
          obtain ⟨v18, hv18, h⟩ := h
          refine GW_getR (X := X_X2_readNumbers) (pc := 121) f_X2_12 d_X2_readNumbers_121 hv18 (Or.inl ⟨_, ty_2_1⟩) ?_
          replace h := g_bd h
          obtain ⟨v19, hv19, h⟩ := h
          refine GW_getI (X := X_X2_readNumbers) (pc := 124) f_X2_76 d_X2_readNumbers_124 hv19 (Or.inl ty_1_6) ?_
          refine GW_iconst (X := X_X2_readNumbers) (pc := 127) (v := 1) d_X2_readNumbers_127 (by decide) ?_
          refine GW_isub (X := X_X2_readNumbers) (pc := 128) d_X2_readNumbers_128 ?_
          replace h := g_bd h
          obtain ⟨i20, hi20, h⟩ := h
          obtain ⟨rfl, ki20⟩ := g_gO hi20
          replace h := g_bd h
          obtain ⟨⟨v21, M22⟩, hv21, h⟩ := h
          dsimp only at h
          refine GW_callV (X := X_X2_readNumbers) (pc := 129) (bc0 := 0) (bs0 := 0) (r := some (vi v21)) (M2 := M22) (c0 := 9) (T_X9_number (some i20) (0 : Int32) (v19 - (1 : Int32)) M (v21, M22) hv21) (Nat.le_of_ble_eq_true rfl) (Nat.le_of_ble_eq_true rfl) rfl g_cok9 ki20 yc_X9_number ⟨m_617, m_618, m_619, m_123, m_620⟩ d_X2_readNumbers_129 rfl (st := [vi v16, vr v15]) rfl (Nat.le_of_ble_eq_true rfl) (Nat.le_of_ble_eq_true rfl) (Nat.le_of_ble_eq_true rfl) (st2 := [vi v21, vi v16, vr v15]) rfl ?_
          replace h := g_bd h
          obtain ⟨v23, hv23, h⟩ := h
          refine GW_callS (X := X_X2_readNumbers) (pc := 132) (bc0 := 0) (bs0 := 0) (r := some (vi v23)) (M2 := M22) (T_X2_bitOf v21 M22 v23 hv23) (Nat.le_of_ble_eq_true rfl) (Nat.le_of_ble_eq_true rfl) yc_X2_bitOf ⟨m_634, m_635, m_124, m_636⟩ d_X2_readNumbers_132 rfl (st := [vi v16, vr v15]) rfl (Nat.le_of_ble_eq_true rfl) (Nat.le_of_ble_eq_true rfl) (Nat.le_of_ble_eq_true rfl) (st2 := [vi v23, vi v16, vr v15]) rfl ?_
          refine GW_ior (X := X_X2_readNumbers) (pc := 135) d_X2_readNumbers_135 ?_
          replace h := g_bd h
          obtain ⟨M24, hM24, h⟩ := h
          refine GW_putI (X := X_X2_readNumbers) (pc := 136) f_X2_96 d_X2_readNumbers_136 hM24 (Or.inl fi_1_9) (Or.inl ty_1_9) ?_
          refine GW_goto (X := X_X2_readNumbers) (pc := 139) 195 d_X2_readNumbers_139 (by decide) ?_
          replace h := Option.some.inj h
          subst h
          exact GW_ret (X := X_X2_readNumbers) (pc := 195) d_X2_readNumbers_195 rfl trivial
        · replace h := g_ie c3 h
          by_cases c4 : l1 = (275 : Int32)
          · replace h := g_ip c4 h
            refine GW_tableIn (X := X_X2_readNumbers) (pc := 1) 80 d_X2_readNumbers_1 (by rw [c4]; decide) (by rw [c4]; decide) (off := 79) (by rw [c4]; rfl) (by decide) ?_
            refine GW_aload_n (X := X_X2_readNumbers) (pc := 80) d_X2_readNumbers_80 rfl 0 rfl ?_
            replace h := g_bd h
            obtain ⟨v25, hv25, h⟩ := h
            refine GW_getR (X := X_X2_readNumbers) (pc := 81) f_X2_21 d_X2_readNumbers_81 hv25 (Or.inl ⟨_, ty_2_2⟩) ?_
            refine GW_aload_n (X := X_X2_readNumbers) (pc := 84) d_X2_readNumbers_84 rfl 0 rfl ?_
            replace h := g_bd h
            obtain ⟨v26, hv26, h⟩ := h
            refine GW_getR (X := X_X2_readNumbers) (pc := 85) f_X2_25 d_X2_readNumbers_85 hv26 (Or.inl ⟨_, ty_2_0⟩) ?_
            refine GW_iconst (X := X_X2_readNumbers) (pc := 88) (v := 1) d_X2_readNumbers_88 (by decide) ?_
            refine GW_bipush (X := X_X2_readNumbers) (pc := 89) (v := 20) d_X2_readNumbers_89 (by decide) ?_
            replace h := g_bd h
            obtain ⟨i27, hi27, h⟩ := h
            obtain ⟨rfl, ki27⟩ := g_gO hi27
            replace h := g_bd h
            obtain ⟨⟨v28, M29⟩, hv28, h⟩ := h
            dsimp only at h
            refine GW_callV (X := X_X2_readNumbers) (pc := 91) (bc0 := 0) (bs0 := 0) (r := some (vi v28)) (M2 := M29) (c0 := 9) (T_X9_number (some i27) (1 : Int32) (20 : Int32) M (v28, M29) hv28) (Nat.le_of_ble_eq_true rfl) (Nat.le_of_ble_eq_true rfl) rfl g_cok9 ki27 yc_X9_number ⟨m_617, m_618, m_619, m_123, m_620⟩ d_X2_readNumbers_91 rfl (st := [vr v25]) rfl (Nat.le_of_ble_eq_true rfl) (Nat.le_of_ble_eq_true rfl) (Nat.le_of_ble_eq_true rfl) (st2 := [vi v28, vr v25]) rfl ?_
            replace h := g_bd h
            obtain ⟨M30, hM30, h⟩ := h
            refine GW_putI (X := X_X2_readNumbers) (pc := 94) f_X2_90 d_X2_readNumbers_94 hM30 (Or.inl fi_8_6) (Or.inl ty_8_6) ?_
            refine GW_goto (X := X_X2_readNumbers) (pc := 97) 195 d_X2_readNumbers_97 (by decide) ?_
            replace h := Option.some.inj h
            subst h
            exact GW_ret (X := X_X2_readNumbers) (pc := 195) d_X2_readNumbers_195 rfl trivial
          · replace h := g_ie c4 h
            by_cases c5 : l1 = (276 : Int32)
            · replace h := g_ip c5 h
              refine GW_tableIn (X := X_X2_readNumbers) (pc := 1) 184 d_X2_readNumbers_1 (by rw [c5]; decide) (by rw [c5]; decide) (off := 183) (by rw [c5]; rfl) (by decide) ?_
              refine GW_aload_n (X := X_X2_readNumbers) (pc := 184) d_X2_readNumbers_184 rfl 0 rfl ?_
              replace h := g_bd h
              obtain ⟨i31, hi31, h⟩ := h
              obtain ⟨rfl, ki31⟩ := g_gO hi31
              replace h := g_bd h
              obtain ⟨M32, hM32, h⟩ := h
              refine GW_callV (X := X_X2_readNumbers) (pc := 185) (bc0 := 0) (bs0 := 0) (r := none) (M2 := M32) (c0 := 2) (T_X2_readCousins (some i31) M M32 hM32) (Nat.le_of_ble_eq_true rfl) (Nat.le_of_ble_eq_true rfl) rfl g_cok2 ki31 yc_X2_readCousins ⟨m_641, m_643, m_10, m_124, m_644⟩ d_X2_readNumbers_185 rfl (st := []) rfl (Nat.le_of_ble_eq_true rfl) (Nat.le_of_ble_eq_true rfl) (Nat.le_of_ble_eq_true rfl) (st2 := []) rfl ?_
              refine GW_goto (X := X_X2_readNumbers) (pc := 188) 195 d_X2_readNumbers_188 (by decide) ?_
              replace h := Option.some.inj h
              subst h
              exact GW_ret (X := X_X2_readNumbers) (pc := 195) d_X2_readNumbers_195 rfl trivial
            · replace h := g_ie c5 h
              refine g_tab (lo := 261) (hi := 276) (x := l1) (fun ho => ?_) (fun h1 h2 => ?_)
              · refine GW_tableOut (X := X_X2_readNumbers) (pc := 1) 191 d_X2_readNumbers_1 ho (by decide) ?_
                refine GW_sub [0] rfl ?_
                exact T_X2_readNumbers_b191 r l0 M h
              · have hd9 : l1.toInt = 263 ∨ l1.toInt = 264 ∨ l1.toInt = 265 ∨ l1.toInt = 266 ∨ l1.toInt = 269 ∨ l1.toInt = 270 ∨ l1.toInt = 271 ∨ l1.toInt = 272 ∨ l1.toInt = 273 ∨ l1.toInt = 274 := by
                  have n0 := g_nk (k := 261) c0 (by decide)
                  have n1 := g_nk (k := 262) c1 (by decide)
                  have n2 := g_nk (k := 267) c2 (by decide)
                  have n3 := g_nk (k := 268) c3 (by decide)
                  have n4 := g_nk (k := 275) c4 (by decide)
                  have n5 := g_nk (k := 276) c5 (by decide)
                  omega
                rcases hd9 with e9 | e9 | e9 | e9 | e9 | e9 | e9 | e9 | e9 | e9
                · refine GW_tableIn (X := X_X2_readNumbers) (pc := 1) 191 d_X2_readNumbers_1 (by omega) (by omega) (off := 190) (by rw [e9]; rfl) (by decide) ?_
                  refine GW_sub [0] rfl ?_
                  exact T_X2_readNumbers_b191 r l0 M h
                · refine GW_tableIn (X := X_X2_readNumbers) (pc := 1) 191 d_X2_readNumbers_1 (by omega) (by omega) (off := 190) (by rw [e9]; rfl) (by decide) ?_
                  refine GW_sub [0] rfl ?_
                  exact T_X2_readNumbers_b191 r l0 M h
                · refine GW_tableIn (X := X_X2_readNumbers) (pc := 1) 191 d_X2_readNumbers_1 (by omega) (by omega) (off := 190) (by rw [e9]; rfl) (by decide) ?_
                  refine GW_sub [0] rfl ?_
                  exact T_X2_readNumbers_b191 r l0 M h
                · refine GW_tableIn (X := X_X2_readNumbers) (pc := 1) 191 d_X2_readNumbers_1 (by omega) (by omega) (off := 190) (by rw [e9]; rfl) (by decide) ?_
                  refine GW_sub [0] rfl ?_
                  exact T_X2_readNumbers_b191 r l0 M h
                · refine GW_tableIn (X := X_X2_readNumbers) (pc := 1) 191 d_X2_readNumbers_1 (by omega) (by omega) (off := 190) (by rw [e9]; rfl) (by decide) ?_
                  refine GW_sub [0] rfl ?_
                  exact T_X2_readNumbers_b191 r l0 M h
                · refine GW_tableIn (X := X_X2_readNumbers) (pc := 1) 191 d_X2_readNumbers_1 (by omega) (by omega) (off := 190) (by rw [e9]; rfl) (by decide) ?_
                  refine GW_sub [0] rfl ?_
                  exact T_X2_readNumbers_b191 r l0 M h
                · refine GW_tableIn (X := X_X2_readNumbers) (pc := 1) 191 d_X2_readNumbers_1 (by omega) (by omega) (off := 190) (by rw [e9]; rfl) (by decide) ?_
                  refine GW_sub [0] rfl ?_
                  exact T_X2_readNumbers_b191 r l0 M h
                · refine GW_tableIn (X := X_X2_readNumbers) (pc := 1) 191 d_X2_readNumbers_1 (by omega) (by omega) (off := 190) (by rw [e9]; rfl) (by decide) ?_
                  refine GW_sub [0] rfl ?_
                  exact T_X2_readNumbers_b191 r l0 M h
                · refine GW_tableIn (X := X_X2_readNumbers) (pc := 1) 191 d_X2_readNumbers_1 (by omega) (by omega) (off := 190) (by rw [e9]; rfl) (by decide) ?_
                  refine GW_sub [0] rfl ?_
                  exact T_X2_readNumbers_b191 r l0 M h
                · refine GW_tableIn (X := X_X2_readNumbers) (pc := 1) 191 d_X2_readNumbers_1 (by omega) (by omega) (off := 190) (by rw [e9]; rfl) (by decide) ?_
                  refine GW_sub [0] rfl ?_
                  exact T_X2_readNumbers_b191 r l0 M h
def F_X2_readNumbers (l0 : Option Nat) (l1 : Int32) (M : gM) : Option gM := F_X2_readNumbers_b0 l0 l1 M
theorem T_X2_readNumbers (l0 : Option Nat) (l1 : Int32) (M : gM) (r : gM) (h : F_X2_readNumbers l0 l1 M = some r) : g_Met 3 0 0 yX2_readNumbers X_X2_readNumbers [vr l0, vi l1] M (none, r) :=
  g_Met_of pn_RX2 rfl (Nat.le_of_ble_eq_true rfl) (fun h => by cases h) (GW_sub [0, 1] rfl (T_X2_readNumbers_b0 r l0 l1 M h))
/-! ForgetHeirs$HouseReader.readClause(I)V -/
theorem d_X2_readClause_0 : decode cX2_readClause 0 = .ok (.aload_n 0, 1) := by decide +kernel
theorem d_X2_readClause_1 : decode cX2_readClause 1 = .ok (.getfield 25, 3) := by decide +kernel
theorem d_X2_readClause_4 : decode cX2_readClause 4 = .ok (.invokevirtual 52, 3) := by decide +kernel
theorem d_X2_readClause_7 : decode cX2_readClause 7 = .ok (.istore_n 2, 1) := by decide +kernel
theorem d_X2_readClause_8 : decode cX2_readClause 8 = .ok (.iload_n 2, 1) := by decide +kernel
theorem d_X2_readClause_9 : decode cX2_readClause 9 = .ok (.invokestatic 56, 3) := by decide +kernel
theorem d_X2_readClause_12 : decode cX2_readClause 12 = .ok (.ifCond .ne 21, 3) := by decide +kernel
theorem d_X2_readClause_15 : decode cX2_readClause 15 = .ok (.aload_n 0, 1) := by decide +kernel
theorem d_X2_readClause_16 : decode cX2_readClause 16 = .ok (.getfield 25, 3) := by decide +kernel
theorem d_X2_readClause_19 : decode cX2_readClause 19 = .ok (.aload_n 0, 1) := by decide +kernel
theorem d_X2_readClause_20 : decode cX2_readClause 20 = .ok (.getfield 25, 3) := by decide +kernel
theorem d_X2_readClause_23 : decode cX2_readClause 23 = .ok (.invokevirtual 60, 3) := by decide +kernel
theorem d_X2_readClause_26 : decode cX2_readClause 26 = .ok (.iconst 0, 1) := by decide +kernel
theorem d_X2_readClause_27 : decode cX2_readClause 27 = .ok (.invokevirtual 63, 3) := by decide +kernel
theorem d_X2_readClause_30 : decode cX2_readClause 30 = .ok (.goto 72, 3) := by decide +kernel
theorem d_X2_readClause_33 : decode cX2_readClause 33 = .ok (.iload_n 1, 1) := by decide +kernel
theorem d_X2_readClause_34 : decode cX2_readClause 34 = .ok (.bipush 40, 2) := by decide +kernel
theorem d_X2_readClause_36 : decode cX2_readClause 36 = .ok (.if_icmp .gt 36, 3) := by decide +kernel
theorem d_X2_readClause_39 : decode cX2_readClause 39 = .ok (.iload_n 2, 1) := by decide +kernel
theorem d_X2_readClause_40 : decode cX2_readClause 40 = .ok (.sipush 275, 3) := by decide +kernel
theorem d_X2_readClause_43 : decode cX2_readClause 43 = .ok (.if_icmp .ne 7, 3) := by decide +kernel
theorem d_X2_readClause_46 : decode cX2_readClause 46 = .ok (.iconst 1, 1) := by decide +kernel
theorem d_X2_readClause_47 : decode cX2_readClause 47 = .ok (.goto 4, 3) := by decide +kernel
theorem d_X2_readClause_50 : decode cX2_readClause 50 = .ok (.iconst 0, 1) := by decide +kernel
theorem d_X2_readClause_51 : decode cX2_readClause 51 = .ok (.iload_n 1, 1) := by decide +kernel
theorem d_X2_readClause_52 : decode cX2_readClause 52 = .ok (.iconst 1, 1) := by decide +kernel
theorem d_X2_readClause_53 : decode cX2_readClause 53 = .ok (.if_icmp .ne 7, 3) := by decide +kernel
theorem d_X2_readClause_56 : decode cX2_readClause 56 = .ok (.iconst 1, 1) := by decide +kernel
theorem d_X2_readClause_57 : decode cX2_readClause 57 = .ok (.goto 4, 3) := by decide +kernel
theorem d_X2_readClause_60 : decode cX2_readClause 60 = .ok (.iconst 0, 1) := by decide +kernel
theorem d_X2_readClause_61 : decode cX2_readClause 61 = .ok (.if_icmp .ne 11, 3) := by decide +kernel
theorem d_X2_readClause_64 : decode cX2_readClause 64 = .ok (.aload_n 0, 1) := by decide +kernel
theorem d_X2_readClause_65 : decode cX2_readClause 65 = .ok (.iload_n 2, 1) := by decide +kernel
theorem d_X2_readClause_66 : decode cX2_readClause 66 = .ok (.invokevirtual 67, 3) := by decide +kernel
theorem d_X2_readClause_69 : decode cX2_readClause 69 = .ok (.ifCond .eq 21, 3) := by decide +kernel
theorem d_X2_readClause_72 : decode cX2_readClause 72 = .ok (.aload_n 0, 1) := by decide +kernel
theorem d_X2_readClause_73 : decode cX2_readClause 73 = .ok (.getfield 25, 3) := by decide +kernel
theorem d_X2_readClause_76 : decode cX2_readClause 76 = .ok (.aload_n 0, 1) := by decide +kernel
theorem d_X2_readClause_77 : decode cX2_readClause 77 = .ok (.getfield 25, 3) := by decide +kernel
theorem d_X2_readClause_80 : decode cX2_readClause 80 = .ok (.invokevirtual 60, 3) := by decide +kernel
theorem d_X2_readClause_83 : decode cX2_readClause 83 = .ok (.iconst 4, 1) := by decide +kernel
theorem d_X2_readClause_84 : decode cX2_readClause 84 = .ok (.invokevirtual 63, 3) := by decide +kernel
theorem d_X2_readClause_87 : decode cX2_readClause 87 = .ok (.goto 15, 3) := by decide +kernel
theorem d_X2_readClause_90 : decode cX2_readClause 90 = .ok (.aload_n 0, 1) := by decide +kernel
theorem d_X2_readClause_91 : decode cX2_readClause 91 = .ok (.getfield 25, 3) := by decide +kernel
theorem d_X2_readClause_94 : decode cX2_readClause 94 = .ok (.invokevirtual 70, 3) := by decide +kernel
theorem d_X2_readClause_97 : decode cX2_readClause 97 = .ok (.aload_n 0, 1) := by decide +kernel
theorem d_X2_readClause_98 : decode cX2_readClause 98 = .ok (.iload_n 2, 1) := by decide +kernel
theorem d_X2_readClause_99 : decode cX2_readClause 99 = .ok (.invokevirtual 73, 3) := by decide +kernel
theorem d_X2_readClause_102 : decode cX2_readClause 102 = .ok (.return_, 1) := by decide +kernel
abbrev X_X2_readClause : gX := (RX2, cX2_readClause, 3, none, false)
def F_X2_readClause_b72 (l0 : Option Nat) (M : gM) : Option gM :=
  (gR 2 M l0 0).bind fun v1 => (gR 2 M l0 0).bind fun v2 => (gO 9 M v2).bind fun i3 => (F_X9_place (some i3) M).bind fun v4 => (gO 9 M v1).bind fun i5 => (F_X9_blame (some i5) v4 (4 : Int32) M).bind fun M6 => some M6
theorem T_X2_readClause_b72 (r : gM) (l0 : Option Nat) (M : gM) (h : F_X2_readClause_b72 l0 M = some r) : GW 4 0 0 X_X2_readClause 72 [(0, vr l0)] [] M (none, r) := by
  delta F_X2_readClause_b72 at h
  refine GW_aload_n (X := X_X2_readClause) (pc := 72) d_X2_readClause_72 rfl 0 rfl ?_
  replace h := g_bd h
  obtain ⟨v1, hv1, h⟩ := h
  refine GW_getR (X := X_X2_readClause) (pc := 73) f_X2_25 d_X2_readClause_73 hv1 (Or.inl ⟨_, ty_2_0⟩) ?_
  refine GW_aload_n (X := X_X2_readClause) (pc := 76) d_X2_readClause_76 rfl 0 rfl ?_
  replace h := g_bd h
  obtain ⟨v2, hv2, h⟩ := h
  refine GW_getR (X := X_X2_readClause) (pc := 77) f_X2_25 d_X2_readClause_77 hv2 (Or.inl ⟨_, ty_2_0⟩) ?_
  replace h := g_bd h
  obtain ⟨i3, hi3, h⟩ := h
  obtain ⟨rfl, ki3⟩ := g_gO hi3
  replace h := g_bd h
  obtain ⟨v4, hv4, h⟩ := h
  refine GW_callV (X := X_X2_readClause) (pc := 80) (bc0 := 0) (bs0 := 0) (r := some (vi v4)) (M2 := M) (c0 := 9) (T_X9_place (some i3) M v4 hv4) (Nat.le_of_ble_eq_true rfl) (Nat.le_of_ble_eq_true rfl) rfl g_cok9 ki3 yc_X9_place ⟨m_597, m_598, m_599, m_123, m_600⟩ d_X2_readClause_80 rfl (st := [vr v1]) rfl (Nat.le_of_ble_eq_true rfl) (Nat.le_of_ble_eq_true rfl) (Nat.le_of_ble_eq_true rfl) (st2 := [vi v4, vr v1]) rfl ?_
  refine GW_iconst (X := X_X2_readClause) (pc := 83) (v := 4) d_X2_readClause_83 (by decide) ?_
  replace h := g_bd h
  obtain ⟨i5, hi5, h⟩ := h
  obtain ⟨rfl, ki5⟩ := g_gO hi5
  replace h := g_bd h
  obtain ⟨M6, hM6, h⟩ := h
  refine GW_callV (X := X_X2_readClause) (pc := 84) (bc0 := 0) (bs0 := 0) (r := none) (M2 := M6) (c0 := 9) (T_X9_blame (some i5) v4 (4 : Int32) M M6 hM6) (Nat.le_of_ble_eq_true rfl) (Nat.le_of_ble_eq_true rfl) rfl g_cok9 ki5 yc_X9_blame ⟨m_601, m_602, m_603, m_123, m_604⟩ d_X2_readClause_84 rfl (st := []) rfl (Nat.le_of_ble_eq_true rfl) (Nat.le_of_ble_eq_true rfl) (Nat.le_of_ble_eq_true rfl) (st2 := []) rfl ?_
  refine GW_goto (X := X_X2_readClause) (pc := 87) 102 d_X2_readClause_87 (by decide) ?_
  replace h := Option.some.inj h
  subst h
  exact GW_ret (X := X_X2_readClause) (pc := 102) d_X2_readClause_102 rfl trivial
def F_X2_readClause_b61 (l0 : Option Nat) (l2 : Int32) (s0 : Int32) (s1 : Int32) (M : gM) : Option gM :=
  if s0 = s1 then ((gO 2 M l0).bind fun i1 => (F_X2_isFull (some i1) l2 M).bind fun v2 => if v2 = 0 then ((gR 2 M (some i1) 0).bind fun v3 => (gO 9 M v3).bind fun i4 => (F_X9_next (some i4) M).bind fun M5 => (gC 2 M5 i1).bind fun _ => (F_X2_readNumbers (some i1) l2 M5).bind fun M7 => some M7) else (F_X2_readClause_b72 (some i1) M)) else (F_X2_readClause_b72 l0 M)
theorem T_X2_readClause_b61 (r : gM) (l0 : Option Nat) (l2 : Int32) (s0 : Int32) (s1 : Int32) (M : gM) (h : F_X2_readClause_b61 l0 l2 s0 s1 M = some r) : GW 4 0 0 X_X2_readClause 61 [(0, vr l0), (2, vi l2)] [vi s1, vi s0] M (none, r) := by
  delta F_X2_readClause_b61 at h
  refine GW_icmp_ne (X := X_X2_readClause) (pc := 61) 72 d_X2_readClause_61 (by decide) (fun c => ?_) (fun c => ?_)
  · replace h := g_ie c h
    refine GW_sub [0] rfl ?_
    exact T_X2_readClause_b72 r l0 M h
  · replace h := g_ip c h
    refine GW_aload_n (X := X_X2_readClause) (pc := 64) d_X2_readClause_64 rfl 0 rfl ?_
    refine GW_iload_n (X := X_X2_readClause) (pc := 65) d_X2_readClause_65 rfl 1 rfl ?_
    replace h := g_bd h
    obtain ⟨i1, hi1, h⟩ := h
    obtain ⟨rfl, ki1⟩ := g_gO hi1
    replace h := g_bd h
    obtain ⟨v2, hv2, h⟩ := h
    refine GW_callV (X := X_X2_readClause) (pc := 66) (bc0 := 0) (bs0 := 0) (r := some (vi v2)) (M2 := M) (c0 := 2) (T_X2_isFull (some i1) l2 M v2 hv2) (Nat.le_of_ble_eq_true rfl) (Nat.le_of_ble_eq_true rfl) rfl g_cok2 ki1 yc_X2_isFull ⟨m_605, m_607, m_6, m_124, m_608⟩ d_X2_readClause_66 rfl (st := []) rfl (Nat.le_of_ble_eq_true rfl) (Nat.le_of_ble_eq_true rfl) (Nat.le_of_ble_eq_true rfl) (st2 := [vi v2]) rfl ?_
    refine GW_if_eq (X := X_X2_readClause) (pc := 69) 90 d_X2_readClause_69 (by decide) (fun c => ?_) (fun c => ?_)
    · replace h := g_ip c h
      refine GW_aload_n (X := X_X2_readClause) (pc := 90) d_X2_readClause_90 rfl 0 rfl ?_
      replace h := g_bd h
      obtain ⟨v3, hv3, h⟩ := h
      refine GW_getR (X := X_X2_readClause) (pc := 91) f_X2_25 d_X2_readClause_91 hv3 (Or.inl ⟨_, ty_2_0⟩) ?_
      replace h := g_bd h
      obtain ⟨i4, hi4, h⟩ := h
      obtain ⟨rfl, ki4⟩ := g_gO hi4
      replace h := g_bd h
      obtain ⟨M5, hM5, h⟩ := h
      refine GW_callV (X := X_X2_readClause) (pc := 94) (bc0 := 0) (bs0 := 0) (r := none) (M2 := M5) (c0 := 9) (T_X9_next (some i4) M M5 hM5) (Nat.le_of_ble_eq_true rfl) (Nat.le_of_ble_eq_true rfl) rfl g_cok9 ki4 yc_X9_next ⟨m_609, m_610, m_611, m_123, m_612⟩ d_X2_readClause_94 rfl (st := []) rfl (Nat.le_of_ble_eq_true rfl) (Nat.le_of_ble_eq_true rfl) (Nat.le_of_ble_eq_true rfl) (st2 := []) rfl ?_
      refine GW_aload_n (X := X_X2_readClause) (pc := 97) d_X2_readClause_97 rfl 0 rfl ?_
      refine GW_iload_n (X := X_X2_readClause) (pc := 98) d_X2_readClause_98 rfl 1 rfl ?_
      replace h := g_bd h
      obtain ⟨_, kk6, h⟩ := h
      replace kk6 := g_gC kk6
      replace h := g_bd h
      obtain ⟨M7, hM7, h⟩ := h
      refine GW_callV (X := X_X2_readClause) (pc := 99) (bc0 := 0) (bs0 := 0) (r := none) (M2 := M7) (c0 := 2) (T_X2_readNumbers (some i1) l2 M5 M7 hM7) (Nat.le_of_ble_eq_true rfl) (Nat.le_of_ble_eq_true rfl) rfl g_cok2 kk6 yc_X2_readNumbers ⟨m_613, m_615, m_7, m_124, m_616⟩ d_X2_readClause_99 rfl (st := []) rfl (Nat.le_of_ble_eq_true rfl) (Nat.le_of_ble_eq_true rfl) (Nat.le_of_ble_eq_true rfl) (st2 := []) rfl ?_
      replace h := Option.some.inj h
      subst h
      exact GW_ret (X := X_X2_readClause) (pc := 102) d_X2_readClause_102 rfl trivial
    · replace h := g_ie c h
      refine GW_sub [0] rfl ?_
      exact T_X2_readClause_b72 r (some i1) M h
def F_X2_readClause_b51 (l0 : Option Nat) (l1 : Int32) (l2 : Int32) (s0 : Int32) (M : gM) : Option gM :=
  if l1 = (1 : Int32) then (F_X2_readClause_b61 l0 l2 s0 (1 : Int32) M) else (F_X2_readClause_b61 l0 l2 s0 (0 : Int32) M)
theorem T_X2_readClause_b51 (r : gM) (l0 : Option Nat) (l1 : Int32) (l2 : Int32) (s0 : Int32) (M : gM) (h : F_X2_readClause_b51 l0 l1 l2 s0 M = some r) : GW 4 0 0 X_X2_readClause 51 [(0, vr l0), (1, vi l1), (2, vi l2)] [vi s0] M (none, r) := by
  delta F_X2_readClause_b51 at h
  refine GW_iload_n (X := X_X2_readClause) (pc := 51) d_X2_readClause_51 rfl 1 rfl ?_
  refine GW_iconst (X := X_X2_readClause) (pc := 52) (v := 1) d_X2_readClause_52 (by decide) ?_
  refine GW_icmp_ne (X := X_X2_readClause) (pc := 53) 60 d_X2_readClause_53 (by decide) (fun c => ?_) (fun c => ?_)
  · replace h := g_ie c h
    refine GW_iconst (X := X_X2_readClause) (pc := 60) (v := 0) d_X2_readClause_60 (by decide) ?_
    refine GW_sub [0, 2] rfl ?_
    exact T_X2_readClause_b61 r l0 l2 s0 (0 : Int32) M h
  · replace h := g_ip c h
    refine GW_iconst (X := X_X2_readClause) (pc := 56) (v := 1) d_X2_readClause_56 (by decide) ?_
    refine GW_goto (X := X_X2_readClause) (pc := 57) 61 d_X2_readClause_57 (by decide) ?_
    refine GW_sub [0, 2] rfl ?_
    exact T_X2_readClause_b61 r l0 l2 s0 (1 : Int32) M h
def F_X2_readClause_b0 (l0 : Option Nat) (l1 : Int32) (M : gM) : Option gM :=
  (gR 2 M l0 0).bind fun v1 => (gO 9 M v1).bind fun i2 => (F_X9_kind (some i2) M).bind fun v3 => (F_X2_isClause v3 M).bind fun v4 => if v4 = 0 then ((gR 2 M l0 0).bind fun v5 => (gR 2 M l0 0).bind fun v6 => (gO 9 M v6).bind fun i7 => (F_X9_place (some i7) M).bind fun v8 => (gO 9 M v5).bind fun i9 => (F_X9_blame (some i9) v8 (0 : Int32) M).bind fun M10 => some M10) else (if (40 : Int32) < l1 then (F_X2_readClause_b72 l0 M) else (if v3 = (275 : Int32) then (F_X2_readClause_b51 l0 l1 v3 (1 : Int32) M) else (F_X2_readClause_b51 l0 l1 v3 (0 : Int32) M)))
set_option maxHeartbeats 1000000 in
theorem T_X2_readClause_b0 (r : gM) (l0 : Option Nat) (l1 : Int32) (M : gM) (h : F_X2_readClause_b0 l0 l1 M = some r) : GW 4 0 0 X_X2_readClause 0 [(0, vr l0), (1, vi l1)] [] M (none, r) := by
  delta F_X2_readClause_b0 at h
  refine GW_aload_n (X := X_X2_readClause) (pc := 0) d_X2_readClause_0 rfl 0 rfl ?_
  replace h := g_bd h
  obtain ⟨v1, hv1, h⟩ := h
  refine GW_getR (X := X_X2_readClause) (pc := 1) f_X2_25 d_X2_readClause_1 hv1 (Or.inl ⟨_, ty_2_0⟩) ?_
  replace h := g_bd h
  obtain ⟨i2, hi2, h⟩ := h
  obtain ⟨rfl, ki2⟩ := g_gO hi2
  replace h := g_bd h
  obtain ⟨v3, hv3, h⟩ := h
  refine GW_callV (X := X_X2_readClause) (pc := 4) (bc0 := 0) (bs0 := 0) (r := some (vi v3)) (M2 := M) (c0 := 9) (T_X9_kind (some i2) M v3 hv3) (Nat.le_of_ble_eq_true rfl) (Nat.le_of_ble_eq_true rfl) rfl g_cok9 ki2 yc_X9_kind ⟨m_590, m_591, m_592, m_123, m_593⟩ d_X2_readClause_4 rfl (st := []) rfl (Nat.le_of_ble_eq_true rfl) (Nat.le_of_ble_eq_true rfl) (Nat.le_of_ble_eq_true rfl) (st2 := [vi v3]) rfl ?_
  refine GW_istore_n (X := X_X2_readClause) (pc := 7) d_X2_readClause_7 rfl (Nat.le_of_ble_eq_true rfl) (lv2 := [(2, vi v3), (0, vr l0), (1, vi l1)]) rfl ?_
  refine GW_iload_n (X := X_X2_readClause) (pc := 8) d_X2_readClause_8 rfl 0 rfl ?_
  replace h := g_bd h
  obtain ⟨v4, hv4, h⟩ := h
  refine GW_callS (X := X_X2_readClause) (pc := 9) (bc0 := 0) (bs0 := 0) (r := some (vi v4)) (M2 := M) (T_X2_isClause v3 M v4 hv4) (Nat.le_of_ble_eq_true rfl) (Nat.le_of_ble_eq_true rfl) yc_X2_isClause ⟨m_594, m_595, m_124, m_596⟩ d_X2_readClause_9 rfl (st := []) rfl (Nat.le_of_ble_eq_true rfl) (Nat.le_of_ble_eq_true rfl) (Nat.le_of_ble_eq_true rfl) (st2 := [vi v4]) rfl ?_
  refine GW_if_ne (X := X_X2_readClause) (pc := 12) 33 d_X2_readClause_12 (by decide) (fun c => ?_) (fun c => ?_)
  · replace h := g_ie c h
    refine GW_iload_n (X := X_X2_readClause) (pc := 33) d_X2_readClause_33 rfl 2 rfl ?_
    refine GW_bipush (X := X_X2_readClause) (pc := 34) (v := 40) d_X2_readClause_34 (by decide) ?_
    refine GW_icmp_gt (X := X_X2_readClause) (pc := 36) 72 d_X2_readClause_36 (by decide) (fun c => ?_) (fun c => ?_)
    · replace h := g_ip c h
      refine GW_sub [1] rfl ?_
      exact T_X2_readClause_b72 r l0 M h
    · replace h := g_ie c h
      refine GW_iload_n (X := X_X2_readClause) (pc := 39) d_X2_readClause_39 rfl 0 rfl ?_
      refine GW_sipush (X := X_X2_readClause) (pc := 40) (v := 275) d_X2_readClause_40 (by decide) ?_
      refine GW_icmp_ne (X := X_X2_readClause) (pc := 43) 50 d_X2_readClause_43 (by decide) (fun c => ?_) (fun c => ?_)
      · replace h := g_ie c h
        refine GW_iconst (X := X_X2_readClause) (pc := 50) (v := 0) d_X2_readClause_50 (by decide) ?_
        refine GW_sub [1, 2, 0] rfl ?_
        exact T_X2_readClause_b51 r l0 l1 v3 (0 : Int32) M h
      · replace h := g_ip c h
        refine GW_iconst (X := X_X2_readClause) (pc := 46) (v := 1) d_X2_readClause_46 (by decide) ?_
        refine GW_goto (X := X_X2_readClause) (pc := 47) 51 d_X2_readClause_47 (by decide) ?_
        refine GW_sub [1, 2, 0] rfl ?_
        exact T_X2_readClause_b51 r l0 l1 v3 (1 : Int32) M h
  · replace h := g_ip c h
    refine GW_aload_n (X := X_X2_readClause) (pc := 15) d_X2_readClause_15 rfl 1 rfl ?_
    replace h := g_bd h
    obtain ⟨v5, hv5, h⟩ := h
    refine GW_getR (X := X_X2_readClause) (pc := 16) f_X2_25 d_X2_readClause_16 hv5 (Or.inl ⟨_, ty_2_0⟩) ?_
    refine GW_aload_n (X := X_X2_readClause) (pc := 19) d_X2_readClause_19 rfl 1 rfl ?_
    replace h := g_bd h
    obtain ⟨v6, hv6, h⟩ := h
    refine GW_getR (X := X_X2_readClause) (pc := 20) f_X2_25 d_X2_readClause_20 hv6 (Or.inl ⟨_, ty_2_0⟩) ?_
    replace h := g_bd h
    obtain ⟨i7, hi7, h⟩ := h
    obtain ⟨rfl, ki7⟩ := g_gO hi7
    replace h := g_bd h
    obtain ⟨v8, hv8, h⟩ := h
    refine GW_callV (X := X_X2_readClause) (pc := 23) (bc0 := 0) (bs0 := 0) (r := some (vi v8)) (M2 := M) (c0 := 9) (T_X9_place (some i7) M v8 hv8) (Nat.le_of_ble_eq_true rfl) (Nat.le_of_ble_eq_true rfl) rfl g_cok9 ki7 yc_X9_place ⟨m_597, m_598, m_599, m_123, m_600⟩ d_X2_readClause_23 rfl (st := [vr v5]) rfl (Nat.le_of_ble_eq_true rfl) (Nat.le_of_ble_eq_true rfl) (Nat.le_of_ble_eq_true rfl) (st2 := [vi v8, vr v5]) rfl ?_
    refine GW_iconst (X := X_X2_readClause) (pc := 26) (v := 0) d_X2_readClause_26 (by decide) ?_
    replace h := g_bd h
    obtain ⟨i9, hi9, h⟩ := h
    obtain ⟨rfl, ki9⟩ := g_gO hi9
    replace h := g_bd h
    obtain ⟨M10, hM10, h⟩ := h
    refine GW_callV (X := X_X2_readClause) (pc := 27) (bc0 := 0) (bs0 := 0) (r := none) (M2 := M10) (c0 := 9) (T_X9_blame (some i9) v8 (0 : Int32) M M10 hM10) (Nat.le_of_ble_eq_true rfl) (Nat.le_of_ble_eq_true rfl) rfl g_cok9 ki9 yc_X9_blame ⟨m_601, m_602, m_603, m_123, m_604⟩ d_X2_readClause_27 rfl (st := []) rfl (Nat.le_of_ble_eq_true rfl) (Nat.le_of_ble_eq_true rfl) (Nat.le_of_ble_eq_true rfl) (st2 := []) rfl ?_
    refine GW_goto (X := X_X2_readClause) (pc := 30) 102 d_X2_readClause_30 (by decide) ?_
    replace h := Option.some.inj h
    subst h
    exact GW_ret (X := X_X2_readClause) (pc := 102) d_X2_readClause_102 rfl trivial
def F_X2_readClause (l0 : Option Nat) (l1 : Int32) (M : gM) : Option gM := F_X2_readClause_b0 l0 l1 M
theorem T_X2_readClause (l0 : Option Nat) (l1 : Int32) (M : gM) (r : gM) (h : F_X2_readClause l0 l1 M = some r) : g_Met 4 0 0 yX2_readClause X_X2_readClause [vr l0, vi l1] M (none, r) :=
  g_Met_of pn_RX2 rfl (Nat.le_of_ble_eq_true rfl) (fun h => by cases h) (GW_sub [0, 1] rfl (T_X2_readClause_b0 r l0 l1 M h))
/-! ForgetHeirs$Tape.expect(I)V -/
theorem d_X9_expect_0 : decode cX9_expect 0 = .ok (.aload_n 0, 1) := by decide +kernel
theorem d_X9_expect_1 : decode cX9_expect 1 = .ok (.invokevirtual 80, 3) := by decide +kernel
theorem d_X9_expect_4 : decode cX9_expect 4 = .ok (.iload_n 1, 1) := by decide +kernel
theorem d_X9_expect_5 : decode cX9_expect 5 = .ok (.if_icmp .eq 12, 3) := by decide +kernel
theorem d_X9_expect_8 : decode cX9_expect 8 = .ok (.aload_n 0, 1) := by decide +kernel
theorem d_X9_expect_9 : decode cX9_expect 9 = .ok (.aload_n 0, 1) := by decide +kernel
theorem d_X9_expect_10 : decode cX9_expect 10 = .ok (.invokevirtual 83, 3) := by decide +kernel
theorem d_X9_expect_13 : decode cX9_expect 13 = .ok (.iconst 0, 1) := by decide +kernel
theorem d_X9_expect_14 : decode cX9_expect 14 = .ok (.invokevirtual 86, 3) := by decide +kernel
theorem d_X9_expect_17 : decode cX9_expect 17 = .ok (.aload_n 0, 1) := by decide +kernel
theorem d_X9_expect_18 : decode cX9_expect 18 = .ok (.invokevirtual 90, 3) := by decide +kernel
theorem d_X9_expect_21 : decode cX9_expect 21 = .ok (.return_, 1) := by decide +kernel
abbrev X_X9_expect : gX := (RX9, cX9_expect, 2, none, false)
def F_X9_expect_b17 (l0 : Option Nat) (M : gM) : Option gM :=
  (gO 9 M l0).bind fun i1 => (F_X9_next (some i1) M).bind fun M2 => some M2
theorem T_X9_expect_b17 (r : gM) (l0 : Option Nat) (M : gM) (h : F_X9_expect_b17 l0 M = some r) : GW 1 0 0 X_X9_expect 17 [(0, vr l0)] [] M (none, r) := by
  delta F_X9_expect_b17 at h
  refine GW_aload_n (X := X_X9_expect) (pc := 17) d_X9_expect_17 rfl 0 rfl ?_
  replace h := g_bd h
  obtain ⟨i1, hi1, h⟩ := h
  obtain ⟨rfl, ki1⟩ := g_gO hi1
  replace h := g_bd h
  obtain ⟨M2, hM2, h⟩ := h
  refine GW_callV (X := X_X9_expect) (pc := 18) (bc0 := 0) (bs0 := 0) (r := none) (M2 := M2) (c0 := 9) (T_X9_next (some i1) M M2 hM2) (Nat.le_of_ble_eq_true rfl) (Nat.le_of_ble_eq_true rfl) rfl g_cok9 ki1 yc_X9_next ⟨m_628, m_610, m_611, m_123, m_612⟩ d_X9_expect_18 rfl (st := []) rfl (Nat.le_of_ble_eq_true rfl) (Nat.le_of_ble_eq_true rfl) (Nat.le_of_ble_eq_true rfl) (st2 := []) rfl ?_
  replace h := Option.some.inj h
  subst h
  exact GW_ret (X := X_X9_expect) (pc := 21) d_X9_expect_21 rfl trivial
def F_X9_expect_b0 (l0 : Option Nat) (l1 : Int32) (M : gM) : Option gM :=
  (gO 9 M l0).bind fun i1 => (F_X9_kind (some i1) M).bind fun v2 => if v2 = l1 then (F_X9_expect_b17 (some i1) M) else ((F_X9_place (some i1) M).bind fun v3 => (F_X9_blame (some i1) v3 (0 : Int32) M).bind fun M4 => F_X9_expect_b17 (some i1) M4)
theorem T_X9_expect_b0 (r : gM) (l0 : Option Nat) (l1 : Int32) (M : gM) (h : F_X9_expect_b0 l0 l1 M = some r) : GW 1 0 0 X_X9_expect 0 [(0, vr l0), (1, vi l1)] [] M (none, r) := by
  delta F_X9_expect_b0 at h
  refine GW_aload_n (X := X_X9_expect) (pc := 0) d_X9_expect_0 rfl 0 rfl ?_
  replace h := g_bd h
  obtain ⟨i1, hi1, h⟩ := h
  obtain ⟨rfl, ki1⟩ := g_gO hi1
  replace h := g_bd h
  obtain ⟨v2, hv2, h⟩ := h
  refine GW_callV (X := X_X9_expect) (pc := 1) (bc0 := 0) (bs0 := 0) (r := some (vi v2)) (M2 := M) (c0 := 9) (T_X9_kind (some i1) M v2 hv2) (Nat.le_of_ble_eq_true rfl) (Nat.le_of_ble_eq_true rfl) rfl g_cok9 ki1 yc_X9_kind ⟨m_625, m_591, m_592, m_123, m_593⟩ d_X9_expect_1 rfl (st := []) rfl (Nat.le_of_ble_eq_true rfl) (Nat.le_of_ble_eq_true rfl) (Nat.le_of_ble_eq_true rfl) (st2 := [vi v2]) rfl ?_
  refine GW_iload_n (X := X_X9_expect) (pc := 4) d_X9_expect_4 rfl 1 rfl ?_
  refine GW_icmp_eq (X := X_X9_expect) (pc := 5) 17 d_X9_expect_5 (by decide) (fun c => ?_) (fun c => ?_)
  · replace h := g_ip c h
    refine GW_sub [0] rfl ?_
    exact T_X9_expect_b17 r (some i1) M h
  · replace h := g_ie c h
    refine GW_aload_n (X := X_X9_expect) (pc := 8) d_X9_expect_8 rfl 0 rfl ?_
    refine GW_aload_n (X := X_X9_expect) (pc := 9) d_X9_expect_9 rfl 0 rfl ?_
    replace h := g_bd h
    obtain ⟨v3, hv3, h⟩ := h
    refine GW_callV (X := X_X9_expect) (pc := 10) (bc0 := 0) (bs0 := 0) (r := some (vi v3)) (M2 := M) (c0 := 9) (T_X9_place (some i1) M v3 hv3) (Nat.le_of_ble_eq_true rfl) (Nat.le_of_ble_eq_true rfl) rfl g_cok9 ki1 yc_X9_place ⟨m_626, m_598, m_599, m_123, m_600⟩ d_X9_expect_10 rfl (st := [vr (some i1)]) rfl (Nat.le_of_ble_eq_true rfl) (Nat.le_of_ble_eq_true rfl) (Nat.le_of_ble_eq_true rfl) (st2 := [vi v3, vr (some i1)]) rfl ?_
    refine GW_iconst (X := X_X9_expect) (pc := 13) (v := 0) d_X9_expect_13 (by decide) ?_
    replace h := g_bd h
    obtain ⟨M4, hM4, h⟩ := h
    refine GW_callV (X := X_X9_expect) (pc := 14) (bc0 := 0) (bs0 := 0) (r := none) (M2 := M4) (c0 := 9) (T_X9_blame (some i1) v3 (0 : Int32) M M4 hM4) (Nat.le_of_ble_eq_true rfl) (Nat.le_of_ble_eq_true rfl) rfl g_cok9 ki1 yc_X9_blame ⟨m_627, m_602, m_603, m_123, m_604⟩ d_X9_expect_14 rfl (st := []) rfl (Nat.le_of_ble_eq_true rfl) (Nat.le_of_ble_eq_true rfl) (Nat.le_of_ble_eq_true rfl) (st2 := []) rfl ?_
    refine GW_sub [0] rfl ?_
    exact T_X9_expect_b17 r (some i1) M4 h
def F_X9_expect (l0 : Option Nat) (l1 : Int32) (M : gM) : Option gM := F_X9_expect_b0 l0 l1 M
theorem T_X9_expect (l0 : Option Nat) (l1 : Int32) (M : gM) (r : gM) (h : F_X9_expect l0 l1 M = some r) : g_Met 1 0 0 yX9_expect X_X9_expect [vr l0, vi l1] M (none, r) :=
  g_Met_of pn_RX9 rfl (Nat.le_of_ble_eq_true rfl) (fun h => by cases h) (GW_sub [0, 1] rfl (T_X9_expect_b0 r l0 l1 M h))
/-! ForgetHeirs$Tape.goesOn()Z -/
theorem d_X9_goesOn_0 : decode cX9_goesOn 0 = .ok (.aload_n 0, 1) := by decide +kernel
theorem d_X9_goesOn_1 : decode cX9_goesOn 1 = .ok (.invokevirtual 76, 3) := by decide +kernel
theorem d_X9_goesOn_4 : decode cX9_goesOn 4 = .ok (.ifCond .ne 15, 3) := by decide +kernel
theorem d_X9_goesOn_7 : decode cX9_goesOn 7 = .ok (.aload_n 0, 1) := by decide +kernel
theorem d_X9_goesOn_8 : decode cX9_goesOn 8 = .ok (.invokevirtual 80, 3) := by decide +kernel
theorem d_X9_goesOn_11 : decode cX9_goesOn 11 = .ok (.sipush 256, 3) := by decide +kernel
theorem d_X9_goesOn_14 : decode cX9_goesOn 14 = .ok (.if_icmp .ne 5, 3) := by decide +kernel
theorem d_X9_goesOn_17 : decode cX9_goesOn 17 = .ok (.iconst 0, 1) := by decide +kernel
theorem d_X9_goesOn_18 : decode cX9_goesOn 18 = .ok (.ireturn, 1) := by decide +kernel
theorem d_X9_goesOn_19 : decode cX9_goesOn 19 = .ok (.aload_n 0, 1) := by decide +kernel
theorem d_X9_goesOn_20 : decode cX9_goesOn 20 = .ok (.bipush 59, 2) := by decide +kernel
theorem d_X9_goesOn_22 : decode cX9_goesOn 22 = .ok (.invokevirtual 93, 3) := by decide +kernel
theorem d_X9_goesOn_25 : decode cX9_goesOn 25 = .ok (.aload_n 0, 1) := by decide +kernel
theorem d_X9_goesOn_26 : decode cX9_goesOn 26 = .ok (.invokevirtual 76, 3) := by decide +kernel
theorem d_X9_goesOn_29 : decode cX9_goesOn 29 = .ok (.ifCond .ne 7, 3) := by decide +kernel
theorem d_X9_goesOn_32 : decode cX9_goesOn 32 = .ok (.iconst 1, 1) := by decide +kernel
theorem d_X9_goesOn_33 : decode cX9_goesOn 33 = .ok (.goto 4, 3) := by decide +kernel
theorem d_X9_goesOn_36 : decode cX9_goesOn 36 = .ok (.iconst 0, 1) := by decide +kernel
theorem d_X9_goesOn_37 : decode cX9_goesOn 37 = .ok (.ireturn, 1) := by decide +kernel
abbrev X_X9_goesOn : gX := (RX9, cX9_goesOn, 1, (some .boolean), false)
def F_X9_goesOn_b19 (l0 : Option Nat) (M : gM) : Option (Int32 × gM) :=
  (gO 9 M l0).bind fun i1 => (F_X9_expect (some i1) (59 : Int32) M).bind fun M2 => (gC 9 M2 i1).bind fun _ => (F_X9_isFaulty (some i1) M2).bind fun v4 => if v4 = 0 then (some ((1 : Int32), M2)) else (some ((0 : Int32), M2))
theorem T_X9_goesOn_b19 (r : (Int32 × gM)) (l0 : Option Nat) (M : gM) (h : F_X9_goesOn_b19 l0 M = some r) : GW 2 0 0 X_X9_goesOn 19 [(0, vr l0)] [] M (some (vi r.1), r.2) := by
  delta F_X9_goesOn_b19 at h
  refine GW_aload_n (X := X_X9_goesOn) (pc := 19) d_X9_goesOn_19 rfl 0 rfl ?_
  refine GW_bipush (X := X_X9_goesOn) (pc := 20) (v := 59) d_X9_goesOn_20 (by decide) ?_
  replace h := g_bd h
  obtain ⟨i1, hi1, h⟩ := h
  obtain ⟨rfl, ki1⟩ := g_gO hi1
  replace h := g_bd h
  obtain ⟨M2, hM2, h⟩ := h
  refine GW_callV (X := X_X9_goesOn) (pc := 22) (bc0 := 0) (bs0 := 0) (r := none) (M2 := M2) (c0 := 9) (T_X9_expect (some i1) (59 : Int32) M M2 hM2) (Nat.le_of_ble_eq_true rfl) (Nat.le_of_ble_eq_true rfl) rfl g_cok9 ki1 yc_X9_expect ⟨m_660, m_661, m_662, m_123, m_663⟩ d_X9_goesOn_22 rfl (st := []) rfl (Nat.le_of_ble_eq_true rfl) (Nat.le_of_ble_eq_true rfl) (Nat.le_of_ble_eq_true rfl) (st2 := []) rfl ?_
  refine GW_aload_n (X := X_X9_goesOn) (pc := 25) d_X9_goesOn_25 rfl 0 rfl ?_
  replace h := g_bd h
  obtain ⟨_, kk3, h⟩ := h
  replace kk3 := g_gC kk3
  replace h := g_bd h
  obtain ⟨v4, hv4, h⟩ := h
  refine GW_callV (X := X_X9_goesOn) (pc := 26) (bc0 := 0) (bs0 := 0) (r := some (vi v4)) (M2 := M2) (c0 := 9) (T_X9_isFaulty (some i1) M2 v4 hv4) (Nat.le_of_ble_eq_true rfl) (Nat.le_of_ble_eq_true rfl) rfl g_cok9 kk3 yc_X9_isFaulty ⟨m_621, m_622, m_623, m_123, m_624⟩ d_X9_goesOn_26 rfl (st := []) rfl (Nat.le_of_ble_eq_true rfl) (Nat.le_of_ble_eq_true rfl) (Nat.le_of_ble_eq_true rfl) (st2 := [vi v4]) rfl ?_
  refine GW_if_ne (X := X_X9_goesOn) (pc := 29) 36 d_X9_goesOn_29 (by decide) (fun c => ?_) (fun c => ?_)
  · replace h := g_ie c h
    refine GW_iconst (X := X_X9_goesOn) (pc := 36) (v := 0) d_X9_goesOn_36 (by decide) ?_
    replace h := Option.some.inj h
    subst h
    exact GW_ret (X := X_X9_goesOn) (pc := 37) d_X9_goesOn_37 rfl g_rok0
  · replace h := g_ip c h
    refine GW_iconst (X := X_X9_goesOn) (pc := 32) (v := 1) d_X9_goesOn_32 (by decide) ?_
    refine GW_goto (X := X_X9_goesOn) (pc := 33) 37 d_X9_goesOn_33 (by decide) ?_
    replace h := Option.some.inj h
    subst h
    exact GW_ret (X := X_X9_goesOn) (pc := 37) d_X9_goesOn_37 rfl g_rok1
def F_X9_goesOn_b0 (l0 : Option Nat) (M : gM) : Option (Int32 × gM) :=
  (gO 9 M l0).bind fun i1 => (F_X9_isFaulty (some i1) M).bind fun v2 => if v2 = 0 then ((F_X9_kind (some i1) M).bind fun v3 => if v3 = (256 : Int32) then (some ((0 : Int32), M)) else (F_X9_goesOn_b19 (some i1) M)) else (F_X9_goesOn_b19 (some i1) M)
theorem T_X9_goesOn_b0 (r : (Int32 × gM)) (l0 : Option Nat) (M : gM) (h : F_X9_goesOn_b0 l0 M = some r) : GW 2 0 0 X_X9_goesOn 0 [(0, vr l0)] [] M (some (vi r.1), r.2) := by
  delta F_X9_goesOn_b0 at h
  refine GW_aload_n (X := X_X9_goesOn) (pc := 0) d_X9_goesOn_0 rfl 0 rfl ?_
  replace h := g_bd h
  obtain ⟨i1, hi1, h⟩ := h
  obtain ⟨rfl, ki1⟩ := g_gO hi1
  replace h := g_bd h
  obtain ⟨v2, hv2, h⟩ := h
  refine GW_callV (X := X_X9_goesOn) (pc := 1) (bc0 := 0) (bs0 := 0) (r := some (vi v2)) (M2 := M) (c0 := 9) (T_X9_isFaulty (some i1) M v2 hv2) (Nat.le_of_ble_eq_true rfl) (Nat.le_of_ble_eq_true rfl) rfl g_cok9 ki1 yc_X9_isFaulty ⟨m_621, m_622, m_623, m_123, m_624⟩ d_X9_goesOn_1 rfl (st := []) rfl (Nat.le_of_ble_eq_true rfl) (Nat.le_of_ble_eq_true rfl) (Nat.le_of_ble_eq_true rfl) (st2 := [vi v2]) rfl ?_
  refine GW_if_ne (X := X_X9_goesOn) (pc := 4) 19 d_X9_goesOn_4 (by decide) (fun c => ?_) (fun c => ?_)
  · replace h := g_ie c h
    exact T_X9_goesOn_b19 r (some i1) M h
  · replace h := g_ip c h
    refine GW_aload_n (X := X_X9_goesOn) (pc := 7) d_X9_goesOn_7 rfl 0 rfl ?_
    replace h := g_bd h
    obtain ⟨v3, hv3, h⟩ := h
    refine GW_callV (X := X_X9_goesOn) (pc := 8) (bc0 := 0) (bs0 := 0) (r := some (vi v3)) (M2 := M) (c0 := 9) (T_X9_kind (some i1) M v3 hv3) (Nat.le_of_ble_eq_true rfl) (Nat.le_of_ble_eq_true rfl) rfl g_cok9 ki1 yc_X9_kind ⟨m_625, m_591, m_592, m_123, m_593⟩ d_X9_goesOn_8 rfl (st := []) rfl (Nat.le_of_ble_eq_true rfl) (Nat.le_of_ble_eq_true rfl) (Nat.le_of_ble_eq_true rfl) (st2 := [vi v3]) rfl ?_
    refine GW_sipush (X := X_X9_goesOn) (pc := 11) (v := 256) d_X9_goesOn_11 (by decide) ?_
    refine GW_icmp_ne (X := X_X9_goesOn) (pc := 14) 19 d_X9_goesOn_14 (by decide) (fun c => ?_) (fun c => ?_)
    · replace h := g_ie c h
      exact T_X9_goesOn_b19 r (some i1) M h
    · replace h := g_ip c h
      refine GW_iconst (X := X_X9_goesOn) (pc := 17) (v := 0) d_X9_goesOn_17 (by decide) ?_
      replace h := Option.some.inj h
      subst h
      exact GW_ret (X := X_X9_goesOn) (pc := 18) d_X9_goesOn_18 rfl g_rok0
def F_X9_goesOn (l0 : Option Nat) (M : gM) : Option (Int32 × gM) := F_X9_goesOn_b0 l0 M
theorem T_X9_goesOn (l0 : Option Nat) (M : gM) (r : (Int32 × gM)) (h : F_X9_goesOn l0 M = some r) : g_Met 2 0 0 yX9_goesOn X_X9_goesOn [vr l0] M (some (vi r.1), r.2) :=
  g_Met_of pn_RX9 rfl (Nat.le_of_ble_eq_true rfl) (fun h => by cases h) (GW_sub [0] rfl (T_X9_goesOn_b0 r l0 M h))
/-! ForgetHeirs$HouseReader.read()LForgetHeirs$House; -/
theorem d_X2_read_0 : decode cX2_read 0 = .ok (.aload_n 0, 1) := by decide +kernel
theorem d_X2_read_1 : decode cX2_read 1 = .ok (.getfield 25, 3) := by decide +kernel
theorem d_X2_read_4 : decode cX2_read 4 = .ok (.invokevirtual 29, 3) := by decide +kernel
theorem d_X2_read_7 : decode cX2_read 7 = .ok (.aload_n 0, 1) := by decide +kernel
theorem d_X2_read_8 : decode cX2_read 8 = .ok (.new 9, 3) := by decide +kernel
theorem d_X2_read_11 : decode cX2_read 11 = .ok (.dup, 1) := by decide +kernel
theorem d_X2_read_12 : decode cX2_read 12 = .ok (.invokespecial 11, 3) := by decide +kernel
theorem d_X2_read_15 : decode cX2_read 15 = .ok (.putfield 12, 3) := by decide +kernel
theorem d_X2_read_18 : decode cX2_read 18 = .ok (.aload_n 0, 1) := by decide +kernel
theorem d_X2_read_19 : decode cX2_read 19 = .ok (.getfield 21, 3) := by decide +kernel
theorem d_X2_read_22 : decode cX2_read 22 = .ok (.invokevirtual 34, 3) := by decide +kernel
theorem d_X2_read_25 : decode cX2_read 25 = .ok (.iconst 1, 1) := by decide +kernel
theorem d_X2_read_26 : decode cX2_read 26 = .ok (.istore_n 1, 1) := by decide +kernel
theorem d_X2_read_27 : decode cX2_read 27 = .ok (.iconst 1, 1) := by decide +kernel
theorem d_X2_read_28 : decode cX2_read 28 = .ok (.istore_n 2, 1) := by decide +kernel
theorem d_X2_read_29 : decode cX2_read 29 = .ok (.iload_n 2, 1) := by decide +kernel
theorem d_X2_read_30 : decode cX2_read 30 = .ok (.bipush 41, 2) := by decide +kernel
theorem d_X2_read_32 : decode cX2_read 32 = .ok (.if_icmp .gt 26, 3) := by decide +kernel
theorem d_X2_read_35 : decode cX2_read 35 = .ok (.iload_n 1, 1) := by decide +kernel
theorem d_X2_read_36 : decode cX2_read 36 = .ok (.ifCond .eq 22, 3) := by decide +kernel
theorem d_X2_read_39 : decode cX2_read 39 = .ok (.aload_n 0, 1) := by decide +kernel
theorem d_X2_read_40 : decode cX2_read 40 = .ok (.iload_n 2, 1) := by decide +kernel
theorem d_X2_read_41 : decode cX2_read 41 = .ok (.invokevirtual 37, 3) := by decide +kernel
theorem d_X2_read_44 : decode cX2_read 44 = .ok (.aload_n 0, 1) := by decide +kernel
theorem d_X2_read_45 : decode cX2_read 45 = .ok (.getfield 25, 3) := by decide +kernel
theorem d_X2_read_48 : decode cX2_read 48 = .ok (.invokevirtual 41, 3) := by decide +kernel
theorem d_X2_read_51 : decode cX2_read 51 = .ok (.istore_n 1, 1) := by decide +kernel
theorem d_X2_read_52 : decode cX2_read 52 = .ok (.iinc 2 1, 3) := by decide +kernel
theorem d_X2_read_55 : decode cX2_read 55 = .ok (.goto (-26), 3) := by decide +kernel
theorem d_X2_read_58 : decode cX2_read 58 = .ok (.aload_n 0, 1) := by decide +kernel
theorem d_X2_read_59 : decode cX2_read 59 = .ok (.getfield 25, 3) := by decide +kernel
theorem d_X2_read_62 : decode cX2_read 62 = .ok (.invokevirtual 45, 3) := by decide +kernel
theorem d_X2_read_65 : decode cX2_read 65 = .ok (.ifCond .eq 5, 3) := by decide +kernel
theorem d_X2_read_68 : decode cX2_read 68 = .ok (.aconst_null, 1) := by decide +kernel
theorem d_X2_read_69 : decode cX2_read 69 = .ok (.areturn, 1) := by decide +kernel
theorem d_X2_read_70 : decode cX2_read 70 = .ok (.aload_n 0, 1) := by decide +kernel
theorem d_X2_read_71 : decode cX2_read 71 = .ok (.getfield 12, 3) := by decide +kernel
theorem d_X2_read_74 : decode cX2_read 74 = .ok (.iconst 1, 1) := by decide +kernel
theorem d_X2_read_75 : decode cX2_read 75 = .ok (.putfield 48, 3) := by decide +kernel
theorem d_X2_read_78 : decode cX2_read 78 = .ok (.aload_n 0, 1) := by decide +kernel
theorem d_X2_read_79 : decode cX2_read 79 = .ok (.getfield 12, 3) := by decide +kernel
theorem d_X2_read_82 : decode cX2_read 82 = .ok (.areturn, 1) := by decide +kernel
abbrev X_X2_read : gX := (RX2, cX2_read, 3, (some (.object "ForgetHeirs$House")), false)
def F_X2_read_b58 (l0 : Option Nat) (M : gM) : Option ((Option Nat) × gM) :=
  (gR 2 M l0 0).bind fun v1 => (gO 9 M v1).bind fun i2 => (F_X9_isFaulty (some i2) M).bind fun v3 => if v3 = 0 then ((gR 2 M l0 1).bind fun v4 => (pI 1 M v4 5 (1 : Int32)).bind fun M5 => (gR 2 M5 l0 1).bind fun v6 => some (v6, M5)) else (some (none, M))
theorem T_X2_read_b58 (r : ((Option Nat) × gM)) (l0 : Option Nat) (M : gM) (h : F_X2_read_b58 l0 M = some r) : GW 6 0 0 X_X2_read 58 [(0, vr l0)] [] M (some (vr r.1), r.2) := by
  delta F_X2_read_b58 at h
  refine GW_aload_n (X := X_X2_read) (pc := 58) d_X2_read_58 rfl 0 rfl ?_
  replace h := g_bd h
  obtain ⟨v1, hv1, h⟩ := h
  refine GW_getR (X := X_X2_read) (pc := 59) f_X2_25 d_X2_read_59 hv1 (Or.inl ⟨_, ty_2_0⟩) ?_
  replace h := g_bd h
  obtain ⟨i2, hi2, h⟩ := h
  obtain ⟨rfl, ki2⟩ := g_gO hi2
  replace h := g_bd h
  obtain ⟨v3, hv3, h⟩ := h
  refine GW_callV (X := X_X2_read) (pc := 62) (bc0 := 0) (bs0 := 0) (r := some (vi v3)) (M2 := M) (c0 := 9) (T_X9_isFaulty (some i2) M v3 hv3) (Nat.le_of_ble_eq_true rfl) (Nat.le_of_ble_eq_true rfl) rfl g_cok9 ki2 yc_X9_isFaulty ⟨m_633, m_622, m_623, m_123, m_624⟩ d_X2_read_62 rfl (st := []) rfl (Nat.le_of_ble_eq_true rfl) (Nat.le_of_ble_eq_true rfl) (Nat.le_of_ble_eq_true rfl) (st2 := [vi v3]) rfl ?_
  refine GW_if_eq (X := X_X2_read) (pc := 65) 70 d_X2_read_65 (by decide) (fun c => ?_) (fun c => ?_)
  · replace h := g_ip c h
    refine GW_aload_n (X := X_X2_read) (pc := 70) d_X2_read_70 rfl 0 rfl ?_
    replace h := g_bd h
    obtain ⟨v4, hv4, h⟩ := h
    refine GW_getR (X := X_X2_read) (pc := 71) f_X2_12 d_X2_read_71 hv4 (Or.inl ⟨_, ty_2_1⟩) ?_
    refine GW_iconst (X := X_X2_read) (pc := 74) (v := 1) d_X2_read_74 (by decide) ?_
    replace h := g_bd h
    obtain ⟨M5, hM5, h⟩ := h
    refine GW_putI (X := X_X2_read) (pc := 75) f_X2_48 d_X2_read_75 hM5 (Or.inl fi_1_5) (Or.inr ⟨ty_1_5, by decide⟩) ?_
    refine GW_aload_n (X := X_X2_read) (pc := 78) d_X2_read_78 rfl 0 rfl ?_
    replace h := g_bd h
    obtain ⟨v6, hv6, h⟩ := h
    refine GW_getR (X := X_X2_read) (pc := 79) f_X2_12 d_X2_read_79 hv6 (Or.inl ⟨_, ty_2_1⟩) ?_
    replace h := Option.some.inj h
    subst h
    exact GW_ret (X := X_X2_read) (pc := 82) d_X2_read_82 rfl trivial
  · replace h := g_ie c h
    refine GW_null (X := X_X2_read) (pc := 68) d_X2_read_68 ?_
    replace h := Option.some.inj h
    subst h
    exact GW_ret (X := X_X2_read) (pc := 69) d_X2_read_69 rfl trivial
def F_X2_read_b29 (k29 : Option Nat → Int32 → Int32 → gM → Option ((Option Nat) × gM)) (l0 : Option Nat) (l1 : Int32) (l2 : Int32) (M : gM) : Option ((Option Nat) × gM) :=
  if (41 : Int32) < l2 then (F_X2_read_b58 l0 M) else (if l1 = 0 then (F_X2_read_b58 l0 M) else ((gO 2 M l0).bind fun i1 => (F_X2_readClause (some i1) l2 M).bind fun M2 => (gR 2 M2 (some i1) 0).bind fun v3 => (gO 9 M2 v3).bind fun i4 => (F_X9_goesOn (some i4) M2).bind fun (v5, M6) => k29 (some i1) v5 (l2 + 1) M6))
theorem T_X2_read_b29 (k29 : Option Nat → Int32 → Int32 → gM → Option ((Option Nat) × gM)) (r : ((Option Nat) × gM)) (hk29 : ∀ (l0 : Option Nat) (l1 : Int32) (l2 : Int32) (M : gM), k29 l0 l1 l2 M = some r → GW 6 0 0 X_X2_read 29 [(0, vr l0), (1, vi l1), (2, vi l2)] [] M (some (vr r.1), r.2)) (l0 : Option Nat) (l1 : Int32) (l2 : Int32) (M : gM) (h : F_X2_read_b29 k29 l0 l1 l2 M = some r) : GW 6 0 0 X_X2_read 29 [(0, vr l0), (1, vi l1), (2, vi l2)] [] M (some (vr r.1), r.2) := by
  delta F_X2_read_b29 at h
  refine GW_iload_n (X := X_X2_read) (pc := 29) d_X2_read_29 rfl 2 rfl ?_
  refine GW_bipush (X := X_X2_read) (pc := 30) (v := 41) d_X2_read_30 (by decide) ?_
  refine GW_icmp_gt (X := X_X2_read) (pc := 32) 58 d_X2_read_32 (by decide) (fun c => ?_) (fun c => ?_)
  · replace h := g_ip c h
    refine GW_sub [0] rfl ?_
    exact T_X2_read_b58 r l0 M h
  · replace h := g_ie c h
    refine GW_iload_n (X := X_X2_read) (pc := 35) d_X2_read_35 rfl 1 rfl ?_
    refine GW_if_eq (X := X_X2_read) (pc := 36) 58 d_X2_read_36 (by decide) (fun c => ?_) (fun c => ?_)
    · replace h := g_ip c h
      refine GW_sub [0] rfl ?_
      exact T_X2_read_b58 r l0 M h
    · replace h := g_ie c h
      refine GW_aload_n (X := X_X2_read) (pc := 39) d_X2_read_39 rfl 0 rfl ?_
      refine GW_iload_n (X := X_X2_read) (pc := 40) d_X2_read_40 rfl 2 rfl ?_
      replace h := g_bd h
      obtain ⟨i1, hi1, h⟩ := h
      obtain ⟨rfl, ki1⟩ := g_gO hi1
      replace h := g_bd h
      obtain ⟨M2, hM2, h⟩ := h
      refine GW_callV (X := X_X2_read) (pc := 41) (bc0 := 0) (bs0 := 0) (r := none) (M2 := M2) (c0 := 2) (T_X2_readClause (some i1) l2 M M2 hM2) (Nat.le_of_ble_eq_true rfl) (Nat.le_of_ble_eq_true rfl) rfl g_cok2 ki1 yc_X2_readClause ⟨m_586, m_588, m_5, m_124, m_589⟩ d_X2_read_41 rfl (st := []) rfl (Nat.le_of_ble_eq_true rfl) (Nat.le_of_ble_eq_true rfl) (Nat.le_of_ble_eq_true rfl) (st2 := []) rfl ?_
      refine GW_aload_n (X := X_X2_read) (pc := 44) d_X2_read_44 rfl 0 rfl ?_
      replace h := g_bd h
      obtain ⟨v3, hv3, h⟩ := h
      refine GW_getR (X := X_X2_read) (pc := 45) f_X2_25 d_X2_read_45 hv3 (Or.inl ⟨_, ty_2_0⟩) ?_
      replace h := g_bd h
      obtain ⟨i4, hi4, h⟩ := h
      obtain ⟨rfl, ki4⟩ := g_gO hi4
      replace h := g_bd h
      obtain ⟨⟨v5, M6⟩, hv5, h⟩ := h
      dsimp only at h
      refine GW_callV (X := X_X2_read) (pc := 48) (bc0 := 0) (bs0 := 0) (r := some (vi v5)) (M2 := M6) (c0 := 9) (T_X9_goesOn (some i4) M2 (v5, M6) hv5) (Nat.le_of_ble_eq_true rfl) (Nat.le_of_ble_eq_true rfl) rfl g_cok9 ki4 yc_X9_goesOn ⟨m_656, m_657, m_658, m_123, m_659⟩ d_X2_read_48 rfl (st := []) rfl (Nat.le_of_ble_eq_true rfl) (Nat.le_of_ble_eq_true rfl) (Nat.le_of_ble_eq_true rfl) (st2 := [vi v5]) rfl ?_
      refine GW_istore_n (X := X_X2_read) (pc := 51) d_X2_read_51 rfl (Nat.le_of_ble_eq_true rfl) (lv2 := [(1, vi v5), (0, vr (some i1)), (2, vi l2)]) rfl ?_
      refine GW_iinc (j := 2) (X := X_X2_read) (pc := 52) d_X2_read_52 rfl (congrArg (fun z => _ + z) (by decide : Int32.ofInt 1 = (1 : Int32))) (Nat.le_of_ble_eq_true rfl) (lv2 := [(2, vi (l2 + 1)), (1, vi v5), (0, vr (some i1))]) rfl ?_
      refine GW_goto (X := X_X2_read) (pc := 55) 29 d_X2_read_55 (by decide) ?_
      refine GW_sub [2, 1, 0] rfl ?_
      exact hk29 (some i1) v5 (l2 + 1) M6 h
def F_X2_read_L29 : Nat → Option Nat → Int32 → Int32 → gM → Option ((Option Nat) × gM)
  | 0 => fun _ _ _ _ => none
  | n + 1 => F_X2_read_b29 (F_X2_read_L29 n)
theorem T_X2_read_L29 (r : ((Option Nat) × gM)) : ∀ (n : Nat) (l0 : Option Nat) (l1 : Int32) (l2 : Int32) (M : gM), F_X2_read_L29 n l0 l1 l2 M = some r → GW 6 0 0 X_X2_read 29 [(0, vr l0), (1, vi l1), (2, vi l2)] [] M (some (vr r.1), r.2) := by
  intro n
  induction n with
  | zero => intro l0 l1 l2 M h; exact g_no h
  | succ n ih => intro l0 l1 l2 M h; exact T_X2_read_b29 (F_X2_read_L29 n) r ih l0 l1 l2 M h
def F_X2_read_b0 (l0 : Option Nat) (M : gM) : Option ((Option Nat) × gM) :=
  (gR 2 M l0 0).bind fun v1 => (gO 9 M v1).bind fun i2 => (F_X9_split (some i2) M).bind fun M3 => (F_X1_init M3.1.length (nw (1, 0) M3)).bind fun M4 => (pR 2 M4 l0 1 (some M3.1.length)).bind fun M5 => (gR 2 M5 l0 2).bind fun v6 => (gO 8 M5 v6).bind fun i7 => (F_X8_clear (some i7) M5).bind fun M8 => F_X2_read_L29 g_fuel l0 (1 : Int32) (1 : Int32) M8
theorem T_X2_read_b0 (r : ((Option Nat) × gM)) (l0 : Option Nat) (M : gM) (h : F_X2_read_b0 l0 M = some r) : GW 6 6 46 X_X2_read 0 [(0, vr l0)] [] M (some (vr r.1), r.2) := by
  delta F_X2_read_b0 at h
  refine GW_aload_n (X := X_X2_read) (pc := 0) d_X2_read_0 rfl 0 rfl ?_
  replace h := g_bd h
  obtain ⟨v1, hv1, h⟩ := h
  refine GW_getR (X := X_X2_read) (pc := 1) f_X2_25 d_X2_read_1 hv1 (Or.inl ⟨_, ty_2_0⟩) ?_
  replace h := g_bd h
  obtain ⟨i2, hi2, h⟩ := h
  obtain ⟨rfl, ki2⟩ := g_gO hi2
  replace h := g_bd h
  obtain ⟨M3, hM3, h⟩ := h
  refine GW_callV (X := X_X2_read) (pc := 4) (bc0 := 6) (bs0 := 46) (r := none) (M2 := M3) (c0 := 9) (T_X9_split (some i2) M M3 hM3) (Nat.le_of_ble_eq_true rfl) (Nat.le_of_ble_eq_true rfl) rfl g_cok9 ki2 yc_X9_split ⟨m_502, m_503, m_504, m_123, m_505⟩ d_X2_read_4 rfl (st := []) rfl (Nat.le_of_ble_eq_true rfl) (Nat.le_of_ble_eq_true rfl) (Nat.le_of_ble_eq_true rfl) (st2 := []) rfl ?_
  refine GW_aload_n (X := X_X2_read) (pc := 7) d_X2_read_7 rfl 0 rfl ?_
  refine GW_new (X := X_X2_read) (pc := 8) (c := 1) g_cok1 nf_1 ⟨m_372, m_261, m_122⟩ d_X2_read_8 5 35 rfl rfl ?_
  refine GW_dup (X := X_X2_read) (pc := 11) d_X2_read_11 rfl ?_
  replace h := g_bd h
  obtain ⟨M4, hM4, h⟩ := h
  refine GW_callIN (X := X_X2_read) (pc := 12) (bc0 := 0) (bs0 := 0) (M2 := M4) (host := RX11) (T_X1_init M3.1.length (nw (1, 0) M3) M4 hM4) (Nat.le_of_ble_eq_true rfl) (Nat.le_of_ble_eq_true rfl) rfl rfl yc_X1_init (List.mem_of_getElem? (i := 7) rfl) ⟨m_263, m_122, m_264⟩ d_X2_read_12 rfl (st := [vr (some M3.1.length), vr l0]) rfl (Nat.le_of_ble_eq_true rfl) (Nat.le_of_ble_eq_true rfl) (Nat.le_of_ble_eq_true rfl) ?_
  replace h := g_bd h
  obtain ⟨M5, hM5, h⟩ := h
  refine GW_putR (X := X_X2_read) (pc := 15) f_X2_12 d_X2_read_15 hM5 (Or.inl fi_2_1) (Or.inl ⟨_, ty_2_1⟩) ?_
  refine GW_aload_n (X := X_X2_read) (pc := 18) d_X2_read_18 rfl 0 rfl ?_
  replace h := g_bd h
  obtain ⟨v6, hv6, h⟩ := h
  refine GW_getR (X := X_X2_read) (pc := 19) f_X2_21 d_X2_read_19 hv6 (Or.inl ⟨_, ty_2_2⟩) ?_
  replace h := g_bd h
  obtain ⟨i7, hi7, h⟩ := h
  obtain ⟨rfl, ki7⟩ := g_gO hi7
  replace h := g_bd h
  obtain ⟨M8, hM8, h⟩ := h
  refine GW_callV (X := X_X2_read) (pc := 22) (bc0 := 0) (bs0 := 0) (r := none) (M2 := M8) (c0 := 8) (T_X8_clear (some i7) M5 M8 hM8) (Nat.le_of_ble_eq_true rfl) (Nat.le_of_ble_eq_true rfl) rfl g_cok8 ki7 yc_X8_clear ⟨m_582, m_583, m_584, m_119, m_585⟩ d_X2_read_22 rfl (st := []) rfl (Nat.le_of_ble_eq_true rfl) (Nat.le_of_ble_eq_true rfl) (Nat.le_of_ble_eq_true rfl) (st2 := []) rfl ?_
  refine GW_iconst (X := X_X2_read) (pc := 25) (v := 1) d_X2_read_25 (by decide) ?_
  refine GW_istore_n (X := X_X2_read) (pc := 26) d_X2_read_26 rfl (Nat.le_of_ble_eq_true rfl) (lv2 := [(1, vi (1 : Int32)), (0, vr l0)]) rfl ?_
  refine GW_iconst (X := X_X2_read) (pc := 27) (v := 1) d_X2_read_27 (by decide) ?_
  refine GW_istore_n (X := X_X2_read) (pc := 28) d_X2_read_28 rfl (Nat.le_of_ble_eq_true rfl) (lv2 := [(2, vi (1 : Int32)), (1, vi (1 : Int32)), (0, vr l0)]) rfl ?_
  refine GW_sub [2, 1, 0] rfl ?_
  exact T_X2_read_L29 r g_fuel l0 (1 : Int32) (1 : Int32) M8 h
def F_X2_read (l0 : Option Nat) (M : gM) : Option ((Option Nat) × gM) := F_X2_read_b0 l0 M
theorem T_X2_read (l0 : Option Nat) (M : gM) (r : ((Option Nat) × gM)) (h : F_X2_read l0 M = some r) : g_Met 6 6 46 yX2_read X_X2_read [vr l0] M (some (vr r.1), r.2) :=
  g_Met_of pn_RX2 rfl (Nat.le_of_ble_eq_true rfl) (fun h => by cases h) (GW_sub [0] rfl (T_X2_read_b0 r l0 M h))
/-! ForgetHeirs$State.copy(LForgetHeirs$State;)V -/
theorem d_X8_copy_0 : decode cX8_copy 0 = .ok (.aload_n 1, 1) := by decide +kernel
theorem d_X8_copy_1 : decode cX8_copy 1 = .ok (.getfield 9, 3) := by decide +kernel
theorem d_X8_copy_4 : decode cX8_copy 4 = .ok (.iconst 0, 1) := by decide +kernel
theorem d_X8_copy_5 : decode cX8_copy 5 = .ok (.aload_n 0, 1) := by decide +kernel
theorem d_X8_copy_6 : decode cX8_copy 6 = .ok (.getfield 9, 3) := by decide +kernel
theorem d_X8_copy_9 : decode cX8_copy 9 = .ok (.iconst 0, 1) := by decide +kernel
theorem d_X8_copy_10 : decode cX8_copy 10 = .ok (.bipush 49, 2) := by decide +kernel
theorem d_X8_copy_12 : decode cX8_copy 12 = .ok (.invokestatic 34, 3) := by decide +kernel
theorem d_X8_copy_15 : decode cX8_copy 15 = .ok (.aload_n 1, 1) := by decide +kernel
theorem d_X8_copy_16 : decode cX8_copy 16 = .ok (.getfield 15, 3) := by decide +kernel
theorem d_X8_copy_19 : decode cX8_copy 19 = .ok (.iconst 0, 1) := by decide +kernel
theorem d_X8_copy_20 : decode cX8_copy 20 = .ok (.aload_n 0, 1) := by decide +kernel
theorem d_X8_copy_21 : decode cX8_copy 21 = .ok (.getfield 15, 3) := by decide +kernel
theorem d_X8_copy_24 : decode cX8_copy 24 = .ok (.iconst 0, 1) := by decide +kernel
theorem d_X8_copy_25 : decode cX8_copy 25 = .ok (.bipush 49, 2) := by decide +kernel
theorem d_X8_copy_27 : decode cX8_copy 27 = .ok (.invokestatic 34, 3) := by decide +kernel
theorem d_X8_copy_30 : decode cX8_copy 30 = .ok (.aload_n 1, 1) := by decide +kernel
theorem d_X8_copy_31 : decode cX8_copy 31 = .ok (.getfield 18, 3) := by decide +kernel
theorem d_X8_copy_34 : decode cX8_copy 34 = .ok (.iconst 0, 1) := by decide +kernel
theorem d_X8_copy_35 : decode cX8_copy 35 = .ok (.aload_n 0, 1) := by decide +kernel
theorem d_X8_copy_36 : decode cX8_copy 36 = .ok (.getfield 18, 3) := by decide +kernel
theorem d_X8_copy_39 : decode cX8_copy 39 = .ok (.iconst 0, 1) := by decide +kernel
theorem d_X8_copy_40 : decode cX8_copy 40 = .ok (.bipush 7, 2) := by decide +kernel
theorem d_X8_copy_42 : decode cX8_copy 42 = .ok (.invokestatic 34, 3) := by decide +kernel
theorem d_X8_copy_45 : decode cX8_copy 45 = .ok (.aload_n 1, 1) := by decide +kernel
theorem d_X8_copy_46 : decode cX8_copy 46 = .ok (.getfield 21, 3) := by decide +kernel
theorem d_X8_copy_49 : decode cX8_copy 49 = .ok (.iconst 0, 1) := by decide +kernel
theorem d_X8_copy_50 : decode cX8_copy 50 = .ok (.aload_n 0, 1) := by decide +kernel
theorem d_X8_copy_51 : decode cX8_copy 51 = .ok (.getfield 21, 3) := by decide +kernel
theorem d_X8_copy_54 : decode cX8_copy 54 = .ok (.iconst 0, 1) := by decide +kernel
theorem d_X8_copy_55 : decode cX8_copy 55 = .ok (.bipush 7, 2) := by decide +kernel
theorem d_X8_copy_57 : decode cX8_copy 57 = .ok (.invokestatic 34, 3) := by decide +kernel
theorem d_X8_copy_60 : decode cX8_copy 60 = .ok (.aload_n 0, 1) := by decide +kernel
theorem d_X8_copy_61 : decode cX8_copy 61 = .ok (.aload_n 1, 1) := by decide +kernel
theorem d_X8_copy_62 : decode cX8_copy 62 = .ok (.getfield 24, 3) := by decide +kernel
theorem d_X8_copy_65 : decode cX8_copy 65 = .ok (.putfield 24, 3) := by decide +kernel
theorem d_X8_copy_68 : decode cX8_copy 68 = .ok (.aload_n 0, 1) := by decide +kernel
theorem d_X8_copy_69 : decode cX8_copy 69 = .ok (.aload_n 1, 1) := by decide +kernel
theorem d_X8_copy_70 : decode cX8_copy 70 = .ok (.getfield 28, 3) := by decide +kernel
theorem d_X8_copy_73 : decode cX8_copy 73 = .ok (.putfield 28, 3) := by decide +kernel
theorem d_X8_copy_76 : decode cX8_copy 76 = .ok (.aload_n 0, 1) := by decide +kernel
theorem d_X8_copy_77 : decode cX8_copy 77 = .ok (.aload_n 1, 1) := by decide +kernel
theorem d_X8_copy_78 : decode cX8_copy 78 = .ok (.getfield 31, 3) := by decide +kernel
theorem d_X8_copy_81 : decode cX8_copy 81 = .ok (.putfield 31, 3) := by decide +kernel
theorem d_X8_copy_84 : decode cX8_copy 84 = .ok (.return_, 1) := by decide +kernel
abbrev X_X8_copy : gX := (RX8, cX8_copy, 2, none, false)
def F_X8_copy_b0 (l0 : Option Nat) (l1 : Option Nat) (M : gM) : Option gM :=
  (gR 8 M l1 0).bind fun v1 => (gR 8 M l0 0).bind fun v2 => (cpI M v1 (0 : Int32) v2 (0 : Int32) (49 : Int32)).bind fun M3 => (gR 8 M3 l1 1).bind fun v4 => (gR 8 M3 l0 1).bind fun v5 => (cpI M3 v4 (0 : Int32) v5 (0 : Int32) (49 : Int32)).bind fun M6 => (gR 8 M6 l1 2).bind fun v7 => (gR 8 M6 l0 2).bind fun v8 => (cpI M6 v7 (0 : Int32) v8 (0 : Int32) (7 : Int32)).bind fun M9 => (gR 8 M9 l1 3).bind fun v10 => (gR 8 M9 l0 3).bind fun v11 => (cpI M9 v10 (0 : Int32) v11 (0 : Int32) (7 : Int32)).bind fun M12 => (gI 8 M12 l1 4).bind fun v13 => (pI 8 M12 l0 4 v13).bind fun M14 => (gI 8 M14 l1 5).bind fun v15 => (pI 8 M14 l0 5 v15).bind fun M16 => (gI 8 M16 l1 6).bind fun v17 => (pI 8 M16 l0 6 v17).bind fun M18 => some M18
set_option maxHeartbeats 1000000 in
theorem T_X8_copy_b0 (r : gM) (l0 : Option Nat) (l1 : Option Nat) (M : gM) (h : F_X8_copy_b0 l0 l1 M = some r) : GW 1 0 0 X_X8_copy 0 [(0, vr l0), (1, vr l1)] [] M (none, r) := by
  delta F_X8_copy_b0 at h
  refine GW_aload_n (X := X_X8_copy) (pc := 0) d_X8_copy_0 rfl 1 rfl ?_
  replace h := g_bd h
  obtain ⟨v1, hv1, h⟩ := h
  refine GW_getR (X := X_X8_copy) (pc := 1) f_X8_9 d_X8_copy_1 hv1 (Or.inr ⟨_, ty_8_0⟩) ?_
  refine GW_iconst (X := X_X8_copy) (pc := 4) (v := 0) d_X8_copy_4 (by decide) ?_
  refine GW_aload_n (X := X_X8_copy) (pc := 5) d_X8_copy_5 rfl 0 rfl ?_
  replace h := g_bd h
  obtain ⟨v2, hv2, h⟩ := h
  refine GW_getR (X := X_X8_copy) (pc := 6) f_X8_9 d_X8_copy_6 hv2 (Or.inr ⟨_, ty_8_0⟩) ?_
  refine GW_iconst (X := X_X8_copy) (pc := 9) (v := 0) d_X8_copy_9 (by decide) ?_
  refine GW_bipush (X := X_X8_copy) (pc := 10) (v := 49) d_X8_copy_10 (by decide) ?_
  replace h := g_bd h
  obtain ⟨M3, hM3, h⟩ := h
  refine GW_copy (X := X_X8_copy) (pc := 12) ⟨m_668, g_w_arr.1.2, g_w_arr.1.1, g_w_arr.2⟩ d_X8_copy_12 hM3 (Nat.le_of_ble_eq_true rfl) (Nat.le_of_ble_eq_true rfl) ?_
  refine GW_aload_n (X := X_X8_copy) (pc := 15) d_X8_copy_15 rfl 1 rfl ?_
  replace h := g_bd h
  obtain ⟨v4, hv4, h⟩ := h
  refine GW_getR (X := X_X8_copy) (pc := 16) f_X8_15 d_X8_copy_16 hv4 (Or.inr ⟨_, ty_8_1⟩) ?_
  refine GW_iconst (X := X_X8_copy) (pc := 19) (v := 0) d_X8_copy_19 (by decide) ?_
  refine GW_aload_n (X := X_X8_copy) (pc := 20) d_X8_copy_20 rfl 0 rfl ?_
  replace h := g_bd h
  obtain ⟨v5, hv5, h⟩ := h
  refine GW_getR (X := X_X8_copy) (pc := 21) f_X8_15 d_X8_copy_21 hv5 (Or.inr ⟨_, ty_8_1⟩) ?_
  refine GW_iconst (X := X_X8_copy) (pc := 24) (v := 0) d_X8_copy_24 (by decide) ?_
  refine GW_bipush (X := X_X8_copy) (pc := 25) (v := 49) d_X8_copy_25 (by decide) ?_
  replace h := g_bd h
  obtain ⟨M6, hM6, h⟩ := h
  refine GW_copy (X := X_X8_copy) (pc := 27) ⟨m_668, g_w_arr.1.2, g_w_arr.1.1, g_w_arr.2⟩ d_X8_copy_27 hM6 (Nat.le_of_ble_eq_true rfl) (Nat.le_of_ble_eq_true rfl) ?_
  refine GW_aload_n (X := X_X8_copy) (pc := 30) d_X8_copy_30 rfl 1 rfl ?_
  replace h := g_bd h
  obtain ⟨v7, hv7, h⟩ := h
  refine GW_getR (X := X_X8_copy) (pc := 31) f_X8_18 d_X8_copy_31 hv7 (Or.inr ⟨_, ty_8_2⟩) ?_
  refine GW_iconst (X := X_X8_copy) (pc := 34) (v := 0) d_X8_copy_34 (by decide) ?_
  refine GW_aload_n (X := X_X8_copy) (pc := 35) d_X8_copy_35 rfl 0 rfl ?_
  replace h := g_bd h
  obtain ⟨v8, hv8, h⟩ := h
  refine GW_getR (X := X_X8_copy) (pc := 36) f_X8_18 d_X8_copy_36 hv8 (Or.inr ⟨_, ty_8_2⟩) ?_
  refine GW_iconst (X := X_X8_copy) (pc := 39) (v := 0) d_X8_copy_39 (by decide) ?_
  refine GW_bipush (X := X_X8_copy) (pc := 40) (v := 7) d_X8_copy_40 (by decide) ?_
  replace h := g_bd h
  obtain ⟨M9, hM9, h⟩ := h
  refine GW_copy (X := X_X8_copy) (pc := 42) ⟨m_668, g_w_arr.1.2, g_w_arr.1.1, g_w_arr.2⟩ d_X8_copy_42 hM9 (Nat.le_of_ble_eq_true rfl) (Nat.le_of_ble_eq_true rfl) ?_
  refine GW_aload_n (X := X_X8_copy) (pc := 45) d_X8_copy_45 rfl 1 rfl ?_
  replace h := g_bd h
  obtain ⟨v10, hv10, h⟩ := h
  refine GW_getR (X := X_X8_copy) (pc := 46) f_X8_21 d_X8_copy_46 hv10 (Or.inr ⟨_, ty_8_3⟩) ?_
  refine GW_iconst (X := X_X8_copy) (pc := 49) (v := 0) d_X8_copy_49 (by decide) ?_
  refine GW_aload_n (X := X_X8_copy) (pc := 50) d_X8_copy_50 rfl 0 rfl ?_
  replace h := g_bd h
  obtain ⟨v11, hv11, h⟩ := h
  refine GW_getR (X := X_X8_copy) (pc := 51) f_X8_21 d_X8_copy_51 hv11 (Or.inr ⟨_, ty_8_3⟩) ?_
  refine GW_iconst (X := X_X8_copy) (pc := 54) (v := 0) d_X8_copy_54 (by decide) ?_
  refine GW_bipush (X := X_X8_copy) (pc := 55) (v := 7) d_X8_copy_55 (by decide) ?_
  replace h := g_bd h
  obtain ⟨M12, hM12, h⟩ := h
  refine GW_copy (X := X_X8_copy) (pc := 57) ⟨m_668, g_w_arr.1.2, g_w_arr.1.1, g_w_arr.2⟩ d_X8_copy_57 hM12 (Nat.le_of_ble_eq_true rfl) (Nat.le_of_ble_eq_true rfl) ?_
  refine GW_aload_n (X := X_X8_copy) (pc := 60) d_X8_copy_60 rfl 0 rfl ?_
  refine GW_aload_n (X := X_X8_copy) (pc := 61) d_X8_copy_61 rfl 1 rfl ?_
  replace h := g_bd h
  obtain ⟨v13, hv13, h⟩ := h
  refine GW_getI (X := X_X8_copy) (pc := 62) f_X8_24 d_X8_copy_62 hv13 (Or.inl ty_8_4) ?_
  replace h := g_bd h
  obtain ⟨M14, hM14, h⟩ := h
  refine GW_putI (X := X_X8_copy) (pc := 65) f_X8_24 d_X8_copy_65 hM14 (Or.inl fi_8_4) (Or.inl ty_8_4) ?_
  refine GW_aload_n (X := X_X8_copy) (pc := 68) d_X8_copy_68 rfl 0 rfl ?_
  refine GW_aload_n (X := X_X8_copy) (pc := 69) d_X8_copy_69 rfl 1 rfl ?_
  replace h := g_bd h
  obtain ⟨v15, hv15, h⟩ := h
  refine GW_getI (X := X_X8_copy) (pc := 70) f_X8_28 d_X8_copy_70 hv15 (Or.inl ty_8_5) ?_
  replace h := g_bd h
  obtain ⟨M16, hM16, h⟩ := h
  refine GW_putI (X := X_X8_copy) (pc := 73) f_X8_28 d_X8_copy_73 hM16 (Or.inl fi_8_5) (Or.inl ty_8_5) ?_
  refine GW_aload_n (X := X_X8_copy) (pc := 76) d_X8_copy_76 rfl 0 rfl ?_
  refine GW_aload_n (X := X_X8_copy) (pc := 77) d_X8_copy_77 rfl 1 rfl ?_
  replace h := g_bd h
  obtain ⟨v17, hv17, h⟩ := h
  refine GW_getI (X := X_X8_copy) (pc := 78) f_X8_31 d_X8_copy_78 hv17 (Or.inl ty_8_6) ?_
  replace h := g_bd h
  obtain ⟨M18, hM18, h⟩ := h
  refine GW_putI (X := X_X8_copy) (pc := 81) f_X8_31 d_X8_copy_81 hM18 (Or.inl fi_8_6) (Or.inl ty_8_6) ?_
  replace h := Option.some.inj h
  subst h
  exact GW_ret (X := X_X8_copy) (pc := 84) d_X8_copy_84 rfl trivial
def F_X8_copy (l0 : Option Nat) (l1 : Option Nat) (M : gM) : Option gM := F_X8_copy_b0 l0 l1 M
theorem T_X8_copy (l0 : Option Nat) (l1 : Option Nat) (M : gM) (r : gM) (h : F_X8_copy l0 l1 M = some r) : g_Met 1 0 0 yX8_copy X_X8_copy [vr l0, vr l1] M (none, r) :=
  g_Met_of pn_RX8 rfl (Nat.le_of_ble_eq_true rfl) (fun h => by cases h) (GW_sub [0, 1] rfl (T_X8_copy_b0 r l0 l1 M h))
/-! ForgetHeirs$Past.clear()V -/
theorem d_X4_clear_0 : decode cX4_clear 0 = .ok (.aload_n 0, 1) := by decide +kernel
theorem d_X4_clear_1 : decode cX4_clear 1 = .ok (.iconst 0, 1) := by decide +kernel
theorem d_X4_clear_2 : decode cX4_clear 2 = .ok (.putfield 19, 3) := by decide +kernel
theorem d_X4_clear_5 : decode cX4_clear 5 = .ok (.return_, 1) := by decide +kernel
abbrev X_X4_clear : gX := (RX4, cX4_clear, 1, none, false)
def F_X4_clear_b0 (l0 : Option Nat) (M : gM) : Option gM :=
  (pI 4 M l0 2 (0 : Int32)).bind fun M1 => some M1
theorem T_X4_clear_b0 (r : gM) (l0 : Option Nat) (M : gM) (h : F_X4_clear_b0 l0 M = some r) : GW 0 0 0 X_X4_clear 0 [(0, vr l0)] [] M (none, r) := by
  delta F_X4_clear_b0 at h
  refine GW_aload_n (X := X_X4_clear) (pc := 0) d_X4_clear_0 rfl 0 rfl ?_
  refine GW_iconst (X := X_X4_clear) (pc := 1) (v := 0) d_X4_clear_1 (by decide) ?_
  replace h := g_bd h
  obtain ⟨M1, hM1, h⟩ := h
  refine GW_putI (X := X_X4_clear) (pc := 2) f_X4_19 d_X4_clear_2 hM1 (Or.inl fi_4_2) (Or.inl ty_4_2) ?_
  replace h := Option.some.inj h
  subst h
  exact GW_ret (X := X_X4_clear) (pc := 5) d_X4_clear_5 rfl trivial
def F_X4_clear (l0 : Option Nat) (M : gM) : Option gM := F_X4_clear_b0 l0 M
theorem T_X4_clear (l0 : Option Nat) (M : gM) (r : gM) (h : F_X4_clear l0 M = some r) : g_Met 0 0 0 yX4_clear X_X4_clear [vr l0] M (none, r) :=
  g_Met_of pn_RX4 rfl (Nat.le_of_ble_eq_true rfl) (fun h => by cases h) (GW_sub [0] rfl (T_X4_clear_b0 r l0 M h))
/-! ForgetHeirs.house()I -/
theorem d_X11_house_0 : decode cX11_house 0 = .ok (.aload_n 0, 1) := by decide +kernel
theorem d_X11_house_1 : decode cX11_house 1 = .ok (.getfield 85, 3) := by decide +kernel
theorem d_X11_house_4 : decode cX11_house 4 = .ok (.invokevirtual 104, 3) := by decide +kernel
theorem d_X11_house_7 : decode cX11_house 7 = .ok (.astore_n 1, 1) := by decide +kernel
theorem d_X11_house_8 : decode cX11_house 8 = .ok (.aload_n 0, 1) := by decide +kernel
theorem d_X11_house_9 : decode cX11_house 9 = .ok (.getfield 76, 3) := by decide +kernel
theorem d_X11_house_12 : decode cX11_house 12 = .ok (.iconst 0, 1) := by decide +kernel
theorem d_X11_house_13 : decode cX11_house 13 = .ok (.putfield 97, 3) := by decide +kernel
theorem d_X11_house_16 : decode cX11_house 16 = .ok (.aload_n 1, 1) := by decide +kernel
theorem d_X11_house_17 : decode cX11_house 17 = .ok (.ifnonnull 14, 3) := by decide +kernel
theorem d_X11_house_20 : decode cX11_house 20 = .ok (.bipush (-2), 2) := by decide +kernel
theorem d_X11_house_22 : decode cX11_house 22 = .ok (.aload_n 0, 1) := by decide +kernel
theorem d_X11_house_23 : decode cX11_house 23 = .ok (.getfield 76, 3) := by decide +kernel
theorem d_X11_house_26 : decode cX11_house 26 = .ok (.getfield 108, 3) := by decide +kernel
theorem d_X11_house_29 : decode cX11_house 29 = .ok (.isub, 1) := by decide +kernel
theorem d_X11_house_30 : decode cX11_house 30 = .ok (.ireturn, 1) := by decide +kernel
theorem d_X11_house_31 : decode cX11_house 31 = .ok (.aload_n 0, 1) := by decide +kernel
theorem d_X11_house_32 : decode cX11_house 32 = .ok (.aload_n 1, 1) := by decide +kernel
theorem d_X11_house_33 : decode cX11_house 33 = .ok (.putfield 59, 3) := by decide +kernel
theorem d_X11_house_36 : decode cX11_house 36 = .ok (.aload_n 0, 1) := by decide +kernel
theorem d_X11_house_37 : decode cX11_house 37 = .ok (.getfield 25, 3) := by decide +kernel
theorem d_X11_house_40 : decode cX11_house 40 = .ok (.aload_n 0, 1) := by decide +kernel
theorem d_X11_house_41 : decode cX11_house 41 = .ok (.getfield 85, 3) := by decide +kernel
theorem d_X11_house_44 : decode cX11_house 44 = .ok (.getfield 111, 3) := by decide +kernel
theorem d_X11_house_47 : decode cX11_house 47 = .ok (.invokevirtual 114, 3) := by decide +kernel
theorem d_X11_house_50 : decode cX11_house 50 = .ok (.aload_n 0, 1) := by decide +kernel
theorem d_X11_house_51 : decode cX11_house 51 = .ok (.getfield 35, 3) := by decide +kernel
theorem d_X11_house_54 : decode cX11_house 54 = .ok (.invokevirtual 118, 3) := by decide +kernel
theorem d_X11_house_57 : decode cX11_house 57 = .ok (.aload_n 0, 1) := by decide +kernel
theorem d_X11_house_58 : decode cX11_house 58 = .ok (.getfield 59, 3) := by decide +kernel
theorem d_X11_house_61 : decode cX11_house 61 = .ok (.getfield 121, 3) := by decide +kernel
theorem d_X11_house_64 : decode cX11_house 64 = .ok (.ireturn, 1) := by decide +kernel
abbrev X_X11_house : gX := (RX11, cX11_house, 2, (some .int), false)
def F_X11_house_b0 (l0 : Option Nat) (M : gM) : Option (Int32 × gM) :=
  (gR 11 M l0 1).bind fun v1 => (gO 2 M v1).bind fun i2 => (F_X2_read (some i2) M).bind fun (v3, M4) => (gR 11 M4 l0 0).bind fun v5 => (pI 9 M4 v5 6 (0 : Int32)).bind fun M6 => if v3 = none then ((gR 11 M6 l0 0).bind fun v18 => (gI 9 M6 v18 7).bind fun v19 => some (((-2 : Int32) - v19), M6)) else ((pR 11 M6 l0 11 v3).bind fun M7 => (gR 11 M7 l0 5).bind fun v8 => (gR 11 M7 l0 1).bind fun v9 => (gR 2 M7 v9 2).bind fun v10 => (gO 8 M7 v8).bind fun i11 => (F_X8_copy (some i11) v10 M7).bind fun M12 => (gR 11 M12 l0 7).bind fun v13 => (gO 4 M12 v13).bind fun i14 => (F_X4_clear (some i14) M12).bind fun M15 => (gR 11 M15 l0 11).bind fun v16 => (gI 1 M15 v16 7).bind fun v17 => some (v17, M15))
set_option maxHeartbeats 1000000 in
theorem T_X11_house_b0 (r : (Int32 × gM)) (l0 : Option Nat) (M : gM) (h : F_X11_house_b0 l0 M = some r) : GW 7 6 46 X_X11_house 0 [(0, vr l0)] [] M (some (vi r.1), r.2) := by
  delta F_X11_house_b0 at h
  refine GW_aload_n (X := X_X11_house) (pc := 0) d_X11_house_0 rfl 0 rfl ?_
  replace h := g_bd h
  obtain ⟨v1, hv1, h⟩ := h
  refine GW_getR (X := X_X11_house) (pc := 1) f_X11_85 d_X11_house_1 hv1 (Or.inl ⟨_, ty_11_1⟩) ?_
  replace h := g_bd h
  obtain ⟨i2, hi2, h⟩ := h
  obtain ⟨rfl, ki2⟩ := g_gO hi2
  replace h := g_bd h
  obtain ⟨⟨v3, M4⟩, hv3, h⟩ := h
  dsimp only at h
  refine GW_callV (X := X_X11_house) (pc := 4) (bc0 := 0) (bs0 := 0) (r := some (vr v3)) (M2 := M4) (c0 := 2) (T_X2_read (some i2) M (v3, M4) hv3) (Nat.le_of_ble_eq_true rfl) (Nat.le_of_ble_eq_true rfl) rfl g_cok2 ki2 yc_X2_read ⟨m_498, m_499, m_500, m_124, m_501⟩ d_X11_house_4 rfl (st := []) rfl (Nat.le_of_ble_eq_true rfl) (Nat.le_of_ble_eq_true rfl) (Nat.le_of_ble_eq_true rfl) (st2 := [vr v3]) rfl ?_
  refine GW_astore_n (X := X_X11_house) (pc := 7) d_X11_house_7 rfl (Nat.le_of_ble_eq_true rfl) (lv2 := [(1, vr v3), (0, vr l0)]) rfl ?_
  refine GW_aload_n (X := X_X11_house) (pc := 8) d_X11_house_8 rfl 1 rfl ?_
  replace h := g_bd h
  obtain ⟨v5, hv5, h⟩ := h
  refine GW_getR (X := X_X11_house) (pc := 9) f_X11_76 d_X11_house_9 hv5 (Or.inl ⟨_, ty_11_0⟩) ?_
  refine GW_iconst (X := X_X11_house) (pc := 12) (v := 0) d_X11_house_12 (by decide) ?_
  replace h := g_bd h
  obtain ⟨M6, hM6, h⟩ := h
  refine GW_putI (X := X_X11_house) (pc := 13) f_X11_97 d_X11_house_13 hM6 (Or.inl fi_9_6) (Or.inl ty_9_6) ?_
  refine GW_aload_n (X := X_X11_house) (pc := 16) d_X11_house_16 rfl 0 rfl ?_
  refine GW_ifnonnull (X := X_X11_house) (pc := 17) 31 d_X11_house_17 (by decide) (fun c => ?_) (fun c => ?_)
  · replace h := g_ie c h
    refine GW_aload_n (X := X_X11_house) (pc := 31) d_X11_house_31 rfl 1 rfl ?_
    refine GW_aload_n (X := X_X11_house) (pc := 32) d_X11_house_32 rfl 0 rfl ?_
    replace h := g_bd h
    obtain ⟨M7, hM7, h⟩ := h
    refine GW_putR (X := X_X11_house) (pc := 33) f_X11_59 d_X11_house_33 hM7 (Or.inl fi_11_11) (Or.inl ⟨_, ty_11_11⟩) ?_
    refine GW_aload_n (X := X_X11_house) (pc := 36) d_X11_house_36 rfl 1 rfl ?_
    replace h := g_bd h
    obtain ⟨v8, hv8, h⟩ := h
    refine GW_getR (X := X_X11_house) (pc := 37) f_X11_25 d_X11_house_37 hv8 (Or.inl ⟨_, ty_11_5⟩) ?_
    refine GW_aload_n (X := X_X11_house) (pc := 40) d_X11_house_40 rfl 1 rfl ?_
    replace h := g_bd h
    obtain ⟨v9, hv9, h⟩ := h
    refine GW_getR (X := X_X11_house) (pc := 41) f_X11_85 d_X11_house_41 hv9 (Or.inl ⟨_, ty_11_1⟩) ?_
    replace h := g_bd h
    obtain ⟨v10, hv10, h⟩ := h
    refine GW_getR (X := X_X11_house) (pc := 44) f_X11_111 d_X11_house_44 hv10 (Or.inl ⟨_, ty_2_2⟩) ?_
    replace h := g_bd h
    obtain ⟨i11, hi11, h⟩ := h
    obtain ⟨rfl, ki11⟩ := g_gO hi11
    replace h := g_bd h
    obtain ⟨M12, hM12, h⟩ := h
    refine GW_callV (X := X_X11_house) (pc := 47) (bc0 := 0) (bs0 := 0) (r := none) (M2 := M12) (c0 := 8) (T_X8_copy (some i11) v10 M7 M12 hM12) (Nat.le_of_ble_eq_true rfl) (Nat.le_of_ble_eq_true rfl) rfl g_cok8 ki11 yc_X8_copy ⟨m_664, m_665, m_666, m_119, m_667⟩ d_X11_house_47 rfl (st := []) rfl (Nat.le_of_ble_eq_true rfl) (Nat.le_of_ble_eq_true rfl) (Nat.le_of_ble_eq_true rfl) (st2 := []) rfl ?_
    refine GW_aload_n (X := X_X11_house) (pc := 50) d_X11_house_50 rfl 1 rfl ?_
    replace h := g_bd h
    obtain ⟨v13, hv13, h⟩ := h
    refine GW_getR (X := X_X11_house) (pc := 51) f_X11_35 d_X11_house_51 hv13 (Or.inl ⟨_, ty_11_7⟩) ?_
    replace h := g_bd h
    obtain ⟨i14, hi14, h⟩ := h
    obtain ⟨rfl, ki14⟩ := g_gO hi14
    replace h := g_bd h
    obtain ⟨M15, hM15, h⟩ := h
    refine GW_callV (X := X_X11_house) (pc := 54) (bc0 := 0) (bs0 := 0) (r := none) (M2 := M15) (c0 := 4) (T_X4_clear (some i14) M12 M15 hM15) (Nat.le_of_ble_eq_true rfl) (Nat.le_of_ble_eq_true rfl) rfl g_cok4 ki14 yc_X4_clear ⟨m_671, m_672, m_673, m_120, m_674⟩ d_X11_house_54 rfl (st := []) rfl (Nat.le_of_ble_eq_true rfl) (Nat.le_of_ble_eq_true rfl) (Nat.le_of_ble_eq_true rfl) (st2 := []) rfl ?_
    refine GW_aload_n (X := X_X11_house) (pc := 57) d_X11_house_57 rfl 1 rfl ?_
    replace h := g_bd h
    obtain ⟨v16, hv16, h⟩ := h
    refine GW_getR (X := X_X11_house) (pc := 58) f_X11_59 d_X11_house_58 hv16 (Or.inl ⟨_, ty_11_11⟩) ?_
    replace h := g_bd h
    obtain ⟨v17, hv17, h⟩ := h
    refine GW_getI (X := X_X11_house) (pc := 61) f_X11_121 d_X11_house_61 hv17 (Or.inl ty_1_7) ?_
    replace h := Option.some.inj h
    subst h
    exact GW_ret (X := X_X11_house) (pc := 64) d_X11_house_64 rfl trivial
  · replace h := g_ip c h
    refine GW_bipush (X := X_X11_house) (pc := 20) (v := -2) d_X11_house_20 (by decide) ?_
    refine GW_aload_n (X := X_X11_house) (pc := 22) d_X11_house_22 rfl 1 rfl ?_
    replace h := g_bd h
    obtain ⟨v18, hv18, h⟩ := h
    refine GW_getR (X := X_X11_house) (pc := 23) f_X11_76 d_X11_house_23 hv18 (Or.inl ⟨_, ty_11_0⟩) ?_
    replace h := g_bd h
    obtain ⟨v19, hv19, h⟩ := h
    refine GW_getI (X := X_X11_house) (pc := 26) f_X11_108 d_X11_house_26 hv19 (Or.inl ty_9_7) ?_
    refine GW_isub (X := X_X11_house) (pc := 29) d_X11_house_29 ?_
    replace h := Option.some.inj h
    subst h
    exact GW_ret (X := X_X11_house) (pc := 30) d_X11_house_30 rfl trivial
def F_X11_house (l0 : Option Nat) (M : gM) : Option (Int32 × gM) := F_X11_house_b0 l0 M
theorem T_X11_house (l0 : Option Nat) (M : gM) (r : (Int32 × gM)) (h : F_X11_house l0 M = some r) : g_Met 7 6 46 yX11_house X_X11_house [vr l0] M (some (vi r.1), r.2) :=
  g_Met_of pn_RX11 rfl (Nat.le_of_ble_eq_true rfl) (fun h => by cases h) (GW_sub [0] rfl (T_X11_house_b0 r l0 M h))
/-! ForgetHeirsModel.see()I -/
theorem d_X12_see_0 : decode cX12_see 0 = .ok (.aload_n 0, 1) := by decide +kernel
theorem d_X12_see_1 : decode cX12_see 1 = .ok (.getfield 90, 3) := by decide +kernel
theorem d_X12_see_4 : decode cX12_see 4 = .ok (.aload_n 0, 1) := by decide +kernel
theorem d_X12_see_5 : decode cX12_see 5 = .ok (.getfield 80, 3) := by decide +kernel
theorem d_X12_see_8 : decode cX12_see 8 = .ok (.if_icmp .ge 30, 3) := by decide +kernel
theorem d_X12_see_11 : decode cX12_see 11 = .ok (.aload_n 0, 1) := by decide +kernel
theorem d_X12_see_12 : decode cX12_see 12 = .ok (.getfield 7, 3) := by decide +kernel
theorem d_X12_see_15 : decode cX12_see 15 = .ok (.aload_n 0, 1) := by decide +kernel
theorem d_X12_see_16 : decode cX12_see 16 = .ok (.getfield 90, 3) := by decide +kernel
theorem d_X12_see_19 : decode cX12_see 19 = .ok (.baload, 1) := by decide +kernel
theorem d_X12_see_20 : decode cX12_see 20 = .ok (.bipush 32, 2) := by decide +kernel
theorem d_X12_see_22 : decode cX12_see 22 = .ok (.if_icmp .ne 16, 3) := by decide +kernel
theorem d_X12_see_25 : decode cX12_see 25 = .ok (.aload_n 0, 1) := by decide +kernel
theorem d_X12_see_26 : decode cX12_see 26 = .ok (.dup, 1) := by decide +kernel
theorem d_X12_see_27 : decode cX12_see 27 = .ok (.getfield 90, 3) := by decide +kernel
theorem d_X12_see_30 : decode cX12_see 30 = .ok (.iconst 1, 1) := by decide +kernel
theorem d_X12_see_31 : decode cX12_see 31 = .ok (.iadd, 1) := by decide +kernel
theorem d_X12_see_32 : decode cX12_see 32 = .ok (.putfield 90, 3) := by decide +kernel
theorem d_X12_see_35 : decode cX12_see 35 = .ok (.goto (-35), 3) := by decide +kernel
theorem d_X12_see_38 : decode cX12_see 38 = .ok (.aload_n 0, 1) := by decide +kernel
theorem d_X12_see_39 : decode cX12_see 39 = .ok (.getfield 90, 3) := by decide +kernel
theorem d_X12_see_42 : decode cX12_see 42 = .ok (.aload_n 0, 1) := by decide +kernel
theorem d_X12_see_43 : decode cX12_see 43 = .ok (.getfield 80, 3) := by decide +kernel
theorem d_X12_see_46 : decode cX12_see 46 = .ok (.if_icmp .ge 19, 3) := by decide +kernel
theorem d_X12_see_49 : decode cX12_see 49 = .ok (.aload_n 0, 1) := by decide +kernel
theorem d_X12_see_50 : decode cX12_see 50 = .ok (.getfield 7, 3) := by decide +kernel
theorem d_X12_see_53 : decode cX12_see 53 = .ok (.aload_n 0, 1) := by decide +kernel
theorem d_X12_see_54 : decode cX12_see 54 = .ok (.getfield 90, 3) := by decide +kernel
theorem d_X12_see_57 : decode cX12_see 57 = .ok (.baload, 1) := by decide +kernel
theorem d_X12_see_58 : decode cX12_see 58 = .ok (.sipush 255, 3) := by decide +kernel
theorem d_X12_see_61 : decode cX12_see 61 = .ok (.iand, 1) := by decide +kernel
theorem d_X12_see_62 : decode cX12_see 62 = .ok (.goto 4, 3) := by decide +kernel
theorem d_X12_see_65 : decode cX12_see 65 = .ok (.iconst (-1), 1) := by decide +kernel
theorem d_X12_see_66 : decode cX12_see 66 = .ok (.ireturn, 1) := by decide +kernel
abbrev X_X12_see : gX := (RX12, cX12_see, 1, (some .int), false)
def F_X12_see_b38 (l0 : Option Nat) (M : gM) : Option (Int32 × gM) :=
  (gI 12 M l0 8).bind fun v1 => (gI 12 M l0 1).bind fun v2 => if v2 ≤ v1 then (some ((-1 : Int32), M)) else ((gR 12 M l0 0).bind fun v3 => (gI 12 M l0 8).bind fun v4 => (aI 22 M v3 v4).bind fun v5 => some ((v5 &&& (255 : Int32)), M))
theorem T_X12_see_b38 (r : (Int32 × gM)) (l0 : Option Nat) (M : gM) (h : F_X12_see_b38 l0 M = some r) : GW 0 0 0 X_X12_see 38 [(0, vr l0)] [] M (some (vi r.1), r.2) := by
  delta F_X12_see_b38 at h
  refine GW_aload_n (X := X_X12_see) (pc := 38) d_X12_see_38 rfl 0 rfl ?_
  replace h := g_bd h
  obtain ⟨v1, hv1, h⟩ := h
  refine GW_getI (X := X_X12_see) (pc := 39) f_X12_90 d_X12_see_39 hv1 (Or.inl ty_12_8) ?_
  refine GW_aload_n (X := X_X12_see) (pc := 42) d_X12_see_42 rfl 0 rfl ?_
  replace h := g_bd h
  obtain ⟨v2, hv2, h⟩ := h
  refine GW_getI (X := X_X12_see) (pc := 43) f_X12_80 d_X12_see_43 hv2 (Or.inl ty_12_1) ?_
  refine GW_icmp_ge (X := X_X12_see) (pc := 46) 65 d_X12_see_46 (by decide) (fun c => ?_) (fun c => ?_)
  · replace h := g_ip c h
    refine GW_iconst (X := X_X12_see) (pc := 65) (v := -1) d_X12_see_65 (by decide) ?_
    replace h := Option.some.inj h
    subst h
    exact GW_ret (X := X_X12_see) (pc := 66) d_X12_see_66 rfl trivial
  · replace h := g_ie c h
    refine GW_aload_n (X := X_X12_see) (pc := 49) d_X12_see_49 rfl 0 rfl ?_
    replace h := g_bd h
    obtain ⟨v3, hv3, h⟩ := h
    refine GW_getR (X := X_X12_see) (pc := 50) f_X12_7 d_X12_see_50 hv3 (Or.inr ⟨_, ty_12_0⟩) ?_
    refine GW_aload_n (X := X_X12_see) (pc := 53) d_X12_see_53 rfl 0 rfl ?_
    replace h := g_bd h
    obtain ⟨v4, hv4, h⟩ := h
    refine GW_getI (X := X_X12_see) (pc := 54) f_X12_90 d_X12_see_54 hv4 (Or.inl ty_12_8) ?_
    replace h := g_bd h
    obtain ⟨v5, hv5, h⟩ := h
    refine GW_bald (X := X_X12_see) (pc := 57) d_X12_see_57 hv5 ?_
    refine GW_sipush (X := X_X12_see) (pc := 58) (v := 255) d_X12_see_58 (by decide) ?_
    refine GW_iand (X := X_X12_see) (pc := 61) d_X12_see_61 ?_
    refine GW_goto (X := X_X12_see) (pc := 62) 66 d_X12_see_62 (by decide) ?_
    replace h := Option.some.inj h
    subst h
    exact GW_ret (X := X_X12_see) (pc := 66) d_X12_see_66 rfl trivial
def F_X12_see_b0 (k0 : Option Nat → gM → Option (Int32 × gM)) (l0 : Option Nat) (M : gM) : Option (Int32 × gM) :=
  (gI 12 M l0 8).bind fun v1 => (gI 12 M l0 1).bind fun v2 => if v2 ≤ v1 then (F_X12_see_b38 l0 M) else ((gR 12 M l0 0).bind fun v3 => (gI 12 M l0 8).bind fun v4 => (aI 22 M v3 v4).bind fun v5 => if v5 = (32 : Int32) then ((gI 12 M l0 8).bind fun v6 => (pI 12 M l0 8 (v6 + (1 : Int32))).bind fun M7 => k0 l0 M7) else (F_X12_see_b38 l0 M))
theorem T_X12_see_b0 (k0 : Option Nat → gM → Option (Int32 × gM)) (r : (Int32 × gM)) (hk0 : ∀ (l0 : Option Nat) (M : gM), k0 l0 M = some r → GW 0 0 0 X_X12_see 0 [(0, vr l0)] [] M (some (vi r.1), r.2)) (l0 : Option Nat) (M : gM) (h : F_X12_see_b0 k0 l0 M = some r) : GW 0 0 0 X_X12_see 0 [(0, vr l0)] [] M (some (vi r.1), r.2) := by
  delta F_X12_see_b0 at h
  refine GW_aload_n (X := X_X12_see) (pc := 0) d_X12_see_0 rfl 0 rfl ?_
  replace h := g_bd h
  obtain ⟨v1, hv1, h⟩ := h
  refine GW_getI (X := X_X12_see) (pc := 1) f_X12_90 d_X12_see_1 hv1 (Or.inl ty_12_8) ?_
  refine GW_aload_n (X := X_X12_see) (pc := 4) d_X12_see_4 rfl 0 rfl ?_
  replace h := g_bd h
  obtain ⟨v2, hv2, h⟩ := h
  refine GW_getI (X := X_X12_see) (pc := 5) f_X12_80 d_X12_see_5 hv2 (Or.inl ty_12_1) ?_
  refine GW_icmp_ge (X := X_X12_see) (pc := 8) 38 d_X12_see_8 (by decide) (fun c => ?_) (fun c => ?_)
  · replace h := g_ip c h
    exact T_X12_see_b38 r l0 M h
  · replace h := g_ie c h
    refine GW_aload_n (X := X_X12_see) (pc := 11) d_X12_see_11 rfl 0 rfl ?_
    replace h := g_bd h
    obtain ⟨v3, hv3, h⟩ := h
    refine GW_getR (X := X_X12_see) (pc := 12) f_X12_7 d_X12_see_12 hv3 (Or.inr ⟨_, ty_12_0⟩) ?_
    refine GW_aload_n (X := X_X12_see) (pc := 15) d_X12_see_15 rfl 0 rfl ?_
    replace h := g_bd h
    obtain ⟨v4, hv4, h⟩ := h
    refine GW_getI (X := X_X12_see) (pc := 16) f_X12_90 d_X12_see_16 hv4 (Or.inl ty_12_8) ?_
    replace h := g_bd h
    obtain ⟨v5, hv5, h⟩ := h
    refine GW_bald (X := X_X12_see) (pc := 19) d_X12_see_19 hv5 ?_
    refine GW_bipush (X := X_X12_see) (pc := 20) (v := 32) d_X12_see_20 (by decide) ?_
    refine GW_icmp_ne (X := X_X12_see) (pc := 22) 38 d_X12_see_22 (by decide) (fun c => ?_) (fun c => ?_)
    · replace h := g_ie c h
      exact T_X12_see_b38 r l0 M h
    · replace h := g_ip c h
      refine GW_aload_n (X := X_X12_see) (pc := 25) d_X12_see_25 rfl 0 rfl ?_
      refine GW_dup (X := X_X12_see) (pc := 26) d_X12_see_26 rfl ?_
      replace h := g_bd h
      obtain ⟨v6, hv6, h⟩ := h
      refine GW_getI (X := X_X12_see) (pc := 27) f_X12_90 d_X12_see_27 hv6 (Or.inl ty_12_8) ?_
      refine GW_iconst (X := X_X12_see) (pc := 30) (v := 1) d_X12_see_30 (by decide) ?_
      refine GW_iadd (X := X_X12_see) (pc := 31) d_X12_see_31 ?_
      replace h := g_bd h
      obtain ⟨M7, hM7, h⟩ := h
      refine GW_putI (X := X_X12_see) (pc := 32) f_X12_90 d_X12_see_32 hM7 (Or.inl fi_12_8) (Or.inl ty_12_8) ?_
      refine GW_goto (X := X_X12_see) (pc := 35) 0 d_X12_see_35 (by decide) ?_
      exact hk0 l0 M7 h
def F_X12_see_L0 : Nat → Option Nat → gM → Option (Int32 × gM)
  | 0 => fun _ _ => none
  | n + 1 => F_X12_see_b0 (F_X12_see_L0 n)
theorem T_X12_see_L0 (r : (Int32 × gM)) : ∀ (n : Nat) (l0 : Option Nat) (M : gM), F_X12_see_L0 n l0 M = some r → GW 0 0 0 X_X12_see 0 [(0, vr l0)] [] M (some (vi r.1), r.2) := by
  intro n
  induction n with
  | zero => intro l0 M h; exact g_no h
  | succ n ih => intro l0 M h; exact T_X12_see_b0 (F_X12_see_L0 n) r ih l0 M h
def F_X12_see (l0 : Option Nat) (M : gM) : Option (Int32 × gM) := F_X12_see_L0 g_fuel l0 M
theorem T_X12_see (l0 : Option Nat) (M : gM) (r : (Int32 × gM)) (h : F_X12_see l0 M = some r) : g_Met 0 0 0 yX12_see X_X12_see [vr l0] M (some (vi r.1), r.2) :=
  g_Met_of pn_RX12 rfl (Nat.le_of_ble_eq_true rfl) (fun h => by cases h) (GW_sub [0] rfl (T_X12_see_L0 r g_fuel l0 M h))
/-! ForgetHeirsModel.isLetter(I)Z -/
theorem d_X12_isLetter_0 : decode cX12_isLetter 0 = .ok (.iload_n 1, 1) := by decide +kernel
theorem d_X12_isLetter_1 : decode cX12_isLetter 1 = .ok (.aload_n 0, 1) := by decide +kernel
theorem d_X12_isLetter_2 : decode cX12_isLetter 2 = .ok (.getfield 80, 3) := by decide +kernel
theorem d_X12_isLetter_5 : decode cX12_isLetter 5 = .ok (.if_icmp .ge 29, 3) := by decide +kernel
theorem d_X12_isLetter_8 : decode cX12_isLetter 8 = .ok (.aload_n 0, 1) := by decide +kernel
theorem d_X12_isLetter_9 : decode cX12_isLetter 9 = .ok (.getfield 7, 3) := by decide +kernel
theorem d_X12_isLetter_12 : decode cX12_isLetter 12 = .ok (.iload_n 1, 1) := by decide +kernel
theorem d_X12_isLetter_13 : decode cX12_isLetter 13 = .ok (.baload, 1) := by decide +kernel
theorem d_X12_isLetter_14 : decode cX12_isLetter 14 = .ok (.bipush 97, 2) := by decide +kernel
theorem d_X12_isLetter_16 : decode cX12_isLetter 16 = .ok (.if_icmp .lt 18, 3) := by decide +kernel
theorem d_X12_isLetter_19 : decode cX12_isLetter 19 = .ok (.aload_n 0, 1) := by decide +kernel
theorem d_X12_isLetter_20 : decode cX12_isLetter 20 = .ok (.getfield 7, 3) := by decide +kernel
theorem d_X12_isLetter_23 : decode cX12_isLetter 23 = .ok (.iload_n 1, 1) := by decide +kernel
theorem d_X12_isLetter_24 : decode cX12_isLetter 24 = .ok (.baload, 1) := by decide +kernel
theorem d_X12_isLetter_25 : decode cX12_isLetter 25 = .ok (.bipush 122, 2) := by decide +kernel
theorem d_X12_isLetter_27 : decode cX12_isLetter 27 = .ok (.if_icmp .gt 7, 3) := by decide +kernel
theorem d_X12_isLetter_30 : decode cX12_isLetter 30 = .ok (.iconst 1, 1) := by decide +kernel
theorem d_X12_isLetter_31 : decode cX12_isLetter 31 = .ok (.goto 4, 3) := by decide +kernel
theorem d_X12_isLetter_34 : decode cX12_isLetter 34 = .ok (.iconst 0, 1) := by decide +kernel
theorem d_X12_isLetter_35 : decode cX12_isLetter 35 = .ok (.ireturn, 1) := by decide +kernel
abbrev X_X12_isLetter : gX := (RX12, cX12_isLetter, 2, (some .boolean), false)
def F_X12_isLetter_b34 (M : gM) : Option Int32 :=
  some (0 : Int32)
theorem T_X12_isLetter_b34 (M : gM) (r : Int32) (h : F_X12_isLetter_b34 M = some r) : GW 0 0 0 X_X12_isLetter 34 [] [] M (some (vi r), M) := by
  delta F_X12_isLetter_b34 at h
  refine GW_iconst (X := X_X12_isLetter) (pc := 34) (v := 0) d_X12_isLetter_34 (by decide) ?_
  replace h := Option.some.inj h
  subst h
  exact GW_ret (X := X_X12_isLetter) (pc := 35) d_X12_isLetter_35 rfl g_rok0
def F_X12_isLetter_b0 (M : gM) (l0 : Option Nat) (l1 : Int32) : Option Int32 :=
  (gI 12 M l0 1).bind fun v1 => if v1 ≤ l1 then (F_X12_isLetter_b34 M ) else ((gR 12 M l0 0).bind fun v2 => (aI 22 M v2 l1).bind fun v3 => if v3 < (97 : Int32) then (F_X12_isLetter_b34 M ) else ((gR 12 M l0 0).bind fun v4 => (aI 22 M v4 l1).bind fun v5 => if (122 : Int32) < v5 then (F_X12_isLetter_b34 M ) else (some (1 : Int32))))
set_option maxHeartbeats 1000000 in
theorem T_X12_isLetter_b0 (M : gM) (r : Int32) (l0 : Option Nat) (l1 : Int32) (h : F_X12_isLetter_b0 M l0 l1 = some r) : GW 0 0 0 X_X12_isLetter 0 [(0, vr l0), (1, vi l1)] [] M (some (vi r), M) := by
  delta F_X12_isLetter_b0 at h
  refine GW_iload_n (X := X_X12_isLetter) (pc := 0) d_X12_isLetter_0 rfl 1 rfl ?_
  refine GW_aload_n (X := X_X12_isLetter) (pc := 1) d_X12_isLetter_1 rfl 0 rfl ?_
  replace h := g_bd h
  obtain ⟨v1, hv1, h⟩ := h
  refine GW_getI (X := X_X12_isLetter) (pc := 2) f_X12_80 d_X12_isLetter_2 hv1 (Or.inl ty_12_1) ?_
  refine GW_icmp_ge (X := X_X12_isLetter) (pc := 5) 34 d_X12_isLetter_5 (by decide) (fun c => ?_) (fun c => ?_)
  · replace h := g_ip c h
    refine GW_sub [] rfl ?_
    exact T_X12_isLetter_b34 M r  h
  · replace h := g_ie c h
    refine GW_aload_n (X := X_X12_isLetter) (pc := 8) d_X12_isLetter_8 rfl 0 rfl ?_
    replace h := g_bd h
    obtain ⟨v2, hv2, h⟩ := h
    refine GW_getR (X := X_X12_isLetter) (pc := 9) f_X12_7 d_X12_isLetter_9 hv2 (Or.inr ⟨_, ty_12_0⟩) ?_
    refine GW_iload_n (X := X_X12_isLetter) (pc := 12) d_X12_isLetter_12 rfl 1 rfl ?_
    replace h := g_bd h
    obtain ⟨v3, hv3, h⟩ := h
    refine GW_bald (X := X_X12_isLetter) (pc := 13) d_X12_isLetter_13 hv3 ?_
    refine GW_bipush (X := X_X12_isLetter) (pc := 14) (v := 97) d_X12_isLetter_14 (by decide) ?_
    refine GW_icmp_lt (X := X_X12_isLetter) (pc := 16) 34 d_X12_isLetter_16 (by decide) (fun c => ?_) (fun c => ?_)
    · replace h := g_ip c h
      refine GW_sub [] rfl ?_
      exact T_X12_isLetter_b34 M r  h
    · replace h := g_ie c h
      refine GW_aload_n (X := X_X12_isLetter) (pc := 19) d_X12_isLetter_19 rfl 0 rfl ?_
      replace h := g_bd h
      obtain ⟨v4, hv4, h⟩ := h
      refine GW_getR (X := X_X12_isLetter) (pc := 20) f_X12_7 d_X12_isLetter_20 hv4 (Or.inr ⟨_, ty_12_0⟩) ?_
      refine GW_iload_n (X := X_X12_isLetter) (pc := 23) d_X12_isLetter_23 rfl 1 rfl ?_
      replace h := g_bd h
      obtain ⟨v5, hv5, h⟩ := h
      refine GW_bald (X := X_X12_isLetter) (pc := 24) d_X12_isLetter_24 hv5 ?_
      refine GW_bipush (X := X_X12_isLetter) (pc := 25) (v := 122) d_X12_isLetter_25 (by decide) ?_
      refine GW_icmp_gt (X := X_X12_isLetter) (pc := 27) 34 d_X12_isLetter_27 (by decide) (fun c => ?_) (fun c => ?_)
      · replace h := g_ip c h
        refine GW_sub [] rfl ?_
        exact T_X12_isLetter_b34 M r  h
      · replace h := g_ie c h
        refine GW_iconst (X := X_X12_isLetter) (pc := 30) (v := 1) d_X12_isLetter_30 (by decide) ?_
        refine GW_goto (X := X_X12_isLetter) (pc := 31) 35 d_X12_isLetter_31 (by decide) ?_
        replace h := Option.some.inj h
        subst h
        exact GW_ret (X := X_X12_isLetter) (pc := 35) d_X12_isLetter_35 rfl g_rok1
def F_X12_isLetter (l0 : Option Nat) (l1 : Int32) (M : gM) : Option Int32 := F_X12_isLetter_b0 M l0 l1
theorem T_X12_isLetter (l0 : Option Nat) (l1 : Int32) (M : gM) (r : Int32) (h : F_X12_isLetter l0 l1 M = some r) : g_Met 0 0 0 yX12_isLetter X_X12_isLetter [vr l0, vi l1] M (some (vi r), M) :=
  g_Met_of pn_RX12 rfl (Nat.le_of_ble_eq_true rfl) (fun h => by cases h) (GW_sub [0, 1] rfl (T_X12_isLetter_b0 M r l0 l1 h))
