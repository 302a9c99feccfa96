/-! writes, arrays, new cells -/
theorem mI_o {M : gM} {i k : Nat} {v : Int32} : ∀ j, j ≠ i → (mI M i k v).2.1 j = M.2.1 j := fun _ h => g_up_ne _ _ _ h
theorem mL_o {M : gM} {i k : Nat} {v : Int64} : ∀ j, j ≠ i → (mL M i k v).2.2.1 j = M.2.2.1 j := fun _ h => g_up_ne _ _ _ h
theorem mR_o {M : gM} {i k : Nat} {v : Option Nat} : ∀ j, j ≠ i → (mR M i k v).2.2.2 j = M.2.2.2 j := fun _ h => g_up_ne _ _ _ h
theorem g_fs_set {B : gB} {M M2 : gM} {c i k : Nat} {v : Value} (ho : ∀ j, j ≠ k → g_sl B M2 i j (g_ty c j) = g_sl B M i j (g_ty c j)) (hv : g_sl B M2 i k (g_ty c k) = v) : (g_fs B M c i).set k v = g_fs B M2 c i := by
  apply List.ext_getElem?
  intro j
  by_cases hj : j < g_N c
  · rw [g_fs_get hj]
    by_cases e : j = k
    · subst e
      rw [List.getElem?_set_self (by rw [g_fs_len]; exact hj), hv]
    · rw [List.getElem?_set_ne (Ne.symm e), g_fs_get hj, ho j e]
  · rw [List.getElem?_eq_none (by rw [List.length_set, g_fs_len]; omega), List.getElem?_eq_none (by rw [g_fs_len]; omega)]
theorem g_sl_I {B : gB} {M : gM} {i k j : Nat} {v : Int32} {t : FieldType} (h : j ≠ k) : g_sl B (mI M i k v) i j t = g_sl B M i j t := by
  unfold g_sl mI g_up
  cases t <;> simp [h]
theorem g_sl_L {B : gB} {M : gM} {i k j : Nat} {v : Int64} {t : FieldType} (h : j ≠ k) : g_sl B (mL M i k v) i j t = g_sl B M i j t := by
  unfold g_sl mL g_up
  cases t <;> simp [h]
theorem g_sl_R {B : gB} {M : gM} {i k j : Nat} {v : Option Nat} {t : FieldType} (h : j ≠ k) : g_sl B (mR M i k v) i j t = g_sl B M i j t := by
  unfold g_sl mR g_up
  cases t <;> simp [h]
section
variable {d bc bs : Nat} {X : gX} {pc : Nat} {lv : List (Nat × gV)} {st : List gV} {M M2 : gM} {res : Option gV × gM}
theorem GW_putI {c k idx : Nat} (hf : g_Fld X.1 idx c k) (hd : decode X.2.1 pc = .ok (.putfield idx, 3)) {r : Option Nat} {v : Int32} (hv : pI c M r k v = some M2) (hfin : (g_T c k).2.2.2 = false ∨ (X.2.2.2.2 = true ∧ (g_T c k).1 = X.1 ∧ (g_T c k).2.2.2 = true)) (ht : g_ty c k = .int ∨ (g_ty c k = .boolean ∧ (v = 0 ∨ v = 1))) (kk : GW d bc bs X (pc + 3) lv st M2 res) : GW d bc bs X pc lv (vi v :: vr r :: st) M res := by
  cases r with
  | none => cases hv
  | some i =>
    unfold pI at hv
    rw [Option.bind_some] at hv
    by_cases hi : g_k M i = (c, 0)
    · rw [if_pos hi] at hv
      cases hv
      refine GW_put (M2 := mI M i k v) (v := vi v) hf hd hi hfin (fun B => ?_) rfl mI_o (fun _ _ => rfl) (fun _ _ => rfl) (fun B => g_fs_set (fun j hj => g_sl_I hj) ?_) kk
      · rcases ht with ht | ⟨ht, hz⟩
        · rw [ht]
          exact ⟨rfl, rfl⟩
        · rw [ht]
          rcases hz with rfl | rfl <;> exact ⟨rfl, rfl⟩
      · rcases ht with ht | ⟨ht, -⟩ <;> (rw [ht]; show Value.int (g_up _ _ _ _ _ _) = Value.int v; simp [g_up])
    · rw [if_neg hi] at hv
      cases hv
theorem GW_putL {c k idx : Nat} (hf : g_Fld X.1 idx c k) (hd : decode X.2.1 pc = .ok (.putfield idx, 3)) {r : Option Nat} {v : Int64} (hv : pL c M r k v = some M2) (hfin : (g_T c k).2.2.2 = false ∨ (X.2.2.2.2 = true ∧ (g_T c k).1 = X.1 ∧ (g_T c k).2.2.2 = true)) (ht : g_ty c k = .long) (kk : GW d bc bs X (pc + 3) lv st M2 res) : GW d bc bs X pc lv (vl v :: vr r :: st) M res := by
  cases r with
  | none => cases hv
  | some i =>
    unfold pL at hv
    rw [Option.bind_some] at hv
    by_cases hi : g_k M i = (c, 0)
    · rw [if_pos hi] at hv
      cases hv
      refine GW_put (M2 := mL M i k v) (v := vl v) hf hd hi hfin (fun B => ?_) rfl (fun _ _ => rfl) mL_o (fun _ _ => rfl) (fun B => g_fs_set (fun j hj => g_sl_L hj) ?_) kk
      · rw [ht]
        exact ⟨rfl, rfl⟩
      · rw [ht]
        show Value.long (g_up _ _ _ _ _ _) = Value.long v
        simp [g_up]
    · rw [if_neg hi] at hv
      cases hv
theorem GW_putR {c k idx : Nat} (hf : g_Fld X.1 idx c k) (hd : decode X.2.1 pc = .ok (.putfield idx, 3)) {r : Option Nat} {v : Option Nat} (hv : pR c M r k v = some M2) (hfin : (g_T c k).2.2.2 = false ∨ (X.2.2.2.2 = true ∧ (g_T c k).1 = X.1 ∧ (g_T c k).2.2.2 = true)) (ht : (∃ n, g_ty c k = .object n) ∨ ∃ t, g_ty c k = .array t) (kk : GW d bc bs X (pc + 3) lv st M2 res) : GW d bc bs X pc lv (vr v :: vr r :: st) M res := by
  cases r with
  | none => cases hv
  | some i =>
    unfold pR at hv
    rw [Option.bind_some] at hv
    by_cases hi : g_k M i = (c, 0)
    · rw [if_pos hi] at hv
      cases hv
      refine GW_put (M2 := mR M i k v) (v := vr v) hf hd hi hfin (fun B => ?_) rfl (fun _ _ => rfl) (fun _ _ => rfl) mR_o (fun B => g_fs_set (fun j hj => g_sl_R hj) ?_) kk
      · rcases ht with ⟨n, ht⟩ | ⟨t, ht⟩ <;> (rw [ht]; cases v <;> exact ⟨rfl, rfl⟩)
      · rcases ht with ⟨n, ht⟩ | ⟨t, ht⟩ <;> (rw [ht]; show va_rf (Option.map _ (g_up _ _ _ _ _ _)) = va_rf (Option.map _ v); simp [g_up])
    · rw [if_neg hi] at hv
      cases hv
theorem g_cell_20 {B : gB} {cI : Nat → ClassId} {M : gM} {i n : Nat} : g_cell B cI M i (20, n) = .inl (cI 0, n, .inl (M.2.1 i)) := rfl
theorem g_cell_21 {B : gB} {cI : Nat → ClassId} {M : gM} {i n : Nat} : g_cell B cI M i (21, n) = .inl (cI 1, n, .inr (.inl (M.2.2.1 i))) := rfl
theorem g_cell_22 {B : gB} {cI : Nat → ClassId} {M : gM} {i n : Nat} : g_cell B cI M i (22, n) = .inl (cI 2, n, .inl (M.2.1 i)) := rfl
theorem g_cell_23 {B : gB} {cI : Nat → ClassId} {M : gM} {i n : Nat} : g_cell B cI M i (23, n) = .inl (cI 3, n, .inl (M.2.1 i)) := rfl
theorem g_cell_24 {B : gB} {cI : Nat → ClassId} {M : gM} {i n : Nat} : g_cell B cI M i (24, n) = .inl (cI 4, n, .inr (.inr (.inr (.inr (fun j => (M.2.2.2 i j).map (g_ad B)))))) := rfl
theorem g_cell_25 {B : gB} {cI : Nat → ClassId} {M : gM} {i n : Nat} : g_cell B cI M i (25, n) = .inl (cI 5, n, .inr (.inr (.inr (.inr (fun j => (M.2.2.2 i j).map (g_ad B)))))) := rfl
theorem g_cell_26 {B : gB} {cI : Nat → ClassId} {M : gM} {i n : Nat} : g_cell B cI M i (26, n) = .inl (cI 6, n, .inr (.inr (.inr (.inr (fun j => (M.2.2.2 i j).map (g_ad B)))))) := rfl
theorem g_bd {α β : Type} {r : Option α} {f : α → Option β} {b : β} (h : r.bind f = some b) : ∃ a, r = some a ∧ f a = some b := Option.bind_eq_some_iff.mp h
theorem g_if {β : Type} {c : Prop} [Decidable c] {a b : β} (h : (if c then some a else none) = some b) : c ∧ a = b := by
  by_cases hc : c
  · rw [if_pos hc] at h
    exact ⟨hc, Option.some.inj h⟩
  · rw [if_neg hc] at h
    cases h
theorem GW_iald {r : Option Nat} {j v : Int32} (hd : decode X.2.1 pc = .ok (.iaload, 1)) (hv : aI 20 M r j = some v) (k : GW d bc bs X (pc + 1) lv (vi v :: st) M res) : GW d bc bs X pc lv (vi j :: vr r :: st) M res := by
  obtain ⟨i, rfl, h⟩ := g_bd hv
  obtain ⟨⟨hk, hj⟩, rfl⟩ := g_if h
  intro E D cI p l e R s m args below meth c H locs cells slots Q ls C hl hP hS hB hR
  have hq := g_k_at hk (by decide)
  exact va_iald C.1 C.2.1 C.2.2.2.2.2.1.1.1 hP.2.2.2.2 (i - 2) 0 (g_ws_at (g_Pic_two hP hq (Nat.le_of_ble_eq_true rfl)) hq) rfl (gin_in hj) hd (k E D cI p l e R s m args below meth c H locs cells slots Q ls C hl hP hS hB hR)
theorem GW_bald {r : Option Nat} {j v : Int32} (hd : decode X.2.1 pc = .ok (.baload, 1)) (hv : aI 22 M r j = some v) (k : GW d bc bs X (pc + 1) lv (vi v :: st) M res) : GW d bc bs X pc lv (vi j :: vr r :: st) M res := by
  obtain ⟨i, rfl, h⟩ := g_bd hv
  obtain ⟨⟨hk, hj⟩, rfl⟩ := g_if h
  intro E D cI p l e R s m args below meth c H locs cells slots Q ls C hl hP hS hB hR
  have hq := g_k_at hk (by decide)
  exact va_bald C.1 C.2.1 C.2.2.2.2.2.1.1.1 hP.2.2.2.2 (i - 2) 2 (g_ws_at (g_Pic_two hP hq (Nat.le_of_ble_eq_true rfl)) hq) rfl (gin_in hj) hd (k E D cI p l e R s m args below meth c H locs cells slots Q ls C hl hP hS hB hR)
theorem GW_zald {r : Option Nat} {j v : Int32} (hd : decode X.2.1 pc = .ok (.baload, 1)) (hv : aI 23 M r j = some v) (k : GW d bc bs X (pc + 1) lv (vi v :: st) M res) : GW d bc bs X pc lv (vi j :: vr r :: st) M res := by
  obtain ⟨i, rfl, h⟩ := g_bd hv
  obtain ⟨⟨hk, hj⟩, rfl⟩ := g_if h
  intro E D cI p l e R s m args below meth c H locs cells slots Q ls C hl hP hS hB hR
  have hq := g_k_at hk (by decide)
  exact va_zald C.1 C.2.1 C.2.2.2.2.2.1.1.1 hP.2.2.2.2 (i - 2) 3 (g_ws_at (g_Pic_two hP hq (Nat.le_of_ble_eq_true rfl)) hq) rfl (gin_in hj) hd (k E D cI p l e R s m args below meth c H locs cells slots Q ls C hl hP hS hB hR)
theorem GW_lald {r : Option Nat} {j : Int32} {v : Int64} (hd : decode X.2.1 pc = .ok (.laload, 1)) (hv : aL M r j = some v) (k : GW d bc bs X (pc + 1) lv (vl v :: st) M res) : GW d bc bs X pc lv (vi j :: vr r :: st) M res := by
  obtain ⟨i, rfl, h⟩ := g_bd hv
  obtain ⟨⟨hk, hj⟩, rfl⟩ := g_if h
  intro E D cI p l e R s m args below meth c H locs cells slots Q ls C hl hP hS hB hR
  have hq := g_k_at hk (by decide)
  exact va_lald C.1 C.2.1 C.2.2.2.2.2.1.1.1 hP.2.2.2.2 (i - 2) 1 (g_ws_at (g_Pic_two hP hq (Nat.le_of_ble_eq_true rfl)) hq) rfl (gin_in hj) hd (k E D cI p l e R s m args below meth c H locs cells slots Q ls C hl hP hS hB hR)
theorem GW_aald {t : Nat} (ht : t = 24 ∨ t = 25 ∨ t = 26) {r v : Option Nat} {j : Int32} (hd : decode X.2.1 pc = .ok (.aaload, 1)) (hv : aR t M r j = some v) (k : GW d bc bs X (pc + 1) lv (vr v :: st) M res) : GW d bc bs X pc lv (vi j :: vr r :: st) M res := by
  obtain ⟨i, rfl, h⟩ := g_bd hv
  obtain ⟨⟨hk, hj⟩, rfl⟩ := g_if h
  intro E D cI p l e R s m args below meth c H locs cells slots Q ls C hl hP hS hB hR
  have hq := g_k_at hk (by omega)
  have hw := g_ws_at (B := g_EB E) (cI := cI) (g_Pic_two hP hq (by show t < 30; omega)) hq
  have kk := k E D cI p l e R s m args below meth c H locs cells slots Q ls C hl hP hS hB hR
  rcases ht with rfl | rfl | rfl
  · exact va_aldq C.1 C.2.1 C.2.2.2.2.2.1.1.1 hP.2.2.2.2 (i - 2) 4 hw rfl (gin_in hj) hd kk
  · exact va_aldq C.1 C.2.1 C.2.2.2.2.2.1.1.1 hP.2.2.2.2 (i - 2) 5 hw rfl (gin_in hj) hd kk
  · exact va_aldq C.1 C.2.1 C.2.2.2.2.2.1.1.1 hP.2.2.2.2 (i - 2) 6 hw rfl (gin_in hj) hd kk
theorem GW_sald {r : Option Nat} {j v : Int32} (hd : decode X.2.1 pc = .ok (.iaload, 1)) (hr : r = some 0) (hv : xI M r j = some v) (k : GW d bc bs X (pc + 1) lv (vi v :: st) M res) : GW d bc bs X pc lv (vi j :: vr r :: st) M res := by
  obtain ⟨i, e, h⟩ := g_bd hv
  obtain ⟨⟨hk, hj⟩, rfl⟩ := g_if h
  intro E D cI p l e2 R s m args below meth c H locs cells slots Q ls C hl hP hS hB hR
  subst hr
  cases e
  have hq := g_k_at hk (by decide)
  obtain ⟨-, p2, p3, -, -⟩ := id hP
  rw [hq] at p2
  have hL : (g_k M 0).2 = E.2.2.2.1 := by have h9 := Option.some.inj p2; rw [← show ((30 : Nat), (g_k M 0).2).2 = (g_k M 0).2 from rfl, h9]
  rw [hL] at hj
  obtain ⟨hK, hbl, hbs, hX, -⟩ := C.2.2.2.2.2.1.1
  rw [p3] at k
  exact va_sld C.1 C.2.1 hX (Nat.lt_of_lt_of_le hbl hbs) (fun z => Nat.not_le.mpr hbl z) hS (gin_in hj) hd (k E D cI p l e2 R s m args below meth c H locs cells slots Q ls C hl hP hS hB hR)
theorem GW_slen {r : Option Nat} {v : Int32} (hd : decode X.2.1 pc = .ok (.arraylength, 1)) (hr : r = some 0) (hv : xN M r = some v) (k : GW d bc bs X (pc + 1) lv (vi v :: st) M res) : GW d bc bs X pc lv (vr r :: st) M res := by
  obtain ⟨i, e, h⟩ := g_bd hv
  obtain ⟨hk, rfl⟩ := g_if h
  intro E D cI p l e2 R s m args below meth c H locs cells slots Q ls C hl hP hS hB hR
  subst hr
  cases e
  have hq := g_k_at hk (by decide)
  obtain ⟨-, p2, p3, -, -⟩ := id hP
  rw [hq] at p2
  have hL : (g_k M 0).2 = E.2.2.2.1 := by have h9 := Option.some.inj p2; rw [← show ((30 : Nat), (g_k M 0).2).2 = (g_k M 0).2 from rfl, h9]
  rw [hL] at k
  obtain ⟨hK, hbl, hbs, hX, -⟩ := C.2.2.2.2.2.1.1
  exact va_slen C.1 C.2.1 hX (Nat.lt_of_lt_of_le hbl hbs) (fun z => Nat.not_le.mpr hbl z) hS hd (k E D cI p l e2 R s m args below meth c H locs cells slots Q ls C hl hP hS hB hR)
theorem GW_alen {r : Option Nat} {v : Int32} (hd : decode X.2.1 pc = .ok (.arraylength, 1)) (hv : aN M r = some v) (k : GW d bc bs X (pc + 1) lv (vi v :: st) M res) : GW d bc bs X pc lv (vr r :: st) M res := by
  obtain ⟨i, rfl, h⟩ := g_bd hv
  obtain ⟨⟨h1, h2⟩, rfl⟩ := g_if h
  intro E D cI p l e R s m args below meth c H locs cells slots Q ls C hl hP hS hB hR
  obtain ⟨t, ht⟩ : ∃ t, (g_k M i).1 = t := ⟨_, rfl⟩
  rw [ht] at h1 h2
  have hq := g_k_at ht (by omega)
  have hw := g_ws_at (B := g_EB E) (cI := cI) (g_Pic_two hP hq (by show t < 30; omega)) hq
  have kk := k E D cI p l e R s m args below meth c H locs cells slots Q ls C hl hP hS hB hR
  have ht2 : t = 20 ∨ t = 21 ∨ t = 22 ∨ t = 23 ∨ t = 24 ∨ t = 25 ∨ t = 26 := by omega
  rcases ht2 with rfl | rfl | rfl | rfl | rfl | rfl | rfl
  · exact va_alen C.1 C.2.1 C.2.2.2.2.2.1.1.1 hP.2.2.2.2 (i - 2) 0 hw rfl rfl hd kk
  · exact va_alen C.1 C.2.1 C.2.2.2.2.2.1.1.1 hP.2.2.2.2 (i - 2) 1 hw rfl rfl hd kk
  · exact va_alen C.1 C.2.1 C.2.2.2.2.2.1.1.1 hP.2.2.2.2 (i - 2) 2 hw rfl rfl hd kk
  · exact va_alen C.1 C.2.1 C.2.2.2.2.2.1.1.1 hP.2.2.2.2 (i - 2) 3 hw rfl rfl hd kk
  · exact va_alen C.1 C.2.1 C.2.2.2.2.2.1.1.1 hP.2.2.2.2 (i - 2) 4 hw rfl rfl hd kk
  · exact va_alen C.1 C.2.1 C.2.2.2.2.2.1.1.1 hP.2.2.2.2 (i - 2) 5 hw rfl rfl hd kk
  · exact va_alen C.1 C.2.1 C.2.2.2.2.2.1.1.1 hP.2.2.2.2 (i - 2) 6 hw rfl rfl hd kk
end
