/-! stores into arrays, new cells, the library's own calls -/
section
variable {d bc bs : Nat} {X : gX} {pc : Nat} {lv : List (Nat × gV)} {st : List gV} {M M2 : gM} {res : Option gV × gM}
theorem g_upd_up (f : Nat → Nat → Int32) (i k : Nat) (v : Int32) : upd (f i) k v = g_up f i k v i := by
  rw [g_up_same]
  rfl
theorem g_set_i {cI : ClassId} {n k : Nat} {f : Nat → Nat → Int32} {i : Nat} {v : Int32} : (vp_cell cI (n, .inl (f i))).setSlot k (.int v) = vp_cell cI (n, .inl (g_up f i k v i)) := by
  rw [g_up_same, vp_cell_i, vp_cell_i, arrV_store]
  congr 1
  funext q
  by_cases hq : q = k
  · subst hq
    simp [updV]
  · simp [updV, hq]
theorem g_set_l {cI : ClassId} {n k : Nat} {f : Nat → Nat → Int64} {i : Nat} {v : Int64} : (vp_cell cI (n, .inr (.inl (f i)))).setSlot k (.long v) = vp_cell cI (n, .inr (.inl (g_up f i k v i))) := by
  rw [g_up_same, vp_cell_l, vp_cell_l, arrV_store]
  congr 1
  funext q
  by_cases hq : q = k
  · subst hq
    simp [updV]
  · simp [updV, hq]
theorem g_set_q {B : gB} {cI : ClassId} {n k : Nat} {f : Nat → Nat → Option Nat} {i : Nat} {v : Option Nat} : (vp_cell cI (n, .inr (.inr (.inr (.inr (fun j => (f i j).map (g_ad B))))))).setSlot k (va_rf (v.map (g_ad B))) = vp_cell cI (n, .inr (.inr (.inr (.inr (fun j => (g_up f i k v i j).map (g_ad B)))))) := by
  rw [g_up_same, vp_cell_q, vp_cell_q, arrV_store]
  congr 1
  funext q
  by_cases hq : q = k
  · subst hq
    simp [updV]
  · simp [updV, hq]
theorem GW_iast {r : Option Nat} {j v : Int32} (hd : decode X.2.1 pc = .ok (.iastore, 1)) (hv : sI M r j v = some M2) (k : GW d bc bs X (pc + 1) lv st M2 res) : GW d bc bs X pc lv (vi v :: vi j :: vr r :: st) M res := by
  obtain ⟨i, rfl, h⟩ := g_bd hv
  obtain ⟨⟨hk, hj⟩, rfl⟩ := g_if h
  intro E D cI p l e R s m args below meth c H locs cells slots Q ls C hl hP hS hB hR
  have hq := g_k_at hk (by decide)
  have h2 := g_Pic_two hP hq (Nat.le_of_ble_eq_true rfl)
  have hw := hP.2.2.2.2 _ _ (g_ws_at h2 hq)
  have hin := gin_in hj
  refine W.iast C.1 C.2.1 hw ((C.2.2.2.2.2.1.1.1.2 0 _ rfl).1 _ (fun j => .int (M.2.1 i j))) (fun q => by cases q) (by show ¬ (j < 0 ∨ (arrV _ _ _).slots.size ≤ _); rw [arrV_size]; exact hin) rfl rfl hd fun H1 e1 z oq => ?_
  exact k E D cI p l e R s m args below meth c H1 _ cells slots Q ls C hl (g_Pic_set hP hq (Nat.le_of_ble_eq_true rfl) rfl mI_o (fun _ _ => rfl) (fun _ _ => rfl) (by rw [g_cell_20]; exact e1.trans (congrArg some g_set_i)) z oq) (hS.put z oq (g_ad_A h2)) hB hR
theorem GW_bast {r : Option Nat} {j v : Int32} (hd : decode X.2.1 pc = .ok (.bastore, 1)) (hv : sB M r j v = some M2) (k : GW d bc bs X (pc + 1) lv st M2 res) : GW d bc bs X pc lv (vi v :: vi j :: vr r :: st) M res := by
  obtain ⟨i, rfl, h⟩ := g_bd hv
  obtain ⟨⟨hk, hj⟩, rfl⟩ := g_if h
  intro E D cI p l e R s m args below meth c H locs cells slots Q ls C hl hP hS hB hR
  have hq := g_k_at hk (by decide)
  have h2 := g_Pic_two hP hq (Nat.le_of_ble_eq_true rfl)
  have hw := hP.2.2.2.2 _ _ (g_ws_at h2 hq)
  have hin := gin_in hj
  refine W.bast C.1 C.2.1 hw ((C.2.2.2.2.2.1.1.1.2 2 _ rfl).1 _ (fun j => .int (M.2.1 i j))) (fun q => by cases q) (by show ¬ (j < 0 ∨ (arrV _ _ _).slots.size ≤ _); rw [arrV_size]; exact hin) rfl rfl hd fun H1 e1 z oq => ?_
  exact k E D cI p l e R s m args below meth c H1 _ cells slots Q ls C hl (g_Pic_set hP hq (Nat.le_of_ble_eq_true rfl) rfl mI_o (fun _ _ => rfl) (fun _ _ => rfl) (by rw [g_cell_22]; exact e1.trans (congrArg some g_set_i)) z oq) (hS.put z oq (g_ad_A h2)) hB hR
theorem GW_zast {r : Option Nat} {j v : Int32} (hd : decode X.2.1 pc = .ok (.bastore, 1)) (hv : sZ M r j v = some M2) (k : GW d bc bs X (pc + 1) lv st M2 res) : GW d bc bs X pc lv (vi v :: vi j :: vr r :: st) M res := by
  obtain ⟨i, rfl, h⟩ := g_bd hv
  obtain ⟨⟨⟨hk, hj⟩, hz⟩, rfl⟩ := g_if h
  intro E D cI p l e R s m args below meth c H locs cells slots Q ls C hl hP hS hB hR
  have hq := g_k_at hk (by decide)
  have h2 := g_Pic_two hP hq (Nat.le_of_ble_eq_true rfl)
  have hw := hP.2.2.2.2 _ _ (g_ws_at h2 hq)
  have hin := gin_in hj
  have hn : narrow .boolean (.int v) = .int v := by rcases hz with rfl | rfl <;> rfl
  refine W.zast C.1 C.2.1 hw ((C.2.2.2.2.2.1.1.1.2 3 _ rfl).1 _ (fun j => .int (M.2.1 i j))) (fun q => by cases q) (by show ¬ (j < 0 ∨ (arrV _ _ _).slots.size ≤ _); rw [arrV_size]; exact hin) rfl rfl hd fun H1 e1 z oq => ?_
  rw [hn] at e1
  exact k E D cI p l e R s m args below meth c H1 _ cells slots Q ls C hl (g_Pic_set hP hq (Nat.le_of_ble_eq_true rfl) rfl mI_o (fun _ _ => rfl) (fun _ _ => rfl) (by rw [g_cell_23]; exact e1.trans (congrArg some g_set_i)) z oq) (hS.put z oq (g_ad_A h2)) hB hR
theorem GW_last {r : Option Nat} {j : Int32} {v : Int64} (hd : decode X.2.1 pc = .ok (.lastore, 1)) (hv : sL M r j v = some M2) (k : GW d bc bs X (pc + 1) lv st M2 res) : GW d bc bs X pc lv (vl v :: vi j :: vr r :: st) M res := by
  obtain ⟨i, rfl, h⟩ := g_bd hv
  obtain ⟨⟨hk, hj⟩, rfl⟩ := g_if h
  intro E D cI p l e R s m args below meth c H locs cells slots Q ls C hl hP hS hB hR
  have hq := g_k_at hk (by decide)
  have h2 := g_Pic_two hP hq (Nat.le_of_ble_eq_true rfl)
  have hw := hP.2.2.2.2 _ _ (g_ws_at h2 hq)
  have hin := gin_in hj
  refine W.last C.1 C.2.1 hw ((C.2.2.2.2.2.1.1.1.2 1 _ rfl).1 _ (fun j => .long (M.2.2.1 i j))) (fun q => by cases q) (by show ¬ (j < 0 ∨ (arrV _ _ _).slots.size ≤ _); rw [arrV_size]; exact hin) rfl rfl hd fun H1 e1 z oq => ?_
  exact k E D cI p l e R s m args below meth c H1 _ cells slots Q ls C hl (g_Pic_set hP hq (Nat.le_of_ble_eq_true rfl) rfl (fun _ _ => rfl) mL_o (fun _ _ => rfl) (by rw [g_cell_21]; exact e1.trans (congrArg some g_set_l)) z oq) (hS.put z oq (g_ad_A h2)) hB hR
theorem GW_aast {t : Nat} (ht : t = 24 ∨ t = 25 ∨ t = 26) {r v : Option Nat} {j : Int32} (hd : decode X.2.1 pc = .ok (.aastore, 1)) (hv : sR t M r j v = some M2) (k : GW d bc bs X (pc + 1) lv st M2 res) : GW d bc bs X pc lv (vr v :: vi j :: vr r :: st) M res := by
  obtain ⟨i, rfl, h⟩ := g_bd hv
  obtain ⟨v, rfl, h⟩ := g_bd h
  obtain ⟨⟨⟨hk, hj⟩, hkv⟩, rfl⟩ := g_if h
  intro E D cI p l e R s m args below meth c H locs cells slots Q ls C hl hP hS hB hR
  have hel : g_el t < 20 := by rcases ht with rfl | rfl | rfl <;> decide
  have hq := g_k_at hk (by omega)
  have hqv := g_k_some hkv (show g_el t < 90 by omega)
  have h2 := g_Pic_two hP hq (by show t < 30; omega)
  have h2v := g_Pic_two hP hqv (by show g_el t < 30; omega)
  have hwv := g_ws_at (B := g_EB E) (cI := cI) h2v hqv
  rw [g_cell_o hel] at hwv
  have hw := hP.2.2.2.2 _ _ (g_ws_at h2 hq)
  have hin := gin_in hj
  have hlt : j.toNatClampNeg < (g_k M i).2 := Nat.not_le.mp fun q => hin (Or.inr q)
  have h0 : ¬ j < 0 := fun q => hin (Or.inl q)
  have hK := C.2.2.2.2.2.1.1.1
  obtain ⟨r', hr', cellV, g1, g2, g3, -⟩ := hP.2.2.2.2 _ _ hwv
  have fin : ∀ (t0 : Nat) (hcell : g_cell (g_EB E) cI M i (t, (g_k M i).2) = .inl (cI t0, (g_k M i).2, .inr (.inr (.inr (.inr (fun j => (M.2.2.2 i j).map (g_ad (g_EB E)))))))) (hcell2 : g_cell (g_EB E) cI (mR M i j.toNatClampNeg (some v)) i (t, (g_k M i).2) = .inl (cI t0, (g_k M i).2, .inr (.inr (.inr (.inr (fun q => (g_up M.2.2.2 i j.toNatClampNeg (some v) i q).map (g_ad (g_EB E)))))))) (r : vw_C) (ht0 : (g_tys cI)[t0]? = some (cI t0, .object r.1)) (hc : g_cl[g_el t]? = some r),
      W p l e R s m args below meth c H locs cells slots Q (F0 m pc ls ((vr (some v) :: vi j :: vr (some i) :: st).map (g_tr (g_EB E)))) := by
    intro t0 hcell hcell2 r ht0 hc
    rw [hcell] at hw
    have hcls := (hK.1 _ r hc).2
    obtain ⟨kA, comp, k1, k2, k3, -⟩ := (hK.2 t0 _ ht0).2
    have hcomp : comp = D.1 (g_el t) := Option.some.inj (k3.symm.trans hcls.1)
    subst hcomp
    obtain ⟨kC, hkC, -⟩ := hcls.2
    refine W.aast C.1 C.2.1 hw (fun q h => by cases h) (fun h => by cases h) k1 k2 rfl hkC ⟨h0, by show _ < (arrV _ _ _).slots.size; rw [arrV_size]; exact hlt⟩ g1 (fun q h => by rw [g3] at h; cases h) (by rw [g2]; exact hkC) (by rw [g2]; exact va_assign hcls) rfl rfl hd fun H1 e1 z oq => ?_
    refine k E D cI p l e R s m args below meth c H1 _ cells slots Q ls C hl (g_Pic_set hP hq (by show t < 30; omega) rfl (fun _ _ => rfl) (fun _ _ => rfl) mR_o ?_ z oq) (hS.put z oq (g_ad_A h2)) hB hR
    rw [hcell2]
    exact e1.trans (congrArg some (g_set_q (v := some v)))
  rcases ht with rfl | rfl | rfl
  · exact fin 4 rfl rfl (RX8, TX8, g_N 8) rfl rfl
  · exact fin 5 rfl rfl (RX6, TX6, g_N 6) rfl rfl
  · exact fin 6 rfl rfl (RX3, TX3, g_N 3) rfl rfl
theorem g_fs_nw {B : gB} {M : gM} {c : Nat} (q : Nat × Nat) {k : Nat} (hk : k < g_N c) (ht : ∀ n, g_ty c k = n → defaultValue n = g_sl B (nw q M) M.1.length k n) : vp_V (g_fs B (nw q M) c M.1.length) k = defaultValue (g_ty c k) := by
  unfold vp_V
  rw [List.getD_eq_getElem?_getD, g_fs_get hk, ht _ rfl]
  rfl
theorem g_nw_sl {B : gB} {M : gM} {q : Nat × Nat} {k : Nat} (n : FieldType) (hn : n ≠ .float ∧ n ≠ .double) : defaultValue n = g_sl B (nw q M) M.1.length k n := by
  cases n <;> first | exact absurd rfl hn.1 | exact absurd rfl hn.2 | (simp [g_sl, nw, g_row, defaultValue, va_rf])
theorem GW_new {c idx : Nat} (hc : g_cok c) (hnf : ∀ k, k < g_N c → g_ty c k ≠ .float ∧ g_ty c k ≠ .double) (hw : Cond.classLink X.1 idx (g_R c) ∈ g_tb ∧ Cond.instantiable (g_R c) (g_N c) ∈ g_tb ∧ Cond.initialized (g_R c) ∈ g_tb) (hd : decode X.2.1 pc = .ok (.new idx, 3)) (bc0 bs0 : Nat) (h1 : bc0 + 1 = bc) (h2 : bs0 + g_N c = bs) (k : GW d bc0 bs0 X (pc + 3) lv (vr (some M.1.length) :: st) (nw (c, 0) M) res) : GW d bc bs X pc lv st M res := by
  intro E D cI p l e R s m args below meth c0 H locs cells slots Q ls C hl hP hS hB hR
  obtain ⟨hc, hcl, hws, hty, hnm⟩ := hc
  have hts := C.2.2.2.2.1
  have hK := C.2.2.2.2.2.1.1.1
  have hKn := hK.1 c _ hcl
  refine W.newcK C.1 C.2.1 C.2.2.2.1 (hts _ hw.1) (hts _ hw.2.1) (hts _ hw.2.2) rfl hd (by omega) (by omega) hKn.2.1 rfl fun H1 kC hkC e1 z1 o1 => ?_
  have hb := (u_born (g_ty c) hts hws hKn hkC e1 hty).to (V' := vp_V (g_fs (g_EB E) (nw (c, 0) M) c M.1.length)) (fun j hj => (g_fs_nw (c, 0) hj (fun n hn => g_nw_sl n (by rw [← hn]; exact hnf j hj))).symm)
  have hP1 : g_Pic E D cI (nw (c, 0) M) H1 := g_Pic_push hP rfl (fun j hj => g_row_ne _ _ hj) (fun j hj => g_row_ne _ _ hj) (fun j hj => g_row_ne _ _ hj) (by rw [g_cell_o hc]; exact ⟨_, hcl, hb⟩) z1 o1
  have e2 : Value.ref H.size = g_tr (g_EB E) (vr (some M.1.length)) := by
    show _ = Value.ref (g_ad _ _)
    rw [g_ad_len hP]
  rw [e2]
  exact k E D cI p l e R s m args below meth c0 H1 locs (cells + 1) (slots + g_N c) Q ls C hl hP1 ⟨Nat.le_trans hS.1 (by omega), fun x h1 h2 => (o1 x (Nat.lt_of_lt_of_le h1 hS.1)).trans (hS.2.1 x h1 h2), hS.2.2⟩ ⟨by omega, by omega, hB.2.2⟩ (fun H2 locs2 k2 n2 pc2 ls2 a1 a2 a3 a4 a5 a6 => hR H2 locs2 k2 n2 pc2 ls2 a1 a2 (by omega) (by omega) a5 a6)
theorem g_newa {t : Nat} {n : Int32} {N : Nat} (at0 : ArrayType) (ha : Cond.arrayClass (newarray.typeOf at0) ∈ g_tb) (hd : decode X.2.1 pc = .ok (.newarray at0, 2)) (t0 : Nat) (ht0 : ∀ cI : Nat → ClassId, (g_tys cI)[t0]? = some (cI t0, newarray.typeOf at0)) (hcb : ∀ U cA, va_RA U cA (newarray.typeOf at0) → U.vm.findClass ("[" ++ (newarray.typeOf at0).toString) = some cA)
    (hn : ¬ n < 0) (hN : n.toNatClampNeg = N) (hby : N * componentBytes (newarray.typeOf at0) ≤ 536870912)
    (hc2 : ∀ (B : gB) (cI : Nat → ClassId), ∃ x : vp_A, g_cell B cI (nw (t, N) M) M.1.length (t, N) = .inl (cI t0, x) ∧ vp_cell (cI t0) x = arrV (cI t0) N (fun _ => defaultValue (newarray.typeOf at0)))
    (bc0 bs0 : Nat) (h1 : bc0 + 1 = bc) (h2 : bs0 + N ≤ bs) (k : GW d bc0 bs0 X (pc + 2) lv (vr (some M.1.length) :: st) (nw (t, N) M) res) : GW d bc bs X pc lv (vi n :: st) M res := by
  intro E D cI p l e R s m args below meth c0 H locs cells slots Q ls C hl hP hS hB hR
  have hts := C.2.2.2.2.1
  have hK := C.2.2.2.2.2.1.1.1
  refine va_newaK C.1 C.2.1 (hts _ ha) rfl hd rfl hn hN hby (by omega) (by omega) rfl fun H1 cA e1 z1 o1 hAr hNm => ?_
  have hcA : cA = cI t0 := Option.some.inj (hNm.symm.trans (hcb _ _ (hK.2 t0 _ (ht0 cI)).2))
  subst hcA
  obtain ⟨x, hx1, hx2⟩ := hc2 (g_EB E) cI
  have hP1 : g_Pic E D cI (nw (t, N) M) H1 := g_Pic_push hP rfl (fun j hj => g_row_ne _ _ hj) (fun j hj => g_row_ne _ _ hj) (fun j hj => g_row_ne _ _ hj) (by rw [hx1]; show H1[H.size]? = some (vp_cell _ _); rw [hx2]; exact e1) z1 o1
  have e2 : Value.ref H.size = g_tr (g_EB E) (vr (some M.1.length)) := by
    show _ = Value.ref (g_ad _ _)
    rw [g_ad_len hP]
  rw [e2]
  exact k E D cI p l e R s m args below meth c0 H1 locs (cells + 1) (slots + N) Q ls C hl hP1 ⟨Nat.le_trans hS.1 (by omega), fun x h1 h2 => (o1 x (Nat.lt_of_lt_of_le h1 hS.1)).trans (hS.2.1 x h1 h2), hS.2.2⟩ ⟨by omega, by omega, hB.2.2⟩ (fun H2 locs2 k2 n2 pc2 ls2 a1 a2 a3 a4 a5 a6 => hR H2 locs2 k2 n2 pc2 ls2 a1 a2 (by omega) (by omega) a5 a6)
end
