section
variable {d bc bs : Nat} {X : gX} {pc : Nat} {lv : List (Nat × gV)} {st : List gV} {M M2 : gM} {res : Option gV × gM}
theorem GW_newa_int {n : Int32} {N : Nat} (ha : Cond.arrayClass .int ∈ g_tb) (hd : decode X.2.1 pc = .ok (.newarray .int, 2)) (hn : ¬ n < 0) (hN : n.toNatClampNeg = N) (hby : N * 4 ≤ 536870912) (bc0 bs0 : Nat) (h1 : bc0 + 1 = bc) (h2 : bs0 + N ≤ bs) (k : GW d bc0 bs0 X (pc + 2) lv (vr (some M.1.length) :: st) (nw (20, N) M) res) : GW d bc bs X pc lv (vi n :: st) M res :=
  g_newa .int ha hd 0 (fun _ => rfl) (fun _ _ h => h) hn hN hby (fun B cI => ⟨_, rfl, by show vp_cell _ (N, .inl (g_row _ _ _ _)) = _; rw [g_row_same]; rfl⟩) bc0 bs0 h1 h2 k
theorem GW_newa_long {n : Int32} {N : Nat} (ha : Cond.arrayClass .long ∈ g_tb) (hd : decode X.2.1 pc = .ok (.newarray .long, 2)) (hn : ¬ n < 0) (hN : n.toNatClampNeg = N) (hby : N * 8 ≤ 536870912) (bc0 bs0 : Nat) (h1 : bc0 + 1 = bc) (h2 : bs0 + N ≤ bs) (k : GW d bc0 bs0 X (pc + 2) lv (vr (some M.1.length) :: st) (nw (21, N) M) res) : GW d bc bs X pc lv (vi n :: st) M res :=
  g_newa .long ha hd 1 (fun _ => rfl) (fun _ _ h => h) hn hN hby (fun B cI => ⟨_, rfl, by show vp_cell _ (N, .inr (.inl (g_row _ _ _ _))) = _; rw [g_row_same]; rfl⟩) bc0 bs0 h1 h2 k
theorem GW_newa_byte {n : Int32} {N : Nat} (ha : Cond.arrayClass .byte ∈ g_tb) (hd : decode X.2.1 pc = .ok (.newarray .byte, 2)) (hn : ¬ n < 0) (hN : n.toNatClampNeg = N) (hby : N * 1 ≤ 536870912) (bc0 bs0 : Nat) (h1 : bc0 + 1 = bc) (h2 : bs0 + N ≤ bs) (k : GW d bc0 bs0 X (pc + 2) lv (vr (some M.1.length) :: st) (nw (22, N) M) res) : GW d bc bs X pc lv (vi n :: st) M res :=
  g_newa .byte ha hd 2 (fun _ => rfl) (fun _ _ h => h) hn hN hby (fun B cI => ⟨_, rfl, by show vp_cell _ (N, .inl (g_row _ _ _ _)) = _; rw [g_row_same]; rfl⟩) bc0 bs0 h1 h2 k
theorem GW_newa_boolean {n : Int32} {N : Nat} (ha : Cond.arrayClass .boolean ∈ g_tb) (hd : decode X.2.1 pc = .ok (.newarray .boolean, 2)) (hn : ¬ n < 0) (hN : n.toNatClampNeg = N) (hby : N * 1 ≤ 536870912) (bc0 bs0 : Nat) (h1 : bc0 + 1 = bc) (h2 : bs0 + N ≤ bs) (k : GW d bc0 bs0 X (pc + 2) lv (vr (some M.1.length) :: st) (nw (23, N) M) res) : GW d bc bs X pc lv (vi n :: st) M res :=
  g_newa .boolean ha hd 3 (fun _ => rfl) (fun _ _ h => h) hn hN hby (fun B cI => ⟨_, rfl, by show vp_cell _ (N, .inl (g_row _ _ _ _)) = _; rw [g_row_same]; rfl⟩) bc0 bs0 h1 h2 k
theorem GW_newaD {n : Int32} {b : Nat} (ha : Cond.arrayClass .int ∈ g_tb) (hd : decode X.2.1 pc = .ok (.newarray .int, 2)) (hv : nwD 20 b n M = some M2) (hby : b * 4 ≤ 536870912) (bc0 bs0 : Nat) (h1 : bc0 + 1 = bc) (h2 : bs0 + b ≤ bs) (k : GW d bc0 bs0 X (pc + 2) lv (vr (some M.1.length) :: st) M2 res) : GW d bc bs X pc lv (vi n :: st) M res := by
  obtain ⟨⟨hn, hN⟩, rfl⟩ := g_if hv
  exact GW_newa_int ha hd hn rfl (by omega) bc0 bs0 h1 (by omega) k
theorem GW_newq {t : Nat} {n : Int32} {N idx : Nat} {C0 : String} (hao : ∀ U, (va_AO RX6 U ∧ va_AO RX8 U ∧ va_AO RX3 U) → va_AO C0 U) (t0 : Nat) (ht0 : ∀ cI : Nat → ClassId, (g_tys cI)[t0]? = some (cI t0, .object C0)) (hc2 : ∀ (B : gB) (cI : Nat → ClassId), g_cell B cI (nw (t, N) M) M.1.length (t, N) = .inl (cI t0, N, .inr (.inr (.inr (.inr (fun j => ((nw (t, N) M).2.2.2 M.1.length j).map (g_ad B)))))))
    (hcl : Cond.classLink X.1 idx C0 ∈ g_tb) (hd : decode X.2.1 pc = .ok (.anewarray idx, 3)) (hn : ¬ n < 0) (hN : n.toNatClampNeg = N) (hby : N * 4 ≤ 536870912) (bc0 bs0 : Nat) (h1 : bc0 + 1 = bc) (h2 : bs0 + N ≤ bs) (k : GW d bc0 bs0 X (pc + 3) lv (vr (some M.1.length) :: st) (nw (t, N) M) res) : GW d bc bs X pc lv (vi n :: st) M res := by
  intro E D cI p l e R s m args below meth c0 H locs cells slots Q ls C hl hP hS hB hR
  have hts := C.2.2.2.2.1
  have hK := C.2.2.2.2.2.1.1.1
  subst hN
  refine W.anew C.1 C.2.1 C.2.2.2.1 (hts _ hcl) (va_AO.use (hao s C.2.2.2.2.2.1.2.2.2.1)) rfl hd rfl hn hby (by omega) (by omega) fun cA kA comp f1 f2 f3 f4 => ?_
  obtain ⟨-, kA', comp', q1, q2, q3, q4⟩ := hK.2 t0 _ (ht0 cI)
  have hcA : cA = cI t0 := Option.some.inj (f1.symm.trans q4)
  subst hcA
  have hP1 : g_Pic E D cI (nw (t, n.toNatClampNeg) M) (H.push { cls := cI t0, slots := Array.replicate n.toNatClampNeg .null, vm := .none }) := by
    refine g_Pic_push hP rfl (fun j hj => g_row_ne _ _ hj) (fun j hj => g_row_ne _ _ hj) (fun j hj => g_row_ne _ _ hj) ?_ (by simp) (fun a ha => by rw [Array.getElem?_push, if_neg (Nat.ne_of_lt ha)])
    rw [hc2]
    show (H.push _)[H.size]? = some (vp_cell _ _)
    rw [Array.getElem?_push_size, arrV_new, vp_cell_q]
    congr 2
    funext j
    rw [show (nw (t, n.toNatClampNeg) M).2.2.2 M.1.length = fun _ => none from g_row_same _ _ _]
    rfl
  have e2 : Value.ref H.size = g_tr (g_EB E) (vr (some M.1.length)) := by
    show _ = Value.ref (g_ad _ _)
    rw [g_ad_len hP]
  rw [e2]
  refine k E D cI p l e R s m args below meth c0 _ locs (cells + 1) (slots + n.toNatClampNeg) Q ls C hl hP1 ⟨Nat.le_trans hS.1 (by simp), fun x h1 h2 => ?_, hS.2.2⟩ ⟨by omega, by omega, hB.2.2⟩ (fun H2 locs2 k2 n2 pc2 ls2 a1 a2 a3 a4 a5 a6 => hR H2 locs2 k2 n2 pc2 ls2 a1 a2 (by omega) (by omega) a5 a6)
  have hx : x < H.size := Nat.lt_of_lt_of_le h1 hS.1
  rw [Array.getElem?_push, if_neg (Nat.ne_of_lt hx)]
  exact hS.2.1 x h1 h2
theorem g_rest8 {B : gB} (st : List gV) : ((st.map (g_tr B)).map fun v => v.category).sum = (st.map g_cat).sum := by
  rw [List.map_map]
  congr 2
  funext v
  exact g_tr_cat B v
theorem g_nn {z : Int32} (hz : ¬ z < 0) : z.toInt = (z.toNatClampNeg : Int) := by
  have hz0 : (0 : Int) ≤ z.toInt := by
    have := Int32.not_lt.mp hz
    simpa using Int32.le_iff_toInt_le.mp this
  show z.toInt = ((z.toInt.toNat : Nat) : Int)
  omega
theorem GW_copy {idx : Nat} {r r2 : Option Nat} {sp dp n : Int32} (hw : Cond.methodLink X.1 idx arraycopyName ∈ g_tb ∧ Cond.native arraycopyName ∈ g_tb ∧ Cond.static arraycopyName ∈ g_tb ∧ Cond.initialized "java/lang/System" ∈ g_tb) (hd : decode X.2.1 pc = .ok (.invokestatic idx, 3)) (hv : cpI M r sp r2 dp n = some M2) (hd1 : 1 ≤ d) (hst : (st.map g_cat).sum ≤ 8) (k : GW d bc bs X (pc + 3) lv st M2 res) : GW d bc bs X pc lv (vi n :: vi dp :: vr r2 :: vi sp :: vr r :: st) M res := by
  obtain ⟨i, rfl, h⟩ := g_bd hv
  obtain ⟨i2, rfl, h⟩ := g_bd h
  obtain ⟨⟨⟨hk, hk2⟩, ⟨⟨h1, h2⟩, h3⟩, h4, h5⟩, rfl⟩ := g_if h
  intro E D cI p l e R s m args below meth c H locs cells slots Q ls C hl hP hS hB hR
  have hts := C.2.2.2.2.1
  have hK := C.2.2.2.2.2.1.1.1
  have hq := g_k_at hk (by decide)
  have hq2 := g_k_at hk2 (by decide)
  have g2 := g_Pic_two hP hq2 (Nat.le_of_ble_eq_true rfl)
  have hc0 : H[g_ad (g_EB E) i]? = some (vp_cell (cI 0) ((g_k M i).2, .inl (M.2.1 i))) := hP.2.2.2.2 _ _ (g_ws_at (g_Pic_two hP hq (Nat.le_of_ble_eq_true rfl)) hq)
  have hc1 : H[g_ad (g_EB E) i2]? = some (vp_cell (cI 0) ((g_k M i2).2, .inl (M.2.1 i2))) := hP.2.2.2.2 _ _ (g_ws_at g2 hq2)
  obtain ⟨-, k0, hk0, cm0, hkk0⟩ := (hK.2 0 _ rfl).1 (g_k M i).2 (fun j => .int (M.2.1 i j))
  intro T hT X0
  obtain ⟨vm', X', step⟩ := X0.arraycopy C.1 C.2.2.2.1 (hts _ hw.1) (hts _ hw.2.1) (hts _ hw.2.2.1) (hts _ hw.2.2.2) (src := g_ad (g_EB E) i) (dst := g_ad (g_EB E) i2) (cs := vp_cell (cI 0) ((g_k M i).2, .inl (M.2.1 i))) (cd := vp_cell (cI 0) ((g_k M i2).2, .inl (M.2.1 i2))) (srcPos := sp) (destPos := dp) (n := n) (by rw [hT]; exact hc0) (by rw [hT]; exact hc1)
    (fun _ h => by cases h) (fun _ h => by cases h) (fun h => by cases h) (fun h => by cases h) hk0 hk0 hkk0 hkk0 (by simp [refKind]) h1 h2 h3
    (by rw [g_nn h1, g_nn h3]; show ¬ _ > ((arrV _ (g_k M i).2 (fun j => .int (M.2.1 i j))).slots.size : Int); rw [arrV_size]; omega)
    (by rw [g_nn h2, g_nn h3]; show ¬ _ > ((arrV _ (g_k M i2).2 (fun j => .int (M.2.1 i2 j))).slots.size : Int); rw [arrV_size]; omega)
    (fun vm₁ _ j hj => by
      have e : (vp_cell (cI 0) ((g_k M i).2, .inl (M.2.1 i))).slots.getD (sp.toNatClampNeg + j) .null = .int (M.2.1 i (sp.toNatClampNeg + j)) := by
        show (arrV _ (g_k M i).2 (fun j => .int (M.2.1 i j))).slots.getD _ _ = _
        rw [Array.getD_eq_getD_getElem?, arrV_read _ _ (by omega)]
        rfl
      refine ⟨?_, ?_⟩
      · rw [e]
        rfl
      · rw [e]
        exact trivial)
    (g := F0 m pc ls ((vi n :: vi dp :: vr (some i2) :: vi sp :: vr (some i) :: st).map (g_tr (g_EB E)))) rfl (by rw [C.2.2.1]; exact hl.1) (rest := st.map (g_tr (g_EB E))) rfl (by rw [C.2.1]; exact hd) (by omega) (by
      show 2 * 0 + _ + (nativeFrameWords "java/lang/System" "arraycopy" 5 + 11) ≤ _
      rw [g_rest8]
      have hn9 : nativeFrameWords "java/lang/System" "arraycopy" 5 ≤ 20 := by decide
      omega)
  have e1 : copied (vp_cell (cI 0) ((g_k M i).2, .inl (M.2.1 i))) (vp_cell (cI 0) ((g_k M i2).2, .inl (M.2.1 i2))) sp dp n = vp_cell (cI 0) ((g_k M i2).2, .inl (va_cpy (M.2.1 i) (M.2.1 i2) sp.toNatClampNeg dp.toNatClampNeg n.toNatClampNeg)) := va_copied (fun z => .int z) (cI 0) (cI 0) (M.2.1 i) (M.2.1 i2) h4
  rw [e1] at X' step
  generalize hcell : vp_cell (cI 0) ((g_k M i2).2, .inl (va_cpy (M.2.1 i) (M.2.1 i2) sp.toNatClampNeg dp.toNatClampNeg n.toNatClampNeg)) = cell2 at X' step
  have hl2 : g_ad (g_EB E) i2 < H.size := (Array.getElem?_eq_some_iff.mp hc1).1
  have oq : ∀ q : Nat, q ≠ g_ad (g_EB E) i2 → (H.setIfInBounds (g_ad (g_EB E) i2) cell2)[q]? = H[q]? := fun q hq => by simp [Array.getElem?_setIfInBounds, Ne.symm hq]
  have hP1 : g_Pic E D cI (M.1, g_row M.2.1 i2 (va_cpy (M.2.1 i) (M.2.1 i2) sp.toNatClampNeg dp.toNatClampNeg n.toNatClampNeg), M.2.2.1, M.2.2.2) (H.setIfInBounds (g_ad (g_EB E) i2) cell2) := by
    refine g_Pic_set hP hq2 (Nat.le_of_ble_eq_true rfl) rfl (fun j hj => g_row_ne _ _ hj) (fun _ _ => rfl) (fun _ _ => rfl) ?_ (by simp) oq
    rw [g_cell_20]
    show (H.setIfInBounds _ _)[_]? = some (vp_cell _ (_, .inl (g_row _ _ _ _)))
    rw [g_row_same, hcell]
    simp [Array.getElem?_setIfInBounds, hl2]
  obtain ⟨t, a1, b1⟩ := k E D cI p l e R s m args below meth c _ _ cells slots Q ls C hl hP1 ⟨by simp; exact hS.1, fun q h1 h2 => by
      rw [oq q (fun e => h2 (by rw [e]; exact g_ad_A g2))]
      exact hS.2.1 q h1 h2, fun q hq => by
      rcases List.mem_append.mp hq with h | h
      · exact hS.2.2 q h
      · obtain ⟨j, -, rfl⟩ := List.mem_map.mp h
        exact g_ad_A g2⟩ hB hR _ (by rw [← hT]; rfl) X'
  exact ⟨t, step t a1, b1⟩
end
