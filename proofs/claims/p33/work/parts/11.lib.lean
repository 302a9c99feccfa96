/-! the library's calls as rules -/
theorem g_w_slen : (Cond.methodLink RX9 66 yJ0_length_8abf5 ∈ g_tb ∧ Cond.instanceMethod yJ0_length_8abf5 ∈ g_tb) ∧ (Cond.selects "java/lang/String" yJ0_length_8abf5 yJ0_length_8abf5 ∈ g_tb ∧ Cond.code yJ0_length_8abf5 cJ0_length_8abf5 1 (some .int) ∈ g_tb) := by
  unfold g_tb
  simp only [List.mem_filter]
  decide +kernel
theorem g_w_scha : (Cond.methodLink RX9 72 yJ0_charAt_5068e ∈ g_tb ∧ Cond.instanceMethod yJ0_charAt_5068e ∈ g_tb) ∧ (Cond.selects "java/lang/String" yJ0_charAt_5068e yJ0_charAt_5068e ∈ g_tb ∧ Cond.code yJ0_charAt_5068e cJ0_charAt_5068e 2 (some .char) ∈ g_tb) := by
  unfold g_tb
  simp only [List.mem_filter]
  decide +kernel
theorem g_w_arr : (Cond.static arraycopyName ∈ g_tb ∧ Cond.native arraycopyName ∈ g_tb) ∧ Cond.initialized "java/lang/System" ∈ g_tb := by
  unfold g_tb
  simp only [List.mem_filter]
  decide +kernel
theorem g_w_mmin : Cond.static Lib.Math.min.name ∈ g_tb ∧ Cond.initialized "java/lang/Math" ∈ g_tb ∧ Cond.code Lib.Math.min.name Lib.Math.min.code 2 (some .int) ∈ g_tb := by
  unfold g_tb
  simp only [List.mem_filter]
  decide +kernel
theorem g_w_mmax : Cond.static Lib.Math.max.name ∈ g_tb ∧ Cond.initialized "java/lang/Math" ∈ g_tb ∧ Cond.code Lib.Math.max.name Lib.Math.max.code 2 (some .int) ∈ g_tb := by
  unfold g_tb
  simp only [List.mem_filter]
  decide +kernel
theorem g_w_mminL : Cond.static Lib.MathLoose.min_long.x ∈ g_tb ∧ Cond.code Lib.MathLoose.min_long.x Lib.MathLoose.min_long.code 4 (some .long) ∈ g_tb := by
  unfold g_tb
  simp only [List.mem_filter]
  decide +kernel
theorem g_w_mmaxL : Cond.static Lib.MathLoose.max_long.x ∈ g_tb ∧ Cond.code Lib.MathLoose.max_long.x Lib.MathLoose.max_long.code 4 (some .long) ∈ g_tb := by
  unfold g_tb
  simp only [List.mem_filter]
  decide +kernel
theorem g_w_clone : ((Cond.methodLink "java/util/Arrays" 316 ⟨"[I", "clone", "()Ljava/lang/Object;"⟩ ∈ g_tb ∧ Cond.sameMethod "[I" "java/lang/Object" "clone" "()Ljava/lang/Object;" ∈ g_tb) ∧ (Cond.native ⟨"java/lang/Object", "clone", "()Ljava/lang/Object;"⟩ ∈ g_tb ∧ Cond.instanceMethod ⟨"java/lang/Object", "clone", "()Ljava/lang/Object;"⟩ ∈ g_tb)) ∧ (Cond.selects "[I" ⟨"[I", "clone", "()Ljava/lang/Object;"⟩ ⟨"java/lang/Object", "clone", "()Ljava/lang/Object;"⟩ ∈ g_tb ∧ Cond.classLink "java/util/Arrays" 317 "[I" ∈ g_tb) := by
  unfold g_tb
  simp only [List.mem_filter]
  decide +kernel
theorem g_w_objI : Cond.instanceMethod Lib.objectInit ∈ g_tb ∧ Cond.code Lib.objectInit ⟨#[0xb1]⟩ 1 none ∈ g_tb := by
  unfold g_tb
  simp only [List.mem_filter]
  decide +kernel
theorem g_w_arrc : (Cond.arrayClass .int ∈ g_tb ∧ Cond.arrayClass .long ∈ g_tb) ∧ (Cond.arrayClass .byte ∈ g_tb ∧ Cond.arrayClass .boolean ∈ g_tb) := by
  unfold g_tb
  simp only [List.mem_filter]
  decide +kernel
def gch (r : Option Nat) (j : Int32) : Option Int32 := if r = some 1 ∧ gin j 116 = true then some (g_ch j) else none
section
variable {d bc bs : Nat} {X : gX} {pc : Nat} {lv : List (Nat × gV)} {st : List gV} {M M2 : gM} {res : Option gV × gM}
theorem GW_ldcS (hX : X.1 = RX9) (hd : decode X.2.1 pc = .ok (.ldc 64, 2)) (k : GW d bc bs X (pc + 2) lv (vr (some 1) :: st) M res) : GW d bc bs X pc lv st M res := by
  intro E D cI p l e R s m args below meth c H locs cells slots Q ls C hl hP hS hB hR
  refine va_ldcS C.1 C.2.1 C.2.2.2.1 (by rw [hX]; exact C.2.2.2.2.2.1.2.1) hd ?_
  exact k E D cI p l e R s m args below meth c H locs cells slots Q ls C hl hP hS hB hR
theorem GW_strlen (hX : X.1 = RX9) (hd : decode X.2.1 pc = .ok (.invokevirtual 66, 3)) (hd2 : 2 ≤ d) (hst : (st.map g_cat).sum ≤ 8) (k : GW d bc bs X (pc + 3) lv (vi 116 :: st) M res) : GW d bc bs X pc lv (vr (some 1) :: st) M res := by
  intro E D cI p l e R s m args below meth c H locs cells slots Q ls C hl hP hS hB hR
  have hc := g_w_slen
  have hAm := C.2.2.2.2.2.1
  have hown := C.2.2.2.1
  rw [hX] at hown
  refine g_backP (a := #[]) (va_runV (As := []) (rest := st.map (g_tr (g_EB E))) (C := "java/lang/String") ⟨C.1, C.2.1, C.2.2.1, hown, C.2.2.2.2.1⟩ (c_length E D cI l [.ref E.2.1]) (cwV (R := R) 0 C.2.2.2.2.1 (by
      intro w hw9
      rcases List.mem_append.mp hw9 with h | h
      · refine g_tb_good w ?_
        simp only [List.mem_cons, List.not_mem_nil, or_false] at h
        rcases h with rfl | rfl | rfl | rfl
        · exact hc.1.1
        · exact hc.1.2
        · exact hc.2.1
        · exact g_w_cod.2.1.2
      · exact g_good (y := yJ0_length_8abf5) (Y := X_length) hc.2.2 w h) rfl rfl rfl (by decide +kernel) ⟨by show 1 + 1 ≤ _; omega, by show 8 + (1 + 11) + 40 * 1 ≤ _; omega⟩)
    ⟨fun _ _ _ _ q => ⟨q.1, g_Am_calling q.2.1, q.2.2⟩, (by
      obtain ⟨cell, q1, q2, q3, q4⟩ := (g_co_in hAm).2
      exact ⟨cell, by rw [hS.2.1 _ (Array.getElem?_eq_some_iff.mp q1).1 q4]; exact q1, q2, q3⟩), fun U hU hW => ⟨rfl, by rw [hU]; exact g_Am_warm hW hS hAm, rfl⟩⟩ rfl rfl hl.1 rfl (by show 2 * 0 + _ ≤ 8; rw [g_rest8]; omega) hd ⟨by omega, by omega⟩) (fun locs1 hL1 => ?_)
  exact k E D cI p l e R s m args below meth c H locs1 cells slots Q ls C hl hP ⟨hS.1, hS.2.1, fun q h => hS.2.2 q (hL1 q h)⟩ hB hR
theorem GW_charAt {r : Option Nat} {j v : Int32} (hX : X.1 = RX9) (hd : decode X.2.1 pc = .ok (.invokevirtual 72, 3)) (hv : gch r j = some v) (hd2 : 4 ≤ d) (hst : (st.map g_cat).sum ≤ 8) (k : GW d bc bs X (pc + 3) lv (vi v :: st) M res) : GW d bc bs X pc lv (vi j :: vr r :: st) M res := by
  obtain ⟨⟨rfl, hj⟩, rfl⟩ := g_if hv
  intro E D cI p l e R s m args below meth c H locs cells slots Q ls C hl hP hS hB hR
  have hc := g_w_scha
  have hAm := C.2.2.2.2.2.1
  have hown := C.2.2.2.1
  rw [hX] at hown
  refine g_backP (a := #[]) (va_runV (As := [.int j]) (rest := st.map (g_tr (g_EB E))) (C := "java/lang/String") ⟨C.1, C.2.1, C.2.2.1, hown, C.2.2.2.2.1⟩ (c_sca j hj E D cI l [.ref E.2.1, .int j]) (cwV (R := R) 1 C.2.2.2.2.1 (by
      intro w hw9
      rcases List.mem_append.mp hw9 with h | h
      · refine g_tb_good w ?_
        simp only [List.mem_cons, List.not_mem_nil, or_false] at h
        rcases h with rfl | rfl | rfl | rfl
        · exact hc.1.1
        · exact hc.1.2
        · exact hc.2.1
        · exact g_w_cod.2.1.2
      · exact g_good (y := yJ0_charAt_5068e) (Y := X_sca) hc.2.2 w h) rfl rfl rfl (by decide +kernel) ⟨by show 3 + 1 ≤ _; omega, by show 8 + (2 + 11) + 40 * 3 ≤ _; omega⟩)
    ⟨fun _ _ _ _ q => ⟨q.1, g_Am_calling q.2.1, q.2.2⟩, (by
      obtain ⟨cell, q1, q2, q3, q4⟩ := (g_co_in hAm).2
      exact ⟨cell, by rw [hS.2.1 _ (Array.getElem?_eq_some_iff.mp q1).1 q4]; exact q1, q2, q3⟩), fun U hU hW => ⟨rfl, by rw [hU]; exact g_Am_warm hW hS hAm, rfl⟩⟩ rfl rfl hl.1 rfl (by show 2 * 0 + _ ≤ 8; rw [g_rest8]; omega) hd ⟨by omega, by omega⟩) (fun locs1 hL1 => ?_)
  exact k E D cI p l e R s m args below meth c H locs1 cells slots Q ls C hl hP ⟨hS.1, hS.2.1, fun q h => hS.2.2 q (hL1 q h)⟩ hB hR
theorem GW_mmin {idx : Nat} {x y : Int32} (hw : Cond.methodLink X.1 idx Lib.Math.min.name ∈ g_tb) (hd : decode X.2.1 pc = .ok (.invokestatic idx, 3)) (hd1 : 1 ≤ d) (hst : (st.map g_cat).sum ≤ 8) (k : GW d bc bs X (pc + 3) lv (vi (if y < x then y else x) :: st) M res) : GW d bc bs X pc lv (vi y :: vi x :: st) M res := by
  intro E D cI p l e R s m args below meth c H locs cells slots Q ls C hl hP hS hB hR
  have hts := C.2.2.2.2.1
  exact va_mmin C.1 C.2.1 (C.2.2.1.trans hl.1.symm) C.2.2.2.1 (hts _ hw) (hts _ g_w_mmin.1) (hts _ g_w_mmin.2.1) (hts _ g_w_mmin.2.2) (by omega) (by rw [g_rest8]; omega) (by omega) (by omega) hd (k E D cI p l e R s m args below meth c H locs cells slots Q ls C hl hP hS hB hR)
theorem GW_mmax {idx : Nat} {x y : Int32} (hw : Cond.methodLink X.1 idx Lib.Math.max.name ∈ g_tb) (hd : decode X.2.1 pc = .ok (.invokestatic idx, 3)) (hd1 : 1 ≤ d) (hst : (st.map g_cat).sum ≤ 8) (k : GW d bc bs X (pc + 3) lv (vi (if x < y then y else x) :: st) M res) : GW d bc bs X pc lv (vi y :: vi x :: st) M res := by
  intro E D cI p l e R s m args below meth c H locs cells slots Q ls C hl hP hS hB hR
  have hts := C.2.2.2.2.1
  exact va_mmax C.1 C.2.1 (C.2.2.1.trans hl.1.symm) C.2.2.2.1 (hts _ hw) (hts _ g_w_mmax.1) (hts _ g_w_mmax.2.1) (hts _ g_w_mmax.2.2) (by omega) (by rw [g_rest8]; omega) (by omega) (by omega) hd (k E D cI p l e R s m args below meth c H locs cells slots Q ls C hl hP hS hB hR)
theorem GW_mminL {idx : Nat} {x y : Int64} (hw : Cond.methodLink X.1 idx Lib.MathLoose.min_long.x ∈ g_tb) (hd : decode X.2.1 pc = .ok (.invokestatic idx, 3)) (hd1 : 1 ≤ d) (hst : (st.map g_cat).sum ≤ 8) (k : GW d bc bs X (pc + 3) lv (vl (if y < x then y else x) :: st) M res) : GW d bc bs X pc lv (vl y :: vl x :: st) M res := by
  intro E D cI p l e R s m args below meth c H locs cells slots Q ls C hl hP hS hB hR
  have hts := C.2.2.2.2.1
  exact va_mmin_long C.1 C.2.1 (C.2.2.1.trans hl.1.symm) C.2.2.2.1 (hts _ hw) (hts _ g_w_mminL.1) (hts _ g_w_mmin.2.1) (hts _ g_w_mminL.2) (by omega) (by rw [g_rest8]; omega) (by omega) (by omega) hd (k E D cI p l e R s m args below meth c H locs cells slots Q ls C hl hP hS hB hR)
theorem GW_mmaxL {idx : Nat} {x y : Int64} (hw : Cond.methodLink X.1 idx Lib.MathLoose.max_long.x ∈ g_tb) (hd : decode X.2.1 pc = .ok (.invokestatic idx, 3)) (hd1 : 1 ≤ d) (hst : (st.map g_cat).sum ≤ 8) (k : GW d bc bs X (pc + 3) lv (vl (if y < x then x else y) :: st) M res) : GW d bc bs X pc lv (vl y :: vl x :: st) M res := by
  intro E D cI p l e R s m args below meth c H locs cells slots Q ls C hl hP hS hB hR
  have hts := C.2.2.2.2.1
  exact va_mmax_long C.1 C.2.1 (C.2.2.1.trans hl.1.symm) C.2.2.2.1 (hts _ hw) (hts _ g_w_mmaxL.1) (hts _ g_w_mmin.2.1) (hts _ g_w_mmaxL.2) (by omega) (by rw [g_rest8]; omega) (by omega) (by omega) hd (k E D cI p l e R s m args below meth c H locs cells slots Q ls C hl hP hS hB hR)
theorem GW_clone {r : Option Nat} {b : Nat} (hX : X.1 = "java/util/Arrays") (hd : decode X.2.1 pc = .ok (.invokevirtual 316, 3)) (hv : clI b M r = some M2) (hd1 : 1 ≤ d) (hst : (st.map g_cat).sum ≤ 8) (bc0 bs0 : Nat) (h1 : bc0 + 1 = bc) (h2 : bs0 + b ≤ bs) (k : GW d bc0 bs0 X (pc + 3) lv (vr (some M.1.length) :: st) M2 res) : GW d bc bs X pc lv (vr r :: st) M res := by
  obtain ⟨i, rfl, h⟩ := g_bd hv
  obtain ⟨⟨hk, hb⟩, rfl⟩ := g_if h
  intro E D cI p l e R s m args below meth c H locs cells slots Q ls C hl hP hS hB hR
  have hts := C.2.2.2.2.1
  have hK := C.2.2.2.2.2.1.1.1
  have hown := C.2.2.2.1
  rw [hX] at hown
  have hq := g_k_at hk (by decide)
  have hw := g_w_clone
  obtain ⟨n, hn⟩ : ∃ n, (g_k M i).2 = n := ⟨_, rfl⟩
  rw [hn] at hq hb k
  have hc0 : H[g_ad (g_EB E) i]? = some (vp_cell (cI 0) (n, .inl (M.2.1 i))) := hP.2.2.2.2 _ _ (g_ws_at (g_Pic_two hP hq (Nat.le_of_ble_eq_true rfl)) hq)
  have hnm : s.vm.findClass "[I" = some (cI 0) := (hK.2 0 _ rfl).2
  obtain ⟨c0, t0', f1, f2, f3⟩ := Cond.castable_spec (va_Nw.use (A := args) rfl C.2.2.2.2.2.1.2.2.2.2)
  cases hnm.symm.trans f1
  intro T hT X0
  obtain ⟨-, kS, hkS, compS, hkindS⟩ := (hK.2 0 _ rfl).1 0 (fun _ => .null)
  obtain ⟨-, kA, hkA, comp, hkind⟩ := State.isArrayOf_alike X0.warmed.alike ((hK.2 0 _ rfl).1 0 (fun _ => .null))
  have hcellT : T.heap[g_ad (g_EB E) i]? = some (vp_cell (cI 0) (n, .inl (M.2.1 i))) := by rw [hT]; exact hc0
  obtain ⟨vm', X', step⟩ := X0.cloneArray C.1 hown (hts _ hw.1.1.1) (hts _ hw.1.1.2) (hts _ hw.1.2.1) (hts _ hw.1.2.2) (hts _ hw.2.1) (a := g_ad (g_EB E) i) (cell := vp_cell (cI 0) (n, .inl (M.2.1 i))) hcellT (fun k h => by cases h) (fun h => by cases h) hnm f2 f3
    (fun j v hj => by
      have hk' : T.vm.classes[cI 0]? = some kA := hkA
      have hv9 : fits .int v = true := by
        have hj2 : (arrV (cI 0) n (fun j => .int (M.2.1 i j))).slots[j]? = some v := hj
        by_cases hlt : j < n
        · rw [arrV_read _ _ hlt] at hj2
          cases hj2
          rfl
        · rw [Array.getElem?_eq_none (by rw [arrV_size]; omega)] at hj2
          cases hj2
      simpa [State.fitsSlot, State.slotType?, vp_cell, arrV, hk', hkind] using hv9)
    (g := F0 m pc ls ((vr (some i) :: st).map (g_tr (g_EB E)))) rfl (by rw [C.2.2.1]; exact hl.1) (rest := st.map (g_tr (g_EB E))) rfl (by rw [C.2.1]; exact hd) (by omega) (by show 2 * 0 + _ + 14 ≤ _; rw [g_rest8]; omega) (by omega) (by show slots + (arrV _ _ _).slots.size ≤ _; rw [arrV_size]; omega) (hloader := Vm.clonesLoader_of_array hkS hkindS)
  have hsz : (vp_cell (cI 0) (n, .inl (M.2.1 i))).slots.size = n := arrV_size _ _ _
  have hcellE : ({ cls := (vp_cell (cI 0) (n, .inl (M.2.1 i))).cls, slots := (vp_cell (cI 0) (n, .inl (M.2.1 i))).slots } : Cell) = vp_cell (cI 0) (n, .inl (M.2.1 i)) := rfl
  rw [hcellE, hsz] at X'
  have hP1 : g_Pic E D cI (M.1 ++ [(20, n)], g_row M.2.1 M.1.length (M.2.1 i), g_row M.2.2.1 M.1.length (fun _ => 0), g_row M.2.2.2 M.1.length (fun _ => none)) (H.push (vp_cell (cI 0) (n, .inl (M.2.1 i)))) := by
    refine g_Pic_push hP rfl (fun j hj => g_row_ne _ _ hj) (fun j hj => g_row_ne _ _ hj) (fun j hj => g_row_ne _ _ hj) ?_ (by simp) (fun a ha => by rw [Array.getElem?_push, if_neg (Nat.ne_of_lt ha)])
    rw [g_cell_20]
    show (H.push _)[H.size]? = some (vp_cell _ (_, .inl (g_row _ _ _ _)))
    rw [g_row_same, Array.getElem?_push_size]
  have e2 : Value.ref H.size = g_tr (g_EB E) (vr (some M.1.length)) := by
    show _ = Value.ref (g_ad _ _)
    rw [g_ad_len hP]
  obtain ⟨t, a1, b1⟩ := k E D cI p l e R s m args below meth c (H.push (vp_cell (cI 0) (n, .inl (M.2.1 i)))) locs (cells + 1) (slots + n) Q ls C hl hP1 ⟨Nat.le_trans hS.1 (by simp), fun x h1 h2 => by
      have hx : x < H.size := Nat.lt_of_lt_of_le h1 hS.1
      rw [Array.getElem?_push, if_neg (Nat.ne_of_lt hx)]
      exact hS.2.1 x h1 h2, hS.2.2⟩ ⟨by omega, by omega, hB.2.2⟩ (fun H2 locs2 k2 n2 pc2 ls2 a1 a2 a3 a4 a5 a6 => hR H2 locs2 k2 n2 pc2 ls2 a1 a2 (by omega) (by omega) a5 a6) ((T.setVm vm').pushCell (vp_cell (cI 0) (n, .inl (M.2.1 i)))) (by rw [← hT]; rfl) X'
  refine ⟨t, step t ?_, b1⟩
  rw [hcellE, hT, e2]
  exact a1
theorem GW_castI {i : Nat} (hX : X.1 = "java/util/Arrays") (hd : decode X.2.1 pc = .ok (.checkcast 317, 3)) (hk : (g_k M i).1 = 20) (k : GW d bc bs X (pc + 3) lv (vr (some i) :: st) M res) : GW d bc bs X pc lv (vr (some i) :: st) M res := by
  intro E D cI p l e R s m args below meth c H locs cells slots Q ls C hl hP hS hB hR
  have hq := g_k_at hk (by decide)
  have hown := C.2.2.2.1
  rw [hX] at hown
  exact va_castA C.1 C.2.1 hown (C.2.2.2.2.1 _ g_w_clone.2.2) hP.2.2.2.2 (i - 2) (g_ws_at (g_Pic_two hP hq (Nat.le_of_ble_eq_true rfl)) hq) (C.2.2.2.2.2.1.1.1.2 0 _ rfl).2 hd (k E D cI p l e R s m args below meth c H locs cells slots Q ls C hl hP hS hB hR)
end
