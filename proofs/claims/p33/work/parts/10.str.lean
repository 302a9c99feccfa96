/-! the one text: length and charAt -/
def g_PurC (d : Nat) (y : MethodName) (X : gX) (av : gE → State → List Value → Prop) (rv : Option Value) : Prop :=
  ∀ (E : gE) (D : va_G) (cI : Nat → ClassId) (l : Launch) (vs : List Value), Met l y (.code y X.2.1 X.2.2.1 X.2.2.2.1 :: g_tb) (g_room d 0 0)
    (va_Pc vs (fun U => g_Am E D cI U U.heap ∧ av E U vs))
    (fun _ st o t => o = .returned rv ∧ t.heap = st.heap) 0 0 (fun _ => False)
def g_tv (E : gE) (a : Nat) (U : State) : Prop := va_T .byte a 116 (fun j => .int (g_byt.getD j 0)) (g_A (g_EB E)) U U.heap
abbrev X_coder : gX := ("java/lang/String", cJ0_coder_7d493, 1, some .byte, false)
abbrev X_isLatin1 : gX := ("java/lang/String", cJ0_isLatin1_aae02, 1, some .boolean, false)
abbrev X_length : gX := ("java/lang/String", cJ0_length_8abf5, 1, some .int, false)
abbrev X_pci : gX := ("jdk/internal/util/Preconditions", cJ3_checkIndex_8e157, 3, some .int, false)
abbrev X_sci : gX := ("java/lang/String", cJ0_checkIndex_df160, 2, none, false)
abbrev X_lca : gX := ("java/lang/StringLatin1", cJ1_charAt_3b067, 2, some .char, false)
abbrev X_sca : gX := ("java/lang/String", cJ0_charAt_5068e, 2, some .char, false)
theorem d_coder_0 : decode cJ0_coder_7d493 0 = .ok (.getstatic 38, 3) := by decide +kernel
theorem d_coder_3 : decode cJ0_coder_7d493 3 = .ok (.ifCond .eq 10, 3) := by decide +kernel
theorem d_coder_6 : decode cJ0_coder_7d493 6 = .ok (.aload_n 0, 1) := by decide +kernel
theorem d_coder_7 : decode cJ0_coder_7d493 7 = .ok (.getfield 15, 3) := by decide +kernel
theorem d_coder_10 : decode cJ0_coder_7d493 10 = .ok (.goto 4, 3) := by decide +kernel
theorem d_coder_14 : decode cJ0_coder_7d493 14 = .ok (.ireturn, 1) := by decide +kernel
theorem d_isL_0 : decode cJ0_isLatin1_aae02 0 = .ok (.getstatic 38, 3) := by decide +kernel
theorem d_isL_3 : decode cJ0_isLatin1_aae02 3 = .ok (.ifCond .eq 14, 3) := by decide +kernel
theorem d_isL_6 : decode cJ0_isLatin1_aae02 6 = .ok (.aload_n 0, 1) := by decide +kernel
theorem d_isL_7 : decode cJ0_isLatin1_aae02 7 = .ok (.getfield 15, 3) := by decide +kernel
theorem d_isL_10 : decode cJ0_isLatin1_aae02 10 = .ok (.ifCond .ne 7, 3) := by decide +kernel
theorem d_isL_13 : decode cJ0_isLatin1_aae02 13 = .ok (.iconst 1, 1) := by decide +kernel
theorem d_isL_14 : decode cJ0_isLatin1_aae02 14 = .ok (.goto 4, 3) := by decide +kernel
theorem d_isL_18 : decode cJ0_isLatin1_aae02 18 = .ok (.ireturn, 1) := by decide +kernel
theorem d_len_0 : decode cJ0_length_8abf5 0 = .ok (.aload_n 0, 1) := by decide +kernel
theorem d_len_1 : decode cJ0_length_8abf5 1 = .ok (.getfield 9, 3) := by decide +kernel
theorem d_len_4 : decode cJ0_length_8abf5 4 = .ok (.arraylength, 1) := by decide +kernel
theorem d_len_5 : decode cJ0_length_8abf5 5 = .ok (.aload_n 0, 1) := by decide +kernel
theorem d_len_6 : decode cJ0_length_8abf5 6 = .ok (.invokevirtual 335, 3) := by decide +kernel
theorem d_len_9 : decode cJ0_length_8abf5 9 = .ok (.ishr, 1) := by decide +kernel
theorem d_len_10 : decode cJ0_length_8abf5 10 = .ok (.ireturn, 1) := by decide +kernel
theorem d_pci_0 : decode cJ3_checkIndex_8e157 0 = .ok (.iload_n 0, 1) := by decide +kernel
theorem d_pci_1 : decode cJ3_checkIndex_8e157 1 = .ok (.ifCond .lt 8, 3) := by decide +kernel
theorem d_pci_4 : decode cJ3_checkIndex_8e157 4 = .ok (.iload_n 0, 1) := by decide +kernel
theorem d_pci_5 : decode cJ3_checkIndex_8e157 5 = .ok (.iload_n 1, 1) := by decide +kernel
theorem d_pci_6 : decode cJ3_checkIndex_8e157 6 = .ok (.if_icmp .lt 10, 3) := by decide +kernel
theorem d_pci_16 : decode cJ3_checkIndex_8e157 16 = .ok (.iload_n 0, 1) := by decide +kernel
theorem d_pci_17 : decode cJ3_checkIndex_8e157 17 = .ok (.ireturn, 1) := by decide +kernel
theorem d_sci_0 : decode cJ0_checkIndex_df160 0 = .ok (.iload_n 0, 1) := by decide +kernel
theorem d_sci_1 : decode cJ0_checkIndex_df160 1 = .ok (.iload_n 1, 1) := by decide +kernel
theorem d_sci_2 : decode cJ0_checkIndex_df160 2 = .ok (.getstatic 1053, 3) := by decide +kernel
theorem d_sci_5 : decode cJ0_checkIndex_df160 5 = .ok (.invokestatic 1059, 3) := by decide +kernel
theorem d_sci_8 : decode cJ0_checkIndex_df160 8 = .ok (.pop, 1) := by decide +kernel
theorem d_sci_9 : decode cJ0_checkIndex_df160 9 = .ok (.return_, 1) := by decide +kernel
theorem d_lca_0 : decode cJ1_charAt_3b067 0 = .ok (.iload_n 1, 1) := by decide +kernel
theorem d_lca_1 : decode cJ1_charAt_3b067 1 = .ok (.aload_n 0, 1) := by decide +kernel
theorem d_lca_2 : decode cJ1_charAt_3b067 2 = .ok (.arraylength, 1) := by decide +kernel
theorem d_lca_3 : decode cJ1_charAt_3b067 3 = .ok (.invokestatic 9, 3) := by decide +kernel
theorem d_lca_6 : decode cJ1_charAt_3b067 6 = .ok (.aload_n 0, 1) := by decide +kernel
theorem d_lca_7 : decode cJ1_charAt_3b067 7 = .ok (.iload_n 1, 1) := by decide +kernel
theorem d_lca_8 : decode cJ1_charAt_3b067 8 = .ok (.baload, 1) := by decide +kernel
theorem d_lca_9 : decode cJ1_charAt_3b067 9 = .ok (.sipush 255, 3) := by decide +kernel
theorem d_lca_12 : decode cJ1_charAt_3b067 12 = .ok (.iand, 1) := by decide +kernel
theorem d_lca_13 : decode cJ1_charAt_3b067 13 = .ok (.i2c, 1) := by decide +kernel
theorem d_lca_14 : decode cJ1_charAt_3b067 14 = .ok (.ireturn, 1) := by decide +kernel
theorem d_sca_0 : decode cJ0_charAt_5068e 0 = .ok (.aload_n 0, 1) := by decide +kernel
theorem d_sca_1 : decode cJ0_charAt_5068e 1 = .ok (.invokevirtual 492, 3) := by decide +kernel
theorem d_sca_4 : decode cJ0_charAt_5068e 4 = .ok (.ifCond .eq 12, 3) := by decide +kernel
theorem d_sca_7 : decode cJ0_charAt_5068e 7 = .ok (.aload_n 0, 1) := by decide +kernel
theorem d_sca_8 : decode cJ0_charAt_5068e 8 = .ok (.getfield 9, 3) := by decide +kernel
theorem d_sca_11 : decode cJ0_charAt_5068e 11 = .ok (.iload_n 1, 1) := by decide +kernel
theorem d_sca_12 : decode cJ0_charAt_5068e 12 = .ok (.invokestatic 495, 3) := by decide +kernel
theorem d_sca_15 : decode cJ0_charAt_5068e 15 = .ok (.ireturn, 1) := by decide +kernel
theorem g_w_str : (Cond.fieldLink "java/lang/String" 38 "java/lang/String" "COMPACT_STRINGS" "Z" ∈ g_tb ∧ Cond.fieldLink "java/lang/String" 9 "java/lang/String" "value" "[B" ∈ g_tb ∧ Cond.fieldLink "java/lang/String" 15 "java/lang/String" "coder" "B" ∈ g_tb) ∧ Cond.fieldLink "java/lang/String" 1053 "jdk/internal/util/Preconditions" "SIOOBE_FORMATTER" "Ljava/util/function/BiFunction;" ∈ g_tb := by
  unfold g_tb
  simp only [List.mem_filter]
  decide +kernel
theorem g_w_cod : (Cond.methodLink "java/lang/String" 335 yJ0_coder_7d493 ∈ g_tb ∧ Cond.instanceMethod yJ0_coder_7d493 ∈ g_tb) ∧ (Cond.selects "java/lang/String" yJ0_coder_7d493 yJ0_coder_7d493 ∈ g_tb ∧ Cond.initialized "java/lang/String" ∈ g_tb) ∧ Cond.code yJ0_coder_7d493 cJ0_coder_7d493 1 (some .byte) ∈ g_tb := by
  unfold g_tb
  simp only [List.mem_filter]
  decide +kernel
section
variable {p : Program} {l : Launch} {e : Env} {R : Room} {s : State} {m : MethodId} {args : Array Value} {below : List Frame} {meth : Method} {c : Code} {H : Heap} {locs : List Loc} {cells slots : Nat} {Q : State → Prop} {pc : Nat} {ls : Array Slot} {st0 rest : List Value} {a : Array Value} {rv : Option Value}
theorem g_backP (hr : va_Run p l e R s m args below meth c H locs cells slots 0 0 (F0 m pc ls st0) rest ((fun _ st o t => o = .returned rv ∧ t.heap = st.heap : Array Value → State → Outcome → State → Prop) a) (fun _ => False))
    (kk : ∀ (locs1 : List Loc), (∀ q ∈ locs1, q ∈ locs) → W p l e R s m args below meth c H locs1 cells slots Q (F0 m (pc + 3) ls (rv.toList ++ rest))) : W p l e R s m args below meth c H locs cells slots Q (F0 m pc ls st0) := by
  intro T hT X0
  obtain ⟨v, st₀, t, T', L, h0, X', hL, e1, e2, ⟨hv, hh⟩, step⟩ := hr T hT X0
  cases hv
  have hH : T'.heap = H := by rw [e1, hh, h0]
  obtain ⟨t2, a1, b1⟩ := kk (locs ++ L) (fun q hq => by
      rcases List.mem_append.mp hq with h | h
      · exact h
      · exact absurd (hL q h) (fun z => z)) T' hH X'
  exact ⟨t2, step t2 a1, b1⟩
end
theorem g_Pb {vs : List Value} {E : gE} {D : va_G} {cI : Nat → ClassId} {B : State → List Value → Prop} (hB : ∀ U g mk a, B U vs → B (State.calling U g mk a) vs) : FrameBlind (va_Pc vs (fun U => g_Am E D cI U U.heap ∧ B U vs)) :=
  fun a U g mk q => ⟨q.1, g_Am_calling q.2.1, hB U g mk a q.2.2⟩
theorem g_tv_in {E : gE} {D : va_G} {cI : Nat → ClassId} {U : State} (h : g_Am E D cI U U.heap) : ∃ a, va_OF "java/lang/String" "value" "[B" (.ref a) E.2.1 (g_A (g_EB E)) U U.heap ∧ g_tv E a U := by
  obtain ⟨⟨adV, h1, -⟩, -⟩ := h.1.2.2.2.2
  obtain ⟨-, -, h3, h4⟩ := h1 0 (by decide)
  exact ⟨adV 0, h3, h4⟩
theorem g_co_in {E : gE} {D : va_G} {cI : Nat → ClassId} {U : State} (h : g_Am E D cI U U.heap) : va_OF "java/lang/String" "coder" "B" (.int 0) E.2.1 (g_A (g_EB E)) U U.heap ∧ va_O "java/lang/String" E.2.1 (g_A (g_EB E)) U U.heap := by
  obtain ⟨⟨adV, h1, -⟩, -⟩ := h.1.2.2.2.2
  obtain ⟨h2, h3, -, -⟩ := h1 0 (by decide)
  exact ⟨h3, h2⟩
set_option maxHeartbeats 1000000 in
theorem c_coder : g_PurC 0 yJ0_coder_7d493 X_coder (fun E _ vs => vs = [.ref E.2.1]) (some (.int 0)) := by
  intro E D cI l vs
  refine Met.ofW (cc := X_coder.2.1) (maxL := 1) (ret := some .byte) (by decide +kernel) rfl ?_
  intro p e s m args below meth c s₁ B hml hv
  obtain ⟨rfl, hAm, hvs⟩ := hv
  have hvs : vs = [.ref E.2.1] := hvs
  subst hvs
  have hx := B.exec
  have hb := B.bytes
  have hr := B.returns
  have hts := atoms_spec (ws := .code yJ0_coder_7d493 cJ0_coder_7d493 1 (some .byte) :: g_tb) B.pre
  have hown : s.vm.findClass "java/lang/String" = some m.cls := findClass_of_methodNamed B.named
  have hlocks := B.notSynchronized
  have hS : va_S (g_A (g_EB E)) s.heap s.heap [] := va_S.rf
  have hl := lv_entry ([.ref E.2.1]) (n := 1) (Nat.le_of_ble_eq_true rfl)
  rw [lg_entry_eq]
  generalize (lg_sl ([.ref E.2.1]) ++ List.replicate (1 - (lg_sl ([.ref E.2.1])).length) Slot.unset).toArray = ls at hl ⊢
  have hl : lv_has ls 1 [(0, .ref E.2.1)] := hl
  have hw := g_w_str
  refine va_gets hx hb hAm.1.2.2.2.2.2.1 hS hown (hts _ (List.mem_cons_of_mem _ hw.1.1)) (fun _ h => h) d_coder_0 ?_
  refine lv_if_eq (tgt := 13) hx hb d_coder_3 (by decide) (fun h => absurd h (by decide)) (fun _ => ?_)
  refine lv_aload_n hx hb d_coder_6 rfl (lv_at hl 0 rfl) ?_
  refine vk_getf hx hb (g_co_in hAm).1 hS hown (hts _ (List.mem_cons_of_mem _ hw.1.2.2)) (fun _ h => h) d_coder_7 ?_
  refine lv_goto (tgt := 14) hx hb d_coder_10 (by decide) ?_
  exact W.zret (v := 0) hx hb hr rfl (fun t ht _ => ⟨rfl, ht⟩) (fun _ h => by cases h) d_coder_14
set_option maxHeartbeats 1000000 in
theorem c_isLatin1 : g_PurC 0 yJ0_isLatin1_aae02 X_isLatin1 (fun E _ vs => vs = [.ref E.2.1]) (some (.int 1)) := by
  intro E D cI l vs
  refine Met.ofW (cc := X_isLatin1.2.1) (maxL := 1) (ret := some .boolean) (by decide +kernel) rfl ?_
  intro p e s m args below meth c s₁ B hml hv
  obtain ⟨rfl, hAm, hvs⟩ := hv
  have hvs : vs = [.ref E.2.1] := hvs
  subst hvs
  have hx := B.exec
  have hb := B.bytes
  have hr := B.returns
  have hts := atoms_spec (ws := .code yJ0_isLatin1_aae02 cJ0_isLatin1_aae02 1 (some .boolean) :: g_tb) B.pre
  have hown : s.vm.findClass "java/lang/String" = some m.cls := findClass_of_methodNamed B.named
  have hlocks := B.notSynchronized
  have hS : va_S (g_A (g_EB E)) s.heap s.heap [] := va_S.rf
  have hl := lv_entry ([.ref E.2.1]) (n := 1) (Nat.le_of_ble_eq_true rfl)
  rw [lg_entry_eq]
  generalize (lg_sl ([.ref E.2.1]) ++ List.replicate (1 - (lg_sl ([.ref E.2.1])).length) Slot.unset).toArray = ls at hl ⊢
  have hl : lv_has ls 1 [(0, .ref E.2.1)] := hl
  have hw := g_w_str
  refine va_gets hx hb hAm.1.2.2.2.2.2.1 hS hown (hts _ (List.mem_cons_of_mem _ hw.1.1)) (fun _ h => h) d_isL_0 ?_
  refine lv_if_eq (tgt := 17) hx hb d_isL_3 (by decide) (fun h => absurd h (by decide)) (fun _ => ?_)
  refine lv_aload_n hx hb d_isL_6 rfl (lv_at hl 0 rfl) ?_
  refine vk_getf hx hb (g_co_in hAm).1 hS hown (hts _ (List.mem_cons_of_mem _ hw.1.2.2)) (fun _ h => h) d_isL_7 ?_
  refine lv_if_ne (tgt := 17) hx hb d_isL_10 (by decide) (fun h => absurd rfl h) (fun _ => ?_)
  refine lv_iconst (v := 1) hx hb d_isL_13 (by decide) ?_
  refine lv_goto (tgt := 18) hx hb d_isL_14 (by decide) ?_
  exact W.zret (v := 1) hx hb hr rfl (fun t ht _ => ⟨rfl, ht⟩) (fun _ h => by cases h) d_isL_18
set_option maxHeartbeats 1000000 in
theorem c_length : g_PurC 1 yJ0_length_8abf5 X_length (fun E _ vs => vs = [.ref E.2.1]) (some (.int 116)) := by
  intro E D cI l vs
  refine Met.ofW (cc := X_length.2.1) (maxL := 1) (ret := some .int) (by decide +kernel) rfl ?_
  intro p e s m args below meth c s₁ B hml hv
  obtain ⟨rfl, hAm, hvs⟩ := hv
  have hvs : vs = [.ref E.2.1] := hvs
  subst hvs
  have hx := B.exec
  have hb := B.bytes
  have hr := B.returns
  have hts := atoms_spec (ws := .code yJ0_length_8abf5 cJ0_length_8abf5 1 (some .int) :: g_tb) B.pre
  have hown : s.vm.findClass "java/lang/String" = some m.cls := findClass_of_methodNamed B.named
  have hlocks := B.notSynchronized
  have hS : va_S (g_A (g_EB E)) s.heap s.heap [] := va_S.rf
  have hl := lv_entry ([.ref E.2.1]) (n := 1) (Nat.le_of_ble_eq_true rfl)
  rw [lg_entry_eq]
  generalize (lg_sl ([.ref E.2.1]) ++ List.replicate (1 - (lg_sl ([.ref E.2.1])).length) Slot.unset).toArray = ls at hl ⊢
  have hl : lv_has ls 1 [(0, .ref E.2.1)] := hl
  have hw := g_w_str
  have hc := g_w_cod
  have htb : ∀ w ∈ g_tb, w.before _ s = true := fun w h => hts w (List.mem_cons_of_mem _ h)
  obtain ⟨aV, hV, hT⟩ := g_tv_in hAm
  refine lv_aload_n hx hb d_len_0 rfl (lv_at hl 0 rfl) ?_
  refine vk_getf hx hb hV hS hown (htb _ hw.1.2.1) (fun _ h => h) d_len_1 ?_
  refine va_tlen (v := 116) hx hb hT hS rfl d_len_4 ?_
  refine lv_aload_n hx hb d_len_5 rfl (lv_at hl 0 rfl) ?_
  refine g_backP (a := #[]) (va_runV (As := []) (rest := [.int 116]) (C := "java/lang/String") ⟨hx, hb, hml, hown, htb⟩ (c_coder E D cI l [.ref E.2.1]) (cwV 0 htb (by
      intro w hw9
      rcases List.mem_append.mp hw9 with h | h
      · refine g_tb_good w ?_
        simp only [List.mem_cons, List.not_mem_nil, or_false] at h
        rcases h with rfl | rfl | rfl | rfl
        · exact hc.1.1
        · exact hc.1.2
        · exact hc.2.1.1
        · exact hc.2.1.2
      · exact g_good (y := yJ0_coder_7d493) (Y := X_coder) hc.2.2 w h) rfl rfl rfl (by decide +kernel) ⟨Nat.le_of_ble_eq_true rfl, Nat.le_of_ble_eq_true rfl⟩)
    ⟨fun _ _ _ _ q => ⟨q.1, g_Am_calling q.2.1, q.2.2⟩, (by obtain ⟨cell, q1, q2, q3, -⟩ := (g_co_in hAm).2; exact ⟨cell, q1, q2, q3⟩), fun U hU hW => ⟨rfl, by rw [hU]; exact g_Am_warm hW hS hAm, rfl⟩⟩ rfl rfl hl.1 rfl (lv_room (Nat.le_of_ble_eq_true rfl)) d_len_6 ⟨Nat.le_of_ble_eq_true rfl, Nat.le_of_ble_eq_true rfl⟩) (fun locs1 hL1 => ?_)
  have hS1 : va_S (g_A (g_EB E)) s.heap s.heap locs1 := ⟨Nat.le_refl _, fun _ _ _ => rfl, fun q h => absurd (hL1 q h) List.not_mem_nil⟩
  refine lv_ishr hx hb d_len_9 ?_
  rw [show (116 : Int32) >>> ((0 : Int32) &&& 31) = 116 by decide]
  exact W.iret (v := 116) hx hb hr (fun t ht _ => ⟨rfl, ht⟩) (fun q h => absurd (hL1 q h) List.not_mem_nil) d_len_10
theorem g_w_ci : ((Cond.methodLink "java/lang/String" 1059 yJ3_checkIndex_8e157 ∈ g_tb ∧ Cond.static yJ3_checkIndex_8e157 ∈ g_tb) ∧ (Cond.initialized "jdk/internal/util/Preconditions" ∈ g_tb ∧ Cond.code yJ3_checkIndex_8e157 cJ3_checkIndex_8e157 3 (some .int) ∈ g_tb)) ∧ ((Cond.methodLink "java/lang/StringLatin1" 9 yJ0_checkIndex_df160 ∈ g_tb ∧ Cond.static yJ0_checkIndex_df160 ∈ g_tb) ∧ (Cond.initialized "java/lang/String" ∈ g_tb ∧ Cond.code yJ0_checkIndex_df160 cJ0_checkIndex_df160 2 none ∈ g_tb)) := by
  unfold g_tb
  simp only [List.mem_filter]
  decide +kernel
theorem g_w_la : ((Cond.methodLink "java/lang/String" 495 yJ1_charAt_3b067 ∈ g_tb ∧ Cond.static yJ1_charAt_3b067 ∈ g_tb) ∧ (Cond.initialized "java/lang/StringLatin1" ∈ g_tb ∧ Cond.code yJ1_charAt_3b067 cJ1_charAt_3b067 2 (some .char) ∈ g_tb)) ∧ ((Cond.methodLink "java/lang/String" 492 yJ0_isLatin1_aae02 ∈ g_tb ∧ Cond.instanceMethod yJ0_isLatin1_aae02 ∈ g_tb) ∧ (Cond.selects "java/lang/String" yJ0_isLatin1_aae02 yJ0_isLatin1_aae02 ∈ g_tb ∧ Cond.code yJ0_isLatin1_aae02 cJ0_isLatin1_aae02 1 (some .boolean) ∈ g_tb)) := by
  unfold g_tb
  simp only [List.mem_filter]
  decide +kernel
set_option maxHeartbeats 1000000 in
theorem c_pci (j : Int32) (hj : gin j 116 = true) : g_PurC 0 yJ3_checkIndex_8e157 X_pci (fun _ _ vs => ∃ f : Option Nat, vs = [.int j, .int 116, va_rf f]) (some (.int j)) := by
  intro E D cI l vs
  refine Met.ofW (cc := X_pci.2.1) (maxL := 3) (ret := some .int) (by decide +kernel) rfl ?_
  intro p e s m args below meth c s₁ B hml hv
  obtain ⟨rfl, hAm, f, hvs⟩ := hv
  subst hvs
  have hx := B.exec
  have hb := B.bytes
  have hr := B.returns
  have hlocks := B.notSynchronized
  have hl := lv_entry ([.int j, .int 116, va_rf f]) (n := 3) (by cases f <;> exact Nat.le_of_ble_eq_true rfl)
  rw [lg_entry_eq]
  generalize (lg_sl ([.int j, .int 116, va_rf f]) ++ List.replicate (3 - (lg_sl ([.int j, .int 116, va_rf f])).length) Slot.unset).toArray = ls at hl ⊢
  have hl : lv_has ls 3 [(0, .int j), (1, .int 116), (2, va_rf f)] := hl
  obtain ⟨k, hk, rfl⟩ := vp_in_of (gin_in hj) (by decide)
  refine lv_iload_n hx hb d_pci_0 rfl (lv_at hl 0 rfl) ?_
  refine lv_if_lt (tgt := 9) hx hb d_pci_1 (by decide) (fun h => absurd h (nI_pos (by omega))) (fun _ => ?_)
  refine lv_iload_n hx hb d_pci_4 rfl (lv_at hl 0 rfl) ?_
  refine lv_iload_n hx hb d_pci_5 rfl (lv_at hl 1 rfl) ?_
  refine lv_icmp_lt (tgt := 16) hx hb d_pci_6 (by decide) (fun _ => ?_) (fun h => absurd (nI_lt (a := k) (b := 116) hk (by decide)) h)
  refine lv_iload_n hx hb d_pci_16 rfl (lv_at hl 0 rfl) ?_
  exact W.iret (v := nI k) hx hb hr (fun t ht _ => ⟨rfl, ht⟩) (fun q h => absurd h List.not_mem_nil) d_pci_17
theorem g_tb_wS {own : String} {idx : Nat} {y : MethodName} {Y : gX} (h : ((Cond.methodLink own idx y ∈ g_tb ∧ Cond.static y ∈ g_tb) ∧ (Cond.initialized y.cls ∈ g_tb ∧ Cond.code y Y.2.1 Y.2.2.1 Y.2.2.2.1 ∈ g_tb))) : GoodIn g_tb (va_wsS own idx y (.code y Y.2.1 Y.2.2.1 Y.2.2.2.1 :: g_tb)) := by
  intro w hw9
  rcases List.mem_append.mp hw9 with h9 | h9
  · refine g_tb_good w ?_
    simp only [List.mem_cons, List.not_mem_nil, or_false] at h9
    rcases h9 with rfl | rfl | rfl
    · exact h.1.1
    · exact h.1.2
    · exact h.2.1
  · exact g_good (y := y) (Y := Y) h.2.2 w h9
set_option maxHeartbeats 1000000 in
theorem c_sci (j : Int32) (hj : gin j 116 = true) : g_PurC 1 yJ0_checkIndex_df160 X_sci (fun _ _ vs => vs = [.int j, .int 116]) none := by
  intro E D cI l vs
  refine Met.ofW (cc := X_sci.2.1) (maxL := 2) (ret := none) (by decide +kernel) rfl ?_
  intro p e s m args below meth c s₁ B hml hv
  obtain ⟨rfl, hAm, hvs⟩ := hv
  have hvs : vs = [.int j, .int 116] := hvs
  subst hvs
  have hx := B.exec
  have hb := B.bytes
  have hr := B.returns
  have hts := atoms_spec (ws := .code yJ0_checkIndex_df160 cJ0_checkIndex_df160 2 none :: g_tb) B.pre
  have hown : s.vm.findClass "java/lang/String" = some m.cls := findClass_of_methodNamed B.named
  have hlocks := B.notSynchronized
  have hS : va_S (g_A (g_EB E)) s.heap s.heap [] := va_S.rf
  have htb : ∀ w ∈ g_tb, w.before _ s = true := fun w h => hts w (List.mem_cons_of_mem _ h)
  have hl := lv_entry ([.int j, .int 116]) (n := 2) (Nat.le_of_ble_eq_true rfl)
  rw [lg_entry_eq]
  generalize (lg_sl ([.int j, .int 116]) ++ List.replicate (2 - (lg_sl ([.int j, .int 116])).length) Slot.unset).toArray = ls at hl ⊢
  have hl : lv_has ls 2 [(0, .int j), (1, .int 116)] := hl
  refine lv_iload_n hx hb d_sci_0 rfl (lv_at hl 0 rfl) ?_
  refine lv_iload_n hx hb d_sci_1 rfl (lv_at hl 1 rfl) ?_
  have hgo : ∀ f : Option Nat, va_Z "jdk/internal/util/Preconditions" "SIOOBE_FORMATTER" "Ljava/util/function/BiFunction;" (va_rf f) (g_A (g_EB E)) s s.heap → W p l e (headSpec (.code yJ0_checkIndex_df160 cJ0_checkIndex_df160 2 none :: g_tb) (g_room 1 0 0)).room s m #[.int j, .int 116] below meth c s.heap [] 0 0 (MQ below (fun _ st o t => o = .returned none ∧ t.heap = st.heap) #[.int j, .int 116] s 0 0 (fun _ => False)) (F0 m 2 ls [.int 116, .int j]) := by
    intro f hZ
    refine va_gets hx hb hZ hS hown (htb _ g_w_str.2) (fun _ h => h) d_sci_2 ?_
    refine g_backP (a := #[]) (va_runS (As := [.int j, .int 116, va_rf f]) (rest := []) ⟨hx, hb, hml, hown, htb⟩ (c_pci j hj E D cI l [.int j, .int 116, va_rf f]) (va_cwS 3 htb (g_tb_wS (y := yJ3_checkIndex_8e157) (Y := X_pci) g_w_ci.1) rfl rfl rfl (by decide +kernel) ⟨Nat.le_of_ble_eq_true rfl, Nat.le_of_ble_eq_true rfl⟩)
      ⟨fun _ _ _ _ q => ⟨q.1, g_Am_calling q.2.1, q.2.2⟩, fun U hU hW => ⟨rfl, by rw [hU]; exact g_Am_warm hW hS hAm, f, rfl⟩⟩ rfl rfl hl.1 rfl (lv_room (Nat.le_of_ble_eq_true rfl)) d_sci_5 ⟨Nat.le_of_ble_eq_true rfl, Nat.le_of_ble_eq_true rfl⟩) (fun locs1 hL1 => ?_)
    refine lv_pop hx hb d_sci_8 rfl ?_
    exact W.vret hx hb hr (fun t ht _ => ⟨rfl, ht⟩) (fun q h => absurd (hL1 q h) List.not_mem_nil) d_sci_9
  rcases hAm.1.2.2.2.2.2.2 with h | ⟨t, h⟩
  · exact hgo none h
  · exact hgo (some t) h
def g_ch (j : Int32) : Int32 := ((g_byt.getD j.toNatClampNeg 0 &&& 255).toUInt32 % 65536).toInt32
theorem g_ch_ok : ∀ k, k < 116 → narrow .char (.int (g_ch (nI k))) = .int (g_ch (nI k)) := by decide +kernel
set_option maxHeartbeats 1000000 in
theorem c_lca (j : Int32) (hj : gin j 116 = true) : g_PurC 2 yJ1_charAt_3b067 X_lca (fun E U vs => ∃ a, vs = [.ref a, .int j] ∧ g_tv E a U) (some (.int (g_ch j))) := by
  intro E D cI l vs
  refine Met.ofW (cc := X_lca.2.1) (maxL := 2) (ret := some .char) (by decide +kernel) rfl ?_
  intro p e s m args below meth c s₁ B hml hv
  obtain ⟨rfl, hAm, a, hvs, hT⟩ := hv
  subst hvs
  have hx := B.exec
  have hb := B.bytes
  have hr := B.returns
  have hts := atoms_spec (ws := .code yJ1_charAt_3b067 cJ1_charAt_3b067 2 (some .char) :: g_tb) B.pre
  have hown : s.vm.findClass "java/lang/StringLatin1" = some m.cls := findClass_of_methodNamed B.named
  have hlocks := B.notSynchronized
  have hS : va_S (g_A (g_EB E)) s.heap s.heap [] := va_S.rf
  have htb : ∀ w ∈ g_tb, w.before _ s = true := fun w h => hts w (List.mem_cons_of_mem _ h)
  have hl := lv_entry ([.ref a, .int j]) (n := 2) (Nat.le_of_ble_eq_true rfl)
  rw [lg_entry_eq]
  generalize (lg_sl ([.ref a, .int j]) ++ List.replicate (2 - (lg_sl ([.ref a, .int j])).length) Slot.unset).toArray = ls at hl ⊢
  have hl : lv_has ls 2 [(0, .ref a), (1, .int j)] := hl
  refine lv_iload_n hx hb d_lca_0 rfl (lv_at hl 1 rfl) ?_
  refine lv_aload_n hx hb d_lca_1 rfl (lv_at hl 0 rfl) ?_
  refine va_tlen (v := 116) hx hb hT hS rfl d_lca_2 ?_
  refine g_backP (a := #[]) (va_runS (As := [.int j, .int 116]) (rest := []) ⟨hx, hb, hml, hown, htb⟩ (c_sci j hj E D cI l [.int j, .int 116]) (va_cwS 2 htb (g_tb_wS (y := yJ0_checkIndex_df160) (Y := X_sci) g_w_ci.2) rfl rfl rfl (by decide +kernel) ⟨Nat.le_of_ble_eq_true rfl, Nat.le_of_ble_eq_true rfl⟩)
      ⟨fun _ _ _ _ q => ⟨q.1, g_Am_calling q.2.1, q.2.2⟩, fun U hU hW => ⟨rfl, by rw [hU]; exact g_Am_warm hW hS hAm, rfl⟩⟩ rfl rfl hl.1 rfl (lv_room (Nat.le_of_ble_eq_true rfl)) d_lca_3 ⟨Nat.le_of_ble_eq_true rfl, Nat.le_of_ble_eq_true rfl⟩) (fun locs1 hL1 => ?_)
  have hS1 : va_S (g_A (g_EB E)) s.heap s.heap locs1 := ⟨Nat.le_refl _, fun _ _ _ => rfl, fun q h => absurd (hL1 q h) List.not_mem_nil⟩
  refine lv_aload_n hx hb d_lca_6 rfl (lv_at hl 0 rfl) ?_
  refine lv_iload_n hx hb d_lca_7 rfl (lv_at hl 1 rfl) ?_
  refine va_tb hx hb hT hS1 (gin_in hj) rfl d_lca_8 ?_
  refine lv_sipush (v := 255) hx hb d_lca_9 (by decide) ?_
  refine lv_iand hx hb d_lca_12 ?_
  refine lv_i2c (v := g_ch j) hx hb d_lca_13 rfl ?_
  have hn : narrow .char (.int (g_ch j)) = .int (g_ch j) := by
    obtain ⟨k, hk, rfl⟩ := vp_in_of (gin_in hj) (by decide)
    exact g_ch_ok k hk
  exact W.zret (v := g_ch j) hx hb hr hn (fun t ht _ => ⟨rfl, ht⟩) (fun q h => absurd (hL1 q h) List.not_mem_nil) d_lca_14
set_option maxHeartbeats 1000000 in
theorem c_sca (j : Int32) (hj : gin j 116 = true) : g_PurC 3 yJ0_charAt_5068e X_sca (fun E _ vs => vs = [.ref E.2.1, .int j]) (some (.int (g_ch j))) := by
  intro E D cI l vs
  refine Met.ofW (cc := X_sca.2.1) (maxL := 2) (ret := some .char) (by decide +kernel) rfl ?_
  intro p e s m args below meth c s₁ B hml hv
  obtain ⟨rfl, hAm, hvs⟩ := hv
  have hvs : vs = [.ref E.2.1, .int j] := hvs
  subst hvs
  have hx := B.exec
  have hb := B.bytes
  have hr := B.returns
  have hts := atoms_spec (ws := .code yJ0_charAt_5068e cJ0_charAt_5068e 2 (some .char) :: g_tb) B.pre
  have hown : s.vm.findClass "java/lang/String" = some m.cls := findClass_of_methodNamed B.named
  have hlocks := B.notSynchronized
  have hS : va_S (g_A (g_EB E)) s.heap s.heap [] := va_S.rf
  have htb : ∀ w ∈ g_tb, w.before _ s = true := fun w h => hts w (List.mem_cons_of_mem _ h)
  have hl := lv_entry ([.ref E.2.1, .int j]) (n := 2) (Nat.le_of_ble_eq_true rfl)
  rw [lg_entry_eq]
  generalize (lg_sl ([.ref E.2.1, .int j]) ++ List.replicate (2 - (lg_sl ([.ref E.2.1, .int j])).length) Slot.unset).toArray = ls at hl ⊢
  have hl : lv_has ls 2 [(0, .ref E.2.1), (1, .int j)] := hl
  obtain ⟨aV, hV, hT⟩ := g_tv_in hAm
  have hc := g_w_la.2
  refine lv_aload_n hx hb d_sca_0 rfl (lv_at hl 0 rfl) ?_
  refine g_backP (a := #[]) (va_runV (As := []) (rest := []) (C := "java/lang/String") ⟨hx, hb, hml, hown, htb⟩ (c_isLatin1 E D cI l [.ref E.2.1]) (cwV 0 htb (by
      intro w hw9
      rcases List.mem_append.mp hw9 with h | h
      · refine g_tb_good w ?_
        simp only [List.mem_cons, List.not_mem_nil, or_false] at h
        rcases h with rfl | rfl | rfl | rfl
        · exact hc.1.1
        · exact hc.1.2
        · exact hc.2.1
        · exact g_w_cod.2.1.2
      · exact g_good (y := yJ0_isLatin1_aae02) (Y := X_isLatin1) hc.2.2 w h) rfl rfl rfl (by decide +kernel) ⟨Nat.le_of_ble_eq_true rfl, Nat.le_of_ble_eq_true rfl⟩)
    ⟨fun _ _ _ _ q => ⟨q.1, g_Am_calling q.2.1, q.2.2⟩, (by obtain ⟨cell, q1, q2, q3, -⟩ := (g_co_in hAm).2; exact ⟨cell, q1, q2, q3⟩), fun U hU hW => ⟨rfl, by rw [hU]; exact g_Am_warm hW hS hAm, rfl⟩⟩ rfl rfl hl.1 rfl (lv_room (Nat.le_of_ble_eq_true rfl)) d_sca_1 ⟨Nat.le_of_ble_eq_true rfl, Nat.le_of_ble_eq_true rfl⟩) (fun locs1 hL1 => ?_)
  have hS1 : va_S (g_A (g_EB E)) s.heap s.heap locs1 := ⟨Nat.le_refl _, fun _ _ _ => rfl, fun q h => absurd (hL1 q h) List.not_mem_nil⟩
  refine lv_if_eq (tgt := 16) hx hb d_sca_4 (by decide) (fun h => absurd h (by decide)) (fun _ => ?_)
  refine lv_aload_n hx hb d_sca_7 rfl (lv_at hl 0 rfl) ?_
  refine vk_getf hx hb hV hS1 hown (htb _ g_w_str.1.2.1) (fun _ h => h) d_sca_8 ?_
  refine lv_iload_n hx hb d_sca_11 rfl (lv_at hl 1 rfl) ?_
  refine g_backP (a := #[]) (va_runS (As := [.ref aV, .int j]) (rest := []) ⟨hx, hb, hml, hown, htb⟩ (c_lca j hj E D cI l [.ref aV, .int j]) (va_cwS 2 htb (g_tb_wS (y := yJ1_charAt_3b067) (Y := X_lca) g_w_la.1) rfl rfl rfl (by decide +kernel) ⟨Nat.le_of_ble_eq_true rfl, Nat.le_of_ble_eq_true rfl⟩)
      ⟨fun a U g mk q => ⟨q.1, g_Am_calling q.2.1, (by obtain ⟨a', h1, h2⟩ := q.2.2; exact ⟨a', h1, va_T.moved (u := U) (U := U.calling g mk a) (Vm.Alike.refl U.vm) h2⟩)⟩, fun U hU hW => ⟨rfl, by rw [hU]; exact g_Am_warm hW hS hAm, aV, rfl, by show va_T _ _ _ _ _ U U.heap; rw [hU]; exact va_T.moved hW.alike hT⟩⟩ rfl rfl hl.1 rfl (lv_room (Nat.le_of_ble_eq_true rfl)) d_sca_12 ⟨Nat.le_of_ble_eq_true rfl, Nat.le_of_ble_eq_true rfl⟩) (fun locs2 hL2 => ?_)
  have hn : narrow .char (.int (g_ch j)) = .int (g_ch j) := by
    obtain ⟨k, hk, rfl⟩ := vp_in_of (gin_in hj) (by decide)
    exact g_ch_ok k hk
  exact W.zret (v := g_ch j) hx hb hr hn (fun t ht _ => ⟨rfl, ht⟩) (fun q h => absurd (hL1 q (hL2 q h)) List.not_mem_nil) d_sca_15
