/-! the start: what the Statement gives is what the small machine wants -/
theorem g_tables_in : ∀ w ∈ g_tb, w ∈ lw_tbl := fun _ h => (List.mem_filter.mp h).1
theorem g_st_in : ((Cond.laysStatic "java/lang/String" "COMPACT_STRINGS" "Z" ∈ lw_tbl ∧ Cond.laysStatic "jdk/internal/util/Preconditions" "SIOOBE_FORMATTER" "Ljava/util/function/BiFunction;" ∈ lw_tbl) ∧ (Cond.initialized "java/lang/String" ∈ lw_tbl ∧ Cond.initialized "jdk/internal/util/Preconditions" ∈ lw_tbl)) ∧ Cond.stringRef RX9 64 g_txt ∈ lw_tbl := by decide +kernel
theorem g_arr_in : (Cond.arrayClass .int ∈ lw_tbl ∧ Cond.arrayClass .long ∈ lw_tbl) ∧ (Cond.arrayClass .byte ∈ lw_tbl ∧ Cond.arrayClass .boolean ∈ lw_tbl) := by decide +kernel
theorem g_inst_in : ∀ c, c < 13 → Cond.instantiable (g_R c) (g_N c) ∈ lw_tbl := by decide +kernel
abbrev g_tm : Term := .string RX9 64
theorem g_fl_a : ((Cond.eq (.static "java/lang/String" "COMPACT_STRINGS" "Z") (.int 1)) ∈ flatC (Jvm.Cond.and given_1 narrow_1) ∧ (Cond.isRef (.static "jdk/internal/util/Preconditions" "SIOOBE_FORMATTER" "Ljava/util/function/BiFunction;")) ∈ flatC (Jvm.Cond.and given_1 narrow_1)) ∧ (Cond.exactly g_tm "java/lang/String" ∈ flatC (Jvm.Cond.and given_1 narrow_1) ∧ Cond.eq (.field g_tm "java/lang/String" "coder" "B") (.int 0) ∈ flatC (Jvm.Cond.and given_1 narrow_1)) ∧ (Cond.arrayOf (.field g_tm "java/lang/String" "value" "[B") .byte ∈ flatC (Jvm.Cond.and given_1 narrow_1) ∧ Cond.eq (.length (.field g_tm "java/lang/String" "value" "[B")) (.int (Int32.ofNat 116)) ∈ flatC (Jvm.Cond.and given_1 narrow_1)) := by decide +kernel
theorem g_fl_b : ∀ j, j < 116 → Cond.eq (.elem (.field g_tm "java/lang/String" "value" "[B") (.int (Int32.ofNat j))) (.int (g_byt.getD j 0)) ∈ flatC (Jvm.Cond.and given_1 narrow_1) := by decide +kernel
set_option maxHeartbeats 4000000 in
theorem whole_of (hF : ∀ (L : Nat) (xs : Nat → Int32), L ≤ 3072 → ∃ M', F_L_law (g_M0 L xs) = some (1, M')) {p : Program} {e : Env} {s : State} {m : MethodId} {below : List Frame} {meth : Method} {c : Code} (l : Launch) {b L : Nat} {xs : Nat → Int32} (hL : L ≤ 3072) (C0 : lw_At p s m meth c b L xs) : W p l e room_1 s m #[Value.ref b] below meth c s.heap [] 0 0 (lw_Z below #[Value.ref b] s) (entryFrame m ([Value.ref b] : List Value).toArray 4) := by
  obtain ⟨hx, hb, hr, hml, hown, hts, hX, hbl, hlocks, hgv⟩ := id C0
  obtain ⟨M', hM'⟩ := hF L xs hL
  have hfl := flat_of_before _ hgv
  have hA : ∀ a : Nat, a < s.heap.size → ¬ s.heap.size ≤ a := fun a h => Nat.not_le.mpr h
  -- the classes
  have hcl : ∀ c0, c0 < 13 → ∃ (q : ClassId × (Nat → Nat)), u_Kn s (g_R c0) (g_T c0) (g_N c0) q.1 q.2 := by
    intro c0 h0
    have hok : ∀ w ∈ u_ws (g_R c0) (g_T c0) (g_N c0), w ∈ g_tb := by
      match c0, h0 with
      | 0, _ => exact g_ok0.2.1
      | 1, _ => exact g_ok1.2.1
      | 2, _ => exact g_ok2.2.1
      | 3, _ => exact g_ok3.2.1
      | 4, _ => exact g_ok4.2.1
      | 5, _ => exact g_ok5.2.1
      | 6, _ => exact g_ok6.2.1
      | 7, _ => exact g_ok7.2.1
      | 8, _ => exact g_ok8.2.1
      | 9, _ => exact g_ok9.2.1
      | 10, _ => exact g_ok10.2.1
      | 11, _ => exact g_ok11.2.1
      | 12, _ => exact g_ok12.2.1
      | n + 13, h => omega
    obtain ⟨cC, iS, h⟩ := u_known (C := g_R c0) (T := g_T c0) (N := g_N c0) (n := g_N c0) hts (fun w hw => g_tables_in w (hok w hw)) (hts _ (g_inst_in c0 h0))
    exact ⟨(cC, iS), h⟩
  have hcl2 : ∃ D : va_G, ∀ c0, c0 < 13 → u_Kn s (g_R c0) (g_T c0) (g_N c0) (D.1 c0) (D.2 c0) := by
    have h9 : ∀ c0, ∃ (q : ClassId × (Nat → Nat)), c0 < 13 → u_Kn s (g_R c0) (g_T c0) (g_N c0) q.1 q.2 := by
      intro c0
      by_cases h : c0 < 13
      · obtain ⟨q, hq⟩ := hcl c0 h
        exact ⟨q, fun _ => hq⟩
      · exact ⟨(0, fun _ => 0), fun z => absurd z h⟩
    exact ⟨(fun c0 => (h9 c0).choose.1, fun c0 => (h9 c0).choose.2), fun c0 h => (h9 c0).choose_spec h⟩
  obtain ⟨D, hD⟩ := hcl2
  -- the arrays' classes
  have arP : ∀ ty : FieldType, (Cond.arrayClass ty).before #[Value.ref b] s = true → ∃ cA, ArrOfT s cA ty ∧ s.vm.findClass ("[" ++ ty.toString) = some cA := by
    intro ty h
    obtain ⟨cA, kA, comp, h1, h2, h3⟩ := Cond.arrayClass_spec (args := #[Value.ref b]) (first := s) (o := none) (idx := []) (s := s) h
    exact ⟨cA, fun n z => ⟨fun k h => (by cases h), kA, h2, comp, h3⟩, h1⟩
  have arO : ∀ C1 : String, (Cond.arrayOver (.object C1)).before #[Value.ref b] s = true → ∃ cA, ArrOfT s cA (.object C1) ∧ va_RA s cA (.object C1) := by
    intro C1 h
    obtain ⟨comp, cA, kA, h1, -, h2, h3, h4⟩ := Cond.arrayOver_spec (args := #[Value.ref b]) (first := s) (o := none) (idx := []) (s := s) h
    exact ⟨cA, fun n z => ⟨fun k h => (by cases h), kA, h2, comp, h3⟩, kA, comp, h2, h3, h1, h4⟩
  obtain ⟨a0, i0, j0⟩ := arP .int (hts _ g_arr_in.1.1)
  obtain ⟨a1, i1, j1⟩ := arP .long (hts _ g_arr_in.1.2)
  obtain ⟨a2, i2, j2⟩ := arP .byte (hts _ g_arr_in.2.1)
  obtain ⟨a3, i3, j3⟩ := arP .boolean (hts _ g_arr_in.2.2)
  obtain ⟨a4, i4, j4⟩ := arO RX8 (hts _ g_ao_in.2.1)
  obtain ⟨a5, i5, j5⟩ := arO RX6 (hts _ g_ao_in.1)
  obtain ⟨a6, i6, j6⟩ := arO RX3 (hts _ g_ao_in.2.2)
  obtain ⟨cI, hcI⟩ : ∃ cI : Nat → ClassId, ((cI 0 = a0 ∧ cI 1 = a1) ∧ (cI 2 = a2 ∧ cI 3 = a3)) ∧ (cI 4 = a4 ∧ cI 5 = a5) ∧ cI 6 = a6 := ⟨fun i => if i = 0 then a0 else if i = 1 then a1 else if i = 2 then a2 else if i = 3 then a3 else if i = 4 then a4 else if i = 5 then a5 else a6, by simp⟩
  have hK : va_K D g_cl (g_tys cI) s := by
    refine ⟨fun c0 q hq => ?_, fun k q hq => ?_⟩
    · match c0, hq with
      | 0, hq => cases hq; exact hD 0 (by decide)
      | 1, hq => cases hq; exact hD 1 (by decide)
      | 2, hq => cases hq; exact hD 2 (by decide)
      | 3, hq => cases hq; exact hD 3 (by decide)
      | 4, hq => cases hq; exact hD 4 (by decide)
      | 5, hq => cases hq; exact hD 5 (by decide)
      | 6, hq => cases hq; exact hD 6 (by decide)
      | 7, hq => cases hq; exact hD 7 (by decide)
      | 8, hq => cases hq; exact hD 8 (by decide)
      | 9, hq => cases hq; exact hD 9 (by decide)
      | 10, hq => cases hq; exact hD 10 (by decide)
      | 11, hq => cases hq; exact hD 11 (by decide)
      | 12, hq => cases hq; exact hD 12 (by decide)
      | n + 13, hq => simp [g_cl] at hq
    · obtain ⟨⟨⟨e0, e1⟩, e2, e3⟩, ⟨e4, e5⟩, e6⟩ := hcI
      match k, hq with
      | 0, hq => cases hq; rw [e0]; exact ⟨i0, j0⟩
      | 1, hq => cases hq; rw [e1]; exact ⟨i1, j1⟩
      | 2, hq => cases hq; rw [e2]; exact ⟨i2, j2⟩
      | 3, hq => cases hq; rw [e3]; exact ⟨i3, j3⟩
      | 4, hq => cases hq; rw [e4]; exact ⟨i4, j4⟩
      | 5, hq => cases hq; rw [e5]; exact ⟨i5, j5⟩
      | 6, hq => cases hq; rw [e6]; exact ⟨i6, j6⟩
      | n + 7, hq => simp [g_tys] at hq
  -- the text
  obtain ⟨adK, adV, hSS, hev⟩ := vk_Sof (args := #[Value.ref b]) (s := s) (N := 1) (tm := fun _ => g_tm) (len := [116]) (byt := [g_byt]) (A := fun q => s.heap.size ≤ q) (fun i hi => by rw [show i = 0 by omega]; decide) (fun i _ => hfl _ g_fl_a.2.1.1) (fun i _ => hfl _ g_fl_a.2.1.2) (fun i _ => hfl _ g_fl_a.2.2.1) (fun i hi => by rw [show i = 0 by omega]; exact hfl _ g_fl_a.2.2.2) (fun i hi j hj => by rw [show i = 0 by omega] at hj ⊢; exact hfl _ (g_fl_b j hj)) (fun i j hi hj hn => absurd (by omega) hn) hA
  have hZ : va_Z "java/lang/String" "COMPACT_STRINGS" "Z" (.int 1) (fun q => s.heap.size ≤ q) s s.heap := by
    refine va_Zof (hts _ g_st_in.1.1.1) (hts _ g_st_in.1.2.1) ?_ hA
    obtain ⟨w, h1, h2⟩ := Cond.eq_one (show (Cond.eq (.static "java/lang/String" "COMPACT_STRINGS" "Z") (.int 1)).holds #[Value.ref b] s none s [] = true from hfl _ g_fl_a.1.1)
    have h3 : w = .int 1 := (Option.some.inj h2).symm
    rw [← h3]
    exact h1
  have hZq : va_Zq "jdk/internal/util/Preconditions" "SIOOBE_FORMATTER" "Ljava/util/function/BiFunction;" (fun q => s.heap.size ≤ q) s s.heap := va_Zqof (hts _ g_st_in.1.1.2) (hts _ g_st_in.1.2.2) (hfl _ g_fl_a.1.2) hA
  obtain ⟨E, hE⟩ : ∃ E : gE, E = (b, adK 0, s.heap.size, L, xs) := ⟨_, rfl⟩
  have hAm : g_Am E D cI s s.heap := by
    subst hE
    refine ⟨⟨hK, hbl, Nat.le_refl _, hX, ⟨adV, ?_⟩, hZ, hZq⟩, vk_R.of (hts _ g_st_in.2) (hev 0 (by decide)), fun q hq => va_Nw.of rfl (hts _ (g_nest_in q hq)), ⟨hts _ g_ao_in.1, hts _ g_ao_in.2.1, hts _ g_ao_in.2.2⟩, va_Nw.of rfl (hts _ g_ca_in)⟩
    refine ⟨fun i hi => ?_, fun i j hi hj _ => by omega⟩
    have h0 : i = 0 := by omega
    subst h0
    exact hSS.1 0 hi
  have hP : g_Pic E D cI (g_M0 L xs) s.heap := by
    subst hE
    exact ⟨rfl, rfl, rfl, rfl, fun k q h => by simp [g_ws, g_M0] at h⟩
  have hl := lv_entry ([.ref b]) (n := 4) (Nat.le_of_ble_eq_true rfl)
  rw [lg_entry_eq]
  generalize (lg_sl ([.ref b]) ++ List.replicate (4 - (lg_sl ([.ref b])).length) Slot.unset).toArray = ls at hl ⊢
  have hl : lv_has ls 4 (g_vals (g_EB E) [(0, vr (some 0))]) := by
    subst hE
    exact hl
  have hG := T_L_law_b0 (1, M') (g_M0 L xs) hM' E D cI p l e room_1 s m #[Value.ref b] below meth c s.heap [] 0 0 (lw_Z below #[Value.ref b] s) ls ⟨hx, hb, hml, hown, fun w hw => hts w (g_tables_in w hw), hAm, hlocks, hr, fun h => by cases h⟩ hl hP va_S.rf ⟨Nat.le_of_ble_eq_true rfl, Nat.le_of_ble_eq_true rfl, Nat.le_of_ble_eq_true rfl, Nat.le_of_ble_eq_true rfl⟩
  refine hG fun H1 locs1 k n pc1 ls1 _ hS1 hk hn hd _ => ?_
  have hEb : (g_EB E).2.2 = s.heap.size := by rw [hE]
  refine va_forget (fun q hq => by have h8 := hS1.2.2 q hq; unfold g_A at h8; rw [hEb] at h8; exact h8) ?_
  refine W.widen (k := 600000) (n := 7302250) (Nat.le_trans hk (Nat.le_of_ble_eq_true rfl)) (Nat.le_trans hn (Nat.le_of_ble_eq_true rfl)) ?_
  exact lw_ret hx hb hr hlocks hd
