/-! rule() of the reference, as the document says -/
theorem E_readsAll {T : gM} (B : z_B T) {t : Nat} {M : gM} (H : y_HT M) (ht : t ≤ 5) (e11 : (M.2.1 175 11).toInt = (t : Int)) (hc : n_cc M t = 0) (hb : n_b M = n_b T) (hs : n_s M = n_s T) : Ok (F_X12_readsAll (some 175) M) (e_Z (s_text T)) := by
  delta F_X12_readsAll F_X12_readsAll_b0
  have ct : (M.2.1 175 11).toNatClampNeg = t := i_cl e11
  rw [e_gR H (w := 178) rfl (by decide), Option.bind_some, e_gI H, Option.bind_some, e_sI H (i := 178) (n := 7) rfl (by omega) (by omega), Option.bind_some, ct]
  obtain ⟨H3, f3⟩ := y_set (M' := mI M 178 t (0 : Int32)) (S := p_C) H (i := 178) (k := t) (by decide) rfl rfl y_mI1 (fun j a hj => y_mI2 hj) rfl (y_in (lo := 0) (hi := 400) rfl (by decide)) (show Nat.testBit p_C 43 = true by decide)
  have l3 : (mI M 178 t (0 : Int32)).2.1 178 t = 0 := y_mI1
  have r3 : ∀ i k, i ≠ 178 → (mI M 178 t (0 : Int32)).2.1 i k = M.2.1 i k := fun i k h => mI_ne (Or.inl h)
  generalize mI M 178 t (0 : Int32) = M3 at H3 f3 l3 r3 ⊢
  rw [e_pI H3, Option.bind_some]
  obtain ⟨H4, f4⟩ := y_set (M' := mI M3 175 14 (0 : Int32)) (S := p_C) H3 (i := 175) (k := 14) (by decide) rfl rfl y_mI1 (fun j a hj => y_mI2 hj) rfl (y_full rfl) (by decide)
  have w4 : (mI M3 175 14 (0 : Int32)).2.1 175 14 = 0 := y_mI1
  have r4 : ∀ i k, i ≠ 175 ∨ k ≠ 14 → (mI M3 175 14 (0 : Int32)).2.1 i k = M3.2.1 i k := fun i k h => mI_ne h
  generalize mI M3 175 14 (0 : Int32) = M4 at H4 f4 w4 r4 ⊢
  rw [e_pI H4, Option.bind_some]
  obtain ⟨H5, f5⟩ := y_set (M' := mI M4 175 8 (0 : Int32)) (S := p_C) H4 (i := 175) (k := 8) (by decide) rfl rfl y_mI1 (fun j a hj => y_mI2 hj) rfl (y_in (lo := 0) (hi := 400) rfl (by decide)) (by decide)
  have w5 : (mI M4 175 8 (0 : Int32)).2.1 175 8 = 0 := y_mI1
  have r5 : ∀ i k, i ≠ 175 ∨ k ≠ 8 → (mI M4 175 8 (0 : Int32)).2.1 i k = M4.2.1 i k := fun i k h => mI_ne h
  generalize mI M4 175 8 (0 : Int32) = M5 at H5 f5 w5 r5 ⊢
  rw [e_pI H5, Option.bind_some]
  obtain ⟨H6, f6⟩ := y_set (M' := mI M5 175 9 (0 : Int32)) (S := p_C) H5 (i := 175) (k := 9) (by decide) rfl rfl y_mI1 (fun j a hj => y_mI2 hj) rfl (y_full rfl) (by decide)
  have w6 : (mI M5 175 9 (0 : Int32)).2.1 175 9 = 0 := y_mI1
  have r6 : ∀ i k, i ≠ 175 ∨ k ≠ 9 → (mI M5 175 9 (0 : Int32)).2.1 i k = M5.2.1 i k := fun i k h => mI_ne h
  generalize mI M5 175 9 (0 : Int32) = M6 at H6 f6 w6 r6 ⊢
  rw [e_pI H6, Option.bind_some]
  obtain ⟨H7, f7⟩ := y_set (M' := mI M6 175 12 (0 : Int32)) (S := p_C) H6 (i := 175) (k := 12) (by decide) rfl rfl y_mI1 (fun j a hj => y_mI2 hj) rfl (y_in (lo := 0) (hi := 60) rfl (by decide)) (by decide)
  have w7 : (mI M6 175 12 (0 : Int32)).2.1 175 12 = 0 := y_mI1
  have r7 : ∀ i k, i ≠ 175 ∨ k ≠ 12 → (mI M6 175 12 (0 : Int32)).2.1 i k = M6.2.1 i k := fun i k h => mI_ne h
  generalize mI M6 175 12 (0 : Int32) = M7 at H7 f7 w7 r7 ⊢
  have e : ∀ i, i ≠ 175 → i ≠ 178 → ∀ k, M7.2.1 i k = M.2.1 i k := fun i h1 h2 k => by rw [r7 i k (Or.inl h1), r6 i k (Or.inl h1), r5 i k (Or.inl h1), r4 i k (Or.inl h1), r3 i k h2]
  have e11' : M7.2.1 175 11 = M.2.1 175 11 := by rw [r7 _ _ (Or.inr (by decide)), r6 _ _ (Or.inr (by decide)), r5 _ _ (Or.inr (by decide)), r4 _ _ (Or.inr (by decide)), r3 _ _ (by decide)]
  have e1 : M7.2.1 175 1 = M.2.1 175 1 := by rw [r7 _ _ (Or.inr (by decide)), r6 _ _ (Or.inr (by decide)), r5 _ _ (Or.inr (by decide)), r4 _ _ (Or.inr (by decide)), r3 _ _ (by decide)]
  have e14 : M7.2.1 175 14 = 0 := by rw [r7 _ _ (Or.inr (by decide)), r6 _ _ (Or.inr (by decide)), r5 _ _ (Or.inr (by decide)), w4]
  have e8 : M7.2.1 175 8 = 0 := by rw [r7 _ _ (Or.inr (by decide)), r6 _ _ (Or.inr (by decide)), w5]
  have e9 : M7.2.1 175 9 = 0 := by rw [r7 _ _ (Or.inr (by decide)), w6]
  have el : M7.2.1 178 t = 0 := by rw [r7 _ _ (Or.inl (by decide)), r6 _ _ (Or.inl (by decide)), r5 _ _ (Or.inl (by decide)), r4 _ _ (Or.inl (by decide)), l3]
  have x7 : n_x M7 = 0 := by unfold n_x; rw [e8]; rfl
  have l7 : n_l M7 t = 0 := by unfold n_l; rw [el]; rfl
  have s7 : n_s M7 = n_s M := by unfold n_s; rw [e1]
  have N7 : p_N t 0 M7 := by
    refine ⟨⟨⟨⟨H7, ht⟩, by rw [e11']; exact e11⟩, ⟨by rw [l7]; exact Nat.zero_le _, by rw [x7]; exact Nat.zero_le _⟩, ?_, fun k hk => absurd hk (Nat.not_lt_zero _)⟩, by rw [e14]; rfl, by omega⟩
    unfold n_cc
    rw [e 180 (by decide) (by decide) t]
    exact hc
  have X7 : r_X T t M7 (n_sk T 0, 0, []) := by
    refine ⟨⟨(funext (fun q => e 176 (by decide) (by decide) q)).trans hb, s7.trans hs⟩, by rw [x7], ⟨e9, by unfold n_m; rw [w7]; rfl⟩, l7, trivial⟩
  rw [e_gO H7, Option.bind_some]
  refine Ok_b (Ok_and (P_clauseHere N7) (E_clauseHere B N7 X7)) (fun y z => ?_)
  obtain ⟨v9, M10⟩ := y
  obtain ⟨⟨⟨H10, G10⟩, z⟩, E, E14⟩ := z
  dsimp only at H10 G10 z E E14 ⊢
  have s10 := n_s1 H10
  have ht1 : s_text T = s_nx T 13 1 [] (s_cl T 1 (n_sk T 0, 0, [])) := s_tl_S
  rw [ht1]
  rw [s_c1_cl] at E
  refine E_rd_L35 B (t := t) _ 13 1 H10 ?_ (fun _ => n_fu (by omega)) (fun _ => n_fu (by omega)) rfl
  cases hit : s_cl T (0 + 1) (n_sk T 0, 0, []) with
  | inl e =>
    have hit2 : s_cl T 1 (n_sk T 0, 0, []) = .inl e := hit
    rw [hit] at E
    obtain ⟨E1, E2⟩ := E
    dsimp only at E1 E2
    rcases z with z | ⟨z, _⟩
    · exact Or.inl ⟨E1, z.2, e, rfl, E2⟩
    · rw [E1] at z
      exact absurd z (by decide)
  | inr ym =>
    obtain ⟨y', m''⟩ := ym
    have hit2 : s_cl T 1 (n_sk T 0, 0, []) = .inr (y', m'') := hit
    rw [hit] at E
    obtain ⟨E1, E2⟩ := E
    dsimp only at E1 E2
    rcases z with z | ⟨_, ⟨c2, N8⟩, _⟩
    · rw [E1] at z
      exact absurd z.1 (by decide)
    · have q1 := E14 E1
      have q2 := N8.2.1
      have : c2 = 1 := by omega
      subst this
      exact Or.inr ⟨E1, N8, y', m'', rfl, E2⟩
/-- the number of the rule, or the FAULT -/
theorem E_rule {T M : gM} (B : z_B T) (H : y_HT M) (hb : n_b M = n_b T) (hs : n_s M = n_s T) (h2 : (M.2.1 175 2).toInt ≠ 6) : Ok (F_X12_rule (some 175) M) (fun r => r.2.2.1 175 1 = 0 ∧ (match s_text T with
    | .inl e => (∃ w : Int32, r.1 = (-2 : Int32) - w ∧ w.toInt = (e : Int)) ∧ r.2.2.1 175 2 = M.2.1 175 2
    | .inr _ => r.1 = M.2.1 175 2 ∧ (r.2.2.1 175 2).toInt = (M.2.1 175 2).toInt + 1)) := by
  delta F_X12_rule F_X12_rule_b0
  have hr := H.2.1 175 (by decide) 2
  have hr1 : 0 ≤ (M.2.1 175 2).toInt := hr.1
  have hr2 : (M.2.1 175 2).toInt ≤ 6 := hr.2
  have z6 : (6 : Int32).toInt = 6 := rfl
  rw [e_gI H, Option.bind_some, if_neg (fun z => h2 (by rw [z]; rfl))]
  obtain ⟨t, ht⟩ : ∃ t : Nat, (M.2.1 175 2).toInt = (t : Int) := ⟨(M.2.1 175 2).toInt.toNat, by omega⟩
  rw [Option.bind_some, e_pI H, Option.bind_some]
  obtain ⟨H3, f3⟩ := y_set (M' := mI M 175 11 (M.2.1 175 2)) (S := p_C + 2 ^ 2 + 2 ^ 11) H (i := 175) (k := 11) (by decide) rfl rfl y_mI1 (fun j a hj => y_mI2 hj) rfl (y_in (lo := 0) (hi := 6) rfl ⟨hr1, hr2⟩) (by decide)
  have w3 : (mI M 175 11 (M.2.1 175 2)).2.1 175 11 = M.2.1 175 2 := y_mI1
  have r3 : ∀ i k, i ≠ 175 ∨ k ≠ 11 → (mI M 175 11 (M.2.1 175 2)).2.1 i k = M.2.1 i k := fun i k h => mI_ne h
  generalize mI M 175 11 (M.2.1 175 2) = M3 at H3 f3 w3 r3 ⊢
  have ct : (M3.2.1 175 11).toNatClampNeg = t := i_cl (by rw [w3]; exact ht)
  rw [e_gR H3 (w := 180) rfl (by decide), Option.bind_some, e_gI H3, Option.bind_some, e_sI H3 (i := 180) (n := 6) rfl (by rw [w3]; omega) (by rw [w3]; omega), Option.bind_some, ct]
  obtain ⟨H6, f6⟩ := y_set (M' := mI M3 180 t (0 : Int32)) (S := p_C + 2 ^ 2 + 2 ^ 11) H3 (i := 180) (k := t) (by decide) rfl rfl y_mI1 (fun j a hj => y_mI2 hj) rfl (y_in (lo := 0) (hi := 12) rfl (by decide)) (show Nat.testBit (p_C + 2 ^ 2 + 2 ^ 11) 45 = true by decide)
  have w6 : (mI M3 180 t (0 : Int32)).2.1 180 t = 0 := y_mI1
  have r6 : ∀ i k, i ≠ 180 ∨ k ≠ t → (mI M3 180 t (0 : Int32)).2.1 i k = M3.2.1 i k := fun i k h => mI_ne h
  generalize mI M3 180 t (0 : Int32) = M6 at H6 f6 w6 r6 ⊢
  have e11 : (M6.2.1 175 11).toInt = (t : Int) := by rw [r6 _ _ (Or.inl (by decide)), w3]; exact ht
  have e1 : M6.2.1 175 1 = M.2.1 175 1 := (r6 _ _ (Or.inl (by decide))).trans (r3 _ _ (Or.inr (by decide)))
  have e176 : n_b M6 = n_b M := funext (fun q => (r6 176 q (Or.inl (by decide))).trans (r3 176 q (Or.inl (by decide))))
  have e2 : M6.2.1 175 2 = M.2.1 175 2 := (r6 _ _ (Or.inl (by decide))).trans (r3 _ _ (Or.inr (by decide)))
  have c6 : n_cc M6 t = 0 := by unfold n_cc; rw [w6]; rfl
  rw [e_gO H6, Option.bind_some]
  refine Ok_b (Ok_and (P_readsAllR H6 (by omega) e11 c6) (E_readsAll B H6 (by omega) e11 c6 (e176.trans hb) (by rw [← hs]; unfold n_s; rw [e1]))) (fun y z => ?_)
  obtain ⟨v8, M9⟩ := y
  obtain ⟨⟨⟨H9, G9⟩, z⟩, E1, E⟩ := z
  dsimp only at H9 G9 z E1 E ⊢
  have k2 : M9.2.1 175 2 = M.2.1 175 2 := (y_fk (i := 175) (k := 2) G9.1 (by decide)).trans e2
  generalize s_text T = r at E ⊢
  cases r with
  | inl e =>
    obtain ⟨h5, g5⟩ := E
    subst h5
    rw [if_pos rfl, e_gI H9, Option.bind_some]
    exact Ok_s ⟨E1, ⟨_, rfl, g5⟩, k2⟩
  | inr y =>
    have h5 : v8 = 1 := E
    subst h5
    have inc := n_inc (x := M9.2.1 175 2) (n := t) (by rw [k2]; exact ht) (by omega)
    rw [if_neg (by decide), e_gI H9, Option.bind_some, e_pI H9, Option.bind_some, inc]
    have ci : (Int32.ofNat (t + 1)).toInt = ((t + 1 : Nat) : Int) := i_ofNat (by omega)
    have H11 : y_HT (mI M9 175 2 (Int32.ofNat (t + 1))) := (y_set (M' := mI M9 175 2 (Int32.ofNat (t + 1))) (S := p_C + 2 ^ 2 + 2 ^ 11) H9 (i := 175) (k := 2) (by decide) rfl rfl y_mI1 (fun j a hj => y_mI2 hj) rfl (y_in (lo := 0) (hi := 6) rfl (by omega)) (by decide)).1
    have w11 : (mI M9 175 2 (Int32.ofNat (t + 1))).2.1 175 2 = Int32.ofNat (t + 1) := y_mI1
    have w1 : (mI M9 175 2 (Int32.ofNat (t + 1))).2.1 175 1 = 0 := (mI_ne (Or.inr (by decide))).trans E1
    rw [e_gI H11, Option.bind_some, w11]
    refine Ok_s ⟨w1, ?_, ?_⟩
    · refine Int32.toInt_inj.mp ?_
      show (Int32.ofNat (t + 1) - (1 : Int32)).toInt = _
      rw [i_subc (n := 1) rfl (by omega) (by omega)]
      omega
    · show ((mI M9 175 2 (Int32.ofNat (t + 1))).2.1 175 2).toInt = _
      rw [w11]
      omega
