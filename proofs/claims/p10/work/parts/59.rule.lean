/-! clauses, the whole text, rule and house -/
theorem n_c9 {M : gM} {p : Nat} : n_cc (n_at M p) = n_cc M := by
  funext t
  unfold n_cc
  rw [n_ata (by decide)]
theorem p_K_of {S t c : Nat} {M M' : gM} (K : p_K t c M) (H : y_HT M') (f : y_Fr S M M') (h1 : Nat.land S (2 ^ 1 + 2 ^ 11 + 2 ^ 42 + 2 ^ 43 + 2 ^ 44 + 2 ^ 45) = 0) (hx : n_l M t ≤ n_x M' ∧ n_x M' ≤ n_s M) : p_K t c M' := by
  obtain ⟨⟨⟨_, ht⟩, e11⟩, _, hcc, C⟩ := K
  have l9 := n_fl (t := t) f (y_dis h1 (by decide))
  refine ⟨⟨⟨H, ht⟩, by rw [y_fk (i := 175) (k := 11) f (y_dis h1 (by decide))]; exact e11⟩, ⟨by rw [l9]; exact hx.1, by rw [n_fs f (y_dis h1 (by decide))]; exact hx.2⟩, ?_, fun k hk => ?_⟩
  · unfold n_cc
    rw [y_fa (i := 180) f (by decide) (y_dis h1 (by decide)) t]
    exact hcc
  · exact p_cl_mo (C k hk) (by omega) (fun j _ => y_fa (i := 177) f (by decide) (y_dis h1 (by decide)) j) (fun j _ => y_fa (i := 179) f (by decide) (y_dis h1 (by decide)) _)
abbrev p_B : Nat := p_A + 2 ^ 14
/-- clauses of the rule t, and as many lines -/
def p_N (t c : Nat) (M : gM) : Prop := p_K t c M ∧ (M.2.1 175 14).toInt = (c : Int) ∧ c ≤ 12
def p_M (t : Nat) (M : gM) : Int32 × gM → Prop := fun r => (y_HT r.2 ∧ p_G p_B t M r.2) ∧ ((r.1 = 0 ∧ r.2.2.1 175 9 ≠ 0) ∨ (r.1 = 1 ∧ (∃ c, p_N t c r.2) ∧ n_x M ≤ n_x r.2))
theorem P_clauseHere {t c : Nat} {M : gM} (N : p_N t c M) : Ok (F_X12_clauseHere (some 175) M) (p_M t M) := by
  obtain ⟨K, hl, hc⟩ := N
  have H := K.1.1.1
  have ht := K.1.1.2
  have hx := K.2.1
  have s1 := n_s1 H
  have k1 := n_sk_le hx.2
  obtain ⟨p, hp⟩ : ∃ p, p = n_sk M (n_x M) := ⟨_, rfl⟩
  rw [← hp] at k1
  obtain ⟨H3, f3⟩ := n_at_set (p := p) H (by omega)
  have x3 : n_x (n_at M p) = p := n_at_x (by omega)
  have s3 : n_s (n_at M p) = n_s M := n_at_s
  have K3 : p_K t c (n_at M p) := p_K_of K H3 f3 (by decide) (by omega)
  have G3 : p_G p_B t M (n_at M p) := p_G_of f3 (by decide) (by decide)
  have v4 : (n_at M p).2.1 175 8 = Int32.ofNat p := n_at8
  have xi : (Int32.ofNat p).toInt = (p : Int) := i_ofNat (by omega)
  have v14 : (n_at M p).2.1 175 14 = M.2.1 175 14 := n_atk (by decide)
  have e11 := K3.1.2
  delta F_X12_clauseHere F_X12_clauseHere_b0
  rw [e_gO H, Option.bind_some, R_see H hx.2, ← hp, Option.bind_some]
  dsimp only
  rw [e_gI H3, Option.bind_some, e_gI H3, Option.bind_some, v4]
  have z6 : (6 : Int32).toInt = 6 := rfl
  refine Ok_e (fun e => by have := i_eq e; omega) ?_
  delta F_X12_clauseHere_b24
  rw [if_pos rfl, e_gO H3, Option.bind_some, R_isW2 H hx.2 hp, Option.bind_some]
  dsimp only
  generalize n_at M p = M3 at H3 x3 s3 K3 G3 v14 e11 ⊢
  have bad : ∀ {k : Int32}, (0 ≤ k.toInt ∧ k.toInt ≤ 4) → Ok ((F_X12_fails (some 175) k (Int32.ofNat p) M3).bind fun (v2, M4) => if v2 = 0 ∨ v2 = 1 then some (v2, M4) else none) (p_M t M) := by
    intro k hk
    rw [R_fails H3, Option.bind_some]
    dsimp only
    rw [if_pos (Or.inl rfl)]
    obtain ⟨H9, f9⟩ := n_f_set (k := k) (p := Int32.ofNat p) H3
    exact Ok_s ⟨⟨H9, p_G_tr G3 (p_G_of f9 (by decide) (by decide))⟩, Or.inl ⟨rfl, n_f9 xi (by omega) hk⟩⟩
  refine Ok_i (fun _ => ?_) (fun _ => ?_)
  · delta F_X12_clauseHere_b49
    rw [e_gO H3, Option.bind_some]
    exact bad (by decide)
  · delta F_X12_clauseHere_b56 F_X12_clauseHere_b71
    rw [e_gI H3, Option.bind_some, if_pos rfl]
    have z12 : (12 : Int32).toInt = 12 := rfl
    refine Ok_i (fun _ => ?_) (fun e => ?_)
    · rw [e_gO H3, Option.bind_some]
      exact bad (by decide)
    · have e' := i_ne e
      have hl3 : (M3.2.1 175 14).toInt = (c : Int) := by rw [v14]; exact hl
      rw [Option.bind_some, e_pI H3, Option.bind_some, n_inc hl3 (by omega)]
      obtain ⟨H2, f2⟩ := y_set (M' := mI M3 175 14 (Int32.ofNat (c + 1))) (S := 2 ^ 14) H3 (i := 175) (k := 14) (by decide) rfl rfl y_mI1 (fun j a hj => y_mI2 hj) rfl (y_full rfl) (by decide)
      have w14 : (mI M3 175 14 (Int32.ofNat (c + 1))).2.1 175 14 = Int32.ofNat (c + 1) := y_mI1
      generalize mI M3 175 14 (Int32.ofNat (c + 1)) = M2 at H2 f2 w14 ⊢
      have x2 := n_fx f2 (by decide)
      have K2 : p_K t c M2 := p_K_of K3 H2 f2 (by decide) (by rw [x2]; exact K3.2.1)
      rw [if_pos rfl, e_gO H2, Option.bind_some]
      refine Ok_b (P_isFadeHere K2 (by omega)) (fun y z => ?_)
      obtain ⟨v, M5⟩ := y
      have hG : p_G p_B t M M5 := p_G_tr G3 (p_G_tr (p_G_of f2 (by decide) (by decide)) (p_G_fl (by decide) z.1.2))
      refine Ok_t ?_ (Ok_s ⟨⟨z.1.1, hG⟩, ?_⟩)
      · rcases z.2 with z | z
        · exact Or.inl z.1
        · exact Or.inr z.1
      · rcases z.2 with z2 | z2
        · exact Or.inl z2
        · refine Or.inr ⟨z2.1, ⟨c + 1, z2.2.1, ?_, by omega⟩, by have := z2.2.2; dsimp only at this ⊢; omega⟩
          show (M5.2.1 175 14).toInt = _
          rw [y_fk (i := 175) (k := 14) z.1.2.1 (by decide), w14, i_ofNat (by omega)]
abbrev p_C : Nat := p_B + 2 ^ 1
def p_Z (t : Nat) (M : gM) : Int32 × gM → Prop := fun r => (y_HT r.2 ∧ p_G p_C t M r.2) ∧ (r.1 = 0 ∨ (r.1 = 1 ∧ ∀ k, k < n_cc r.2 t → y_cl r.2 t (48 * t + 4 * k)))
theorem P_rd_b88 {t : Nat} {M M0 : gM} (H : y_HT M) (G : p_G p_C t M0 M) (h : M.2.1 175 9 ≠ 0 ∨ ∀ k, k < n_cc M t → y_cl M t (48 * t + 4 * k)) : Ok (F_X12_readsAll_b88 (some 175) M) (p_Z t M0) := by
  delta F_X12_readsAll_b88
  rw [e_pI H, Option.bind_some]
  obtain ⟨H1, f1⟩ := y_set (M' := mI M 175 1 (0 : Int32)) (S := 2 ^ 1) H (i := 175) (k := 1) (by decide) rfl rfl y_mI1 (fun j a hj => y_mI2 hj) rfl (y_in (lo := 0) (hi := 400) rfl (by decide)) (by decide)
  have w9 := y_fk (i := 175) (k := 9) f1 (by decide)
  have cc : n_cc (mI M 175 1 (0 : Int32)) t = n_cc M t := by
    unfold n_cc
    rw [y_fa (i := 180) f1 (by decide) (by decide) t]
  have a177 : ∀ j, (mI M 175 1 (0 : Int32)).2.1 177 j = M.2.1 177 j := fun j => y_fa (i := 177) f1 (by decide) (by decide) j
  have a179 : ∀ j, (mI M 175 1 (0 : Int32)).2.1 179 j = M.2.1 179 j := fun j => y_fa (i := 179) f1 (by decide) (by decide) j
  have sn := y_snf f1 (by decide) t
  have G1 : p_G p_C t M0 (mI M 175 1 (0 : Int32)) := p_G_tr G (p_G_of f1 (by decide) (by decide))
  generalize mI M 175 1 (0 : Int32) = M1 at H1 w9 cc a177 a179 sn G1 ⊢
  rw [e_gI H1, Option.bind_some, w9]
  refine Ok_i (fun e => Ok_s ⟨⟨H1, G1⟩, Or.inr ⟨rfl, fun k hk => ?_⟩⟩) (fun _ => Ok_s ⟨⟨H1, G1⟩, Or.inl rfl⟩)
  rcases h with h | h
  · exact absurd e h
  · have := h k (by rw [← cc]; exact hk)
    unfold y_cl at this ⊢
    dsimp only
    rw [a179, a179, a179, a179, sn]
    exact this
theorem p_K_cl {t c : Nat} {M : gM} (K : p_K t c M) : ∀ k, k < n_cc M t → y_cl M t (48 * t + 4 * k) := fun k hk => (K.2.2.2 k (by rw [← K.2.2.1]; exact hk)).1
theorem P_rd_b66 {t : Nat} {l1 : Int32} {M M0 : gM} (H : y_HT M) (G : p_G p_C t M0 M) (h : (l1 = 0 ∧ M.2.1 175 9 ≠ 0) ∨ (l1 = 1 ∧ ∃ c, p_N t c M)) : Ok (F_X12_readsAll_b66 (some 175) l1 M) (p_Z t M0) := by
  delta F_X12_readsAll_b66
  rcases h with ⟨h, h2⟩ | ⟨h, c, N⟩
  · rw [if_pos h]
    exact P_rd_b88 H G (Or.inl h2)
  · have hx := N.1.2.1
    have s1 := n_s1 H
    have k1 := n_sk_le hx.2
    obtain ⟨H3, f3⟩ := n_at_set (p := n_sk M (n_x M)) H (by omega)
    have K3 : p_K t c (n_at M (n_sk M (n_x M))) := p_K_of N.1 H3 f3 (by decide) (by rw [n_at_x (by omega)]; omega)
    have G3 : p_G p_C t M0 (n_at M (n_sk M (n_x M))) := p_G_tr G (p_G_of f3 (by decide) (by decide))
    have xi : (Int32.ofNat (n_sk M (n_x M))).toInt = ((n_sk M (n_x M) : Nat) : Int) := i_ofNat (by omega)
    rw [if_neg (by rw [h]; decide), e_gO H, Option.bind_some, R_see H hx.2, Option.bind_some]
    dsimp only
    refine Ok_i (fun _ => P_rd_b88 H3 G3 (Or.inr (p_K_cl K3))) (fun _ => ?_)
    rw [e_gI H3, Option.bind_some, n_at8, e_gC H3, Option.bind_some, R_fails H3, Option.bind_some]
    dsimp only
    obtain ⟨H9, f9⟩ := n_f_set (k := 0) (p := Int32.ofNat (n_sk M (n_x M))) H3
    exact P_rd_b88 H9 (p_G_tr G3 (p_G_of f9 (by decide) (by decide))) (Or.inl (n_f9 xi (by omega) (by decide)))
theorem P_rd_L35 {t : Nat} {M0 : gM} : ∀ (n : Nat) {l1 : Int32} {M : gM}, y_HT M → p_G p_C t M0 M → ((l1 = 0 ∧ M.2.1 175 9 ≠ 0) ∨ (l1 = 1 ∧ ∃ c, p_N t c M)) → (l1 = 0 → 1 ≤ n) → (l1 ≠ 0 → n_s M - n_x M < n) → Ok (F_X12_readsAll_L35 n (some 175) l1 M) (p_Z t M0) := by
  intro n
  induction n with
  | zero =>
    intro l1 M H G h a1 a2
    exfalso
    by_cases e : l1 = 0
    · have := a1 e
      omega
    · have := a2 e
      omega
  | succ n ih =>
    intro l1 M H G h a1 a2
    show Ok (F_X12_readsAll_b35 (F_X12_readsAll_L35 n) (some 175) l1 M) _
    delta F_X12_readsAll_b35
    rcases h with ⟨h, h2⟩ | ⟨h, c, N⟩
    · rw [if_pos h]
      exact P_rd_b66 H G (Or.inl ⟨h, h2⟩)
    · have hx := N.1.2.1
      have s1 := n_s1 H
      have a3 := a2 (by rw [h]; decide)
      have k1 := n_sk_le hx.2
      obtain ⟨p, hp⟩ : ∃ p, p = n_sk M (n_x M) := ⟨_, rfl⟩
      rw [← hp] at k1
      obtain ⟨H3, f3⟩ := n_at_set (p := p) H (by omega)
      have x3 : n_x (n_at M p) = p := n_at_x (by omega)
      have s3 : n_s (n_at M p) = n_s M := n_at_s
      have N3 : p_N t c (n_at M p) := ⟨p_K_of N.1 H3 f3 (by decide) (by rw [x3]; omega), by rw [n_atk (by decide)]; exact N.2.1, N.2.2⟩
      have G3 : p_G p_C t M0 (n_at M p) := p_G_tr G (p_G_of f3 (by decide) (by decide))
      rw [if_neg (by rw [h]; decide), e_gO H, Option.bind_some, R_see H hx.2, ← hp, Option.bind_some]
      dsimp only
      refine Ok_i (fun e => ?_) (fun _ => P_rd_b66 H3 G3 (Or.inr ⟨h, c, N3⟩))
      have hlt := n_c_lt e (by decide)
      generalize n_at M p = M3 at H3 x3 s3 N3 G3 ⊢
      rw [e_gI H3, Option.bind_some, e_pI H3, Option.bind_some, n_next H3]
      have h9 := N3.1.2.1
      obtain ⟨H5, f5⟩ := n_at_set (p := n_x M3 + 1) H3 (by omega)
      have x5 : n_x (n_at M3 (n_x M3 + 1)) = n_x M3 + 1 := n_at_x (by omega)
      have s5 : n_s (n_at M3 (n_x M3 + 1)) = n_s M3 := n_at_s
      have N5 : p_N t c (n_at M3 (n_x M3 + 1)) := ⟨p_K_of N3.1 H5 f5 (by decide) (by rw [x5]; omega), by rw [n_atk (by decide)]; exact N3.2.1, N3.2.2⟩
      have G5 : p_G p_C t M0 (n_at M3 (n_x M3 + 1)) := p_G_tr G3 (p_G_of f5 (by decide) (by decide))
      generalize n_at M3 (n_x M3 + 1) = M5 at H5 x5 s5 N5 G5 ⊢
      rw [e_gC H5, Option.bind_some]
      refine Ok_b (P_clauseHere N5) (fun y z => ?_)
      obtain ⟨v7, M8⟩ := y
      obtain ⟨⟨H8, G8⟩, z⟩ := z
      have s8 := n_fs G8.1 (by decide)
      dsimp only at H8 G8 z s8 ⊢
      refine ih H8 (p_G_tr G5 (p_G_fl (by decide) G8)) (z.imp id (fun w => ⟨w.1, w.2.1⟩)) (fun _ => by omega) (fun hne => ?_)
      rcases z with z | ⟨_, ⟨c2, N8⟩, z3⟩
      · exact absurd z.1 hne
      · have := N8.1.2.1.2
        omega
/-- the bytes are read as the rule t -/
theorem P_readsAllR {t : Nat} {M : gM} (H : y_HT M) (ht : t ≤ 5) (e11 : (M.2.1 175 11).toInt = (t : Int)) (hc : n_cc M t = 0) : Ok (F_X12_readsAll (some 175) M) (p_Z t M) := by
  delta F_X12_readsAll F_X12_readsAll_b0
  have ct : (M.2.1 175 11).toNatClampNeg = t := i_cl e11
  rw [e_gR H (w := 178) rfl (by decide), Option.bind_some, e_gI H, Option.bind_some, e_sI H (i := 178) (n := 7) rfl (by omega) (by omega), Option.bind_some, ct]
  obtain ⟨H3, f3⟩ := y_set (M' := mI M 178 t (0 : Int32)) (S := p_C) H (i := 178) (k := t) (by decide) rfl rfl y_mI1 (fun j a hj => y_mI2 hj) rfl (y_in (lo := 0) (hi := 400) rfl (by decide)) (show Nat.testBit p_C 43 = true by decide)
  have l3 : (mI M 178 t (0 : Int32)).2.1 178 t = 0 := y_mI1
  have r3 : ∀ i k, i ≠ 178 → (mI M 178 t (0 : Int32)).2.1 i k = M.2.1 i k := fun i k h => mI_ne (Or.inl h)
  generalize mI M 178 t (0 : Int32) = M3 at H3 f3 l3 r3 ⊢
  rw [e_pI H3, Option.bind_some]
  obtain ⟨H4, f4⟩ := y_set (M' := mI M3 175 14 (0 : Int32)) (S := p_C) H3 (i := 175) (k := 14) (by decide) rfl rfl y_mI1 (fun j a hj => y_mI2 hj) rfl (y_full rfl) (by decide)
  have w4 : (mI M3 175 14 (0 : Int32)).2.1 175 14 = 0 := y_mI1
  have r4 : ∀ i k, i ≠ 175 ∨ k ≠ 14 → (mI M3 175 14 (0 : Int32)).2.1 i k = M3.2.1 i k := fun i k h => mI_ne h
  generalize mI M3 175 14 (0 : Int32) = M4 at H4 f4 w4 r4 ⊢
  rw [e_pI H4, Option.bind_some]
  obtain ⟨H5, f5⟩ := y_set (M' := mI M4 175 8 (0 : Int32)) (S := p_C) H4 (i := 175) (k := 8) (by decide) rfl rfl y_mI1 (fun j a hj => y_mI2 hj) rfl (y_in (lo := 0) (hi := 400) rfl (by decide)) (by decide)
  have w5 : (mI M4 175 8 (0 : Int32)).2.1 175 8 = 0 := y_mI1
  have r5 : ∀ i k, i ≠ 175 ∨ k ≠ 8 → (mI M4 175 8 (0 : Int32)).2.1 i k = M4.2.1 i k := fun i k h => mI_ne h
  generalize mI M4 175 8 (0 : Int32) = M5 at H5 f5 w5 r5 ⊢
  rw [e_pI H5, Option.bind_some]
  obtain ⟨H6, f6⟩ := y_set (M' := mI M5 175 9 (0 : Int32)) (S := p_C) H5 (i := 175) (k := 9) (by decide) rfl rfl y_mI1 (fun j a hj => y_mI2 hj) rfl (y_full rfl) (by decide)
  have r6 : ∀ i k, i ≠ 175 ∨ k ≠ 9 → (mI M5 175 9 (0 : Int32)).2.1 i k = M5.2.1 i k := fun i k h => mI_ne h
  generalize mI M5 175 9 (0 : Int32) = M6 at H6 f6 r6 ⊢
  rw [e_pI H6, Option.bind_some]
  obtain ⟨H7, f7⟩ := y_set (M' := mI M6 175 12 (0 : Int32)) (S := p_C) H6 (i := 175) (k := 12) (by decide) rfl rfl y_mI1 (fun j a hj => y_mI2 hj) rfl (y_in (lo := 0) (hi := 60) rfl (by decide)) (by decide)
  have r7 : ∀ i k, i ≠ 175 ∨ k ≠ 12 → (mI M6 175 12 (0 : Int32)).2.1 i k = M6.2.1 i k := fun i k h => mI_ne h
  generalize mI M6 175 12 (0 : Int32) = M7 at H7 f7 r7 ⊢
  have e : ∀ i, i ≠ 175 → i ≠ 178 → ∀ k, M7.2.1 i k = M.2.1 i k := fun i h1 h2 k => by rw [r7 i k (Or.inl h1), r6 i k (Or.inl h1), r5 i k (Or.inl h1), r4 i k (Or.inl h1), r3 i k h2]
  have e11' : M7.2.1 175 11 = M.2.1 175 11 := by rw [r7 _ _ (Or.inr (by decide)), r6 _ _ (Or.inr (by decide)), r5 _ _ (Or.inr (by decide)), r4 _ _ (Or.inr (by decide)), r3 _ _ (by decide)]
  have e14 : M7.2.1 175 14 = 0 := by rw [r7 _ _ (Or.inr (by decide)), r6 _ _ (Or.inr (by decide)), r5 _ _ (Or.inr (by decide)), w4]
  have e8 : M7.2.1 175 8 = 0 := by rw [r7 _ _ (Or.inr (by decide)), r6 _ _ (Or.inr (by decide)), w5]
  have el : M7.2.1 178 t = 0 := by rw [r7 _ _ (Or.inl (by decide)), r6 _ _ (Or.inl (by decide)), r5 _ _ (Or.inl (by decide)), r4 _ _ (Or.inl (by decide)), l3]
  have F : y_Fr p_C M M7 := y_tr f3 (y_tr f4 (y_tr f5 (y_tr f6 f7)))
  have G7 : p_G p_C t M M7 := ⟨F, fun q _ => e 177 (by decide) (by decide) q, fun q _ => e 179 (by decide) (by decide) q, fun k _ => e 180 (by decide) (by decide) k⟩
  have N7 : p_N t 0 M7 := by
    refine ⟨⟨⟨⟨H7, ht⟩, by rw [e11']; exact e11⟩, ⟨?_, ?_⟩, ?_, fun k hk => absurd hk (Nat.not_lt_zero _)⟩, by rw [e14]; rfl, by omega⟩
    · unfold n_l
      rw [el]
      exact Nat.zero_le _
    · unfold n_x
      rw [e8]
      exact Nat.zero_le _
    · unfold n_cc
      rw [e 180 (by decide) (by decide) t]
      exact hc
  rw [e_gO H7, Option.bind_some]
  refine Ok_b (P_clauseHere N7) (fun y z => ?_)
  obtain ⟨v9, M10⟩ := y
  obtain ⟨⟨H10, G10⟩, z⟩ := z
  dsimp only at H10 G10 z ⊢
  have s10 := n_s1 H10
  refine P_rd_L35 _ H10 (p_G_tr G7 (p_G_fl (by decide) G10)) (z.imp id (fun w => ⟨w.1, w.2.1⟩)) (fun _ => n_fu (by omega)) (fun _ => n_fu (by omega))
theorem y_cl_mo {S t c : Nat} {M M' : gM} {t2 : Nat} (G : p_G S t2 M M') (ht : t < t2) (hc : c < 12) (h : y_cl M t (48 * t + 4 * c)) : y_cl M' t (48 * t + 4 * c) := by
  have a : ∀ j, j < 4 → M'.2.1 179 (48 * t + 4 * c + j) = M.2.1 179 (48 * t + 4 * c + j) := fun j hj => G.2.2.1 _ (by omega)
  have a0 : M'.2.1 179 (48 * t + 4 * c) = M.2.1 179 (48 * t + 4 * c) := a 0 (by omega)
  have sn : ∀ j : Nat, j < 400 → y_sn M' t j = y_sn M t j := fun j hj => G.2.1 _ (by omega)
  unfold y_cl at h ⊢
  rw [a0, a 1 (by omega), a 2 (by omega), a 3 (by omega)]
  exact ⟨y_sg_c h.1 (fun j hj => sn j (by have := h.1.1; omega)), fun q => y_sg_c (h.2 q) (fun j hj => sn j (by have := (h.2 q).1; omega))⟩
theorem S_X12_rule {M : gM} (H : y_HT M) (W : y_W M) : Ok (F_X12_rule (some 175) M) (fun r => (y_HT r.2 ∧ y_Fr (p_C + 2 ^ 2 + 2 ^ 11) M r.2) ∧ y_W r.2) := by
  delta F_X12_rule F_X12_rule_b0
  have hr := H.2.1 175 (by decide) 2
  have hr1 : 0 ≤ (M.2.1 175 2).toInt := hr.1
  have hr2 : (M.2.1 175 2).toInt ≤ 6 := hr.2
  have z6 : (6 : Int32).toInt = 6 := rfl
  rw [e_gI H, Option.bind_some]
  refine Ok_i (fun _ => Ok_s ⟨⟨H, y_rf0 _ _⟩, W⟩) (fun c => ?_)
  have c' := i_ne c
  obtain ⟨t, ht⟩ : ∃ t : Nat, (M.2.1 175 2).toInt = (t : Int) := ⟨(M.2.1 175 2).toInt.toNat, by omega⟩
  rw [Option.bind_some, e_pI H, Option.bind_some]
  obtain ⟨H3, f3⟩ := y_set (M' := mI M 175 11 (M.2.1 175 2)) (S := p_C + 2 ^ 2 + 2 ^ 11) H (i := 175) (k := 11) (by decide) rfl rfl y_mI1 (fun j a hj => y_mI2 hj) rfl (y_in (lo := 0) (hi := 6) rfl ⟨hr1, hr2⟩) (by decide)
  have w3 : (mI M 175 11 (M.2.1 175 2)).2.1 175 11 = M.2.1 175 2 := y_mI1
  have r3 : ∀ i k, i ≠ 175 ∨ k ≠ 11 → (mI M 175 11 (M.2.1 175 2)).2.1 i k = M.2.1 i k := fun i k h => mI_ne h
  generalize mI M 175 11 (M.2.1 175 2) = M3 at H3 f3 w3 r3 ⊢
  have ct : (M3.2.1 175 11).toNatClampNeg = t := i_cl (by rw [w3]; exact ht)
  rw [e_gR H3 (w := 180) rfl (by decide), Option.bind_some, e_gI H3, Option.bind_some, e_sI H3 (i := 180) (n := 6) rfl (by rw [w3]; omega) (by rw [w3]; omega), Option.bind_some, ct]
  obtain ⟨H6, f6⟩ := y_set (M' := mI M3 180 t (0 : Int32)) (S := p_C + 2 ^ 2 + 2 ^ 11) H3 (i := 180) (k := t) (by decide) rfl rfl y_mI1 (fun j a hj => y_mI2 hj) rfl (y_in (lo := 0) (hi := 12) rfl (by decide)) (show Nat.testBit (p_C + 2 ^ 2 + 2 ^ 11) 45 = true by decide)
  have w6 : (mI M3 180 t (0 : Int32)).2.1 180 t = 0 := y_mI1
  have r6 : ∀ i k, i ≠ 180 ∨ k ≠ t → (mI M3 180 t (0 : Int32)).2.1 i k = M3.2.1 i k := fun i k h => mI_ne h
  generalize mI M3 180 t (0 : Int32) = M6 at H6 f6 w6 r6 ⊢
  have e6 : ∀ i k, i ≠ 175 → i ≠ 180 → M6.2.1 i k = M.2.1 i k := fun i k h1 h2 => (r6 i k (Or.inl h2)).trans (r3 i k (Or.inl h1))
  have e11 : (M6.2.1 175 11).toInt = (t : Int) := by rw [r6 _ _ (Or.inl (by decide)), w3]; exact ht
  have F6 := y_tr f3 f6
  rw [e_gO H6, Option.bind_some]
  refine Ok_b (P_readsAllR H6 (by omega) e11 (by unfold n_cc; rw [w6]; rfl)) (fun y z => ?_)
  obtain ⟨v8, M9⟩ := y
  obtain ⟨⟨H9, G9⟩, z⟩ := z
  dsimp only at H9 G9 z ⊢
  have F9 : y_Fr (p_C + 2 ^ 2 + 2 ^ 11) M M9 := y_tr F6 (y_fl (by decide) G9.1)
  have k2 : M9.2.1 175 2 = M.2.1 175 2 := (y_fk (i := 175) (k := 2) G9.1 (by decide)).trans ((r6 _ _ (Or.inl (by decide))).trans (r3 _ _ (Or.inr (by decide))))
  have k21 : M9.2.1 175 21 = M.2.1 175 21 := (y_fk (i := 175) (k := 21) G9.1 (by decide)).trans ((r6 _ _ (Or.inl (by decide))).trans (r3 _ _ (Or.inr (by decide))))
  have k194 : ∀ k, M9.2.1 194 k = M.2.1 194 k := fun k => (y_fa (i := 194) G9.1 (by decide) (by decide) k).trans (e6 194 k (by decide) (by decide))
  have k196 : ∀ k, M9.2.1 196 k = M.2.1 196 k := fun k => (y_fa (i := 196) G9.1 (by decide) (by decide) k).trans (e6 196 k (by decide) (by decide))
  -- the elder rules
  have old : ∀ t2 c2 : Nat, t2 < t → (c2 : Int) < (M9.2.1 180 t2).toInt → y_cl M9 t2 (48 * t2 + 4 * c2) := by
    intro t2 c2 h1 h2
    rw [G9.2.2.2 t2 (by omega), r6 180 t2 (Or.inr (by omega)), r3 180 t2 (Or.inl (by decide))] at h2
    have h3 := H.2.1 180 (by decide) t2
    have h4 : (M.2.1 180 t2).toInt ≤ 12 := h3.2
    have h5 := W.2 t2 c2 (by omega) h2
    refine y_cl_mo G9 h1 (by omega) ?_
    have sn : y_sn M6 t2 = y_sn M t2 := funext (fun j => e6 177 _ (by decide) (by decide))
    unfold y_cl at h5 ⊢
    rw [e6 179 _ (by decide) (by decide), e6 179 _ (by decide) (by decide), e6 179 _ (by decide) (by decide), e6 179 _ (by decide) (by decide), sn]
    exact h5
  rcases z with z | ⟨z, zc⟩
  · subst z
    rw [if_pos rfl, e_gI H9, Option.bind_some]
    refine Ok_s ⟨⟨H9, F9⟩, ⟨?_, fun k hk hn => ?_⟩, fun t2 c2 h1 h2 => ?_⟩
    · dsimp only
      rw [k2, k21]
      exact W.1.1
    · dsimp only at hn ⊢
      rw [k196] at hn
      rw [k194, k2]
      exact W.1.2 k hk hn
    · dsimp only at h1 h2 ⊢
      rw [k2] at h1
      exact old t2 c2 (by omega) h2
  · subst z
    have inc := n_inc (x := M9.2.1 175 2) (n := t) (by rw [k2]; exact ht) (by omega)
    rw [if_neg (by decide), e_gI H9, Option.bind_some, e_pI H9, Option.bind_some, inc]
    have ci : (Int32.ofNat (t + 1)).toInt = ((t + 1 : Nat) : Int) := i_ofNat (by omega)
    obtain ⟨H11, f11⟩ := y_set (M' := mI M9 175 2 (Int32.ofNat (t + 1))) (S := p_C + 2 ^ 2 + 2 ^ 11) H9 (i := 175) (k := 2) (by decide) rfl rfl y_mI1 (fun j a hj => y_mI2 hj) rfl (y_in (lo := 0) (hi := 6) rfl (by omega)) (by decide)
    have w11 : (mI M9 175 2 (Int32.ofNat (t + 1))).2.1 175 2 = Int32.ofNat (t + 1) := y_mI1
    have r11 : ∀ i k, i ≠ 175 ∨ k ≠ 2 → (mI M9 175 2 (Int32.ofNat (t + 1))).2.1 i k = M9.2.1 i k := fun i k h => mI_ne h
    generalize mI M9 175 2 (Int32.ofNat (t + 1)) = M11 at H11 f11 w11 r11 ⊢
    rw [e_gI H11, Option.bind_some]
    have hcl : ∀ t2 q, y_cl M9 t2 q → y_cl M11 t2 q := by
      intro t2 q h
      have sn : y_sn M11 t2 = y_sn M9 t2 := funext (fun j => r11 177 _ (Or.inl (by decide)))
      unfold y_cl at h ⊢
      rw [r11 179 _ (Or.inl (by decide)), r11 179 _ (Or.inl (by decide)), r11 179 _ (Or.inl (by decide)), r11 179 _ (Or.inl (by decide)), sn]
      exact h
    refine Ok_s ⟨⟨H11, y_tr F9 f11⟩, ⟨?_, fun k hk hn => ?_⟩, fun t2 c2 h1 h2 => ?_⟩
    · dsimp only
      rw [w11, ci, r11 175 21 (Or.inr (by decide)), k21]
      have := W.1.1
      omega
    · dsimp only at hn ⊢
      rw [r11 196 k (Or.inl (by decide)), k196] at hn
      rw [r11 194 k (Or.inl (by decide)), k194, w11, ci]
      have := W.1.2 k hk hn
      omega
    · dsimp only at h1 h2 ⊢
      rw [w11, ci] at h1
      rw [r11 180 t2 (Or.inl (by decide))] at h2
      apply hcl
      rcases Nat.lt_or_ge t2 t with h3 | h3
      · exact old t2 c2 h3 h2
      · have e : t2 = t := by omega
        subst e
        exact zc c2 (by have := (n_cc1 H9 t2).1; omega)
