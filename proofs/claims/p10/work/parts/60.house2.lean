/-! the whole text as a HOUSE -/
theorem P_clauseHereH {M : gM} (H : y_HT M) (hx : n_x M ≤ n_s M) (e11 : M.2.1 175 11 = 6) : Ok (F_X12_clauseHere (some 175) M) (h_Q M) := by
  delta F_X12_clauseHere F_X12_clauseHere_b0
  rw [e_gO H, Option.bind_some]
  refine h_see H hx (fun M3 H3 f3 _ => ?_)
  dsimp only
  have x3 := n_x1 H3
  have t3 : M3.2.1 175 11 = 6 := (y_fk (i := 175) (k := 11) f3.1 (by decide)).trans e11
  rw [e_gI H3, Option.bind_some, e_gI H3, Option.bind_some, t3, if_pos rfl]
  delta F_X12_clauseHere_b24
  rw [if_neg (by decide), e_gO H3, Option.bind_some]
  refine Ok_b (P_isHouseWord H3 f3.2.2) (fun y z => ?_)
  obtain ⟨v5, M6⟩ := y
  obtain ⟨z1, H6, f6⟩ := z
  have F6 := h_tr f3 f6
  dsimp only at z1 H6 f6 F6 ⊢
  have bad : ∀ {k : Int32}, (0 ≤ k.toInt ∧ k.toInt ≤ 4) → Ok ((F_X12_fails (some 175) k (M3.2.1 175 8) M6).bind fun (v2, M4) => if v2 = 0 ∨ v2 = 1 then some (v2, M4) else none) (h_Q M) := by
    intro k hk
    refine h_fails H6 x3.1 x3.2 hk (fun M' H' f' g' => ?_)
    dsimp only
    rw [if_pos (Or.inl rfl)]
    exact h_Q0 H' (y_tr F6.1 f') g'
  refine Ok_i (fun _ => ?_) (fun _ => ?_)
  · delta F_X12_clauseHere_b49
    rw [e_gO H6, Option.bind_some]
    exact bad (by decide)
  · delta F_X12_clauseHere_b56 F_X12_clauseHere_b71
    rw [e_gI H6, Option.bind_some, if_neg (by decide)]
    refine Ok_i (fun _ => ?_) (fun e => ?_)
    · rw [e_gO H6, Option.bind_some]
      exact bad (by decide)
    · rw [Option.bind_some, e_pI H6, Option.bind_some]
      obtain ⟨H2, f2⟩ := y_set (M' := mI M6 175 14 (M6.2.1 175 14 + (1 : Int32))) (S := h_A) H6 (i := 175) (k := 14) (by decide) rfl rfl y_mI1 (fun j a hj => y_mI2 hj) rfl (y_full rfl) (by decide)
      have x2 : n_x (mI M6 175 14 (M6.2.1 175 14 + (1 : Int32))) = n_x M6 := by
        unfold n_x
        rw [mI_ne (Or.inr (by decide))]
      have s2 : n_s (mI M6 175 14 (M6.2.1 175 14 + (1 : Int32))) = n_s M6 := by
        unfold n_s
        rw [mI_ne (Or.inr (by decide))]
      generalize mI M6 175 14 (M6.2.1 175 14 + (1 : Int32)) = M2 at H2 f2 x2 s2 ⊢
      have f2' : h_F M6 M2 := ⟨f2, by omega, by have := f6.2.2; omega⟩
      rw [if_neg (by decide), e_gO H2, Option.bind_some]
      exact h_end (h_tr F6 f2') (P_houseLineHere H2 f2'.2.2 x3.1 x3.2)
abbrev h_B : Nat := h_A + 2 ^ 1 + 2 ^ 12 + 2 ^ 43
def h_Z (M : gM) : Int32 × gM → Prop := fun r => y_HT r.2 ∧ y_Fr h_B M r.2
theorem P_rh_b88 {M M0 : gM} (H : y_HT M) (G : y_Fr h_B M0 M) : Ok (F_X12_readsAll_b88 (some 175) M) (h_Z M0) := by
  delta F_X12_readsAll_b88
  rw [e_pI H, Option.bind_some]
  obtain ⟨H1, f1⟩ := y_set (M' := mI M 175 1 (0 : Int32)) (S := h_B) H (i := 175) (k := 1) (by decide) rfl rfl y_mI1 (fun j a hj => y_mI2 hj) rfl (y_in (lo := 0) (hi := 400) rfl (by decide)) (by decide)
  rw [e_gI H1, Option.bind_some]
  exact Ok_i (fun e => Ok_s ⟨H1, y_tr G f1⟩) (fun _ => Ok_s ⟨H1, y_tr G f1⟩)
theorem P_rh_b66 {l1 : Int32} {M M0 : gM} (H : y_HT M) (G : y_Fr h_B M0 M) (h : l1 ≠ 0 → n_x M ≤ n_s M) : Ok (F_X12_readsAll_b66 (some 175) l1 M) (h_Z M0) := by
  delta F_X12_readsAll_b66
  refine Ok_i (fun _ => P_rh_b88 H G) (fun e => ?_)
  rw [e_gO H, Option.bind_some]
  refine h_see H (h e) (fun M3 H3 f3 _ => ?_)
  have x3 := n_x1 H3
  have G3 := y_tr G (y_fl (S2 := h_B) (by decide) f3.1)
  dsimp only
  refine Ok_i (fun _ => P_rh_b88 H3 G3) (fun _ => ?_)
  rw [e_gI H3, Option.bind_some, e_gC H3, Option.bind_some]
  refine h_fails H3 x3.1 x3.2 (by decide) (fun M' H' f' g' => ?_)
  dsimp only
  exact P_rh_b88 H' (y_tr G3 (y_fl (by decide) f'))
theorem P_rh_L35 {M0 : gM} (e0 : M0.2.1 175 11 = 6) : ∀ (n : Nat) {l1 : Int32} {M : gM}, y_HT M → y_Fr h_B M0 M → (l1 ≠ 0 → n_x M ≤ n_s M) → 1 ≤ n → (l1 ≠ 0 → n_s M - n_x M < n) → Ok (F_X12_readsAll_L35 n (some 175) l1 M) (h_Z M0) := by
  intro n
  induction n with
  | zero => intro l1 M H G h a1 a2; omega
  | succ n ih =>
    intro l1 M H G h a1 a2
    show Ok (F_X12_readsAll_b35 (F_X12_readsAll_L35 n) (some 175) l1 M) _
    delta F_X12_readsAll_b35
    refine Ok_i (fun _ => P_rh_b66 H G h) (fun e => ?_)
    have hx := h e
    have a3 := a2 e
    have s1 := n_s1 H
    rw [e_gO H, Option.bind_some]
    refine h_see H hx (fun M3 H3 f3 e3 => ?_)
    have G3 := y_tr G (y_fl (S2 := h_B) (by decide) f3.1)
    have s3 := n_fs f3.1 (by decide)
    dsimp only
    refine Ok_i (fun e59 => ?_) (fun _ => P_rh_b66 H3 G3 (fun _ => f3.2.2))
    have hlt := n_c_lt e59 (by decide)
    rw [e_gI H3, Option.bind_some, e_pI H3, Option.bind_some, n_next H3]
    obtain ⟨H5, f5⟩ := h_F_at (p := n_x M3 + 1) H3 (by omega) (by omega)
    have x5 : n_x (n_at M3 (n_x M3 + 1)) = n_x M3 + 1 := n_at_x (by omega)
    have s5 : n_s (n_at M3 (n_x M3 + 1)) = n_s M3 := n_at_s
    have t5 : (n_at M3 (n_x M3 + 1)).2.1 175 11 = 6 := (n_atk (by decide)).trans ((y_fk (i := 175) (k := 11) G3 (by decide)).trans e0)
    have x3 := f3.2.1
    generalize n_at M3 (n_x M3 + 1) = M5 at H5 f5 x5 s5 t5 ⊢
    rw [e_gC H5, Option.bind_some]
    refine Ok_b (P_clauseHereH H5 f5.2.2 t5) (fun y z => ?_)
    obtain ⟨v7, M8⟩ := y
    obtain ⟨⟨H8, G8⟩, z⟩ := z
    have s8 := n_fs G8 (by decide)
    dsimp only at H8 G8 z s8 ⊢
    have ok : v7 ≠ 0 → h_F M5 M8 := by
      intro hne
      rcases z with z | z
      · exact absurd z.1 hne
      · exact z.2
    refine ih H8 (y_tr G3 (y_tr (y_fl (by decide) f5.1) (y_fl (by decide) G8))) (fun hne => (ok hne).2.2) (by omega) (fun hne => ?_)
    have := (ok hne).2
    omega
theorem P_readsAllH {M : gM} (H : y_HT M) (e11 : M.2.1 175 11 = 6) : Ok (F_X12_readsAll (some 175) M) (h_Z M) := by
  delta F_X12_readsAll F_X12_readsAll_b0
  have z6 : (6 : Int32).toInt = 6 := rfl
  rw [e_gR H (w := 178) rfl (by decide), Option.bind_some, e_gI H, Option.bind_some, e11, e_sI H (i := 178) (n := 7) rfl (by decide) (by decide), Option.bind_some]
  obtain ⟨H3, f3⟩ := y_set (M' := mI M 178 (6 : Int32).toNatClampNeg (0 : Int32)) (S := h_B) H (i := 178) (k := (6 : Int32).toNatClampNeg) (by decide) rfl rfl y_mI1 (fun j a hj => y_mI2 hj) rfl (y_in (lo := 0) (hi := 400) rfl (by decide)) (show Nat.testBit h_B 43 = true by decide)
  generalize mI M 178 (6 : Int32).toNatClampNeg (0 : Int32) = M3 at H3 f3 ⊢
  rw [e_pI H3, Option.bind_some]
  obtain ⟨H4, f4⟩ := y_set (M' := mI M3 175 14 (0 : Int32)) (S := h_B) H3 (i := 175) (k := 14) (by decide) rfl rfl y_mI1 (fun j a hj => y_mI2 hj) rfl (y_full rfl) (by decide)
  generalize mI M3 175 14 (0 : Int32) = M4 at H4 f4 ⊢
  rw [e_pI H4, Option.bind_some]
  obtain ⟨H5, f5⟩ := y_set (M' := mI M4 175 8 (0 : Int32)) (S := h_B) H4 (i := 175) (k := 8) (by decide) rfl rfl y_mI1 (fun j a hj => y_mI2 hj) rfl (y_in (lo := 0) (hi := 400) rfl (by decide)) (by decide)
  have w5 : (mI M4 175 8 (0 : Int32)).2.1 175 8 = 0 := y_mI1
  generalize mI M4 175 8 (0 : Int32) = M5 at H5 f5 w5 ⊢
  rw [e_pI H5, Option.bind_some]
  obtain ⟨H6, f6⟩ := y_set (M' := mI M5 175 9 (0 : Int32)) (S := h_B) H5 (i := 175) (k := 9) (by decide) rfl rfl y_mI1 (fun j a hj => y_mI2 hj) rfl (y_full rfl) (by decide)
  have w6 : (mI M5 175 9 (0 : Int32)).2.1 175 8 = 0 := (mI_ne (Or.inr (by decide))).trans w5
  generalize mI M5 175 9 (0 : Int32) = M6 at H6 f6 w6 ⊢
  rw [e_pI H6, Option.bind_some]
  obtain ⟨H7, f7⟩ := y_set (M' := mI M6 175 12 (0 : Int32)) (S := h_B) H6 (i := 175) (k := 12) (by decide) rfl rfl y_mI1 (fun j a hj => y_mI2 hj) rfl (y_in (lo := 0) (hi := 60) rfl (by decide)) (by decide)
  have w7 : (mI M6 175 12 (0 : Int32)).2.1 175 8 = 0 := (mI_ne (Or.inr (by decide))).trans w6
  generalize mI M6 175 12 (0 : Int32) = M7 at H7 f7 w7 ⊢
  have F : y_Fr h_B M M7 := y_tr f3 (y_tr f4 (y_tr f5 (y_tr f6 f7)))
  have x7 : n_x M7 ≤ n_s M7 := by
    unfold n_x
    rw [w7]
    exact Nat.zero_le _
  rw [e_gO H7, Option.bind_some]
  refine Ok_b (P_clauseHereH H7 x7 ((y_fk (i := 175) (k := 11) F (by decide)).trans e11)) (fun y z => ?_)
  obtain ⟨v9, M10⟩ := y
  obtain ⟨⟨H10, G10⟩, z⟩ := z
  dsimp only at H10 G10 z ⊢
  have s10 := n_s1 H10
  refine P_rh_L35 e11 _ H10 (y_tr F (y_fl (by decide) G10)) (fun hne => ?_) (n_fu (by omega)) (fun _ => n_fu (by omega))
  rcases z with z | z
  · exact absurd z.1 hne
  · exact z.2.2.2
abbrev h_C : Nat := h_B + 2 ^ 11 + 2 ^ 25 + 2 ^ 50
theorem P_house_L44 {M0 : gM} : ∀ (n k : Nat) {l1 : Int32} {M : gM}, y_HT M → y_Fr h_C M0 M → l1.toInt = (k : Int) → k ≤ 157 → 157 - k < n → Ok (F_X12_house_L44 n (some 175) l1 M) (fun r => y_HT r.2 ∧ y_Fr h_C M0 r.2) := by
  intro n
  induction n with
  | zero => intro k l1 M H G h h1 h2; omega
  | succ n ih =>
    intro k l1 M H G h h1 h2
    show Ok (F_X12_house_b44 (F_X12_house_L44 n) (some 175) l1 M) _
    have z : (157 : Int32).toInt = 157 := rfl
    delta F_X12_house_b44
    refine Ok_i (fun c => ?_) (fun c => ?_)
    · rw [e_pI H, Option.bind_some]
      obtain ⟨H1, f1⟩ := y_set (M' := mI M 175 25 (0 : Int32)) (S := h_C) H (i := 175) (k := 25) (by decide) rfl rfl y_mI1 (fun j a hj => y_mI2 hj) rfl (y_in (lo := 0) (hi := 20) rfl (by decide)) (by decide)
      rw [e_gR H1 (w := 185) rfl (by decide), Option.bind_some, e_aI H1 (t := 20) (i := 185) (n := 157) rfl (by decide) (by decide) (by decide), Option.bind_some]
      exact Ok_s ⟨H1, y_tr G f1⟩
    · have c' := i_nle c
      have cl : l1.toNatClampNeg = k := i_cl h
      rw [e_gR H (w := 185) rfl (by decide), Option.bind_some, e_gR H (w := 181) rfl (by decide), Option.bind_some, e_aI H (t := 20) (i := 181) (n := 157) rfl (by decide) (by omega) (by omega), Option.bind_some, e_sI H (i := 185) (n := 157) rfl (by omega) (by omega), Option.bind_some, cl]
      obtain ⟨H1, f1⟩ := y_set (M' := mI M 185 k (M.2.1 181 k)) (S := h_C) H (i := 185) (k := k) (by decide) rfl rfl y_mI1 (fun j a hj => y_mI2 hj) rfl (H.2.1 181 (by decide) k) (show Nat.testBit h_C 50 = true by decide)
      refine ih (k + 1) H1 (y_tr G f1) ?_ (by omega) (by omega)
      rw [n_inc h (by omega), i_ofNat (by omega)]
theorem P_house_L8 {M0 : gM} : ∀ (n k : Nat) {l1 : Int32} {M : gM}, y_HT M → y_Fr h_C M0 M → M.2.1 175 11 = 6 → l1.toInt = (k : Int) → k ≤ 10 → 10 - k < n → Ok (F_X12_house_L8 n (some 175) l1 M) (fun r => y_HT r.2 ∧ y_Fr h_C M0 r.2) := by
  intro n
  induction n with
  | zero => intro k l1 M H G t h h1 h2; omega
  | succ n ih =>
    intro k l1 M H G t h h1 h2
    show Ok (F_X12_house_b8 (F_X12_house_L8 n) (some 175) l1 M) _
    have z : (10 : Int32).toInt = 10 := rfl
    delta F_X12_house_b8
    refine Ok_i (fun c => ?_) (fun c => ?_)
    · rw [e_gO H, Option.bind_some]
      refine Ok_b (P_readsAllH H t) (fun y q => ?_)
      obtain ⟨v2, M3⟩ := y
      obtain ⟨H3, F3⟩ := q
      have G3 : y_Fr h_C M0 M3 := y_tr G (y_fl (by decide) F3)
      dsimp only at H3 ⊢
      refine Ok_i (fun _ => ?_) (fun _ => ?_)
      · rw [e_gI H3, Option.bind_some]
        exact Ok_s ⟨H3, G3⟩
      · exact P_house_L44 _ 0 H3 G3 rfl (by omega) (n_fu (by omega))
    · have c' := i_nle c
      have cl : l1.toNatClampNeg = k := i_cl h
      rw [e_gR H (w := 181) rfl (by decide), Option.bind_some, e_sI H (i := 181) (n := 157) rfl (by omega) (by omega), Option.bind_some, cl]
      obtain ⟨H1, f1⟩ := y_set (M' := mI M 181 k (0 : Int32)) (S := h_C) H (i := 181) (k := k) (v := 0) (by decide) rfl rfl y_mI1 (fun j a hj => y_mI2 hj) rfl (by
        show y_rg (y_tS k) 0
        unfold y_tS
        split
        · exact ⟨by decide, by decide⟩
        · split
          · exact ⟨by decide, by decide⟩
          · split <;> exact ⟨by decide, by decide⟩) (show Nat.testBit h_C 46 = true by decide)
      refine ih (k + 1) H1 (y_tr G f1) ((mI_ne (Or.inl (by decide))).trans t) ?_ (by omega) (by omega)
      rw [n_inc h (by omega), i_ofNat (by omega)]
theorem S_X12_house {M : gM} (H : y_HT M) : Ok (F_X12_house (some 175) M) (fun r => y_HT r.2 ∧ y_Fr h_C M r.2) := by
  delta F_X12_house F_X12_house_b0
  rw [e_pI H, Option.bind_some]
  obtain ⟨H1, f1⟩ := y_set (M' := mI M 175 11 (6 : Int32)) (S := h_C) H (i := 175) (k := 11) (by decide) rfl rfl y_mI1 (fun j a hj => y_mI2 hj) rfl (y_in (lo := 0) (hi := 6) rfl (by decide)) (by decide)
  exact P_house_L8 _ 0 H1 f1 y_mI1 rfl (by omega) (n_fu (by omega))
