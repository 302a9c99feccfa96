/-! closes and tested -/
theorem p_J_less {t a e c c2 : Nat} {M : gM} (J : p_J t a e c M) (h : c2 ≤ c) : p_J t a e c2 M := ⟨p_I_of J.1 J.1.1.1.1 (y_rf0 0 _) (by decide) ⟨by have := J.1.2.1; omega, J.1.2.1.2⟩ (Nat.le_refl _), J.2⟩
theorem n_st_91 {s : Int32} (h : n_st s < 1) (hw : s = 91 ∨ s = 11 ∨ s = 12 ∨ s = 13) : s = 91 := by
  rcases hw with e | e | e | e
  · exact e
  · rw [e] at h
    exact absurd h (by decide)
  · rw [e] at h
    exact absurd h (by decide)
  · rw [e] at h
    exact absurd h (by decide)
def p_Cl (t a c : Nat) (M : gM) : gM → Prop := fun M' => (y_HT M' ∧ p_F p_T t M M') ∧ p_J t a 1 c M' ∧ n_x M ≤ n_x M'
theorem p_J_deep {t a e c : Nat} {v : Int32} {M : gM} (J : p_J t a e c M) : p_J t a e c (mI M 175 13 v) ∧ p_F p_T t M (mI M 175 13 v) ∧ n_x (mI M 175 13 v) = n_x M ∧ n_s (mI M 175 13 v) = n_s M ∧ n_w2 (mI M 175 13 v) = n_w2 M ∧ n_o (mI M 175 13 v) = n_o M := by
  obtain ⟨H9, f9⟩ := y_set (M' := mI M 175 13 v) (S := 2 ^ 13) J.1.1.1.1 (i := 175) (k := 13) (by decide) rfl rfl y_mI1 (fun j a hj => y_mI2 hj) rfl (y_full rfl) (by decide)
  have x9 := n_fx f9 (by decide)
  have s9 := n_fs f9 (by decide)
  refine ⟨p_J_of J.2 f9 (by decide) (p_I_of J.1 H9 f9 (by decide) ⟨by rw [x9]; exact J.1.2.1.1, by rw [x9]; exact J.1.2.1.2⟩ (by rw [n_fm f9 (by decide)]; exact Nat.le_refl _)), p_F_of f9 (by decide) (by decide) (by decide), x9, s9, funext (fun q => y_fa (i := 182) f9 (by decide) (by decide) q), n_fo f9 (by decide)⟩
/-- the sign on top waits no more: it was a bracket -/
theorem p_J_pop {t a c m : Nat} {M : gM} (J : p_J t a 1 c M) (ho : n_o M = m + 1) (hw : n_w2 M m = 91) : p_J t a 1 c (mI M 175 16 (Int32.ofNat m)) ∧ p_F p_T t M (mI M 175 16 (Int32.ofNat m)) ∧ n_x (mI M 175 16 (Int32.ofNat m)) = n_x M ∧ n_s (mI M 175 16 (Int32.ofNat m)) = n_s M := by
  obtain ⟨JI, JW⟩ := J
  have H := JI.1.1.1
  have o1 := n_o1 H
  have ci : (Int32.ofNat m).toInt = (m : Int) := i_ofNat (by omega)
  obtain ⟨H7, f7⟩ : y_HT (mI M 175 16 (Int32.ofNat m)) ∧ y_Fr (2 ^ 16) M (mI M 175 16 (Int32.ofNat m)) := by
    refine y_set (M' := mI M 175 16 (Int32.ofNat m)) (S := 2 ^ 16) H (i := 175) (k := 16) (by decide) rfl rfl y_mI1 (fun j a hj => y_mI2 hj) rfl ?_ (by decide)
    show y_rg (0, 400) _
    unfold y_rg
    rw [ci]
    exact ⟨by omega, by show (m : Int) ≤ 400; omega⟩
  have o7 : n_o (mI M 175 16 (Int32.ofNat m)) = m := by
    show ((mI M 175 16 (Int32.ofNat m)).2.1 175 16).toInt.toNat = m
    rw [y_mI1, ci]
    rfl
  have w7 : n_w2 (mI M 175 16 (Int32.ofNat m)) = n_w2 M := funext (fun q => y_fa (i := 182) f7 (by decide) (by decide) q)
  have x7 := n_fx f7 (by decide)
  have hnb : p_nb (n_w2 M) (n_o M) = p_nb (n_w2 M) m := by
    rw [ho]
    show p_nb (n_w2 M) m + (if n_w2 M m = 12 ∨ n_w2 M m = 13 then 1 else 0) = _
    rw [hw, if_neg (by decide), Nat.add_zero]
  have hx := JI.2.1
  refine ⟨⟨?_, ?_⟩, p_F_of f7 (by decide) (by decide) (by decide), x7, n_fs f7 (by decide)⟩
  · rw [o7, w7, ← hnb]
    exact p_I_of JI H7 f7 (by decide) ⟨by rw [x7]; omega, by rw [x7]; exact hx.2⟩ (by rw [n_fm f7 (by decide)]; exact Nat.le_refl _)
  · rw [o7, w7]
    intro k hk
    exact JW k (by omega)
theorem P_closes_L5 {t a c : Nat} : ∀ (n : Nat) {M : gM}, p_J t a 1 c M → n_s M - n_x M < n → Ok (F_X12_closes_L5 n (some 175) M) (p_Cl t a c M) := by
  intro n
  induction n with
  | zero => intro M J h; omega
  | succ n ih =>
    intro M J h
    show Ok (F_X12_closes_b5 (F_X12_closes_L5 n) (some 175) M) _
    have H := J.1.1.1.1
    have hx := J.1.2.1
    have s1 := n_s1 H
    obtain ⟨p, hp⟩ : ∃ p, p = n_sk M (n_x M) := ⟨_, rfl⟩
    have k1 := n_sk_le hx.2
    rw [← hp] at k1
    have J1 : p_J t a 1 c (n_at M p) := p_J_at J (by omega) (by omega)
    have F1 : p_F p_T t M (n_at M p) := p_F_at H (by omega) (by decide)
    have H1 := J1.1.1.1.1
    have x1 : n_x (n_at M p) = p := n_at_x (by omega)
    have s2 : n_s (n_at M p) = n_s M := n_at_s
    delta F_X12_closes_b5
    rw [e_gO H, Option.bind_some, R_see H hx.2, ← hp, Option.bind_some]
    dsimp only
    refine Ok_i (fun e => ?_) (fun e => ?_)
    · have hlt := n_c_lt e (by decide)
      generalize n_at M p = M3 at J1 F1 H1 x1 s2 ⊢
      rw [e_gC H1, Option.bind_some]
      refine Ok_b (R_isInside H1) (fun v5 z => ?_)
      rcases z with ⟨z, z2⟩ | ⟨z, j, hj, z2⟩
      · subst z
        rw [if_pos rfl]
        exact Ok_s ⟨⟨H1, F1⟩, J1, by omega⟩
      · subst z
        rw [if_neg (by decide)]
        refine Ok_b (P_settles (least := 1) (by decide) J1) (fun M6 q => ?_)
        obtain ⟨⟨H6, F6⟩, J6, ⟨x6, w6⟩, ⟨o6, b6⟩, t6⟩ := q
        have hj6 := b6 j hj z2
        obtain ⟨m, hm⟩ : ∃ m, n_o M6 = m + 1 := ⟨n_o M6 - 1, by omega⟩
        have top : n_w2 M6 m = 91 := by
          refine n_st_91 ?_ (J6.2 m (by omega))
          rw [w6]
          rcases t6 with t6 | t6
          · omega
          · rw [hm] at t6
            exact t6
        have o16 := n_o1 H6
        have em : M6.2.1 175 16 - (1 : Int32) = Int32.ofNat m := i_of (by rw [i_subc (n := 1) rfl (by omega) (by omega)]; omega) (by omega)
        rw [e_gI H6, Option.bind_some, e_pI H6, Option.bind_some, em]
        obtain ⟨J8, F8, x8, s8⟩ := p_J_pop J6 hm top
        generalize mI M6 175 16 (Int32.ofNat m) = M8 at J8 F8 x8 s8 ⊢
        have H8 := J8.1.1.1.1
        rw [e_gI H8, Option.bind_some, e_pI H8, Option.bind_some]
        obtain ⟨J10, F10, x10, s10, -, -⟩ := p_J_deep (v := M8.2.1 175 13 - (1 : Int32)) J8
        generalize mI M8 175 13 (M8.2.1 175 13 - (1 : Int32)) = M10 at J10 F10 x10 s10 ⊢
        have H10 := J10.1.1.1.1
        have s6 := n_Fs F6 (by decide)
        have h10 := J10.1.2.1
        rw [e_gI H10, Option.bind_some, e_pI H10, Option.bind_some, n_next H10]
        have J12 : p_J t a 1 c (n_at M10 (n_x M10 + 1)) := p_J_at J10 (by omega) (by omega)
        have F12 : p_F p_T t M10 (n_at M10 (n_x M10 + 1)) := p_F_at H10 (by omega) (by decide)
        have x12 : n_x (n_at M10 (n_x M10 + 1)) = n_x M10 + 1 := n_at_x (by omega)
        have s12 : n_s (n_at M10 (n_x M10 + 1)) = n_s M10 := n_at_s
        generalize n_at M10 (n_x M10 + 1) = M12 at J12 F12 x12 s12 ⊢
        have H12 := J12.1.1.1.1
        rw [e_gC H12, Option.bind_some]
        refine Ok_b (P_settles (least := 3) (by decide) J12) (fun M14 q => ?_)
        obtain ⟨⟨H14, F14⟩, J14, ⟨x14, w14⟩, -, -⟩ := q
        have s14 := n_Fs F14 (by decide)
        refine Ok_w (ih J14 (by omega)) (fun M' q => ?_)
        exact ⟨⟨q.1.1, p_F_tr F1 (p_F_tr F6 (p_F_tr F8 (p_F_tr F10 (p_F_tr F12 (p_F_tr F14 q.1.2)))))⟩, q.2.1, by have := q.2.2; omega⟩
    · exact Ok_s ⟨⟨H1, F1⟩, J1, by omega⟩
theorem P_closes {t a c : Nat} {M : gM} (J : p_J t a 1 c M) : Ok (F_X12_closes (some 175) M) (p_Cl t a c M) := by
  have H := J.1.1.1.1
  delta F_X12_closes F_X12_closes_b0
  rw [e_gO H, Option.bind_some]
  refine Ok_b (P_settles (least := 3) (by decide) J) (fun M2 q => ?_)
  obtain ⟨⟨H2, F2⟩, J2, ⟨x2, w2⟩, -, -⟩ := q
  have s2 := n_s1 H2
  refine Ok_w (P_closes_L5 _ J2 (n_fu (by omega))) (fun M' q => ?_)
  exact ⟨⟨q.1.1, p_F_tr F2 q.1.2⟩, q.2.1, by have := q.2.2; omega⟩
/-- and, or: it waits, what binds as strongly is settled -/
theorem P_tested_b76 {t a c p : Nat} {l1 s : Int32} {M : gM} {k : Option Nat → Int32 → gM → Option (Int32 × gM)} (hs : s = 12 ∨ s = 13) (hp : p = n_x M) (hle : p < n_le M p)
    (hk : ∀ {M1 : gM}, p_J t a 0 c M1 → p < n_x M1 → n_s M1 = n_s M → Ok (k (some 175) l1 M1) (p_P p_T t a 1 c M1)) (J : p_J t a 1 c M) : Ok (F_X12_tested_b76 k (some 175) l1 s M) (p_P p_T t a 1 c M) := by
  have H := J.1.1.1.1
  have hx := J.1.2.1
  have s1 := n_s1 H
  have e2 := (n_le_le (M := M) (p := p) (by omega)).2
  delta F_X12_tested_b76
  rw [e_gO H, Option.bind_some, R_passWord H hx.2, Option.bind_some, ← hp]
  have J2 : p_J t a 1 (c + 1) (n_at M (n_le M p)) := p_J_at J (by omega) e2
  have F2 : p_F p_T t M (n_at M (n_le M p)) := p_F_at H (by omega) (by decide)
  have x2 : n_x (n_at M (n_le M p)) = n_le M p := n_at_x (by omega)
  have s2 : n_s (n_at M (n_le M p)) = n_s M := n_at_s
  generalize n_at M (n_le M p) = M2 at J2 F2 x2 s2 ⊢
  have H2 := J2.1.1.1.1
  have hst : 1 ≤ (n_st s).toInt := by rcases hs with e | e <;> rw [e] <;> decide
  rw [R_strength, Option.bind_some, e_gC H2, Option.bind_some]
  refine Ok_b (P_settles hst J2) (fun M5 q => ?_)
  obtain ⟨⟨H5, F5⟩, J5, ⟨x5, w5⟩, ⟨o5, -⟩, -⟩ := q
  have h5 := J5.1.2.1
  have s5 := n_s1 H5
  have o1 := n_o1 H5
  have ho : n_o M5 < 400 := by omega
  obtain ⟨J8, F8, x8⟩ := p_J_op (S := p_T) (w := s) (e := 1) (e2 := 0) (c := c) (p_J_less J5 (by omega)) ho (by rcases hs with h9 | h9 <;> rw [h9] <;> decide) (by rcases hs with h9 | h9 <;> subst h9 <;> rfl) (by omega) (by decide)
  have H8' : y_HT (mI M5 182 (n_o M5) s) := (y_set (M' := mI M5 182 (n_o M5) s) (S := 2 ^ 47) H5 (i := 182) (k := n_o M5) (by decide) rfl rfl y_mI1 (fun j a hj => y_mI2 hj) rfl (y_full rfl) (show Nat.testBit (2 ^ 47) 47 = true by decide)).1
  have o8' : (mI M5 182 (n_o M5) s).2.1 175 16 = M5.2.1 175 16 := mI_ne (Or.inl (by decide))
  rw [e_gR H5 (w := 182) rfl (by decide), Option.bind_some, e_gI H5, Option.bind_some, e_sI H5 (i := 182) (n := 400) rfl (by omega) (by omega), Option.bind_some, show (M5.2.1 175 16).toNatClampNeg = n_o M5 from rfl, e_gI H8', Option.bind_some, e_pI H8', Option.bind_some, o8', n_inc o1.1 (by omega)]
  have F := p_F_tr F2 (p_F_tr F5 F8)
  exact p_Pw F (by rw [x8]; omega) (hk J8 (by show p < n_x (n_op M5 s); rw [x8]; omega) (n_Fs F (by decide))) (by decide)
theorem P_tested_L12 {t a c : Nat} : ∀ (n : Nat) {l1 : Int32} {M : gM}, p_J t a (if l1 = 0 then 1 else 0) c M → (n_s M - n_x M + (if l1 = 0 then 0 else 1) < n) → Ok (F_X12_tested_L12 n (some 175) l1 M) (p_P p_T t a 1 c M) := by
  intro n
  induction n with
  | zero => intro l1 M J h; omega
  | succ n ih =>
    intro l1 M J h
    show Ok (F_X12_tested_b12 (F_X12_tested_L12 n) (some 175) l1 M) _
    have H := J.1.1.1.1
    delta F_X12_tested_b12
    by_cases c1 : l1 = 0
    · rw [if_pos c1] at J
      rw [if_pos c1, e_gO H, Option.bind_some]
      refine Ok_b (R_isInside H) (fun v2 z => ?_)
      rcases z with ⟨z, z2⟩ | ⟨z, z2⟩
      · subst z
        rw [if_pos rfl]
        refine Ok_b (P_settles (least := 1) (by decide) J) (fun M3 q => ?_)
        obtain ⟨⟨H3, F3⟩, J3, ⟨x3, w3⟩, ⟨o3, b3⟩, t3⟩ := q
        have o0 : n_o M3 = 0 := by
          rcases t3 with t3 | t3
          · exact t3
          · rcases Nat.eq_zero_or_pos (n_o M3) with e | e
            · exact e
            · exfalso
              have e91 := n_st_91 t3 (by rw [← w3]; exact J3.2 _ (by omega))
              exact z2 (n_o M3 - 1) (by omega) e91
        have I3 := J3.1
        rw [o0] at I3
        exact p_P1 (p_I_of I3 H3 (y_rf0 0 _) (by decide) ⟨by have := I3.2.1; omega, I3.2.1.2⟩ (Nat.le_refl _)) F3 (by omega)
      · subst z
        rw [if_neg (by decide)]
        have hx := J.1.2.1
        have s1 := n_s1 H
        have k1 := n_sk_le hx.2
        have H1 : y_HT (n_at M (n_sk M (n_x M))) := n_atH H (by omega)
        have xi : (Int32.ofNat (n_sk M (n_x M))).toInt = ((n_sk M (n_x M) : Nat) : Int) := i_ofNat (by omega)
        rw [R_see H hx.2, Option.bind_some]
        dsimp only
        rw [e_gI H1, Option.bind_some, n_at8, e_gC H1, Option.bind_some, R_fails H1, Option.bind_some]
        dsimp only
        rw [if_pos (Or.inl rfl)]
        exact p_Pf H1 (p_F_at H (by omega) (by decide)) (by decide) xi (by omega) (by decide)
    · rw [if_neg c1] at J h
      rw [if_neg c1, e_gO H, Option.bind_some]
      refine Ok_b (P_fact J) (fun y z => ?_)
      obtain ⟨v12, M13⟩ := y
      obtain ⟨⟨H13, F13⟩, ⟨h5, g5⟩ | ⟨h5, J13, x13⟩⟩ := z
      · dsimp only at h5 g5 H13 F13 ⊢
        subst h5
        rw [if_pos rfl]
        exact p_P0 H13 F13 g5
      dsimp only at h5 J13 x13 H13 F13 ⊢
      subst h5
      rw [if_neg (by decide), e_gC H13, Option.bind_some]
      refine Ok_b (P_closes J13) (fun M15 q => ?_)
      obtain ⟨⟨H15, F15⟩, J15, x15⟩ := q
      have F := p_F_tr F13 F15
      have sF := n_Fs F (by decide)
      have hx := J15.1.2.1
      have s1 := n_s1 H15
      obtain ⟨p, hp⟩ : ∃ p, p = n_sk M15 (n_x M15) := ⟨_, rfl⟩
      have k1 := n_sk_le hx.2
      rw [← hp] at k1
      have J1 : p_J t a 1 c (n_at M15 p) := p_J_at J15 (by omega) (by omega)
      have F1 : p_F p_T t M (n_at M15 p) := p_F_tr F (p_F_at H15 (by omega) (by decide))
      have H1 := J1.1.1.1.1
      have x1 : n_x (n_at M15 p) = p := n_at_x (by omega)
      have s2 : n_s (n_at M15 p) = n_s M15 := n_at_s
      have l1' : n_le (n_at M15 p) p = n_le M15 p := n_at_le
      rw [e_gC H15, Option.bind_some, R_isWord H15 hx.2, ← hp, Option.bind_some]
      dsimp only
      refine p_Pw F1 (by omega) (S1 := p_T) ?_ (by decide)
      have b76 : ∀ {s : Int32}, s = 12 ∨ s = 13 → p < n_le M15 p → Ok (F_X12_tested_b76 (F_X12_tested_L12 n) (some 175) 1 s (n_at M15 p)) (p_P p_T t a 1 c (n_at M15 p)) := by
        intro s hs hle
        refine P_tested_b76 (p := p) hs x1.symm (by rw [l1']; exact hle) (fun J9 a1 a2 => ih (l1 := 1) (by rw [if_neg (by decide)]; exact J9) ?_) J1
        have := J9.1.2.1.2
        rw [if_neg (by decide)]
        omega
      have b49 : (n_w M15 p 6385252 = true ∨ n_w M15 p 28530 = true) → Ok (F_X12_tested_b49 (F_X12_tested_L12 n) (some 175) (n_at M15 p)) (p_P p_T t a 1 c (n_at M15 p)) := by
        intro hw
        have hle : p < n_le M15 p := by rcases hw with e | e <;> exact n_w_le e
        delta F_X12_tested_b49 F_X12_tested_b54
        rw [if_neg (by decide), e_gO H1, Option.bind_some, R_isW2 H15 hx.2 hp, Option.bind_some]
        dsimp only
        refine Ok_i (fun _ => b76 (Or.inr rfl) hle) (fun _ => b76 (Or.inl rfl) hle)
      by_cases ca : n_w M15 p 6385252 = true
      · rw [if_pos ca, if_neg (by decide)]
        exact b49 (Or.inl ca)
      · rw [if_neg ca, if_pos rfl, e_gC H1, Option.bind_some, R_isW2 H15 hx.2 hp, Option.bind_some]
        dsimp only
        by_cases co : n_w M15 p 28530 = true
        · rw [if_pos co, if_neg (by decide)]
          exact b49 (Or.inr co)
        · rw [if_neg co, if_pos rfl]
          delta F_X12_tested_b54
          rw [if_pos rfl]
          refine ih (l1 := 0) (by rw [if_pos rfl]; exact J1) ?_
          rw [if_pos rfl]
          omega
theorem P_tested {t a c : Nat} {M : gM} (I : p_I t a 0 c M) : Ok (F_X12_tested (some 175) M) (p_P p_T t a 1 c M) := by
  have H := I.1.1.1
  delta F_X12_tested F_X12_tested_b0
  rw [e_pI H, Option.bind_some]
  obtain ⟨H1, f1⟩ := y_set (M' := mI M 175 16 (0 : Int32)) (S := 2 ^ 16) H (i := 175) (k := 16) (by decide) rfl rfl y_mI1 (fun j a hj => y_mI2 hj) rfl (y_in (lo := 0) (hi := 400) rfl (by decide)) (by decide)
  have o1 : n_o (mI M 175 16 (0 : Int32)) = 0 := by
    show ((mI M 175 16 (0 : Int32)).2.1 175 16).toInt.toNat = 0
    rw [y_mI1]
    rfl
  generalize mI M 175 16 (0 : Int32) = M1 at H1 f1 o1 ⊢
  have x1 := n_fx f1 (by decide)
  have J1 : p_J t a 0 c M1 := by
    unfold p_J
    rw [o1]
    exact ⟨p_I_of I H1 f1 (by decide) ⟨by rw [x1, Nat.zero_add]; exact I.2.1.1, by rw [x1]; exact I.2.1.2⟩ (by rw [n_fm f1 (by decide)]; exact Nat.le_refl _), fun k hk => absurd hk (Nat.not_lt_zero _)⟩
  rw [e_pI H1, Option.bind_some]
  obtain ⟨J2, F2, x2, s2, -, -⟩ := p_J_deep (v := (0 : Int32)) J1
  have s3 := n_s1 J2.1.1.1.1
  refine p_Pw (p_F_tr (p_F_of f1 (by decide) (by decide) (by decide)) F2) (by omega) (P_tested_L12 _ (l1 := 1) (by rw [if_neg (by decide)]; exact J2) ?_) (by decide)
  rw [if_neg (by decide)]
  have : g_fuel = 1000000000 := rfl
  omega
