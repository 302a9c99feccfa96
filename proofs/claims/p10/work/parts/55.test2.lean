/-! settles, closes, tested -/
theorem n_st_r {s : Int32} : n_st s = 0 ∨ s = 11 ∨ s = 12 ∨ s = 13 := by
  unfold n_st
  by_cases h1 : s = 13
  · exact Or.inr (Or.inr (Or.inr h1))
  · rw [if_neg h1]
    by_cases h2 : s = 12
    · exact Or.inr (Or.inr (Or.inl h2))
    · rw [if_neg h2]
      by_cases h3 : s = 11
      · exact Or.inr (Or.inl h3)
      · rw [if_neg h3]
        exact Or.inl rfl
/-- settles and what it leaves: no sign of the strength on top -/
def p_Se (t a c : Nat) (least : Int32) (M : gM) : gM → Prop := fun M' => (y_HT M' ∧ p_F p_T t M M') ∧ p_J t a 1 c M' ∧ (n_x M' = n_x M ∧ n_w2 M' = n_w2 M) ∧ (n_o M' ≤ n_o M ∧ ∀ k, k < n_o M → n_w2 M k = 91 → k < n_o M') ∧ (n_o M' = 0 ∨ n_st (n_w2 M (n_o M' - 1)) < least)
theorem P_settles_L0 {t a c : Nat} {least : Int32} (hl : 1 ≤ least.toInt) : ∀ (n : Nat) {M : gM}, p_J t a 1 c M → n_o M < n → Ok (F_X12_settles_L0 n (some 175) least M) (p_Se t a c least M) := by
  intro n
  induction n with
  | zero => intro M J h; omega
  | succ n ih =>
    intro M J h
    show Ok (F_X12_settles_b0 (F_X12_settles_L0 n) (some 175) least M) _
    have H := J.1.1.1.1
    have o1 := n_o1 H
    have z0 : (0 : Int32).toInt = 0 := rfl
    have z1 : (1 : Int32).toInt = 1 := rfl
    delta F_X12_settles_b0
    rw [e_gI H, Option.bind_some]
    by_cases c0 : M.2.1 175 16 ≤ 0
    · have := i_le c0
      rw [if_pos c0]
      exact Ok_s ⟨⟨H, p_F_rf⟩, J, ⟨rfl, rfl⟩, ⟨Nat.le_refl _, fun k hk _ => hk⟩, Or.inl (by omega)⟩
    have h0 := i_nle c0
    obtain ⟨m, hm⟩ : ∃ m, n_o M = m + 1 := ⟨n_o M - 1, by omega⟩
    have am := i_subc (x := M.2.1 175 16) (c := (1 : Int32)) z1 (by omega) (by omega)
    have cm : (M.2.1 175 16 - (1 : Int32)).toInt = (m : Int) := by omega
    have em : M.2.1 175 16 - (1 : Int32) = Int32.ofNat m := i_of cm (by omega)
    rw [if_neg c0, e_gR H (w := 182) rfl (by decide), Option.bind_some, Option.bind_some, e_aI H (t := 20) (i := 182) (n := 400) rfl (by decide) (by omega) (by omega), Option.bind_some, R_strength, Option.bind_some, i_cl cm]
    by_cases cs : n_st (M.2.1 182 m) < least
    · rw [if_pos cs]
      exact Ok_s ⟨⟨H, p_F_rf⟩, J, ⟨rfl, rfl⟩, ⟨Nat.le_refl _, fun k hk _ => hk⟩, Or.inr (by rw [hm]; exact cs)⟩
    have hs := i_nlt cs
    -- the sign on top
    obtain ⟨w, hw⟩ : ∃ w, w = M.2.1 182 m := ⟨_, rfl⟩
    have hw2 : w = 11 ∨ w = 12 ∨ w = 13 := by
      rcases n_st_r (s := M.2.1 182 m) with e | e | e | e
      · rw [e] at hs
        omega
      · exact Or.inl (hw.trans e)
      · exact Or.inr (Or.inl (hw.trans e))
      · exact Or.inr (Or.inr (hw.trans e))
    obtain ⟨M7, hM7⟩ : ∃ M7, M7 = mI M 175 16 (Int32.ofNat m) := ⟨_, rfl⟩
    have ci : (Int32.ofNat m).toInt = (m : Int) := i_ofNat (by omega)
    obtain ⟨H7, f7⟩ : y_HT M7 ∧ y_Fr (2 ^ 16) M M7 := by
      subst hM7
      refine y_set (M' := mI M 175 16 (Int32.ofNat m)) (S := 2 ^ 16) H (i := 175) (k := 16) (by decide) rfl rfl y_mI1 (fun j a hj => y_mI2 hj) rfl ?_ (by decide)
      show y_rg (0, 400) _
      unfold y_rg
      rw [ci]
      exact ⟨by omega, by show (m : Int) ≤ 400; omega⟩
    have v7 : M7.2.1 175 16 = Int32.ofNat m := by
      subst hM7
      exact y_mI1
    have o7 : n_o M7 = m := by
      show (M7.2.1 175 16).toInt.toNat = m
      rw [v7, ci]
      rfl
    have w7 : n_w2 M7 = n_w2 M := funext (fun q => y_fa (i := 182) f7 (by decide) (by decide) q)
    have x7 := n_fx f7 (by decide)
    have l7 := n_fl (t := t) f7 (by decide)
    obtain ⟨JI, JW⟩ := J
    have hnb : p_nb (n_w2 M) (n_o M) = p_nb (n_w2 M) m + (if w = 12 ∨ w = 13 then 1 else 0) := by
      rw [hm, hw]
      rfl
    rw [hm] at JW
    have I7 : p_I t a (p_nb (n_w2 M) (n_o M) + 1) (n_o M + c) M7 := p_I_of JI H7 f7 (by decide) ⟨by rw [x7]; exact JI.2.1.1, by rw [x7]; exact JI.2.1.2⟩ (by rw [n_fm f7 (by decide)]; exact Nat.le_refl _)
    have e182 : M7.2.1 182 m = w := by
      rw [hw]
      exact congrFun w7 _
    have hx := I7.2.1
    have s7 := n_s1 H7
    rw [if_neg cs, Option.bind_some, e_pI H, Option.bind_some, em, ← hM7]
    rw [e_gR H7 (w := 182) rfl (by decide), Option.bind_some, e_gI H7, Option.bind_some, v7, e_aI H7 (t := 20) (i := 182) (n := 400) rfl (by decide) (by omega) (by omega), Option.bind_some, i_cl ci, e182, e_gO H7, Option.bind_some, R_puts H7 I7.1.1.2 I7.1.2 (by omega), Option.bind_some]
    have hst : y_st (w + (16 : Int32) * (0 : Int32)) (p_nb (n_w2 M) (n_o M) + 1) = some (p_nb (n_w2 M) m + 1) := by
      rw [hnb]
      rcases hw2 with e | e | e
      · rw [e, if_neg (by decide)]
        exact y_st11
      · rw [e, if_pos (by decide)]
        exact y_stB (w := 12) (by decide)
      · rw [e, if_pos (by decide)]
        exact y_stB (w := 13) (by decide)
    obtain ⟨I8, F8, x8⟩ := p_puts (S := p_T) (c := m + c) (p_I_of (c2 := m + c + 1) I7 H7 (y_rf0 0 _) (by decide) ⟨by omega, hx.2⟩ (Nat.le_refl _)) hst (by have := I7.2.2.2; omega) (by decide)
    have o8 : n_o (n_p M7 t (w + (16 : Int32) * (0 : Int32))) = m := by
      show ((n_p M7 t (w + (16 : Int32) * (0 : Int32))).2.1 175 16).toInt.toNat = m
      unfold n_p
      rw [mI_ne (Or.inl (by decide)), mI_ne (Or.inl (by decide)), v7, ci]
      rfl
    have w8 : n_w2 (n_p M7 t (w + (16 : Int32) * (0 : Int32))) = n_w2 M := by
      refine Eq.trans (funext (fun q => ?_)) w7
      show (n_p M7 t (w + (16 : Int32) * (0 : Int32))).2.1 182 q = M7.2.1 182 q
      unfold n_p
      rw [mI_ne (Or.inl (by decide)), mI_ne (Or.inl (by decide))]
    generalize n_p M7 t (w + (16 : Int32) * (0 : Int32)) = M8 at I8 F8 x8 o8 w8 ⊢
    have J8 : p_J t a 1 c M8 := by
      unfold p_J
      rw [o8, w8]
      exact ⟨I8, fun k hk => JW k (by omega)⟩
    have H8 := I8.1.1.1
    have F7 : p_F p_T t M M8 := p_F_tr (p_F_of f7 (by decide) (by decide) (by decide)) F8
    have v8 : M8.2.1 175 16 = Int32.ofNat m := i_of (by rw [(n_o1 H8).1, o8]) (by omega)
    have e8 : M8.2.1 182 m = w := (congrFun w8 m).trans hw.symm
    -- the rest, from a memory that differs in deep alone
    have rest : ∀ {M9 : gM}, y_HT M9 → y_Fr (2 ^ 13) M8 M9 → Ok (F_X12_settles_L0 n (some 175) least M9) (p_Se t a c least M) := by
      intro M9 H9 f9
      have x9 := n_fx f9 (by decide)
      have o9 := n_fo f9 (by decide)
      have w9 : n_w2 M9 = n_w2 M8 := funext (fun q => y_fa (i := 182) f9 (by decide) (by decide) q)
      have J9 : p_J t a 1 c M9 := p_J_of J8.2 f9 (by decide) (p_I_of J8.1 H9 f9 (by decide) ⟨by rw [x9]; exact J8.1.2.1.1, by rw [x9]; exact J8.1.2.1.2⟩ (by rw [n_fm f9 (by decide)]; exact Nat.le_refl _))
      refine Ok_w (ih J9 (by omega)) (fun r z => ?_)
      obtain ⟨⟨q1, q2⟩, q3, ⟨q4, q5⟩, ⟨q6, q7⟩, q8⟩ := z
      refine ⟨⟨q1, p_F_tr F7 (p_F_tr (p_F_of f9 (by decide) (by decide) (by decide)) q2)⟩, q3, ⟨by omega, by rw [q5, w9, w8]⟩, ⟨by omega, fun k hk hk2 => ?_⟩, ?_⟩
      · refine q7 k ?_ (by rw [w9, w8]; exact hk2)
        rw [o9, o8]
        rcases Nat.lt_or_ge k m with h1 | h1
        · exact h1
        · exfalso
          have : k = m := by omega
          subst this
          have e : w = 91 := hw.trans hk2
          rcases hw2 with e2 | e2 | e2 <;> (rw [e2] at e; exact absurd e (by decide))
      · rw [w9, w8] at q8
        exact q8
    rw [e_gR H8 (w := 182) rfl (by decide), Option.bind_some, e_gI H8, Option.bind_some, v8, e_aI H8 (t := 20) (i := 182) (n := 400) rfl (by decide) (by omega) (by omega), Option.bind_some, i_cl ci, e8]
    by_cases c11 : w = 11
    · rw [if_pos c11, e_gI H8, Option.bind_some, e_pI H8, Option.bind_some]
      obtain ⟨H9, f9⟩ := y_set (M' := mI M8 175 13 (M8.2.1 175 13 - (1 : Int32))) (S := 2 ^ 13) H8 (i := 175) (k := 13) (by decide) rfl rfl y_mI1 (fun j a hj => y_mI2 hj) rfl (y_full rfl) (by decide)
      exact rest H9 f9
    · rw [if_neg c11]
      exact rest H8 (y_rf0 _ _)
theorem P_settles {t a c : Nat} {least : Int32} {M : gM} (hl : 1 ≤ least.toInt) (J : p_J t a 1 c M) : Ok (F_X12_settles (some 175) least M) (p_Se t a c least M) := P_settles_L0 hl _ J (n_fu (n_o1 J.1.1.1.1).2)
/-- whether a bracket waits -/
theorem R_isInside_L2 {M : gM} (H : y_HT M) : ∀ (n k : Nat) {l1 : Int32}, l1.toInt = (k : Int) → k ≤ n_o M → (∀ j, j < k → n_w2 M j ≠ 91) → n_o M - k < n → Ok (F_X12_isInside_L2 M n (some 175) l1) (fun r => (r = 0 ∧ ∀ j, j < n_o M → n_w2 M j ≠ 91) ∨ (r = 1 ∧ ∃ j, j < n_o M ∧ n_w2 M j = 91)) := by
  intro n
  induction n with
  | zero => intro k l1 h1 h2 h3 h4; omega
  | succ n ih =>
    intro k l1 h1 h2 h3 h4
    show Ok (F_X12_isInside_b2 (F_X12_isInside_L2 M n) M (some 175) l1) _
    have o1 := n_o1 H
    delta F_X12_isInside_b2
    rw [e_gI H, Option.bind_some]
    refine Ok_i (fun c => ?_) (fun c => ?_)
    · have := i_le c
      exact Ok_s (Or.inl ⟨rfl, fun j hj => h3 j (by omega)⟩)
    · have hc := i_nle c
      rw [e_gR H (w := 182) rfl (by decide), Option.bind_some, e_aI H (t := 20) (i := 182) (n := 400) rfl (by decide) (by omega) (by omega), Option.bind_some, i_cl h1]
      refine Ok_i (fun e => ?_) (fun e => ?_)
      · exact Ok_s (Or.inr ⟨rfl, k, by omega, e⟩)
      · refine ih (k + 1) ?_ (by omega) (fun j hj => ?_) (by omega)
        · rw [n_inc h1 (by omega), i_ofNat (by omega)]
        · rcases Nat.lt_or_ge j k with h5 | h5
          · exact h3 j h5
          · have : j = k := by omega
            subst this
            exact e
theorem R_isInside {M : gM} (H : y_HT M) : Ok (F_X12_isInside (some 175) M) (fun r => (r = 0 ∧ ∀ j, j < n_o M → n_w2 M j ≠ 91) ∨ (r = 1 ∧ ∃ j, j < n_o M ∧ n_w2 M j = 91)) := by
  delta F_X12_isInside F_X12_isInside_b0
  exact R_isInside_L2 H _ 0 rfl (Nat.zero_le _) (fun j hj => absurd hj (Nat.not_lt_zero _)) (n_fu (by have := (n_o1 H).2; omega))
