/-! TESTS of the reference: what waits, in memory -/
def t_S (f : Nat → Int32) : List Int32 → Prop
  | [] => True
  | w :: σ => f σ.length = w ∧ t_S f σ
theorem t_S_c {f g : Nat → Int32} : ∀ {σ : List Int32}, (∀ q, q < σ.length → g q = f q) → t_S f σ → t_S g σ := by
  intro σ
  induction σ with
  | nil => intro _ _; trivial
  | cons w σ ih =>
    intro h hc
    exact ⟨(h σ.length (by simp)).trans hc.1, ih (fun q hq => h q (by simp; omega)) hc.2⟩
theorem t_S_m {f : Nat → Int32} : ∀ {σ : List Int32}, t_S f σ → (91 ∈ σ ↔ ∃ j, j < σ.length ∧ f j = 91) := by
  intro σ
  induction σ with
  | nil => intro _; exact ⟨fun h => (by cases h), fun ⟨j, h, _⟩ => absurd h (Nat.not_lt_zero _)⟩
  | cons w σ ih =>
    intro h
    rw [List.mem_cons, ih h.2]
    constructor
    · rintro (e | ⟨j, h1, h2⟩)
      · exact ⟨σ.length, by simp, h.1.trans e.symm⟩
      · exact ⟨j, by simp; omega, h2⟩
    · rintro ⟨j, h1, h2⟩
      have h1 : j < σ.length + 1 := by simpa using h1
      rcases Nat.lt_or_ge j σ.length with c | c
      · exact Or.inr ⟨j, c, h2⟩
      · have : j = σ.length := by omega
        subst this
        exact Or.inl (h2.symm.trans h.1)
def t_M (T : gM) (t : Nat) (M : gM) (σ : List Int32) (x : sS) : Prop := r_X T t M x ∧ (n_o M = σ.length ∧ t_S (n_w2 M) σ) ∧ ((M.2.1 175 13).toInt = (t_dp σ : Int) ∧ t_dp σ ≤ 10) ∧ t_wf σ
/-- what the place in a RULE does not look at -/
theorem r_Xw {T : gM} {t i k : Nat} {v : Int32} {M : gM} {x : sS} (X : r_X T t M x) (h : (i = 175 ∧ (k = 13 ∨ k = 16)) ∨ i = 182) : r_X T t (mI M i k v) x := by
  have o : ∀ j a, j ≠ 182 → ¬ (j = 175 ∧ (a = 13 ∨ a = 16)) → (mI M i k v).2.1 j a = M.2.1 j a := fun j a h1 h2 => by
    refine mI_ne ?_
    by_cases c : j = i
    · refine Or.inr (fun e => ?_)
      subst c; subst e
      rcases h with h | h
      · exact h2 h
      · exact h1 h
    · exact Or.inl c
  refine ⟨⟨(funext (fun q => o 176 q (by decide) (by omega))).trans X.1.1, ?_⟩, ?_, ⟨by rw [o _ _ (by decide) (by omega)]; exact X.2.2.1.1, ?_⟩, ?_, r_O_c (fun j _ => o 177 _ (by decide) (by omega)) X.2.2.2.2⟩
  · rw [← X.1.2]; unfold n_s; rw [o _ _ (by decide) (by omega)]
  · have : n_x (mI M i k v) = n_x M := by unfold n_x; rw [o _ _ (by decide) (by omega)]
    rw [this]
    exact X.2.1
  · rw [← X.2.2.1.2]; unfold n_m; rw [o _ _ (by decide) (by omega)]
  · rw [← X.2.2.2.1]; unfold n_l; rw [o _ _ (by decide) (by omega)]
theorem E_settles_L0 {T : gM} {t a c : Nat} {least : Int32} (hl : 1 ≤ least.toInt) : ∀ (n : Nat) {M : gM} {σ : List Int32} {x : sS}, p_J t a 1 c M → t_M T t M σ x → n_o M < n → Ok (F_X12_settles_L0 n (some 175) least M) (fun M' => t_M T t M' (t_sv least σ x).1 (t_sv least σ x).2) := by
  intro n
  induction n with
  | zero => intro M σ x J X h; omega
  | succ n ih =>
    intro M σ x J X h
    show Ok (F_X12_settles_b0 (F_X12_settles_L0 n) (some 175) least M) _
    obtain ⟨X0, ⟨no, sS0⟩, ⟨dp, dp2⟩, W⟩ := X
    have H := J.1.1.1.1
    have o1 := n_o1 H
    have z0 : (0 : Int32).toInt = 0 := rfl
    have z1 : (1 : Int32).toInt = 1 := rfl
    delta F_X12_settles_b0
    rw [e_gI H, Option.bind_some]
    cases σ with
    | nil =>
      have no : n_o M = 0 := no
      rw [if_pos (Int32.le_iff_toInt_le.mpr (by omega))]
      exact Ok_s ⟨X0, ⟨no, sS0⟩, ⟨dp, dp2⟩, W⟩
    | cons w σ =>
    have hm : n_o M = σ.length + 1 := no
    obtain ⟨m, em0⟩ : ∃ m, m = σ.length := ⟨_, rfl⟩
    rw [← em0] at hm
    have am := i_subc (x := M.2.1 175 16) (c := (1 : Int32)) z1 (by omega) (by omega)
    have cm : (M.2.1 175 16 - (1 : Int32)).toInt = (m : Int) := by omega
    have em : M.2.1 175 16 - (1 : Int32) = Int32.ofNat m := i_of cm (by omega)
    have hw : M.2.1 182 m = w := by
      rw [em0]
      exact sS0.1
    rw [if_neg (fun z => by have := i_le z; omega), e_gR H (w := 182) rfl (by decide), Option.bind_some, Option.bind_some, e_aI H (t := 20) (i := 182) (n := 400) rfl (by decide) (by omega) (by omega), Option.bind_some, R_strength, Option.bind_some, i_cl cm, hw]
    by_cases cs : n_st w < least
    · rw [if_pos cs, t_sv_stop cs]
      exact Ok_s ⟨X0, ⟨no, sS0⟩, ⟨dp, dp2⟩, W⟩
    have hs := i_nlt cs
    rw [t_sv_pop cs]
    have hw2 : w = 11 ∨ w = 12 ∨ w = 13 := by
      rcases n_st_r (s := w) with e | e | e | e
      · rw [e] at hs
        omega
      · exact Or.inl e
      · exact Or.inr (Or.inl e)
      · exact Or.inr (Or.inr e)
    have X7 := r_Xw (v := Int32.ofNat m) X0 (i := 175) (k := 16) (Or.inl ⟨rfl, Or.inr rfl⟩)
    have d7 : (mI M 175 16 (Int32.ofNat m)).2.1 175 13 = M.2.1 175 13 := mI_ne (Or.inr (by decide))
    obtain ⟨M7, hM7⟩ : ∃ M7, M7 = mI M 175 16 (Int32.ofNat m) := ⟨_, rfl⟩
    rw [← hM7] at X7 d7
    have ci : (Int32.ofNat m).toInt = (m : Int) := i_ofNat (by omega)
    obtain ⟨H7, f7⟩ : y_HT M7 ∧ y_Fr (2 ^ 16) M M7 := by
      subst hM7
      refine y_set (M' := mI M 175 16 (Int32.ofNat m)) (S := 2 ^ 16) H (i := 175) (k := 16) (by decide) rfl rfl y_mI1 (fun j a hj => y_mI2 hj) rfl ?_ (by decide)
      show y_rg (0, 400) _
      unfold y_rg
      rw [ci]
      exact ⟨by omega, by show (m : Int) ≤ 400; omega⟩
    have v7 : M7.2.1 175 16 = Int32.ofNat m := by
      subst hM7
      exact y_mI1
    have o7 : n_o M7 = m := by
      show (M7.2.1 175 16).toInt.toNat = m
      rw [v7, ci]
      rfl
    have w7 : n_w2 M7 = n_w2 M := funext (fun q => y_fa (i := 182) f7 (by decide) (by decide) q)
    have x7 := n_fx f7 (by decide)
    have l7 := n_fl (t := t) f7 (by decide)
    obtain ⟨JI, JW⟩ := J
    have hnb : p_nb (n_w2 M) (n_o M) = p_nb (n_w2 M) m + (if w = 12 ∨ w = 13 then 1 else 0) := by
      rw [hm, ← hw]
      rfl
    rw [hm] at JW
    have I7 : p_I t a (p_nb (n_w2 M) (n_o M) + 1) (n_o M + c) M7 := p_I_of JI H7 f7 (by decide) ⟨by rw [x7]; exact JI.2.1.1, by rw [x7]; exact JI.2.1.2⟩ (by rw [n_fm f7 (by decide)]; exact Nat.le_refl _)
    have e182 : M7.2.1 182 m = w := by
      rw [← hw]
      exact congrFun w7 _
    have hx := I7.2.1
    have s7 := n_s1 H7
    rw [if_neg cs, Option.bind_some, e_pI H, Option.bind_some, em, ← hM7]
    rw [e_gR H7 (w := 182) rfl (by decide), Option.bind_some, e_gI H7, Option.bind_some, v7, e_aI H7 (t := 20) (i := 182) (n := 400) rfl (by decide) (by omega) (by omega), Option.bind_some, i_cl ci, e182, e_gO H7, Option.bind_some, R_puts H7 I7.1.1.2 I7.1.2 (by omega), Option.bind_some]
    have hst : y_st (w + (16 : Int32) * (0 : Int32)) (p_nb (n_w2 M) (n_o M) + 1) = some (p_nb (n_w2 M) m + 1) := by
      rw [hnb]
      rcases hw2 with e | e | e
      · rw [e, if_neg (by decide)]
        exact y_st11
      · rw [e, if_pos (by decide)]
        exact y_stB (w := 12) (by decide)
      · rw [e, if_pos (by decide)]
        exact y_stB (w := 13) (by decide)
    obtain ⟨I8, F8, x8⟩ := p_puts (S := p_T) (c := m + c) (p_I_of (c2 := m + c + 1) I7 H7 (y_rf0 0 _) (by decide) ⟨by omega, hx.2⟩ (Nat.le_refl _)) hst (by have := I7.2.2.2; omega) (by decide)
    have X8 := r_Xput X7 H7 (w := w + (16 : Int32) * (0 : Int32)) (a := (t_op w, 0)) (by omega) (by rcases hw2 with e | e | e <;> (rw [e]; decide))
    have o8 : n_o (n_p M7 t (w + (16 : Int32) * (0 : Int32))) = m := by
      show ((n_p M7 t (w + (16 : Int32) * (0 : Int32))).2.1 175 16).toInt.toNat = m
      unfold n_p
      rw [mI_ne (Or.inl (by decide)), mI_ne (Or.inl (by decide)), v7, ci]
      rfl
    have d8 : (n_p M7 t (w + (16 : Int32) * (0 : Int32))).2.1 175 13 = M.2.1 175 13 := by
      unfold n_p
      rw [mI_ne (Or.inl (by decide)), mI_ne (Or.inl (by decide)), d7]
    have w8 : n_w2 (n_p M7 t (w + (16 : Int32) * (0 : Int32))) = n_w2 M := by
      refine Eq.trans (funext (fun q => ?_)) w7
      show (n_p M7 t (w + (16 : Int32) * (0 : Int32))).2.1 182 q = M7.2.1 182 q
      unfold n_p
      rw [mI_ne (Or.inl (by decide)), mI_ne (Or.inl (by decide))]
    generalize n_p M7 t (w + (16 : Int32) * (0 : Int32)) = M8 at I8 F8 x8 o8 w8 d8 X8 ⊢
    have J8 : p_J t a 1 c M8 := by
      unfold p_J
      rw [o8, w8]
      exact ⟨I8, fun k hk => JW k (by omega)⟩
    have H8 := I8.1.1.1
    have v8 : M8.2.1 175 16 = Int32.ofNat m := i_of (by rw [(n_o1 H8).1, o8]) (by omega)
    have e8 : M8.2.1 182 m = w := (congrFun w8 m).trans hw
    have S8 : t_S (n_w2 M8) σ := by rw [w8]; exact sS0.2
    rw [e_gR H8 (w := 182) rfl (by decide), Option.bind_some, e_gI H8, Option.bind_some, v8, e_aI H8 (t := 20) (i := 182) (n := 400) rfl (by decide) (by omega) (by omega), Option.bind_some, i_cl ci, e8]
    by_cases c11 : w = 11
    · rw [if_pos c11, e_gI H8, Option.bind_some, e_pI H8, Option.bind_some]
      have ed : t_dp (w :: σ) = t_dp σ + 1 := t_dp_1 (Or.inr c11)
      obtain ⟨J10, F10, x10, s10, w10, o10⟩ := p_J_deep (v := M8.2.1 175 13 - (1 : Int32)) J8
      have X10 := r_Xw (v := M8.2.1 175 13 - (1 : Int32)) X8 (i := 175) (k := 13) (Or.inl ⟨rfl, Or.inl rfl⟩)
      refine ih J10 ⟨X10, ⟨by rw [o10, o8, em0], by rw [w10]; exact S8⟩, ⟨?_, by omega⟩, W.2⟩ (by omega)
      rw [y_mI1, d8, i_subc (n := 1) rfl (by omega) (by omega)]
      omega
    · rw [if_neg c11]
      have ed : t_dp (w :: σ) = t_dp σ := t_dp_0 (hw2.resolve_left c11)
      exact ih J8 ⟨X8, ⟨by rw [o8, em0], S8⟩, ⟨by rw [d8, ← ed]; exact dp, by omega⟩, W.2⟩ (by omega)
theorem E_settles {T : gM} {t a c : Nat} {least : Int32} {M : gM} {σ : List Int32} {x : sS} (hl : 1 ≤ least.toInt) (J : p_J t a 1 c M) (X : t_M T t M σ x) : Ok (F_X12_settles (some 175) least M) (fun M' => t_M T t M' (t_sv least σ x).1 (t_sv least σ x).2) := E_settles_L0 hl _ J X (n_fu (n_o1 J.1.1.1.1).2)
