/-! TESTS: the rest, settled -/
theorem t_K_set3 {T : gM} : ∀ (σ : List Int32) (y : sS), t_wf σ → t_K T σ false y = t_K T (t_sv 3 σ y).1 false (t_sv 3 σ y).2 := by
  intro σ
  induction σ with
  | nil => intro y W; rfl
  | cons w σ ih =>
    intro y W
    rcases W.1 with e | e | ⟨e | e, ht⟩
    · subst e
      rw [t_sv_stop (show n_st 91 < 3 by decide)]
    · subst e
      rw [t_sv_pop (show ¬ n_st 11 < 3 by decide), t_K_n]
      exact ih _ W.2
    · subst e
      rw [t_sv_stop (show n_st 12 < 3 by decide)]
    · subst e
      rw [t_sv_stop (show n_st 13 < 3 by decide)]
/-- behind the last FACT of a PART, and the last PART -/
theorem t_K_set1 {T : gM} : ∀ (σ : List Int32) (y : sS), t_wf σ → t_top σ < 3 → k_kind T y.1 ≠ 281 → t_K T σ false y = t_K T (t_sv 1 σ y).1 true (t_sv 1 σ y).2 := by
  intro σ
  induction σ with
  | nil =>
    intro y W h k
    show t_K T [] false y = t_K T [] true y
    rw [t_K_n0, t_1_end k, t_K_n1]
    rfl
  | cons w σ ih =>
    intro y W h k
    rcases W.1 with e | e | ⟨e | e, ht⟩
    · subst e
      rw [t_sv_stop (show n_st 91 < 1 by decide), t_K_b0, t_1_end k, t_K_b1]
      rfl
    · subst e
      exact absurd h (by show ¬ n_st 11 < 3; decide)
    · subst e
      rw [t_sv_pop (show ¬ n_st 12 < 1 by decide), t_K_a]
      exact ih (s_push y (12, 0)) W.2 (t_lt3 ht) k
    · subst e
      have ht1 : t_top σ < 1 := ht
      have e2 : t_sv 1 σ (s_push y (13, 0)) = (σ, s_push y (13, 0)) := by
        rcases t_top0 W.2 ht1 with e | ⟨τ, e⟩
        · subst e; rfl
        · subst e; exact t_sv_stop (by decide)
      rw [t_sv_pop (show ¬ n_st 13 < 1 by decide), show t_op 13 = 13 from rfl, e2, t_K_o0, t_1_end k]
      rfl
/-- ahead of an AND -/
theorem t_K_set2 {T : gM} : ∀ (σ : List Int32) (y : sS), t_wf σ → t_top σ < 3 → t_K T σ false y = t_K T (t_sv 2 σ y).1 false (t_sv 2 σ y).2 := by
  intro σ
  induction σ with
  | nil => intro y W h; rfl
  | cons w σ ih =>
    intro y W h
    rcases W.1 with e | e | ⟨e | e, ht⟩
    · subst e
      rw [t_sv_stop (show n_st 91 < 2 by decide)]
    · subst e
      exact absurd h (by show ¬ n_st 11 < 3; decide)
    · subst e
      rw [t_sv_pop (show ¬ n_st 12 < 2 by decide), t_K_a]
      exact ih (s_push y (12, 0)) W.2 (t_lt3 ht)
    · subst e
      rw [t_sv_stop (show n_st 13 < 2 by decide)]
theorem t_K_and {T : gM} (B : z_B T) {σ : List Int32} {y : sS} (W : t_wf σ) (h : t_top σ < 2) (k : k_kind T y.1 = 281) : t_K T σ false y = s_b (s_F T (t_dp σ) (k_go T y.1, y.2)) (t_K T (12 :: σ) false) := by
  cases σ with
  | nil =>
    rw [t_K_n0, t_1_go B k, s_b_a]
    refine congrArg (s_b _) (funext (fun z => ?_))
    rw [t_K_a, t_K_n0]
  | cons w τ =>
    rcases W.1 with e | e | ⟨e | e, _⟩
    · subst e
      rw [t_K_b0, t_1_go B k, s_b_a, t_dp_1 (Or.inl rfl)]
      refine congrArg (s_b _) (funext (fun z => ?_))
      rw [t_K_a, t_K_b0]
    · subst e
      exact absurd h (by show ¬ n_st 11 < 2; decide)
    · subst e
      exact absurd h (by show ¬ n_st 12 < 2; decide)
    · subst e
      rw [t_K_o0, t_1_go B k, s_b_a, t_dp_0 (Or.inr rfl)]
      refine congrArg (s_b _) (funext (fun z => ?_))
      rw [t_K_a, t_K_o0]
theorem t_K_or {T : gM} (B : z_B T) {σ : List Int32} {y : sS} (W : t_wf σ) (h : t_top σ < 1) (k : k_kind T y.1 = 282) : t_K T σ true y = s_b (s_F T (t_dp σ) (k_go T y.1, y.2)) (t_K T (13 :: σ) false) := by
  rcases t_top0 W h with e | ⟨τ, e⟩
  · subst e
    rw [t_K_n1, t_0_go B k]
    refine congrArg (s_b _) (funext (fun z => ?_))
    rw [t_K_o0]
    refine congrArg (s_b _) (funext (fun z => ?_))
    rw [t_K_n1]
  · subst e
    rw [t_K_b1, t_0_go B k, s_b_a, t_dp_1 (Or.inl rfl)]
    refine congrArg (s_b _) (funext (fun z => ?_))
    rw [t_K_o0, s_b_a, t_dp_1 (Or.inl rfl)]
    refine congrArg (s_b _) (funext (fun z => ?_))
    rw [t_K_b1]
theorem t_K_end0 {T : gM} {y : sS} (k : k_kind T y.1 ≠ 282) : t_K T [] true y = .inr y := by
  rw [t_K_n1, t_0_end k]
theorem t_K_end1 {T : gM} {σ : List Int32} {y : sS} (k : k_kind T y.1 ≠ 282) : t_K T (91 :: σ) true y = s_b (s_close T y) (t_K T σ false) := by
  rw [t_K_b1, t_0_end k]
  rfl
/-- whether a bracket waits -/
theorem t_sv1_m : ∀ (σ : List Int32) (y : sS), 91 ∈ (t_sv 1 σ y).1 ↔ 91 ∈ σ := by
  intro σ
  induction σ with
  | nil => intro y; exact Iff.rfl
  | cons w σ ih =>
    intro y
    by_cases c : n_st w < 1
    · rw [t_sv_stop c]
    · rw [t_sv_pop c, ih, List.mem_cons]
      refine ⟨Or.inr, fun z => z.elim (fun e => ?_) id⟩
      subst e
      exact absurd (by decide) c
theorem t_sv1_in {σ : List Int32} {y : sS} (W : t_wf σ) : (91 ∈ σ → ∃ τ, (t_sv 1 σ y).1 = 91 :: τ) ∧ (¬ 91 ∈ σ → (t_sv 1 σ y).1 = []) := by
  have W2 := t_sv_wf (least := 1) σ y W
  have h := t_sv_top (least := 1) (by decide) σ y
  rcases t_top0 W2 h with e | ⟨τ, e⟩
  · refine ⟨fun z => ?_, fun _ => e⟩
    rw [← t_sv1_m σ y, e] at z
    cases z
  · refine ⟨fun _ => ⟨τ, e⟩, fun z => ?_⟩
    rw [← t_sv1_m σ y, e] at z
    exact absurd List.mem_cons_self z
