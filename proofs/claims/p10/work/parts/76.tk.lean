/-! TESTS: the rest, sign by sign -/
theorem t_K_n0 {T : gM} {y : sS} : t_K T [] false y = s_b (t_1 T 0 y) (t_0 T 0) := by
  show (if false = true then _ else _) = _
  rw [if_neg (by decide)]
theorem t_K_n1 {T : gM} {y : sS} : t_K T [] true y = t_0 T 0 y := by
  show (if true = true then _ else _) = _
  rw [if_pos rfl]
theorem t_K_b0 {T : gM} {σ : List Int32} {y : sS} : t_K T (91 :: σ) false y = s_b (t_1 T (t_dp σ + 1) y) (fun y => s_b (t_0 T (t_dp σ + 1) y) (fun z => s_b (s_close T z) (t_K T σ false))) := by
  show (if (91 : Int32) = 91 then (if false = true then _ else _) else _) = _
  rw [if_pos rfl, if_neg (by decide)]
theorem t_K_b1 {T : gM} {σ : List Int32} {y : sS} : t_K T (91 :: σ) true y = s_b (t_0 T (t_dp σ + 1) y) (fun z => s_b (s_close T z) (t_K T σ false)) := by
  show (if (91 : Int32) = 91 then (if true = true then _ else _) else _) = _
  rw [if_pos rfl, if_pos rfl]
theorem t_K_n {T : gM} {σ : List Int32} {y : sS} : t_K T (11 :: σ) false y = t_K T σ false (s_push y (14, 0)) := by
  show (if (11 : Int32) = 91 then _ else if (11 : Int32) = 11 then _ else _) = _
  rw [if_neg (by decide), if_pos rfl]
theorem t_K_a {T : gM} {σ : List Int32} {y : sS} : t_K T (12 :: σ) false y = t_K T σ false (s_push y (12, 0)) := by
  show (if (12 : Int32) = 91 then _ else if (12 : Int32) = 11 then _ else if (12 : Int32) = 12 then _ else _) = _
  rw [if_neg (by decide), if_neg (by decide), if_pos rfl]
theorem t_K_o0 {T : gM} {σ : List Int32} {y : sS} : t_K T (13 :: σ) false y = s_b (t_1 T (t_dp σ) y) (fun z => t_K T σ true (s_push z (13, 0))) := by
  show (if (13 : Int32) = 91 then _ else if (13 : Int32) = 11 then _ else if (13 : Int32) = 12 then _ else if false = true then _ else _) = _
  rw [if_neg (by decide), if_neg (by decide), if_neg (by decide), if_neg (by decide)]
theorem t_dp_1 {σ : List Int32} {w : Int32} (h : w = 91 ∨ w = 11) : t_dp (w :: σ) = t_dp σ + 1 := by
  show t_dp σ + (if w = 91 ∨ w = 11 then 1 else 0) = _
  rw [if_pos h]
theorem t_dp_0 {σ : List Int32} {w : Int32} (h : w = 12 ∨ w = 13) : t_dp (w :: σ) = t_dp σ := by
  show t_dp σ + (if w = 91 ∨ w = 11 then 1 else 0) = _
  rw [if_neg (by rcases h with e | e <;> (rw [e]; decide))]
  rfl
theorem t_K_J {T : gM} {x : sS} : s_J T 0 0 x = s_b (s_F T 0 x) (t_K T [] false) := by
  rw [t_j0, s_b_a]
  exact congrArg (s_b _) (funext (fun y => t_K_n0.symm))
theorem t_K_91 {T : gM} {σ : List Int32} {x : sS} : s_b (s_b (s_J T 0 (t_dp σ + 1) x) (s_close T)) (t_K T σ false) = s_b (s_F T (t_dp (91 :: σ)) x) (t_K T (91 :: σ) false) := by
  rw [t_j0, s_b_a, s_b_a, s_b_a, t_dp_1 (Or.inl rfl)]
  exact congrArg (s_b _) (funext (fun y => t_K_b0.symm))
theorem t_K_11 {T : gM} {σ : List Int32} {x : sS} : s_b (s_b (s_F T (t_dp σ + 1) x) (fun y => .inr (s_push y (14, 0)))) (t_K T σ false) = s_b (s_F T (t_dp (11 :: σ)) x) (t_K T (11 :: σ) false) := by
  rw [s_b_a, t_dp_1 (Or.inr rfl)]
  exact congrArg (s_b _) (funext (fun y => t_K_n.symm))
theorem t_sv_stop {least w : Int32} {σ : List Int32} {y : sS} (h : n_st w < least) : t_sv least (w :: σ) y = (w :: σ, y) := if_pos h
theorem t_sv_pop {least w : Int32} {σ : List Int32} {y : sS} (h : ¬ n_st w < least) : t_sv least (w :: σ) y = t_sv least σ (s_push y (t_op w, 0)) := if_neg h
theorem t_sv_wf {least : Int32} : ∀ (σ : List Int32) (y : sS), t_wf σ → t_wf (t_sv least σ y).1 := by
  intro σ
  induction σ with
  | nil => intro y h; exact h
  | cons w σ ih =>
    intro y h
    by_cases c : n_st w < least
    · rw [t_sv_stop c]; exact h
    · rw [t_sv_pop c]; exact ih _ h.2
theorem t_sv_top {least : Int32} (h0 : 0 < least) : ∀ (σ : List Int32) (y : sS), t_top (t_sv least σ y).1 < least := by
  intro σ
  induction σ with
  | nil => intro y; exact h0
  | cons w σ ih =>
    intro y
    by_cases c : n_st w < least
    · rw [t_sv_stop c]; exact c
    · rw [t_sv_pop c]; exact ih _
theorem t_sv_pl {least : Int32} : ∀ (σ : List Int32) (y : sS), (t_sv least σ y).2.1 = y.1 := by
  intro σ
  induction σ with
  | nil => intro y; rfl
  | cons w σ ih =>
    intro y
    by_cases c : n_st w < least
    · rw [t_sv_stop c]
    · rw [t_sv_pop c, ih]; rfl
/-- what a sign on top tells -/
theorem t_top0 {σ : List Int32} (W : t_wf σ) (h : t_top σ < 1) : σ = [] ∨ ∃ τ, σ = 91 :: τ := by
  cases σ with
  | nil => exact Or.inl rfl
  | cons w τ =>
    refine Or.inr ⟨τ, ?_⟩
    have h : n_st w < 1 := h
    rcases W.1 with e | e | ⟨e | e, _⟩
    · rw [e]
    · rw [e] at h; exact absurd h (by decide)
    · rw [e] at h; exact absurd h (by decide)
    · rw [e] at h; exact absurd h (by decide)
theorem t_lt3 {v : Int32} (h : v < 2) : v < 3 := by
  have a1 := Int32.lt_iff_toInt_lt.mp h
  refine Int32.lt_iff_toInt_lt.mpr ?_
  have z2 : (2 : Int32).toInt = 2 := rfl
  have z3 : (3 : Int32).toInt = 3 := rfl
  omega
