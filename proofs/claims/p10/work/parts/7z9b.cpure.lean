/-! the class: what is known and HELD -/
theorem C_bit {a b : Int32} {M : gM} : F_X11_bit a b M = some (hs_is a b) := rfl
theorem k_XE {M : gM} {s e : Nat} {σ : Nat → Int32} (X : k_X M s e σ) : (g_k M e = (1, 0) ∧ (M.2.1 e 6 = σ 1 ∧ M.2.1 e 7 = σ 2) ∧ M.2.1 e 9 = σ 7 ∧ M.2.1 e 10 = σ 6) ∧ ((g_k M s = (8, 0) ∧ g_k M (s + 1) = (20, 49) ∧ g_k M (s + 2) = (20, 49)) ∧ g_k M (s + 3) = (20, 7) ∧ g_k M (s + 4) = (20, 7)) ∧ (M.2.2.2 s 0 = some (s + 1) ∧ M.2.2.2 s 1 = some (s + 2)) ∧ M.2.2.2 s 2 = some (s + 3) ∧ M.2.2.2 s 3 = some (s + 4) :=
  ⟨⟨X.1.1.1, X.2.1.1.1.1, X.2.1.1.2.1⟩, ⟨⟨X.1.2.1.1, X.1.2.1.2.1⟩, X.1.2.1.2.2⟩, X.1.2.2⟩
theorem k_XR {M : gM} {s e : Nat} {σ : Nat → Int32} (X : k_X M s e σ) {i : Nat} (hi : i < 5) : g_k M (e + 1 + i) = (20, 7) ∧ M.2.2.2 e i = some (e + 1 + i) := X.1.1.2 i hi
theorem i_le_n {l v : Int32} {j n : Nat} (hl : l.toInt = (j : Int)) (hv : v.toInt = (n : Int)) : v ≤ l ↔ n ≤ j := by
  rw [Int32.le_iff_toInt_le]
  omega
theorem i_nx {l : Int32} {j : Nat} (hl : l.toInt = (j : Int)) (h : j ≤ 1000) : (l + 1).toInt = ((j + 1 : Nat) : Int) := by
  rw [n_inc hl h, i_ofNat (by omega)]
theorem i_nt {l : Int32} {j : Nat} (hl : l.toInt = (j : Int)) (h : j ≤ 1000) : l = Int32.ofNat j := i_of hl (by omega)
theorem C_knownBy_L5 {M : gM} {s e h : Nat} {σ : Nat → Int32} {l2 : Int32} (X : k_X M s e σ) (h2 : l2.toInt = (h : Int)) (hh : h < hs_m σ) : ∀ (n j : Nat) {l4 : Int32}, l4.toInt = (j : Int) → j ≤ hs_n σ → hs_n σ - j < n → F_X8_knownBy_L5 M n (some s) (some e) l2 (s_bs (fun t => s_kn σ h t) j) l4 = some (s_bs (fun t => s_kn σ h t) (hs_n σ)) := by
  intro n
  induction n with
  | zero => intro j l4 h4 hj hn; omega
  | succ n ih =>
    intro j l4 h4 hj hn
    obtain ⟨⟨ke, ⟨e6, e7⟩, _⟩, ⟨⟨ks, k1, k2⟩, k3, k4⟩, ⟨r0, r1⟩, r2, r3⟩ := k_XE X
    have nn := s_Vn X.2.2
    show F_X8_knownBy_b5 (F_X8_knownBy_L5 M n) M (some s) (some e) l2 _ l4 = _
    delta F_X8_knownBy_b5 F_X8_knownBy_b36
    rw [t_gI ke, Option.bind_some, e6]
    have c0 := i_le_n h4 nn.1.1
    by_cases c : hs_n σ ≤ j
    · have : j = hs_n σ := by omega
      subst this
      rw [if_pos (c0.mpr c)]
    · have ix := k_ix h2 h4 (by omega) (by omega)
      rw [if_neg (mt c0.mp c), t_gR ks r1, Option.bind_some, t_aI k2 (by omega) (by omega), Option.bind_some, i_cl ix, (k_Xst X hh (by omega)).1]
      have nx := i_nx h4 (by omega)
      have ih := ih (j + 1) nx (by omega) (by omega)
      rw [bs_succ] at ih
      have kp := (k_Xpos X hh (t := j) (by omega)).1
      by_cases k : s_kn σ h j = true
      · rw [if_neg (fun z => by rw [kp.mp z] at k; cases k)]
        rw [if_pos k, ← i_nt h4 (by omega)] at ih
        exact ih
      · rw [if_pos (kp.mpr (b_ff k))]
        rw [if_neg k] at ih
        exact ih
theorem C_knownBy {M : gM} {s e h : Nat} {σ : Nat → Int32} {l2 : Int32} (X : k_X M s e σ) (h2 : l2.toInt = (h : Int)) (hh : h < hs_m σ) : F_X8_knownBy (some s) (some e) l2 M = some (s_bs (fun t => s_kn σ h t) (hs_n σ)) := by
  delta F_X8_knownBy F_X8_knownBy_b0
  have := (s_Vn X.2.2).1.2
  exact C_knownBy_L5 X h2 hh g_fuel 0 (l4 := 0) rfl (Nat.zero_le _) (n_fu (by omega))
theorem C_knowersAs_L6 {M : gM} {s e t : Nat} {σ : Nat → Int32} {l2 w : Int32} (X : k_X M s e σ) (h2 : l2.toInt = (t : Int)) (ht : t < 7) : ∀ (n j : Nat) {l5 : Int32}, l5.toInt = (j : Int) → j ≤ hs_m σ → hs_m σ - j < n → F_X8_knowersAs_L6 M n (some s) (some e) l2 w (s_bs (fun h => s_kn σ h t && s_va σ h t == w) j) l5 = some (s_bs (fun h => s_kn σ h t && s_va σ h t == w) (hs_m σ)) := by
  intro n
  induction n with
  | zero => intro j l5 h5 hj hn; omega
  | succ n ih =>
    intro j l5 h5 hj hn
    obtain ⟨⟨ke, ⟨e6, e7⟩, _⟩, ⟨⟨ks, k1, k2⟩, k3, k4⟩, ⟨r0, r1⟩, r2, r3⟩ := k_XE X
    have nn := s_Vn X.2.2
    show F_X8_knowersAs_b6 (F_X8_knowersAs_L6 M n) M (some s) (some e) l2 w _ l5 = _
    delta F_X8_knowersAs_b6 F_X8_knowersAs_b54
    rw [t_gI ke, Option.bind_some, e7]
    have c0 := i_le_n h5 nn.2.1
    by_cases c : hs_m σ ≤ j
    · have : j = hs_m σ := by omega
      subst this
      rw [if_pos (c0.mpr c)]
    · have hh : j < hs_m σ := by omega
      have ix := k_ix h5 h2 (by omega) (by omega)
      rw [if_neg (mt c0.mp c), t_gR ks r1, Option.bind_some, t_aI k2 (by omega) (by omega), Option.bind_some, i_cl ix, (k_Xst X hh (by omega)).1]
      have nx := i_nx h5 (by omega)
      have ih := ih (j + 1) nx (by omega) (by omega)
      rw [bs_succ] at ih
      have kp := (k_Xpos X hh (t := t) (by omega)).1
      by_cases k : s_kn σ j t = true
      · rw [if_neg (fun z => by rw [kp.mp z] at k; cases k), t_gR ks r0, Option.bind_some, t_aI k1 (by omega) (by omega), Option.bind_some, i_cl ix, (k_Xst X hh (by omega)).2 k]
        by_cases cw : s_va σ j t = w
        · rw [if_pos cw]
          rw [if_pos (by simp [k, cw]), ← i_nt h5 (by omega)] at ih
          exact ih
        · rw [if_neg cw]
          rw [if_neg (by simp [cw])] at ih
          exact ih
      · rw [if_pos (kp.mpr (b_ff k))]
        rw [if_neg (by simp [k])] at ih
        exact ih
theorem C_knowersAs {M : gM} {s e t : Nat} {σ : Nat → Int32} {l2 w : Int32} (X : k_X M s e σ) (h2 : l2.toInt = (t : Int)) (ht : t < 7) : F_X8_knowersAs (some s) (some e) l2 w M = some (s_bs (fun h => s_kn σ h t && s_va σ h t == w) (hs_m σ)) := by
  delta F_X8_knowersAs F_X8_knowersAs_b0
  have := (s_Vn X.2.2).2.2
  exact C_knowersAs_L6 X h2 ht g_fuel 0 (l5 := 0) rfl (Nat.zero_le _) (n_fu (by omega))
/-- as what it was told, and by two -/
def s_told (σ : Nat → Int32) (t : Nat) : Nat → Int32
  | 0 => 0
  | j + 1 => if s_kn σ j t = true then s_told σ t j ||| hs_bit (s_va σ j t) else s_told σ t j
def s_shar (σ : Nat → Int32) (t : Nat) : Nat → Int32
  | 0 => 0
  | j + 1 => if s_kn σ j t = true then s_shar σ t j ||| (s_told σ t j &&& hs_bit (s_va σ j t)) else s_shar σ t j
theorem told_succ {σ : Nat → Int32} {t j : Nat} : s_told σ t (j + 1) = if s_kn σ j t = true then s_told σ t j ||| hs_bit (s_va σ j t) else s_told σ t j := rfl
theorem shar_succ {σ : Nat → Int32} {t j : Nat} : s_shar σ t (j + 1) = if s_kn σ j t = true then s_shar σ t j ||| (s_told σ t j &&& hs_bit (s_va σ j t)) else s_shar σ t j := rfl
theorem told_get {σ : Nat → Int32} {t i : Nat} (V : s_V σ) (ht : t < 7) : ∀ {j : Nat}, j ≤ hs_m σ → ((s_told σ t j).toBitVec.getLsbD i = true ↔ ∃ h, h < j ∧ s_kn σ h t = true ∧ (s_va σ h t).toInt = (i : Int)) := by
  intro j
  induction j with
  | zero =>
    intro _
    constructor
    · intro h
      have z : (s_told σ t 0).toBitVec.getLsbD i = false := by
        show (0#32).getLsbD i = false
        simp
      rw [z] at h
      cases h
    · rintro ⟨h, h0, _⟩
      omega
  | succ j ih =>
    intro hj
    have ih := ih (by omega)
    unfold s_told
    by_cases k : s_kn σ j t = true
    · have kv := s_kn1 V (by omega) ht k
      obtain ⟨v, hv⟩ : ∃ v : Nat, (s_va σ j t).toInt = (v : Int) := ⟨(s_va σ j t).toInt.toNat, by omega⟩
      rw [if_pos k, or_get, bit_get hv (by omega), Bool.or_eq_true, ih, decide_eq_true_iff]
      constructor
      · rintro (⟨h, h1, h2⟩ | h)
        · exact ⟨h, by omega, h2⟩
        · exact ⟨j, by omega, k, by omega⟩
      · rintro ⟨h, h1, h2, h3⟩
        by_cases e : h = j
        · subst e
          exact Or.inr (by omega)
        · exact Or.inl ⟨h, by omega, h2, h3⟩
    · rw [if_neg k, ih]
      constructor
      · rintro ⟨h, h1, h2⟩
        exact ⟨h, by omega, h2⟩
      · rintro ⟨h, h1, h2, h3⟩
        by_cases e : h = j
        · subst e
          exact absurd h2 k
        · exact ⟨h, by omega, h2, h3⟩
theorem shar_get {σ : Nat → Int32} {t i : Nat} (V : s_V σ) (ht : t < 7) : ∀ {j : Nat}, j ≤ hs_m σ → ((s_shar σ t j).toBitVec.getLsbD i = true ↔ ∃ h h', (h < h' ∧ h' < j) ∧ (s_kn σ h t = true ∧ (s_va σ h t).toInt = (i : Int)) ∧ s_kn σ h' t = true ∧ (s_va σ h' t).toInt = (i : Int)) := by
  intro j
  induction j with
  | zero =>
    intro _
    constructor
    · intro h
      have z : (s_shar σ t 0).toBitVec.getLsbD i = false := by
        show (0#32).getLsbD i = false
        simp
      rw [z] at h
      cases h
    · rintro ⟨h, h', ⟨_, h0⟩, _⟩
      omega
  | succ j ih =>
    intro hj
    have ih := ih (by omega)
    unfold s_shar
    by_cases k : s_kn σ j t = true
    · have kv := s_kn1 V (by omega) ht k
      obtain ⟨v, hv⟩ : ∃ v : Nat, (s_va σ j t).toInt = (v : Int) := ⟨(s_va σ j t).toInt.toNat, by omega⟩
      rw [if_pos k, or_get, and_get, bit_get hv (by omega), Bool.or_eq_true, ih, Bool.and_eq_true, told_get V ht (by omega), decide_eq_true_iff]
      constructor
      · rintro (⟨h, h', ⟨h1, h2⟩, h3⟩ | ⟨⟨h, h1, h2, h3⟩, h4⟩)
        · exact ⟨h, h', ⟨h1, by omega⟩, h3⟩
        · exact ⟨h, j, ⟨h1, by omega⟩, ⟨h2, h3⟩, k, by omega⟩
      · rintro ⟨h, h', ⟨h1, h2⟩, h3, h4, h5⟩
        by_cases e : h' = j
        · subst e
          exact Or.inr ⟨⟨h, h1, h3⟩, by omega⟩
        · exact Or.inl ⟨h, h', ⟨h1, by omega⟩, h3, h4, h5⟩
    · rw [if_neg k, ih]
      constructor
      · rintro ⟨h, h', ⟨h1, h2⟩, h3⟩
        exact ⟨h, h', ⟨h1, by omega⟩, h3⟩
      · rintro ⟨h, h', ⟨h1, h2⟩, h3, h4, h5⟩
        by_cases e : h' = j
        · subst e
          exact absurd h4 k
        · exact ⟨h, h', ⟨h1, by omega⟩, h3, h4, h5⟩
theorem same_iff {σ : Nat → Int32} {h t : Nat} : s_same σ h t = true ↔ ∃ o, o < hs_m σ ∧ o ≠ h ∧ s_va σ o t = s_va σ h t := by
  unfold s_same
  rw [List.any_eq_true]
  constructor
  · rintro ⟨o, h1, h2⟩
    rw [List.mem_range] at h1
    simp only [Bool.and_eq_true, bne_iff_ne, beq_iff_eq] at h2
    exact ⟨o, h1, h2⟩
  · rintro ⟨o, h1, h2, h3⟩
    refine ⟨o, List.mem_range.mpr h1, ?_⟩
    simp only [Bool.and_eq_true, bne_iff_ne, beq_iff_eq]
    exact ⟨h2, h3⟩
/-- who knows it as what is good HOLDS it -/
theorem good_iff {σ : Nat → Int32} {h t : Nat} (V : s_V σ) (hh : h < hs_m σ) (ht : (t : Int) < (σ 1).toInt) (k : s_kn σ h t = true) : hs_is (s_shar σ t (hs_m σ) ||| hs_bit (σ (10 + 4 * t))) (s_va σ h t) = if (s_va σ h t == σ (10 + 4 * t) || s_same σ h t) = true then 1 else 0 := by
  have nn := s_Vn V
  have ht7 : t < 7 := by omega
  have kv := s_kn1 V hh ht7 k
  have so := (V.2.2.1 t ht).1.1
  obtain ⟨v, hv⟩ : ∃ v : Nat, (s_va σ h t).toInt = (v : Int) := ⟨(s_va σ h t).toInt.toNat, by omega⟩
  obtain ⟨w, hw⟩ : ∃ w : Nat, (σ (10 + 4 * t)).toInt = (w : Int) := ⟨(σ (10 + 4 * t)).toInt.toNat, by omega⟩
  have key : (s_shar σ t (hs_m σ) ||| hs_bit (σ (10 + 4 * t))).toBitVec.getLsbD v = true ↔ (s_va σ h t == σ (10 + 4 * t) || s_same σ h t) = true := by
    rw [or_get, bit_get hw (by omega), Bool.or_eq_true, Bool.or_eq_true, shar_get V ht7 (Nat.le_refl _), same_iff, decide_eq_true_iff, beq_iff_eq]
    constructor
    · rintro (⟨a, b, ⟨h1, h2⟩, ⟨h3, h4⟩, h5, h6⟩ | h1)
      · by_cases e : a = h
        · exact Or.inr ⟨b, h2, by omega, Int32.toInt_inj.mp (by omega)⟩
        · exact Or.inr ⟨a, by omega, e, Int32.toInt_inj.mp (by omega)⟩
      · exact Or.inl (Int32.toInt_inj.mp (by omega))
    · rintro (h1 | ⟨o, h1, h2, h3⟩)
      · refine Or.inr ?_
        rw [h1] at hv
        omega
      · have ko : s_kn σ o t = true := by
          unfold s_kn
          rw [h3]
          exact k
        rcases Nat.lt_or_ge o h with l | l
        · exact Or.inl ⟨o, h, ⟨l, hh⟩, ⟨ko, by rw [h3]; exact hv⟩, k, hv⟩
        · exact Or.inl ⟨h, o, ⟨by omega, h1⟩, ⟨k, hv⟩, ko, by rw [h3]; exact hv⟩
  rw [is_get hv (by omega)]
  by_cases c : (s_va σ h t == σ (10 + 4 * t) || s_same σ h t) = true
  · rw [if_pos (key.mpr c), if_pos c]
  · rw [if_neg (mt key.mp c), if_neg c]
theorem C_heldAs_L8 {M : gM} {s e t : Nat} {σ : Nat → Int32} {l2 : Int32} (X : k_X M s e σ) (h2 : l2.toInt = (t : Int)) (ht : (t : Int) < (σ 1).toInt) : ∀ (n j : Nat) {l5 : Int32}, l5.toInt = (j : Int) → j ≤ hs_m σ → hs_m σ - j < n → F_X8_heldAs_L8 M n (some s) (some e) l2 (s_told σ t j) (s_shar σ t j) l5 = some (s_shar σ t (hs_m σ) ||| hs_bit (σ (10 + 4 * t))) := by
  intro n
  induction n with
  | zero => intro j l5 h5 hj hn; omega
  | succ n ih =>
    intro j l5 h5 hj hn
    obtain ⟨⟨ke, ⟨e6, e7⟩, _⟩, ⟨⟨ks, k1, k2⟩, k3, k4⟩, ⟨r0, r1⟩, r2, r3⟩ := k_XE X
    have nn := s_Vn X.2.2
    have ht7 : t < 7 := by omega
    have R0 : g_k M (e + 1) = (20, 7) ∧ M.2.2.2 e 0 = some (e + 1) := k_XR (i := 0) X (by decide)
    have so : M.2.1 (e + 1) t = σ (10 + 4 * t) := (X.2.1.1.2.2.1 t ht).1.1
    show F_X8_heldAs_b8 (F_X8_heldAs_L8 M n) M (some s) (some e) l2 _ _ l5 = _
    delta F_X8_heldAs_b8 F_X8_heldAs_b64
    rw [t_gI ke, Option.bind_some, e7]
    have c0 := i_le_n h5 nn.2.1
    by_cases c : hs_m σ ≤ j
    · have : j = hs_m σ := by omega
      subst this
      rw [if_pos (c0.mpr c), t_gR ke R0.2, Option.bind_some, t_aI R0.1 (by omega) (by omega), Option.bind_some, i_cl h2, so]
      rfl
    · have hh : j < hs_m σ := by omega
      have ix := k_ix h5 h2 (by omega) ht7
      rw [if_neg (mt c0.mp c), t_gR ks r1, Option.bind_some, t_aI k2 (by omega) (by omega), Option.bind_some, i_cl ix, (k_Xst X hh ht7).1]
      have nx := i_nx h5 (by omega)
      have ih := ih (j + 1) nx (by omega) (by omega)
      rw [told_succ, shar_succ] at ih
      have kp := (k_Xpos X hh (t := t) ht7).1
      by_cases k : s_kn σ j t = true
      · rw [if_neg (fun z => by rw [kp.mp z] at k; cases k), t_gR ks r0, Option.bind_some, t_aI k1 (by omega) (by omega), Option.bind_some, Option.bind_some, t_aI k1 (by omega) (by omega), Option.bind_some, i_cl ix, (k_Xst X hh ht7).2 k]
        rw [if_pos k, if_pos k] at ih
        exact ih
      · rw [if_pos (kp.mpr (b_ff k))]
        rw [if_neg k, if_neg k] at ih
        exact ih
theorem C_holdersOf_L25 {M : gM} {s e t : Nat} {σ : Nat → Int32} {l2 : Int32} (X : k_X M s e σ) (h2 : l2.toInt = (t : Int)) (ht : (t : Int) < (σ 1).toInt) (hst : (σ (13 + 4 * t)).toInt < 0) : ∀ (n j : Nat) {l5 : Int32}, l5.toInt = (j : Int) → j ≤ hs_m σ → hs_m σ - j < n → F_X8_holdersOf_L25 M n (some s) (some e) l2 (s_shar σ t (hs_m σ) ||| hs_bit (σ (10 + 4 * t))) (s_bs (fun h => s_ho σ h t) j) l5 = some (s_hs σ t) := by
  intro n
  induction n with
  | zero => intro j l5 h5 hj hn; omega
  | succ n ih =>
    intro j l5 h5 hj hn
    obtain ⟨⟨ke, ⟨e6, e7⟩, _⟩, ⟨⟨ks, k1, k2⟩, k3, k4⟩, ⟨r0, r1⟩, r2, r3⟩ := k_XE X
    have nn := s_Vn X.2.2
    have ht7 : t < 7 := by omega
    show F_X8_holdersOf_b25 (F_X8_holdersOf_L25 M n) M (some s) (some e) l2 _ _ l5 = _
    delta F_X8_holdersOf_b25 F_X8_holdersOf_b77
    rw [t_gI ke, Option.bind_some, e7]
    have c0 := i_le_n h5 nn.2.1
    by_cases c : hs_m σ ≤ j
    · have : j = hs_m σ := by omega
      subst this
      rw [if_pos (c0.mpr c)]
      rfl
    · have hh : j < hs_m σ := by omega
      have ix := k_ix h5 h2 (by omega) ht7
      rw [if_neg (mt c0.mp c), t_gR ks r1, Option.bind_some, t_aI k2 (by omega) (by omega), Option.bind_some, i_cl ix, (k_Xst X hh ht7).1]
      have nx := i_nx h5 (by omega)
      have ih := ih (j + 1) nx (by omega) (by omega)
      rw [bs_succ] at ih
      have kp := (k_Xpos X hh (t := t) ht7).1
      have hd : decide ((σ (13 + 4 * t)).toInt < 0) = true := decide_eq_true hst
      by_cases k : s_kn σ j t = true
      · rw [if_neg (fun z => by rw [kp.mp z] at k; cases k), t_gR ks r0, Option.bind_some, t_aI k1 (by omega) (by omega), Option.bind_some, i_cl ix, (k_Xst X hh ht7).2 k, C_bit, Option.bind_some, good_iff X.2.2 hh ht k]
        have eo : s_ho σ j t = (s_va σ j t == σ (10 + 4 * t) || s_same σ j t) := by
          unfold s_ho
          rw [hd, k]
          rfl
        rw [eo] at ih
        by_cases cg : (s_va σ j t == σ (10 + 4 * t) || s_same σ j t) = true
        · rw [if_pos cg, if_pos rfl]
          rw [if_pos cg, ← i_nt h5 (by omega)] at ih
          exact ih
        · rw [if_neg cg, if_neg (by decide)]
          rw [if_neg cg] at ih
          exact ih
      · rw [if_pos (kp.mpr (b_ff k))]
        have eo : s_ho σ j t = false := by
          unfold s_ho
          rw [hd, b_ff k]
          rfl
        rw [eo, if_neg (by decide)] at ih
        exact ih
theorem s_struck {σ : Nat → Int32} {t : Nat} (V : s_V σ) (ht : (t : Int) < (σ 1).toInt) : σ (13 + 4 * t) = -1 ↔ (σ (13 + 4 * t)).toInt < 0 := by
  have h := (V.2.2.1 t ht).2.2
  have z : (-1 : Int32).toInt = -1 := rfl
  exact ⟨fun e => by rw [e]; decide, fun h2 => Int32.toInt_inj.mp (by omega)⟩
theorem s_hs_struck {σ : Nat → Int32} {t : Nat} (V : s_V σ) (h : ¬ (σ (13 + 4 * t)).toInt < 0) : s_hs σ t = 0 := by
  unfold s_hs
  rw [bs_zero (by have := (s_Vn V).2.2; omega)]
  intro i _
  unfold s_ho
  rw [decide_eq_false h]
  rfl
theorem C_holdersOf {M : gM} {s e t : Nat} {σ : Nat → Int32} {l2 : Int32} (X : k_X M s e σ) (h2 : l2.toInt = (t : Int)) (ht : (t : Int) < (σ 1).toInt) : F_X8_holdersOf (some s) (some e) l2 M = some (s_hs σ t) := by
  obtain ⟨⟨ke, ⟨e6, e7⟩, _⟩, ⟨⟨ks, k1, k2⟩, k3, k4⟩, ⟨r0, r1⟩, r2, r3⟩ := k_XE X
  have nn := s_Vn X.2.2
  have ht7 : t < 7 := by omega
  have st : M.2.1 (s + 4) t = σ (13 + 4 * t) := X.2.1.2.2.2 t ht
  delta F_X8_holdersOf F_X8_holdersOf_b0
  rw [t_gR ks r3, Option.bind_some, t_aI k4 (by omega) (by omega), Option.bind_some, i_cl h2, st]
  have ss := s_struck X.2.2 ht
  by_cases c : (σ (13 + 4 * t)).toInt < 0
  · rw [if_pos (ss.mpr c), t_gO ks, Option.bind_some]
    have ha : F_X8_heldAs (some s) (some e) l2 M = some (s_shar σ t (hs_m σ) ||| hs_bit (σ (10 + 4 * t))) := by
      delta F_X8_heldAs F_X8_heldAs_b0
      exact C_heldAs_L8 X h2 ht g_fuel 0 (l5 := 0) rfl (Nat.zero_le _) (n_fu (by omega))
    rw [ha, Option.bind_some]
    exact C_holdersOf_L25 X h2 ht c g_fuel 0 (l5 := 0) rfl (Nat.zero_le _) (n_fu (by omega))
  · rw [if_neg (mt ss.mp c), s_hs_struck X.2.2 c]
theorem C_heldBy_L5 {M : gM} {s e h : Nat} {σ : Nat → Int32} {l2 : Int32} (X : k_X M s e σ) (h2 : l2.toInt = (h : Int)) (hh : h < hs_m σ) : ∀ (n j : Nat) {l4 : Int32}, l4.toInt = (j : Int) → j ≤ hs_n σ → hs_n σ - j < n → F_X8_heldBy_L5 M n (some s) (some e) l2 (s_bs (fun t => s_ho σ h t) j) l4 = some (s_hb σ h) := by
  intro n
  induction n with
  | zero => intro j l4 h4 hj hn; omega
  | succ n ih =>
    intro j l4 h4 hj hn
    obtain ⟨⟨ke, ⟨e6, e7⟩, _⟩, ⟨⟨ks, k1, k2⟩, k3, k4⟩, ⟨r0, r1⟩, r2, r3⟩ := k_XE X
    have nn := s_Vn X.2.2
    show F_X8_heldBy_b5 (F_X8_heldBy_L5 M n) M (some s) (some e) l2 _ l4 = _
    delta F_X8_heldBy_b5 F_X8_heldBy_b36
    rw [t_gI ke, Option.bind_some, e6]
    have c0 := i_le_n h4 nn.1.1
    by_cases c : hs_n σ ≤ j
    · have : j = hs_n σ := by omega
      subst this
      rw [if_pos (c0.mpr c)]
      rfl
    · rw [if_neg (mt c0.mp c), t_gO ks, Option.bind_some, C_holdersOf X h4 (by omega), Option.bind_some, C_bit, Option.bind_some]
      have nx := i_nx h4 (by omega)
      have ih := ih (j + 1) nx (by omega) (by omega)
      rw [bs_succ] at ih
      have e1 : hs_is (s_hs σ j) l2 = if s_ho σ h j = true then 1 else 0 := bs_is (f := fun h => s_ho σ h j) h2 hh (by omega)
      rw [e1]
      by_cases k : s_ho σ h j = true
      · rw [if_pos k, if_pos rfl]
        rw [if_pos k, ← i_nt h4 (by omega)] at ih
        exact ih
      · rw [if_neg k, if_neg (by decide)]
        rw [if_neg k] at ih
        exact ih
theorem C_heldBy {M : gM} {s e h : Nat} {σ : Nat → Int32} {l2 : Int32} (X : k_X M s e σ) (h2 : l2.toInt = (h : Int)) (hh : h < hs_m σ) : F_X8_heldBy (some s) (some e) l2 M = some (s_hb σ h) := by
  delta F_X8_heldBy F_X8_heldBy_b0
  have := (s_Vn X.2.2).1.2
  exact C_heldBy_L5 X h2 hh g_fuel 0 (l4 := 0) rfl (Nat.zero_le _) (n_fu (by omega))
theorem C_standing_L4 {M : gM} {s e : Nat} {σ : Nat → Int32} (X : k_X M s e σ) : ∀ (n j : Nat) {l3 : Int32}, l3.toInt = (j : Int) → j ≤ hs_n σ → hs_n σ - j < n → F_X8_standing_L4 M n (some s) (some e) (s_bs (fun t => decide ((σ (13 + 4 * t)).toInt < 0)) j) l3 = some (s_sd σ) := by
  intro n
  induction n with
  | zero => intro j l3 h3 hj hn; omega
  | succ n ih =>
    intro j l3 h3 hj hn
    obtain ⟨⟨ke, ⟨e6, e7⟩, _⟩, ⟨⟨ks, k1, k2⟩, k3, k4⟩, ⟨r0, r1⟩, r2, r3⟩ := k_XE X
    have nn := s_Vn X.2.2
    show F_X8_standing_b4 (F_X8_standing_L4 M n) M (some s) (some e) _ l3 = _
    delta F_X8_standing_b4 F_X8_standing_b28
    rw [t_gI ke, Option.bind_some, e6]
    have c0 := i_le_n h3 nn.1.1
    by_cases c : hs_n σ ≤ j
    · have : j = hs_n σ := by omega
      subst this
      rw [if_pos (c0.mpr c)]
      rfl
    · have st : M.2.1 (s + 4) j = σ (13 + 4 * j) := X.2.1.2.2.2 j (by omega)
      rw [if_neg (mt c0.mp c), t_gR ks r3, Option.bind_some, t_aI k4 (by omega) (by omega), Option.bind_some, i_cl h3, st]
      have nx := i_nx h3 (by omega)
      have ih := ih (j + 1) nx (by omega) (by omega)
      rw [bs_succ] at ih
      have ss := s_struck (t := j) X.2.2 (by omega)
      by_cases k : (σ (13 + 4 * j)).toInt < 0
      · rw [if_pos (ss.mpr k)]
        rw [if_pos (decide_eq_true k), ← i_nt h3 (by omega)] at ih
        exact ih
      · rw [if_neg (mt ss.mp k)]
        rw [if_neg (by simp [k])] at ih
        exact ih
theorem C_standing {M : gM} {s e : Nat} {σ : Nat → Int32} (X : k_X M s e σ) : F_X8_standing (some s) (some e) M = some (s_sd σ) := by
  delta F_X8_standing F_X8_standing_b0
  have := (s_Vn X.2.2).1.2
  exact C_standing_L4 X g_fuel 0 (l3 := 0) rfl (Nat.zero_le _) (n_fu (by omega))
