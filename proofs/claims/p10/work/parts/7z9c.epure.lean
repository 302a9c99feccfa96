/-! the reference: what is known and HELD -/
def e_V (M : gM) (σ : Nat → Int32) : Prop := y_HT M ∧ M.2.1 185 = σ ∧ s_V σ
theorem e_sd {M : gM} {σ : Nat → Int32} {β : Type} {j : Int32} {k : Nat} {f : Int32 → Option β} (X : e_V M σ) (hj : j.toInt = (k : Int)) (hk : k < 157) : ((gR 12 M (some 175) 20).bind fun v => (aI 20 M v j).bind f) = f (σ k) := by
  rw [e_gR X.1 (w := 185) rfl (by decide), Option.bind_some, e_aI X.1 (t := 20) (i := 185) (n := 157) rfl (by decide) (by omega) (by omega), Option.bind_some, i_cl hj, X.2.1]
theorem E_thingOf {M : gM} {σ : Nat → Int32} {l1 l2 : Int32} {t w : Nat} (X : e_V M σ) (h1 : l1.toInt = (t : Int)) (h2 : l2.toInt = (w : Int)) (ht : t < 7) (hw : w < 4) : F_X12_thingOf (some 175) l1 l2 M = some (σ (10 + 4 * t + w)) := by
  have a1 := i_mulL (c := (4 : Int32)) (x := l1) (n := 4) rfl (by omega) (by omega)
  have a2 := i_cadd (c := (10 : Int32)) (x := (4 : Int32) * l1) (n := 10) rfl (by omega) (by omega)
  have a3 := i_add (x := (10 : Int32) + (4 : Int32) * l1) (y := l2) (by omega) (by omega)
  delta F_X12_thingOf F_X12_thingOf_b0
  rw [e_sd X (k := 10 + 4 * t + w) (by omega) (by omega)]
theorem E_ix {l1 l2 : Int32} {h t : Nat} (h1 : l1.toInt = (h : Int)) (h2 : l2.toInt = (t : Int)) (hh : h < 7) (ht : t < 7) : (((59 : Int32) + ((14 : Int32) * l1)) + ((2 : Int32) * l2)).toInt = ((59 + 14 * h + 2 * t : Nat) : Int) ∧ ((((59 : Int32) + ((14 : Int32) * l1)) + ((2 : Int32) * l2)) + (1 : Int32)).toInt = ((60 + 14 * h + 2 * t : Nat) : Int) := by
  have a1 := i_mulL (c := (14 : Int32)) (x := l1) (n := 14) rfl (by omega) (by omega)
  have a2 := i_cadd (c := (59 : Int32)) (x := (14 : Int32) * l1) (n := 59) rfl (by omega) (by omega)
  have a3 := i_mulL (c := (2 : Int32)) (x := l2) (n := 2) rfl (by omega) (by omega)
  have a4 := i_add (x := (59 : Int32) + (14 : Int32) * l1) (y := (2 : Int32) * l2) (by omega) (by omega)
  have a5 := i_addc (x := ((59 : Int32) + (14 : Int32) * l1) + (2 : Int32) * l2) (c := (1 : Int32)) (n := 1) rfl (by omega) (by omega)
  omega
theorem E_valueOf {M : gM} {σ : Nat → Int32} {l1 l2 : Int32} {h t : Nat} (X : e_V M σ) (h1 : l1.toInt = (h : Int)) (h2 : l2.toInt = (t : Int)) (hh : h < 7) (ht : t < 7) : F_X12_valueOf (some 175) l1 l2 M = some (s_va σ h t) := by
  delta F_X12_valueOf F_X12_valueOf_b0
  rw [e_sd X (E_ix h1 h2 hh ht).1 (by omega)]
  rfl
theorem E_strengthOf {M : gM} {σ : Nat → Int32} {l1 l2 : Int32} {h t : Nat} (X : e_V M σ) (h1 : l1.toInt = (h : Int)) (h2 : l2.toInt = (t : Int)) (hh : h < 7) (ht : t < 7) : F_X12_strengthOf (some 175) l1 l2 M = some (s_st σ h t) := by
  delta F_X12_strengthOf F_X12_strengthOf_b0
  rw [e_sd X (E_ix h1 h2 hh ht).2 (by omega)]
  rfl
theorem E_knowsOf {M : gM} {σ : Nat → Int32} {l1 l2 : Int32} {h t : Nat} (X : e_V M σ) (h1 : l1.toInt = (h : Int)) (h2 : l2.toInt = (t : Int)) (hh : h < 7) (ht : t < 7) : F_X12_knowsOf (some 175) l1 l2 M = some (if s_kn σ h t = true then 1 else 0) := by
  delta F_X12_knowsOf F_X12_knowsOf_b0
  rw [e_gO X.1, Option.bind_some, E_valueOf X h1 h2 hh ht, Option.bind_some]
  have z0 : (0 : Int32).toInt = 0 := rfl
  by_cases c : s_kn σ h t = true
  · rw [if_pos c, if_neg (fun z => by have := i_lt z; have := of_decide_eq_true c; omega)]
  · have := of_decide_eq_false (b_ff c)
    rw [if_neg c, if_pos (Int32.lt_iff_toInt_lt.mpr (by omega))]
/-- how many others know it as the same -/
def s_sc (σ : Nat → Int32) (h t : Nat) : Nat → Int32
  | 0 => 0
  | j + 1 => if j ≠ h ∧ s_va σ j t = s_va σ h t then s_sc σ h t j + 1 else s_sc σ h t j
theorem sc_succ {σ : Nat → Int32} {h t j : Nat} : s_sc σ h t (j + 1) = if j ≠ h ∧ s_va σ j t = s_va σ h t then s_sc σ h t j + 1 else s_sc σ h t j := rfl
theorem s_sc_r {σ : Nat → Int32} {h t : Nat} : ∀ {j : Nat}, j ≤ 7 → (0 ≤ (s_sc σ h t j).toInt ∧ (s_sc σ h t j).toInt ≤ j) ∧ (0 < (s_sc σ h t j).toInt ↔ ∃ o, o < j ∧ o ≠ h ∧ s_va σ o t = s_va σ h t) := by
  intro j
  induction j with
  | zero =>
    intro _
    have z0 : (s_sc σ h t 0).toInt = 0 := rfl
    rw [z0]
    refine ⟨⟨by omega, by omega⟩, fun h => by omega, ?_⟩
    rintro ⟨o, h1, _⟩
    omega
  | succ j ih =>
    intro hj
    obtain ⟨⟨a, b⟩, c⟩ := ih (by omega)
    unfold s_sc
    by_cases k : j ≠ h ∧ s_va σ j t = s_va σ h t
    · have e := i_addc (x := s_sc σ h t j) (c := (1 : Int32)) (n := 1) rfl (by omega) (by omega)
      rw [if_pos k, show (s_sc σ h t j + 1).toInt = (s_sc σ h t j).toInt + 1 from e]
      exact ⟨⟨by omega, by omega⟩, fun _ => ⟨j, by omega, k⟩, fun _ => by omega⟩
    · rw [if_neg k]
      refine ⟨⟨a, by omega⟩, fun h => ?_, ?_⟩
      · obtain ⟨o, h1, h2⟩ := c.mp h
        exact ⟨o, by omega, h2⟩
      · rintro ⟨o, h1, h2⟩
        by_cases e : o = j
        · subst e
          exact absurd h2 k
        · exact c.mpr ⟨o, by omega, h2⟩
theorem E_sameAs_L5 {M : gM} {σ : Nat → Int32} {l1 l2 : Int32} {h t : Nat} (X : e_V M σ) (h1 : l1.toInt = (h : Int)) (h2 : l2.toInt = (t : Int)) (hh : h < 7) (ht : t < 7) : ∀ (n j : Nat) {l4 : Int32}, l4.toInt = (j : Int) → j ≤ hs_m σ → hs_m σ - j < n → F_X12_sameAs_L5 M n (some 175) l1 l2 (s_sc σ h t j) l4 = some (s_sc σ h t (hs_m σ)) := by
  intro n
  induction n with
  | zero => intro j l4 h4 hj hn; omega
  | succ n ih =>
    intro j l4 h4 hj hn
    have nn := s_Vn X.2.2
    show F_X12_sameAs_b5 (F_X12_sameAs_L5 M n) M (some 175) l1 l2 _ l4 = _
    delta F_X12_sameAs_b5 F_X12_sameAs_b43 F_X12_sameAs_b44
    rw [e_sd X (k := 2) rfl (by decide)]
    have c0 := i_le_n h4 nn.2.1
    by_cases c : hs_m σ ≤ j
    · have : j = hs_m σ := by omega
      subst this
      rw [if_pos (c0.mpr c)]
    · rw [if_neg (mt c0.mp c)]
      have nx := i_nx h4 (by omega)
      have ih := ih (j + 1) nx (by omega) (by omega)
      rw [sc_succ] at ih
      have e0 : s_sc σ h t j + (0 : Int32) = s_sc σ h t j := Int32.add_zero _
      by_cases ce : l4 = l1
      · have : j = h := by rw [ce] at h4; omega
        rw [if_pos ce, e0]
        rw [if_neg (fun z => z.1 this)] at ih
        exact ih
      · have jn : j ≠ h := fun z => ce (Int32.toInt_inj.mp (by omega))
        rw [if_neg ce, e_gO X.1, Option.bind_some, E_valueOf X h4 h2 (by omega) ht, Option.bind_some, E_valueOf X h1 h2 hh ht, Option.bind_some]
        by_cases cv : s_va σ j t = s_va σ h t
        · rw [if_pos cv]
          rw [if_pos ⟨jn, cv⟩] at ih
          exact ih
        · rw [if_neg cv, e0]
          rw [if_neg (fun z => cv z.2)] at ih
          exact ih
theorem E_sameAs {M : gM} {σ : Nat → Int32} {l1 l2 : Int32} {h t : Nat} (X : e_V M σ) (h1 : l1.toInt = (h : Int)) (h2 : l2.toInt = (t : Int)) (hh : h < 7) (ht : t < 7) : F_X12_sameAs (some 175) l1 l2 M = some (s_sc σ h t (hs_m σ)) := by
  delta F_X12_sameAs F_X12_sameAs_b0
  have := (s_Vn X.2.2).2.2
  exact E_sameAs_L5 X h1 h2 hh ht g_fuel 0 (l4 := 0) rfl (Nat.zero_le _) (n_fu (by omega))
theorem E_holds {M : gM} {σ : Nat → Int32} {l1 l2 : Int32} {h t : Nat} (X : e_V M σ) (h1 : l1.toInt = (h : Int)) (h2 : l2.toInt = (t : Int)) (hh : h < 7) (ht : t < 7) : F_X12_holds (some 175) l1 l2 M = some (if s_ho σ h t = true then 1 else 0) := by
  have z0 : (0 : Int32).toInt = 0 := rfl
  have nn := s_Vn X.2.2
  delta F_X12_holds F_X12_holds_b0 F_X12_holds_b18 F_X12_holds_b44
  rw [e_gO X.1, Option.bind_some, E_thingOf X h2 (w := 3) rfl ht (by decide), Option.bind_some]
  unfold s_ho
  by_cases c : (σ (13 + 4 * t)).toInt < 0
  · rw [if_neg (fun z => by have := i_le z; rw [show 10 + 4 * t + 3 = 13 + 4 * t by omega] at this; omega), decide_eq_true c, Bool.true_and, E_knowsOf X h1 h2 hh ht, Option.bind_some]
    by_cases k : s_kn σ h t = true
    · rw [if_pos k, if_neg (by decide), k, Bool.true_and, E_valueOf X h1 h2 hh ht, Option.bind_some, E_thingOf X h2 (w := 0) rfl ht (by decide), Option.bind_some, show 10 + 4 * t + 0 = 10 + 4 * t by omega]
      by_cases cv : s_va σ h t = σ (10 + 4 * t)
      · rw [if_pos cv, if_pos (by simp [cv])]
      · rw [if_neg cv, E_sameAs X h1 h2 hh ht, Option.bind_some]
        have sc := s_sc_r (σ := σ) (h := h) (t := t) (j := hs_m σ) (by omega)
        by_cases cs : s_same σ h t = true
        · rw [if_neg (fun z => by have := i_le z; have := sc.2.mpr (same_iff.mp cs); omega), if_pos (by simp [cs])]
        · have : ¬ 0 < (s_sc σ h t (hs_m σ)).toInt := fun z => cs (same_iff.mpr (sc.2.mp z))
          rw [if_pos (Int32.le_iff_toInt_le.mpr (by omega)), if_neg (by simp [cv, cs])]
    · rw [if_neg k, if_pos rfl, b_ff k, if_neg (by simp)]
  · rw [if_pos (Int32.le_iff_toInt_le.mpr (by rw [show 10 + 4 * t + 3 = 13 + 4 * t by omega]; omega)), decide_eq_false c, if_neg (by simp)]
theorem bs_next {f : Nat → Bool} {j : Nat} {l : Int32} (hl : l.toInt = (j : Int)) (hj : j ≤ 1000) : (s_bs f (j + 1) = s_bs f j ||| (if f j = true then hs_bit l else 0)) := by
  rw [i_nt hl hj]
  unfold s_bs
  by_cases c : f j = true
  · rw [if_pos c, if_pos c]
    cases j <;> rfl
  · rw [if_neg c, if_neg c, i_or0]
    cases j <;> rfl
theorem E_holdsOf_L4 {M : gM} {σ : Nat → Int32} {l1 : Int32} {h : Nat} (X : e_V M σ) (h1 : l1.toInt = (h : Int)) (hh : h < 7) : ∀ (n j : Nat) {l3 : Int32}, l3.toInt = (j : Int) → j ≤ hs_n σ → hs_n σ - j < n → F_X12_holdsOf_L4 M n (some 175) l1 (s_bs (fun t => s_ho σ h t) j) l3 = some (s_hb σ h) := by
  intro n
  induction n with
  | zero => intro j l3 h3 hj hn; omega
  | succ n ih =>
    intro j l3 h3 hj hn
    have nn := s_Vn X.2.2
    show F_X12_holdsOf_b4 (F_X12_holdsOf_L4 M n) M (some 175) l1 _ l3 = _
    delta F_X12_holdsOf_b4 F_X12_holdsOf_b31
    rw [e_sd X (k := 1) rfl (by decide)]
    have c0 := i_le_n h3 nn.1.1
    by_cases c : hs_n σ ≤ j
    · have : j = hs_n σ := by omega
      subst this
      rw [if_pos (c0.mpr c)]
      rfl
    · rw [if_neg (mt c0.mp c), e_gO X.1, Option.bind_some, E_holds X h1 h3 hh (by omega), Option.bind_some]
      have ih := ih (j + 1) (i_nx h3 (by omega)) (by omega) (by omega)
      rw [bs_next h3 (by omega)] at ih
      by_cases k : s_ho σ h j = true
      · rw [if_pos k, if_neg (by decide)]
        rw [if_pos k] at ih
        exact ih
      · rw [if_neg k, if_pos rfl]
        rw [if_neg k] at ih
        exact ih
theorem E_holdsOf {M : gM} {σ : Nat → Int32} {l1 : Int32} {h : Nat} (X : e_V M σ) (h1 : l1.toInt = (h : Int)) (hh : h < 7) : F_X12_holdsOf (some 175) l1 M = some (s_hb σ h) := by
  delta F_X12_holdsOf F_X12_holdsOf_b0
  have := (s_Vn X.2.2).1.2
  exact E_holdsOf_L4 X h1 hh g_fuel 0 (l3 := 0) rfl (Nat.zero_le _) (n_fu (by omega))
theorem E_holdersOf_L4 {M : gM} {σ : Nat → Int32} {l1 : Int32} {t : Nat} (X : e_V M σ) (h1 : l1.toInt = (t : Int)) (ht : t < 7) : ∀ (n j : Nat) {l3 : Int32}, l3.toInt = (j : Int) → j ≤ hs_m σ → hs_m σ - j < n → F_X12_holdersOf_L4 M n (some 175) l1 (s_bs (fun h => s_ho σ h t) j) l3 = some (s_hs σ t) := by
  intro n
  induction n with
  | zero => intro j l3 h3 hj hn; omega
  | succ n ih =>
    intro j l3 h3 hj hn
    have nn := s_Vn X.2.2
    show F_X12_holdersOf_b4 (F_X12_holdersOf_L4 M n) M (some 175) l1 _ l3 = _
    delta F_X12_holdersOf_b4 F_X12_holdersOf_b31
    rw [e_sd X (k := 2) rfl (by decide)]
    have c0 := i_le_n h3 nn.2.1
    by_cases c : hs_m σ ≤ j
    · have : j = hs_m σ := by omega
      subst this
      rw [if_pos (c0.mpr c)]
      rfl
    · rw [if_neg (mt c0.mp c), e_gO X.1, Option.bind_some, E_holds X h3 h1 (by omega) ht, Option.bind_some]
      have ih := ih (j + 1) (i_nx h3 (by omega)) (by omega) (by omega)
      rw [bs_next h3 (by omega)] at ih
      by_cases k : s_ho σ j t = true
      · rw [if_pos k, if_neg (by decide)]
        rw [if_pos k] at ih
        exact ih
      · rw [if_neg k, if_pos rfl]
        rw [if_neg k] at ih
        exact ih
theorem E_holdersOf {M : gM} {σ : Nat → Int32} {l1 : Int32} {t : Nat} (X : e_V M σ) (h1 : l1.toInt = (t : Int)) (ht : t < 7) : F_X12_holdersOf (some 175) l1 M = some (s_hs σ t) := by
  delta F_X12_holdersOf F_X12_holdersOf_b0
  have := (s_Vn X.2.2).2.2
  exact E_holdersOf_L4 X h1 ht g_fuel 0 (l3 := 0) rfl (Nat.zero_le _) (n_fu (by omega))
theorem E_standing_L4 {M : gM} {σ : Nat → Int32} (X : e_V M σ) : ∀ (n j : Nat) {l2 : Int32}, l2.toInt = (j : Int) → j ≤ hs_n σ → hs_n σ - j < n → F_X12_standing_L4 M n (some 175) (s_bs (fun t => decide ((σ (13 + 4 * t)).toInt < 0)) j) l2 = some (s_sd σ) := by
  intro n
  induction n with
  | zero => intro j l2 h3 hj hn; omega
  | succ n ih =>
    intro j l2 h3 hj hn
    have nn := s_Vn X.2.2
    have z0 : (0 : Int32).toInt = 0 := rfl
    show F_X12_standing_b4 (F_X12_standing_L4 M n) M (some 175) _ l2 = _
    delta F_X12_standing_b4 F_X12_standing_b31
    rw [e_sd X (k := 1) rfl (by decide)]
    have c0 := i_le_n h3 nn.1.1
    by_cases c : hs_n σ ≤ j
    · have : j = hs_n σ := by omega
      subst this
      rw [if_pos (c0.mpr c)]
      rfl
    · rw [if_neg (mt c0.mp c), e_gO X.1, Option.bind_some, E_thingOf X h3 (w := 3) rfl (by omega) (by decide), Option.bind_some, show 10 + 4 * j + 3 = 13 + 4 * j by omega]
      have ih := ih (j + 1) (i_nx h3 (by omega)) (by omega) (by omega)
      rw [bs_next h3 (by omega)] at ih
      by_cases k : (σ (13 + 4 * j)).toInt < 0
      · rw [if_neg (fun z => by have := i_le z; omega)]
        rw [if_pos (decide_eq_true k)] at ih
        exact ih
      · rw [if_pos (Int32.le_iff_toInt_le.mpr (by omega))]
        rw [if_neg (by simp [k])] at ih
        exact ih
theorem E_standing {M : gM} {σ : Nat → Int32} (X : e_V M σ) : F_X12_standing (some 175) M = some (s_sd σ) := by
  delta F_X12_standing F_X12_standing_b0
  have := (s_Vn X.2.2).1.2
  exact E_standing_L4 X g_fuel 0 (l2 := 0) rfl (Nat.zero_le _) (n_fu (by omega))
