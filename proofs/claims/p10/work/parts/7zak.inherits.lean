/-! INHERITS: who HOLDS most; none HOLDS once none HELD -/
theorem f1_va {σ : Nat → Int32} {L : Nat → Nat → Int32} {h t h' t' : Nat} (ht : t < 7) (ht' : t' < 7) : s_va (s_f1 σ L h' t') h t = s_va σ h t ∨ s_va (s_f1 σ L h' t') h t = -1 := by
  unfold s_f1
  split
  · by_cases c : h = h' ∧ t = t'
    · obtain ⟨rfl, rfl⟩ := c
      rw [kw_v.1]
      split
      · exact Or.inr rfl
      · exact Or.inl rfl
    · exact Or.inl (kw_ne ht' ht (by omega)).1
  · exact Or.inl rfl
theorem fh_va {σ : Nat → Int32} {L : Nat → Nat → Int32} {h t h' : Nat} (ht : t < 7) : ∀ k, k ≤ 7 → s_va (s_fh σ L h' k) h t = s_va σ h t ∨ s_va (s_fh σ L h' k) h t = -1 := by
  intro k
  induction k with
  | zero => intro _; exact Or.inl rfl
  | succ k ih =>
    intro hk
    rcases f1_va (σ := s_fh σ L h' k) (L := L) (h := h) (h' := h') (t' := k) ht (by omega) with z | z
    · rcases ih (by omega) with y | y
      · exact Or.inl (z.trans y)
      · exact Or.inr (z.trans y)
    · exact Or.inr z
theorem fo_va {σ : Nat → Int32} {L : Nat → Nat → Int32} {h t : Nat} (ht : t < 7) (hn : hs_n σ ≤ 7) : ∀ k, s_va (s_fo σ L k) h t = s_va σ h t ∨ s_va (s_fo σ L k) h t = -1 := by
  intro k
  induction k with
  | zero => exact Or.inl rfl
  | succ k ih =>
    rcases fh_va (σ := s_fo σ L k) (L := L) (h := h) (h' := k) ht _ hn with z | z
    · rcases ih with y | y
      · exact Or.inl (z.trans y)
      · exact Or.inr (z.trans y)
    · exact Or.inr z
theorem yr_va {r : s_Ru} {σ : Nat → Int32} {h t : Nat} (V : s_V σ) (ht : t < 7) : s_va (s_yr r σ).2 h t = s_va σ h t ∨ s_va (s_yr r σ).2 h t = -1 := by
  have nn := s_Vn V
  have e : s_va (s_yr r σ).2 h t = s_va (s_fo σ (s_Ls r σ) (hs_m σ)) h t := by
    show hs_set (s_ks (s_ag (s_fo σ (s_Ls r σ) (hs_m σ)) (hs_m σ)) (hs_n σ)).2 4 _ (59 + 14 * h + 2 * t) = s_fo σ (s_Ls r σ) (hs_m σ) (59 + 14 * h + 2 * t)
    rw [hs_sn (by omega), ks_o (fun k hk => by omega) _ (by omega), ag_o (fun k hk => by omega) _ (by omega)]
  rw [e]
  exact fo_va ht nn.1.2 _
/-- what is HELD after a YEAR was HELD before it -/
theorem yr_ho {r : s_Ru} {σ : Nat → Int32} {h t : Nat} (V : s_V σ) (hy : 0 ≤ (σ 4).toInt) (ht : t < 7) (c : s_ho (s_yr r σ).2 h t = true) : s_ho σ h t = true := by
  have nm := yr_nm (r := r) V
  unfold s_ho at c ⊢
  simp only [Bool.and_eq_true, Bool.or_eq_true, decide_eq_true_eq, beq_iff_eq] at c ⊢
  obtain ⟨c1, c2, c3⟩ := c
  have k1 : 0 ≤ (s_va (s_yr r σ).2 h t).toInt := of_decide_eq_true c2
  have e : s_va (s_yr r σ).2 h t = s_va σ h t := by
    rcases yr_va (r := r) (h := h) V ht with z | z
    · exact z
    · rw [z] at k1
      exact absurd k1 (by decide)
  refine ⟨?_, (kn_of e).symm.trans c2, ?_⟩
  · rcases yr_st (r := r) V ht with z | z
    · rwa [z] at c1
    · rw [z.1] at c1
      omega
  · rcases c3 with z | z
    · left
      rw [e, yr_38 V (by omega) (by omega) (fun k _ => by omega)] at z
      exact z
    · right
      obtain ⟨o, o1, o2, o3⟩ := same_iff.mp z
      refine same_iff.mpr ⟨o, by rw [← nm.2]; exact o1, o2, ?_⟩
      rw [e] at o3
      rcases yr_va (r := r) (h := o) V ht with y | y
      · rw [← y]; exact o3
      · rw [y] at o3
        rw [e, ← o3] at k1
        exact absurd k1 (by decide)
/-- how many are HELD by an HEIR; who HOLDS most -/
def s_cN (σ : Nat → Int32) (h : Nat) : Nat := c_n (fun t => s_ho σ h t) (hs_n σ)
def s_mb (σ : Nat → Int32) : Nat → Option Nat
  | 0 => none
  | k + 1 => match s_mb σ k with
    | none => if s_cN σ k = 0 then none else some k
    | some b => if s_cN σ b < s_cN σ k then some k else some b
def s_an (σ : Nat → Int32) : Bool := (s_mb σ (hs_m σ)).isSome
def s_wo (σ : Nat → Int32) : Int32 := match s_mb σ (hs_m σ) with
  | none => -1
  | some b => Int32.ofNat b
theorem c_n0 {f : Nat → Bool} : ∀ k, c_n f k = 0 ↔ ∀ i, i < k → f i = false := by
  intro k
  induction k with
  | zero => exact ⟨fun _ i hi => absurd hi (Nat.not_lt_zero _), fun _ => rfl⟩
  | succ k ih =>
    constructor
    · intro h i hi
      have h : c_n f k + (if f k = true then 1 else 0) = 0 := h
      by_cases c : f k = true
      · rw [if_pos c] at h
        omega
      · rw [if_neg c] at h
        by_cases e : i = k
        · subst e
          exact b_ff c
        · exact ih.mp (by omega) i (by omega)
    · intro h
      show c_n f k + (if f k = true then 1 else 0) = 0
      rw [ih.mpr (fun i hi => h i (by omega)), h k (by omega)]
      rfl
theorem mb_lt {σ : Nat → Int32} : ∀ k b, s_mb σ k = some b → b < k ∧ 0 < s_cN σ b := by
  intro k
  induction k with
  | zero => intro b h; cases h
  | succ k ih =>
    intro b h
    unfold s_mb at h
    cases e : s_mb σ k with
    | none =>
      rw [e] at h
      dsimp only at h
      by_cases c : s_cN σ k = 0
      · rw [if_pos c] at h; cases h
      · rw [if_neg c] at h
        obtain rfl := Option.some.inj h
        omega
    | some a =>
      rw [e] at h
      dsimp only at h
      have := ih a e
      by_cases c : s_cN σ a < s_cN σ k
      · rw [if_pos c] at h
        obtain rfl := Option.some.inj h
        omega
      · rw [if_neg c] at h
        obtain rfl := Option.some.inj h
        omega
theorem mb_none {σ : Nat → Int32} : ∀ k, s_mb σ k = none ↔ ∀ h, h < k → s_cN σ h = 0 := by
  intro k
  induction k with
  | zero => exact ⟨fun _ i hi => absurd hi (Nat.not_lt_zero _), fun _ => rfl⟩
  | succ k ih =>
    constructor
    · intro h i hi
      unfold s_mb at h
      cases e : s_mb σ k with
      | none =>
        rw [e] at h
        dsimp only at h
        by_cases c : s_cN σ k = 0
        · by_cases e2 : i = k
          · rw [e2]; exact c
          · exact ih.mp e i (by omega)
        · rw [if_neg c] at h; cases h
      | some a =>
        rw [e] at h
        dsimp only at h
        split at h <;> cases h
    · intro h
      unfold s_mb
      rw [ih.mpr (fun i hi => h i (by omega))]
      dsimp only
      rw [if_pos (h k (by omega))]
theorem an_iff {σ : Nat → Int32} : s_an σ = false ↔ ∀ h t, h < hs_m σ → t < hs_n σ → s_ho σ h t = false := by
  unfold s_an
  constructor
  · intro h a t ha ht
    have : s_mb σ (hs_m σ) = none := by
      cases e : s_mb σ (hs_m σ) with
      | none => rfl
      | some b => rw [e] at h; cases h
    exact (c_n0 _).mp ((mb_none _).mp this a ha) t ht
  · intro h
    rw [(mb_none _).mpr (fun a ha => (c_n0 _).mpr (fun t ht => h a t ha ht))]
    rfl
theorem yr_an {r : s_Ru} {σ : Nat → Int32} (V : s_V σ) (hy : 0 ≤ (σ 4).toInt) (c : s_an σ = false) : s_an (s_yr r σ).2 = false := by
  have nm := yr_nm (r := r) V
  have nn := s_Vn V
  rw [an_iff] at c ⊢
  intro h t hh ht
  cases e : s_ho (s_yr r σ).2 h t with
  | false => rfl
  | true =>
    have := yr_ho V hy (by omega) e
    rw [c h t (by omega) (by omega)] at this
    cases this
theorem C_isAnyHeld {M : gM} {s e : Nat} {σ : Nat → Int32} (X : k_X M s e σ) : F_X8_isAnyHeld (some s) (some e) M = some (if s_an σ = true then 1 else 0) := by
  have nn := s_Vn X.2.2
  obtain ⟨⟨ke, ⟨e6, e7⟩, _⟩, ⟨⟨ks, _⟩, _⟩, _⟩ := k_XE X
  have h0 : ∀ t, s_hs σ t = 0 ↔ ∀ h, h < hs_m σ → s_ho σ h t = false := fun t => by
    unfold s_hs
    rw [bs_zero (by omega)]
  have main : ∀ (n j : Nat) {l2 : Int32}, (∀ t, t < j → s_hs σ t = 0) → l2.toInt = (j : Int) → j ≤ hs_n σ → hs_n σ - j < n → F_X8_isAnyHeld_L2 M n (some s) (some e) l2 = some (if s_an σ = true then 1 else 0) := by
    intro n
    induction n with
    | zero => intro j l2 _ h3 hj hn; omega
    | succ n ih =>
      intro j l2 hz h3 hj hn
      show F_X8_isAnyHeld_b2 (F_X8_isAnyHeld_L2 M n) M (some s) (some e) l2 = _
      delta F_X8_isAnyHeld_b2
      rw [t_gI ke, Option.bind_some, e6]
      have c0 := i_le_n h3 nn.1.1
      by_cases c : hs_n σ ≤ j
      · have : j = hs_n σ := by omega
        subst this
        rw [if_pos (c0.mpr c), an_iff.mpr (fun h t hh ht => (h0 t).mp (hz t ht) h hh), if_neg (by decide)]
      · rw [if_neg (mt c0.mp c), t_gO ks, Option.bind_some, C_holdersOf X h3 (by omega), Option.bind_some]
        by_cases d : s_hs σ j = 0
        · rw [if_pos d]
          refine ih (j + 1) (fun t ht => ?_) (i_nx h3 (by omega)) (by omega) (by omega)
          by_cases e : t = j
          · rw [e]; exact d
          · exact hz t (by omega)
        · rw [if_neg d]
          cases e : s_an σ with
          | true => rw [if_pos rfl]
          | false => exact absurd ((h0 j).mpr (fun h hh => an_iff.mp e h j hh (by omega))) d
  delta F_X8_isAnyHeld F_X8_isAnyHeld_b0
  exact main g_fuel 0 (l2 := 0) (fun t ht => absurd ht (Nat.not_lt_zero _)) rfl (Nat.zero_le _) (n_fu (by omega))
theorem C_holdsMost {M : gM} {s e : Nat} {σ : Nat → Int32} (X : k_X M s e σ) : F_X8_holdsMost (some s) (some e) M = some (s_wo σ) := by
  have nn := s_Vn X.2.2
  obtain ⟨⟨ke, ⟨e6, e7⟩, _⟩, ⟨⟨ks, _⟩, _⟩, _⟩ := k_XE X
  have cl : ∀ h, s_cN σ h ≤ 7 := fun h => Nat.le_trans (c_n_le _) nn.1.2
  have main : ∀ (n j : Nat) {l2 l3 l4 : Int32}, l2 = (match s_mb σ j with | none => -1 | some b => Int32.ofNat b) → l3 = Int32.ofNat (match s_mb σ j with | none => 0 | some b => s_cN σ b) → l4.toInt = (j : Int) → j ≤ hs_m σ → hs_m σ - j < n → F_X8_holdsMost_L7 M n (some s) (some e) l2 l3 l4 = some (s_wo σ) := by
    intro n
    induction n with
    | zero => intro j l2 l3 l4 _ _ _ hj hn; omega
    | succ n ih =>
      intro j l2 l3 l4 h2 h3 h4 hj hn
      show F_X8_holdsMost_b7 (F_X8_holdsMost_L7 M n) M (some s) (some e) l2 l3 l4 = _
      delta F_X8_holdsMost_b7 F_X8_holdsMost_b40
      rw [t_gI ke, Option.bind_some, e7]
      have c0 := i_le_n h4 nn.2.1
      by_cases c : hs_m σ ≤ j
      · have : j = hs_m σ := by omega
        subst this
        rw [if_pos (c0.mpr c), h2]
        rfl
      · have e1 : F_J6_bitCount_0f7a4 (s_hb σ j) M = some (Int32.ofNat (s_cN σ j)) := by
          unfold s_hb
          rw [C_bitCount nn.1.2, c_n_cn _ (by omega)]
          rfl
        rw [if_neg (mt c0.mp c), t_gO ks, Option.bind_some, C_heldBy X h4 (by omega), Option.bind_some, e1, Option.bind_some]
        have o1 : (Int32.ofNat (s_cN σ j)).toInt = _ := i_ofNat (by have := cl j; omega)
        cases em : s_mb σ j with
        | none =>
          rw [em] at h2 h3
          dsimp only at h2 h3
          have o2 : l3.toInt = 0 := by rw [h3]; rfl
          by_cases d : Int32.ofNat (s_cN σ j) ≤ l3
          · have := i_le d
            rw [if_pos d]
            have e2 : s_mb σ (j + 1) = none := by
              show (match s_mb σ j with | none => if s_cN σ j = 0 then none else some j | some b => if s_cN σ b < s_cN σ j then some j else some b) = _
              rw [em]
              exact if_pos (by omega)
            exact ih (j + 1) (by rw [e2]; exact h2) (by rw [e2]; exact h3) (i_nx h4 (by omega)) (by omega) (by omega)
          · have := i_nle d
            rw [if_neg d]
            have e2 : s_mb σ (j + 1) = some j := by
              show (match s_mb σ j with | none => if s_cN σ j = 0 then none else some j | some b => if s_cN σ b < s_cN σ j then some j else some b) = _
              rw [em]
              exact if_neg (by omega)
            exact ih (j + 1) (by rw [e2]; exact i_of h4 (by omega)) (by rw [e2]) (i_nx h4 (by omega)) (by omega) (by omega)
        | some b =>
          rw [em] at h2 h3
          dsimp only at h2 h3
          have o2 : l3.toInt = (s_cN σ b : Int) := by rw [h3]; exact i_ofNat (by have := cl b; omega)
          by_cases d : Int32.ofNat (s_cN σ j) ≤ l3
          · have := i_le d
            rw [if_pos d]
            have e2 : s_mb σ (j + 1) = some b := by
              show (match s_mb σ j with | none => if s_cN σ j = 0 then none else some j | some b => if s_cN σ b < s_cN σ j then some j else some b) = _
              rw [em]
              exact if_neg (by omega)
            exact ih (j + 1) (by rw [e2]; exact h2) (by rw [e2]; exact h3) (i_nx h4 (by omega)) (by omega) (by omega)
          · have := i_nle d
            rw [if_neg d]
            have e2 : s_mb σ (j + 1) = some j := by
              show (match s_mb σ j with | none => if s_cN σ j = 0 then none else some j | some b => if s_cN σ b < s_cN σ j then some j else some b) = _
              rw [em]
              exact if_pos (by omega)
            exact ih (j + 1) (by rw [e2]; exact i_of h4 (by omega)) (by rw [e2]) (i_nx h4 (by omega)) (by omega) (by omega)
  delta F_X8_holdsMost F_X8_holdsMost_b0
  exact main g_fuel 0 (l2 := -1) (l3 := 0) (l4 := 0) rfl rfl rfl (Nat.zero_le _) (n_fu (by omega))
theorem E_most {M : gM} {σ : Nat → Int32} (X : e_V M σ) : F_X12_most (some 175) M = some (s_wo σ) := by
  have nn := s_Vn X.2.2
  have z0 : (0 : Int32).toInt = 0 := rfl
  have cl : ∀ h, s_cN σ h ≤ 7 := fun h => Nat.le_trans (c_n_le _) nn.1.2
  have hz : ∀ h, s_hb σ h = 0 ↔ s_cN σ h = 0 := fun h => by
    unfold s_hb s_cN
    rw [bs_zero (by omega), c_n0]
  have e1 : ∀ h, F_X12_bits (s_hb σ h) M = some (Int32.ofNat (s_cN σ h)) := fun h => by
    unfold s_hb
    rw [E_bits nn.1.2, c_n_cn _ (by omega)]
    rfl
  have main : ∀ (n j : Nat) {l1 l2 : Int32}, l1 = (match s_mb σ j with | none => -1 | some b => Int32.ofNat b) → l2.toInt = (j : Int) → j ≤ hs_m σ → hs_m σ - j < n → F_X12_most_L4 M n (some 175) l1 l2 = some (s_wo σ) := by
    intro n
    induction n with
    | zero => intro j l1 l2 _ _ hj hn; omega
    | succ n ih =>
      intro j l1 l2 h2 h4 hj hn
      show F_X12_most_b4 (F_X12_most_L4 M n) M (some 175) l1 l2 = _
      delta F_X12_most_b4 F_X12_most_b45 F_X12_most_b47
      rw [e_sd X (k := 2) rfl (by decide)]
      have c0 := i_le_n h4 nn.2.1
      by_cases c : hs_m σ ≤ j
      · have : j = hs_m σ := by omega
        subst this
        rw [if_pos (c0.mpr c), h2]
        rfl
      · have o1 : (Int32.ofNat (s_cN σ j)).toInt = _ := i_ofNat (by have := cl j; omega)
        have un : s_mb σ (j + 1) = (match s_mb σ j with | none => if s_cN σ j = 0 then none else some j | some b => if s_cN σ b < s_cN σ j then some j else some b) := rfl
        rw [if_neg (mt c0.mp c), e_gO X.1, Option.bind_some, E_holdsOf X h4 (by omega), Option.bind_some]
        cases em : s_mb σ j with
        | none =>
          rw [em] at h2 un
          dsimp only at h2 un
          by_cases d : s_cN σ j = 0
          · rw [if_pos ((hz j).mpr d)]
            rw [if_pos d] at un
            exact ih (j + 1) (by rw [un]; exact h2) (i_nx h4 (by omega)) (by omega) (by omega)
          · rw [if_neg (mt (hz j).mp d), if_pos (by rw [h2]; decide)]
            rw [if_neg d] at un
            exact ih (j + 1) (by rw [un]; exact i_of h4 (by omega)) (i_nx h4 (by omega)) (by omega) (by omega)
        | some b =>
          rw [em] at h2 un
          dsimp only at h2 un
          have lb := mb_lt _ _ em
          have hb : l1.toInt = (b : Int) := by rw [h2]; exact i_ofNat (by omega)
          have o2 : (Int32.ofNat (s_cN σ b)).toInt = _ := i_ofNat (by have := cl b; omega)
          by_cases d : s_cN σ j = 0
          · rw [if_pos ((hz j).mpr d)]
            rw [if_neg (by omega)] at un
            exact ih (j + 1) (by rw [un]; exact h2) (i_nx h4 (by omega)) (by omega) (by omega)
          · rw [if_neg (mt (hz j).mp d), if_neg (fun z => by have := i_lt z; omega), Option.bind_some, e1, Option.bind_some, E_holdsOf X hb (by omega), Option.bind_some, e1, Option.bind_some]
            by_cases q : Int32.ofNat (s_cN σ j) ≤ Int32.ofNat (s_cN σ b)
            · have := i_le q
              rw [if_pos q]
              rw [if_neg (by omega)] at un
              exact ih (j + 1) (by rw [un]; exact h2) (i_nx h4 (by omega)) (by omega) (by omega)
            · have := i_nle q
              rw [if_neg q]
              rw [if_pos (by omega)] at un
              exact ih (j + 1) (by rw [un]; exact i_of h4 (by omega)) (i_nx h4 (by omega)) (by omega) (by omega)
  delta F_X12_most F_X12_most_b0
  exact main g_fuel 0 (l1 := -1) (l2 := 0) rfl rfl (Nat.zero_le _) (n_fu (by omega))
