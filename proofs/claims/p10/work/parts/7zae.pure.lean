/-! what stands: heir, thing, knows, count of both -/
theorem E_in {l : Int32} {lo hi : Int64} {a b : Int} {M : gM} (h1 : lo.toInt = a) (h2 : hi.toInt = b) : F_X12_in (l).toInt64 lo hi M = some (if a ≤ l.toInt ∧ l.toInt ≤ b then 1 else 0) := by
  have e : (l).toInt64.toInt = l.toInt := Int32.toInt_toInt64 l
  delta F_X12_in F_X12_in_b0 F_X12_in_b17
  rcases lg_r (l).toInt64 lo with ⟨p, q⟩ | ⟨p, q⟩ | ⟨p, q⟩ <;> rcases lg_r (l).toInt64 hi with ⟨r, s⟩ | ⟨r, s⟩ | ⟨r, s⟩ <;> rw [p, r] <;> (by_cases c : a ≤ l.toInt ∧ l.toInt ≤ b) <;> first | (rw [if_neg c]; first | (exfalso; omega) | rfl) | (rw [if_pos c]; first | (exfalso; omega) | rfl)
/-- how many -/
def c_n (f : Nat → Bool) : Nat → Nat
  | 0 => 0
  | k + 1 => c_n f k + (if f k = true then 1 else 0)
theorem c_n_le {f : Nat → Bool} : ∀ k, c_n f k ≤ k := by
  intro k
  induction k with
  | zero => exact Nat.le_refl _
  | succ k ih =>
    show c_n f k + (if f k = true then 1 else 0) ≤ k + 1
    split <;> omega
theorem c_n_cn {f : Nat → Bool} : ∀ k, k ≤ 10 → s_cn f k = Int32.ofNat (c_n f k) := by
  intro k
  induction k with
  | zero => intro _; rfl
  | succ k ih =>
    intro hk
    have h := ih (by omega)
    have l := c_n_le (f := f) k
    rw [cn_succ]
    show _ = Int32.ofNat (c_n f k + (if f k = true then 1 else 0))
    by_cases c : f k = true
    · rw [if_pos c, if_pos c, h]
      exact i_n1 _ (by omega)
    · rw [if_neg c, if_neg c, h]
      rfl
def c_s (g : Nat → Nat) : Nat → Nat
  | 0 => 0
  | k + 1 => c_s g k + g k
theorem c_s_le {g : Nat → Nat} {b : Nat} (h : ∀ k, g k ≤ b) : ∀ k, c_s g k ≤ b * k := by
  intro k
  induction k with
  | zero => exact Nat.le_refl _
  | succ k ih =>
    show c_s g k + g k ≤ b * (k + 1)
    have := h k
    have e : b * (k + 1) = b * k + b := Nat.mul_succ b k
    omega
theorem c_s_congr {g g' : Nat → Nat} : ∀ k, (∀ i, i < k → g i = g' i) → c_s g k = c_s g' k := by
  intro k
  induction k with
  | zero => intro _; rfl
  | succ k ih =>
    intro h
    show c_s g k + g k = c_s g' k + g' k
    rw [ih (fun i hi => h i (by omega)), h k (by omega)]
theorem c_s_add {g g' : Nat → Nat} : ∀ k, c_s (fun i => g i + g' i) k = c_s g k + c_s g' k := by
  intro k
  induction k with
  | zero => rfl
  | succ k ih =>
    show c_s (fun i => g i + g' i) k + (g k + g' k) = c_s g k + g k + (c_s g' k + g' k)
    rw [ih]
    omega
theorem c_s_0 : ∀ k, c_s (fun _ => 0) k = 0 := by
  intro k
  induction k with
  | zero => rfl
  | succ k ih =>
    show c_s (fun _ => 0) k + 0 = 0
    rw [ih]
/-- counted by rows or by columns -/
theorem c_sw {p : Nat → Nat → Bool} {n : Nat} : ∀ m, c_s (fun h => c_n (fun t => p h t) n) m = c_s (fun t => c_n (fun h => p h t) m) n := by
  intro m
  induction m with
  | zero =>
    show 0 = c_s (fun t => 0) n
    rw [c_s_0]
  | succ m ih =>
    show c_s (fun h => c_n (fun t => p h t) n) m + c_n (fun t => p m t) n = c_s (fun t => c_n (fun h => p h t) m + (if p m t = true then 1 else 0)) n
    rw [c_s_add, ih]
    have : ∀ k, c_n (fun t => p m t) k = c_s (fun t => if p m t = true then 1 else 0) k := by
      intro k
      induction k with
      | zero => rfl
      | succ k ih2 =>
        show c_n (fun t => p m t) k + (if p m k = true then 1 else 0) = c_s (fun t => if p m t = true then 1 else 0) k + (if p m k = true then 1 else 0)
        rw [ih2]
    rw [this n]
/-- what all HEIRS HOLD, together -/
def s_al (σ : Nat → Int32) : Nat := c_s (fun h => c_n (fun t => s_ho σ h t) (hs_n σ)) (hs_m σ)
theorem s_al_le {σ : Nat → Int32} (V : s_V σ) : s_al σ ≤ 49 := by
  have nn := s_Vn V
  have h1 := c_s_le (g := fun h => c_n (fun t => s_ho σ h t) (hs_n σ)) (b := 7) (fun k => Nat.le_trans (c_n_le _) nn.1.2) (hs_m σ)
  unfold s_al
  omega
theorem C_heldTogether {M : gM} {s e : Nat} {σ : Nat → Int32} (X : k_X M s e σ) : F_X8_heldTogether (some s) (some e) M = some (Int32.ofNat (s_al σ)) := by
  have nn := s_Vn X.2.2
  obtain ⟨⟨ke, ⟨e6, e7⟩, _⟩, ⟨⟨ks, _⟩, _⟩, _⟩ := k_XE X
  have main : ∀ (n j : Nat) {l3 : Int32}, l3.toInt = (j : Int) → j ≤ hs_n σ → hs_n σ - j < n → F_X8_heldTogether_L4 M n (some s) (some e) (Int32.ofNat (c_s (fun t => c_n (fun h => s_ho σ h t) (hs_m σ)) j)) l3 = some (Int32.ofNat (c_s (fun t => c_n (fun h => s_ho σ h t) (hs_m σ)) (hs_n σ))) := by
    intro n
    induction n with
    | zero => intro j l3 h3 hj hn; omega
    | succ n ih =>
      intro j l3 h3 hj hn
      show F_X8_heldTogether_b4 (F_X8_heldTogether_L4 M n) M (some s) (some e) _ l3 = _
      delta F_X8_heldTogether_b4
      rw [t_gI ke, Option.bind_some, e6]
      have c0 := i_le_n h3 nn.1.1
      by_cases c : hs_n σ ≤ j
      · have : j = hs_n σ := by omega
        subst this
        rw [if_pos (c0.mpr c)]
      · have b0 := c_s_le (g := fun t => c_n (fun h => s_ho σ h t) (hs_m σ)) (b := 7) (fun k => Nat.le_trans (c_n_le _) nn.2.2) j
        have b1 := c_n_le (f := fun h => s_ho σ h j) (hs_m σ)
        rw [if_neg (mt c0.mp c), t_gO ks, Option.bind_some, C_holdersOf X h3 (by omega), Option.bind_some]
        unfold s_hs
        rw [C_bitCount (by omega), Option.bind_some, c_n_cn _ (by omega)]
        have o1 : (Int32.ofNat (c_s (fun t => c_n (fun h => s_ho σ h t) (hs_m σ)) j)).toInt = _ := i_ofNat (by omega)
        have o2 : (Int32.ofNat (c_n (fun h => s_ho σ h j) (hs_m σ))).toInt = _ := i_ofNat (by omega)
        have e : Int32.ofNat (c_s (fun t => c_n (fun h => s_ho σ h t) (hs_m σ)) j) + Int32.ofNat (c_n (fun h => s_ho σ h j) (hs_m σ)) = Int32.ofNat (c_s (fun t => c_n (fun h => s_ho σ h t) (hs_m σ)) (j + 1)) := by
          refine Int32.toInt_inj.mp ?_
          show _ = (Int32.ofNat (c_s (fun t => c_n (fun h => s_ho σ h t) (hs_m σ)) j + c_n (fun h => s_ho σ h j) (hs_m σ))).toInt
          rw [i_add (by omega) (by omega), i_ofNat (n := c_s (fun t => c_n (fun h => s_ho σ h t) (hs_m σ)) j + c_n (fun h => s_ho σ h j) (hs_m σ)) (by omega)]
          omega
        rw [e]
        exact ih (j + 1) (i_nx h3 (by omega)) (by omega) (by omega)
  delta F_X8_heldTogether F_X8_heldTogether_b0
  unfold s_al
  rw [c_sw]
  exact main g_fuel 0 (l3 := 0) rfl (Nat.zero_le _) (n_fu (by omega))
def s_bt : Nat → Int32 → Int32 → Option Int32
  | 0, _, _ => none
  | k + 1, a, b => if b = 0 then some a else s_bt k (a + 1) (b &&& (b - (1 : Int32)))
theorem bt_bits {M : gM} : ∀ (k : Nat) {a b c : Int32}, s_bt k a b = some c → ∀ n, F_X12_bits_L4 M (n + k) a b = some c := by
  intro k
  induction k with
  | zero => intro a b c h; cases h
  | succ k ih =>
    intro a b c h n
    show F_X12_bits_b4 (F_X12_bits_L4 M (n + k)) M a b = some c
    delta F_X12_bits_b4
    unfold s_bt at h
    by_cases d : b = 0
    · rw [if_pos d] at h
      rw [if_pos d]
      exact h
    · rw [if_neg d] at h
      rw [if_neg d]
      exact ih h n
theorem bt_7 : ∀ b0 b1 b2 b3 b4 b5 b6 : Bool, s_bt 8 0 (s_bs (s_l7 b0 b1 b2 b3 b4 b5 b6) 7) = some (s_cn (s_l7 b0 b1 b2 b3 b4 b5 b6) 7) := by decide +kernel
theorem E_bits {f : Nat → Bool} {k : Nat} {M : gM} (h : k ≤ 7) : F_X12_bits (s_bs f k) M = some (s_cn f k) := by
  have e1 : s_bs f k = s_bs (s_l7 (decide (0 < k) && f 0) (decide (1 < k) && f 1) (decide (2 < k) && f 2) (decide (3 < k) && f 3) (decide (4 < k) && f 4) (decide (5 < k) && f 5) (decide (6 < k) && f 6)) 7 := (bs_7 h).trans (bs_congr (fun i hi => l7_of (f := fun i => decide (i < k) && f i) hi))
  have e2 : s_cn (s_l7 (decide (0 < k) && f 0) (decide (1 < k) && f 1) (decide (2 < k) && f 2) (decide (3 < k) && f 3) (decide (4 < k) && f 4) (decide (5 < k) && f 5) (decide (6 < k) && f 6)) 7 = s_cn f k := (cn_congr (fun i hi => (l7_of (f := fun i => decide (i < k) && f i) hi).symm)).trans (cn_7 7 k h)
  delta F_X12_bits F_X12_bits_b0
  rw [e1, ← e2]
  have hf : g_fuel = (g_fuel - 8) + 8 := by unfold g_fuel; rfl
  rw [hf]
  exact bt_bits 8 (bt_7 _ _ _ _ _ _ _) _
theorem E_allHolds {M : gM} {σ : Nat → Int32} (X : e_V M σ) : F_X12_allHolds (some 175) M = some (Int32.ofNat (s_al σ)) := by
  have nn := s_Vn X.2.2
  have main : ∀ (n j : Nat) {l2 : Int32}, l2.toInt = (j : Int) → j ≤ hs_m σ → hs_m σ - j < n → F_X12_allHolds_L4 M n (some 175) (Int32.ofNat (c_s (fun h => c_n (fun t => s_ho σ h t) (hs_n σ)) j)) l2 = some (Int32.ofNat (s_al σ)) := by
    intro n
    induction n with
    | zero => intro j l2 h2 hj hn; omega
    | succ n ih =>
      intro j l2 h2 hj hn
      show F_X12_allHolds_b4 (F_X12_allHolds_L4 M n) M (some 175) _ l2 = _
      delta F_X12_allHolds_b4
      rw [e_sd X (k := 2) rfl (by decide)]
      have c0 := i_le_n h2 nn.2.1
      by_cases c : hs_m σ ≤ j
      · have : j = hs_m σ := by omega
        subst this
        rw [if_pos (c0.mpr c)]
        rfl
      · have b0 := c_s_le (g := fun h => c_n (fun t => s_ho σ h t) (hs_n σ)) (b := 7) (fun k => Nat.le_trans (c_n_le _) nn.1.2) j
        have b1 := c_n_le (f := fun t => s_ho σ j t) (hs_n σ)
        rw [if_neg (mt c0.mp c), e_gO X.1, Option.bind_some, E_holdsOf X h2 (by omega), Option.bind_some]
        unfold s_hb
        rw [E_bits (by omega), Option.bind_some, c_n_cn _ (by omega)]
        have o1 : (Int32.ofNat (c_s (fun h => c_n (fun t => s_ho σ h t) (hs_n σ)) j)).toInt = _ := i_ofNat (by omega)
        have o2 : (Int32.ofNat (c_n (fun t => s_ho σ j t) (hs_n σ))).toInt = _ := i_ofNat (by omega)
        have e : Int32.ofNat (c_s (fun h => c_n (fun t => s_ho σ h t) (hs_n σ)) j) + Int32.ofNat (c_n (fun t => s_ho σ j t) (hs_n σ)) = Int32.ofNat (c_s (fun h => c_n (fun t => s_ho σ h t) (hs_n σ)) (j + 1)) := by
          refine Int32.toInt_inj.mp ?_
          show _ = (Int32.ofNat (c_s (fun h => c_n (fun t => s_ho σ h t) (hs_n σ)) j + c_n (fun t => s_ho σ j t) (hs_n σ))).toInt
          rw [i_add (by omega) (by omega), i_ofNat (n := c_s (fun h => c_n (fun t => s_ho σ h t) (hs_n σ)) j + c_n (fun t => s_ho σ j t) (hs_n σ)) (by omega)]
          omega
        rw [e]
        exact ih (j + 1) (i_nx h2 (by omega)) (by omega) (by omega)
  delta F_X12_allHolds F_X12_allHolds_b0
  exact main g_fuel 0 (l2 := 0) rfl (Nat.zero_le _) (n_fu (by omega))
theorem E_knownBy {M : gM} {σ : Nat → Int32} {l1 : Int32} {h : Nat} (X : e_V M σ) (h1 : l1.toInt = (h : Int)) (hh : h < 7) : F_X12_heir_L89 M g_fuel (some 175) l1 (0 : Int32) (0 : Int32) = some (s_bs (fun t => s_kn σ h t) (hs_n σ)) := by
  have nn := s_Vn X.2.2
  have main : ∀ (n j : Nat) {l4 : Int32}, l4.toInt = (j : Int) → j ≤ hs_n σ → hs_n σ - j < n → F_X12_heir_L89 M n (some 175) l1 (s_bs (fun t => s_kn σ h t) j) l4 = some (s_bs (fun t => s_kn σ h t) (hs_n σ)) := by
    intro n
    induction n with
    | zero => intro j l4 h4 hj hn; omega
    | succ n ih =>
      intro j l4 h4 hj hn
      show F_X12_heir_b89 (F_X12_heir_L89 M n) M (some 175) l1 _ l4 = _
      delta F_X12_heir_b89 F_X12_heir_b119
      rw [e_sd X (k := 1) rfl (by decide)]
      have c0 := i_le_n h4 nn.1.1
      by_cases c : hs_n σ ≤ j
      · have : j = hs_n σ := by omega
        subst this
        rw [if_pos (c0.mpr c)]
      · rw [if_neg (mt c0.mp c), e_gO X.1, Option.bind_some, E_knowsOf X h1 h4 hh (by omega), Option.bind_some]
        have ih := ih (j + 1) (i_nx h4 (by omega)) (by omega) (by omega)
        rw [bs_next h4 (by omega)] at ih
        by_cases k : s_kn σ h j = true
        · rw [if_pos k, if_neg (by decide)]
          rw [if_pos k] at ih
          exact ih
        · rw [if_neg k, if_pos rfl]
          rw [if_neg k] at ih
          exact ih
  exact main g_fuel 0 (l4 := 0) rfl (Nat.zero_le _) (n_fu (by omega))
/-- questions that only look -/
theorem lw9_look {L : Nat} {M : gM} {o1 o2 : Option Int32} (R : lw9 L M) (c : ∀ (e : Nat) (σ : Nat → Int32), M.2.2.2 2 11 = some e → w_X M 9 e σ → e_V M σ → ∃ w, o1 = some w ∧ o2 = some w) : ∃ w, o1 = some w ∧ o2 = some w := by
  obtain ⟨R8, e, σ, nx, sz, P, I, rc, Rr, C, E⟩ := R
  exact c e σ C.1.1.1 C.1.1.2 ⟨R8.1.1.1.1.1.2, E.1.1.1, C.1.1.2.1.1.2.2⟩
theorem lw9_heir {L : Nat} {M : gM} {l1 l2 : Int32} (R : lw9 L M) : ∃ w, F_X11_heir (some 2) l1 l2 M = some w ∧ F_X12_heir (some 175) l1 l2 M = some w := by
  have G := R.1.2
  have k2 := G_k2 G
  refine lw9_look R (fun e σ r11 X Y => ?_)
  have V := Y.2.2
  obtain ⟨⟨ke, ⟨e6, e7⟩, e9, e10⟩, ⟨⟨ks, _⟩, k3, k4⟩, ⟨r0, r1⟩, r2, r3⟩ := k_XE X.1.1
  by_cases kH : s_iH σ l1 = true
  · obtain ⟨a, a1, a2, a3, _⟩ := s_iH_n V kH
    have nn := s_Vn V
    have R3 : g_k M (e + 4) = (20, 7) ∧ M.2.2.2 e 3 = some (e + 4) := k_XR (i := 3) X.1.1 (by decide)
    have R4 : g_k M (e + 5) = (20, 7) ∧ M.2.2.2 e 4 = some (e + 5) := k_XR (i := 4) X.1.1 (by decide)
    have E4 := X.1.1.2.1.1.2.2.2 a (by omega)
    have ag : M.2.1 (9 + 3) a = σ (38 + 2 * a) := (X.1.1.2.1.2.2.1 a (by omega)).1
    have i38 := i_mulL (c := (2 : Int32)) (x := l1) (n := 2) rfl (by omega) (by omega)
    have j38 := i_cadd (c := (38 : Int32)) (x := (2 : Int32) * l1) (n := 38) rfl (by omega) (by omega)
    have i52 := i_cadd (c := (52 : Int32)) (x := l1) (n := 52) rfl (by omega) (by omega)
    have c1 : ∀ {w : Int32}, (if l2 = (0 : Int32) then ((gR 11 M (some 2) 5).bind fun v3 => (gR 8 M v3 2).bind fun v4 => (aI 20 M v4 l1).bind fun v5 => some v5) else if l2 = (1 : Int32) then ((gR 11 M (some 2) 11).bind fun v6 => (gR 1 M v6 3).bind fun v7 => (aI 20 M v7 l1).bind fun v8 => some v8) else if l2 = (2 : Int32) then ((gR 11 M (some 2) 11).bind fun v9 => (gI 1 M v9 10).bind fun v10 => (F_X11_bit v10 l1 M).bind fun v11 => some v11) else if l2 = (3 : Int32) then ((gR 11 M (some 2) 11).bind fun v12 => (gR 1 M v12 4).bind fun v13 => (aI 20 M v13 l1).bind fun v14 => some v14) else if l2 = (4 : Int32) then ((gR 11 M (some 2) 5).bind fun v15 => (gR 11 M (some 2) 11).bind fun v16 => (gO 8 M v15).bind fun i17 => (F_X8_knownBy (some i17) v16 l1 M).bind fun v18 => some v18) else if l2 = (5 : Int32) then ((gR 11 M (some 2) 5).bind fun v19 => (gR 11 M (some 2) 11).bind fun v20 => (gO 8 M v19).bind fun i21 => (F_X8_heldBy (some i21) v20 l1 M).bind fun v22 => some v22) else (some (-1 : Int32))) = some w → F_X11_heir (some 2) l1 l2 M = some w := fun h => by
      delta F_X11_heir F_X11_heir_b0
      rw [t_gO k2, Option.bind_some, C_isHeirX k2 r11 X.1.1, Option.bind_some, if_pos kH, if_neg (by decide)]
      exact h
    have d1 : ∀ {w : Int32}, (if 0 ≤ l2.toInt ∧ l2.toInt ≤ 5 then (if (2 : Int32) ≤ l2 then (if l2 = (2 : Int32) then (some (hs_is (σ 6) l1)) else (if l2 = (3 : Int32) then (some (σ (52 + a))) else (if l2 = (5 : Int32) then (some (s_hb σ a)) else (some (s_bs (fun t => s_kn σ a t) (hs_n σ)))))) else ((gR 12 M (some 175) 20).bind fun v9 => (aI 20 M v9 (((38 : Int32) + ((2 : Int32) * l1)) + l2)).bind fun v10 => some v10)) else some (-1)) = some w → F_X12_heir (some 175) l1 l2 M = some w := fun h => by
      delta F_X12_heir F_X12_heir_b0 F_X12_heir_b20
      rw [e_gO Y.1, Option.bind_some, E_isHeirX Y, Option.bind_some, if_pos kH, if_neg (by decide), E_in (a := 0) (b := 5) rfl rfl, Option.bind_some]
      by_cases c : 0 ≤ l2.toInt ∧ l2.toInt ≤ 5
      · rw [if_pos c] at h
        rw [if_pos c, if_neg (by decide), e_sd Y (k := 6) rfl (by decide), e_sd Y (k := 52 + a) (by omega) (by omega), E_holdsOf Y a1 (by omega), Option.bind_some, E_knownBy Y a1 (by omega)]
        exact h
      · rw [if_neg c] at h
        rw [if_neg c, if_pos rfl]
        exact h
    by_cases b0 : l2 = 0
    · subst b0
      refine ⟨σ (38 + 2 * a), c1 ?_, d1 ?_⟩
      · rw [if_pos rfl, t_gR k2 (G_r5 G), Option.bind_some, t_gR ks r2, Option.bind_some, t_aI k3 (by omega) (by omega), Option.bind_some, a3, ag]
      · rw [if_pos (by decide), if_neg (by decide), e_sd Y (k := 38 + 2 * a) (by rw [Int32.add_zero]; omega) (by omega)]
    by_cases b1 : l2 = 1
    · subst b1
      have j39 := i_addc (x := (38 : Int32) + (2 : Int32) * l1) (c := (1 : Int32)) (n := 1) rfl (by omega) (by omega)
      refine ⟨σ (39 + 2 * a), c1 ?_, d1 ?_⟩
      · rw [if_neg (by decide), if_pos rfl, t_gR k2 r11, Option.bind_some, t_gR ke R3.2, Option.bind_some, t_aI R3.1 (by omega) (by omega), Option.bind_some, a3, E4.1]
      · rw [if_pos (by decide), if_neg (by decide), e_sd Y (k := 39 + 2 * a) (by omega) (by omega)]
    by_cases b2 : l2 = 2
    · subst b2
      refine ⟨hs_is (σ 6) l1, c1 ?_, d1 ?_⟩
      · rw [if_neg (by decide), if_neg (by decide), if_pos rfl, t_gR k2 r11, Option.bind_some, t_gI ke, Option.bind_some, e10]
        rfl
      · rfl
    by_cases b3 : l2 = 3
    · subst b3
      refine ⟨σ (52 + a), c1 ?_, d1 ?_⟩
      · rw [if_neg (by decide), if_neg (by decide), if_neg (by decide), if_pos rfl, t_gR k2 r11, Option.bind_some, t_gR ke R4.2, Option.bind_some, t_aI R4.1 (by omega) (by omega), Option.bind_some, a3, E4.2]
      · rfl
    by_cases b4 : l2 = 4
    · subst b4
      refine ⟨s_bs (fun t => s_kn σ a t) (hs_n σ), c1 ?_, d1 ?_⟩
      · rw [if_neg (by decide), if_neg (by decide), if_neg (by decide), if_neg (by decide), if_pos rfl, t_gR k2 (G_r5 G), Option.bind_some, t_gR k2 r11, Option.bind_some, t_gO ks, Option.bind_some, C_knownBy X.1.1 a1 a2, Option.bind_some]
      · rfl
    by_cases b5 : l2 = 5
    · subst b5
      refine ⟨s_hb σ a, c1 ?_, d1 ?_⟩
      · rw [if_neg (by decide), if_neg (by decide), if_neg (by decide), if_neg (by decide), if_neg (by decide), if_pos rfl, t_gR k2 (G_r5 G), Option.bind_some, t_gR k2 r11, Option.bind_some, t_gO ks, Option.bind_some, C_heldBy X.1.1 a1 a2, Option.bind_some]
      · rfl
    · have ne : ∀ {k : Int32}, l2 ≠ k → l2.toInt ≠ k.toInt := fun h z => h (Int32.toInt_inj.mp z)
      have q0 := ne b0
      have q1 := ne b1
      have q2 := ne b2
      have q3 := ne b3
      have q4 := ne b4
      have q5 := ne b5
      have v0 : (0 : Int32).toInt = 0 := rfl
      have v1 : (1 : Int32).toInt = 1 := rfl
      have v2 : (2 : Int32).toInt = 2 := rfl
      have v3 : (3 : Int32).toInt = 3 := rfl
      have v4 : (4 : Int32).toInt = 4 := rfl
      have v5 : (5 : Int32).toInt = 5 := rfl
      refine ⟨-1, c1 ?_, d1 ?_⟩
      · rw [if_neg b0, if_neg b1, if_neg b2, if_neg b3, if_neg b4, if_neg b5]
      · rw [if_neg (by omega)]
  · refine ⟨-1, ?_, ?_⟩
    · delta F_X11_heir F_X11_heir_b0
      rw [t_gO k2, Option.bind_some, C_isHeirX k2 r11 X.1.1, Option.bind_some, if_neg kH, if_pos rfl]
    · delta F_X12_heir F_X12_heir_b0 F_X12_heir_b20
      rw [e_gO Y.1, Option.bind_some, E_isHeirX Y, Option.bind_some, if_neg kH, if_pos rfl]
