/-! the memory behind both constructors keeps all this -/
def f_K (i : Nat) : Nat × Nat := (g_K0 0).getD i (99, 0)
theorem f_Kof {L : Nat} {xs : Nat → Int32} {i : Nat} (hi : i ≠ 0) : g_k (g_Mc L xs) i = f_K i := by
  unfold g_k g_Mc f_K
  rw [KC_510]
  cases i with
  | zero => exact absurd rfl hi
  | succ i => rfl
theorem f_K0 {L : Nat} {xs : Nat → Int32} : g_k (g_Mc L xs) 0 = (30, L) := by
  unfold g_k g_Mc
  rw [KC_510]
  rfl
/-- kinds of things that hold places -/
def f_ob (q : Nat × Nat) : Bool := q.1 < 12 || (24 ≤ q.1 && q.1 < 27 && q.2 ≤ 40)
def f_okR (s : Nat × Nat × Nat) (r : Option Nat) : Bool := s.1 == 0 || ((s.1 == 1 && (match r with | some j => j < 175 && j != 0 && f_K j == s.2 | none => false)) || ((s.1 == 2 && (match r with | some j => j < 175 && j != 0 && f_K j == s.2 | none => true)) || (s.1 == 3 && (match r with | some j => j < 175 && j != 0 && (f_K j).1 == s.2.1 && (f_K j).2 ≤ 400 | none => false))))
def f_okI (p : Int × Int) (v : Int32) : Bool := p.1 ≤ v.toInt && v.toInt ≤ p.2
def f_ok1 (i : Nat) : Bool := (!f_ob (f_K i) && 12 ≤ (f_K i).1 && ((f_K i).1 < 24 || 27 ≤ (f_K i).1)) || (f_ob (f_K i) && (List.range 40).all (fun k => f_okR (q_tR (f_K i) k) (RC_510 i k) && f_okI (q_tI (f_K i) k) (IC_509 i k)))
set_option maxRecDepth 100000 in
theorem f_all : (List.range 175).all (fun i => i == 0 || i == 1 || f_ok1 i) = true := by decide +kernel
theorem f_okR_of {L : Nat} {xs : Nat → Int32} {s : Nat × Nat × Nat} {r : Option Nat} (h : f_okR s r = true) : q_okR (g_Mc L xs) s r := by
  obtain ⟨a, t⟩ := s
  have kd : ∀ j : Nat, j < 175 → j ≠ 0 → q_Kd (g_Mc L xs) j (f_K j) := fun j h1 h2 => ⟨Or.inl h1, f_Kof h2⟩
  unfold f_okR at h
  rw [Bool.or_eq_true, Bool.or_eq_true, Bool.or_eq_true] at h
  rcases h with h | h | h | h
  · exact Or.inl (Or.inl (by simpa using h))
  · cases r with
    | none => simp at h
    | some j =>
      simp at h
      obtain ⟨h1, ⟨h2, h3⟩, h4⟩ := h
      exact Or.inl (Or.inr ⟨h1, j, rfl, by show q_Kd _ j t; rw [← h4]; exact kd j h2 h3⟩)
  · cases r with
    | none =>
      simp at h
      exact Or.inr (Or.inl ⟨h, Or.inl rfl⟩)
    | some j =>
      simp at h
      obtain ⟨h1, ⟨h2, h3⟩, h4⟩ := h
      exact Or.inr (Or.inl ⟨h1, Or.inr ⟨j, rfl, by show q_Kd _ j t; rw [← h4]; exact kd j h2 h3⟩⟩)
  · cases r with
    | none => simp at h
    | some j =>
      simp at h
      obtain ⟨h1, ⟨⟨h2, h3⟩, h4⟩, h5⟩ := h
      exact Or.inr (Or.inr ⟨h1, j, (f_K j).2, rfl, by show q_Kd _ j (t.1, (f_K j).2); rw [← h4]; exact kd j h2 h3, h5⟩)
theorem f_big {q : Nat × Nat} {k : Nat} (h : f_ob q = true) (hk : 40 ≤ k) : (q_tR q k).1 = 0 ∧ q_tI q k = (-2147483648, 2147483647) := by
  obtain ⟨a, b⟩ := q
  unfold f_ob at h
  simp at h
  constructor
  · unfold q_tR
    dsimp only
    split <;> first | omega | (rw [if_neg (by omega)]) | rfl
  · unfold q_tI
    dsimp only
    split <;> first | omega | rfl
theorem f_kbig {i : Nat} (h : 197 ≤ i) : f_K i = (99, 0) := by
  unfold f_K
  have e : (g_K0 0)[i]? = none := List.getElem?_eq_none (by show 197 ≤ i; exact h)
  rw [List.getD_eq_getElem?_getD, e]
  rfl
theorem f_qHT (L : Nat) (xs : Nat → Int32) : q_HT 0 (g_Mc L xs) := by
  refine ⟨⟨by show 197 ≤ (MC_510 L xs).1.length; rw [LN_510]; exact Nat.le_refl _, by rw [f_K0]⟩, fun i hi hx k => ?_⟩
  rw [f_Kof hx]
  have other : 12 ≤ (f_K i).1 → ((f_K i).1 < 24 ∨ 27 ≤ (f_K i).1) → q_okR (g_Mc L xs) (q_tR (f_K i) k) ((g_Mc L xs).2.2.2 i k) ∧ ((q_tI (f_K i) k).1 ≤ ((g_Mc L xs).2.1 i k).toInt ∧ ((g_Mc L xs).2.1 i k).toInt ≤ (q_tI (f_K i) k).2) := by
    intro h1 h2
    rw [q_tR_none h1 h2, q_tI_full h1]
    exact ⟨Or.inl (Or.inl rfl), i_rng _⟩
  rcases hi with hi | hi
  · by_cases h1 : i = 1
    · subst h1
      exact other (by decide) (Or.inr (by decide))
    · have h9 := List.all_eq_true.mp f_all i (List.mem_range.mpr hi)
      have h8 : f_ok1 i = true := by
        simp [hx, h1] at h9
        exact h9
      unfold f_ok1 at h8
      rw [Bool.or_eq_true] at h8
      rcases h8 with h8 | h8
      · simp at h8
        exact other h8.1.2 h8.2
      · rw [Bool.and_eq_true] at h8
        obtain ⟨ho, ha⟩ := h8
        rcases Nat.lt_or_ge k 40 with hk | hk
        · have h7 := List.all_eq_true.mp ha k (List.mem_range.mpr hk)
          rw [Bool.and_eq_true] at h7
          refine ⟨?_, ?_⟩
          · have := f_okR_of (L := L) (xs := xs) h7.1
            rw [← RR_510 L xs] at this
            exact this
          · have := h7.2
            unfold f_okI at this
            simp at this
            rw [← II_510 L xs i hx] at this
            exact this
        · obtain ⟨b1, b2⟩ := f_big (q := f_K i) (k := k) ho hk
          rw [b2]
          exact ⟨Or.inl (Or.inl b1), i_rng _⟩
  · have e := f_kbig hi
    exact other (by rw [e]; decide) (by rw [e]; exact Or.inr (by decide))
def f_y1 : Bool := (List.range 22).all (fun j => f_K (175 + j) == y_kd (175 + j)) && (List.range 40).all (fun k => y_rf k == 0 || RC_510 175 k == some (y_rf k)) && (List.range 40).all (fun k => f_okI (y_tO k) (IC_509 175 k))
set_option maxRecDepth 100000 in
theorem f_y1_ok : f_y1 = true := by decide +kernel
theorem f_z0 {L : Nat} {xs : Nat → Int32} : ∀ {i : Nat}, 176 ≤ i → i ≤ 196 → ∀ k, (g_Mc L xs).2.1 i k = 0 := by
  intro i h1 h2 k
  have e : (g_Mc L xs).2.1 i = IC_509 i := II_510 L xs i (by omega)
  rw [e]
  rcases (by omega : i = 176 ∨ i = 177 ∨ i = 178 ∨ i = 179 ∨ i = 180 ∨ i = 181 ∨ i = 182 ∨ i = 183 ∨ i = 184 ∨ i = 185 ∨ i = 186 ∨ i = 187 ∨ i = 188 ∨ i = 189 ∨ i = 190 ∨ i = 191 ∨ i = 192 ∨ i = 193 ∨ i = 194 ∨ i = 195 ∨ i = 196) with h | h | h | h | h | h | h | h | h | h | h | h | h | h | h | h | h | h | h | h | h <;> subst h <;> rfl
theorem f_tS0 {k : Nat} : y_rg (y_tS k) 0 := by
  unfold y_tS
  split
  · exact ⟨by decide, by decide⟩
  · split
    · exact ⟨by decide, by decide⟩
    · split <;> exact ⟨by decide, by decide⟩
theorem f_yHT (L : Nat) (xs : Nat → Int32) : y_HT (g_Mc L xs) := by
  have h := f_y1_ok
  unfold f_y1 at h
  rw [Bool.and_eq_true, Bool.and_eq_true] at h
  obtain ⟨⟨hk, hr⟩, hi⟩ := h
  refine ⟨⟨fun i hi2 => ?_, fun k hk2 => ?_⟩, fun i hi2 k => ?_, ?_⟩
  · rw [f_Kof (by have := hi2.1; omega)]
    have := List.all_eq_true.mp hk (i - 175) (List.mem_range.mpr (by have := hi2.2; omega))
    rw [show 175 + (i - 175) = i by have := hi2.1; omega] at this
    simpa using this
  · rcases Nat.lt_or_ge k 40 with h1 | h1
    · have := List.all_eq_true.mp hr k (List.mem_range.mpr h1)
      simp [hk2] at this
      show (MC_510 L xs).2.2.2 175 k = _
      rw [RR_510]
      exact this
    · exfalso
      apply hk2
      unfold y_rf
      split <;> first | omega | rfl
  · rcases Nat.lt_or_ge i 176 with h1 | h1
    · have e : i = 175 := by have := hi2.1; omega
      subst e
      show y_rg (y_tO k) _
      rcases Nat.lt_or_ge k 40 with h2 | h2
      · have := List.all_eq_true.mp hi k (List.mem_range.mpr h2)
        unfold f_okI at this
        simp at this
        rw [← II_510 L xs 175 (by decide)] at this
        exact this
      · refine y_full ?_
        unfold y_tO
        split <;> first | omega | rfl
    · rw [f_z0 h1 hi2.2 k]
      have z0 : (0 : Int32).toInt = 0 := rfl
      unfold y_tI
      split <;> first | exact f_tS0 | exact ⟨by decide, by decide⟩ | (exfalso; omega)
  · show 0 ≤ ((MC_510 L xs).2.2.1 175 32).toInt ∧ ((MC_510 L xs).2.2.1 175 32).toInt < 2147483648
    rw [LL_510]
    decide
def f_y2 : Bool := IC_509 175 2 == 0 && IC_509 175 21 == -1 && IC_509 2 12 == 0 && IC_509 175 1 == 0 && IC_509 131 6 == 0 && RC_510 2 8 == some 121 && f_K 2 == (11, 0) && (List.range 4).all (fun k => RC_510 121 k == some (151 + 6 * k))
def f_y3 : Bool := (f_K 131 == (9, 0) && f_K 132 == (22, 400) && f_K 133 == (20, 401) && f_K 134 == (20, 401) && f_K 135 == (20, 401) && f_K 148 == (7, 0) && f_K 149 == (20, 400) && f_K 150 == (20, 36)) && (RC_510 131 0 == some 132 && RC_510 131 1 == some 133 && RC_510 131 2 == some 134 && RC_510 131 3 == some 135 && RC_510 148 0 == some 131 && RC_510 148 1 == some 149 && RC_510 148 2 == some 150 && RC_510 2 0 == some 131 && RC_510 2 2 == some 148)
set_option maxRecDepth 100000 in
theorem f_y2_ok : f_y2 = true := by decide +kernel
set_option maxRecDepth 100000 in
theorem f_y3_ok : f_y3 = true := by decide +kernel
theorem f_132 {L : Nat} {xs : Nat → Int32} : ∀ k, (g_Mc L xs).2.1 132 k = 0 := by
  intro k
  have e : (g_Mc L xs).2.1 132 = IC_509 132 := II_510 L xs 132 (by decide)
  rw [e]
  rfl
theorem lw_first (L : Nat) (xs : Nat → Int32) : lw_R L (g_Mc L xs) := by
  have h := f_y2_ok
  unfold f_y2 at h
  simp only [Bool.and_eq_true, beq_iff_eq] at h
  obtain ⟨⟨⟨⟨⟨⟨⟨h1, h2⟩, h3⟩, h4⟩, h5⟩, h6⟩, h7⟩, h8⟩ := h
  have g := f_y3_ok
  unfold f_y3 at g
  simp only [Bool.and_eq_true, beq_iff_eq] at g
  obtain ⟨⟨⟨⟨⟨⟨⟨⟨g1, g2⟩, g3⟩, g4⟩, g5⟩, g6⟩, g7⟩, g8⟩, ⟨⟨⟨⟨⟨⟨⟨r1, r2⟩, r3⟩, r4⟩, r5⟩, r6⟩, r7⟩, r8⟩, r9⟩ := g
  have i : ∀ {a b : Nat}, a ≠ 0 → (g_Mc L xs).2.1 a b = IC_509 a b := fun h => congrFun (II_510 L xs _ h) _
  have r : ∀ {a b : Nat}, (g_Mc L xs).2.2.2 a b = RC_510 a b := fun {a b} => congrFun (congrFun (RR_510 L xs) a) b
  have k : ∀ {a : Nat}, a ≠ 0 → g_k (g_Mc L xs) a = f_K a := fun h => f_Kof h
  have h9 : ∀ k, k < 4 → RC_510 121 k = some (151 + 6 * k) := by
    intro k hk
    have := List.all_eq_true.mp h8 k (List.mem_range.mpr hk)
    simp only [beq_iff_eq] at this
    exact this
  have z0 : (0 : Int32).toInt = 0 := rfl
  refine ⟨⟨⟨⟨f_qHT L xs, f_yHT L xs⟩, ⟨⟨?_, fun k hk hn => ?_⟩, fun t c ht hc => ?_⟩⟩, ⟨⟨⟨Or.inl (by decide), by rw [f_Kof (by decide), h7]⟩, ⟨by rw [r, h6], fun k hk => by rw [r]; exact h9 k hk⟩⟩, f_K0⟩, ⟨⟨⟨⟨?_, ?_⟩, ⟨?_, ?_⟩, ?_⟩, ⟨?_, ?_⟩, ?_⟩, ⟨⟨?_, ?_⟩, ?_, ?_⟩, ⟨?_, ?_⟩, ?_⟩, ?_, ?_⟩, ⟨⟨?_, ?_⟩, ?_, fun q => ?_⟩⟩
  · rw [i (by decide), i (by decide), h1, h2]
    decide
  · exact absurd (f_z0 (by decide) (by decide) k) hn
  · rw [i (by decide), h1] at ht
    omega
  · rw [k (by decide), g1]
  · rw [k (by decide), g2]
  · rw [k (by decide), g3]
  · rw [k (by decide), g4]
  · rw [k (by decide), g5]
  · rw [k (by decide), g6]
  · rw [k (by decide), g7]
  · rw [k (by decide), g8]
  · rw [r, r1]
  · rw [r, r2]
  · rw [r, r3]
  · rw [r, r4]
  · rw [r, r5]
  · rw [r, r6]
  · rw [r, r7]
  · rw [r, r8]
  · rw [r, r9]
  · exact funext (fun q => (f_132 q).trans (f_z0 (by decide) (by decide) q).symm)
  · rw [i (by decide), i (by decide), h4, h5]
  · rw [i (by decide), i (by decide), h1, h3]
  · rw [f_z0 (by decide) (by decide) q]
    omega
