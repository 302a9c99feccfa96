/-! a RULE: its steps, its CLAUSES' marks -/
def m_sg (o : List (Nat × Int32)) (i j : Nat) (g : List (Nat × Int32)) : Prop := ∃ p s, o = p ++ (g ++ s) ∧ s.length = i ∧ g.length + i = j
theorem m_sg_c {o o' g : List (Nat × Int32)} {i j : Nat} (h : m_sg o i j g) (q : List (Nat × Int32)) (e : o' = q ++ o) : m_sg o' i j g := by
  obtain ⟨p, s, e1, e2, e3⟩ := h
  exact ⟨q ++ p, s, by rw [e, e1, List.append_assoc], e2, e3⟩
theorem m_sg_le {o g : List (Nat × Int32)} {i j : Nat} (h : m_sg o i j g) : i ≤ j ∧ j ≤ o.length := by
  obtain ⟨p, s, e1, e2, e3⟩ := h
  rw [e1]
  simp
  omega
/-- a CLAUSE's -/
def m_mk (o : List (Nat × Int32)) (m : Nat × Nat × Nat) : Prop := (∃ g, m_sg o m.1 m.2.1 g ∧ m_A 3 false g) ∧ (m.2.1 = m.2.2 ∨ ∃ g, m_sg o m.2.1 m.2.2 g ∧ m_A 28 true g)
theorem m_mk_c {o o' : List (Nat × Int32)} {m : Nat × Nat × Nat} (h : m_mk o m) (q : List (Nat × Int32)) (e : o' = q ++ o) : m_mk o' m := by
  obtain ⟨⟨g, h1, h2⟩, h3⟩ := h
  refine ⟨⟨g, m_sg_c h1 q e, h2⟩, ?_⟩
  rcases h3 with h3 | ⟨g2, h3, h4⟩
  · exact Or.inl h3
  · exact Or.inr ⟨g2, m_sg_c h3 q e, h4⟩
def m_R (o : List (Nat × Int32)) (ms : List (Nat × Nat × Nat)) : Prop := ∀ m, m ∈ ms → m_mk o m
theorem m_clause {T : gM} {cl : Nat} {x y : sS} {m : Nat × Nat × Nat} (h : s_cl T cl x = .inr (y, m)) : cl ≤ 12 ∧ ∃ g, y.2.2 = g ++ x.2.2 ∧ m_mk y.2.2 m := by
  unfold s_cl at h
  by_cases c1 : k_kind T x.1 ≠ 278
  · rw [if_pos c1] at h
    cases h
  rw [if_neg c1] at h
  by_cases c2 : 12 < cl
  · rw [if_pos c2] at h
    cases h
  rw [if_neg c2] at h
  refine ⟨by omega, ?_⟩
  have z := J_sum (T := T) (k_go T x.1, x.2)
  cases hit : s_sum T (k_go T x.1, x.2) with
  | inl e =>
    rw [hit] at h
    cases h
  | inr u =>
    rw [hit] at h z
    obtain ⟨g1, e1, a1⟩ := z
    dsimp only at h
    have l1 := congrArg List.length e1
    rw [List.length_append] at l1
    have l1' : u.2.2.length = g1.length + x.2.2.length := l1
    have s1 : m_sg u.2.2 x.2.2.length u.2.2.length g1 := ⟨[], x.2.2, e1, rfl, by omega⟩
    by_cases c3 : k_kind T u.1 = 279
    · rw [if_pos c3] at h
      have z := J_tested (T := T) (k_go T u.1, u.2)
      cases hit2 : s_J T 0 0 (k_go T u.1, u.2) with
      | inl e =>
        rw [hit2] at h
        cases h
      | inr v =>
        rw [hit2] at h z
        obtain ⟨g2, e2, a2⟩ := z
        have e2' : v.2.2 = g2 ++ u.2.2 := e2
        have l2 := congrArg List.length e2'
        rw [List.length_append] at l2
        dsimp only at h
        have hl : g2.length + u.2.2.length = v.2.2.length := by omega
        have fin : ∃ g, v.2.2 = g ++ x.2.2 ∧ m_mk v.2.2 (x.2.2.length, u.2.2.length, v.2.2.length) := ⟨g2 ++ g1, by rw [e2', e1, List.append_assoc], ⟨⟨g1, m_sg_c s1 g2 e2', a1⟩, Or.inr ⟨g2, ⟨[], u.2.2, e2', rfl, hl⟩, a2⟩⟩⟩
        cases h
        exact fin
    · rw [if_neg c3] at h
      have fin : ∃ g, u.2.2 = g ++ x.2.2 ∧ m_mk u.2.2 (x.2.2.length, u.2.2.length, u.2.2.length) := ⟨g1, e1, ⟨g1, s1, a1⟩, Or.inl rfl⟩
      cases h
      exact fin
theorem m_tl {T : gM} : ∀ (n cl : Nat) {x y : sS} {ms ms' : List (Nat × Nat × Nat)}, s_tl T n cl x ms = .inr (y, ms') → cl = ms.length + 1 → m_R x.2.2 ms → m_R y.2.2 ms' ∧ (1 ≤ ms'.length ∧ ms'.length ≤ 12) := by
  intro n
  induction n with
  | zero => intro cl x y ms ms' h _ _; cases h
  | succ n ih =>
    intro cl x y ms ms' h hc hR
    unfold s_tl at h
    cases hit : s_cl T cl x with
    | inl e =>
      rw [hit] at h
      cases h
    | inr um =>
      obtain ⟨u, m⟩ := um
      rw [hit] at h
      obtain ⟨h12, g, e, hm⟩ := m_clause hit
      have hR2 : m_R u.2.2 (m :: ms) := by
        intro m' hm'
        rcases List.mem_cons.mp hm' with e' | e'
        · rw [e']; exact hm
        · exact m_mk_c (hR m' e') g e
      dsimp only at h
      by_cases c1 : k_kind T u.1 = 256
      · rw [if_pos c1] at h
        cases h
        exact ⟨hR2, by simp, by simp; omega⟩
      rw [if_neg c1] at h
      by_cases c2 : k_kind T u.1 = 59
      · rw [if_pos c2] at h
        exact ih (cl + 1) h (by simp; omega) hR2
      · rw [if_neg c2] at h
        cases h
theorem m_text {T : gM} {y : sS} {ms : List (Nat × Nat × Nat)} (h : s_text T = .inr (y, ms)) : m_R y.2.2 ms ∧ (1 ≤ ms.length ∧ ms.length ≤ 12) := m_tl 14 1 h rfl (fun m hm => by cases hm)
/-- the steps in their places -/
def m_L (e : Nat × Int32 → Int32) (f : Nat → Int32) (i : Nat) : List (Nat × Int32) → Prop
  | [] => True
  | a :: o => f (i + o.length) = e a ∧ m_L e f i o
theorem m_L_app {e : Nat × Int32 → Int32} {f : Nat → Int32} {i : Nat} {g1 : List (Nat × Int32)} : ∀ {g2 : List (Nat × Int32)}, m_L e f i (g2 ++ g1) → m_L e f (i + g1.length) g2 ∧ m_L e f i g1 := by
  intro g2
  induction g2 with
  | nil => intro h; exact ⟨trivial, h⟩
  | cons a g2 ih =>
    intro h
    obtain ⟨h1, h2⟩ := h
    have := ih h2
    refine ⟨⟨?_, this.1⟩, this.2⟩
    have h1 : f (i + (g2 ++ g1).length) = e a := h1
    rw [List.length_append] at h1
    rw [show i + g1.length + g2.length = i + (g2.length + g1.length) by omega]
    exact h1
theorem m_L0 {e : Nat × Int32 → Int32} {f : Nat → Int32} {s : List (Nat × Int32)} : ∀ {g : List (Nat × Int32)}, m_L e f 0 (g ++ s) → m_L e f s.length g := by
  intro g h
  have := (m_L_app h).1
  rw [Nat.zero_add] at this
  exact this
theorem m_L_sg {e : Nat × Int32 → Int32} {f : Nat → Int32} {o g : List (Nat × Int32)} {i j : Nat} (h : m_L e f 0 o) (s : m_sg o i j g) : m_L e f i g := by
  obtain ⟨p, s, e1, e2, e3⟩ := s
  rw [e1] at h
  have := (m_L_app h).2
  rw [← e2]
  exact m_L0 this
theorem m_L_f {e : Nat × Int32 → Int32} {f f' : Nat → Int32} {i : Nat} : ∀ {g : List (Nat × Int32)}, m_L e f i g → (∀ j, i ≤ j → j < i + g.length → f' j = f j) → m_L e f' i g := by
  intro g
  induction g with
  | nil => intro _ _; trivial
  | cons a g ih =>
    intro h hf
    refine ⟨?_, ih h.2 (fun j h1 h2 => hf j h1 (by simp; omega))⟩
    rw [hf _ (by omega) (by simp)]
    exact h.1
theorem m_c_O {f : Nat → Int32} : ∀ {o : List (Nat × Int32)}, c_O f o → m_L e_c f 0 o := by
  intro o
  induction o with
  | nil => intro _; trivial
  | cons a o ih =>
    intro h
    refine ⟨?_, ih h.2⟩
    rw [Nat.zero_add]
    exact h.1
theorem m_r_O {f : Nat → Int32} : ∀ {o : List (Nat × Int32)}, r_O f o → m_L e_r f 0 o := by
  intro o
  induction o with
  | nil => intro _; trivial
  | cons a o ih =>
    intro h
    refine ⟨?_, ih h.2⟩
    rw [Nat.zero_add]
    exact h.1
/-- values that wait -/
def m_K (f : Nat → Int64) : List Int64 → Prop
  | [] => True
  | a :: o => f o.length = a ∧ m_K f o
theorem m_K_c {f g : Nat → Int64} : ∀ {o : List Int64}, (∀ q, q < o.length → g q = f q) → m_K f o → m_K g o := by
  intro o
  induction o with
  | nil => intro _ _; trivial
  | cons a o ih =>
    intro h hc
    exact ⟨(h o.length (by simp)).trans hc.1, ih (fun q hq => h q (by simp; omega)) hc.2⟩
