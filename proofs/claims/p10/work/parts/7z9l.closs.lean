/-! what a RULE says: the SUM of the first CLAUSE that holds -/
def m_nth {α : Type} : List α → Nat → Option α
  | [], _ => none
  | m :: ms, q => if q = ms.length then some m else m_nth ms q
theorem m_nth_mem {α : Type} {m : α} {q : Nat} : ∀ {ms : List α}, m_nth ms q = some m → m ∈ ms := by
  intro ms
  induction ms with
  | nil => intro h; cases h
  | cons a ms ih =>
    intro h
    unfold m_nth at h
    by_cases c : q = ms.length
    · rw [if_pos c] at h
      cases h
      exact List.mem_cons_self
    · rw [if_neg c] at h
      exact List.mem_cons_of_mem _ (ih h)
theorem m_nth_ex {α : Type} {q : Nat} : ∀ {ms : List α}, q < ms.length → ∃ m, m_nth ms q = some m := by
  intro ms
  induction ms with
  | nil => intro h; exact absurd h (Nat.not_lt_zero _)
  | cons a ms ih =>
    intro h
    unfold m_nth
    by_cases c : q = ms.length
    · rw [if_pos c]
      exact ⟨a, rfl⟩
    · rw [if_neg c]
      refine ih ?_
      have : q < ms.length + 1 := h
      omega
theorem m_nth_lt {α : Type} {m : α} {q : Nat} : ∀ {ms : List α}, m_nth ms q = some m → q < ms.length := by
  intro ms
  induction ms with
  | nil => intro h; cases h
  | cons a ms ih =>
    intro h
    unfold m_nth at h
    by_cases c : q = ms.length
    · simp; omega
    · rw [if_neg c] at h
      have := ih h
      simp; omega
theorem c_K_at {f : Nat → Int32} {m : Nat × Nat × Nat} {q : Nat} : ∀ {ms : List (Nat × Nat × Nat)}, c_K f ms → m_nth ms q = some m → ((f (3 * q)).toInt = (m.1 : Int) ∧ (f (3 * q + 1)).toInt = (m.2.1 : Int)) ∧ (f (3 * q + 2)).toInt = (m.2.2 : Int) := by
  intro ms
  induction ms with
  | nil => intro _ h; cases h
  | cons a ms ih =>
    intro K h
    unfold m_nth at h
    by_cases c : q = ms.length
    · rw [if_pos c] at h
      cases h
      rw [c]
      exact K.1
    · rw [if_neg c] at h
      exact ih K.2 h
def m_Vc (w : Nat → Int64) (o : List (Nat × Int32)) (ms : List (Nat × Nat × Nat)) (R : Nat → Int64 → Prop) : Prop :=
  (∀ q : Nat, ms.length ≤ q → R q 0) ∧
  (∀ (q : Nat) (m : Nat × Nat × Nat) (g : List (Nat × Int32)) (v : Int64), m_nth ms q = some m → m.2.1 = m.2.2 → m_sg o m.1 m.2.1 g → m_E w g 3 v → R q v) ∧
  (∀ (q : Nat) (m : Nat × Nat × Nat) (g g2 : List (Nat × Int32)) (v : Int64), m_nth ms q = some m → m.2.1 ≠ m.2.2 → m_sg o m.2.1 m.2.2 g2 → m_E w g2 28 1 → m_sg o m.1 m.2.1 g → m_E w g 3 v → R q v) ∧
  (∀ (q : Nat) (m : Nat × Nat × Nat) (g2 : List (Nat × Int32)) (v : Int64), m_nth ms q = some m → m.2.1 ≠ m.2.2 → m_sg o m.2.1 m.2.2 g2 → m_E w g2 28 0 → R (q + 1) v → R q v)
/-- from the CLAUSE q on -/
def m_V (w : Nat → Int64) (o : List (Nat × Int32)) (ms : List (Nat × Nat × Nat)) (q : Nat) (v : Int64) : Prop := ∀ R, m_Vc w o ms R → R q v
theorem V_fin {w : Nat → Int64} {o : List (Nat × Int32)} {ms : List (Nat × Nat × Nat)} (q : Nat) (h : ms.length ≤ q) : m_V w o ms q 0 := fun _ c => c.1 q h
theorem V_pl {w : Nat → Int64} {o : List (Nat × Int32)} {ms : List (Nat × Nat × Nat)} (q : Nat) (m : Nat × Nat × Nat) (g : List (Nat × Int32)) (v : Int64) (h1 : m_nth ms q = some m) (h2 : m.2.1 = m.2.2) (h3 : m_sg o m.1 m.2.1 g) (h4 : m_E w g 3 v) : m_V w o ms q v := fun _ c => c.2.1 q m g v h1 h2 h3 h4
theorem V_yes {w : Nat → Int64} {o : List (Nat × Int32)} {ms : List (Nat × Nat × Nat)} (q : Nat) (m : Nat × Nat × Nat) (g g2 : List (Nat × Int32)) (v : Int64) (h1 : m_nth ms q = some m) (h2 : m.2.1 ≠ m.2.2) (h5 : m_sg o m.2.1 m.2.2 g2) (h6 : m_E w g2 28 1) (h3 : m_sg o m.1 m.2.1 g) (h4 : m_E w g 3 v) : m_V w o ms q v := fun _ c => c.2.2.1 q m g g2 v h1 h2 h5 h6 h3 h4
theorem V_no {w : Nat → Int64} {o : List (Nat × Int32)} {ms : List (Nat × Nat × Nat)} (q : Nat) (m : Nat × Nat × Nat) (g2 : List (Nat × Int32)) (v : Int64) (h1 : m_nth ms q = some m) (h2 : m.2.1 ≠ m.2.2) (h5 : m_sg o m.2.1 m.2.2 g2) (h6 : m_E w g2 28 0) (h : m_V w o ms (q + 1) v) : m_V w o ms q v := fun R c => c.2.2.2 q m g2 v h1 h2 h5 h6 (h R c)
theorem m_Vi {w : Nat → Int64} {o : List (Nat × Int32)} {ms : List (Nat × Nat × Nat)} {P : Nat → Int64 → Prop} {q : Nat} {v : Int64}
    (fin : ∀ q : Nat, ms.length ≤ q → P q 0)
    (pl : ∀ (q : Nat) (m : Nat × Nat × Nat) (g : List (Nat × Int32)) (v : Int64), m_nth ms q = some m → m.2.1 = m.2.2 → m_sg o m.1 m.2.1 g → m_E w g 3 v → P q v)
    (yes : ∀ (q : Nat) (m : Nat × Nat × Nat) (g g2 : List (Nat × Int32)) (v : Int64), m_nth ms q = some m → m.2.1 ≠ m.2.2 → m_sg o m.2.1 m.2.2 g2 → m_E w g2 28 1 → m_sg o m.1 m.2.1 g → m_E w g 3 v → P q v)
    (no : ∀ (q : Nat) (m : Nat × Nat × Nat) (g2 : List (Nat × Int32)) (v : Int64), m_nth ms q = some m → m.2.1 ≠ m.2.2 → m_sg o m.2.1 m.2.2 g2 → m_E w g2 28 0 → P (q + 1) v → P q v)
    (h : m_V w o ms q v) : P q v := h P ⟨fin, pl, yes, no⟩
theorem m_V_ex {w : Nat → Int64} {o : List (Nat × Int32)} {ms : List (Nat × Nat × Nat)} (R : m_R o ms) : ∀ (n q : Nat), ms.length ≤ n + q → ∃ v, m_V w o ms q v := by
  intro n
  induction n with
  | zero => intro q h; exact ⟨0, V_fin q (by omega)⟩
  | succ n ih =>
    intro q h
    by_cases c : ms.length ≤ q
    · exact ⟨0, V_fin q c⟩
    obtain ⟨m, hm⟩ := m_nth_ex (show q < ms.length by omega)
    obtain ⟨⟨g, s1, a1⟩, h3⟩ := R m (m_nth_mem hm)
    obtain ⟨v, e1, _⟩ := a1 w
    by_cases c2 : m.2.1 = m.2.2
    · exact ⟨v, V_pl q m g v hm c2 s1 e1⟩
    rcases h3 with h3 | ⟨g2, s2, a2⟩
    · exact absurd h3 c2
    obtain ⟨v2, e2, z2⟩ := a2 w
    rcases z2 rfl with z | z
    · subst z
      obtain ⟨v', hv'⟩ := ih (q + 1) (by omega)
      exact ⟨v', V_no q m g2 v' hm c2 s2 e2 hv'⟩
    · subst z
      exact ⟨v, V_yes q m g g2 v hm c2 s2 e2 s1 e1⟩
/-- a Rule of the class -/
def k_rl (M : gM) (j js jm : Nat) (o : List (Nat × Int32)) (ms : List (Nat × Nat × Nat)) : Prop := (g_k M j = (6, 0) ∧ (M.2.2.2 j 0 = some js ∧ M.2.2.2 j 1 = some jm)) ∧ ((g_k M js = (20, o.length) ∧ g_k M jm = (20, 3 * ms.length)) ∧ (8 < js ∧ 8 < jm)) ∧ ((m_L e_c (M.2.1 js) 0 o ∧ c_K (M.2.1 jm) ms) ∧ (o.length ≤ 400 ∧ ms.length ≤ 12)) ∧ m_R o ms
theorem k_rlz {M M' : gM} {j js jm : Nat} {o : List (Nat × Int32)} {ms : List (Nat × Nat × Nat)} (R : k_rl M j js jm o ms) (f : k_Fz M M') : k_rl M' j js jm o ms := by
  obtain ⟨h1, ⟨h2, h3⟩, ⟨h4, h5⟩, h6⟩ := R
  have hk : ∀ i, g_k M' i = g_k M i := fun i => q_k_of f.1.1
  refine ⟨?_, ⟨?_, h3⟩, ⟨?_, h5⟩, h6⟩
  · rw [hk, f.1.2]; exact h1
  · rw [hk, hk]; exact h2
  · rw [f.2.1 js (by omega), f.2.1 jm (by omega)]; exact h4
theorem lg0 {v : Int64} (h : v = 0 ∨ v = 1) : lg_cmp v (0 : Int64) = 0 ↔ v = 0 := by
  rcases h with e | e <;> subst e <;> decide
theorem C_loss_b63 {w : Nat → Int64} {j js jm q : Nat} {o g : List (Nat × Int32)} {ms : List (Nat × Nat × Nat)} {m : Nat × Nat × Nat} {v : Int64} {l3 : Int32} {M : gM} (Z : k_Z M) (W : m_W M w) (R : k_rl M j js jm o ms) (hq : q ≤ 12) (h3 : l3.toInt = ((3 * q : Nat) : Int)) (hm : m_nth ms q = some m) (s1 : m_sg o m.1 m.2.1 g) (E : m_E w g 3 v) : Ok (F_X5_loss_b63 (some 6) (some j) (some jm) l3 M) (fun r => r.1 = v ∧ k_Fz M r.2) := by
  obtain ⟨⟨kj, r0, r1⟩, ⟨⟨k1, k2⟩, n1, n2⟩, ⟨⟨L, K⟩, lo, lm⟩, RR⟩ := R
  have hlt := m_nth_lt hm
  have at3 := c_K_at K hm
  have a1 := i_addc (x := l3) (c := (1 : Int32)) (n := 1) rfl (by omega) (by omega)
  have c0 := i_cl h3
  have c1 : (l3 + (1 : Int32)).toNatClampNeg = 3 * q + 1 := i_cl (by omega)
  have sl := m_sg_le s1
  have sl2 : g.length + m.1 = m.2.1 := by
    obtain ⟨p, s, e1, e2, e3⟩ := s1
    exact e3
  delta F_X5_loss_b63
  rw [t_gR kj r0, Option.bind_some, t_aI k2 (by omega) (by omega), Option.bind_some, t_aI k2 (by omega) (by omega), Option.bind_some, t_gO Z.1.1.1, Option.bind_some, c0, c1]
  refine Ok_b (C_run (by omega) lo Z W k1 (m_L_sg L s1) E (by decide) at3.1.1 at3.1.2 sl2 sl.2) (fun y z => ?_)
  obtain ⟨v5, M6⟩ := y
  exact Ok_s z
theorem C_loss_L7 {w : Nat → Int64} {j js jm : Nat} {o : List (Nat × Int32)} {ms : List (Nat × Nat × Nat)} {q : Nat} {v : Int64} (V : m_V w o ms q v) : ∀ (n : Nat) {l3 : Int32} {M : gM}, k_Z M → m_W M w → k_rl M j js jm o ms → q ≤ 12 → l3.toInt = ((3 * q : Nat) : Int) → 13 < n + q → Ok (F_X5_loss_L7 n (some 6) (some j) (some jm) l3 M) (fun r => r.1 = v ∧ k_Fz M r.2) := by
  refine m_Vi (q := q) (v := v) (P := fun q v => ∀ (n : Nat) {l3 : Int32} {M : gM}, k_Z M → m_W M w → k_rl M j js jm o ms → q ≤ 12 → l3.toInt = ((3 * q : Nat) : Int) → 13 < n + q → Ok (F_X5_loss_L7 n (some 6) (some j) (some jm) l3 M) (fun r => r.1 = v ∧ k_Fz M r.2)) ?_ ?_ ?_ ?_ V
  · intro q hq n l3 M Z W R hq12 h3 hn
    obtain ⟨n, rfl⟩ : ∃ m, n = m + 1 := ⟨n - 1, by omega⟩
    obtain ⟨⟨kj, r0, r1⟩, ⟨⟨k1, k2⟩, n1, n2⟩, ⟨⟨L, K⟩, lo, lm⟩, RR⟩ := R
    show Ok (F_X5_loss_b7 (F_X5_loss_L7 n) (some 6) (some j) (some jm) l3 M) _
    have a2 := i_addc (x := l3) (c := (2 : Int32)) (n := 2) rfl (by omega) (by omega)
    have on : (Int32.ofNat (3 * ms.length)).toInt = ((3 * ms.length : Nat) : Int) := i_ofNat (by omega)
    delta F_X5_loss_b7
    rw [t_aN k2 (by decide), Option.bind_some, if_pos (Int32.le_iff_toInt_le.mpr (by omega))]
    exact Ok_s ⟨rfl, k_zr⟩
  · intro q m g v hm h0 s1 E n l3 M Z W R hq12 h3 hn
    obtain ⟨n, rfl⟩ : ∃ m, n = m + 1 := ⟨n - 1, by omega⟩
    obtain ⟨⟨kj, r0, r1⟩, ⟨⟨k1, k2⟩, n1, n2⟩, ⟨⟨L, K⟩, lo, lm⟩, RR⟩ := R
    have R : k_rl M j js jm o ms := ⟨⟨kj, r0, r1⟩, ⟨⟨k1, k2⟩, n1, n2⟩, ⟨⟨L, K⟩, lo, lm⟩, RR⟩
    have hlt := m_nth_lt hm
    have at3 := c_K_at K hm
    have a1 := i_addc (x := l3) (c := (1 : Int32)) (n := 1) rfl (by omega) (by omega)
    have a2 := i_addc (x := l3) (c := (2 : Int32)) (n := 2) rfl (by omega) (by omega)
    have on : (Int32.ofNat (3 * ms.length)).toInt = ((3 * ms.length : Nat) : Int) := i_ofNat (by omega)
    have c1 : (l3 + (1 : Int32)).toNatClampNeg = 3 * q + 1 := i_cl (by omega)
    have c2 : (l3 + (2 : Int32)).toNatClampNeg = 3 * q + 2 := i_cl (by omega)
    show Ok (F_X5_loss_b7 (F_X5_loss_L7 n) (some 6) (some j) (some jm) l3 M) _
    delta F_X5_loss_b7 F_X5_loss_b33
    rw [t_aN k2 (by decide), Option.bind_some, if_neg (fun z => by have := i_le z; omega), t_aI k2 (by omega) (by omega), Option.bind_some, t_aI k2 (by omega) (by omega), Option.bind_some, c1, c2, if_pos (Int32.toInt_inj.mp (by rw [at3.1.2, at3.2, h0])), if_neg (by decide)]
    exact C_loss_b63 Z W R hq12 h3 hm s1 E
  · intro q m g g2 v hm h0 s2 E2 s1 E n l3 M Z W R hq12 h3 hn
    obtain ⟨n, rfl⟩ : ∃ m, n = m + 1 := ⟨n - 1, by omega⟩
    obtain ⟨⟨kj, r0, r1⟩, ⟨⟨k1, k2⟩, n1, n2⟩, ⟨⟨L, K⟩, lo, lm⟩, RR⟩ := R
    have R : k_rl M j js jm o ms := ⟨⟨kj, r0, r1⟩, ⟨⟨k1, k2⟩, n1, n2⟩, ⟨⟨L, K⟩, lo, lm⟩, RR⟩
    have hlt := m_nth_lt hm
    have at3 := c_K_at K hm
    have a1 := i_addc (x := l3) (c := (1 : Int32)) (n := 1) rfl (by omega) (by omega)
    have a2 := i_addc (x := l3) (c := (2 : Int32)) (n := 2) rfl (by omega) (by omega)
    have on : (Int32.ofNat (3 * ms.length)).toInt = ((3 * ms.length : Nat) : Int) := i_ofNat (by omega)
    have c1 : (l3 + (1 : Int32)).toNatClampNeg = 3 * q + 1 := i_cl (by omega)
    have c2 : (l3 + (2 : Int32)).toNatClampNeg = 3 * q + 2 := i_cl (by omega)
    have sl := m_sg_le s2
    have sl2 : g2.length + m.2.1 = m.2.2 := by
      obtain ⟨p, s, e1, e2, e3⟩ := s2
      exact e3
    show Ok (F_X5_loss_b7 (F_X5_loss_L7 n) (some 6) (some j) (some jm) l3 M) _
    delta F_X5_loss_b7 F_X5_loss_b33
    rw [t_aN k2 (by decide), Option.bind_some, if_neg (fun z => by have := i_le z; omega), t_aI k2 (by omega) (by omega), Option.bind_some, t_aI k2 (by omega) (by omega), Option.bind_some, c1, c2, if_neg (fun z => h0 (by have := congrArg Int32.toInt z; omega)), if_pos rfl, t_gR kj r0, Option.bind_some, Option.bind_some, Option.bind_some, t_gO Z.1.1.1, Option.bind_some]
    refine Ok_b (C_run (by omega) lo Z W k1 (m_L_sg L s2) E2 (by decide) at3.1.2 at3.2 sl2 sl.2) (fun y z => ?_)
    obtain ⟨v5, M6⟩ := y
    obtain ⟨e5, f6⟩ := z
    dsimp only at e5 f6 ⊢
    subst e5
    rw [if_neg (by decide)]
    refine Ok_w (C_loss_b63 (k_zZ Z f6) (m_Wz W f6) (k_rlz R f6) hq12 h3 hm s1 E) (fun r z => ⟨z.1, k_zt f6 z.2⟩)
  · intro q m g2 v hm h0 s2 E2 ih n l3 M Z W R hq12 h3 hn
    obtain ⟨n, rfl⟩ : ∃ m, n = m + 1 := ⟨n - 1, by omega⟩
    obtain ⟨⟨kj, r0, r1⟩, ⟨⟨k1, k2⟩, n1, n2⟩, ⟨⟨L, K⟩, lo, lm⟩, RR⟩ := R
    have R : k_rl M j js jm o ms := ⟨⟨kj, r0, r1⟩, ⟨⟨k1, k2⟩, n1, n2⟩, ⟨⟨L, K⟩, lo, lm⟩, RR⟩
    have hlt := m_nth_lt hm
    have at3 := c_K_at K hm
    have a1 := i_addc (x := l3) (c := (1 : Int32)) (n := 1) rfl (by omega) (by omega)
    have a2 := i_addc (x := l3) (c := (2 : Int32)) (n := 2) rfl (by omega) (by omega)
    have a3 := i_addc (x := l3) (c := (3 : Int32)) (n := 3) rfl (by omega) (by omega)
    have on : (Int32.ofNat (3 * ms.length)).toInt = ((3 * ms.length : Nat) : Int) := i_ofNat (by omega)
    have c1 : (l3 + (1 : Int32)).toNatClampNeg = 3 * q + 1 := i_cl (by omega)
    have c2 : (l3 + (2 : Int32)).toNatClampNeg = 3 * q + 2 := i_cl (by omega)
    have sl := m_sg_le s2
    have sl2 : g2.length + m.2.1 = m.2.2 := by
      obtain ⟨p, s, e1, e2, e3⟩ := s2
      exact e3
    show Ok (F_X5_loss_b7 (F_X5_loss_L7 n) (some 6) (some j) (some jm) l3 M) _
    delta F_X5_loss_b7 F_X5_loss_b33
    rw [t_aN k2 (by decide), Option.bind_some, if_neg (fun z => by have := i_le z; omega), t_aI k2 (by omega) (by omega), Option.bind_some, t_aI k2 (by omega) (by omega), Option.bind_some, c1, c2, if_neg (fun z => h0 (by have := congrArg Int32.toInt z; omega)), if_pos rfl, t_gR kj r0, Option.bind_some, Option.bind_some, Option.bind_some, t_gO Z.1.1.1, Option.bind_some]
    refine Ok_b (C_run (by omega) lo Z W k1 (m_L_sg L s2) E2 (by decide) at3.1.2 at3.2 sl2 sl.2) (fun y z => ?_)
    obtain ⟨v5, M6⟩ := y
    obtain ⟨e5, f6⟩ := z
    dsimp only at e5 f6 ⊢
    subst e5
    rw [if_pos (by decide)]
    exact Ok_w (ih n (k_zZ Z f6) (m_Wz W f6) (k_rlz R f6) (by omega) (by omega) (by omega)) (fun r z => ⟨z.1, k_zt f6 z.2⟩)
theorem C_loss {w : Nat → Int64} {j js jm : Nat} {o : List (Nat × Int32)} {ms : List (Nat × Nat × Nat)} {v : Int64} {M : gM} (Z : k_Z M) (W : m_W M w) (R : k_rl M j js jm o ms) (V : m_V w o ms 0 v) : Ok (F_X5_loss (some 6) (some j) M) (fun r => r.1 = v ∧ k_Fz M r.2) := by
  delta F_X5_loss F_X5_loss_b0
  rw [t_gR R.1.1 R.1.2.2, Option.bind_some]
  exact C_loss_L7 V g_fuel (l3 := (0 : Int32)) Z W R (by decide) rfl (by have : g_fuel = 1000000000 := rfl; omega)
