/-! what the steps of a RULE come to -/
def m_o (k : Nat) (x y : Int64) : Int64 :=
  if k = 2 then x + y else if k = 3 then x - y else if k = 4 then x * y else if k = 5 then (if (lg_cmp y (0 : Int64)) = 0 then (0 : Int64) else x / y) else if k = 6 then (if (lg_cmp y (0 : Int64)) = 0 then (0 : Int64) else x - x / y * y) else if k = 7 then (if 0 ≤ (lg_cmp x y) then (0 : Int64) else (1 : Int64)) else if k = 8 then (if 0 < (lg_cmp x y) then (0 : Int64) else (1 : Int64)) else if k = 9 then (if (lg_cmp x y) = 0 then (1 : Int64) else (0 : Int64)) else if k = 10 then (if (lg_cmp x y) < 0 then (0 : Int64) else (1 : Int64)) else if k = 11 then (if (lg_cmp x y) ≤ 0 then (0 : Int64) else (1 : Int64)) else if k = 12 then x &&& y else x ||| y
/-- steps, the newest first, that leave one value more; at most d wait at once -/
def m_Ec (w : Nat → Int64) (R : List (Nat × Int32) → Nat → Int64 → Prop) : Prop :=
  (∀ (v : Int32) (d : Nat), 0 ≤ v.toInt → v.toInt ≤ 99999 → 1 ≤ d → R [(0, v)] d v.toInt64) ∧
  (∀ (v : Int32) (d i : Nat), v.toInt = (i : Int) → i ≤ 13 → 1 ≤ d → R [(1, v)] d (w i)) ∧
  (∀ (s : List (Nat × Int32)) (d : Nat) (v : Int64), R s d v → R ((14, 0) :: s) d ((1 : Int64) - v)) ∧
  (∀ (k : Nat) (s1 s2 : List (Nat × Int32)) (d d2 : Nat) (v1 v2 : Int64), 2 ≤ k → k ≤ 13 → R s1 d v1 → R s2 d2 v2 → d2 + 1 ≤ d → R ((k, 0) :: (s2 ++ s1)) d (m_o k v1 v2))
def m_E (w : Nat → Int64) (g : List (Nat × Int32)) (d : Nat) (v : Int64) : Prop := ∀ R, m_Ec w R → R g d v
theorem E_num {w : Nat → Int64} (v : Int32) (d : Nat) (h1 : 0 ≤ v.toInt) (h2 : v.toInt ≤ 99999) (h3 : 1 ≤ d) : m_E w [(0, v)] d v.toInt64 := fun _ c => c.1 v d h1 h2 h3
theorem E_wrd {w : Nat → Int64} (v : Int32) (d i : Nat) (h1 : v.toInt = (i : Int)) (h2 : i ≤ 13) (h3 : 1 ≤ d) : m_E w [(1, v)] d (w i) := fun _ c => c.2.1 v d i h1 h2 h3
theorem E_no {w : Nat → Int64} (s : List (Nat × Int32)) (d : Nat) (v : Int64) (h : m_E w s d v) : m_E w ((14, 0) :: s) d ((1 : Int64) - v) := fun R c => c.2.2.1 s d v (h R c)
theorem E_bin {w : Nat → Int64} (k : Nat) (s1 s2 : List (Nat × Int32)) (d d2 : Nat) (v1 v2 : Int64) (k1 : 2 ≤ k) (k2 : k ≤ 13) (h1 : m_E w s1 d v1) (h2 : m_E w s2 d2 v2) (h3 : d2 + 1 ≤ d) : m_E w ((k, 0) :: (s2 ++ s1)) d (m_o k v1 v2) := fun R c => c.2.2.2 k s1 s2 d d2 v1 v2 k1 k2 (h1 R c) (h2 R c) h3
theorem m_Ei {w : Nat → Int64} {P : List (Nat × Int32) → Nat → Int64 → Prop} {g : List (Nat × Int32)} {d : Nat} {v : Int64}
    (num : ∀ (v : Int32) (d : Nat), 0 ≤ v.toInt → v.toInt ≤ 99999 → 1 ≤ d → P [(0, v)] d v.toInt64)
    (wrd : ∀ (v : Int32) (d i : Nat), v.toInt = (i : Int) → i ≤ 13 → 1 ≤ d → P [(1, v)] d (w i))
    (no : ∀ (s : List (Nat × Int32)) (d : Nat) (v : Int64), m_E w s d v → P s d v → P ((14, 0) :: s) d ((1 : Int64) - v))
    (bin : ∀ (k : Nat) (s1 s2 : List (Nat × Int32)) (d d2 : Nat) (v1 v2 : Int64), 2 ≤ k → k ≤ 13 → m_E w s1 d v1 → m_E w s2 d2 v2 → d2 + 1 ≤ d → P s1 d v1 → P s2 d2 v2 → P ((k, 0) :: (s2 ++ s1)) d (m_o k v1 v2))
    (h : m_E w g d v) : P g d v := by
  have z := h (fun g d v => m_E w g d v ∧ P g d v) ⟨fun v d h1 h2 h3 => ⟨E_num v d h1 h2 h3, num v d h1 h2 h3⟩, fun v d i h1 h2 h3 => ⟨E_wrd v d i h1 h2 h3, wrd v d i h1 h2 h3⟩, fun s d v h => ⟨E_no s d v h.1, no s d v h.1 h.2⟩, fun k s1 s2 d d2 v1 v2 k1 k2 h1 h2 h3 => ⟨E_bin k s1 s2 d d2 v1 v2 k1 k2 h1.1 h2.1 h3, bin k s1 s2 d d2 v1 v2 k1 k2 h1.1 h2.1 h3 h1.2 h2.2⟩⟩
  exact z.2
theorem m_Em {w : Nat → Int64} {s : List (Nat × Int32)} {d : Nat} {v : Int64} (h : m_E w s d v) : ∀ d', d ≤ d' → m_E w s d' v := by
  refine m_Ei (g := s) (d := d) (v := v) (P := fun s d v => ∀ d', d ≤ d' → m_E w s d' v) ?_ ?_ ?_ ?_ h
  · exact fun v d h1 h2 h3 d' h => E_num v d' h1 h2 (by omega)
  · exact fun v d i h1 h2 h3 d' h => E_wrd v d' i h1 h2 (by omega)
  · exact fun s d v _ ih d' h => E_no s d' v (ih d' h)
  · exact fun k s1 s2 d d2 v1 v2 h1 h2 _ e2 h3 ih1 _ d' h => E_bin k s1 s2 d' d2 v1 v2 h1 h2 (ih1 d' h) e2 (by omega)
theorem m_Ene {w : Nat → Int64} {s : List (Nat × Int32)} {d : Nat} {v : Int64} (h : m_E w s d v) : 1 ≤ s.length ∧ 1 ≤ d := by
  refine m_Ei (g := s) (d := d) (v := v) (P := fun s d _ => 1 ≤ s.length ∧ 1 ≤ d) ?_ ?_ ?_ ?_ h
  · exact fun v d h1 h2 h3 => ⟨Nat.le_refl _, h3⟩
  · exact fun v d i h1 h2 h3 => ⟨Nat.le_refl _, h3⟩
  · exact fun s d v _ ih => ⟨by simp, ih.2⟩
  · exact fun k s1 s2 d d2 v1 v2 h1 h2 _ e2 h3 ih1 _ => ⟨by simp, ih1.2⟩
/-- whatever the words are: a value; of a TEST 0 or 1 -/
def m_A (d : Nat) (b : Bool) (g : List (Nat × Int32)) : Prop := ∀ w : Nat → Int64, ∃ v, m_E w g d v ∧ (b = true → v = 0 ∨ v = 1)
theorem m_Ad {d d' : Nat} {b : Bool} {g : List (Nat × Int32)} (h : m_A d b g) (hd : d ≤ d') : m_A d' b g := fun w => by
  obtain ⟨v, e, z⟩ := h w
  exact ⟨v, m_Em e d' hd, z⟩
theorem m_A1 {k d d2 : Nat} {b : Bool} {s1 s2 : List (Nat × Int32)} (k1 : 2 ≤ k) (k2 : k ≤ 13) (hb : b = true → k = 12 ∨ k = 13) (h1 : m_A d b s1) (h2 : m_A d2 b s2) (hd : d2 + 1 ≤ d) : m_A d b ((k, 0) :: (s2 ++ s1)) := by
  intro w
  obtain ⟨v1, e1, z1⟩ := h1 w
  obtain ⟨v2, e2, z2⟩ := h2 w
  refine ⟨_, E_bin k s1 s2 d d2 v1 v2 k1 k2 e1 e2 hd, fun h => ?_⟩
  rcases hb h with c | c <;> subst c <;> rcases z1 h with c1 | c1 <;> rcases z2 h with c2 | c2 <;> subst c1 <;> subst c2 <;> decide
theorem m_Ac {k d d2 : Nat} {b1 b2 : Bool} {s1 s2 : List (Nat × Int32)} (k1 : 7 ≤ k) (k2 : k ≤ 11) (h1 : m_A d b1 s1) (h2 : m_A d2 b2 s2) (hd : d2 + 1 ≤ d) : m_A d true ((k, 0) :: (s2 ++ s1)) := by
  intro w
  obtain ⟨v1, e1, _⟩ := h1 w
  obtain ⟨v2, e2, _⟩ := h2 w
  refine ⟨_, E_bin k s1 s2 d d2 v1 v2 (by omega) (by omega) e1 e2 hd, fun _ => ?_⟩
  have go : ∀ {c : Prop} [Decidable c] {x y : Int64}, (x = 0 ∨ x = 1) → (y = 0 ∨ y = 1) → ((if c then x else y) = 0 ∨ (if c then x else y) = 1) := by
    intro c _ x y hx hy
    by_cases e : c
    · rw [if_pos e]; exact hx
    · rw [if_neg e]; exact hy
  rcases (by omega : k = 7 ∨ k = 8 ∨ k = 9 ∨ k = 10 ∨ k = 11) with c | c | c | c | c <;> subst c
  · exact go (c := 0 ≤ (lg_cmp v1 v2)) (Or.inl rfl) (Or.inr rfl)
  · exact go (c := 0 < (lg_cmp v1 v2)) (Or.inl rfl) (Or.inr rfl)
  · exact go (c := (lg_cmp v1 v2) = 0) (Or.inr rfl) (Or.inl rfl)
  · exact go (c := (lg_cmp v1 v2) < 0) (Or.inl rfl) (Or.inr rfl)
  · exact go (c := (lg_cmp v1 v2) ≤ 0) (Or.inl rfl) (Or.inr rfl)
theorem m_An {d : Nat} {s : List (Nat × Int32)} (h : m_A d true s) : m_A d true ((14, 0) :: s) := by
  intro w
  obtain ⟨v, e, z⟩ := h w
  refine ⟨_, E_no s d v e, fun _ => ?_⟩
  rcases z rfl with c | c <;> subst c <;> decide
/-- what is read leaves such steps -/
def m_J (P : List (Nat × Int32) → Prop) (x : sS) (r : s_R) : Prop := match r with
  | .inl _ => True
  | .inr y => ∃ g, y.2.2 = g ++ x.2.2 ∧ P g
theorem m_Jx {P : List (Nat × Int32) → Prop} {x x' : sS} {r : s_R} (e : x'.2.2 = x.2.2) (h : m_J P x' r) : m_J P x r := by
  unfold m_J at h ⊢
  rw [← e]
  exact h
theorem m_Jm {P Q : List (Nat × Int32) → Prop} {x : sS} {r : s_R} (e : ∀ g, P g → Q g) (h : m_J P x r) : m_J Q x r := by
  cases r with
  | inl _ => trivial
  | inr y =>
    obtain ⟨g, e1, e2⟩ := h
    exact ⟨g, e1, e g e2⟩
theorem i_of13 : ∀ i : Fin 14, (Int32.ofInt (i.val : Int)).toInt = i.val := by decide
theorem J_val {T : gM} {x : sS} : m_J (m_A 1 false) x (s_val T x) := by
  unfold s_val
  by_cases c1 : n_D T x.1 = true
  · rw [if_pos c1]
    by_cases c2 : n_ok T x.1 0 99999 = true
    · rw [if_pos c2]
      by_cases c3 : x.2.1 = 60
      · rw [if_pos c3]; trivial
      · rw [if_neg c3]
        have := n_v_r (M := T) (p := x.1)
        exact ⟨[(0, n_v T x.1)], rfl, fun w => ⟨_, E_num _ 1 this.1 this.2 (Nat.le_refl _), fun h => by cases h⟩⟩
    · rw [if_neg c2]; trivial
  · rw [if_neg c1]
    by_cases c2 : 261 ≤ k_kind T x.1 ∧ k_kind T x.1 ≤ 274
    · rw [if_pos c2]
      by_cases c3 : x.2.1 = 60
      · rw [if_pos c3]; trivial
      · rw [if_neg c3]
        have e := i_of13 ⟨(k_kind T x.1 - 261).toNat, by omega⟩
        dsimp only at e
        rw [show (((k_kind T x.1 - 261).toNat : Nat) : Int) = k_kind T x.1 - 261 by omega] at e
        exact ⟨[(1, Int32.ofInt (k_kind T x.1 - 261))], rfl, fun w => ⟨_, E_wrd _ 1 (k_kind T x.1 - 261).toNat (by omega) (by omega) (Nat.le_refl _), fun h => by cases h⟩⟩
    · rw [if_neg c2]; trivial
/-- what joins -/
theorem s_jo_k {what : Nat} {k : Int} (h : s_jo what k ≠ 0) : (2 ≤ s_jo what k ∧ s_jo what k ≤ 13) ∧ (what ≤ 1 → s_jo what k = 12 ∨ s_jo what k = 13) := by
  unfold s_jo at h ⊢
  by_cases e0 : k = 37
  · simp only [if_pos e0] at h ⊢
    by_cases w : what = 3
    · simp only [if_pos w] at h ⊢
      omega
    · simp only [if_neg w] at h
      exact absurd rfl h
  simp only [if_neg e0] at h ⊢
  by_cases e1 : k = 42
  · simp only [if_pos e1] at h ⊢
    by_cases w : what = 3
    · simp only [if_pos w] at h ⊢
      omega
    · simp only [if_neg w] at h
      exact absurd rfl h
  simp only [if_neg e1] at h ⊢
  by_cases e2 : k = 43
  · simp only [if_pos e2] at h ⊢
    by_cases w : what = 2
    · simp only [if_pos w] at h ⊢
      omega
    · simp only [if_neg w] at h
      exact absurd rfl h
  simp only [if_neg e2] at h ⊢
  by_cases e3 : k = 45
  · simp only [if_pos e3] at h ⊢
    by_cases w : what = 2
    · simp only [if_pos w] at h ⊢
      omega
    · simp only [if_neg w] at h
      exact absurd rfl h
  simp only [if_neg e3] at h ⊢
  by_cases e4 : k = 47
  · simp only [if_pos e4] at h ⊢
    by_cases w : what = 3
    · simp only [if_pos w] at h ⊢
      omega
    · simp only [if_neg w] at h
      exact absurd rfl h
  simp only [if_neg e4] at h ⊢
  by_cases e5 : k = 281
  · simp only [if_pos e5] at h ⊢
    by_cases w : what = 1
    · simp only [if_pos w] at h ⊢
      exact ⟨⟨by decide, by decide⟩, fun _ => Or.inl trivial⟩
    · simp only [if_neg w] at h
      exact absurd rfl h
  simp only [if_neg e5] at h ⊢
  by_cases e6 : k = 282
  · simp only [if_pos e6] at h ⊢
    by_cases w : what = 0
    · simp only [if_pos w] at h ⊢
      exact ⟨⟨by decide, by decide⟩, fun _ => Or.inr trivial⟩
    · simp only [if_neg w] at h
      exact absurd rfl h
  simp only [if_neg e6] at h
  exact absurd rfl h
theorem J_loop {T : gM} {what d : Nat} {b : Bool} {item : sS → s_R} (hi : ∀ x, m_J (m_A d b) x (item x)) (hb : b = true → what ≤ 1) (x0 : sS) : ∀ (n : Nat) (x : sS), (∃ g, x.2.2 = g ++ x0.2.2 ∧ m_A (d + 1) b g) → m_J (m_A (d + 1) b) x0 (s_loop T what item n x) := by
  intro n
  induction n with
  | zero => intro x h; exact h
  | succ n ih =>
    intro x h
    unfold s_loop
    by_cases c : s_jo what (k_kind T x.1) = 0
    · rw [if_pos c]
      exact h
    · rw [if_neg c]
      have z := hi (k_go T x.1, x.2)
      cases hit : item (k_go T x.1, x.2) with
      | inl e => trivial
      | inr y =>
        rw [hit] at z
        obtain ⟨g2, e2, a2⟩ := z
        obtain ⟨g1, e1, a1⟩ := h
        have k := s_jo_k c
        refine ih _ ⟨(s_jo what (k_kind T x.1), 0) :: (g2 ++ g1), ?_, m_A1 k.1.1 k.1.2 (fun h => k.2 (hb h)) a1 a2 (Nat.le_refl _)⟩
        show (s_jo what (k_kind T x.1), 0) :: y.2.2 = _
        rw [e2, e1]
        simp
theorem J_join {T : gM} {what d : Nat} {b : Bool} {item : sS → s_R} (hi : ∀ x, m_J (m_A d b) x (item x)) (hb : b = true → what ≤ 1) (x : sS) : m_J (m_A (d + 1) b) x (s_join T what item x) := by
  unfold s_join
  have z := hi x
  cases hit : item x with
  | inl e => trivial
  | inr y =>
    rw [hit] at z
    obtain ⟨g, e, a⟩ := z
    exact J_loop hi hb x 402 y ⟨g, e, m_Ad a (by omega)⟩
theorem J_term {T : gM} (x : sS) : m_J (m_A 2 false) x (s_term T x) := J_join (fun _ => J_val) (fun h => by cases h) x
theorem J_sum {T : gM} (x : sS) : m_J (m_A 3 false) x (s_sum T x) := J_join J_term (fun h => by cases h) x
theorem s_co_k {k : Int} (h : s_co k ≠ 0) : 7 ≤ s_co k ∧ s_co k ≤ 11 := by
  unfold s_co at h ⊢
  by_cases e0 : k = 60
  · simp only [if_pos e0]; omega
  simp only [if_neg e0] at h ⊢
  by_cases e1 : k = 61
  · simp only [if_pos e1]; omega
  simp only [if_neg e1] at h ⊢
  by_cases e2 : k = 62
  · simp only [if_pos e2]; omega
  simp only [if_neg e2] at h ⊢
  by_cases e3 : k = 258
  · simp only [if_pos e3]; omega
  simp only [if_neg e3] at h ⊢
  by_cases e4 : k = 259
  · simp only [if_pos e4]; omega
  simp only [if_neg e4] at h
  exact absurd rfl h
theorem J_cmp {T : gM} (x : sS) : m_J (m_A 4 true) x (s_cmp T x) := by
  unfold s_cmp
  have z := J_sum (T := T) x
  cases hit : s_sum T x with
  | inl e => trivial
  | inr y =>
    rw [hit] at z
    obtain ⟨g1, e1, a1⟩ := z
    show m_J (m_A 4 true) x (s_cmp2 T y)
    unfold s_cmp2
    by_cases c0 : s_co (k_kind T y.1) = 0
    · rw [if_pos c0]; trivial
    rw [if_neg c0]
    by_cases c1 : y.2.1 = 60
    · rw [if_pos c1]; trivial
    rw [if_neg c1]
    have z := J_sum (T := T) (k_go T y.1, y.2.1 + 1, y.2.2)
    cases hit2 : s_sum T (k_go T y.1, y.2.1 + 1, y.2.2) with
    | inl e => trivial
    | inr y2 =>
      rw [hit2] at z
      obtain ⟨g2, e2, a2⟩ := z
      have k := s_co_k c0
      refine ⟨(s_co (k_kind T y.1), 0) :: (g2 ++ g1), ?_, m_Ac k.1 k.2 (m_Ad a1 (by omega)) a2 (Nat.le_refl _)⟩
      show (s_co (k_kind T y.1), 0) :: y2.2.2 = _
      rw [e2]
      show (s_co (k_kind T y.1), 0) :: (g2 ++ y.2.2) = _
      rw [e1]
      simp
theorem J_fact {T : gM} : ∀ (n d : Nat) (x : sS), m_J (m_A (4 + 2 * n) true) x (s_fact T n d x) := by
  intro n
  induction n with
  | zero => intro d x; trivial
  | succ n ih =>
    intro d x
    unfold s_fact
    by_cases c1 : k_kind T x.1 = 91
    · rw [if_pos c1]
      by_cases c2 : 10 ≤ d
      · rw [if_pos c2]; trivial
      rw [if_neg c2]
      have z := J_join (T := T) (what := 0) (J_join (T := T) (what := 1) (ih (d + 1)) (fun _ => by omega)) (fun _ => by omega) (k_go T x.1, x.2)
      cases hit : s_join T 0 (s_join T 1 (s_fact T n (d + 1))) (k_go T x.1, x.2) with
      | inl e => trivial
      | inr y =>
        rw [hit] at z
        show m_J _ x (s_close T y)
        unfold s_close
        by_cases c3 : k_kind T y.1 = 93
        · rw [if_pos c3]
          exact z
        · rw [if_neg c3]; trivial
    rw [if_neg c1]
    by_cases c2 : k_kind T x.1 = 280
    · rw [if_pos c2]
      by_cases c3 : 10 ≤ d
      · rw [if_pos c3]; trivial
      rw [if_neg c3]
      have z := ih (d + 1) (k_go T x.1, x.2)
      cases hit : s_fact T n (d + 1) (k_go T x.1, x.2) with
      | inl e => trivial
      | inr y =>
        rw [hit] at z
        obtain ⟨g, e, a⟩ := z
        refine ⟨(14, 0) :: g, ?_, m_An (m_Ad a (by omega))⟩
        show (14, 0) :: y.2.2 = _
        rw [e]
        rfl
    rw [if_neg c2]
    exact m_Jm (fun g h => m_Ad h (by omega)) (J_cmp x)
theorem J_tested {T : gM} (x : sS) : m_J (m_A 28 true) x (s_J T 0 0 x) := J_join (what := 0) (J_join (what := 1) (fun x => J_fact 11 0 x) (fun _ => by omega)) (fun _ => by omega) x
