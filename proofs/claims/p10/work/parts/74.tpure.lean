/-! TESTS: what still waits, and what becomes of the reading -/
theorem s_b_a {r : s_R} {f g : sS → s_R} : s_b (s_b r f) g = s_b r (fun y => s_b (f y) g) := by
  cases r <;> rfl
theorem s_b_r {r : s_R} : s_b r .inr = r := by
  cases r <;> rfl
def s_mo (f : sS → s_R) : Prop := ∀ x y, f x = .inr y → x.1 ≤ y.1
theorem s_mo_b {r : s_R} {f : sS → s_R} {p : Nat} (h1 : ∀ z, r = .inr z → p ≤ z.1) (h2 : ∀ z y, p ≤ z.1 → f z = .inr y → p ≤ y.1) {y : sS} (h : s_b r f = .inr y) : p ≤ y.1 := by
  cases r with
  | inl e => cases h
  | inr z => exact h2 z y (h1 z rfl) h
theorem s_jo_lt {what : Nat} {T : gM} {p : Nat} (h : ¬ s_jo what (k_kind T p) = 0) : p < n_s T := by
  refine k_kind_lt (fun e => h ?_)
  rw [e]
  rfl
theorem s_loop_mo {T : gM} {what : Nat} {item : sS → s_R} (m : s_mo item) : ∀ (n : Nat), s_mo (s_loop T what item n) := by
  intro n
  induction n with
  | zero => intro x y h; cases h; exact Nat.le_refl _
  | succ n ih =>
    intro x y h
    have h : (if s_jo what (k_kind T x.1) = 0 then .inr x else s_b (item (k_go T x.1, x.2)) (fun y => s_loop T what item n (s_push y (s_jo what (k_kind T x.1), 0)))) = (.inr y : s_R) := h
    by_cases c : s_jo what (k_kind T x.1) = 0
    · rw [if_pos c] at h
      cases h
      exact Nat.le_refl _
    · rw [if_neg c] at h
      have g : x.1 ≤ k_go T x.1 := k_go_le
      exact s_mo_b (p := x.1) (f := fun y => s_loop T what item n (s_push y (s_jo what (k_kind T x.1), 0))) (fun z hz => Nat.le_trans g (m _ _ hz)) (fun z y2 hz hy => Nat.le_trans hz (ih (s_push z (s_jo what (k_kind T x.1), 0)) _ hy)) h
theorem s_join_mo {T : gM} {what : Nat} {item : sS → s_R} (m : s_mo item) : s_mo (s_join T what item) := by
  intro x y h
  exact s_mo_b (p := x.1) (fun z hz => m _ _ hz) (fun z y2 hz hy => Nat.le_trans hz (s_loop_mo m _ _ _ hy)) h
theorem s_val_mo {T : gM} : s_mo (s_val T) := by
  intro x y h
  have g : x.1 ≤ k_go T x.1 := k_go_le
  unfold s_val at h
  split at h
  · split at h
    · split at h
      · cases h
      · cases h; exact g
    · cases h
  · split at h
    · split at h
      · cases h
      · cases h; exact g
    · cases h
theorem s_sum_mo {T : gM} : s_mo (s_sum T) := s_join_mo (s_join_mo s_val_mo)
theorem s_cmp_mo {T : gM} : s_mo (s_cmp T) := by
  intro x y h
  refine s_mo_b (p := x.1) (fun z hz => s_sum_mo _ _ hz) (fun z y2 hz hy => ?_) h
  unfold s_cmp2 at hy
  split at hy
  · cases hy
  · split at hy
    · cases hy
    · have g : z.1 ≤ k_go T z.1 := k_go_le
      exact s_mo_b (p := x.1) (fun z2 hz2 => Nat.le_trans hz (Nat.le_trans g (s_sum_mo _ _ hz2))) (fun z2 y3 hz2 hy3 => by cases hy3; exact hz2) hy
theorem s_fact_mo {T : gM} : ∀ (n d : Nat), s_mo (s_fact T n d) := by
  intro n
  induction n with
  | zero => intro d x y h; cases h
  | succ n ih =>
    intro d x y h
    have g : x.1 ≤ k_go T x.1 := k_go_le
    unfold s_fact at h
    split at h
    · split at h
      · cases h
      · refine s_mo_b (p := x.1) (fun z hz => Nat.le_trans g (s_join_mo (s_join_mo (ih (d + 1))) _ _ hz)) (fun z y2 hz hy => ?_) h
        unfold s_close at hy
        split at hy
        · cases hy
          exact Nat.le_trans hz k_go_le
        · cases hy
    · split at h
      · split at h
        · cases h
        · exact s_mo_b (p := x.1) (fun z hz => Nat.le_trans g (ih _ _ _ hz)) (fun z y2 hz hy => by cases hy; exact hz) h
      · exact s_cmp_mo _ _ h
theorem s_F_mo {T : gM} {d : Nat} : s_mo (s_F T d) := s_fact_mo _ _
theorem s_loop_end {T : gM} {what : Nat} {item : sS → s_R} {n : Nat} {x : sS} (h : s_jo what (k_kind T x.1) = 0) : s_loop T what item n x = .inr x := by
  cases n with
  | zero => rfl
  | succ n =>
    show (if s_jo what (k_kind T x.1) = 0 then _ else _) = _
    rw [if_pos h]
/-- enough is enough -/
theorem s_loop_n {T : gM} {what : Nat} {item : sS → s_R} (m : s_mo item) : ∀ (n n2 : Nat) (x : sS), n_s T - x.1 ≤ n → n_s T - x.1 ≤ n2 → s_loop T what item n x = s_loop T what item n2 x := by
  intro n
  induction n with
  | zero =>
    intro n2 x h1 h2
    have c : s_jo what (k_kind T x.1) = 0 := by
      by_cases c : s_jo what (k_kind T x.1) = 0
      · exact c
      · have := s_jo_lt c
        omega
    rw [s_loop_end c, s_loop_end c]
  | succ n ih =>
    intro n2 x h1 h2
    by_cases c : s_jo what (k_kind T x.1) = 0
    · rw [s_loop_end c, s_loop_end c]
    · have lt := s_jo_lt c
      obtain ⟨n2, rfl⟩ : ∃ n', n2 = n' + 1 := ⟨n2 - 1, by omega⟩
      show (if s_jo what (k_kind T x.1) = 0 then _ else _) = (if s_jo what (k_kind T x.1) = 0 then _ else _)
      rw [if_neg c, if_neg c]
      have g := (k_go_r lt).1
      cases e : item (k_go T x.1, x.2) with
      | inl _ => rfl
      | inr y =>
        have g2 : k_go T x.1 ≤ y.1 := m _ _ e
        refine ih n2 _ ?_ ?_
        · show n_s T - y.1 ≤ n
          omega
        · show n_s T - y.1 ≤ n2
          omega
theorem s_loop_S {T : gM} {what : Nat} {item : sS → s_R} {n : Nat} {x : sS} : s_loop T what item (n + 1) x = (if s_jo what (k_kind T x.1) = 0 then .inr x else s_b (item (k_go T x.1, x.2)) (fun y => s_loop T what item n (s_push y (s_jo what (k_kind T x.1), 0)))) := rfl
theorem s_loop_gn {T : gM} {what : Nat} {item : sS → s_R} (m : s_mo item) {x : sS} {n : Nat} (h : n_s T ≤ n) (c : ¬ s_jo what (k_kind T x.1) = 0) : s_loop T what item n x = s_b (item (k_go T x.1, x.2)) (fun y => s_loop T what item n (s_push y (s_jo what (k_kind T x.1), 0))) := (s_loop_n m n (n + 1) x (by omega) (by omega)).trans (s_loop_S.trans (if_neg c))
theorem s_loop_go {T : gM} (B : z_B T) {what : Nat} {item : sS → s_R} (m : s_mo item) {x : sS} (c : ¬ s_jo what (k_kind T x.1) = 0) : s_loop T what item 402 x = s_b (item (k_go T x.1, x.2)) (fun y => s_loop T what item 402 (s_push y (s_jo what (k_kind T x.1), 0))) := s_loop_gn m (Nat.le_trans B.2 (by decide)) c
