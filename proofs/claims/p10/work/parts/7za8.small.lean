/-! feed, end, force, seed: all that the rest looks at stands -/
/-- nothing of it moved -/
theorem w_P_F {N : Nat → Prop} {S : Nat} {M M1 M2 : gM} (P : w_P M) (hl : 197 ≤ M.1.length) (hl1 : 197 ≤ M1.1.length) (f : w_F N M M1) (h11 : M1.2.2.2 2 11 = M.2.2.2 2 11) (h12 : M1.2.1 2 12 = M.2.1 2 12)
    (h1 : ∀ i, N i → ((i < 9 ∨ 13 < i) ∧ (i < 19 ∨ i = 20 ∨ 120 < i)) ∧ (i < 125 ∨ (130 < i ∧ i < 151) ∨ (174 < i ∧ i < 197)) ∧ i ≠ 3) (r : ∀ i, y_cs i → M1.2.1 i = M.2.1 i) (f2 : y_Fr S M1 M2) (h : Nat.land S (2 ^ 2 + 2 ^ 25 + 2 ^ 42 + 2 ^ 44 + 2 ^ 45 + 2 ^ 50 + 2 ^ 52 + 2 ^ 58) = 0) : w_P M2 := by
  obtain ⟨e, σ, nx, sz, P, I, rc, Rr, C, E⟩ := P
  have C1 := w_C_F C hl f h11 h12 h1
  have E1 := w_E_c E r
  refine ⟨e, σ, nx, sz, P, I, rc, Rr, w_C_r C1 hl1 f2, w_E_r E1 f2 ?_ ?_⟩
  · have e1 : ∀ j, (2 ^ 2 + 2 ^ 25 + 2 ^ 42 + 2 ^ 44 + 2 ^ 45 + 2 ^ 52 + 2 ^ 58).testBit j = true → (2 ^ 2 + 2 ^ 25 + 2 ^ 42 + 2 ^ 44 + 2 ^ 45 + 2 ^ 50 + 2 ^ 52 + 2 ^ 58).testBit j = true := by
      intro j hj
      have hlt : j < 59 := by
        rcases Nat.lt_or_ge j 59 with q | q
        · exact q
        · rw [Nat.testBit_lt_two_pow (Nat.lt_of_lt_of_le (show (2 ^ 2 + 2 ^ 25 + 2 ^ 42 + 2 ^ 44 + 2 ^ 45 + 2 ^ 52 + 2 ^ 58 : Nat) < 2 ^ 59 by decide) (Nat.pow_le_pow_right (by decide) q))] at hj
          cases hj
      have key : (List.range 59).all (fun j => !((2 ^ 2 + 2 ^ 25 + 2 ^ 42 + 2 ^ 44 + 2 ^ 45 + 2 ^ 52 + 2 ^ 58 : Nat).testBit j) || (2 ^ 2 + 2 ^ 25 + 2 ^ 42 + 2 ^ 44 + 2 ^ 45 + 2 ^ 50 + 2 ^ 52 + 2 ^ 58 : Nat).testBit j) = true := by decide +kernel
      have := List.all_eq_true.mp key j (List.mem_range.mpr hlt)
      rw [hj] at this
      simpa using this
    refine Nat.eq_of_testBit_eq (fun j => ?_)
    have : (S &&& (2 ^ 2 + 2 ^ 25 + 2 ^ 42 + 2 ^ 44 + 2 ^ 45 + 2 ^ 52 + 2 ^ 58)).testBit j = false := by
      rw [Nat.testBit_and]
      by_cases c : (2 ^ 2 + 2 ^ 25 + 2 ^ 42 + 2 ^ 44 + 2 ^ 45 + 2 ^ 52 + 2 ^ 58 : Nat).testBit j = true
      · rw [y_dis h (e1 j c), Bool.false_and]
      · rw [b_ff c, Bool.and_false]
    rw [Nat.zero_testBit]
    exact this
  · rw [funext (fun q => y_fa (i := 185) f2 (by decide) (y_dis h (by decide)) q)]
    exact E1.1.1.1
theorem C_append_F {v : Int32} : ∀ (j fuel : Nat) {s : Int32} {M : gM} {n : Nat}, u_Z M → s.toInt = 8 * (j : Int) - 8 → j ≤ 4 → (M.2.1 131 6).toInt = (n : Int) → n + j ≤ 400 → j < fuel → Ok (F_X9_append_L3 fuel (some 131) v s M) (fun M' => ((M'.1 = M.1 ∧ M'.2.2.2 = M.2.2.2) ∧ ∀ i, ¬ (i = 131 ∨ i = 132) → M'.2.1 i = M.2.1 i) ∧ (M'.2.1 131 6).toInt = ((n + j : Nat) : Int)) := by
  intro j
  induction j with
  | zero =>
    intro fuel s M n Z hs hj hn hb hf
    obtain ⟨fuel, rfl⟩ : ∃ f, fuel = f + 1 := ⟨fuel - 1, by omega⟩
    show Ok (F_X9_append_b3 (F_X9_append_L3 fuel) (some 131) v s M) _
    delta F_X9_append_b3
    rw [if_pos (Int32.lt_iff_toInt_lt.mpr (by have z0 : (0 : Int32).toInt = 0 := rfl; omega))]
    exact Ok_s ⟨⟨⟨rfl, rfl⟩, fun _ _ => rfl⟩, hn⟩
  | succ j ih =>
    intro fuel s M n Z hs hj hn hb hf
    obtain ⟨fuel, rfl⟩ : ∃ f, fuel = f + 1 := ⟨fuel - 1, by omega⟩
    show Ok (F_X9_append_b3 (F_X9_append_L3 fuel) (some 131) v s M) _
    have z0 : (0 : Int32).toInt = 0 := rfl
    have z4 : (400 : Int32).toInt = 400 := rfl
    obtain ⟨⟨k1, k2⟩, r0⟩ := Z
    have Z0 : u_Z M := ⟨⟨k1, k2⟩, r0⟩
    have s32 : sB M (some 132) (M.2.1 131 6) ((v >>> (s &&& 31)).toInt8.toInt32) = some (mI M 132 n (u_b v s)) := by
      unfold sB
      rw [Option.bind_some, if_pos ⟨by rw [k2], by rw [k2]; exact gin_of (by omega) (by omega)⟩, i_cl hn]
      rfl
    have k1' : g_k (mI M 132 n (u_b v s)) 131 = (9, 0) := k1
    have e6 : (mI M 132 n (u_b v s)).2.1 131 6 = M.2.1 131 6 := mI_ne (Or.inl (by decide))
    delta F_X9_append_b3
    rw [if_neg (fun z => by have := i_lt z; omega), t_gI k1, Option.bind_some, if_neg (fun z => by have := i_le z; omega), t_gR k1 r0, Option.bind_some, Option.bind_some, s32, Option.bind_some, t_gI k1', Option.bind_some, t_pI k1', Option.bind_some, e6, n_inc hn (by omega)]
    have a2 := i_addc (x := s) (c := (-8 : Int32)) (n := -8) rfl (by omega) (by omega)
    refine Ok_w (ih fuel (s := s + (-8)) (n := n + 1) (u_Zm (u_Zm Z0)) (by omega) (by omega) (by rw [y_mI1, i_ofNat (by omega)]) (by omega) (by omega)) (fun M' z => ?_)
    obtain ⟨⟨⟨q1, q2⟩, q3⟩, q4⟩ := z
    exact ⟨⟨⟨q1, q2⟩, fun i hi => (q3 i hi).trans ((g_up_ne _ _ _ (fun e => hi (Or.inl e))).trans (g_up_ne _ _ _ (fun e => hi (Or.inr e))))⟩, by rw [q4]; omega⟩
theorem C_appendF {v : Int32} {M : gM} {n : Nat} (Z : u_Z M) (hn : (M.2.1 131 6).toInt = (n : Int)) (hb : n + 4 ≤ 400) : Ok (F_X9_append (some 131) v M) (fun M' => ((M'.1 = M.1 ∧ M'.2.2.2 = M.2.2.2) ∧ ∀ i, ¬ (i = 131 ∨ i = 132) → M'.2.1 i = M.2.1 i) ∧ (M'.2.1 131 6).toInt = ((n + 4 : Nat) : Int)) := by
  delta F_X9_append F_X9_append_b0
  exact C_append_F 4 _ Z rfl (by decide) hn hb (by decide)
theorem C_feedF {v1 v2 v3 v4 v5 : Int32} {M : gM} {n : Nat} (k2 : g_k M 2 = (11, 0)) (r2 : M.2.2.2 2 0 = some 131) (Z : u_Z M) (hn : (M.2.1 131 6).toInt = (n : Int)) (hb : n ≤ 400) : Ok (F_X11_feed (some 2) v1 v2 v3 v4 v5 M) (fun r => (r.2.1 = M.1 ∧ r.2.2.2.2 = M.2.2.2) ∧ ∀ i, ¬ (i = 131 ∨ i = 132) → r.2.2.1 i = M.2.1 i) := by
  have z400 : (400 : Int32).toInt = 400 := rfl
  have a := i_addc (x := M.2.1 131 6) (c := (20 : Int32)) (n := 20) rfl (by omega) (by omega)
  delta F_X11_feed F_X11_feed_b0
  rw [t_gR k2 r2, Option.bind_some, t_gI Z.1.1, Option.bind_some]
  by_cases c : n + 20 ≤ 400
  · rw [if_pos (Int32.le_iff_toInt_le.mpr (by omega)), Option.bind_some, t_gO Z.1.1, Option.bind_some]
    refine Ok_b (C_appendF (v := v1) Z hn (by omega)) (fun M1 z1 => ?_)
    obtain ⟨⟨⟨a1, b1⟩, c1⟩, d1⟩ := z1
    have Z1 := u_Zk Z a1 b1
    have k21 : g_k M1 2 = (11, 0) := (q_k_of a1).trans k2
    have r21 : M1.2.2.2 2 0 = some 131 := by rw [b1]; exact r2
    rw [t_gR k21 r21, Option.bind_some, t_gO Z1.1.1, Option.bind_some]
    refine Ok_b (C_appendF (v := v2) Z1 d1 (by omega)) (fun M2 z2 => ?_)
    obtain ⟨⟨⟨a2, b2⟩, c2⟩, d2⟩ := z2
    have Z2 := u_Zk Z1 a2 b2
    have k22 : g_k M2 2 = (11, 0) := (q_k_of a2).trans k21
    have r22 : M2.2.2.2 2 0 = some 131 := by rw [b2]; exact r21
    rw [t_gR k22 r22, Option.bind_some, t_gO Z2.1.1, Option.bind_some]
    refine Ok_b (C_appendF (v := v3) Z2 d2 (by omega)) (fun M3 z3 => ?_)
    obtain ⟨⟨⟨a3, b3⟩, c3⟩, d3⟩ := z3
    have Z3 := u_Zk Z2 a3 b3
    have k23 : g_k M3 2 = (11, 0) := (q_k_of a3).trans k22
    have r23 : M3.2.2.2 2 0 = some 131 := by rw [b3]; exact r22
    rw [t_gR k23 r23, Option.bind_some, t_gO Z3.1.1, Option.bind_some]
    refine Ok_b (C_appendF (v := v4) Z3 d3 (by omega)) (fun M4 z4 => ?_)
    obtain ⟨⟨⟨a4, b4⟩, c4⟩, d4⟩ := z4
    have Z4 := u_Zk Z3 a4 b4
    have k24 : g_k M4 2 = (11, 0) := (q_k_of a4).trans k23
    have r24 : M4.2.2.2 2 0 = some 131 := by rw [b4]; exact r23
    rw [t_gR k24 r24, Option.bind_some, t_gO Z4.1.1, Option.bind_some]
    refine Ok_b (C_appendF (v := v5) Z4 d4 (by omega)) (fun M5 z5 => ?_)
    obtain ⟨⟨⟨a5, b5⟩, c5⟩, d5⟩ := z5
    have Z5 := u_Zk Z4 a5 b5
    have k25 : g_k M5 2 = (11, 0) := (q_k_of a5).trans k24
    have r25 : M5.2.2.2 2 0 = some 131 := by rw [b5]; exact r24
    rw [t_gR k25 r25, Option.bind_some, t_gI Z5.1.1, Option.bind_some]
    exact Ok_s ⟨⟨a5.trans (a4.trans (a3.trans (a2.trans a1))), b5.trans (b4.trans (b3.trans (b2.trans b1)))⟩, fun i hi => (c5 i hi).trans ((c4 i hi).trans ((c3 i hi).trans ((c2 i hi).trans (c1 i hi))))⟩
  · rw [if_neg (fun z => by have := i_le z; omega)]
    exact Ok_s ⟨⟨rfl, rfl⟩, fun _ _ => rfl⟩
theorem lw9_feed {L : Nat} {v1 v2 v3 v4 v5 : Int32} {M : gM} (R : lw9 L M) : lw_42 L M (F_X11_feed (some 2) v1 v2 v3 v4 v5 M) (F_X12_feed (some 175) v1 v2 v3 v4 v5) := by
  obtain ⟨w, M1, M2, ⟨e1, B1, s1⟩, e2, R2, s2⟩ := lw8_feed (v1 := v1) (v2 := v2) (v3 := v3) (v4 := v4) (v5 := v5) R.1
  have R8 := R.1
  obtain ⟨⟨n1, n2⟩, n4⟩ := lw_n R8.1.1
  obtain ⟨⟨k2, r2⟩, Z⟩ := lw_k2 R8.1.1.1
  obtain ⟨r1, er1, ⟨z1, z2⟩, z3⟩ := C_feedF (v1 := v1) (v2 := v2) (v3 := v3) (v4 := v4) (v5 := v5) k2 r2 Z n2 n4
  have x1 := o_eq er1 e1
  subst x1
  obtain ⟨r2, er2, y2⟩ := S_X12_feed (l1 := v1) (l2 := v2) (l3 := v3) (l4 := v4) (l5 := v5) B1.1.1.2
  have x2 := o_eq er2 e2
  subst x2
  exact ⟨w, M1, M2, ⟨e1, B1, s1⟩, e2, ⟨R2, w_P_F R.2 (lw8_len R8.1.1.1) (lw8_len B1) (w_F_of (N := fun i => i = 131 ∨ i = 132) z1 z2 z3) (by rw [z2]) (by rw [z3 2 (by omega)]) (fun i z => by omega) (fun i hi => z3 i (by unfold y_cs at hi; omega)) y2.2.2 (by decide)⟩, s2⟩
theorem lw9_end {L : Nat} {l : Int32} {M : gM} (R : lw9 L M) : lw_42 L M (F_X11_end (some 2) l M) (F_X12_end (some 175) l) := by
  obtain ⟨w, M1, M2, ⟨e1, B1, s1⟩, e2, R2, s2⟩ := lw8_end (l := l) R.1
  have R8 := R.1
  obtain ⟨⟨k2, r2⟩, Z⟩ := lw_k2 R8.1.1.1
  have E1 := C_end (l := l) k2 r2 Z
  have F : (M1.1 = M.1 ∧ M1.2.2.2 = M.2.2.2) ∧ ∀ i, ¬ i = 131 → M1.2.1 i = M.2.1 i := by
    have x := o_eq E1 e1
    by_cases c : l < 0
    · rw [if_pos c] at x
      cases x
      exact ⟨⟨rfl, rfl⟩, fun _ _ => rfl⟩
    · rw [if_neg c] at x
      by_cases d : l ≤ M.2.1 131 6
      · rw [if_pos d] at x
        cases x
        exact ⟨⟨rfl, rfl⟩, fun i hi => g_up_ne _ _ _ hi⟩
      · rw [if_neg d] at x
        cases x
        exact ⟨⟨rfl, rfl⟩, fun _ _ => rfl⟩
  obtain ⟨r2, er2, y2⟩ := S_X12_end (l1 := l) B1.1.1.2
  have x2 := o_eq er2 e2
  subst x2
  exact ⟨w, M1, M2, ⟨e1, B1, s1⟩, e2, ⟨R2, w_P_F R.2 (lw8_len R8.1.1.1) (lw8_len B1) (w_F_of (N := fun i => i = 131) F.1.1 F.1.2 F.2) (by rw [F.1.2]) (by rw [F.2 2 (by omega)]) (fun i z => by omega) (fun i hi => F.2 i (by unfold y_cs at hi; omega)) y2.2.2 (by decide)⟩, s2⟩
theorem w_F_2 {M : gM} {k : Nat} {v : Int32} : w_F (fun i => i = 2) M (mI M 2 k v) := w_F_mI rfl
theorem lw9_force {L : Nat} {l : Int32} {M : gM} (R : lw9 L M) : lw_42 L M (F_X11_force (some 2) l M) (F_X12_force (some 175) l) := by
  obtain ⟨w, M1, M2, ⟨e1, B1, s1⟩, e2, R2, s2⟩ := lw8_force (l := l) R.1
  have R8 := R.1
  have K := R8.1.1.1.2.1.1.1
  have E1 := C_force (l := l) K.2
  have F : M1 = M ∨ M1 = mI M 2 13 l := by
    have x := o_eq E1 e1
    by_cases c : l < -1
    · rw [if_pos c] at x
      cases x
      exact Or.inl rfl
    · rw [if_neg c] at x
      by_cases d : l < M.2.1 2 12
      · rw [if_pos d] at x
        cases x
        exact Or.inr rfl
      · rw [if_neg d] at x
        cases x
        exact Or.inl rfl
  obtain ⟨r2, er2, y2, _⟩ := S_X12_force (l1 := l) B1.1.1.2 B1.1.2
  have x2 := o_eq er2 e2
  subst x2
  refine ⟨w, M1, M2, ⟨e1, B1, s1⟩, e2, ⟨R2, ?_⟩, s2⟩
  rcases F with F | F <;> subst F
  · exact w_P_F (N := fun i => i = 2) R.2 (lw8_len R8.1.1.1) (lw8_len B1) w_F_r rfl rfl (fun i z => by omega) (fun i hi => rfl) y2.2.2 (by decide)
  · exact w_P_F R.2 (lw8_len R8.1.1.1) (lw8_len B1) w_F_2 rfl (mI_ne (Or.inr (by decide))) (fun i z => by omega) (fun i hi => g_up_ne _ _ _ (by unfold y_cs at hi; omega)) y2.2.2 (by decide)
theorem lw9_seed {L : Nat} {l : Int32} {M : gM} (R : lw9 L M) : lw_42 L M (F_X11_seed (some 2) l M) (F_X12_seed (some 175) l) := by
  obtain ⟨w, M1, M2, ⟨e1, B1, s1⟩, e2, R2, s2⟩ := lw8_seed (l := l) R.1
  have R8 := R.1
  have E1 := S_X11_seed (l1 := l) R8.1.1.1.2.1.1.1
  have F : M1 = M ∨ M1 = mI M 2 14 l := by
    have x := o_eq E1 e1
    by_cases c : 0 ≤ l
    · rw [if_pos c] at x
      cases x
      exact Or.inr rfl
    · rw [if_neg c] at x
      cases x
      exact Or.inl rfl
  obtain ⟨r2, er2, y2⟩ := S_X12_seed (l1 := l) B1.1.1.2
  have x2 := o_eq er2 e2
  subst x2
  refine ⟨w, M1, M2, ⟨e1, B1, s1⟩, e2, ⟨R2, ?_⟩, s2⟩
  rcases F with F | F <;> subst F
  · exact w_P_F (N := fun i => i = 2) R.2 (lw8_len R8.1.1.1) (lw8_len B1) w_F_r rfl rfl (fun i z => by omega) (fun i hi => rfl) y2.1.2 (by decide)
  · exact w_P_F R.2 (lw8_len R8.1.1.1) (lw8_len B1) w_F_2 rfl (mI_ne (Or.inr (by decide))) (fun i z => by omega) (fun i hi => g_up_ne _ _ _ (by unfold y_cs at hi; omega)) y2.1.2 (by decide)
