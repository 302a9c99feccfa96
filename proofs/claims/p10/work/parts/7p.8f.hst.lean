/-! a State cleared, a State copied, a House made: exactly -/
def k_Fs (s : Nat) (M M' : gM) : Prop := ((M'.1 = M.1 ∧ M'.2.2.1 = M.2.2.1) ∧ M'.2.2.2 = M.2.2.2) ∧ ∀ i, i < s ∨ s + 4 < i → M'.2.1 i = M.2.1 i
theorem k_Fs_up {s : Nat} {M : gM} {i k : Nat} {v : Int32} (h : s ≤ i ∧ i ≤ s + 4) : k_Fs s M (mI M i k v) := ⟨⟨⟨rfl, rfl⟩, rfl⟩, fun j hj => g_up_ne _ _ _ (by omega)⟩
theorem k_Fs_tr {s : Nat} {M M1 M2 : gM} (h1 : k_Fs s M M1) (h2 : k_Fs s M1 M2) : k_Fs s M M2 := ⟨⟨⟨h2.1.1.1.trans h1.1.1.1, h2.1.1.2.trans h1.1.1.2⟩, h2.1.2.trans h1.1.2⟩, fun i h => (h2.2 i h).trans (h1.2 i h)⟩
theorem k_Fs_rf {s : Nat} {M : gM} : k_Fs s M M := ⟨⟨⟨rfl, rfl⟩, rfl⟩, fun _ _ => rfl⟩
theorem k_Fs_LS {s : Nat} {M M' : gM} {s2 : Nat} (h : k_LS M s2) (f : k_Fs s M M') : k_LS M' s2 := k_LSm h (fun i => q_k_of f.1.1.1) f.1.2
theorem C_clear_L30 {s : Nat} : ∀ (n j : Nat) {l : Int32} {M : gM}, k_LS M s → l.toInt = (j : Int) → j ≤ 7 → 7 - j < n → Ok (F_X8_clear_L30 n (some s) l M) (fun M' => k_Fs s M M' ∧ ((M'.2.1 s 4 = 0 ∧ M'.2.1 s 5 = 0) ∧ M'.2.1 s 6 = 0) ∧ (∀ k, M'.2.1 (s + 1) k = M.2.1 (s + 1) k ∧ M'.2.1 (s + 2) k = M.2.1 (s + 2) k) ∧ ∀ k, k < 7 → (j ≤ k → M'.2.1 (s + 3) k = 0 ∧ M'.2.1 (s + 4) k = -1) ∧ (k < j → M'.2.1 (s + 3) k = M.2.1 (s + 3) k ∧ M'.2.1 (s + 4) k = M.2.1 (s + 4) k)) := by
  intro n
  induction n with
  | zero => intro j l M L hl hj hn; omega
  | succ n ih =>
    intro j l M L hl hj hn
    have L0 := L
    obtain ⟨⟨k, ⟨k1, k2⟩, k3, k4⟩, ⟨r0, r1⟩, r2, r3⟩ := L
    have z7 : (7 : Int32).toInt = 7 := rfl
    show Ok (F_X8_clear_b30 (F_X8_clear_L30 n) (some s) l M) _
    delta F_X8_clear_b30
    refine Ok_i (fun c => ?_) (fun c => ?_)
    · have c := i_le c
      refine x_pI k (x_pI k (x_pI k ?_))
      refine Ok_s ⟨k_Fs_tr (k_Fs_up (by omega)) (k_Fs_tr (k_Fs_up (by omega)) (k_Fs_up (by omega))), ⟨⟨?_, ?_⟩, ?_⟩, fun b => ⟨?_, ?_⟩, fun b hb => ⟨fun h => by omega, fun h => ⟨?_, ?_⟩⟩⟩
      · rw [mI_ne (Or.inr (by decide)), mI_ne (Or.inr (by decide)), y_mI1]
      · rw [mI_ne (Or.inr (by decide)), y_mI1]
      · rw [y_mI1]
      · rw [mI_ne (Or.inl (by omega)), mI_ne (Or.inl (by omega)), mI_ne (Or.inl (by omega))]
      · rw [mI_ne (Or.inl (by omega)), mI_ne (Or.inl (by omega)), mI_ne (Or.inl (by omega))]
      · rw [mI_ne (Or.inl (by omega)), mI_ne (Or.inl (by omega)), mI_ne (Or.inl (by omega))]
      · rw [mI_ne (Or.inl (by omega)), mI_ne (Or.inl (by omega)), mI_ne (Or.inl (by omega))]
    · have c := i_nle c
      have inc : (l + 1).toInt = ((j + 1 : Nat) : Int) := by rw [i_addc (n := 1) rfl (by omega) (by omega)]; omega
      refine x_gR k r2 (x_sI k3 hl (by omega) ?_)
      refine x_gR k r3 (x_sI k4 hl (by omega) ?_)
      have f : k_Fs s M (mI (mI M (s + 3) j 0) (s + 4) j (-1)) := k_Fs_tr (k_Fs_up (by omega)) (k_Fs_up (by omega))
      refine Ok_w (ih (j + 1) (k_Fs_LS L0 f) inc (by omega) (by omega)) (fun M' z => ?_)
      obtain ⟨z1, z2, z3, z4⟩ := z
      refine ⟨k_Fs_tr f z1, z2, fun b => ?_, fun b hb => ⟨fun h => ?_, fun h => ?_⟩⟩
      · have := z3 b
        rw [mI_ne (Or.inl (by omega)), mI_ne (Or.inl (by omega)), mI_ne (Or.inl (by omega)), mI_ne (Or.inl (by omega))] at this
        exact this
      · by_cases e : b = j
        · subst e
          have := (z4 b hb).2 (by omega)
          rw [mI_ne (Or.inl (by omega)), y_mI1, y_mI1] at this
          exact this
        · exact (z4 b hb).1 (by omega)
      · have := (z4 b hb).2 (by omega)
        rw [mI_ne (Or.inl (by omega)), mI_ne (Or.inr (by omega)), mI_ne (Or.inr (by omega)), mI_ne (Or.inl (by omega))] at this
        exact this
theorem C_clear_L2 {s : Nat} : ∀ (n j : Nat) {l : Int32} {M : gM}, k_LS M s → l.toInt = (j : Int) → j ≤ 49 → 49 - j < n → Ok (F_X8_clear_L2 n (some s) l M) (fun M' => k_Fs s M M' ∧ (((M'.2.1 s 4 = 0 ∧ M'.2.1 s 5 = 0) ∧ M'.2.1 s 6 = 0) ∧ ∀ k, k < 7 → M'.2.1 (s + 3) k = 0 ∧ M'.2.1 (s + 4) k = -1) ∧ ∀ k, k < 49 → (j ≤ k → M'.2.1 (s + 1) k = 0 ∧ M'.2.1 (s + 2) k = 0) ∧ (k < j → M'.2.1 (s + 1) k = M.2.1 (s + 1) k ∧ M'.2.1 (s + 2) k = M.2.1 (s + 2) k)) := by
  intro n
  induction n with
  | zero => intro j l M L hl hj hn; omega
  | succ n ih =>
    intro j l M L hl hj hn
    have L0 := L
    obtain ⟨⟨k, ⟨k1, k2⟩, k3, k4⟩, ⟨r0, r1⟩, r2, r3⟩ := L
    have z49 : (49 : Int32).toInt = 49 := rfl
    show Ok (F_X8_clear_b2 (F_X8_clear_L2 n) (some s) l M) _
    delta F_X8_clear_b2
    refine Ok_i (fun c => ?_) (fun c => ?_)
    · have c := i_le c
      refine Ok_w (C_clear_L30 g_fuel 0 (l := 0) L0 rfl (by decide) (by decide)) (fun M' z => ?_)
      obtain ⟨z1, z2, z3, z4⟩ := z
      exact ⟨z1, ⟨z2, fun b hb => (z4 b hb).1 (by omega)⟩, fun b hb => ⟨fun h => by omega, fun h => z3 b⟩⟩
    · have c := i_nle c
      have inc : (l + 1).toInt = ((j + 1 : Nat) : Int) := by rw [i_addc (n := 1) rfl (by omega) (by omega)]; omega
      refine x_gR k r0 (x_sI k1 hl (by omega) ?_)
      refine x_gR k r1 (x_sI k2 hl (by omega) ?_)
      have f : k_Fs s M (mI (mI M (s + 1) j 0) (s + 2) j 0) := k_Fs_tr (k_Fs_up (by omega)) (k_Fs_up (by omega))
      refine Ok_w (ih (j + 1) (k_Fs_LS L0 f) inc (by omega) (by omega)) (fun M' z => ?_)
      obtain ⟨z1, z2, z3⟩ := z
      refine ⟨k_Fs_tr f z1, z2, fun b hb => ⟨fun h => ?_, fun h => ?_⟩⟩
      · by_cases e : b = j
        · subst e
          have := (z3 b hb).2 (by omega)
          rw [mI_ne (Or.inl (by omega)), y_mI1, y_mI1] at this
          exact this
        · exact (z3 b hb).1 (by omega)
      · have := (z3 b hb).2 (by omega)
        rw [mI_ne (Or.inl (by omega)), mI_ne (Or.inr (by omega)), mI_ne (Or.inr (by omega)), mI_ne (Or.inl (by omega))] at this
        exact this
theorem C_clear {s : Nat} {M : gM} (L : k_LS M s) : Ok (F_X8_clear (some s) M) (fun M' => k_Fs s M M' ∧ (((M'.2.1 s 4 = 0 ∧ M'.2.1 s 5 = 0) ∧ M'.2.1 s 6 = 0) ∧ ∀ k, k < 7 → M'.2.1 (s + 3) k = 0 ∧ M'.2.1 (s + 4) k = -1) ∧ ∀ k, k < 49 → M'.2.1 (s + 1) k = 0 ∧ M'.2.1 (s + 2) k = 0) := by
  delta F_X8_clear F_X8_clear_b0
  exact Ok_w (C_clear_L2 g_fuel 0 (l := 0) L rfl (by decide) (by decide)) (fun M' z => ⟨z.1, z.2.1, fun k hk => (z.2.2 k hk).1 (Nat.zero_le _)⟩)
/-- a row copied -/
def k_cp (M : gM) (i i2 n : Nat) : gM := (M.1, g_row M.2.1 i2 (va_cpy (M.2.1 i) (M.2.1 i2) 0 0 n), M.2.2.1, M.2.2.2)
theorem x_cpI {i i2 n : Nat} {l : Int32} {M : gM} {β : Type} {f : gM → Option β} {Q : β → Prop} (h1 : g_k M i = (20, n)) (h2 : g_k M i2 = (20, n)) (hl : l.toInt = (n : Int)) (g : Ok (f (k_cp M i i2 n)) Q) : Ok ((cpI M (some i) (0 : Int32) (some i2) (0 : Int32) l).bind f) Q := by
  have z0 : (0 : Int32).toNatClampNeg = 0 := rfl
  have e : l.toNatClampNeg = n := i_cl hl
  have nl : ¬ l < 0 := fun h => by have := i_lt h; have z : (0 : Int32).toInt = 0 := rfl; omega
  unfold cpI
  rw [Option.bind_some, Option.bind_some, if_pos ⟨⟨by rw [h1], by rw [h2]⟩, ⟨⟨by decide, by decide⟩, nl⟩, by rw [z0, e, h1]; show 0 + n ≤ n; omega, by rw [z0, e, h2]; show 0 + n ≤ n; omega⟩, Option.bind_some, z0, e]
  exact g
theorem k_cp_eq {M : gM} {i i2 n k : Nat} (hk : k < n) : (k_cp M i i2 n).2.1 i2 k = M.2.1 i k := by
  show g_row M.2.1 i2 _ i2 k = _
  unfold g_row va_cpy
  simp
  omega
theorem k_cp_ne {M : gM} {i i2 n j : Nat} (hj : j ≠ i2) : (k_cp M i i2 n).2.1 j = M.2.1 j := g_row_ne _ _ hj
theorem k_Fs_cp {s : Nat} {M : gM} {i i2 n : Nat} (h : s ≤ i2 ∧ i2 ≤ s + 4) : k_Fs s M (k_cp M i i2 n) := ⟨⟨⟨rfl, rfl⟩, rfl⟩, fun j hj => k_cp_ne (by omega)⟩
/-- the State at s becomes the one at s2 -/
theorem C_copy {s s2 : Nat} {M : gM} (L : k_LS M s) (L2 : k_LS M s2) (hd : s + 4 < s2 ∨ s2 + 4 < s) : Ok (F_X8_copy (some s) (some s2) M) (fun M' => k_Fs s M M' ∧ ((M'.2.1 s 4 = M.2.1 s2 4 ∧ M'.2.1 s 5 = M.2.1 s2 5) ∧ M'.2.1 s 6 = M.2.1 s2 6) ∧ (∀ k, k < 49 → M'.2.1 (s + 1) k = M.2.1 (s2 + 1) k ∧ M'.2.1 (s + 2) k = M.2.1 (s2 + 2) k) ∧ ∀ k, k < 7 → M'.2.1 (s + 3) k = M.2.1 (s2 + 3) k ∧ M'.2.1 (s + 4) k = M.2.1 (s2 + 4) k) := by
  obtain ⟨⟨k, ⟨k1, k2⟩, k3, k4⟩, ⟨r0, r1⟩, r2, r3⟩ := L
  obtain ⟨⟨j, ⟨j1, j2⟩, j3, j4⟩, ⟨q0, q1⟩, q2, q3⟩ := L2
  delta F_X8_copy F_X8_copy_b0
  refine x_gR j q0 (x_gR k r0 (x_cpI (n := 49) j1 k1 rfl ?_))
  refine x_gR j q1 (x_gR k r1 (x_cpI (n := 49) j2 k2 rfl ?_))
  refine x_gR j q2 (x_gR k r2 (x_cpI (n := 7) j3 k3 rfl ?_))
  refine x_gR j q3 (x_gR k r3 (x_cpI (n := 7) j4 k4 rfl ?_))
  obtain ⟨M1, h1⟩ : ∃ M1, M1 = k_cp M (s2 + 1) (s + 1) 49 := ⟨_, rfl⟩
  obtain ⟨M2, h2⟩ : ∃ M2, M2 = k_cp M1 (s2 + 2) (s + 2) 49 := ⟨_, rfl⟩
  obtain ⟨M3, h3⟩ : ∃ M3, M3 = k_cp M2 (s2 + 3) (s + 3) 7 := ⟨_, rfl⟩
  obtain ⟨M4, h4⟩ : ∃ M4, M4 = k_cp M3 (s2 + 4) (s + 4) 7 := ⟨_, rfl⟩
  rw [← h1, ← h2, ← h3, ← h4]
  have f : k_Fs s M M4 := by
    rw [h4]
    refine k_Fs_tr ?_ (k_Fs_cp (by omega))
    rw [h3]
    refine k_Fs_tr ?_ (k_Fs_cp (by omega))
    rw [h2]
    refine k_Fs_tr ?_ (k_Fs_cp (by omega))
    rw [h1]
    exact k_Fs_cp (by omega)
  have v1 : ∀ b, b < 49 → M4.2.1 (s + 1) b = M.2.1 (s2 + 1) b := fun b hb => by
    rw [h4, k_cp_ne (by omega), h3, k_cp_ne (by omega), h2, k_cp_ne (by omega), h1, k_cp_eq hb]
  have v2 : ∀ b, b < 49 → M4.2.1 (s + 2) b = M.2.1 (s2 + 2) b := fun b hb => by
    rw [h4, k_cp_ne (by omega), h3, k_cp_ne (by omega), h2, k_cp_eq hb, h1, k_cp_ne (by omega)]
  have v3 : ∀ b, b < 7 → M4.2.1 (s + 3) b = M.2.1 (s2 + 3) b := fun b hb => by
    rw [h4, k_cp_ne (by omega), h3, k_cp_eq hb, h2, k_cp_ne (by omega), h1, k_cp_ne (by omega)]
  have v4 : ∀ b, b < 7 → M4.2.1 (s + 4) b = M.2.1 (s2 + 4) b := fun b hb => by
    rw [h4, k_cp_eq hb, h3, k_cp_ne (by omega), h2, k_cp_ne (by omega), h1, k_cp_ne (by omega)]
  have o2 : ∀ b, M4.2.1 s2 b = M.2.1 s2 b := fun b => by rw [f.2 s2 (by omega)]
  have kk : ∀ i, g_k M4 i = g_k M i := fun i => q_k_of f.1.1.1
  clear h1 h2 h3 h4
  refine x_gI ((kk _).trans j) (o2 4) (x_pI ((kk _).trans k) ?_)
  refine x_gI ((kk _).trans j) ((mI_ne (Or.inl (by omega))).trans (o2 5)) (x_pI ((kk _).trans k) ?_)
  refine x_gI ((kk _).trans j) (((mI_ne (Or.inl (by omega))).trans (mI_ne (Or.inl (by omega)))).trans (o2 6)) (x_pI ((kk _).trans k) ?_)
  refine Ok_s ⟨k_Fs_tr f (k_Fs_tr (k_Fs_up (by omega)) (k_Fs_tr (k_Fs_up (by omega)) (k_Fs_up (by omega)))), ⟨⟨?_, ?_⟩, ?_⟩, fun b hb => ⟨?_, ?_⟩, fun b hb => ⟨?_, ?_⟩⟩
  · rw [mI_ne (Or.inr (by decide)), mI_ne (Or.inr (by decide)), y_mI1]
  · rw [mI_ne (Or.inr (by decide)), y_mI1]
  · rw [y_mI1]
  · rw [mI_ne (Or.inl (by omega)), mI_ne (Or.inl (by omega)), mI_ne (Or.inl (by omega)), v1 b hb]
  · rw [mI_ne (Or.inl (by omega)), mI_ne (Or.inl (by omega)), mI_ne (Or.inl (by omega)), v2 b hb]
  · rw [mI_ne (Or.inl (by omega)), mI_ne (Or.inl (by omega)), mI_ne (Or.inl (by omega)), v3 b hb]
  · rw [mI_ne (Or.inl (by omega)), mI_ne (Or.inl (by omega)), mI_ne (Or.inl (by omega)), v4 b hb]
/-- so it says what that one says -/
theorem k_S_copy {M M' : gM} {s s2 : Nat} {σ : Nat → Int32} (S : k_S M s2 σ) (hn : (σ 1).toInt ≤ 7 ∧ (σ 2).toInt ≤ 7) (h1 : (M'.2.1 s 4 = M.2.1 s2 4 ∧ M'.2.1 s 5 = M.2.1 s2 5) ∧ M'.2.1 s 6 = M.2.1 s2 6) (h2 : ∀ k, k < 49 → M'.2.1 (s + 1) k = M.2.1 (s2 + 1) k ∧ M'.2.1 (s + 2) k = M.2.1 (s2 + 2) k) (h3 : ∀ k, k < 7 → M'.2.1 (s + 3) k = M.2.1 (s2 + 3) k ∧ M'.2.1 (s + 4) k = M.2.1 (s2 + 4) k) : k_S M' s σ := by
  obtain ⟨S1, S2, S3⟩ := S
  refine ⟨⟨⟨h1.1.1.trans S1.1.1, h1.1.2.trans S1.1.2⟩, h1.2.trans S1.2⟩, fun h hh => ⟨(h3 h (by omega)).1.trans (S2 h hh).1, fun t ht => ?_⟩, fun t ht => (h3 t (by omega)).2.trans (S3 t ht)⟩
  have c := (S2 h hh).2 t ht
  have e := h2 (7 * h + t) (by omega)
  unfold k_c at c ⊢
  rw [e.1, e.2]
  exact c
/-! a new House -/
theorem nw_k {M : gM} {q : Nat × Nat} {i : Nat} (h : i < M.1.length) : g_k (nw q M) i = g_k M i := by
  show (M.1 ++ [q]).getD i (99, 0) = M.1.getD i (99, 0)
  rw [List.getD_eq_getElem?_getD, List.getD_eq_getElem?_getD, List.getElem?_append_left h]
theorem nw_k1 {M : gM} {q : Nat × Nat} : g_k (nw q M) M.1.length = q := by
  show (M.1 ++ [q]).getD M.1.length (99, 0) = q
  rw [List.getD_eq_getElem?_getD, List.getElem?_concat_length]
  rfl
def nh_F (x e : Nat) (M M' : gM) : Prop := (∀ i, i < e → g_k M' i = g_k M i) ∧ ∀ i, i < e → M'.2.1 i = M.2.1 i ∧ M'.2.2.1 i = M.2.2.1 i ∧ (i ≠ x → M'.2.2.2 i = M.2.2.2 i)
theorem nh_step {M : gM} {x k : Nat} (K : g_k M x = (1, 0)) (hx : x < M.1.length) : ∃ M', pR 1 (nw (20, 7) M) (some x) k (some M.1.length) = some M' ∧ (M'.1.length = M.1.length + 1 ∧ g_k M' M.1.length = (20, 7)) ∧ nh_F x M.1.length M M' ∧ (∀ b, M'.2.1 M.1.length b = 0) ∧ M'.2.2.2 x k = some M.1.length ∧ ∀ b, b ≠ k → M'.2.2.2 x b = M.2.2.2 x b := by
  have K1 : g_k (nw (20, 7) M) x = (1, 0) := (nw_k hx).trans K
  refine ⟨mR (nw (20, 7) M) x k (some M.1.length), ?_, ⟨?_, nw_k1⟩, ⟨fun i hi => nw_k hi, fun i hi => ⟨g_row_ne _ _ (by omega), g_row_ne _ _ (by omega), fun hx2 => ?_⟩⟩, fun b => ?_, ?_, fun b hb => ?_⟩
  · unfold pR
    rw [Option.bind_some, if_pos K1]
  · show (M.1 ++ [((20 : Nat), (7 : Nat))]).length = _
    rw [List.length_append]
    rfl
  · show g_up (g_row M.2.2.2 M.1.length (fun _ => none)) x k (some M.1.length) i = _
    rw [g_up_ne _ _ _ hx2, g_row_ne _ _ (by omega)]
  · show g_row M.2.1 M.1.length (fun _ => 0) M.1.length b = 0
    unfold g_row
    rw [if_pos rfl]
  · show g_up (g_row M.2.2.2 M.1.length (fun _ => none)) x k (some M.1.length) x k = _
    unfold g_up
    rw [if_pos rfl, if_pos rfl]
  · show g_up (g_row M.2.2.2 M.1.length (fun _ => none)) x k (some M.1.length) x b = _
    unfold g_up
    rw [if_pos rfl, if_neg hb, g_row_ne _ _ (by omega)]
theorem nh_tr {x e e2 : Nat} {M M1 M2 : gM} (h1 : nh_F x e M M1) (h2 : nh_F x e2 M1 M2) (he : e ≤ e2) : nh_F x e M M2 := ⟨fun i hi => (h2.1 i (by omega)).trans (h1.1 i hi), fun i hi => ⟨(h2.2 i (by omega)).1.trans (h1.2 i hi).1, (h2.2 i (by omega)).2.1.trans (h1.2 i hi).2.1, fun hx => ((h2.2 i (by omega)).2.2 hx).trans ((h1.2 i hi).2.2 hx)⟩⟩
theorem C_newHouse {M : gM} {e : Nat} (he : e = M.1.length) : ∃ M', F_X1_init e (nw (1, 0) M) = some M' ∧ k_LE M' e ∧ M'.1.length = e + 6 ∧ (∀ i, i < e → (g_k M' i = g_k M i ∧ M'.2.1 i = M.2.1 i) ∧ M'.2.2.1 i = M.2.2.1 i ∧ M'.2.2.2 i = M.2.2.2 i) ∧ ∀ i, e ≤ i → i ≤ e + 5 → ∀ k, M'.2.1 i k = 0 := by
  subst he
  obtain ⟨x, hx⟩ : ∃ x, x = M.1.length := ⟨_, rfl⟩
  rw [← hx]
  obtain ⟨M0, h0⟩ : ∃ M0, M0 = nw (1, 0) M := ⟨_, rfl⟩
  rw [← h0]
  have l0 : M0.1.length = x + 1 := by
    rw [h0, hx]
    show (M.1 ++ [((1 : Nat), (0 : Nat))]).length = _
    rw [List.length_append]
    rfl
  have K0 : g_k M0 x = (1, 0) := by rw [h0, hx]; exact nw_k1
  have f0 : ∀ i, i < x → (g_k M0 i = g_k M i ∧ M0.2.1 i = M.2.1 i) ∧ M0.2.2.1 i = M.2.2.1 i ∧ M0.2.2.2 i = M.2.2.2 i := fun i hi => by
    rw [h0]
    exact ⟨⟨nw_k (by omega), g_row_ne _ _ (by omega)⟩, g_row_ne _ _ (by omega), g_row_ne _ _ (by omega)⟩
  have z0 : ∀ b, M0.2.1 x b = 0 := fun b => by
    rw [h0, hx]
    show g_row M.2.1 M.1.length (fun _ => 0) M.1.length b = 0
    unfold g_row
    rw [if_pos rfl]
  clear h0
  delta F_X1_init F_X1_init_b0
  obtain ⟨M1, e1, ⟨l1, c1⟩, f1, z1, r1, s1⟩ := nh_step (k := 0) K0 (by omega)
  rw [e1, Option.bind_some]
  rw [l0] at l1 c1 f1 z1 r1
  have K1 := (f1.1 x (by omega)).trans K0
  obtain ⟨M2, e2, ⟨l2, c2⟩, f2, z2, r2, s2⟩ := nh_step (k := 1) K1 (by omega)
  rw [e2, Option.bind_some]
  rw [l1] at l2 c2 f2 z2 r2
  have K2 := (f2.1 x (by omega)).trans K1
  obtain ⟨M3, e3, ⟨l3, c3⟩, f3, z3, r3, s3⟩ := nh_step (k := 2) K2 (by omega)
  rw [e3, Option.bind_some]
  rw [l2] at l3 c3 f3 z3 r3
  have K3 := (f3.1 x (by omega)).trans K2
  obtain ⟨M4, e4, ⟨l4, c4⟩, f4, z4, r4, s4⟩ := nh_step (k := 3) K3 (by omega)
  rw [e4, Option.bind_some]
  rw [l3] at l4 c4 f4 z4 r4
  have K4 := (f4.1 x (by omega)).trans K3
  obtain ⟨M5, e5, ⟨l5, c5⟩, f5, z5, r5, s5⟩ := nh_step (k := 4) K4 (by omega)
  rw [e5, Option.bind_some]
  rw [l4] at l5 c5 f5 z5 r5
  have K5 := (f5.1 x (by omega)).trans K4
  have g2 := nh_tr f1 f2 (by omega)
  have g3 := nh_tr g2 f3 (by omega)
  have g4 := nh_tr g3 f4 (by omega)
  have g5 := nh_tr g4 f5 (by omega)
  have zx : ∀ b, M5.2.1 x b = 0 := fun b => by rw [(g5.2 x (by omega)).1]; exact z0 b
  have p : ∀ k, pI 1 M5 (some x) k (0 : Int32) = some M5 := fun k => by rw [t_pI K5, mI_self (zx k)]
  rw [p, Option.bind_some, p, Option.bind_some, p, Option.bind_some, p, Option.bind_some, p, Option.bind_some, p, Option.bind_some]
  refine ⟨M5, rfl, ⟨K5, fun i hi => ?_⟩, by omega, fun i hi => ?_, fun i hi h2 b => ?_⟩
  · rcases (by omega : i = 0 ∨ i = 1 ∨ i = 2 ∨ i = 3 ∨ i = 4) with h | h | h | h | h <;> subst h
    · exact ⟨by rw [(nh_tr f2 (nh_tr f3 (nh_tr f4 f5 (by omega)) (by omega)) (by omega)).1 _ (by omega)]; exact c1, by rw [s5 0 (by decide), s4 0 (by decide), s3 0 (by decide), s2 0 (by decide)]; exact r1⟩
    · exact ⟨by rw [(nh_tr f3 (nh_tr f4 f5 (by omega)) (by omega)).1 _ (by omega)]; exact c2, by rw [s5 1 (by decide), s4 1 (by decide), s3 1 (by decide)]; exact r2⟩
    · exact ⟨by rw [(nh_tr f4 f5 (by omega)).1 _ (by omega)]; exact c3, by rw [s5 2 (by decide), s4 2 (by decide)]; exact r3⟩
    · exact ⟨by rw [f5.1 _ (by omega)]; exact c4, by rw [s5 3 (by decide)]; exact r4⟩
    · exact ⟨c5, r5⟩
  · have a := f0 i hi
    have b := g5.2 i (by omega)
    exact ⟨⟨(g5.1 i (by omega)).trans a.1.1, b.1.trans a.1.2⟩, b.2.1.trans a.2.1, (b.2.2 (by omega)).trans a.2.2⟩
  · rcases (by omega : i = x ∨ i = x + 1 ∨ i = x + 1 + 1 ∨ i = x + 1 + 1 + 1 ∨ i = x + 1 + 1 + 1 + 1 ∨ i = x + 1 + 1 + 1 + 1 + 1) with h | h | h | h | h | h <;> subst h
    · exact zx b
    · rw [((nh_tr f2 (nh_tr f3 (nh_tr f4 f5 (by omega)) (by omega)) (by omega)).2 _ (by omega)).1]
      exact z1 b
    · rw [((nh_tr f3 (nh_tr f4 f5 (by omega)) (by omega)).2 _ (by omega)).1]
      exact z2 b
    · rw [((nh_tr f4 f5 (by omega)).2 _ (by omega)).1]
      exact z3 b
    · rw [(f5.2 _ (by omega)).1]
      exact z4 b
    · exact z5 b
