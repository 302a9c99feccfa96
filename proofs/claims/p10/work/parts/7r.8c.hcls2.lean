theorem C_readHeir {T M : gM} {e : Nat} {x : hS} (R : hc_R T M e x) (hn : (x.2 2).toInt < 7) : Ok (F_X2_readHeir (some 136) M) (fun M' => hc_Fr e M M' ∧ hc_P T M' e (hs_heir T x)) := by
  delta F_X2_readHeir F_X2_readHeir_b0
  refine x_txR R ?_
  unfold hs_heir
  refine x_num R hc_rf (l := 0) (h := 99) rfl rfl (by decide) (by decide) (fun er M4 hit F4 Y => ?_) (fun y3 M4 hit F4 R4 v3 => ?_)
  · rw [hit, hs_bl]
    refine x_tx Y (x_numF Y ?_)
    refine x_tx Y (x_faultF Y ?_)
    exact Ok_e (by decide) (Ok_s ⟨F4, Y⟩)
  rw [hit, hs_br]
  refine x_txR R4 ?_
  refine x_num R4 F4 (l := 0) (h := 100) rfl rfl (by decide) (by decide) (fun er M8 hit F8 Y => ?_) (fun y7 M12 hit F12 R12 v7 => ?_)
  · dsimp only at hit ⊢
    rw [hit, hs_bl]
    refine x_tx Y (x_faultF Y ?_)
    exact Ok_e (by decide) (Ok_s ⟨F8, Y⟩)
  dsimp only at hit ⊢
  rw [hit, hs_br]
  refine x_txR R12 ?_
  obtain ⟨⟨C, f0⟩, L, ⟨⟨E1, E2, E3, E4⟩, S1, S2, S3⟩, X1, X2, X3⟩ := R12
  dsimp only at C E1 E2 E3 E4 S1 S2 S3 X1 X2 X3
  refine x_fault0 (z_k131 C) f0 ?_
  refine Ok_t rfl ?_
  obtain ⟨⟨⟨k136, r0⟩, r1, r2⟩, ⟨⟨ke, kr⟩, LS⟩, he⟩ := L
  have L0 : hc_L M12 e := ⟨⟨⟨k136, r0⟩, r1, r2⟩, ⟨⟨ke, kr⟩, LS⟩, he⟩
  have a4 : M12.2.2.2 e 3 = some (e + 4) := (kr 3 (by decide)).2
  have b4 : g_k M12 (e + 4) = (20, 7) := (kr 3 (by decide)).1
  have k143 : g_k M12 143 = (8, 0) := LS.1.1
  have k146 : g_k M12 146 = (20, 7) := LS.1.2.2.1
  have r146 : M12.2.2.2 143 2 = some 146 := LS.2.2.1
  have z7 : (7 : Int32).toInt = 7 := rfl
  obtain ⟨m, em⟩ : ∃ m : Nat, (x.2 2).toInt = (m : Int) := ⟨(x.2 2).toInt.toNat, by omega⟩
  have hmm : hs_m x.2 = m := i_cl em
  have inc : (x.2 2 + 1).toInt = (m : Int) + 1 := by rw [i_addc (n := 1) rfl (by omega) (by omega)]; omega
  refine x_gR k136 r1 (x_gI ke E1.1.2 ?_)
  refine Ok_e (fun c => by have := i_le c; omega) ?_
  refine x_gR k136 r2 (x_gR k143 r146 (x_gR k136 r1 (x_gI ke E1.1.2 ?_)))
  refine x_sI k146 em (by omega) ?_
  refine x_gR k136 r1 (x_gR ke a4 (x_gR k136 r1 (x_gI ke ((mI_ne (Or.inl (by omega))).trans E1.1.2) ?_)))
  refine x_sI b4 em (by omega) ?_
  refine x_gR k136 r1 (x_gI ke (((mI_ne (Or.inl (by omega))).trans (mI_ne (Or.inl (by omega)))).trans E1.1.2) ?_)
  refine x_pI ke ?_
  obtain ⟨M35, h35⟩ : ∃ M35, M35 = mI (mI (mI M12 146 m y3.2) (e + 4) m y7.2) e 7 (x.2 2 + 1) := ⟨_, rfl⟩
  rw [← h35]
  have o : ∀ i k, M35.2.1 i k = if i = e ∧ k = 7 then x.2 2 + 1 else if i = e + 4 ∧ k = m then y7.2 else if i = 146 ∧ k = m then y3.2 else M12.2.1 i k := fun i k => by
    rw [h35]
    simp only [mI_if]
  have F35 : hc_Fr e M12 M35 := by
    rw [h35]
    exact hc_tr (hc_up (by unfold hc_w; omega)) (hc_tr (hc_up (by unfold hc_w; omega)) (hc_up (by unfold hc_w; omega)))
  clear h35
  rw [hmm]
  have oe : ∀ k, k ≠ 7 → M35.2.1 e k = M12.2.1 e k := fun k hk => by
    rw [o, if_neg (by omega), if_neg (by omega), if_neg (by omega)]
  have of : ∀ i k, i ≠ e ∧ i ≠ e + 4 ∧ i ≠ 146 → M35.2.1 i k = M12.2.1 i k := fun i k hi => by
    rw [o, if_neg (by omega), if_neg (by omega), if_neg (by omega)]
  have oa : ∀ i k, i ≠ e → k ≠ m → M35.2.1 i k = M12.2.1 i k := fun i k hi hk => by
    rw [o, if_neg (by omega), if_neg (by omega), if_neg (by omega)]
  obtain ⟨σ, hσ⟩ : ∃ σ, σ = hs_set (hs_new (hs_set (hs_set (hs_set x.2 (38 + 2 * m) y3.2) (39 + 2 * m) y7.2) (52 + m) 0) m) 2 (x.2 2 + 1) := ⟨_, rfl⟩
  rw [← hσ]
  have s : ∀ j, σ j = if j = 2 then x.2 2 + 1 else if 59 + 14 * m ≤ j ∧ j < 73 + 14 * m then (if (j - (59 + 14 * m)) % 2 = 0 then -1 else 0) else if j = 52 + m then 0 else if j = 39 + 2 * m then y7.2 else if j = 38 + 2 * m then y3.2 else x.2 j := fun j => by
    rw [hσ]
    rfl
  have sk : ∀ j, j ≠ 2 → j ≠ 38 + 2 * m → j ≠ 39 + 2 * m → j ≠ 52 + m → j < 59 + 14 * m ∨ 73 + 14 * m ≤ j → σ j = x.2 j := fun j h1 h2 h3 h4 h5 => by
    rw [s, if_neg (by omega), if_neg (by omega), if_neg (by omega), if_neg (by omega), if_neg (by omega)]
  have s2 : σ 2 = x.2 2 + 1 := by rw [s, if_pos rfl]
  clear hσ
  have sk' : ∀ j, j ≠ 2 → j < 38 → σ j = x.2 j := fun j h1 h2 => sk j h1 (by omega) (by omega) (by omega) (by omega)
  refine Ok_s ⟨hc_tr F12 F35, ⟨z_Cx C (fun i => q_k_of F35.1.1.1) F35.1.2 (fun i k h1 h2 => of i k (by omega)), by rw [of 131 7 (by omega)]; exact f0⟩, hc_Lm L0 F35, ⟨⟨⟨⟨?_, ?_⟩, ?_⟩, ⟨?_, ?_⟩, fun t ht => ?_, fun h hh => ?_⟩, ⟨⟨?_, ?_⟩, ?_⟩, fun h hh => ?_, fun t ht => ?_⟩, ⟨?_, ?_, ?_⟩, fun h h1 h2 => ?_, fun t ht => ?_⟩
  all_goals try dsimp only at *
  · rw [oe 6 (by decide), sk' 1 (by decide) (by decide)]
    exact E1.1.1
  · rw [o, if_pos ⟨rfl, rfl⟩, s2]
  · rw [oe 8 (by decide), sk' 3 (by decide) (by decide)]
    exact E1.2
  · rw [oe 9 (by decide), sk' 7 (by decide) (by decide)]
    exact E2.1
  · rw [oe 10 (by decide), sk' 6 (by decide) (by decide)]
    exact E2.2
  · rw [sk' 1 (by decide) (by decide)] at ht
    rw [of (e + 1) t (by omega), of (e + 2) t (by omega), of (e + 3) t (by omega), sk' (10 + 4 * t) (by omega) (by omega), sk' (11 + 4 * t) (by omega) (by omega), sk' (12 + 4 * t) (by omega) (by omega)]
    exact E3 t ht
  · rw [s2, inc] at hh
    rw [of (e + 5) h (by omega)]
    by_cases eh : h = m
    · subst eh
      refine ⟨?_, ?_⟩
      · rw [o, if_neg (by omega), if_pos ⟨rfl, rfl⟩, s, if_neg (by omega), if_neg (by omega), if_neg (by omega), if_pos rfl]
      · rw [s, if_neg (by omega), if_neg (by omega), if_pos rfl]
        exact (X2 h (by omega) (by omega)).1
    · rw [oa (e + 4) h (by omega) eh, sk (39 + 2 * h) (by omega) (by omega) (by omega) (by omega) (by omega), sk (52 + h) (by omega) (by omega) (by omega) (by omega) (by omega)]
      exact E4 h (by omega)
  · rw [of 143 4 (by omega), sk' 8 (by decide) (by decide)]
    exact S1.1.1
  · rw [of 143 5 (by omega), sk' 4 (by decide) (by decide)]
    exact S1.1.2
  · rw [of 143 6 (by omega), sk' 5 (by decide) (by decide)]
    exact S1.2
  · rw [s2, inc] at hh
    by_cases eh : h = m
    · subst eh
      refine ⟨?_, fun t ht => Or.inr ⟨?_, ?_, ?_⟩⟩
      · rw [o, if_neg (by omega), if_neg (by omega), if_pos ⟨rfl, rfl⟩, s, if_neg (by omega), if_neg (by omega), if_neg (by omega), if_neg (by omega), if_pos rfl]
      · rw [of 145 _ (by omega)]
        exact (X2 h (by omega) (by omega)).2 t ht
      · rw [s, if_neg (by omega), if_pos (by omega), if_pos (by omega)]
      · rw [s, if_neg (by omega), if_pos (by omega), if_neg (by omega)]
    · rw [oa 146 h (by omega) eh, sk (38 + 2 * h) (by omega) (by omega) (by omega) (by omega) (by omega)]
      exact ⟨(S2 h (by omega)).1, fun t ht => k_cm ((S2 h (by omega)).2 t ht) (of 144 _ (by omega)) (of 145 _ (by omega)) (sk _ (by omega) (by omega) (by omega) (by omega) (by omega)) (sk _ (by omega) (by omega) (by omega) (by omega) (by omega))⟩
  · rw [sk' 1 (by decide) (by decide)] at ht
    rw [of 147 t (by omega), sk' (13 + 4 * t) (by omega) (by omega)]
    exact S3 t ht
  · rw [sk' 1 (by decide) (by decide)]
    exact X1.1
  · rw [s2, inc]
    omega
  · rw [sk' 3 (by decide) (by decide)]
    exact X1.2.2
  · rw [s2, inc] at h1
    rw [of (e + 5) h (by omega)]
    refine ⟨(X2 h (by omega) h2).1, fun t ht => ?_⟩
    rw [of 145 _ (by omega)]
    exact (X2 h (by omega) h2).2 t ht
  · rw [of 147 t (by omega)]
    exact X3 t ht
/-- what one cell more, of the House's own or the State's, keeps -/
theorem hc_R1 {T M : gM} {e i k : Nat} {v : Int32} {p : Nat} {σ σ' : Nat → Int32} (R : hc_R T M e (p, σ)) (hi : i = e ∨ i = 143) (hw : i = e → k = 9 ∨ k = 10) (hw2 : i = 143 → k = 6)
    (h9 : (mI M i k v).2.1 e 9 = σ' 7) (h10 : (mI M i k v).2.1 e 10 = σ' 6) (h6 : (mI M i k v).2.1 143 6 = σ' 5) (sk : ∀ j, j ≠ 0 → j ≠ 5 → j ≠ 6 → j ≠ 7 → σ' j = σ j) : hc_Fr e M (mI M i k v) ∧ hc_R T (mI M i k v) e (p, σ') := by
  obtain ⟨⟨C, f0⟩, L, ⟨⟨E1, E2, E3, E4⟩, S1, S2, S3⟩, X1, X2, X3⟩ := R
  dsimp only at C E1 E2 E3 E4 S1 S2 S3 X1 X2 X3
  have he := L.2.2
  have F : hc_Fr e M (mI M i k v) := hc_up (by unfold hc_w; omega)
  have of : ∀ a b, (a ≠ e ∨ b < 9) → (a ≠ 143 ∨ b < 6) → (mI M i k v).2.1 a b = M.2.1 a b := fun a b h1 h2 => mI_ne (by omega)
  generalize mI M i k v = M' at F of h9 h10 h6 ⊢
  refine ⟨F, ⟨z_Cx C (fun i => q_k_of F.1.1.1) F.1.2 (fun a b h1 h2 => of a b (by omega) (by omega)), by rw [of 131 7 (by omega) (by omega)]; exact f0⟩, hc_Lm L F, ⟨⟨⟨⟨?_, ?_⟩, ?_⟩, ⟨?_, ?_⟩, fun t ht => ?_, fun h hh => ?_⟩, ⟨⟨?_, ?_⟩, ?_⟩, fun h hh => ?_, fun t ht => ?_⟩, ⟨?_, ?_, ?_⟩, fun h h1 h2 => ?_, fun t ht => ?_⟩
  all_goals try dsimp only at *
  · rw [of e 6 (by omega) (by omega), sk 1 (by omega) (by omega) (by omega) (by omega)]
    exact E1.1.1
  · rw [of e 7 (by omega) (by omega), sk 2 (by omega) (by omega) (by omega) (by omega)]
    exact E1.1.2
  · rw [of e 8 (by omega) (by omega), sk 3 (by omega) (by omega) (by omega) (by omega)]
    exact E1.2
  · exact h9
  · exact h10
  · rw [sk 1 (by omega) (by omega) (by omega) (by omega)] at ht
    rw [of (e + 1) t (by omega) (by omega), of (e + 2) t (by omega) (by omega), of (e + 3) t (by omega) (by omega), sk (10 + 4 * t) (by omega) (by omega) (by omega) (by omega), sk (11 + 4 * t) (by omega) (by omega) (by omega) (by omega), sk (12 + 4 * t) (by omega) (by omega) (by omega) (by omega)]
    exact E3 t ht
  · rw [sk 2 (by omega) (by omega) (by omega) (by omega)] at hh
    rw [of (e + 4) h (by omega) (by omega), of (e + 5) h (by omega) (by omega), sk (39 + 2 * h) (by omega) (by omega) (by omega) (by omega), sk (52 + h) (by omega) (by omega) (by omega) (by omega)]
    exact E4 h hh
  · rw [of 143 4 (by omega) (by omega), sk 8 (by omega) (by omega) (by omega) (by omega)]
    exact S1.1.1
  · rw [of 143 5 (by omega) (by omega), sk 4 (by omega) (by omega) (by omega) (by omega)]
    exact S1.1.2
  · exact h6
  · rw [sk 2 (by omega) (by omega) (by omega) (by omega)] at hh
    rw [of 146 h (by omega) (by omega), sk (38 + 2 * h) (by omega) (by omega) (by omega) (by omega)]
    exact ⟨(S2 h hh).1, fun t ht => k_cm ((S2 h hh).2 t ht) (of 144 _ (by omega) (by omega)) (of 145 _ (by omega) (by omega)) (sk _ (by omega) (by omega) (by omega) (by omega)) (sk _ (by omega) (by omega) (by omega) (by omega))⟩
  · rw [sk 1 (by omega) (by omega) (by omega) (by omega)] at ht
    rw [of 147 t (by omega) (by omega), sk (13 + 4 * t) (by omega) (by omega) (by omega) (by omega)]
    exact S3 t ht
  · rw [sk 1 (by omega) (by omega) (by omega) (by omega)]
    exact X1.1
  · rw [sk 2 (by omega) (by omega) (by omega) (by omega)]
    exact X1.2.1
  · rw [sk 3 (by omega) (by omega) (by omega) (by omega)]
    exact X1.2.2
  · rw [sk 2 (by omega) (by omega) (by omega) (by omega)] at h1
    rw [of (e + 5) h (by omega) (by omega)]
    refine ⟨(X2 h h1 h2).1, fun t ht => ?_⟩
    rw [of 145 _ (by omega) (by omega)]
    exact (X2 h h1 h2).2 t ht
  · rw [of 147 t (by omega) (by omega)]
    exact X3 t ht
