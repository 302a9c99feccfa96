/-! what a HOUSE that was told is like -/
theorem hs_num_r {T : gM} {p : Nat} {lo hi : Int} {z : Nat × Int32} (h : hs_num T p lo hi = .inr z) : lo ≤ z.2.toInt ∧ z.2.toInt ≤ hi := by
  unfold hs_num at h
  by_cases c : n_D T p = true
  · rw [if_pos c] at h
    by_cases d : n_ok T p lo hi = true
    · rw [if_pos d] at h
      have e := Sum.inr.inj h
      rw [← e]
      unfold n_ok at d
      have := of_decide_eq_true d
      exact this.2
    · rw [if_neg d] at h
      cases h
  · rw [if_neg c] at h
    cases h
theorem s_V_of {σ σ' : Nat → Int32} (V : s_V σ) (h : ∀ j, (j = 1 ∨ j = 2) ∨ (10 ≤ j ∧ j < 52) ∨ 59 ≤ j → σ' j = σ j) : s_V σ' := by
  have nn := s_Vn V
  obtain ⟨V1, V2, V3, V4⟩ := V
  have h1 := h 1 (by omega)
  have h2 := h 2 (by omega)
  unfold s_V s_va s_st
  rw [h1, h2]
  refine ⟨V1, fun a t ha ht => ?_, fun t ht => ?_, fun a ha => ?_⟩
  · rw [h _ (by omega), h _ (by omega)]
    exact V2 a t ha ht
  · rw [h _ (by omega), h _ (by omega), h _ (by omega), h _ (by omega)]
    exact V3 t ht
  · rw [h _ (by omega), h _ (by omega)]
    exact V4 a ha
def hv_I (σ : Nat → Int32) : Prop := s_V σ ∧ (σ 4 = 0 ∧ (0 ≤ (σ 5).toInt ∧ (σ 5).toInt ≤ 20)) ∧ s_Qc σ ∧ s_Qd σ
theorem hv_lo {σ σ' : Nat → Int32} (I : hv_I σ) (h : ∀ j, (j = 1 ∨ j = 2) ∨ (10 ≤ j ∧ j < 59) ∨ 59 ≤ j → σ' j = σ j) (h4 : σ' 4 = σ 4) (h5 : 0 ≤ (σ' 5).toInt ∧ (σ' 5).toInt ≤ 20) : hv_I σ' :=
  ⟨s_V_of I.1 (fun j hj => h j (by omega)), ⟨h4.trans I.2.1.1, h5⟩, s_Qc_c I.2.2.1 (h 2 (by omega)) (fun j _ _ => h j (by omega)), s_Qd_c I.2.2.2 (h 1 (by omega)) (fun t _ => h _ (by omega))⟩
theorem hv_thing {σ : Nat → Int32} {a b c : Int32} (I : hv_I σ) (hn : hs_n σ < 7) (ha : 0 ≤ a.toInt ∧ a.toInt ≤ 9) (hb : 0 ≤ b.toInt ∧ b.toInt ≤ 20) (hc : 0 ≤ c.toInt ∧ c.toInt ≤ 99) : hv_I (hs_set (hs_set (hs_set (hs_set (hs_set σ (10 + 4 * hs_n σ) a) (11 + 4 * hs_n σ) b) (12 + 4 * hs_n σ) c) (13 + 4 * hs_n σ) (-1)) 1 (σ 1 + 1)) := by
  obtain ⟨V, ⟨I4, I5⟩, Qc, Qd⟩ := I
  have nn := s_Vn V
  obtain ⟨n, hn'⟩ : ∃ n, n = hs_n σ := ⟨_, rfl⟩
  rw [← hn'] at hn nn ⊢
  obtain ⟨τ, hτ⟩ : ∃ τ, τ = hs_set (hs_set (hs_set (hs_set (hs_set σ (10 + 4 * n) a) (11 + 4 * n) b) (12 + 4 * n) c) (13 + 4 * n) (-1)) 1 (σ 1 + 1) := ⟨_, rfl⟩
  rw [← hτ]
  have e1 : τ 1 = σ 1 + 1 := by rw [hτ, hs_se]
  have ea : τ (10 + 4 * n) = a := by rw [hτ, hs_sn (by omega), hs_sn (by omega), hs_sn (by omega), hs_sn (by omega), hs_se]
  have eb : τ (11 + 4 * n) = b := by rw [hτ, hs_sn (by omega), hs_sn (by omega), hs_sn (by omega), hs_se]
  have ec : τ (12 + 4 * n) = c := by rw [hτ, hs_sn (by omega), hs_sn (by omega), hs_se]
  have ed : τ (13 + 4 * n) = -1 := by rw [hτ, hs_sn (by omega), hs_se]
  have o : ∀ j, j ≠ 1 → j < 10 + 4 * n ∨ 13 + 4 * n < j → τ j = σ j := fun j h1 h2 => by rw [hτ, hs_sn h1, hs_sn (by omega), hs_sn (by omega), hs_sn (by omega), hs_sn (by omega)]
  have e1' : (τ 1).toInt = (σ 1).toInt + 1 := by rw [e1]; exact i_addc (n := 1) rfl (by omega) (by omega)
  have e2 : τ 2 = σ 2 := o 2 (by decide) (by omega)
  clear hτ
  have en : hs_n τ = n + 1 := i_cl (by omega)
  have hd : s_Qd τ := by
    refine ⟨by omega, fun t ht => ?_⟩
    rw [en] at ht
    by_cases c' : t = n
    · subst c'
      rw [ed]
      decide
    · rw [o _ (by omega) (by omega)]
      exact Qd.2 t (by omega)
  refine ⟨?_, ⟨(o 4 (by decide) (by omega)).trans I4, by rw [o 5 (by decide) (by omega)]; exact I5⟩, s_Qc_c Qc e2 (fun j h1 h2 => o j (by omega) (by omega)), hd⟩
  obtain ⟨V1, V2, V3, V4⟩ := V
  unfold s_V s_va s_st
  refine ⟨⟨by omega, by rw [e2]; exact V1.2⟩, fun h t hh ht => ?_, fun t ht => ?_, fun h hh => ?_⟩
  · rw [e2] at hh
    rw [o _ (by omega) (by omega), o _ (by omega) (by omega)]
    exact V2 h t hh ht
  · by_cases c' : t = n
    · subst c'
      rw [ea, eb, ec, ed]
      exact ⟨⟨ha, hb⟩, hc, by decide⟩
    · rw [o _ (by omega) (by omega), o _ (by omega) (by omega), o _ (by omega) (by omega), o _ (by omega) (by omega)]
      exact V3 t (by omega)
  · rw [e2] at hh
    rw [o _ (by omega) (by omega), o _ (by omega) (by omega)]
    exact V4 h hh
theorem hv_heir {σ : Nat → Int32} {a b : Int32} (I : hv_I σ) (hm : hs_m σ < 7) (ha : 0 ≤ a.toInt ∧ a.toInt ≤ 99) (hb : 0 ≤ b.toInt ∧ b.toInt ≤ 100) : hv_I (hs_set (hs_new (hs_set (hs_set (hs_set σ (38 + 2 * hs_m σ) a) (39 + 2 * hs_m σ) b) (52 + hs_m σ) 0) (hs_m σ)) 2 (σ 2 + 1)) := by
  obtain ⟨V, ⟨I4, I5⟩, Qc, Qd⟩ := I
  have nn := s_Vn V
  obtain ⟨m, hm'⟩ : ∃ m, m = hs_m σ := ⟨_, rfl⟩
  rw [← hm'] at hm nn ⊢
  obtain ⟨τ, hτ⟩ : ∃ τ, τ = hs_set (hs_new (hs_set (hs_set (hs_set σ (38 + 2 * m) a) (39 + 2 * m) b) (52 + m) 0) m) 2 (σ 2 + 1) := ⟨_, rfl⟩
  rw [← hτ]
  have e2 : τ 2 = σ 2 + 1 := by rw [hτ, hs_se]
  have new0 : ∀ {ρ : Nat → Int32} {j : Nat}, ¬ (59 + 14 * m ≤ j ∧ j < 73 + 14 * m) → hs_new ρ m j = ρ j := fun h => if_neg h
  have ea : τ (38 + 2 * m) = a := by rw [hτ, hs_sn (by omega), new0 (by omega), hs_sn (by omega), hs_sn (by omega), hs_se]
  have eb : τ (39 + 2 * m) = b := by rw [hτ, hs_sn (by omega), new0 (by omega), hs_sn (by omega), hs_se]
  have ec : τ (52 + m) = 0 := by rw [hτ, hs_sn (by omega), new0 (by omega), hs_se]
  have en : ∀ t, t < 7 → τ (59 + 14 * m + 2 * t) = -1 ∧ τ (60 + 14 * m + 2 * t) = 0 := fun t ht => by
    rw [hτ, hs_sn (by omega), hs_sn (by omega)]
    unfold hs_new
    rw [if_pos (by omega), if_pos (by omega), if_pos (by omega), if_neg (by omega)]
    exact ⟨rfl, rfl⟩
  have o : ∀ j, j ≠ 2 → j ≠ 38 + 2 * m → j ≠ 39 + 2 * m → j ≠ 52 + m → ¬ (59 + 14 * m ≤ j ∧ j < 73 + 14 * m) → τ j = σ j := fun j h1 h2 h3 h4 h5 => by rw [hτ, hs_sn h1, new0 h5, hs_sn h4, hs_sn h3, hs_sn h2]
  have e2' : (τ 2).toInt = (σ 2).toInt + 1 := by rw [e2]; exact i_addc (n := 1) rfl (by omega) (by omega)
  have e1 : τ 1 = σ 1 := o 1 (by decide) (by omega) (by omega) (by omega) (by omega)
  have em : hs_m τ = m + 1 := by
    have : (τ 2).toInt = ((m + 1 : Nat) : Int) := by omega
    exact i_cl this
  clear hτ
  refine ⟨?_, ⟨(o 4 (by decide) (by omega) (by omega) (by omega) (by omega)).trans I4, by rw [o 5 (by decide) (by omega) (by omega) (by omega) (by omega)]; exact I5⟩, ⟨by omega, fun x y hx hy => ?_⟩, s_Qd_c Qd e1 (fun t ht => o _ (by omega) (by omega) (by omega) (by omega) (by omega))⟩
  · obtain ⟨V1, V2, V3, V4⟩ := V
    unfold s_V s_va s_st
    refine ⟨⟨by rw [e1]; exact V1.1, by omega⟩, fun h t hh ht => ?_, fun t ht => ?_, fun h hh => ?_⟩
    · by_cases c' : h = m
      · subst c'
        exact Or.inl (en t ht)
      · rw [o _ (by omega) (by omega) (by omega) (by omega) (by omega), o _ (by omega) (by omega) (by omega) (by omega) (by omega)]
        exact V2 h t (by omega) ht
    · rw [e1] at ht
      rw [o _ (by omega) (by omega) (by omega) (by omega) (by omega), o _ (by omega) (by omega) (by omega) (by omega) (by omega), o _ (by omega) (by omega) (by omega) (by omega) (by omega), o _ (by omega) (by omega) (by omega) (by omega) (by omega)]
      exact V3 t ht
    · by_cases c' : h = m
      · subst c'
        rw [ea, eb]
        exact ⟨ha, hb⟩
      · rw [o _ (by omega) (by omega) (by omega) (by omega) (by omega), o _ (by omega) (by omega) (by omega) (by omega) (by omega)]
        exact V4 h (by omega)
  · rw [em] at hx ⊢
    by_cases c' : x = m
    · subst c'
      rw [ec] at hy
      have z : (0 : Int32).toBitVec.getLsbD y = false := by
        show (0#32).getLsbD y = false
        simp
      rw [z] at hy
      cases hy
    · rw [o (52 + x) (by omega) (by omega) (by omega) (by omega) (by omega)] at hy
      have := Qc.2 x y (by omega) hy
      rw [← hm'] at this
      rw [o (52 + y) (by omega) (by omega) (by omega) (by omega) (by omega)]
      exact ⟨⟨by omega, this.1.2⟩, this.2⟩
theorem hv_cous {σ : Nat → Int32} {a b : Int32} (I : hv_I σ) (ha : 0 ≤ a.toInt ∧ a.toInt ≤ (σ 2).toInt - 1) (hb : 0 ≤ b.toInt ∧ b.toInt ≤ (σ 2).toInt - 1) (ne : a ≠ b) : hv_I (hs_set (hs_set (hs_set σ (52 + a.toNatClampNeg) (σ (52 + a.toNatClampNeg) ||| hs_bit b)) (52 + b.toNatClampNeg) (σ (52 + b.toNatClampNeg) ||| hs_bit a)) 3 (σ 3 + 1)) := by
  obtain ⟨V, ⟨I4, I5⟩, Qc, Qd⟩ := I
  have nn := s_Vn V
  obtain ⟨x, hx⟩ : ∃ x : Nat, a.toInt = (x : Int) := ⟨a.toInt.toNat, by omega⟩
  obtain ⟨y, hy⟩ : ∃ y : Nat, b.toInt = (y : Int) := ⟨b.toInt.toNat, by omega⟩
  have nxy : x ≠ y := fun z => ne (Int32.toInt_inj.mp (by omega))
  rw [i_cl hx, i_cl hy]
  obtain ⟨τ, hτ⟩ : ∃ τ, τ = hs_set (hs_set (hs_set σ (52 + x) (σ (52 + x) ||| hs_bit b)) (52 + y) (σ (52 + y) ||| hs_bit a)) 3 (σ 3 + 1) := ⟨_, rfl⟩
  rw [← hτ]
  have ex : τ (52 + x) = σ (52 + x) ||| hs_bit b := by rw [hτ, hs_sn (by omega), hs_sn (by omega), hs_se]
  have ey : τ (52 + y) = σ (52 + y) ||| hs_bit a := by rw [hτ, hs_sn (by omega), hs_se]
  have o : ∀ j, j ≠ 3 → j ≠ 52 + x → j ≠ 52 + y → τ j = σ j := fun j h1 h2 h3 => by rw [hτ, hs_sn h1, hs_sn h3, hs_sn h2]
  have em : hs_m τ = hs_m σ := by unfold hs_m; rw [o 2 (by decide) (by omega) (by omega)]
  clear hτ
  refine ⟨s_V_of V (fun j hj => o j (by omega) (by omega) (by omega)), ⟨(o 4 (by decide) (by omega) (by omega)).trans I4, by rw [o 5 (by decide) (by omega) (by omega)]; exact I5⟩, ⟨by omega, fun p q hp hq => ?_⟩, s_Qd_c Qd (o 1 (by decide) (by omega) (by omega)) (fun t ht => o _ (by omega) (by omega) (by omega))⟩
  rw [em] at hp ⊢
  -- which cell says what
  have get : ∀ i j, (τ (52 + i)).toBitVec.getLsbD j = true ↔ (σ (52 + i)).toBitVec.getLsbD j = true ∨ (i = x ∧ j = y) ∨ (i = y ∧ j = x) := by
    intro i j
    by_cases c1 : i = x
    · subst c1
      rw [ex, or_get, bit_get hy (by omega), Bool.or_eq_true, decide_eq_true_iff]
      constructor
      · rintro (h | h)
        · exact Or.inl h
        · exact Or.inr (Or.inl ⟨rfl, h.symm⟩)
      · rintro (h | ⟨_, h⟩ | ⟨h, _⟩)
        · exact Or.inl h
        · exact Or.inr h.symm
        · exact absurd h nxy
    · by_cases c2 : i = y
      · subst c2
        rw [ey, or_get, bit_get hx (by omega), Bool.or_eq_true, decide_eq_true_iff]
        constructor
        · rintro (h | h)
          · exact Or.inl h
          · exact Or.inr (Or.inr ⟨rfl, h.symm⟩)
        · rintro (h | ⟨h, _⟩ | ⟨_, h⟩)
          · exact Or.inl h
          · exact absurd h.symm nxy
          · exact Or.inr h.symm
      · rw [o (52 + i) (by omega) (by omega) (by omega)]
        constructor
        · exact Or.inl
        · rintro (h | ⟨h, _⟩ | ⟨h, _⟩)
          · exact h
          · exact absurd h c1
          · exact absurd h c2
  rw [get] at hq
  rw [get]
  rcases hq with hq | ⟨h1, h2⟩ | ⟨h1, h2⟩
  · have := Qc.2 p q hp hq
    exact ⟨this.1, Or.inl this.2⟩
  · exact ⟨⟨by omega, by omega⟩, Or.inr (Or.inr ⟨h2, h1⟩)⟩
  · exact ⟨⟨by omega, by omega⟩, Or.inr (Or.inl ⟨h2, h1⟩)⟩
theorem hv_know {σ : Nat → Int32} {h t a s : Int32} (I : hv_I σ) (hh : 0 ≤ h.toInt ∧ h.toInt ≤ (σ 2).toInt - 1) (ht : 0 ≤ t.toInt ∧ t.toInt ≤ (σ 1).toInt - 1) (ha : 0 ≤ a.toInt ∧ a.toInt ≤ 9) (hs : 1 ≤ s.toInt ∧ s.toInt ≤ 99) : hv_I (hs_set (hs_set σ (59 + 14 * h.toNatClampNeg + 2 * t.toNatClampNeg) a) (60 + 14 * h.toNatClampNeg + 2 * t.toNatClampNeg) s) := by
  obtain ⟨V, ⟨I4, I5⟩, Qc, Qd⟩ := I
  have nn := s_Vn V
  obtain ⟨x, hx⟩ : ∃ x : Nat, h.toInt = (x : Int) := ⟨h.toInt.toNat, by omega⟩
  obtain ⟨y, hy⟩ : ∃ y : Nat, t.toInt = (y : Int) := ⟨t.toInt.toNat, by omega⟩
  rw [i_cl hx, i_cl hy]
  have e : hs_set (hs_set σ (59 + 14 * x + 2 * y) a) (60 + 14 * x + 2 * y) s = s_kw σ x y a s := by
    unfold s_kw
    rw [if_neg (fun z => by have := i_le z; have z0 : (0 : Int32).toInt = 0 := rfl; omega), if_neg (fun z => by have := i_le z; have z0 : (0 : Int32).toInt = 0 := rfl; omega)]
  rw [e]
  exact ⟨kw_V V (by omega) hs.2 (fun _ => ha), ⟨(kw_lo (by decide)).trans I4, by rw [kw_lo (by decide)]; exact I5⟩, s_Qc_c Qc (kw_lo (by decide)) (fun j _ hj => kw_lo hj), s_Qd_c Qd (kw_lo (by decide)) (fun t ht => kw_lo (by omega))⟩
theorem hs_cl_V {T : gM} {cl : Nat} {x y : hS} (h : hs_cl T cl x = .inr y) (I : hv_I x.2) : hv_I y.2 := by
  have nn := s_Vn I.1
  unfold hs_cl at h
  by_cases cw : hs_w (k_kind T x.1) = false
  · rw [if_pos cw] at h
    cases h
  rw [if_neg cw] at h
  by_cases cb : hs_bad x.2 (k_kind T x.1) cl = true
  · rw [if_pos cb] at h
    cases h
  rw [if_neg cb] at h
  have nb : ¬ (k_kind T x.1 = 262 ∧ 7 ≤ (x.2 1).toInt) ∧ ¬ (k_kind T x.1 = 261 ∧ 7 ≤ (x.2 2).toInt) := by
    unfold hs_bad hs_full at cb
    rw [Bool.or_eq_true, decide_eq_true_iff, decide_eq_true_iff] at cb
    omega
  unfold hs_body at h
  by_cases c1 : k_kind T x.1 = 261
  · rw [if_pos c1] at h
    obtain ⟨z1, e1, h⟩ := hs_b_inr h
    obtain ⟨z2, e2, h⟩ := hs_b_inr h
    obtain rfl := Sum.inr.inj h
    exact hv_heir (σ := x.2) I (by omega) (hs_num_r e1) (hs_num_r e2)
  rw [if_neg c1] at h
  by_cases c2 : k_kind T x.1 = 262
  · rw [if_pos c2] at h
    obtain ⟨z1, e1, h⟩ := hs_b_inr h
    obtain ⟨z2, e2, h⟩ := hs_b_inr h
    obtain ⟨z3, e3, h⟩ := hs_b_inr h
    obtain rfl := Sum.inr.inj h
    exact hv_thing (σ := x.2) I (by omega) (hs_num_r e1) (hs_num_r e2) (hs_num_r e3)
  rw [if_neg c2] at h
  by_cases c3 : k_kind T x.1 = 267
  · rw [if_pos c3] at h
    obtain ⟨z1, _, h⟩ := hs_b_inr h
    obtain rfl := Sum.inr.inj h
    dsimp only
    refine hv_lo (σ := x.2) I (fun j hj => hs_sn (by omega)) (hs_sn (show (4 : Nat) ≠ 6 by decide)) ?_
    rw [hs_sn (show (5 : Nat) ≠ 6 by decide)]
    exact I.2.1.2
  rw [if_neg c3] at h
  by_cases c4 : k_kind T x.1 = 268
  · rw [if_pos c4] at h
    obtain ⟨z1, _, h⟩ := hs_b_inr h
    obtain rfl := Sum.inr.inj h
    dsimp only
    refine hv_lo (σ := x.2) I (fun j hj => hs_sn (by omega)) (hs_sn (show (4 : Nat) ≠ 7 by decide)) ?_
    rw [hs_sn (show (5 : Nat) ≠ 7 by decide)]
    exact I.2.1.2
  rw [if_neg c4] at h
  by_cases c5 : k_kind T x.1 = 275
  · rw [if_pos c5] at h
    obtain ⟨z1, e1, h⟩ := hs_b_inr h
    obtain rfl := Sum.inr.inj h
    dsimp only
    refine hv_lo (σ := x.2) I (fun j hj => (hs_sn (by omega)).trans (hs_sn (by omega))) ((hs_sn (show (4 : Nat) ≠ 0 by decide)).trans (hs_sn (show (4 : Nat) ≠ 5 by decide))) ?_
    rw [hs_sn (show (5 : Nat) ≠ 0 by decide), hs_se]
    have := hs_num_r e1
    omega
  rw [if_neg c5] at h
  by_cases c6 : k_kind T x.1 = 276
  · rw [if_pos c6] at h
    obtain ⟨z1, e1, h⟩ := hs_b_inr h
    obtain ⟨z2, e2, h⟩ := hs_b_inr h
    dsimp only at h
    split at h
    · cases h
    · rename_i nc
      obtain rfl := Sum.inr.inj h
      exact hv_cous (σ := x.2) I (hs_num_r e1) (hs_num_r e2) (fun z => nc (Or.inl z))
  rw [if_neg c6] at h
  obtain ⟨z1, e1, h⟩ := hs_b_inr h
  obtain ⟨z2, e2, h⟩ := hs_b_inr h
  obtain ⟨z3, e3, h⟩ := hs_b_inr h
  obtain ⟨z4, e4, h⟩ := hs_b_inr h
  obtain rfl := Sum.inr.inj h
  exact hv_know (σ := x.2) I (hs_num_r e1) (hs_num_r e2) (hs_num_r e3) (hs_num_r e4)
theorem hs_tl_V {T : gM} : ∀ (n cl : Nat) {x y : hS}, hs_tl T n cl x = .inr y → 1 ≤ cl → hv_I x.2 → he_I x.2 cl → hv_I y.2 ∧ y.2 0 = 1 := by
  intro n
  induction n with
  | zero => intro cl x y h _ _ _; cases h
  | succ n ih =>
    intro cl x y h h1 I E
    have h : hs_nx T n cl (hs_cl T cl x) = .inr y := h
    cases hc : hs_cl T cl x with
    | inl e =>
      rw [hc] at h
      cases h
    | inr z =>
      rw [hc] at h
      have I' := hs_cl_V hc I
      obtain ⟨E', _⟩ := hs_cl_I hc h1 E
      unfold hs_nx at h
      dsimp only at h
      by_cases c1 : k_kind T z.1 = 256
      · rw [if_pos c1] at h
        obtain rfl := Sum.inr.inj h
        exact ⟨I', by rw [E'.2, if_neg (by omega)]⟩
      · rw [if_neg c1] at h
        by_cases c2 : k_kind T z.1 = 59
        · rw [if_pos c2] at h
          exact ih (cl + 1) h (by omega) I' E'
        · rw [if_neg c2] at h
          cases h
theorem hs_text_V {T : gM} {f : Nat → Int32} {y : hS} (h : hs_text T (hs_0 f) = .inr y) : hv_I y.2 ∧ y.2 0 = 1 := by
  have z : ∀ k, k < 10 → hs_0 f k = 0 := fun k hk => if_pos hk
  have z0 : (0 : Int32).toInt = 0 := rfl
  have m0 : hs_m (hs_0 f) = 0 := by
    unfold hs_m
    rw [z 2 (by decide)]
    rfl
  have V0 : s_V (hs_0 f) := by
    refine ⟨?_, ?_, ?_, ?_⟩
    · rw [z 1 (by decide), z 2 (by decide)]
      decide
    · intro h t hh ht
      rw [z 2 (by decide)] at hh
      omega
    · intro t ht
      rw [z 1 (by decide)] at ht
      omega
    · intro h hh
      rw [z 2 (by decide)] at hh
      omega
  have n0 : hs_n (hs_0 f) = 0 := by
    unfold hs_n
    rw [z 1 (by decide)]
    rfl
  have I0 : hv_I (hs_0 f) := ⟨V0, ⟨z 4 (by decide), by rw [z 5 (by decide)]; decide⟩, ⟨by omega, fun a b ha _ => by omega⟩, by omega, fun t ht => by omega⟩
  have E0 : he_I (hs_0 f) 1 := ⟨by rw [z 3 (by decide)]; decide, by rw [z 0 (by decide), if_pos rfl]⟩
  exact hs_tl_V 42 1 h (Nat.le_refl _) I0 E0
