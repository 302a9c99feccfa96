/-! cousins; a clause; the whole text, by the class -/
theorem b_ff {b : Bool} (h : ¬ b = true) : b = false := by
  cases b
  · rfl
  · exact absurd rfl h
/-- a FAULT at a place, where none was -/
theorem hc_bl {T M M0 : gM} {e q d : Nat} {l1 l2 : Int32} {x : hS} (R : hc_R T M e x) (F : hc_Fr e M0 M) (h1 : l1.toInt = (q : Int)) (hq : q ≤ 400) (h2 : l2.toInt = (d : Int)) (hd : d ≤ 7) : hc_Fr e M0 (n_bl M l1 l2) ∧ hc_Y T (n_bl M l1 l2) e (1 + 8 * q + d) := by
  obtain ⟨c1, c2⟩ := n_bl_r (l1 := l1) (l2 := l2) R.1.1
  have f := hc_57 (e := e) (z_57b c2)
  exact ⟨hc_tr F f, ⟨⟨⟨_, c1⟩, n_bl_0 R.1.2 h1 hq h2 hd, by omega⟩, hc_Lm R.2.1 f⟩⟩
theorem C_readCousins {T M : gM} {e : Nat} {x : hS} (R : hc_R T M e x) (hn : (x.2 3).toInt < 10) : Ok (F_X2_readCousins (some 136) M) (fun M' => hc_Fr e M M' ∧ hc_P T M' e (hs_cous T x)) := by
  have X1 := R.2.2.2.1
  have hh2 : (x.2 2 - (1 : Int32)).toInt = (x.2 2).toInt - 1 := i_subc rfl (by omega) (by omega)
  have z0 : (0 : Int32).toInt = 0 := rfl
  delta F_X2_readCousins F_X2_readCousins_b0 F_X2_readCousins_b85
  unfold hs_cous
  refine x_gR R.2.1.1.1.1 R.2.1.1.1.2 (x_gR R.2.1.1.1.1 R.2.1.1.2.1 (x_gI (hc_of R).1.2.1 (hc_of R).2.1.1.2 (x_gO (z_k131 R.1.1) ?_)))
  refine x_num R hc_rf (l := 0) rfl hh2 (by decide) (by omega) (fun er M4 hit F4 Y => ?_) (fun y5 M6 hit F6 R6 v5 => ?_)
  · rw [hit, hs_bl]
    obtain ⟨p4, C4⟩ := Y.1.1
    refine x_tx Y ?_
    refine Ok_b (C_place C4) (fun v9 h9 => ?_)
    refine x_gR (hc_Yof Y).1.1.1 (hc_Yof Y).1.1.2 (x_gR (hc_Yof Y).1.1.1 (hc_Yof Y).1.2.1 (x_gI (hc_Yof Y).2.1 rfl (x_gO (hc_Yk Y) (x_numF Y ?_))))
    refine x_tx Y (x_faultF Y ?_)
    exact Ok_e (by decide) (Ok_s ⟨F4, Y⟩)
  rw [hit, hs_br]
  refine x_txR R6 ?_
  refine Ok_b (C_place R6.1.1) (fun v9 h9 => ?_)
  have hz := z_Cs R6.1.1
  refine x_gR R6.2.1.1.1.1 R6.2.1.1.1.2 (x_gR R6.2.1.1.1.1 R6.2.1.1.2.1 (x_gI (hc_of R6).1.2.1 (hc_of R6).2.1.1.2 (x_gO (z_k131 R6.1.1) ?_)))
  refine x_num R6 F6 (l := 0) rfl hh2 (by decide) (by omega) (fun er M8 hit F8 Y => ?_) (fun y14 M15 hit F15 R15 v14 => ?_)
  · dsimp only at hit ⊢
    rw [hit, hs_bl]
    refine x_tx Y (x_faultF Y ?_)
    exact Ok_e (by decide) (Ok_s ⟨F8, Y⟩)
  dsimp only at hit h9 v5 v14 hz ⊢
  rw [hit, hs_br]
  refine x_txR R15 ?_
  have R0 := R15
  obtain ⟨⟨C, f0⟩, L, ⟨⟨E1, E2, E3, E4⟩, S1, S2, S3⟩, X1, X2, X3⟩ := R15
  dsimp only at C E1 E2 E3 E4 S1 S2 S3 X1 X2 X3
  refine x_fault0 (z_k131 C) f0 ?_
  refine Ok_t rfl ?_
  refine Ok_e (fun c => by have := i_lt c; omega) ?_
  refine Ok_t (Int32.le_iff_toInt_le.mpr (by omega)) ?_
  obtain ⟨a, ea⟩ : ∃ a : Nat, y5.2.toInt = (a : Int) := ⟨y5.2.toInt.toNat, by omega⟩
  obtain ⟨b, eb⟩ : ∃ b : Nat, y14.2.toInt = (b : Int) := ⟨y14.2.toInt.toNat, by omega⟩
  rw [i_cl ea, i_cl eb]
  have he := L.2.2
  obtain ⟨⟨⟨k136, r0⟩, r1, r2⟩, ⟨⟨ke, kr⟩, LS⟩, _⟩ := L
  have L0 : hc_L M15 e := ⟨⟨⟨k136, r0⟩, r1, r2⟩, ⟨⟨ke, kr⟩, LS⟩, he⟩
  have a5 : M15.2.2.2 e 4 = some (e + 5) := (kr 4 (by decide)).2
  have b5 : g_k M15 (e + 5) = (20, 7) := (kr 4 (by decide)).1
  have c5a := (E4 a (by omega)).2
  have c5b := (E4 b (by omega)).2
  have bl := hc_bl (l1 := v9) (l2 := (1 : Int32)) (d := 1) R0 F15 h9 (by omega) rfl (by decide)
  by_cases cab : y5.2 = y14.2
  · rw [if_pos (Or.inl cab)]
    refine Ok_t cab ?_
    refine x_gR k136 r0 (x_gO (z_k131 C) ?_)
    refine x_eq (C_blame (z_k131 C)) ?_
    exact Ok_s bl
  have nab : a ≠ b := fun h => cab (Int32.toInt_inj.mp (by omega))
  refine Ok_e cab ?_
  refine x_gR k136 r1 (x_gR ke a5 (x_aI b5 ea (by omega) c5a ?_))
  refine x_eq (a := hs_is (x.2 (52 + a)) y14.2) rfl ?_
  by_cases cis : hs_is (x.2 (52 + a)) y14.2 = 1
  · rw [if_pos (Or.inr cis)]
    refine Ok_t cis ?_
    refine x_gR k136 r0 (x_gO (z_k131 C) ?_)
    refine x_eq (C_blame (z_k131 C)) ?_
    exact Ok_s bl
  rw [if_neg (show ¬ (y5.2 = y14.2 ∨ hs_is (x.2 (52 + a)) y14.2 = 1) from fun h => h.elim cab cis)]
  refine Ok_e cis ?_
  refine x_gR k136 r1 (x_gR ke a5 (x_aI b5 ea (by omega) c5a ?_))
  refine x_sI b5 ea (by omega) ?_
  refine x_gR k136 r1 (x_gR ke a5 (x_aI b5 eb (by omega) ((mI_ne (Or.inr (fun h => nab h.symm))).trans c5b) ?_))
  refine x_sI b5 eb (by omega) ?_
  refine x_gR k136 r1 (x_gI ke (((mI_ne (Or.inl (by omega))).trans (mI_ne (Or.inl (by omega)))).trans E1.2) ?_)
  refine x_pI ke ?_
  have inc : (x.2 3 + 1).toInt = (x.2 3).toInt + 1 := i_addc (n := 1) rfl (by omega) (by omega)
  show Ok (some (mI (mI (mI M15 (e + 5) a (x.2 (52 + a) ||| hs_bit y14.2)) (e + 5) b (x.2 (52 + b) ||| hs_bit y5.2)) e 8 (x.2 3 + 1))) _
  obtain ⟨M35, h35⟩ : ∃ M35, M35 = mI (mI (mI M15 (e + 5) a (x.2 (52 + a) ||| hs_bit y14.2)) (e + 5) b (x.2 (52 + b) ||| hs_bit y5.2)) e 8 (x.2 3 + 1) := ⟨_, rfl⟩
  rw [← h35]
  have o : ∀ i k, M35.2.1 i k = if i = e ∧ k = 8 then x.2 3 + 1 else if i = e + 5 ∧ k = b then x.2 (52 + b) ||| hs_bit y5.2 else if i = e + 5 ∧ k = a then x.2 (52 + a) ||| hs_bit y14.2 else M15.2.1 i k := fun i k => by
    rw [h35]
    simp only [mI_if]
  have F35 : hc_Fr e M15 M35 := by
    rw [h35]
    exact hc_tr (hc_up (by unfold hc_w; omega)) (hc_tr (hc_up (by unfold hc_w; omega)) (hc_up (by unfold hc_w; omega)))
  clear h35
  have oe : ∀ k, k ≠ 8 → M35.2.1 e k = M15.2.1 e k := fun k hk => by
    rw [o, if_neg (by omega), if_neg (by omega), if_neg (by omega)]
  have of : ∀ i k, i ≠ e ∧ i ≠ e + 5 → M35.2.1 i k = M15.2.1 i k := fun i k hi => by
    rw [o, if_neg (by omega), if_neg (by omega), if_neg (by omega)]
  have o5 : ∀ k, k ≠ a → k ≠ b → M35.2.1 (e + 5) k = M15.2.1 (e + 5) k := fun k h1 h2 => by
    rw [o, if_neg (by omega), if_neg (by omega), if_neg (by omega)]
  obtain ⟨σ, hσ⟩ : ∃ σ, σ = hs_set (hs_set (hs_set x.2 (52 + a) (x.2 (52 + a) ||| hs_bit y14.2)) (52 + b) (x.2 (52 + b) ||| hs_bit y5.2)) 3 (x.2 3 + 1) := ⟨_, rfl⟩
  rw [← hσ]
  have s : ∀ j, σ j = if j = 3 then x.2 3 + 1 else if j = 52 + b then x.2 (52 + b) ||| hs_bit y5.2 else if j = 52 + a then x.2 (52 + a) ||| hs_bit y14.2 else x.2 j := fun j => by
    rw [hσ]
    rfl
  have sk : ∀ j, j ≠ 3 → j ≠ 52 + a → j ≠ 52 + b → σ j = x.2 j := fun j h1 h2 h3 => by
    rw [s, if_neg h1, if_neg h3, if_neg h2]
  clear hσ
  have s3 : σ 3 = x.2 3 + 1 := by rw [s, if_pos rfl]
  have sk' : ∀ j, j ≠ 3 → j < 52 → σ j = x.2 j := fun j h hj => sk j h (by omega) (by omega)
  refine Ok_s ⟨hc_tr F15 F35, ⟨z_Cx C (fun i => q_k_of F35.1.1.1) F35.1.2 (fun i k h1 h2 => of i k (by omega)), by rw [of 131 7 (by omega)]; exact f0⟩, hc_Lm L0 F35, ⟨⟨⟨⟨?_, ?_⟩, ?_⟩, ⟨?_, ?_⟩, fun t ht => ?_, fun h hh => ?_⟩, ⟨⟨?_, ?_⟩, ?_⟩, fun h hh => ?_, fun t ht => ?_⟩, ⟨?_, ?_, ?_⟩, fun h h1 h2 => ?_, fun t ht => ?_⟩
  all_goals try dsimp only at *
  · rw [oe 6 (by decide), sk' 1 (by decide) (by decide)]
    exact E1.1.1
  · rw [oe 7 (by decide), sk' 2 (by decide) (by decide)]
    exact E1.1.2
  · rw [o, if_pos ⟨rfl, rfl⟩, s3]
  · rw [oe 9 (by decide), sk' 7 (by decide) (by decide)]
    exact E2.1
  · rw [oe 10 (by decide), sk' 6 (by decide) (by decide)]
    exact E2.2
  · rw [sk' 1 (by decide) (by decide)] at ht
    rw [of (e + 1) _ (by omega), of (e + 2) _ (by omega), of (e + 3) _ (by omega), sk' _ (by omega) (by omega), sk' _ (by omega) (by omega), sk' _ (by omega) (by omega)]
    exact E3 _ ht
  · rw [sk' 2 (by decide) (by decide)] at hh
    rw [of (e + 4) _ (by omega), sk' (39 + 2 * h) (by omega) (by omega)]
    refine ⟨(E4 h hh).1, ?_⟩
    by_cases h1 : h = a
    · subst h1
      rw [o, if_neg (by omega), if_neg (by omega), if_pos ⟨rfl, rfl⟩, s, if_neg (by omega), if_neg (by omega), if_pos rfl]
    · by_cases h2 : h = b
      · subst h2
        rw [o, if_neg (by omega), if_pos ⟨rfl, rfl⟩, s, if_neg (by omega), if_pos rfl]
      · rw [o5 h h1 h2, sk (52 + h) (by omega) (by omega) (by omega)]
        exact (E4 h hh).2
  · rw [of 143 4 (by omega), sk' 8 (by decide) (by decide)]
    exact S1.1.1
  · rw [of 143 5 (by omega), sk' 4 (by decide) (by decide)]
    exact S1.1.2
  · rw [of 143 6 (by omega), sk' 5 (by decide) (by decide)]
    exact S1.2
  · rw [sk' 2 (by decide) (by decide)] at hh
    rw [of 146 _ (by omega), sk' _ (by omega) (by omega)]
    exact ⟨(S2 h hh).1, fun t ht => k_cm ((S2 h hh).2 t ht) (of 144 _ (by omega)) (of 145 _ (by omega)) (sk _ (by omega) (by omega) (by omega)) (sk _ (by omega) (by omega) (by omega))⟩
  · rw [sk' 1 (by decide) (by decide)] at ht
    rw [of 147 _ (by omega), sk' _ (by omega) (by omega)]
    exact S3 _ ht
  · rw [sk' 1 (by decide) (by decide)]
    exact X1.1
  · rw [sk' 2 (by decide) (by decide)]
    exact X1.2.1
  · rw [s3, inc]
    omega
  · rw [sk' 2 (by decide) (by decide)] at h1
    rw [o5 h (by omega) (by omega)]
    refine ⟨(X2 h h1 h2).1, fun t ht => ?_⟩
    rw [of 145 _ (by omega)]
    exact (X2 h h1 h2).2 t ht
  · rw [of 147 _ (by omega)]
    exact X3 _ ht
theorem C_readNumbers {T M : gM} {e : Nat} {x : hS} {l1 : Int32} {k : Int} (R : hc_R T M e x) (hl : l1.toInt = k) (hf : hs_full x.2 k = false) : Ok (F_X2_readNumbers (some 136) l1 M) (fun M' => hc_Fr e M M' ∧ hc_P T M' e (hs_body T k x)) := by
  have hf' := of_decide_eq_false hf
  have t : ∀ (c : Int32) (n : Int), c.toInt = n → ((l1 = c) ↔ (k = n)) := fun c n hc => ⟨fun e => by rw [← hl, e, hc], fun e => Int32.toInt_inj.mp (by rw [hl, hc, e])⟩
  have k136 := R.2.1.1.1.1
  delta F_X2_readNumbers F_X2_readNumbers_b0 F_X2_readNumbers_b191
  unfold hs_body
  by_cases c1 : k = 261
  · rw [if_pos c1, if_pos ((t 261 261 rfl).mpr c1)]
    exact x_gO k136 (Ok_b (C_readHeir R (by omega)) (fun M2 z => Ok_s z))
  rw [if_neg c1, if_neg (fun h => c1 ((t 261 261 rfl).mp h))]
  by_cases c2 : k = 262
  · rw [if_pos c2, if_pos ((t 262 262 rfl).mpr c2)]
    exact x_gO k136 (Ok_b (C_readThing R (by omega)) (fun M2 z => Ok_s z))
  rw [if_neg c2, if_neg (fun h => c2 ((t 262 262 rfl).mp h))]
  by_cases c3 : k = 267
  · rw [if_pos c3, if_pos ((t 267 267 rfl).mpr c3)]
    exact C_hate R
  rw [if_neg c3, if_neg (fun h => c3 ((t 267 267 rfl).mp h))]
  by_cases c4 : k = 268
  · rw [if_pos c4, if_pos ((t 268 268 rfl).mpr c4)]
    exact C_song R
  rw [if_neg c4, if_neg (fun h => c4 ((t 268 268 rfl).mp h))]
  by_cases c5 : k = 275
  · rw [if_pos c5, if_pos ((t 275 275 rfl).mpr c5)]
    exact C_asks R
  rw [if_neg c5, if_neg (fun h => c5 ((t 275 275 rfl).mp h))]
  by_cases c6 : k = 276
  · rw [if_pos c6, if_pos ((t 276 276 rfl).mpr c6)]
    exact x_gO k136 (Ok_b (C_readCousins R (by omega)) (fun M2 z => Ok_s z))
  rw [if_neg c6, if_neg (fun h => c6 ((t 276 276 rfl).mp h))]
  exact x_gO k136 (Ok_b (C_readKnows R) (fun M2 z => Ok_s z))
theorem C_isClause {M : gM} {l1 : Int32} {k : Int} (hl : l1.toInt = k) : F_X2_isClause l1 M = some (if hs_w k = false then 0 else 1) := by
  have t : ∀ (c : Int32) (n : Int), c.toInt = n → ((l1 = c) ↔ (k = n)) := fun c n hc => ⟨fun e => by rw [← hl, e, hc], fun e => Int32.toInt_inj.mp (by rw [hl, hc, e])⟩
  delta F_X2_isClause F_X2_isClause_b0 F_X2_isClause_b49
  simp only [t 275 275 rfl, t 262 262 rfl, t 268 268 rfl, t 261 261 rfl, t 267 267 rfl, t 276 276 rfl, t 277 277 rfl]
  by_cases h : hs_w k = false
  · have h' := of_decide_eq_false h
    rw [if_pos h, if_neg (by omega), if_neg (by omega), if_neg (by omega), if_neg (by omega), if_neg (by omega), if_neg (by omega), if_neg (by omega)]
  · have h' := of_decide_eq_true (Bool.of_not_eq_false h)
    rw [if_neg h]
    repeat' split
    all_goals first | rfl | (exfalso; omega)
theorem C_isFull {T M : gM} {e : Nat} {x : hS} {l1 : Int32} {k : Int} (R : hc_R T M e x) (hl : l1.toInt = k) : F_X2_isFull (some 136) l1 M = some (if hs_full x.2 k = true then 1 else 0) := by
  have t : ∀ (c : Int32) (n : Int), c.toInt = n → ((l1 = c) ↔ (k = n)) := fun c n hc => ⟨fun e => by rw [← hl, e, hc], fun e => Int32.toInt_inj.mp (by rw [hl, hc, e])⟩
  obtain ⟨⟨⟨⟨k136, r0⟩, r1, r2⟩, ke, k9⟩, ⟨⟨e6, e7⟩, e8⟩, e9, e10⟩ := hc_of R
  have z7 : (7 : Int32).toInt = 7 := rfl
  have z10 : (10 : Int32).toInt = 10 := rfl
  have g1 : ((7 : Int32) ≤ x.2 1) ↔ 7 ≤ (x.2 1).toInt := Int32.le_iff_toInt_le
  have g2 : ((7 : Int32) ≤ x.2 2) ↔ 7 ≤ (x.2 2).toInt := Int32.le_iff_toInt_le
  have g3 : (x.2 3 < (10 : Int32)) ↔ (x.2 3).toInt < 10 := Int32.lt_iff_toInt_lt
  delta F_X2_isFull F_X2_isFull_b0 F_X2_isFull_b19 F_X2_isFull_b38 F_X2_isFull_b57 F_X2_isFull_b61
  simp only [t_gR k136 r1, Option.bind_some, t_gI ke, e6, e7, e8, t 262 262 rfl, t 261 261 rfl, t 276 276 rfl, g1, g2, g3]
  by_cases h : hs_full x.2 k = true
  · have h' := of_decide_eq_true h
    rw [if_pos h]
    repeat' split
    all_goals first | rfl | (exfalso; omega)
  · have h' := of_decide_eq_false (b_ff h)
    rw [if_neg h]
    repeat' split
    all_goals first | rfl | (exfalso; omega)
theorem C_readHClause {T M : gM} {e cl : Nat} {x : hS} {l1 : Int32} (R : hc_R T M e x) (hl : l1.toInt = (cl : Int)) : Ok (F_X2_readClause (some 136) l1 M) (fun M' => hc_Fr e M M' ∧ hc_P T M' e (hs_cl T cl x)) := by
  obtain ⟨⟨⟨⟨k136, r0⟩, r1, r2⟩, ke, k9⟩, _⟩ := hc_of R
  have hz := z_Cs R.1.1
  have bl := fun {v : Int32} {l2 : Int32} {d : Nat} (h : v.toInt = (x.1 : Int)) (h2 : l2.toInt = (d : Int)) (hd : d ≤ 7) => hc_bl (l1 := v) (l2 := l2) (d := d) R hc_rf h (by omega) h2 hd
  have b72 : Ok (F_X2_readClause_b72 (some 136) M) (fun M' => hc_Fr e M M' ∧ hc_P T M' e (.inl (1 + 8 * x.1 + 4))) := by
    delta F_X2_readClause_b72
    refine x_gR k136 r0 (x_gR k136 r0 (x_gO k9 ?_))
    refine Ok_b (C_place R.1.1) (fun v4 h4 => ?_)
    refine x_gO k9 (x_eq (C_blame k9) ?_)
    exact Ok_s (bl h4 rfl (by decide))
  delta F_X2_readClause F_X2_readClause_b0
  unfold hs_cl
  refine x_gR k136 r0 (x_gO k9 ?_)
  refine Ok_b (C_kind R.1.1) (fun v3 h3 => ?_)
  refine x_eq (C_isClause h3) ?_
  by_cases cw : hs_w (k_kind T x.1) = false
  · rw [if_pos cw, if_pos cw]
    refine Ok_t rfl ?_
    refine x_gR k136 r0 (x_gR k136 r0 (x_gO k9 ?_))
    refine Ok_b (C_place R.1.1) (fun v4 h4 => ?_)
    refine x_gO k9 (x_eq (C_blame k9) ?_)
    exact Ok_s (bl h4 rfl (by decide))
  rw [if_neg cw, if_neg cw]
  refine Ok_e (by decide) ?_
  have z40 : (40 : Int32).toInt = 40 := rfl
  have z1 : (1 : Int32).toInt = 1 := rfl
  have z275 : (275 : Int32).toInt = 275 := rfl
  have e275 : v3 = 275 ↔ k_kind T x.1 = 275 := ⟨fun h => by rw [← h3, h]; rfl, fun h => Int32.toInt_inj.mp (by rw [h3, h]; rfl)⟩
  have e1 : l1 = 1 ↔ cl = 1 := ⟨fun h => by rw [h] at hl; omega, fun h => Int32.toInt_inj.mp (by omega)⟩
  have badT : ∀ h : (40 < cl ∨ ¬ (k_kind T x.1 = 275 ↔ cl = 1)) ∨ hs_full x.2 (k_kind T x.1) = true, hs_bad x.2 (k_kind T x.1) cl = true := by
    intro h
    unfold hs_bad
    rw [Bool.or_eq_true]
    exact h.imp decide_eq_true id
  refine Ok_i (fun c40 => ?_) (fun c40 => ?_)
  · have := i_lt c40
    rw [if_pos (badT (Or.inl (Or.inl (by omega))))]
    exact b72
  have c40' := i_nlt c40
  have main : ∀ s : Int32, (k_kind T x.1 = 275 ↔ cl = 1) → Ok (F_X2_readClause_b61 (some 136) v3 s s M) (fun M' => hc_Fr e M M' ∧ hc_P T M' e (if hs_bad x.2 (k_kind T x.1) cl = true then .inl (1 + 8 * x.1 + 4) else hs_body T (k_kind T x.1) (k_go T x.1, x.2))) := by
    intro s hs
    delta F_X2_readClause_b61
    refine Ok_t rfl (x_gO k136 ?_)
    refine x_eq (C_isFull R h3) ?_
    by_cases cf : hs_full x.2 (k_kind T x.1) = true
    · rw [if_pos cf, if_pos (badT (Or.inr cf))]
      exact Ok_e (by decide) b72
    · have nb : ¬ hs_bad x.2 (k_kind T x.1) cl = true := by
        unfold hs_bad
        rw [Bool.or_eq_true]
        rintro (h | h)
        · rcases of_decide_eq_true h with h | h
          · omega
          · exact h hs
        · exact cf h
      rw [if_neg cf, if_neg nb]
      refine Ok_t rfl (x_gR k136 r0 (x_gO k9 ?_))
      refine Ok_b (C_next R.1.1) (fun M5 z => ?_)
      have f5 := z_57a z.2
      have R5 : hc_R T M5 e (k_go T x.1, x.2) := hc_sq R.2.1 R.2.2 f5 z.1 (by rw [z.2.2 131 7 (by omega)]; exact R.1.2)
      refine x_gC R5.2.1.1.1.1 ?_
      refine Ok_b (C_readNumbers (x := (k_go T x.1, x.2)) R5 h3 (b_ff cf)) (fun M7 w => ?_)
      exact Ok_s ⟨hc_tr (hc_57 f5) w.1, w.2⟩
  by_cases c275 : k_kind T x.1 = 275
  · refine Ok_t (e275.mpr c275) ?_
    delta F_X2_readClause_b51
    by_cases c1 : cl = 1
    · refine Ok_t (e1.mpr c1) ?_
      exact main 1 (by omega)
    · refine Ok_e (fun h => c1 (e1.mp h)) ?_
      rw [if_pos (badT (Or.inl (Or.inr (by omega))))]
      delta F_X2_readClause_b61
      exact Ok_e (by decide) b72
  · refine Ok_e (fun h => c275 (e275.mp h)) ?_
    delta F_X2_readClause_b51
    by_cases c1 : cl = 1
    · refine Ok_t (e1.mpr c1) ?_
      rw [if_pos (badT (Or.inl (Or.inr (by omega))))]
      delta F_X2_readClause_b61
      exact Ok_e (by decide) b72
    · refine Ok_e (fun h => c1 (e1.mp h)) ?_
      exact main 0 (by omega)
theorem C_goesOnF {T M : gM} {e er : Nat} (Y : hc_Y T M e er) : Ok (F_X9_goesOn (some 131) M) (fun r => r.1 = 0 ∧ z_57 M r.2 ∧ hc_Y T r.2 e er) := by
  obtain ⟨p, C⟩ := Y.1.1
  have k9 := z_k131 C
  have fn := hc_Yn Y
  delta F_X9_goesOn F_X9_goesOn_b0
  rw [t_gO k9, Option.bind_some, C_faulty k9, Option.bind_some, if_neg fn, if_neg (by decide)]
  delta F_X9_goesOn_b19
  rw [t_gO k9, Option.bind_some]
  refine Ok_b (C_expect (l := 59) C) (fun M2 w => ?_)
  obtain ⟨C2, f57, w1, w2, w3⟩ := w
  have k92 := z_k131 C2
  have Y2 : hc_Y T M2 e er := ⟨⟨⟨_, C2⟩, by rw [w2 fn]; exact Y.1.2.1, Y.1.2.2⟩, hc_Lm Y.2 (hc_57 f57)⟩
  rw [t_gC k92, Option.bind_some, C_faulty k92, Option.bind_some, if_neg (hc_Yn Y2), if_neg (by decide)]
  exact Ok_s ⟨rfl, f57, Y2⟩
theorem C_hread_end {n : Nat} {l2 : Int32} {M : gM} : F_X2_read_L29 (n + 1) (some 136) (0 : Int32) l2 M = F_X2_read_b58 (some 136) M := by
  show F_X2_read_b29 (F_X2_read_L29 n) (some 136) (0 : Int32) l2 M = _
  delta F_X2_read_b29
  by_cases c : (41 : Int32) < l2
  · rw [if_pos c]
  · rw [if_neg c, if_pos rfl]
theorem C_hread_L29 {T : gM} {e : Nat} : ∀ (n cl : Nat) {l2 : Int32} {M : gM} {x : hS}, hc_R T M e x → l2.toInt = (cl : Int) → 1 ≤ cl → cl ≤ 41 → 43 - cl < n → ∃ Mk, F_X2_read_L29 n (some 136) (1 : Int32) l2 M = F_X2_read_b58 (some 136) Mk ∧ hc_Fr e M Mk ∧ hc_P T Mk e (hs_tl T (43 - cl) cl x) := by
  intro n
  induction n with
  | zero => intro cl l2 M x R h2 h1 hc hn; omega
  | succ n ih =>
    intro cl l2 M x R h2 h1 hc hn
    have k136 := R.2.1.1.1.1
    have z41 : (41 : Int32).toInt = 41 := rfl
    have e' : F_X2_read_L29 (n + 1) (some 136) (1 : Int32) l2 M = (F_X2_readClause (some 136) l2 M).bind fun M2 => (gR 2 M2 (some 136) 0).bind fun v3 => (gO 9 M2 v3).bind fun i4 => (F_X9_goesOn (some i4) M2).bind fun (v5, M6) => F_X2_read_L29 n (some 136) v5 (l2 + 1) M6 := by
      show F_X2_read_b29 (F_X2_read_L29 n) (some 136) (1 : Int32) l2 M = _
      delta F_X2_read_b29
      rw [if_neg (fun z => by have := i_lt z; omega), if_neg (by decide), t_gO k136, Option.bind_some]
    obtain ⟨M2, e2, f2, q2⟩ := C_readHClause R h2
    rw [e', e2, Option.bind_some]
    obtain ⟨n', rfl⟩ : ∃ m, n = m + 1 := ⟨n - 1, by omega⟩
    rw [show 43 - cl = (42 - cl) + 1 by omega]
    unfold hs_tl
    cases hit : hs_cl T cl x with
    | inl er =>
      rw [hit] at q2
      have Y : hc_Y T M2 e er := q2
      rw [t_gR (hc_Yof Y).1.1.1 (hc_Yof Y).1.1.2, Option.bind_some, t_gO (hc_Yk Y), Option.bind_some]
      obtain ⟨⟨v5, M6⟩, e6, g1, g2, g3⟩ := C_goesOnF Y
      dsimp only at g1 g2 g3
      rw [e6, Option.bind_some]
      dsimp only
      rw [g1, C_hread_end]
      exact ⟨M6, rfl, hc_tr f2 (hc_57 g2), g3⟩
    | inr y =>
      rw [hit] at q2
      have R2 : hc_R T M2 e y := q2
      have cl40 : cl ≤ 40 := by
        rcases Nat.lt_or_ge 40 cl with h | h
        · exfalso
          unfold hs_cl at hit
          by_cases c : hs_w (k_kind T x.1) = false
          · rw [if_pos c] at hit
            cases hit
          · have hb : hs_bad x.2 (k_kind T x.1) cl = true := by
              unfold hs_bad
              rw [decide_eq_true (Or.inl h)]
              rfl
            rw [if_neg c, if_pos hb] at hit
            cases hit
        · exact h
      rw [t_gR R2.2.1.1.1.1 R2.2.1.1.1.2, Option.bind_some, t_gO (z_k131 R2.1.1), Option.bind_some]
      obtain ⟨⟨v5, M6⟩, e6, ⟨g1, q6, gC⟩, ga, gb, gc⟩ := C_goesOn R2.1.1 R2.1.2
      dsimp only at g1 gC ga gb gc
      rw [e6, Option.bind_some]
      dsimp only
      by_cases c256 : k_kind T y.1 = 256
      · obtain ⟨a1, a2⟩ := ga c256
        rw [if_pos c256, a1, a2, C_hread_end]
        exact ⟨M2, rfl, f2, R2⟩
      · rw [if_neg c256]
        by_cases c59 : k_kind T y.1 = 59
        · obtain ⟨a1, a2, a3⟩ := gb c59
          rw [if_pos c59, a1]
          have R6 : hc_R T M6 e (k_go T y.1, y.2) := hc_sq R2.2.1 R2.2.2 g1 a2 a3
          obtain ⟨Mk, b1, b2, b3⟩ := ih (cl + 1) (l2 := l2 + 1) R6 (by rw [show (l2 + 1 : Int32) = Int32.ofNat (cl + 1) from n_inc h2 (by omega), i_ofNat (by omega)]) (by omega) (by omega) (by omega)
          rw [show 43 - (cl + 1) = 42 - cl by omega] at b3
          exact ⟨Mk, b1, hc_tr f2 (hc_tr (hc_57 g1) b2), b3⟩
        · obtain ⟨a1, a2⟩ := gc c256 c59
          rw [if_neg c59, a1, C_hread_end]
          exact ⟨M6, rfl, hc_tr f2 (hc_57 g1), ⟨⟨_, gC⟩, a2, by omega⟩, hc_Lm R2.2.1 (hc_57 g1)⟩
