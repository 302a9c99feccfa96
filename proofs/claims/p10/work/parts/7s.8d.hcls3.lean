/-! numbers of one clause: songs, hates, ASKS -/
theorem hs_se {σ : Nat → Int32} {k : Nat} {v : Int32} : hs_set σ k v k = v := if_pos rfl
theorem hs_sn {σ : Nat → Int32} {k j : Nat} {v : Int32} (h : j ≠ k) : hs_set σ k v j = σ j := if_neg h
theorem hc_Yw {T M : gM} {e er i k : Nat} {v : Int32} (Y : hc_Y T M e er) (hi : i = e ∨ i = 143) : hc_Fr e M (mI M i k v) ∧ hc_Y T (mI M i k v) e er := by
  have he := Y.2.2.2
  have F : hc_Fr e M (mI M i k v) := hc_up (by unfold hc_w; omega)
  have of : ∀ a b, a < 143 → (mI M i k v).2.1 a b = M.2.1 a b := fun a b h => mI_ne (by omega)
  obtain ⟨⟨⟨p, C⟩, y1, y2⟩, L⟩ := Y
  exact ⟨F, ⟨⟨p, z_Cx C (fun i => q_k_of F.1.1.1) F.1.2 (fun a b h1 h2 => of a b (by omega))⟩, by rw [of 131 7 (by decide)]; exact y1, y2⟩, hc_Lm L F⟩
theorem C_bitOf {v : Int32} {M : gM} : F_X2_bitOf v M = some (if 0 ≤ v then hs_bit v else 0) := by
  delta F_X2_bitOf F_X2_bitOf_b0
  by_cases h : 0 ≤ v
  · rw [if_pos h, if_pos h]
    rfl
  · rw [if_neg h, if_neg h]
theorem hc_of {T M : gM} {e : Nat} {x : hS} (R : hc_R T M e x) : (((g_k M 136 = (2, 0) ∧ M.2.2.2 136 0 = some 131) ∧ M.2.2.2 136 1 = some e ∧ M.2.2.2 136 2 = some 143) ∧ g_k M e = (1, 0) ∧ g_k M 131 = (9, 0)) ∧ ((M.2.1 e 6 = x.2 1 ∧ M.2.1 e 7 = x.2 2) ∧ M.2.1 e 8 = x.2 3) ∧ M.2.1 e 9 = x.2 7 ∧ M.2.1 e 10 = x.2 6 := ⟨⟨R.2.1.1, R.2.1.2.1.1.1, z_k131 R.1.1⟩, R.2.2.1.1.1, R.2.2.1.1.2.1⟩
theorem hc_Yof {T M : gM} {e er : Nat} (Y : hc_Y T M e er) : ((g_k M 136 = (2, 0) ∧ M.2.2.2 136 0 = some 131) ∧ M.2.2.2 136 1 = some e ∧ M.2.2.2 136 2 = some 143) ∧ g_k M e = (1, 0) ∧ g_k M 131 = (9, 0) ∧ g_k M 143 = (8, 0) := ⟨Y.2.1, Y.2.2.1.1.1, hc_Yk Y, Y.2.2.1.2.1.1⟩
theorem C_hate {T M : gM} {e : Nat} {x : hS} (R : hc_R T M e x) : Ok ((gR 2 M (some 136) 1).bind fun v5 => (gI 1 M v5 10).bind fun v6 => (gR 2 M (some 136) 0).bind fun v7 => (gR 2 M (some 136) 1).bind fun v8 => (gI 1 M v8 7).bind fun v9 => (gO 9 M v7).bind fun i10 => (F_X9_number (some i10) (0 : Int32) (v9 - (1 : Int32)) M).bind fun (v11, M12) => (F_X2_bitOf v11 M12).bind fun v13 => (pI 1 M12 v5 10 (v6 ||| v13)).bind fun M14 => some M14) (fun M' => hc_Fr e M M' ∧ hc_P T M' e (hs_hate T x)) := by
  obtain ⟨⟨⟨⟨k136, r0⟩, r1, r2⟩, ke, k9⟩, ⟨⟨e6, e7⟩, e8⟩, e9, e10⟩ := hc_of R
  have X1 := R.2.2.2.1
  refine x_gR k136 r1 (x_gI ke e10 ?_)
  refine x_gR k136 r0 (x_gR k136 r1 (x_gI ke e7 (x_gO k9 ?_)))
  have hh : (x.2 2 - (1 : Int32)).toInt = (x.2 2).toInt - 1 := i_subc rfl (by omega) (by omega)
  unfold hs_hate
  refine x_num R hc_rf (l := 0) rfl hh (by decide) (by omega) (fun er M4 hit F4 Y => ?_) (fun y M4 hit F4 R4 v3 => ?_)
  · rw [hit, hs_bl]
    refine x_eq C_bitOf ?_
    refine x_pI (hc_Yof Y).2.1 ?_
    obtain ⟨a, b⟩ := hc_Yw (k := 10) (v := (x.2 6 ||| (if (0 : Int32) ≤ -1 then hs_bit (-1) else 0))) Y (Or.inl rfl)
    exact Ok_s ⟨hc_tr F4 a, b⟩
  · rw [hit, hs_br]
    refine x_eq C_bitOf ?_
    rw [if_pos (show (0 : Int32) ≤ y.2 from Int32.le_iff_toInt_le.mpr v3.1)]
    refine x_pI (hc_of R4).1.2.1 ?_
    obtain ⟨a, b⟩ := hc_R1 (i := e) (k := 10) (v := x.2 6 ||| hs_bit y.2) (σ' := hs_set x.2 6 (x.2 6 ||| hs_bit y.2)) R4 (Or.inl rfl) (fun _ => Or.inr rfl) (fun h => by have := R.2.1.2.2; omega) (by rw [mI_ne (Or.inr (by decide)), (hc_of R4).2.2.1, hs_sn (by decide)]) (by rw [y_mI1, hs_se]) (by rw [mI_ne (Or.inl (by have := R.2.1.2.2; omega)), R4.2.2.1.2.1.2, hs_sn (by decide)]) (fun j _ _ h6 _ => hs_sn h6)
    exact Ok_s ⟨hc_tr F4 a, b⟩
theorem C_song {T M : gM} {e : Nat} {x : hS} (R : hc_R T M e x) : Ok ((gR 2 M (some 136) 1).bind fun v15 => (gI 1 M v15 9).bind fun v16 => (gR 2 M (some 136) 0).bind fun v17 => (gR 2 M (some 136) 1).bind fun v18 => (gI 1 M v18 6).bind fun v19 => (gO 9 M v17).bind fun i20 => (F_X9_number (some i20) (0 : Int32) (v19 - (1 : Int32)) M).bind fun (v21, M22) => (F_X2_bitOf v21 M22).bind fun v23 => (pI 1 M22 v15 9 (v16 ||| v23)).bind fun M24 => some M24) (fun M' => hc_Fr e M M' ∧ hc_P T M' e (hs_song T x)) := by
  obtain ⟨⟨⟨⟨k136, r0⟩, r1, r2⟩, ke, k9⟩, ⟨⟨e6, e7⟩, e8⟩, e9, e10⟩ := hc_of R
  have X1 := R.2.2.2.1
  refine x_gR k136 r1 (x_gI ke e9 ?_)
  refine x_gR k136 r0 (x_gR k136 r1 (x_gI ke e6 (x_gO k9 ?_)))
  have hh : (x.2 1 - (1 : Int32)).toInt = (x.2 1).toInt - 1 := i_subc rfl (by omega) (by omega)
  unfold hs_song
  refine x_num R hc_rf (l := 0) rfl hh (by decide) (by omega) (fun er M4 hit F4 Y => ?_) (fun y M4 hit F4 R4 v3 => ?_)
  · rw [hit, hs_bl]
    refine x_eq C_bitOf ?_
    refine x_pI (hc_Yof Y).2.1 ?_
    obtain ⟨a, b⟩ := hc_Yw (k := 9) (v := (x.2 7 ||| (if (0 : Int32) ≤ -1 then hs_bit (-1) else 0))) Y (Or.inl rfl)
    exact Ok_s ⟨hc_tr F4 a, b⟩
  · rw [hit, hs_br]
    refine x_eq C_bitOf ?_
    rw [if_pos (show (0 : Int32) ≤ y.2 from Int32.le_iff_toInt_le.mpr v3.1)]
    refine x_pI (hc_of R4).1.2.1 ?_
    obtain ⟨a, b⟩ := hc_R1 (i := e) (k := 9) (v := x.2 7 ||| hs_bit y.2) (σ' := hs_set x.2 7 (x.2 7 ||| hs_bit y.2)) R4 (Or.inl rfl) (fun _ => Or.inl rfl) (fun h => by have := R.2.1.2.2; omega) (by rw [y_mI1, hs_se]) (by rw [mI_ne (Or.inr (by decide)), (hc_of R4).2.2.2, hs_sn (by decide)]) (by rw [mI_ne (Or.inl (by have := R.2.1.2.2; omega)), R4.2.2.1.2.1.2, hs_sn (by decide)]) (fun j _ _ _ h7 => hs_sn h7)
    exact Ok_s ⟨hc_tr F4 a, b⟩
theorem C_asks {T M : gM} {e : Nat} {x : hS} (R : hc_R T M e x) : Ok ((gR 2 M (some 136) 2).bind fun v25 => (gR 2 M (some 136) 0).bind fun v26 => (gO 9 M v26).bind fun i27 => (F_X9_number (some i27) (1 : Int32) (20 : Int32) M).bind fun (v28, M29) => (pI 8 M29 v25 6 v28).bind fun M30 => some M30) (fun M' => hc_Fr e M M' ∧ hc_P T M' e (hs_house T x)) := by
  obtain ⟨⟨⟨⟨k136, r0⟩, r1, r2⟩, ke, k9⟩, ⟨⟨e6, e7⟩, e8⟩, e9, e10⟩ := hc_of R
  refine x_gR k136 r2 (x_gR k136 r0 (x_gO k9 ?_))
  unfold hs_house
  refine x_num R hc_rf (l := 1) (h := 20) rfl rfl (by decide) (by decide) (fun er M4 hit F4 Y => ?_) (fun y M4 hit F4 R4 v3 => ?_)
  · rw [hit, hs_bl]
    refine x_pI (hc_Yof Y).2.2.2 ?_
    obtain ⟨a, b⟩ := hc_Yw (k := 6) (v := (-1 : Int32)) Y (Or.inr rfl)
    exact Ok_s ⟨hc_tr F4 a, b⟩
  · rw [hit, hs_br]
    refine x_pI R4.2.1.2.1.2.1.1 ?_
    have he := R.2.1.2.2
    obtain ⟨a, b⟩ := hc_R1 (i := 143) (k := 6) (v := y.2) (σ' := hs_set (hs_set x.2 5 y.2) 0 1) R4 (Or.inr rfl) (fun h => by omega) (fun _ => rfl) (by rw [mI_ne (Or.inl (by omega)), (hc_of R4).2.2.1, hs_sn (by decide), hs_sn (by decide)]) (by rw [mI_ne (Or.inl (by omega)), (hc_of R4).2.2.2, hs_sn (by decide), hs_sn (by decide)]) (by rw [y_mI1, hs_sn (by decide), hs_se]) (fun j h0 h5 _ _ => by rw [hs_sn h0, hs_sn h5])
    exact Ok_s ⟨hc_tr F4 a, b⟩
/-- what an HEIR knows of a THING, set -/
theorem C_learn {M : gM} {s h t : Nat} {l1 l2 a v : Int32} (L : k_LS M s) (h1 : l1.toInt = (h : Int)) (h2 : l2.toInt = (t : Int)) (hh : h < 7) (ht : t < 7) : F_X8_learn (some s) l1 l2 a v M = some (mI (mI M (s + 1) (7 * h + t) a) (s + 2) (7 * h + t) v) := by
  obtain ⟨⟨k, ⟨k1, k2⟩, k3, k4⟩, ⟨r0, r1⟩, r2, r3⟩ := L
  have a1 := i_mulR (x := l1) (c := (7 : Int32)) (n := 7) rfl (by omega) (by omega)
  have a2 := i_add (x := l1 * (7 : Int32)) (y := l2) (by omega) (by omega)
  have e : (l1 * (7 : Int32) + l2).toInt = ((7 * h + t : Nat) : Int) := by omega
  delta F_X8_learn F_X8_learn_b0
  rw [t_gR k r0, Option.bind_some, t_sI k1 (by omega) (by omega), Option.bind_some, i_cl e]
  have k' : g_k (mI M (s + 1) (7 * h + t) a) s = (8, 0) := k
  have r' : (mI M (s + 1) (7 * h + t) a).2.2.2 s 1 = some (s + 2) := r1
  have k2' : g_k (mI M (s + 1) (7 * h + t) a) (s + 2) = (20, 49) := k2
  rw [t_gR k' r', Option.bind_some, t_sI k2' (by omega) (by omega), Option.bind_some, i_cl e]
theorem C_readKnows {T M : gM} {e : Nat} {x : hS} (R : hc_R T M e x) : Ok (F_X2_readKnows (some 136) M) (fun M' => hc_Fr e M M' ∧ hc_P T M' e (hs_know T x)) := by
  have X1 := R.2.2.2.1
  have hh1 : (x.2 1 - (1 : Int32)).toInt = (x.2 1).toInt - 1 := i_subc rfl (by omega) (by omega)
  have hh2 : (x.2 2 - (1 : Int32)).toInt = (x.2 2).toInt - 1 := i_subc rfl (by omega) (by omega)
  have z0 : (0 : Int32).toInt = 0 := rfl
  delta F_X2_readKnows F_X2_readKnows_b0
  unfold hs_know
  refine x_gR R.2.1.1.1.1 R.2.1.1.1.2 (x_gR R.2.1.1.1.1 R.2.1.1.2.1 (x_gI (hc_of R).1.2.1 (hc_of R).2.1.1.2 (x_gO (z_k131 R.1.1) ?_)))
  refine x_num R hc_rf (l := 0) rfl hh2 (by decide) (by omega) (fun er M4 hit F4 Y => ?_) (fun y5 M6 hit F6 R6 v5 => ?_)
  · rw [hit, hs_bl]
    refine x_gR (hc_Yof Y).1.1.1 (hc_Yof Y).1.1.2 (x_gR (hc_Yof Y).1.1.1 (hc_Yof Y).1.2.1 (x_gI (hc_Yof Y).2.1 rfl (x_gO (hc_Yk Y) (x_numF Y ?_))))
    refine x_tx Y (x_numF Y ?_)
    refine x_tx Y (x_numF Y ?_)
    refine x_tx Y (x_faultF Y ?_)
    exact Ok_e (by decide) (Ok_s ⟨F4, Y⟩)
  rw [hit, hs_br]
  refine x_gR R6.2.1.1.1.1 R6.2.1.1.1.2 (x_gR R6.2.1.1.1.1 R6.2.1.1.2.1 (x_gI (hc_of R6).1.2.1 (hc_of R6).2.1.1.1 (x_gO (z_k131 R6.1.1) ?_)))
  refine x_num R6 F6 (l := 0) rfl hh1 (by decide) (by omega) (fun er M8 hit F8 Y => ?_) (fun y11 M12 hit F12 R12 v11 => ?_)
  · dsimp only at hit ⊢
    rw [hit, hs_bl]
    refine x_tx Y (x_numF Y ?_)
    refine x_tx Y (x_numF Y ?_)
    refine x_tx Y (x_faultF Y ?_)
    exact Ok_e (by decide) (Ok_s ⟨F8, Y⟩)
  dsimp only at hit ⊢
  rw [hit, hs_br]
  refine x_txR R12 ?_
  refine x_num R12 F12 (l := 0) (h := 9) rfl rfl (by decide) (by decide) (fun er M8 hit F8 Y => ?_) (fun y15 M16 hit F16 R16 v15 => ?_)
  · dsimp only at hit ⊢
    rw [hit, hs_bl]
    refine x_tx Y (x_numF Y ?_)
    refine x_tx Y (x_faultF Y ?_)
    exact Ok_e (by decide) (Ok_s ⟨F8, Y⟩)
  dsimp only at hit ⊢
  rw [hit, hs_br]
  refine x_txR R16 ?_
  refine x_num R16 F16 (l := 1) (h := 99) rfl rfl (by decide) (by decide) (fun er M8 hit F8 Y => ?_) (fun y19 M20 hit F20 R20 v19 => ?_)
  · dsimp only at hit ⊢
    rw [hit, hs_bl]
    refine x_tx Y (x_faultF Y ?_)
    exact Ok_e (by decide) (Ok_s ⟨F8, Y⟩)
  dsimp only at hit v5 v11 ⊢
  rw [hit, hs_br]
  refine x_txR R20 ?_
  obtain ⟨⟨C, f0⟩, L, ⟨⟨E1, E2, E3, E4⟩, S1, S2, S3⟩, X1, X2, X3⟩ := R20
  dsimp only at C E1 E2 E3 E4 S1 S2 S3 X1 X2 X3
  refine x_fault0 (z_k131 C) f0 ?_
  refine Ok_t rfl ?_
  refine Ok_e (fun c => by have := i_lt c; omega) ?_
  refine Ok_e (fun c => by have := i_lt c; omega) ?_
  obtain ⟨h, eh⟩ : ∃ h : Nat, y5.2.toInt = (h : Int) := ⟨y5.2.toInt.toNat, by omega⟩
  obtain ⟨t, et⟩ : ∃ t : Nat, y11.2.toInt = (t : Int) := ⟨y11.2.toInt.toNat, by omega⟩
  have he := L.2.2
  refine x_gR L.1.1.1 L.1.2.2 (x_gO L.2.1.2.1.1 ?_)
  refine x_eq (C_learn (s := 143) L.2.1.2 eh et (by omega) (by omega)) ?_
  rw [i_cl eh, i_cl et]
  obtain ⟨M35, h35⟩ : ∃ M35, M35 = mI (mI M20 144 (7 * h + t) y15.2) 145 (7 * h + t) y19.2 := ⟨_, rfl⟩
  show Ok (some (mI (mI M20 144 (7 * h + t) y15.2) 145 (7 * h + t) y19.2)) _
  rw [← h35]
  have o : ∀ i k, M35.2.1 i k = if i = 145 ∧ k = 7 * h + t then y19.2 else if i = 144 ∧ k = 7 * h + t then y15.2 else M20.2.1 i k := fun i k => by
    rw [h35]
    simp only [mI_if]
  have F35 : hc_Fr e M20 M35 := by
    rw [h35]
    exact hc_tr (hc_up (by unfold hc_w; omega)) (hc_up (by unfold hc_w; omega))
  clear h35
  have of : ∀ i k, (i ≠ 144 ∧ i ≠ 145) ∨ k ≠ 7 * h + t → M35.2.1 i k = M20.2.1 i k := fun i k hi => by
    rw [o, if_neg (by omega), if_neg (by omega)]
  obtain ⟨σ, hσ⟩ : ∃ σ, σ = hs_set (hs_set x.2 (59 + 14 * h + 2 * t) y15.2) (60 + 14 * h + 2 * t) y19.2 := ⟨_, rfl⟩
  rw [← hσ]
  have s : ∀ j, σ j = if j = 60 + 14 * h + 2 * t then y19.2 else if j = 59 + 14 * h + 2 * t then y15.2 else x.2 j := fun j => by
    rw [hσ]
    rfl
  have sk : ∀ j, j ≠ 60 + 14 * h + 2 * t → j ≠ 59 + 14 * h + 2 * t → σ j = x.2 j := fun j h1 h2 => by
    rw [s, if_neg h1, if_neg h2]
  clear hσ
  have sk' : ∀ j, j < 59 → σ j = x.2 j := fun j hj => sk j (by omega) (by omega)
  refine Ok_s ⟨hc_tr F20 F35, ⟨z_Cx C (fun i => q_k_of F35.1.1.1) F35.1.2 (fun i k h1 h2 => of i k (by omega)), by rw [of 131 7 (by omega)]; exact f0⟩, hc_Lm L F35, ⟨⟨⟨⟨?_, ?_⟩, ?_⟩, ⟨?_, ?_⟩, fun tt ht => ?_, fun ha hh => ?_⟩, ⟨⟨?_, ?_⟩, ?_⟩, fun ha hh => ?_, fun tt ht => ?_⟩, ⟨?_, ?_, ?_⟩, fun ha h1 h2 => ?_, fun tt ht => ?_⟩
  all_goals try dsimp only at *
  · rw [of e 6 (by omega), sk' 1 (by decide)]
    exact E1.1.1
  · rw [of e 7 (by omega), sk' 2 (by decide)]
    exact E1.1.2
  · rw [of e 8 (by omega), sk' 3 (by decide)]
    exact E1.2
  · rw [of e 9 (by omega), sk' 7 (by decide)]
    exact E2.1
  · rw [of e 10 (by omega), sk' 6 (by decide)]
    exact E2.2
  · rw [sk' 1 (by decide)] at ht
    rw [of (e + 1) _ (by omega), of (e + 2) _ (by omega), of (e + 3) _ (by omega), sk' _ (by omega), sk' _ (by omega), sk' _ (by omega)]
    exact E3 _ ht
  · rw [sk' 2 (by decide)] at hh
    rw [of (e + 4) _ (by omega), of (e + 5) _ (by omega), sk' _ (by omega), sk' _ (by omega)]
    exact E4 _ hh
  · rw [of 143 4 (by omega), sk' 8 (by decide)]
    exact S1.1.1
  · rw [of 143 5 (by omega), sk' 4 (by decide)]
    exact S1.1.2
  · rw [of 143 6 (by omega), sk' 5 (by decide)]
    exact S1.2
  · rw [sk' 2 (by decide)] at hh
    rw [of 146 _ (by omega), sk' _ (by omega)]
    refine ⟨(S2 ha hh).1, fun tb htb => ?_⟩
    by_cases eht : ha = h ∧ tb = t
    · obtain ⟨rfl, rfl⟩ := eht
      refine Or.inl ⟨⟨?_, ?_⟩, ?_, ?_⟩
      · rw [o, if_pos ⟨rfl, rfl⟩]
        omega
      · rw [s, if_neg (by omega), if_pos rfl]
        omega
      · rw [o, if_neg (by omega), if_pos ⟨rfl, rfl⟩, s, if_neg (by omega), if_pos rfl]
      · rw [o, if_pos ⟨rfl, rfl⟩, s, if_pos rfl]
    · exact k_cm ((S2 ha hh).2 tb htb) (of 144 _ (by omega)) (of 145 _ (by omega)) (sk _ (by omega) (by omega)) (sk _ (by omega) (by omega))
  · rw [sk' 1 (by decide)] at ht
    rw [of 147 _ (by omega), sk' _ (by omega)]
    exact S3 _ ht
  · rw [sk' 1 (by decide)]
    exact X1.1
  · rw [sk' 2 (by decide)]
    exact X1.2.1
  · rw [sk' 3 (by decide)]
    exact X1.2.2
  · rw [sk' 2 (by decide)] at h1
    rw [of (e + 5) _ (by omega)]
    refine ⟨(X2 ha h1 h2).1, fun tb htb => ?_⟩
    rw [of 145 _ (by omega)]
    exact (X2 ha h1 h2).2 tb htb
  · rw [of 147 _ (by omega)]
    exact X3 _ ht
