/-! a clause, the whole text, house(): of the reference -/
theorem he_end {T M : gM} {r : hs_R} {o : Option (Int32 × gM)} (h : Ok o (he_Q T r M)) : Ok (o.bind fun (v, M2) => if v = 0 ∨ v = 1 then some (v, M2) else none) (he_Q T r M) := by
  refine Ok_b h (fun y z => ?_)
  obtain ⟨a, b⟩ := y
  refine Ok_t ?_ (Ok_s z)
  obtain ⟨_, z⟩ := z
  cases r with
  | inl er => exact Or.inl z.1
  | inr x => exact Or.inr z.1
theorem q_w {T M : gM} {x : hS} {w : Int64} {k : Int} (S : he_S T M x) (h : n_w T x.1 w = true ↔ k_kind T x.1 = k) : F_X12_isWord (some 175) w M = some (if k_kind T x.1 = k then 1 else 0, M) := by
  obtain ⟨e1, e2, e3⟩ := he_x S.1
  have ew := (n_T S.1.2.1.1 S.1.2.1.2).2.1.1
  have ea : n_at M x.1 = M := by rw [← S.2]; exact n_at_self S.1.1.1
  rw [R_isWord S.1.1.1 S.1.1.2, e1, ew, ea]
  by_cases c : k_kind T x.1 = k
  · rw [if_pos c, if_pos (h.mpr c)]
  · rw [if_neg c, if_neg (fun z => c (h.mp z))]
theorem n_w_house {T : gM} {p : Nat} : n_w T p 448546567013 = true ↔ k_kind T p = 275 := w_iff (i := 14) (by decide) (by decide)
theorem n_w_thing {T : gM} {p : Nat} : n_w T p 499967946343 = true ↔ k_kind T p = 262 := w_iff (i := 1) (by decide) (by decide)
theorem n_w_song {T : gM} {p : Nat} : n_w T p 1936682599 = true ↔ k_kind T p = 268 := w_iff (i := 7) (by decide) (by decide)
theorem n_w_heir {T : gM} {p : Nat} : n_w T p 1751476594 = true ↔ k_kind T p = 261 := w_iff (i := 0) (by decide) (by decide)
theorem n_w_hates {T : gM} {p : Nat} : n_w T p 448311616883 = true ↔ k_kind T p = 267 := w_iff (i := 6) (by decide) (by decide)
theorem n_w_cousins {T : gM} {p : Nat} : n_w T p 27988572932501107 = true ↔ k_kind T p = 276 := w_iff (i := 15) (by decide) (by decide)
theorem n_w_knows {T : gM} {p : Nat} : n_w T p 461414299507 = true ↔ k_kind T p = 277 := w_iff (i := 16) (by decide) (by decide)
theorem E_isHouseWord {T M : gM} {x : hS} (S : he_S T M x) : F_X12_isHouseWord (some 175) M = some (if hs_w (k_kind T x.1) = false then 0 else 1, M) := by
  have H := S.1.1.1
  have y : ∀ h : (k_kind T x.1 = 275 ∨ k_kind T x.1 = 262 ∨ k_kind T x.1 = 268) ∨ (k_kind T x.1 = 261 ∨ k_kind T x.1 = 267) ∨ k_kind T x.1 = 276 ∨ k_kind T x.1 = 277, some ((1 : Int32), M) = some (if hs_w (k_kind T x.1) = false then 0 else 1, M) := by
    intro h
    have : hs_w (k_kind T x.1) = true := decide_eq_true h
    rw [this, if_neg (by decide)]
  have b1 : F_X12_isHouseWord_b40 (some 175) M = some ((1 : Int32), M) := by
    delta F_X12_isHouseWord_b40 F_X12_isHouseWord_b45 F_X12_isHouseWord_b80
    rw [if_neg (by decide)]
  delta F_X12_isHouseWord F_X12_isHouseWord_b0
  rw [e_gO H, Option.bind_some, q_w S n_w_house, Option.bind_some]
  dsimp only
  by_cases c1 : k_kind T x.1 = 275
  · rw [if_pos c1, if_neg (by decide), b1]
    exact y (Or.inl (Or.inl c1))
  rw [if_neg c1, if_pos rfl, e_gC H, Option.bind_some, q_w S n_w_thing, Option.bind_some]
  dsimp only
  by_cases c2 : k_kind T x.1 = 262
  · rw [if_pos c2, if_neg (by decide), b1]
    exact y (Or.inl (Or.inr (Or.inl c2)))
  rw [if_neg c2, if_pos rfl, e_gC H, Option.bind_some, q_w S n_w_song, Option.bind_some]
  dsimp only
  by_cases c3 : k_kind T x.1 = 268
  · rw [if_pos c3, if_neg (by decide), b1]
    exact y (Or.inl (Or.inr (Or.inr c3)))
  rw [if_neg c3, if_pos rfl, e_gC H, Option.bind_some, q_w S n_w_heir, Option.bind_some]
  dsimp only
  by_cases c4 : k_kind T x.1 = 261
  · rw [if_pos c4, if_neg (by decide), b1]
    exact y (Or.inr (Or.inl (Or.inl c4)))
  rw [if_neg c4, if_pos rfl]
  delta F_X12_isHouseWord_b45 F_X12_isHouseWord_b80
  rw [if_pos rfl, e_gO H, Option.bind_some, q_w S n_w_hates, Option.bind_some]
  dsimp only
  by_cases c5 : k_kind T x.1 = 267
  · rw [if_pos c5, if_neg (by decide)]
    exact y (Or.inr (Or.inl (Or.inr c5)))
  rw [if_neg c5, if_pos rfl, e_gC H, Option.bind_some, q_w S n_w_cousins, Option.bind_some]
  dsimp only
  by_cases c6 : k_kind T x.1 = 276
  · rw [if_pos c6, if_neg (by decide)]
    exact y (Or.inr (Or.inr (Or.inl c6)))
  rw [if_neg c6, if_pos rfl, e_gC H, Option.bind_some, q_w S n_w_knows, Option.bind_some]
  dsimp only
  by_cases c7 : k_kind T x.1 = 277
  · rw [if_pos c7, if_neg (by decide)]
    exact y (Or.inr (Or.inr (Or.inr c7)))
  rw [if_neg c7, if_pos rfl]
  have : hs_w (k_kind T x.1) = false := decide_eq_false (by omega)
  rw [this, if_pos rfl]
def he_I (σ : Nat → Int32) (cl : Nat) : Prop := (0 ≤ (σ 3).toInt ∧ (σ 3).toInt ≤ 10) ∧ σ 0 = (if cl = 1 then 0 else 1)
theorem E_houseLine {T M : gM} {x : hS} {l1 : Int32} {cl : Nat} (S : he_S T M x) (hl : l1.toInt = (x.1 : Int)) (I : he_I x.2 cl) (hw : hs_w (k_kind T x.1) = true) (c40 : cl ≤ 40) : Ok (F_X12_houseLineHere (some 175) l1 M) (he_Q T (if hs_bad x.2 (k_kind T x.1) cl = true then .inl (1 + 8 * x.1 + 4) else hs_body T (k_kind T x.1) (k_go T x.1, x.2)) M) := by
  have H := S.1.1.1
  obtain ⟨e1, e2, e3⟩ := he_x S.1
  have w := of_decide_eq_true hw
  have r1 := S.1.1.1.2.1 181 (by decide) 1
  have r2 := S.1.1.1.2.1 181 (by decide) 2
  have s1 : 0 ≤ (M.2.1 181 1).toInt ∧ (M.2.1 181 1).toInt ≤ 7 := r1
  have s2 : 0 ≤ (M.2.1 181 2).toInt ∧ (M.2.1 181 2).toInt ≤ 7 := r2
  rw [S.1.2.2.2] at s1 s2
  have z7 : (7 : Int32).toInt = 7 := rfl
  have z10 : (10 : Int32).toInt = 10 := rfl
  have I3 := I.1
  have hb : hs_bad x.2 (k_kind T x.1) cl = true ↔ (¬ (k_kind T x.1 = 275 ↔ cl = 1)) ∨ ((k_kind T x.1 = 262 ∧ x.2 1 = 7) ∨ (k_kind T x.1 = 261 ∧ x.2 2 = 7) ∨ (k_kind T x.1 = 276 ∧ x.2 3 = 10)) := by
    have t1 : x.2 1 = 7 ↔ 7 ≤ (x.2 1).toInt := ⟨fun h => by rw [h]; decide, fun h => Int32.toInt_inj.mp (by omega)⟩
    have t2 : x.2 2 = 7 ↔ 7 ≤ (x.2 2).toInt := ⟨fun h => by rw [h]; decide, fun h => Int32.toInt_inj.mp (by omega)⟩
    have t3 : x.2 3 = 10 ↔ 10 ≤ (x.2 3).toInt := ⟨fun h => by rw [h]; decide, fun h => Int32.toInt_inj.mp (by omega)⟩
    unfold hs_bad hs_full
    rw [Bool.or_eq_true, decide_eq_true_iff, decide_eq_true_iff, t1, t2, t3]
    constructor
    · rintro ((h | h) | h)
      · omega
      · exact Or.inl h
      · exact Or.inr h
    · rintro (h | h)
      · exact Or.inl (Or.inr h)
      · exact Or.inr h
  delta F_X12_houseLineHere F_X12_houseLineHere_b0
  rw [e_gO H, Option.bind_some, q_w S n_w_house, Option.bind_some]
  dsimp only
  have I0 := I.2
  by_cases c1 : k_kind T x.1 = 275
  · rw [if_pos c1, if_neg (by decide), e_gC H, Option.bind_some]
    have := he_end (E_isHouseHere S c1 hl)
    by_cases cc : cl = 1
    · rw [if_pos cc] at I0
      rw [I0, if_pos (by decide)] at this
      rw [if_neg (fun h => by have := hb.mp h; omega)]
      unfold hs_body
      rw [if_neg (by omega), if_neg (by omega), if_neg (by omega), if_neg (by omega), if_pos c1]
      exact this
    · rw [if_neg cc] at I0
      rw [I0, if_neg (by decide)] at this
      rw [if_pos (hb.mpr (Or.inl (by omega)))]
      exact this
  rw [if_neg c1, if_pos rfl]
  refine e_r7 S.1 (e_rd S.1 (k := 0) rfl (by decide) ?_)
  by_cases cc : cl = 1
  · rw [if_pos cc] at I0
    rw [I0, if_pos rfl, if_pos (hb.mpr (Or.inl (by omega)))]
    refine e_cx S.1 ?_
    exact e_fails S.1.1.1 (y_rf0 _ _) S.1.2.2.1.2 hl (by omega) rfl (by decide)
  rw [if_neg cc] at I0
  rw [I0, if_neg (by decide)]
  have hb' : hs_bad x.2 (k_kind T x.1) cl = true ↔ ((k_kind T x.1 = 262 ∧ x.2 1 = 7) ∨ (k_kind T x.1 = 261 ∧ x.2 2 = 7) ∨ (k_kind T x.1 = 276 ∧ x.2 3 = 10)) := by
    rw [hb]
    exact ⟨fun h => h.elim (fun h => absurd (by omega) h) id, Or.inr⟩
  unfold hs_body
  rw [e_gC H, Option.bind_some, q_w S n_w_thing, Option.bind_some]
  dsimp only
  by_cases c2 : k_kind T x.1 = 262
  · rw [if_pos c2, if_neg (by decide), e_gC H, Option.bind_some]
    have := he_end (E_isThingHere S c2 hl)
    by_cases c7 : x.2 1 = 7
    · rw [if_pos c7] at this
      rw [if_pos (hb'.mpr (Or.inl ⟨c2, c7⟩))]
      exact this
    · rw [if_neg c7] at this
      rw [if_neg (fun h => by rcases hb'.mp h with h | h | h; exact c7 h.2; omega; omega), if_neg (by omega), if_pos c2]
      exact this
  rw [if_neg c2, if_pos rfl, e_gC H, Option.bind_some, q_w S n_w_heir, Option.bind_some]
  dsimp only
  by_cases c3 : k_kind T x.1 = 261
  · rw [if_pos c3, if_neg (by decide), e_gC H, Option.bind_some]
    have := he_end (E_isHeirHere S c3 hl)
    by_cases c7 : x.2 2 = 7
    · rw [if_pos c7] at this
      rw [if_pos (hb'.mpr (Or.inr (Or.inl ⟨c3, c7⟩)))]
      exact this
    · rw [if_neg c7] at this
      rw [if_neg (fun h => by rcases hb'.mp h with h | h | h; omega; exact c7 h.2; omega), if_pos c3]
      exact this
  rw [if_neg c3, if_pos rfl, e_gC H, Option.bind_some, q_w S n_w_song, Option.bind_some]
  dsimp only
  by_cases c4 : k_kind T x.1 = 268
  · rw [if_pos c4, if_neg (by decide), e_gC H, Option.bind_some]
    rw [if_neg (fun h => by rcases hb'.mp h with h | h | h <;> omega), if_neg c3, if_neg c2, if_neg (by omega), if_pos c4]
    exact he_end (E_isSongHere S c4)
  rw [if_neg c4, if_pos rfl, e_gC H, Option.bind_some, q_w S n_w_hates, Option.bind_some]
  dsimp only
  by_cases c5 : k_kind T x.1 = 267
  · rw [if_pos c5, if_neg (by decide), e_gC H, Option.bind_some]
    rw [if_neg (fun h => by rcases hb'.mp h with h | h | h <;> omega), if_neg c3, if_neg c2, if_pos c5]
    exact he_end (E_isHateHere S c5)
  rw [if_neg c5, if_pos rfl, e_gC H, Option.bind_some, q_w S n_w_cousins, Option.bind_some]
  dsimp only
  by_cases c6 : k_kind T x.1 = 276
  · rw [if_pos c6, if_neg (by decide), e_gC H, Option.bind_some]
    have := he_end (E_areCousinsHere S c6 hl I.1)
    by_cases c7 : x.2 3 = 10
    · rw [if_pos c7] at this
      rw [if_pos (hb'.mpr (Or.inr (Or.inr ⟨c6, c7⟩)))]
      exact this
    · rw [if_neg c7] at this
      rw [if_neg (fun h => by rcases hb'.mp h with h | h | h; omega; omega; exact c7 h.2), if_neg c3, if_neg c2, if_neg c5, if_neg c4, if_neg c1, if_pos c6]
      exact this
  rw [if_neg c6, if_pos rfl, e_gC H, Option.bind_some]
  rw [if_neg (fun h => by rcases hb'.mp h with h | h | h <;> omega), if_neg c3, if_neg c2, if_neg c5, if_neg c4, if_neg c1, if_neg c6]
  exact he_end (E_isKnownHere S (by omega))
theorem E_hclauseHere {T M : gM} {x : hS} {cl : Nat} (R : he_R T M x) (e11 : M.2.1 175 11 = 6) (e14 : (M.2.1 175 14).toInt + 1 = (cl : Int)) (h1 : 1 ≤ cl) (h41 : cl ≤ 41) (I : he_I x.2 cl) : Ok (F_X12_clauseHere (some 175) M) (fun y => y_Fr (he_A + 2 ^ 14) M y.2 ∧ he_P T (hs_cl T cl x) y ∧ (y.1 = 1 → (y.2.2.1 175 14).toInt = (cl : Int))) := by
  have z40 : (40 : Int32).toInt = 40 := rfl
  delta F_X12_clauseHere F_X12_clauseHere_b0
  refine e_o R ?_
  refine e_see R (y_rf0 _ _) (fun M3 F3 S3 => ?_)
  dsimp only
  have R3 := S3.1
  obtain ⟨x1, x2, x3⟩ := he_x R3
  have v8 : M3.2.1 175 8 = Int32.ofNat x.1 := by
    have h := n_x1 R3.1.1
    rw [S3.2] at h
    exact i_of h.1 (by omega)
  have xi : (Int32.ofNat x.1).toInt = (x.1 : Int) := i_ofNat (by omega)
  refine e_i R3 v8 (e_i R3 ((y_fk (i := 175) (k := 11) F3 (by decide)).trans e11) ?_)
  refine Ok_t rfl ?_
  delta F_X12_clauseHere_b24
  refine Ok_e (by decide) (e_o R3 ?_)
  refine x_eq (E_isHouseWord S3) ?_
  dsimp only
  unfold hs_cl
  have fl : ∀ {d : Nat} {k : Int32}, k.toInt = (d : Int) → d ≤ 4 → Ok ((F_X12_fails (some 175) k (Int32.ofNat x.1) M3).bind fun (v2, M4) => if v2 = 0 ∨ v2 = 1 then some (v2, M4) else none) (fun y => y_Fr (he_A + 2 ^ 14) M y.2 ∧ he_P T (.inl (1 + 8 * x.1 + d)) y ∧ (y.1 = 1 → (y.2.2.1 175 14).toInt = (cl : Int))) := by
    intro d k hk hd
    refine Ok_w (e_fails (T := T) R3.1.1 F3 R3.2.2.1.2 xi (by omega) hk hd) (fun y z => ⟨y_fl (by decide) z.1, z.2, fun h => ?_⟩)
    have := z.2.1
    rw [h] at this
    exact absurd this (by decide)
  by_cases cw : hs_w (k_kind T x.1) = false
  · rw [if_pos cw, if_pos cw]
    refine Ok_t rfl ?_
    delta F_X12_clauseHere_b49
    exact e_o R3 (fl rfl (by decide))
  rw [if_neg cw, if_neg cw]
  refine Ok_e (by decide) ?_
  delta F_X12_clauseHere_b56
  refine e_i R3 rfl ?_
  refine Ok_e (by decide) ?_
  have l14 : M3.2.1 175 14 = M.2.1 175 14 := y_fk (i := 175) (k := 14) F3 (by decide)
  rw [l14]
  delta F_X12_clauseHere_b71
  by_cases c40 : M.2.1 175 14 = 40
  · have hb : hs_bad x.2 (k_kind T x.1) cl = true := by
      unfold hs_bad
      rw [decide_eq_true (Or.inl (by rw [c40] at e14; omega))]
      rfl
    rw [if_pos hb]
    refine Ok_t c40 (e_o R3 ?_)
    exact fl rfl (by decide)
  have n40 : (M.2.1 175 14).toInt ≠ 40 := fun h => c40 (Int32.toInt_inj.mp h)
  refine Ok_e c40 ?_
  refine e_i R3 l14 ?_
  obtain ⟨c, ec⟩ : ∃ c : Nat, (M.2.1 175 14).toInt = (c : Int) := ⟨(M.2.1 175 14).toInt.toNat, by omega⟩
  rw [n_inc ec (by omega), e_pI R3.1.1, Option.bind_some]
  obtain ⟨H2, f2⟩ := y_set (M' := mI M3 175 14 (Int32.ofNat (c + 1))) (S := 2 ^ 14) R3.1.1 (i := 175) (k := 14) (by decide) rfl rfl y_mI1 (fun j a hj => y_mI2 hj) rfl (y_full rfl) (by decide)
  have w14 : (mI M3 175 14 (Int32.ofNat (c + 1))).2.1 175 14 = Int32.ofNat (c + 1) := y_mI1
  generalize mI M3 175 14 (Int32.ofNat (c + 1)) = M2 at H2 f2 w14 ⊢
  have R2 : he_R T M2 x := he_R_fr R3 H2 f2 (by decide)
  have S2 : he_S T M2 x := ⟨R2, by rw [n_fx f2 (by decide)]; exact S3.2⟩
  refine Ok_e (by decide) (e_o R2 ?_)
  have hb2 : (if hs_bad x.2 (k_kind T x.1) cl = true then (.inl (1 + 8 * x.1 + 4) : hs_R) else hs_body T (k_kind T x.1) (k_go T x.1, x.2)) = (if hs_bad x.2 (k_kind T x.1) cl = true then (.inl (1 + 8 * x.1 + 4) : hs_R) else hs_body T (k_kind T x.1) (k_go T x.1, x.2)) := rfl
  refine Ok_w (he_end (E_houseLine S2 xi I (Bool.of_not_eq_false cw) (by omega))) (fun y z => ⟨y_tr (y_fl (by decide) F3) (y_tr (y_fl (by decide) f2) (y_fl (by decide) z.1)), z.2, fun _ => ?_⟩)
  rw [y_fk (i := 175) (k := 14) z.1 (by decide), w14, i_ofNat (by omega)]
  omega
/-- what the reading keeps -/
theorem hs_b_inr {α : Type} {r : hs_N} {f : Nat → Int32 → Nat ⊕ α} {y : α} (h : hs_b r f = .inr y) : ∃ z, r = .inr z ∧ f z.1 z.2 = .inr y := by
  cases r with
  | inl e => cases h
  | inr z => exact ⟨z, rfl, h⟩
theorem hs_cl_I {T : gM} {cl : Nat} {x y : hS} (h : hs_cl T cl x = .inr y) (h1 : 1 ≤ cl) (I : he_I x.2 cl) : he_I y.2 (cl + 1) ∧ cl ≤ 40 := by
  have e1 : (if cl + 1 = 1 then (0 : Int32) else 1) = 1 := if_neg (by omega)
  unfold hs_cl at h
  by_cases cw : hs_w (k_kind T x.1) = false
  · rw [if_pos cw] at h
    cases h
  rw [if_neg cw] at h
  by_cases cb : hs_bad x.2 (k_kind T x.1) cl = true
  · rw [if_pos cb] at h
    cases h
  rw [if_neg cb] at h
  have nb : ¬ (40 < cl) ∧ (k_kind T x.1 = 275 ↔ cl = 1) ∧ ¬ (k_kind T x.1 = 276 ∧ 10 ≤ (x.2 3).toInt) := by
    unfold hs_bad hs_full at cb
    rw [Bool.or_eq_true, decide_eq_true_iff, decide_eq_true_iff] at cb
    omega
  refine ⟨?_, by omega⟩
  have keep : ∀ {σ : Nat → Int32}, k_kind T x.1 ≠ 275 → σ 0 = x.2 0 → σ 3 = x.2 3 → he_I σ (cl + 1) := by
    intro σ k0 a b
    refine ⟨by rw [b]; exact I.1, ?_⟩
    rw [a, e1, I.2, if_neg (by omega)]
  unfold hs_body at h
  by_cases c1 : k_kind T x.1 = 261
  · rw [if_pos c1] at h
    obtain ⟨z1, _, h⟩ := hs_b_inr h
    obtain ⟨z2, _, h⟩ := hs_b_inr h
    obtain rfl := Sum.inr.inj h
    dsimp only
    refine keep (by omega) ?_ ?_
    · rw [hs_sn (show (0 : Nat) ≠ 2 by decide)]
      unfold hs_new
      rw [if_neg (by omega), hs_sn (by omega), hs_sn (by omega), hs_sn (by omega)]
    · rw [hs_sn (show (3 : Nat) ≠ 2 by decide)]
      unfold hs_new
      rw [if_neg (by omega), hs_sn (by omega), hs_sn (by omega), hs_sn (by omega)]
  rw [if_neg c1] at h
  by_cases c2 : k_kind T x.1 = 262
  · rw [if_pos c2] at h
    obtain ⟨z1, _, h⟩ := hs_b_inr h
    obtain ⟨z2, _, h⟩ := hs_b_inr h
    obtain ⟨z3, _, h⟩ := hs_b_inr h
    obtain rfl := Sum.inr.inj h
    dsimp only
    refine keep (by omega) ?_ ?_
    · rw [hs_sn (show (0 : Nat) ≠ 1 by decide), hs_sn (by omega), hs_sn (by omega), hs_sn (by omega), hs_sn (by omega)]
    · rw [hs_sn (show (3 : Nat) ≠ 1 by decide), hs_sn (by omega), hs_sn (by omega), hs_sn (by omega), hs_sn (by omega)]
  rw [if_neg c2] at h
  by_cases c3 : k_kind T x.1 = 267
  · rw [if_pos c3] at h
    obtain ⟨z1, _, h⟩ := hs_b_inr h
    obtain rfl := Sum.inr.inj h
    dsimp only
    exact keep (by omega) (hs_sn (show (0 : Nat) ≠ 6 by decide)) (hs_sn (show (3 : Nat) ≠ 6 by decide))
  rw [if_neg c3] at h
  by_cases c4 : k_kind T x.1 = 268
  · rw [if_pos c4] at h
    obtain ⟨z1, _, h⟩ := hs_b_inr h
    obtain rfl := Sum.inr.inj h
    dsimp only
    exact keep (by omega) (hs_sn (show (0 : Nat) ≠ 7 by decide)) (hs_sn (show (3 : Nat) ≠ 7 by decide))
  rw [if_neg c4] at h
  by_cases c5 : k_kind T x.1 = 275
  · rw [if_pos c5] at h
    obtain ⟨z1, _, h⟩ := hs_b_inr h
    obtain rfl := Sum.inr.inj h
    dsimp only
    refine ⟨?_, by rw [e1, hs_se]⟩
    rw [hs_sn (show (3 : Nat) ≠ 0 by decide), hs_sn (show (3 : Nat) ≠ 5 by decide)]
    exact I.1
  rw [if_neg c5] at h
  by_cases c6 : k_kind T x.1 = 276
  · rw [if_pos c6] at h
    obtain ⟨z1, _, h⟩ := hs_b_inr h
    obtain ⟨z2, _, h⟩ := hs_b_inr h
    dsimp only at h
    split at h
    · cases h
    · obtain rfl := Sum.inr.inj h
      dsimp only
      have I3 := I.1
      have inc : (x.2 3 + 1).toInt = (x.2 3).toInt + 1 := i_addc (n := 1) rfl (by omega) (by omega)
      refine ⟨?_, ?_⟩
      · rw [hs_se, inc]
        omega
      · rw [hs_sn (show (0 : Nat) ≠ 3 by decide), hs_sn (by omega), hs_sn (by omega), e1, I.2, if_neg (by omega)]
  rw [if_neg c6] at h
  obtain ⟨z1, _, h⟩ := hs_b_inr h
  obtain ⟨z2, _, h⟩ := hs_b_inr h
  obtain ⟨z3, _, h⟩ := hs_b_inr h
  obtain ⟨z4, _, h⟩ := hs_b_inr h
  obtain rfl := Sum.inr.inj h
  dsimp only
  refine keep c5 ?_ ?_
  · rw [hs_sn (by omega), hs_sn (by omega)]
  · rw [hs_sn (by omega), hs_sn (by omega)]
