/-! what is known changes: of the cells, of the class, of the reference -/
def s_kw (σ : Nat → Int32) (h t : Nat) (a v : Int32) : Nat → Int32 := hs_set (hs_set σ (59 + 14 * h + 2 * t) (if v ≤ 0 then -1 else a)) (60 + 14 * h + 2 * t) (if v ≤ 0 then 0 else v)
theorem kw_o {σ : Nat → Int32} {h t j : Nat} {a v : Int32} (h1 : j ≠ 59 + 14 * h + 2 * t) (h2 : j ≠ 60 + 14 * h + 2 * t) : s_kw σ h t a v j = σ j := by
  unfold s_kw
  rw [hs_sn h2, hs_sn h1]
theorem kw_v {σ : Nat → Int32} {h t : Nat} {a v : Int32} : s_va (s_kw σ h t a v) h t = (if v ≤ 0 then -1 else a) ∧ s_st (s_kw σ h t a v) h t = (if v ≤ 0 then 0 else v) := by
  unfold s_kw s_va s_st
  exact ⟨by rw [hs_sn (by omega), hs_se], hs_se⟩
theorem kw_ne {σ : Nat → Int32} {h t h' t' : Nat} {a v : Int32} (ht : t < 7) (ht' : t' < 7) (hn : h' ≠ h ∨ t' ≠ t) : s_va (s_kw σ h t a v) h' t' = s_va σ h' t' ∧ s_st (s_kw σ h t a v) h' t' = s_st σ h' t' := by
  unfold s_va s_st
  exact ⟨kw_o (by omega) (by omega), kw_o (by omega) (by omega)⟩
theorem kw_lo {σ : Nat → Int32} {h t j : Nat} {a v : Int32} (hj : j < 59) : s_kw σ h t a v j = σ j := kw_o (by omega) (by omega)
theorem kw_nm {σ : Nat → Int32} {h t : Nat} {a v : Int32} : hs_n (s_kw σ h t a v) = hs_n σ ∧ hs_m (s_kw σ h t a v) = hs_m σ := by
  unfold hs_n hs_m
  rw [kw_lo (by decide), kw_lo (by decide)]
  exact ⟨rfl, rfl⟩
theorem kw_V {σ : Nat → Int32} {h t : Nat} {a v : Int32} (V : s_V σ) (ht : t < 7) (hv : v.toInt ≤ 99) (ha : 0 < v.toInt → 0 ≤ a.toInt ∧ a.toInt ≤ 9) : s_V (s_kw σ h t a v) := by
  obtain ⟨V1, V2, V3, V4⟩ := V
  have z0 : (0 : Int32).toInt = 0 := rfl
  refine ⟨by rw [kw_lo (by decide), kw_lo (by decide)]; exact V1, fun h' t' hh ht' => ?_, fun t' ht' => ?_, fun h' hh => ?_⟩
  · rw [kw_lo (by decide)] at hh
    by_cases e : h' = h ∧ t' = t
    · obtain ⟨rfl, rfl⟩ := e
      obtain ⟨e1, e2⟩ := kw_v (σ := σ) (h := h') (t := t') (a := a) (v := v)
      rw [e1, e2]
      by_cases c : v ≤ 0
      · rw [if_pos c, if_pos c]
        exact Or.inl ⟨rfl, rfl⟩
      · have c' := i_nle c
        rw [if_neg c, if_neg c]
        exact Or.inr ⟨ha (by omega), by omega, hv⟩
    · obtain ⟨e1, e2⟩ := kw_ne (σ := σ) (h := h) (t := t) (h' := h') (t' := t') (a := a) (v := v) ht ht' (by omega)
      rw [e1, e2]
      exact V2 h' t' hh ht'
  · rw [kw_lo (by decide)] at ht'
    rw [kw_lo (by omega), kw_lo (by omega), kw_lo (by omega), kw_lo (by omega)]
    exact V3 t' ht'
  · rw [kw_lo (by decide)] at hh
    rw [kw_lo (by omega), kw_lo (by omega)]
    exact V4 h' hh
theorem k_X_Fs {M M' : gM} {s e : Nat} {σ σ' : Nat → Int32} (X : k_X M s e σ) (hd : e + 5 < s ∨ s + 4 < e) (f : k_Fs s M M') (S : k_S M' s σ') (V : s_V σ') (E : ∀ j, j < 59 → j ≠ 4 → j ≠ 5 → j ≠ 8 → (∀ k, k < 7 → j ≠ 13 + 4 * k ∧ j ≠ 38 + 2 * k) → σ' j = σ j) : k_X M' s e σ' := by
  have n := s_Vn X.2.2
  refine ⟨⟨k_LEm X.1.1 (fun i => q_k_of f.1.1.1) f.1.2, k_Fs_LS X.1.2 f⟩, ⟨?_, S⟩, V⟩
  have E0 : k_E M' e σ := k_Em X.2.1.1 (fun i k h1 h2 _ => by rw [f.2 i (by omega)])
  have e1 : σ' 1 = σ 1 := E 1 (by decide) (by decide) (by decide) (by decide) (fun k hk => by omega)
  have e2 : σ' 2 = σ 2 := E 2 (by decide) (by decide) (by decide) (by decide) (fun k hk => by omega)
  have e3 : σ' 3 = σ 3 := E 3 (by decide) (by decide) (by decide) (by decide) (fun k hk => by omega)
  have e6 : σ' 6 = σ 6 := E 6 (by decide) (by decide) (by decide) (by decide) (fun k hk => by omega)
  have e7 : σ' 7 = σ 7 := E 7 (by decide) (by decide) (by decide) (by decide) (fun k hk => by omega)
  obtain ⟨E1, E2, E3, E4⟩ := E0
  refine ⟨by rw [e1, e2, e3]; exact E1, by rw [e7, e6]; exact E2, fun t ht => ?_, fun h hh => ?_⟩
  · rw [e1] at ht
    rw [E (10 + 4 * t) (by omega) (by omega) (by omega) (by omega) (fun k hk => by omega), E (11 + 4 * t) (by omega) (by omega) (by omega) (by omega) (fun k hk => by omega), E (12 + 4 * t) (by omega) (by omega) (by omega) (by omega) (fun k hk => by omega)]
    exact E3 t ht
  · rw [e2] at hh
    rw [E (39 + 2 * h) (by omega) (by omega) (by omega) (by omega) (fun k hk => by omega), E (52 + h) (by omega) (by omega) (by omega) (by omega) (fun k hk => by omega)]
    exact E4 h hh
/-- a cell of the class's State: set -/
theorem k_X_cell {M M' : gM} {s e h t : Nat} {σ : Nat → Int32} {a v w : Int32} (X : k_X M s e σ) (hd : e + 5 < s ∨ s + 4 < e) (hh : h < hs_m σ) (ht : t < 7) (f : k_Fs s M M')
    (o : ∀ i k, (i = s + 1 ∨ i = s + 2) → k ≠ 7 * h + t → M'.2.1 i k = M.2.1 i k) (o2 : ∀ i k, (i = s ∨ i = s + 3 ∨ i = s + 4) → M'.2.1 i k = M.2.1 i k)
    (hv : M'.2.1 (s + 2) (7 * h + t) = (if v ≤ 0 then 0 else v)) (ha : 0 < v.toInt → M'.2.1 (s + 1) (7 * h + t) = a ∧ (0 ≤ a.toInt ∧ a.toInt ≤ 9)) (hv9 : v.toInt ≤ 99) : k_X M' s e (s_kw σ h t a v) := by
  have n := s_Vn X.2.2
  have z0 : (0 : Int32).toInt = 0 := rfl
  have S := X.2.1.2
  refine k_X_Fs X hd f ?_ (kw_V X.2.2 ht hv9 (fun h => (ha h).2)) (fun j h1 _ _ _ _ => kw_lo h1)
  obtain ⟨S1, S2, S3⟩ := S
  refine ⟨?_, fun h' hh' => ?_, fun t' ht' => ?_⟩
  · rw [kw_lo (by decide), kw_lo (by decide), kw_lo (by decide), o2 s 4 (Or.inl rfl), o2 s 5 (Or.inl rfl), o2 s 6 (Or.inl rfl)]
    exact S1
  · rw [kw_lo (by decide)] at hh'
    rw [kw_lo (by omega), o2 (s + 3) h' (by omega)]
    refine ⟨(S2 h' hh').1, fun t' ht' => ?_⟩
    by_cases e : h' = h ∧ t' = t
    · obtain ⟨rfl, rfl⟩ := e
      obtain ⟨e1, e2⟩ := kw_v (σ := σ) (h := h') (t := t') (a := a) (v := v)
      unfold s_va at e1
      unfold s_st at e2
      unfold k_c
      rw [e1, e2, hv]
      by_cases c : v ≤ 0
      · rw [if_pos c, if_pos c]
        exact Or.inr ⟨rfl, rfl, rfl⟩
      · have c' := i_nle c
        have ha := ha (by omega)
        rw [if_neg c, if_neg c]
        exact Or.inl ⟨⟨by omega, ha.2.1⟩, ha.1, rfl⟩
    · obtain ⟨e1, e2⟩ := kw_ne (σ := σ) (h := h) (t := t) (h' := h') (t' := t') (a := a) (v := v) ht ht' (by omega)
      exact k_cm ((S2 h' hh').2 t' ht') (o (s + 1) _ (by omega) (by omega)) (o (s + 2) _ (by omega) (by omega)) e1 e2
  · rw [kw_lo (by decide)] at ht'
    rw [kw_lo (by omega), o2 (s + 4) t' (by omega)]
    exact S3 t' ht'
theorem C_learnX {M : gM} {s e h t : Nat} {σ : Nat → Int32} {l1 l2 a v : Int32} (X : k_X M s e σ) (hd : e + 5 < s ∨ s + 4 < e) (h1 : l1.toInt = (h : Int)) (h2 : l2.toInt = (t : Int)) (hh : h < hs_m σ) (ht : t < 7) (hv : 0 ≤ v.toInt ∧ v.toInt ≤ 99) (ha : 0 < v.toInt → 0 ≤ a.toInt ∧ a.toInt ≤ 9) : Ok (F_X8_learn (some s) l1 l2 a v M) (fun M' => k_Fs s M M' ∧ k_X M' s e (s_kw σ h t a v)) := by
  have n := s_Vn X.2.2
  have z0 : (0 : Int32).toInt = 0 := rfl
  rw [C_learn X.1.2 h1 h2 (by omega) ht]
  have f : k_Fs s M (mI (mI M (s + 1) (7 * h + t) a) (s + 2) (7 * h + t) v) := k_Fs_tr (k_Fs_up (by omega)) (k_Fs_up (by omega))
  refine Ok_s ⟨f, k_X_cell (w := 0) X hd hh ht f (fun i k hi hk => ?_) (fun i k hi => ?_) ?_ (fun h0 => ⟨?_, ha h0⟩) hv.2⟩
  · rw [mI_ne (by omega), mI_ne (by omega)]
  · rw [mI_ne (by omega), mI_ne (by omega)]
  · rw [y_mI1]
    by_cases c : v ≤ 0
    · have := i_le c
      rw [if_pos c]
      exact Int32.toInt_inj.mp (by omega)
    · rw [if_neg c]
  · rw [mI_ne (by omega), y_mI1]
theorem C_forgetX {M : gM} {s e h t : Nat} {σ : Nat → Int32} {l1 l2 a : Int32} (X : k_X M s e σ) (hd : e + 5 < s ∨ s + 4 < e) (h1 : l1.toInt = (h : Int)) (h2 : l2.toInt = (t : Int)) (hh : h < hs_m σ) (ht : t < 7) : Ok (F_X8_forget (some s) l1 l2 M) (fun M' => k_Fs s M M' ∧ k_X M' s e (s_kw σ h t 0 0)) := by
  delta F_X8_forget F_X8_forget_b0
  refine x_gO X.1.2.1.1 ?_
  exact Ok_b (C_learnX X hd h1 h2 hh ht (by decide) (fun h => absurd h (by decide))) (fun M2 z => Ok_s z)
theorem C_errs {M : gM} {s e h t : Nat} {σ : Nat → Int32} {l2 l3 : Int32} (X : k_X M s e σ) (h1 : l2.toInt = (h : Int)) (h2 : l3.toInt = (t : Int)) (hh : h < hs_m σ) (ht : (t : Int) < (σ 1).toInt) : F_X8_errs (some s) (some e) l2 l3 M = some (if (s_kn σ h t && s_va σ h t != σ (10 + 4 * t)) = true then 1 else 0) := by
  obtain ⟨⟨ke, ⟨e6, e7⟩, _⟩, ⟨⟨ks, k1, k2⟩, k3, k4⟩, ⟨r0, r1⟩, r2, r3⟩ := k_XE X
  have nn := s_Vn X.2.2
  have ht7 : t < 7 := by omega
  have ix := k_ix h1 h2 (by omega) ht7
  have R0 : g_k M (e + 1) = (20, 7) ∧ M.2.2.2 e 0 = some (e + 1) := k_XR (i := 0) X (by decide)
  have so : M.2.1 (e + 1) t = σ (10 + 4 * t) := (X.2.1.1.2.2.1 t ht).1.1
  have kp := (k_Xpos X hh (t := t) ht7).1
  delta F_X8_errs F_X8_errs_b0 F_X8_errs_b38
  rw [t_gR ks r1, Option.bind_some, t_aI k2 (by omega) (by omega), Option.bind_some, i_cl ix, (k_Xst X hh ht7).1]
  by_cases k : s_kn σ h t = true
  · rw [if_neg (fun z => by rw [kp.mp z] at k; cases k), t_gR ks r0, Option.bind_some, t_aI k1 (by omega) (by omega), Option.bind_some, i_cl ix, (k_Xst X hh ht7).2 k, t_gR ke R0.2, Option.bind_some, t_aI R0.1 (by omega) (by omega), Option.bind_some, i_cl h2, so]
    by_cases c : s_va σ h t = σ (10 + 4 * t)
    · rw [if_pos c, if_neg (by simp [c])]
    · rw [if_neg c, if_pos (by simp [k, c])]
  · rw [if_pos (kp.mpr (b_ff k)), if_neg (by simp [k])]
/-- asked: who errs knows it no more -/
def s_ak (σ : Nat → Int32) (h t : Nat) : Nat → Int32 := if (s_kn σ h t && s_va σ h t != σ (10 + 4 * t)) = true then s_kw σ h t 0 0 else σ
theorem C_isAsked {M : gM} {s e h t : Nat} {σ : Nat → Int32} {l2 l3 : Int32} (X : k_X M s e σ) (hd : e + 5 < s ∨ s + 4 < e) (h1 : l2.toInt = (h : Int)) (h2 : l3.toInt = (t : Int)) (hh : h < hs_m σ) (ht : (t : Int) < (σ 1).toInt) : Ok (F_X8_isAsked (some s) (some e) l2 l3 M) (fun M' => k_Fs s M M' ∧ k_X M' s e (s_ak σ h t)) := by
  have nn := s_Vn X.2.2
  delta F_X8_isAsked F_X8_isAsked_b0
  refine x_gO X.1.2.1.1 (x_eq (C_errs X h1 h2 hh ht) ?_)
  unfold s_ak
  by_cases c : (s_kn σ h t && s_va σ h t != σ (10 + 4 * t)) = true
  · rw [if_pos c, if_pos c]
    refine Ok_e (by decide) ?_
    exact Ok_b (C_forgetX (a := 0) X hd h1 h2 hh (by omega)) (fun M3 z => Ok_s z)
  · rw [if_neg c, if_neg c]
    exact Ok_t rfl (Ok_s ⟨k_Fs_rf, X⟩)
/-! the reference's -/
theorem y_tS59 {k : Nat} (h : 51 ≤ k) : y_tS k = (-2147483648, 2147483647) := y_dS h
/-- a cell of 'said' set -/
theorem e_s185 {M : gM} {σ : Nat → Int32} {j v : Int32} {k : Nat} {β : Type} {f : gM → Option β} {Q : β → Prop} (H : y_HT M) (hσ : M.2.1 185 = σ) (hj : j.toInt = (k : Int)) (hk : k < 157) (hr : y_rg (y_tS k) v) (g : ∀ M', y_HT M' → y_Fr (2 ^ 50) M M' → M'.2.1 185 = hs_set σ k v → Ok (f M') Q) : Ok ((sI M (some 185) j v).bind f) Q := by
  refine y_sI (S := 2 ^ 50) H (i := 185) (n := 157) rfl (by omega) (by omega) (by rw [i_cl hj]; exact hr) (by decide) (fun M' H' f' e' o' l' => ?_)
  rw [i_cl hj] at e' o'
  refine g M' H' f' ?_
  funext a
  show M'.2.1 185 a = if a = k then v else σ a
  by_cases c : a = k
  · rw [if_pos c, c]
    exact e'
  · rw [if_neg c, o' 185 a (Or.inr c), hσ]
theorem e_r20 {M : gM} {β : Type} {f : Option Nat → Option β} {Q : β → Prop} (H : y_HT M) (g : Ok (f (some 185)) Q) : Ok ((gR 12 M (some 175) 20).bind f) Q := by
  rw [e_gR H (w := 185) rfl (by decide), Option.bind_some]
  exact g
theorem E_knowsNow {M : gM} {σ : Nat → Int32} {l1 l2 a v : Int32} {h t : Nat} (X : e_V M σ) (h1 : l1.toInt = (h : Int)) (h2 : l2.toInt = (t : Int)) (hh : h < 7) (ht : t < 7) (hv : v.toInt ≤ 99) (ha : 0 < v.toInt → 0 ≤ a.toInt ∧ a.toInt ≤ 9) : Ok (F_X12_knowsNow (some 175) l1 l2 a v M) (fun M' => y_Fr (2 ^ 50) M M' ∧ e_V M' (s_kw σ h t a v)) := by
  obtain ⟨i1, i2⟩ := E_ix h1 h2 hh ht
  have V' := kw_V (h := h) X.2.2 ht hv ha
  have go : ∀ (p q : Int32), p = (if v ≤ 0 then -1 else a) → q = (if v ≤ 0 then 0 else v) → Ok ((sI M (some 185) (((59 : Int32) + ((14 : Int32) * l1)) + ((2 : Int32) * l2)) p).bind fun M1 => (gR 12 M1 (some 175) 20).bind fun v2 => (sI M1 v2 ((((59 : Int32) + ((14 : Int32) * l1)) + ((2 : Int32) * l2)) + (1 : Int32)) q).bind fun M1 => some M1) (fun M' => y_Fr (2 ^ 50) M M' ∧ e_V M' (s_kw σ h t a v)) := by
    intro p q hp hq
    refine e_s185 X.1 X.2.1 i1 (by omega) (y_full (y_dS (by omega))) (fun M1 H1 f1 e1 => ?_)
    refine e_r20 H1 ?_
    refine e_s185 H1 e1 i2 (by omega) (y_full (y_dS (by omega))) (fun M2 H2 f2 e2 => ?_)
    refine Ok_s ⟨y_tr f1 f2, H2, ?_, V'⟩
    rw [e2, hp, hq]
    rfl
  delta F_X12_knowsNow F_X12_knowsNow_b0 F_X12_knowsNow_b25 F_X12_knowsNow_b54
  refine e_r20 X.1 ?_
  by_cases c : v ≤ 0
  · simp only [if_pos c]
    exact go _ _ (if_pos c).symm (if_pos c).symm
  · simp only [if_neg c]
    exact go _ _ (if_neg c).symm (if_neg c).symm
theorem kw_a0 {σ : Nat → Int32} {h t : Nat} {a b : Int32} : s_kw σ h t a 0 = s_kw σ h t b 0 := rfl
theorem E_asks {M : gM} {σ : Nat → Int32} {l1 l2 : Int32} {h t : Nat} (X : e_V M σ) (h1 : l1.toInt = (h : Int)) (h2 : l2.toInt = (t : Int)) (hh : h < 7) (ht : t < 7) : Ok (F_X12_asks (some 175) l1 l2 M) (fun r => r.1 = (if s_kn σ h t = true then s_va σ h t else 10) ∧ y_Fr (2 ^ 50) M r.2 ∧ e_V r.2 (s_ak σ h t)) := by
  have z0 : (0 : Int32).toInt = 0 := rfl
  delta F_X12_asks F_X12_asks_b0 F_X12_asks_b29
  rw [e_gO X.1, Option.bind_some, E_valueOf X h1 h2 hh ht, Option.bind_some]
  unfold s_ak
  by_cases k : s_kn σ h t = true
  · have k' := of_decide_eq_true k
    have p0 : (0 : Int32) ≤ s_va σ h t := Int32.le_iff_toInt_le.mpr (by omega)
    rw [if_neg (fun z => by have := i_lt z; omega), E_thingOf X h2 (w := 0) rfl ht (by decide), Option.bind_some, show 10 + 4 * t + 0 = 10 + 4 * t by omega, if_pos k]
    by_cases c : s_va σ h t = σ (10 + 4 * t)
    · rw [if_pos c, if_pos p0, if_neg (by simp [c])]
      exact Ok_s ⟨rfl, y_rf0 _ _, X⟩
    · rw [if_neg c, if_pos (show (s_kn σ h t && s_va σ h t != σ (10 + 4 * t)) = true by simp [k, c])]
      refine Ok_b (E_knowsNow X h1 h2 hh ht (by decide) (fun h => absurd h (by decide))) (fun M4 z => ?_)
      rw [if_pos p0]
      exact Ok_s ⟨rfl, z.1, z.2⟩
  · have k' := of_decide_eq_false (b_ff k)
    rw [if_pos (Int32.lt_iff_toInt_lt.mpr (by omega)), if_neg (fun z => by have := i_le z; omega), if_neg k, if_neg (by simp [k])]
    exact Ok_s ⟨rfl, y_rf0 _ _, X⟩
/-! told: of both -/
def s_tw (σ : Nat → Int32) (f t : Nat) (w : Bool) : Int32 := if w = true then s_st σ f t else if (1 : Int32) ≤ s_st σ f t / 2 then s_st σ f t / 2 else 1
def s_tk (σ : Nat → Int32) (f o t : Nat) : Bool := decide ((s_st σ o t).toInt < (s_st σ f t).toInt)
def s_td (σ : Nat → Int32) (f o t : Nat) (w : Bool) : Nat → Int32 := if s_tk σ f o t = true then s_kw σ o t (s_va σ f t) (s_tw σ f t w) else σ
theorem s_tw_r {σ : Nat → Int32} {f t : Nat} {w : Bool} (V : s_V σ) (hf : f < hs_m σ) (ht : t < 7) (k : s_kn σ f t = true) : 1 ≤ (s_tw σ f t w).toInt ∧ (s_tw σ f t w).toInt ≤ 99 := by
  have kv := s_kn1 V hf ht k
  have d := i_div (x := s_st σ f t) (c := (2 : Int32)) (n := 2) rfl (by decide) (by omega)
  have z1 : (1 : Int32).toInt = 1 := rfl
  unfold s_tw
  cases w with
  | true =>
    rw [if_pos rfl]
    exact kv.2
  | false =>
    rw [if_neg (by decide)]
    by_cases c : (1 : Int32) ≤ s_st σ f t / 2
    · have := i_le c
      rw [if_pos c]
      omega
    · rw [if_neg c]
      decide
theorem C_takes {M : gM} {s e f o t : Nat} {σ : Nat → Int32} {l1 l2 l3 l4 : Int32} (X : k_X M s e σ) (hd : e + 5 < s ∨ s + 4 < e) (h1 : l1.toInt = (o : Int)) (h2 : l2.toInt = (f : Int)) (h3 : l3.toInt = (t : Int)) (ho : o < hs_m σ) (hf : f < hs_m σ) (ht : t < 7) (k : s_kn σ f t = true) : Ok (F_X8_takes (some s) l1 l2 l3 l4 M) (fun r => r.1 = (if s_tk σ f o t = true then 1 else 0) ∧ k_Fs s M r.2 ∧ k_X r.2 s e (s_td σ f o t (decide (l4 ≠ 0)))) := by
  obtain ⟨⟨ke, ⟨e6, e7⟩, _⟩, ⟨⟨ks, k1, k2⟩, k3, k4⟩, ⟨r0, r1⟩, r2, r3⟩ := k_XE X
  have nn := s_Vn X.2.2
  have ix := k_ix h2 h3 (by omega) ht
  have iy := k_ix h1 h3 (by omega) ht
  have kv := s_kn1 X.2.2 hf ht k
  delta F_X8_takes F_X8_takes_b0 F_X8_takes_b63
  rw [t_gR ks r1, Option.bind_some, t_aI k2 (by omega) (by omega), Option.bind_some, i_cl ix, (k_Xst X hf ht).1, Option.bind_some, t_aI k2 (by omega) (by omega), Option.bind_some, i_cl iy, (k_Xst X ho ht).1]
  unfold s_td s_tk
  by_cases c : s_st σ o t < s_st σ f t
  · have c' := i_lt c
    have dt : decide ((s_st σ o t).toInt < (s_st σ f t).toInt) = true := decide_eq_true c'
    rw [if_pos c, t_gR ks r0, Option.bind_some, t_aI k1 (by omega) (by omega), Option.bind_some, i_cl ix, (k_Xst X hf ht).2 k, dt, if_pos rfl, if_pos rfl]
    have go : ∀ {v : Int32} {w : Bool}, v = s_tw σ f t w → Ok ((gO 8 M (some s)).bind fun i1 => (F_X8_learn (some i1) l1 l3 (s_va σ f t) v M).bind fun M2 => some ((1 : Int32), M2)) (fun r => r.1 = 1 ∧ k_Fs s M r.2 ∧ k_X r.2 s e (s_kw σ o t (s_va σ f t) (s_tw σ f t w))) := by
      intro v w hv
      have r := s_tw_r (w := w) X.2.2 hf ht k
      subst hv
      refine x_gO ks ?_
      exact Ok_b (C_learnX X hd h1 h3 ho ht (by omega) (fun _ => kv.1)) (fun M2 z => Ok_s ⟨rfl, z⟩)
    by_cases c4 : l4 = 0
    · rw [if_pos c4, decide_eq_false (fun h => h c4)]
      refine go ?_
      unfold s_tw
      simp only [Bool.false_eq_true, if_false]
      have d := i_div (x := s_st σ f t) (c := (2 : Int32)) (n := 2) rfl (by decide) (by omega)
      have z1 : (1 : Int32).toInt = 1 := rfl
      by_cases ch : (1 : Int32) < s_st σ f t / 2
      · have := i_lt ch
        rw [if_pos ch, if_pos (Int32.le_iff_toInt_le.mpr (by omega))]
      · have := i_nlt ch
        rw [if_neg ch]
        by_cases c1 : (1 : Int32) ≤ s_st σ f t / 2
        · have := i_le c1
          rw [if_pos c1]
          exact Int32.toInt_inj.mp (by omega)
        · rw [if_neg c1]
    · rw [if_neg c4, decide_eq_true c4]
      exact go rfl
  · have c' := i_nlt c
    rw [if_neg c, decide_eq_false (by omega), if_neg (by decide), if_neg (by decide)]
    exact Ok_s ⟨rfl, k_Fs_rf, X⟩
theorem E_takes {M : gM} {f o t : Nat} {σ : Nat → Int32} {l1 l2 l3 l4 : Int32} {w : Bool} (X : e_V M σ) (h1 : l1.toInt = (f : Int)) (h2 : l2.toInt = (o : Int)) (h3 : l3.toInt = (t : Int)) (hf : f < hs_m σ) (ho : o < hs_m σ) (ht : t < 7) (k : s_kn σ f t = true) (h4 : l4 = if w = true then s_st σ f t else s_st σ f t / 2) : Ok (F_X12_takes (some 175) l1 l2 l3 l4 M) (fun r => r.1 = (if s_tk σ f o t = true then 1 else 0) ∧ y_Fr (2 ^ 50) M r.2 ∧ e_V r.2 (s_td σ f o t w)) := by
  have nn := s_Vn X.2.2
  have kv := s_kn1 X.2.2 hf ht k
  have z1 : (1 : Int32).toInt = 1 := rfl
  have go : s_tk σ f o t = true → Ok (F_X12_takes_b26 (some 175) l1 l2 l3 l4 M) (fun r => r.1 = (if s_tk σ f o t = true then 1 else 0) ∧ y_Fr (2 ^ 50) M r.2 ∧ e_V r.2 (s_td σ f o t w)) := by
    intro c
    have r := s_tw_r (w := w) X.2.2 hf ht k
    unfold s_td
    rw [if_pos c, if_pos c]
    delta F_X12_takes_b26 F_X12_takes_b47
    rw [e_gO X.1, Option.bind_some, E_valueOf X h1 h3 (by omega) ht, Option.bind_some]
    have fin : ∀ {v : Int32}, v = s_tw σ f t w → Ok ((gO 12 M (some 175)).bind fun i1 => (F_X12_knowsNow (some i1) l2 l3 (s_va σ f t) v M).bind fun M2 => some ((1 : Int32), M2)) (fun r => r.1 = 1 ∧ y_Fr (2 ^ 50) M r.2 ∧ e_V r.2 (s_kw σ o t (s_va σ f t) (s_tw σ f t w))) := by
      intro v hv
      subst hv
      rw [e_gO X.1, Option.bind_some]
      exact Ok_b (E_knowsNow X h2 h3 (by omega) ht r.2 (fun _ => kv.1)) (fun M2 z => Ok_s ⟨rfl, z⟩)
    have e4 : (if (1 : Int32) ≤ l4 then l4 else 1) = s_tw σ f t w := by
      unfold s_tw
      cases w with
      | true =>
        rw [if_pos rfl] at h4
        rw [if_pos rfl, h4, if_pos (Int32.le_iff_toInt_le.mpr (by omega))]
      | false =>
        rw [if_neg (by decide)] at h4
        simp only [Bool.false_eq_true, if_false]
        rw [h4]
    by_cases c1 : (1 : Int32) ≤ l4
    · rw [if_pos c1]
      rw [if_pos c1] at e4
      exact fin e4
    · rw [if_neg c1]
      rw [if_neg c1] at e4
      exact fin e4
  delta F_X12_takes F_X12_takes_b0
  rw [e_gO X.1, Option.bind_some, E_knowsOf X h2 h3 (by omega) ht, Option.bind_some]
  by_cases ko : s_kn σ o t = true
  · rw [if_pos ko, if_neg (by decide), E_strengthOf X h2 h3 (by omega) ht, Option.bind_some, E_strengthOf X h1 h3 (by omega) ht, Option.bind_some]
    by_cases c : s_st σ o t < s_st σ f t
    · rw [if_pos c]
      exact go (decide_eq_true (i_lt c))
    · have c' := i_nlt c
      have cf : s_tk σ f o t = false := decide_eq_false (by omega)
      unfold s_td
      rw [if_neg c, cf, if_neg (by decide), if_neg (by decide)]
      exact Ok_s ⟨rfl, y_rf0 _ _, X⟩
  · rw [if_neg ko, if_pos rfl]
    have k0 := s_kn0 X.2.2 ho ht (b_ff ko)
    refine go (decide_eq_true ?_)
    rw [k0.2]
    show (0 : Int) < _
    omega
