/-! PROMPT, BURN, ASK, of both -/
theorem w_X_now {M M' : gM} {e : Nat} {σ σ' : Nat → Int32} (X : w_X M 9 e σ) (f : k_Fs 9 M M') (X' : k_X M' 9 e σ') (h0 : σ' 0 = σ 0) (Q : s_Q σ') : w_X M' 9 e σ' := by
  have wh := X.1.2
  refine ⟨⟨X', wh⟩, ?_, Q⟩
  rw [f.2 e (by unfold w_h at wh; omega), h0]
  exact X.2.1
theorem s_Q_kw {σ : Nat → Int32} {h t : Nat} {a v : Int32} (Q : s_Q σ) : s_Q (s_kw σ h t a v) := by
  unfold s_Q at Q ⊢
  rw [kw_lo (by decide), kw_lo (by decide)]
  exact ⟨Q.1, Q.2.1, s_Qc_c Q.2.2.1 (kw_lo (by decide)) (fun j _ hj => kw_lo hj), s_Qd_c Q.2.2.2 (kw_lo (by decide)) (fun t ht => kw_lo (by omega))⟩
/-- the class, one cell of now changed behind a keep -/
theorem w_C_nowF {M M' : gM} {e : Nat} {σ σ' : Nat → Int32} {nx sz : Nat} {P I : Nat → Nat → Int32} {rc : Nat} {R : Nat → List (Nat × Int32) × List (Nat × Nat × Nat)} (C : w_C M e σ nx sz P I rc R) (hl : 197 ≤ M.1.length) (f : k_Fs 9 M M') (X' : k_X M' 9 e σ') (h0 : σ' 0 = σ 0) (Q : s_Q σ') : w_C M' e σ' nx sz P I rc R := by
  have F := w_F_Fs f
  have n := w_FN F hl (by omega)
  exact w_C_now C hl F (by rw [n.2]) (by rw [n.1]) (fun i z => by omega) (w_X_now C.1.1.2 f X' h0 Q)
def s_pm (x : Int32) : Int32 := if x + (10 : Int32) < (99 : Int32) then x + (10 : Int32) else 99
theorem s_pm_r {x : Int32} (h : 1 ≤ x.toInt ∧ x.toInt ≤ 99) : (1 ≤ (s_pm x).toInt ∧ (s_pm x).toInt ≤ 99) ∧ (if x + (10 : Int32) ≤ (99 : Int32) then x + (10 : Int32) else 99) = s_pm x := by
  have a := i_addc (x := x) (c := (10 : Int32)) (n := 10) rfl (by omega) (by omega)
  have z : (99 : Int32).toInt = 99 := rfl
  unfold s_pm
  by_cases c : x + (10 : Int32) < (99 : Int32)
  · have := i_lt c
    rw [if_pos c, if_pos (Int32.le_iff_toInt_le.mpr (by omega))]
    exact ⟨by omega, rfl⟩
  · have := i_nlt c
    rw [if_neg c]
    refine ⟨by decide, ?_⟩
    by_cases d : x + (10 : Int32) ≤ (99 : Int32)
    · have := i_le d
      rw [if_pos d]
      exact Int32.toInt_inj.mp (by omega)
    · rw [if_neg d]
theorem lw9_prompt {L : Nat} {M : gM} {l1 l2 : Int32} (R : lw9 L M) : lw_42 L M (F_X11_prompt (some 2) l1 l2 M) (F_X12_prompt (some 175) l1 l2) := by
  have R8 := R.1
  have G := R8.2
  have hl := lw8_len R8.1.1.1
  refine lw9_act R (S_X11_prompt R8.1.1.1.1.1.1 R8.1.1.1.2.1.1.1) (fun M1 H W => S_X12_prompt H) (by decide) (by decide) (by decide) (fun e σ nx sz P I rc Rr C h6 hf => ?_)
  have X := C.1.1.2
  have k2 : g_k M 2 = (11, 0) := k_kd G (by decide)
  have V := X.1.1.2.2
  by_cases k : s_iK σ l1 l2 = true
  · have kk := k
    unfold s_iK at kk
    simp only [Bool.and_eq_true] at kk
    obtain ⟨⟨kH, kT⟩, kn⟩ := kk
    obtain ⟨a, a1, a2, a3, _⟩ := s_iH_n V kH
    obtain ⟨b, b1, b2, b3, _⟩ := s_iT_n V kT
    rw [a3, b3] at kn
    have nn := s_Vn V
    have ix := k_ix a1 b1 (by omega) (by omega)
    have kv := s_kn1 V a2 (t := b) (by omega) kn
    have pm := s_pm_r kv.2
    refine ⟨s_pm (s_st σ a b), e, s_kw σ a b (s_va σ a b) (s_pm (s_st σ a b)), (nx + 1) % 20, s_sz sz, s_kp σ sz P, I, ?_, fun M1 X1 E1 _ _ => ?_⟩
    · delta F_X11_prompt F_X11_prompt_b0
      refine x_gO k2 (x_eq (C_isKnownX k2 C.1.1.1 (k_rf G (by decide)) X.1.1) ?_)
      rw [if_pos k, if_neg (by decide)]
      refine x_gR k2 (G_r7 G) (x_gR k2 (G_r5 G) (x_gO (G_k19 G) ?_))
      refine Ok_b (C_keep G X C.1.2 hl) (fun M6 z => ?_)
      have C6 := w_C_keep C hl z
      obtain ⟨⟨⟨h1, h2⟩, f6, _⟩, _⟩ := z
      have G6 := k_G_eq G h1 h2
      have hl6 : 197 ≤ M6.1.length := by rw [h1]; exact hl
      have k6 : g_k M6 2 = (11, 0) := k_kd G6 (by decide)
      have X6 := C6.1.1.2
      obtain ⟨_, ⟨⟨ks, j1, j2⟩, j3, j4⟩, ⟨r0, r1⟩, r2, r3⟩ := k_XE X6.1.1
      have st := k_Xst X6.1.1 a2 (t := b) (by omega)
      refine x_gR k6 (G_r5 G6) (x_gR ks r1 (x_gR k6 (G_r5 G6) (x_gR ks r1 (x_aI j2 ix (by omega) st.1 ?_))))
      refine x_eq (show F_X11_prompted (s_st σ a b) M6 = some (s_pm (s_st σ a b)) from rfl) ?_
      refine x_sI j2 ix (by omega) ?_
      have f1 : k_Fs 9 M6 (mI M6 (9 + 2) (7 * a + b) (s_pm (s_st σ a b))) := k_Fs_up (by omega)
      have X7 := k_X_cell (w := 0) (a := s_va σ a b) (v := s_pm (s_st σ a b)) X6.1.1 (w_hd X6.1.2).1 a2 (t := b) (by omega) f1 (fun i k hi hk => mI_ne (by omega)) (fun i k hi => mI_ne (by omega)) (by rw [y_mI1, if_neg (fun z => by have := i_le z; have z0 : (0 : Int32).toInt = 0 := rfl; omega)]) (fun _ => ⟨(mI_ne (by omega)).trans (st.2 kn), kv.1⟩) pm.1.2
      refine x_gR k6 (G_r5 G6) (x_gR ks r1 (x_aI j2 ix (by omega) y_mI1 ?_))
      exact Ok_s ⟨rfl, w_C_nowF C6 hl6 f1 X7 (kw_lo (by decide)) (s_Q_kw X6.2.2)⟩
    · delta F_X12_prompt F_X12_prompt_b0 F_X12_prompt_b62
      rw [e_gO X1.1, Option.bind_some, E_isHeirX X1, Option.bind_some, if_pos kH, if_neg (by decide), E_isThingX X1, Option.bind_some, if_pos kT, if_neg (by decide), E_knowsOf X1 a1 b1 (by omega) (by omega), Option.bind_some, if_pos kn, if_neg (by decide)]
      refine Ok_b (E_keep X1.1 X1.2.1 E1.1.1.2 E1.1.2) (fun M5 z => ?_)
      have E5 := w_E_keep E1 z
      have H5 := z.1.1
      have X5 : e_V M5 σ := ⟨H5, E5.1.1.1, V⟩
      rw [e_gC H5, Option.bind_some, E_strengthOf X5 a1 b1 (by omega) (by omega), Option.bind_some, E_valueOf X5 a1 b1 (by omega) (by omega), Option.bind_some]
      have go : ∀ {y : Int32}, y = s_pm (s_st σ a b) → Ok ((gO 12 M5 (some 175)).bind fun i1 => (F_X12_knowsNow (some i1) l1 l2 (s_va σ a b) y M5).bind fun M2 => (gO 12 M2 (some 175)).bind fun i3 => (F_X12_strengthOf (some i3) l1 l2 M2).bind fun v4 => some (v4, M2)) (fun q => q.1 = s_pm (s_st σ a b) ∧ w_E q.2 (s_kw σ a b (s_va σ a b) (s_pm (s_st σ a b))) (s_sz sz) (s_kp σ sz P) I rc Rr) := by
        intro y hy
        subst hy
        rw [e_gO H5, Option.bind_some]
        refine Ok_b (E_knowsNow X5 a1 b1 (by omega) (by omega) pm.1.2 (fun _ => kv.1)) (fun M2 z => ?_)
        obtain ⟨f2, X2⟩ := z
        rw [e_gO X2.1, Option.bind_some, E_strengthOf X2 a1 b1 (by omega) (by omega), Option.bind_some]
        refine Ok_s ⟨?_, w_E_r E5 f2 (by decide) X2.2.1⟩
        show s_st (s_kw σ a b (s_va σ a b) (s_pm (s_st σ a b))) a b = _
        rw [kw_v.2, if_neg (fun z => by have := i_le z; have z0 : (0 : Int32).toInt = 0 := rfl; omega)]
      by_cases c : s_st σ a b + (10 : Int32) ≤ (99 : Int32)
      · have e := pm.2
        rw [if_pos c] at e
        rw [if_pos c]
        exact go e
      · have e := pm.2
        rw [if_neg c] at e
        rw [if_neg c]
        exact go e
  · refine lw9_nil C (w := -1) ?_ (fun M1 X1 E1 => ?_)
    · delta F_X11_prompt F_X11_prompt_b0
      rw [t_gO k2, Option.bind_some, C_isKnownX k2 C.1.1.1 (k_rf G (by decide)) X.1.1, Option.bind_some, if_neg k, if_pos rfl]
    · delta F_X12_prompt F_X12_prompt_b0 F_X12_prompt_b25
      rw [e_gO X1.1, Option.bind_some, E_isHeirX X1, Option.bind_some]
      unfold s_iK at k
      by_cases kH : s_iH σ l1 = true
      · rw [if_pos kH, if_neg (by decide), E_isThingX X1, Option.bind_some]
        by_cases kT : s_iT σ l2 = true
        · obtain ⟨a, a1, a2, a3, _⟩ := s_iH_n V kH
          obtain ⟨b, b1, b2, b3, _⟩ := s_iT_n V kT
          have nn := s_Vn V
          rw [if_pos kT, if_neg (by decide), E_knowsOf X1 a1 b1 (by omega) (by omega), Option.bind_some]
          rw [kH, kT, a3, b3] at k
          rw [if_neg (show ¬ s_kn σ a b = true from k), if_pos rfl]
        · rw [if_neg kT, if_pos rfl]
      · rw [if_neg kH, if_pos rfl]
/-! BURN -/
theorem k_X_8 {M M' : gM} {s e : Nat} {σ : Nat → Int32} {v : Int32} (X : k_X M s e σ) (hd : e + 5 < s ∨ s + 4 < e) (f : k_Fs s M M') (h4 : M'.2.1 s 4 = v) (o : ∀ i k, s ≤ i → i ≤ s + 4 → ¬ (i = s ∧ k = 4) → M'.2.1 i k = M.2.1 i k) : k_X M' s e (hs_set σ 8 v) := by
  have nn := s_Vn X.2.2
  have ne : ∀ j, j ≠ 8 → hs_set σ 8 v j = σ j := fun j hj => hs_sn hj
  have V' : s_V (hs_set σ 8 v) := by
    obtain ⟨V1, V2, V3, V4⟩ := X.2.2
    unfold s_V s_va s_st
    rw [ne 1 (by decide), ne 2 (by decide)]
    refine ⟨V1, fun a t ha ht => ?_, fun t ht => ?_, fun a ha => ?_⟩
    · rw [ne _ (by omega), ne _ (by omega)]
      exact V2 a t ha ht
    · rw [ne _ (by omega), ne _ (by omega), ne _ (by omega), ne _ (by omega)]
      exact V3 t ht
    · rw [ne _ (by omega), ne _ (by omega)]
      exact V4 a ha
  refine k_X_Fs X hd f ?_ V' (fun j _ _ _ h8 _ => ne j h8)
  obtain ⟨⟨⟨S1, S2⟩, S3⟩, S4, S5⟩ := X.2.1.2
  refine ⟨⟨⟨h4, ?_⟩, ?_⟩, fun h hh => ⟨?_, fun t ht => ?_⟩, fun t ht => ?_⟩
  · rw [o s 5 (by omega) (by omega) (by omega), ne 4 (by decide)]
    exact S2
  · rw [o s 6 (by omega) (by omega) (by omega), ne 5 (by decide)]
    exact S3
  · rw [ne 2 (by decide)] at hh
    rw [o (s + 3) h (by omega) (by omega) (by omega), ne _ (by omega)]
    exact (S4 h hh).1
  · rw [ne 2 (by decide)] at hh
    have c := (S4 h hh).2 t ht
    unfold k_c at c ⊢
    rw [o (s + 1) _ (by omega) (by omega) (by omega), o (s + 2) _ (by omega) (by omega) (by omega), ne _ (by omega), ne _ (by omega)]
    exact c
  · rw [ne 1 (by decide)] at ht
    rw [o (s + 4) t (by omega) (by omega) (by omega), ne _ (by omega)]
    exact S5 t ht
theorem k_X_5 {M M' : gM} {s e : Nat} {σ : Nat → Int32} {v : Int32} (X : k_X M s e σ) (hd : e + 5 < s ∨ s + 4 < e) (f : k_Fs s M M') (h6 : M'.2.1 s 6 = v) (o : ∀ i k, s ≤ i → i ≤ s + 4 → ¬ (i = s ∧ k = 6) → M'.2.1 i k = M.2.1 i k) : k_X M' s e (hs_set σ 5 v) := by
  have nn := s_Vn X.2.2
  have ne : ∀ j, j ≠ 5 → hs_set σ 5 v j = σ j := fun j hj => hs_sn hj
  have V' : s_V (hs_set σ 5 v) := by
    obtain ⟨V1, V2, V3, V4⟩ := X.2.2
    unfold s_V s_va s_st
    rw [ne 1 (by decide), ne 2 (by decide)]
    refine ⟨V1, fun a t ha ht => ?_, fun t ht => ?_, fun a ha => ?_⟩
    · rw [ne _ (by omega), ne _ (by omega)]
      exact V2 a t ha ht
    · rw [ne _ (by omega), ne _ (by omega), ne _ (by omega), ne _ (by omega)]
      exact V3 t ht
    · rw [ne _ (by omega), ne _ (by omega)]
      exact V4 a ha
  refine k_X_Fs X hd f ?_ V' (fun j _ _ h5 _ _ => ne j h5)
  obtain ⟨⟨⟨S1, S2⟩, S3⟩, S4, S5⟩ := X.2.1.2
  refine ⟨⟨⟨?_, ?_⟩, h6⟩, fun h hh => ⟨?_, fun t ht => ?_⟩, fun t ht => ?_⟩
  · rw [o s 4 (by omega) (by omega) (by omega), ne 8 (by decide)]
    exact S1
  · rw [o s 5 (by omega) (by omega) (by omega), ne 4 (by decide)]
    exact S2
  · rw [ne 2 (by decide)] at hh
    rw [o (s + 3) h (by omega) (by omega) (by omega), ne _ (by omega)]
    exact (S4 h hh).1
  · rw [ne 2 (by decide)] at hh
    have c := (S4 h hh).2 t ht
    unfold k_c at c ⊢
    rw [o (s + 1) _ (by omega) (by omega) (by omega), o (s + 2) _ (by omega) (by omega) (by omega), ne _ (by omega), ne _ (by omega)]
    exact c
  · rw [ne 1 (by decide)] at ht
    rw [o (s + 4) t (by omega) (by omega) (by omega), ne _ (by omega)]
    exact S5 t ht
theorem lw9_burn {L : Nat} {M : gM} {l1 : Int32} (R : lw9 L M) : lw_42 L M (F_X11_burn (some 2) l1 M) (F_X12_burn (some 175) l1) := by
  have R8 := R.1
  have G := R8.2
  have hl := lw8_len R8.1.1.1
  refine lw9_act R (S_X11_burn R8.1.1.1.1.1.1 R8.1.1.1.2.1.1.1) (fun M1 H W => S_X12_burn H) (by decide) (by decide) (by decide) (fun e σ nx sz P I rc Rr C h6 hf => ?_)
  have X := C.1.1.2
  have k2 : g_k M 2 = (11, 0) := k_kd G (by decide)
  have V := X.1.1.2.2
  have ks : g_k M 9 = (8, 0) := X.1.1.1.2.1.1
  have v8 : M.2.1 9 4 = σ 8 := X.1.1.2.1.2.1.1.1
  by_cases kT : s_iT σ l1 = true
  · by_cases kb : hs_is (σ 8) l1 = 1
    · refine lw9_nil C (w := 0) ?_ (fun M1 X1 E1 => ?_)
      · delta F_X11_burn F_X11_burn_b0 F_X11_burn_b23
        rw [t_gO k2, Option.bind_some, C_isThingX k2 C.1.1.1 X.1.1, Option.bind_some, if_pos kT, if_neg (by decide), t_gR k2 (G_r5 G), Option.bind_some, t_gI ks, Option.bind_some, v8, C_bit, Option.bind_some, if_pos kb]
      · delta F_X12_burn F_X12_burn_b0 F_X12_burn_b22
        rw [e_gO X1.1, Option.bind_some, E_isThingX X1, Option.bind_some, if_pos kT, if_neg (by decide), e_sd X1 (k := 8) rfl (by decide)]
        rw [show F_X12_isOf (σ 8) l1 M1 = some 1 from if_pos kb, Option.bind_some, if_neg (by decide)]
    · refine ⟨1, e, hs_set σ 8 (σ 8 ||| hs_bit l1), (nx + 1) % 20, s_sz sz, s_kp σ sz P, I, ?_, fun M1 X1 E1 _ _ => ?_⟩
      · delta F_X11_burn F_X11_burn_b0
        refine x_gO k2 (x_eq (C_isThingX k2 C.1.1.1 X.1.1) ?_)
        rw [if_pos kT, if_neg (by decide)]
        refine x_gR k2 (G_r5 G) (x_gI ks v8 (x_eq C_bit (Ok_e kb ?_)))
        refine x_gR k2 (G_r7 G) (x_gR k2 (G_r5 G) (x_gO (G_k19 G) ?_))
        refine Ok_b (C_keep G X C.1.2 hl) (fun M6 z => ?_)
        have C6 := w_C_keep C hl z
        obtain ⟨⟨⟨h1, h2⟩, f6, _⟩, _⟩ := z
        have G6 := k_G_eq G h1 h2
        have hl6 : 197 ≤ M6.1.length := by rw [h1]; exact hl
        have k6 : g_k M6 2 = (11, 0) := k_kd G6 (by decide)
        have X6 := C6.1.1.2
        refine x_gR k6 (G_r5 G6) (x_gI X6.1.1.1.2.1.1 X6.1.1.2.1.2.1.1.1 (x_pI X6.1.1.1.2.1.1 (Ok_s ⟨rfl, ?_⟩)))
        have f1 : k_Fs 9 M6 (mI M6 9 4 (σ 8 ||| hs_bit l1)) := k_Fs_up (by omega)
        refine w_C_nowF C6 hl6 f1 (k_X_8 X6.1.1 (w_hd X6.1.2).1 f1 y_mI1 (fun i k h1 h2 h3 => mI_ne (by omega))) (hs_sn (by decide)) ?_
        have Q := X6.2.2
        unfold s_Q at Q ⊢
        rw [hs_sn (by decide), hs_sn (by decide)]
        exact ⟨Q.1, Q.2.1, s_Qc_c Q.2.2.1 (hs_sn (by decide)) (fun j _ _ => hs_sn (by omega)), s_Qd_c Q.2.2.2 (hs_sn (by decide)) (fun t ht => hs_sn (by omega))⟩
      · delta F_X12_burn F_X12_burn_b0
        rw [e_gO X1.1, Option.bind_some, E_isThingX X1, Option.bind_some, if_pos kT, if_neg (by decide), e_sd X1 (k := 8) rfl (by decide)]
        rw [show F_X12_isOf (σ 8) l1 M1 = some 0 from if_neg kb, Option.bind_some, if_pos rfl]
        refine Ok_b (E_keep X1.1 X1.2.1 E1.1.1.2 E1.1.2) (fun M5 z => ?_)
        have E5 := w_E_keep E1 z
        have H5 := z.1.1
        have X5 : e_V M5 σ := ⟨H5, E5.1.1.1, V⟩
        rw [e_gR H5 (w := 185) rfl (by decide), Option.bind_some, e_aI H5 (t := 20) (i := 185) (n := 157) rfl (by decide) (by decide) (by decide), Option.bind_some]
        refine e_s185 H5 X5.2.1 (k := 8) rfl (by decide) (y_full rfl) (fun M9 H9 f9 e9 => Ok_s ⟨rfl, w_E_r E5 f9 (by decide) ?_⟩)
        rw [e9, X5.2.1]
        rfl
  · refine lw9_nil C (w := 0) ?_ (fun M1 X1 E1 => ?_)
    · delta F_X11_burn F_X11_burn_b0 F_X11_burn_b23
      rw [t_gO k2, Option.bind_some, C_isThingX k2 C.1.1.1 X.1.1, Option.bind_some, if_neg kT, if_pos rfl]
    · delta F_X12_burn F_X12_burn_b0 F_X12_burn_b22
      rw [e_gO X1.1, Option.bind_some, E_isThingX X1, Option.bind_some, if_neg kT, if_pos rfl]
/-! ASK -/
theorem lw9_ask {L : Nat} {M : gM} {l1 l2 : Int32} (R : lw9 L M) : lw_42 L M (F_X11_ask (some 2) l1 l2 M) (F_X12_ask (some 175) l1 l2) := by
  have R8 := R.1
  have G := R8.2
  have hl := lw8_len R8.1.1.1
  refine lw9_act R (S_X11_ask R8.1.1.1.1.1.1 R8.1.1.1.2.1.1.1) (fun M1 H W => S_X12_ask H) (by decide) (by decide) (by decide) (fun e σ nx sz P I rc Rr C h6 hf => ?_)
  have X := C.1.1.2
  have k2 : g_k M 2 = (11, 0) := k_kd G (by decide)
  have V := X.1.1.2.2
  have Q := X.2.2.2.1
  have ks : g_k M 9 = (8, 0) := X.1.1.1.2.1.1
  have v6 : M.2.1 9 6 = σ 5 := X.1.1.2.1.2.1.2
  have z1 : (1 : Int32).toInt = 1 := rfl
  have z0 : (0 : Int32).toInt = 0 := rfl
  by_cases kH : s_iH σ l1 = true
  · by_cases kT : s_iT σ l2 = true
    · by_cases k5 : (1 : Int32) ≤ σ 5
      · have k5' := i_le k5
        obtain ⟨a, a1, a2, a3, _⟩ := s_iH_n V kH
        obtain ⟨b, b1, b2, b3, _⟩ := s_iT_n V kT
        have nn := s_Vn V
        have ix := k_ix a1 b1 (by omega) (by omega)
        have s5 := i_subc (x := σ 5) (c := (1 : Int32)) (n := 1) rfl (by omega) (by omega)
        obtain ⟨τ, hτ⟩ : ∃ τ, τ = hs_set σ 5 (σ 5 - (1 : Int32)) := ⟨_, rfl⟩
        have ne : ∀ j, j ≠ 5 → τ j = σ j := fun j hj => by rw [hτ]; exact hs_sn hj
        have n5 : τ 5 = σ 5 - (1 : Int32) := by rw [hτ]; exact hs_se
        have va : s_va τ a b = s_va σ a b := ne _ (by omega)
        have kn := kn_of (σ := σ) (σ' := τ) (h := a) (t := b) va
        have nm := nm_of (σ := σ) (σ' := τ) (fun j hj => ne j (by omega))
        have Qτ : s_Q τ := by
          have Q' := X.2.2
          unfold s_Q at Q' ⊢
          rw [ne 4 (by decide), n5]
          exact ⟨Q'.1, by omega, s_Qc_c Q'.2.2.1 (ne 2 (by decide)) (fun j _ _ => ne j (by omega)), s_Qd_c Q'.2.2.2 (ne 1 (by decide)) (fun t ht => ne _ (by omega))⟩
        have Qa : s_Q (s_ak τ a b) := by
          unfold s_ak
          split
          · exact s_Q_kw Qτ
          · exact Qτ
        have h0 : s_ak τ a b 0 = σ 0 := by
          unfold s_ak
          split
          · exact (kw_lo (by decide)).trans (ne 0 (by decide))
          · exact ne 0 (by decide)
        refine ⟨if s_kn σ a b = true then s_va σ a b else 10, e, s_ak τ a b, (nx + 1) % 20, s_sz sz, s_kp σ sz P, I, ?_, fun M1 X1 E1 _ _ => ?_⟩
        · delta F_X11_ask F_X11_ask_b0
          refine x_gO k2 (x_eq (C_isHeirX k2 C.1.1.1 X.1.1) ?_)
          rw [if_pos kH, if_neg (by decide)]
          refine x_eq (C_isThingX k2 C.1.1.1 X.1.1) ?_
          rw [if_pos kT, if_neg (by decide)]
          refine x_gR k2 (G_r5 G) (x_gI ks v6 (Ok_t k5 ?_))
          refine x_gR k2 (G_r7 G) (x_gR k2 (G_r5 G) (x_gO (G_k19 G) ?_))
          refine Ok_b (C_keep G X C.1.2 hl) (fun M9 z => ?_)
          have C9 := w_C_keep C hl z
          obtain ⟨⟨⟨h1, h2⟩, f9, _⟩, _⟩ := z
          have G9 := k_G_eq G h1 h2
          have hl9 : 197 ≤ M9.1.length := by rw [h1]; exact hl
          have k9 : g_k M9 2 = (11, 0) := k_kd G9 (by decide)
          have X9 := C9.1.1.2
          obtain ⟨_, ⟨⟨js, j1, j2⟩, j3, j4⟩, ⟨r0, r1⟩, r2, r3⟩ := k_XE X9.1.1
          have go : ∀ {w : Int32}, Ok (F_X11_ask_b68 (some 2) l1 l2 w M9) (fun q => q.1 = w ∧ w_C q.2 e (s_ak τ a b) ((nx + 1) % 20) (s_sz sz) (s_kp σ sz P) I rc Rr) := by
            intro w
            delta F_X11_ask_b68
            refine x_gR k9 (G_r5 G9) (x_gI js X9.1.1.2.1.2.1.2 (x_pI js ?_))
            have f1 : k_Fs 9 M9 (mI M9 9 6 (σ 5 - (1 : Int32))) := k_Fs_up (by omega)
            have X10 : k_X (mI M9 9 6 (σ 5 - (1 : Int32))) 9 e τ := by
              rw [hτ]
              exact k_X_5 X9.1.1 (w_hd X9.1.2).1 f1 y_mI1 (fun i k h1 h2 h3 => mI_ne (by omega))
            refine x_gR k9 (G_r5 G9) (x_gR k9 C9.1.1.1 (x_gO js ?_))
            refine Ok_b (C_isAsked X10 (w_hd X9.1.2).1 a1 b1 (by omega) (by rw [ne 1 (by decide)]; omega)) (fun M7 z => ?_)
            exact Ok_s ⟨rfl, w_C_nowF C9 hl9 (k_Fs_tr f1 z.1) z.2 h0 Qa⟩
          refine x_gC k9 (x_eq (C_isKnownX k9 C9.1.1.1 (k_rf G9 (by decide)) X9.1.1) ?_)
          have ek : s_iK σ l1 l2 = s_kn σ a b := by
            unfold s_iK
            rw [kH, kT, a3, b3]
            rfl
          rw [ek]
          by_cases k : s_kn σ a b = true
          · rw [if_pos k, if_pos k, if_neg (by decide)]
            exact x_gR k9 (G_r5 G9) (x_gR js r0 (x_aI j1 ix (by omega) ((k_Xst X9.1.1 a2 (t := b) (by omega)).2 k) go))
          · rw [if_neg k, if_neg k, if_pos rfl]
            exact go
        · delta F_X12_ask F_X12_ask_b0
          rw [e_gO X1.1, Option.bind_some, E_isHeirX X1, Option.bind_some, if_pos kH, if_neg (by decide), E_isThingX X1, Option.bind_some, if_pos kT, if_neg (by decide), e_sd X1 (k := 5) rfl (by decide), if_neg (fun z => by rw [z] at k5'; omega)]
          refine Ok_b (E_keep X1.1 X1.2.1 E1.1.1.2 E1.1.2) (fun M6 z => ?_)
          have E6 := w_E_keep E1 z
          have H6 := z.1.1
          have X6 : e_V M6 σ := ⟨H6, E6.1.1.1, V⟩
          rw [e_gR H6 (w := 185) rfl (by decide), Option.bind_some, e_aI H6 (t := 20) (i := 185) (n := 157) rfl (by decide) (by decide) (by decide), Option.bind_some]
          refine e_s185 H6 X6.2.1 (k := 5) rfl (by decide) (y_full rfl) (fun M9 H9 f9 e9 => ?_)
          have e9' : M9.2.1 185 = τ := by
            rw [e9, hτ, X6.2.1]
            rfl
          have V9 : s_V τ := by
            obtain ⟨V1, V2, V3, V4⟩ := V
            unfold s_V s_va s_st
            rw [ne 1 (by decide), ne 2 (by decide)]
            refine ⟨V1, fun a t ha ht => ?_, fun t ht => ?_, fun a ha => ?_⟩
            · rw [ne _ (by omega), ne _ (by omega)]
              exact V2 a t ha ht
            · rw [ne _ (by omega), ne _ (by omega), ne _ (by omega), ne _ (by omega)]
              exact V3 t ht
            · rw [ne _ (by omega), ne _ (by omega)]
              exact V4 a ha
          have X9 : e_V M9 τ := ⟨H9, e9', V9⟩
          rw [e_gC H9, Option.bind_some]
          refine Ok_b (E_asks X9 a1 b1 (by omega) (by omega)) (fun q z => ?_)
          obtain ⟨v11, M12⟩ := q
          obtain ⟨q1, q2, q3⟩ := z
          refine Ok_s ⟨?_, w_E_r E6 (y_tr f9 q2) (by decide) q3.2.1⟩
          show v11 = _
          rw [← va, ← kn]
          exact q1
      · have k5' := i_nle k5
        refine lw9_nil C (w := -1) ?_ (fun M1 X1 E1 => ?_)
        · delta F_X11_ask F_X11_ask_b0 F_X11_ask_b27
          rw [t_gO k2, Option.bind_some, C_isHeirX k2 C.1.1.1 X.1.1, Option.bind_some, if_pos kH, if_neg (by decide), C_isThingX k2 C.1.1.1 X.1.1, Option.bind_some, if_pos kT, if_neg (by decide), t_gR k2 (G_r5 G), Option.bind_some, t_gI ks, Option.bind_some, v6, if_neg k5]
        · delta F_X12_ask F_X12_ask_b0 F_X12_ask_b25
          rw [e_gO X1.1, Option.bind_some, E_isHeirX X1, Option.bind_some, if_pos kH, if_neg (by decide), E_isThingX X1, Option.bind_some, if_pos kT, if_neg (by decide), e_sd X1 (k := 5) rfl (by decide), if_pos (Int32.toInt_inj.mp (by omega))]
    · refine lw9_nil C (w := -1) ?_ (fun M1 X1 E1 => ?_)
      · delta F_X11_ask F_X11_ask_b0 F_X11_ask_b27
        rw [t_gO k2, Option.bind_some, C_isHeirX k2 C.1.1.1 X.1.1, Option.bind_some, if_pos kH, if_neg (by decide), C_isThingX k2 C.1.1.1 X.1.1, Option.bind_some, if_neg kT, if_pos rfl]
      · delta F_X12_ask F_X12_ask_b0 F_X12_ask_b25
        rw [e_gO X1.1, Option.bind_some, E_isHeirX X1, Option.bind_some, if_pos kH, if_neg (by decide), E_isThingX X1, Option.bind_some, if_neg kT, if_pos rfl]
  · refine lw9_nil C (w := -1) ?_ (fun M1 X1 E1 => ?_)
    · delta F_X11_ask F_X11_ask_b0 F_X11_ask_b27
      rw [t_gO k2, Option.bind_some, C_isHeirX k2 C.1.1.1 X.1.1, Option.bind_some, if_neg kH, if_pos rfl]
    · delta F_X12_ask F_X12_ask_b0 F_X12_ask_b25
      rw [e_gO X1.1, Option.bind_some, E_isHeirX X1, Option.bind_some, if_neg kH, if_pos rfl]
