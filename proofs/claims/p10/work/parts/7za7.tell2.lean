/-! TELL -/
theorem lw9_tell {L : Nat} {M : gM} {l1 l2 l3 l4 : Int32} (R : lw9 L M) : lw_42 L M (F_X11_tell (some 2) l1 l2 l3 l4 M) (F_X12_tell (some 175) l1 l2 l3 l4) := by
  have R8 := R.1
  have G := R8.2
  have hl := lw8_len R8.1.1.1
  refine lw9_act R (S_X11_tell R8.1.1.1.1.1.1 R8.1.1.1.2.1.1.1) (fun M1 H W => S_X12_tell H) (by decide) (by decide) (by decide) (fun e σ nx sz P I rc Rr C h6 hf => ?_)
  have X := C.1.1.2
  have k2 : g_k M 2 = (11, 0) := k_kd G (by decide)
  have V := X.1.1.2.2
  have nn := s_Vn V
  have wh := X.1.2
  have z0 : (0 : Int32).toInt = 0 := rfl
  -- when it is refused
  have no : ¬ ((s_iH σ l2 = true ∧ s_iK σ l1 l3 = true) ∧ hs_is (σ (52 + l1.toNatClampNeg)) l2 = 1) → _ := fun h => lw9_nil (w := -1) (o1 := F_X11_tell (some 2) l1 l2 l3 l4 M) (o2 := F_X12_tell (some 175) l1 l2 l3 l4) C (by
    delta F_X11_tell F_X11_tell_b0 F_X11_tell_b33
    rw [t_gO k2, Option.bind_some, C_isHeirX k2 C.1.1.1 X.1.1, Option.bind_some]
    by_cases q2 : s_iH σ l2 = true
    · rw [if_pos q2, if_neg (by decide), C_isKnownX k2 C.1.1.1 (G_r5 G) X.1.1, Option.bind_some]
      by_cases qk : s_iK σ l1 l3 = true
      · have kk := qk
        unfold s_iK at kk
        simp only [Bool.and_eq_true] at kk
        obtain ⟨a, a1, a2, a3, _⟩ := s_iH_n V kk.1.1
        obtain ⟨o, o1, o2, o3, _⟩ := s_iH_n V q2
        have R4 : g_k M (e + 5) = (20, 7) ∧ M.2.2.2 e 4 = some (e + 5) := k_XR (i := 4) X.1.1 (by decide)
        have cous : M.2.1 (e + 5) a = σ (52 + a) := (X.1.1.2.1.1.2.2.2 a (by omega)).2
        have r := is_01 (a := σ (52 + a)) o1 (by omega)
        have b0 : hs_is (σ (52 + a)) l2 = 0 := by
          rcases r with r | r
          · exact r
          · exact absurd ⟨⟨q2, qk⟩, by rw [a3]; exact r⟩ h
        rw [if_pos qk, if_neg (by decide), t_gR k2 C.1.1.1, Option.bind_some, t_gR X.1.1.1.1.1 R4.2, Option.bind_some, t_aI R4.1 (by omega) (by omega), Option.bind_some, i_cl a1, cous, C_bit, Option.bind_some, if_pos b0]
      · rw [if_neg qk, if_pos rfl]
    · rw [if_neg q2, if_pos rfl]) (fun M1 X1 E1 => by
    delta F_X12_tell F_X12_tell_b0 F_X12_tell_b49
    rw [e_gO X1.1, Option.bind_some, E_isHeirX X1, Option.bind_some]
    by_cases q1 : s_iH σ l1 = true
    · rw [if_pos q1, if_neg (by decide), E_isHeirX X1, Option.bind_some]
      by_cases q2 : s_iH σ l2 = true
      · rw [if_pos q2, if_neg (by decide), E_isThingX X1, Option.bind_some]
        by_cases q3 : s_iT σ l3 = true
        · obtain ⟨a, a1, a2, a3, _⟩ := s_iH_n V q1
          obtain ⟨b, b1, b2, b3, _⟩ := s_iT_n V q3
          have a52 := i_cadd (c := (52 : Int32)) (x := l1) (n := 52) rfl (by omega) (by omega)
          rw [if_pos q3, if_neg (by decide), e_sd X1 (k := 52 + a) (by omega) (by omega)]
          by_cases qb : hs_is (σ (52 + a)) l2 = 1
          · rw [show F_X12_isOf (σ (52 + a)) l2 M1 = some 1 from if_pos qb, Option.bind_some, if_neg (by decide), E_knowsOf X1 a1 b1 (by omega) (by omega), Option.bind_some]
            have nk : ¬ s_kn σ a b = true := fun z => h ⟨⟨q2, by unfold s_iK; rw [q1, q3, a3, b3, z]; rfl⟩, by rw [a3]; exact qb⟩
            rw [if_neg nk, if_pos rfl]
          · rw [show F_X12_isOf (σ (52 + a)) l2 M1 = some 0 from if_neg qb, Option.bind_some, if_pos rfl]
        · rw [if_neg q3, if_pos rfl]
      · rw [if_neg q2, if_pos rfl]
    · rw [if_neg q1, if_pos rfl])
  refine (Classical.em ((s_iH σ l2 = true ∧ s_iK σ l1 l3 = true) ∧ hs_is (σ (52 + l1.toNatClampNeg)) l2 = 1)).elim (fun h => ?_) (fun h => no h)
  clear no
  obtain ⟨⟨q2, qk⟩, qb⟩ := h
  have kk := qk
  unfold s_iK at kk
  simp only [Bool.and_eq_true] at kk
  obtain ⟨⟨q1, q3⟩, kn⟩ := kk
  obtain ⟨a, a1, a2, a3, _⟩ := s_iH_n V q1
  obtain ⟨o, o1, o2, o3, _⟩ := s_iH_n V q2
  obtain ⟨b, b1, b2, b3, _⟩ := s_iT_n V q3
  rw [a3, b3] at kn
  rw [a3] at qb
  have ix := k_ix a1 b1 (by omega) (by omega)
  obtain ⟨lv, hlv⟩ : ∃ lv, lv = decide (l4 ≠ 0) := ⟨_, rfl⟩
  obtain ⟨τ, hτ⟩ : ∃ τ, τ = s_td σ a o b lv := ⟨_, rfl⟩
  have Vτ : s_V τ := by rw [hτ]; exact td_V V a2 (by omega) kn
  have Qτ : s_Q τ := by rw [hτ]; exact td_Q X.2.2
  have lo : ∀ j, j < 59 → τ j = σ j := fun j hj => by rw [hτ]; exact td_lo hj
  have nm := nm_of (σ := σ) (σ' := τ) (fun j hj => lo j (by omega))
  have fr : s_va τ a b = s_va σ a b := by rw [hτ]; exact (td_from (by omega)).1
  have fk : s_kn τ a b = true := (kn_of fr).trans kn
  -- what comes of it
  obtain ⟨goes, hg⟩ : ∃ g : Bool, g = (s_tk σ a o b && (lv && decide (s_va τ a b ≠ τ (10 + 4 * b)))) := ⟨_, rfl⟩
  have tok : s_tk σ a o b = true → s_kn τ o b = true := fun c => by rw [hτ]; exact td_to V a2 (by omega) kn c
  have sp := fun (c : s_tk σ a o b = true) => sp_i (wo := a) Vτ Qτ (by omega) (by omega) (tok c) (hs_m τ) (Nat.le_refl _)
  obtain ⟨w, hw⟩ : ∃ w : Int32, w = (if s_tk σ a o b = true then (if goes = true then (1 : Int32) + Int32.ofNat (s_sp τ o a b (hs_m τ)).2.1 else 1) else 0) := ⟨_, rfl⟩
  obtain ⟨σ', hσ'⟩ : ∃ σ' : Nat → Int32, σ' = (if goes = true then (s_sp τ o a b (hs_m τ)).1 else τ) := ⟨_, rfl⟩
  have gtk : goes = true → s_tk σ a o b = true := fun z => by
    rw [hg] at z
    simp only [Bool.and_eq_true] at z
    exact z.1
  have lo' : σ' 0 = σ 0 := by
    rw [hσ']
    by_cases c : goes = true
    · rw [if_pos c, (sp (gtk c)).1.2.2 0 (by decide)]
      exact lo 0 (by decide)
    · rw [if_neg c]
      exact lo 0 (by decide)
  have Q' : s_Q σ' := by
    rw [hσ']
    by_cases c : goes = true
    · rw [if_pos c]
      exact (sp (gtk c)).1.1.2
    · rw [if_neg c]
      exact Qτ
  refine ⟨w, e, σ', (nx + 1) % 20, s_sz sz, s_kp σ sz P, I, ?_, fun M1 X1 E1 _ _ => ?_⟩
  · have R4 : g_k M (e + 5) = (20, 7) ∧ M.2.2.2 e 4 = some (e + 5) := k_XR (i := 4) X.1.1 (by decide)
    have cous : M.2.1 (e + 5) a = σ (52 + a) := (X.1.1.2.1.1.2.2.2 a (by omega)).2
    delta F_X11_tell F_X11_tell_b0 F_X11_tell_b94
    refine x_gO k2 (x_eq (C_isHeirX k2 C.1.1.1 X.1.1) ?_)
    rw [if_pos q2, if_neg (by decide)]
    refine x_eq (C_isKnownX k2 C.1.1.1 (G_r5 G) X.1.1) ?_
    rw [if_pos qk, if_neg (by decide)]
    refine x_gR k2 C.1.1.1 (x_gR X.1.1.1.1.1 R4.2 (x_aI R4.1 a1 (by omega) cous (x_eq C_bit (Ok_e (by rw [qb]; decide) ?_))))
    refine x_gR k2 (G_r7 G) (x_gR k2 (G_r5 G) (x_gO (G_k19 G) ?_))
    refine Ok_b (C_keep G X C.1.2 hl) (fun M11 z => ?_)
    have C1 := w_C_keep C hl z
    obtain ⟨⟨⟨h1, h2⟩, f1, _⟩, _⟩ := z
    have G1 := k_G_eq G h1 h2
    have hl1 : 197 ≤ M11.1.length := by rw [h1]; exact hl
    have k1 := G_k2 G1
    have X1 := C1.1.1.2
    refine x_gR k1 (G_r5 G1) (x_gO X1.1.1.1.2.1.1 ?_)
    refine Ok_b (C_takes (l4 := l4) X1.1.1 (w_hd wh).1 o1 a1 b1 (by omega) (by omega) (by omega) kn) (fun q z => ?_)
    obtain ⟨v14, M15⟩ := q
    obtain ⟨z1, z2, z3⟩ := z
    dsimp only at z1 z2 z3 ⊢
    subst z1
    rw [← hlv, ← hτ] at z3
    have fin : ∀ {w1 : Int32}, w1 = w → goes = false → w_C M15 e σ' ((nx + 1) % 20) (s_sz sz) (s_kp σ sz P) I rc Rr := fun _ g => by
      rw [hσ', if_neg (by rw [g]; decide)]
      exact w_C_nowF C1 hl1 z2 z3 (lo 0 (by decide)) Qτ
    by_cases tk : s_tk σ a o b = true
    · rw [if_pos tk, if_neg (by decide)]
      by_cases c4 : l4 = 0
      · have gf : goes = false := by rw [hg, hlv, decide_eq_false (fun z => z c4)]; simp
        rw [if_pos c4]
        have ew : (1 : Int32) = w := by rw [hw, if_pos tk, if_neg (by rw [gf]; decide)]
        exact Ok_s ⟨ew, fin ew gf⟩
      · have lt : lv = true := by rw [hlv]; exact decide_eq_true c4
        rw [if_neg c4]
        have G5 := k_G_eq G1 z2.1.1.1 z2.1.2
        have k5 := G_k2 G5
        have r11 : M15.2.2.2 2 11 = some e := by rw [z2.1.2]; exact C1.1.1.1
        obtain ⟨⟨ke, _⟩, ⟨⟨js, j1, j2⟩, j3, j4⟩, ⟨r0, r1⟩, r2, r3⟩ := k_XE z3
        have R0 : g_k M15 (e + 1) = (20, 7) ∧ M15.2.2.2 e 0 = some (e + 1) := k_XR (i := 0) z3 (by decide)
        have so : M15.2.1 (e + 1) b = τ (10 + 4 * b) := (z3.2.1.1.2.2.1 b (by rw [lo 1 (by decide)]; omega)).1.1
        have va := (k_Xst z3 (h := a) (by omega) (t := b) (by omega)).2 fk
        refine x_gR k5 (G_r5 G5) (x_gR js r0 (x_aI j1 ix (by omega) va (x_gR k5 r11 (x_gR ke R0.2 (x_aI R0.1 b1 (by omega) so ?_)))))
        by_cases cs : s_va τ a b = τ (10 + 4 * b)
        · have gf : goes = false := by rw [hg, decide_eq_false (fun z => z cs)]; simp
          rw [if_pos cs]
          have ew : (1 : Int32) = w := by rw [hw, if_pos tk, if_neg (by rw [gf]; decide)]
          exact Ok_s ⟨ew, fin ew gf⟩
        · have gt : goes = true := by rw [hg, tk, lt, decide_eq_true cs]; rfl
          rw [if_neg cs]
          refine x_gC k5 ?_
          delta F_X11_spread F_X11_spread_b0
          refine Ok_b (C_spread G5 r11 wh Vτ Qτ o1 a1 b1 (by omega) (by omega) (by omega) (tok tk) g_fuel 0 (l6 := 0) k_Fs_rf z3 rfl (Nat.zero_le _) (n_fu (by omega))) (fun q y => ?_)
          obtain ⟨v23, M24⟩ := q
          obtain ⟨y1, y2, y3⟩ := y
          dsimp only at y1 y2 y3 ⊢
          refine Ok_s ⟨?_, ?_⟩
          · show (1 : Int32) + v23 = w
            rw [hw, if_pos tk, if_pos gt, y1]
          · refine w_C_nowF C1 hl1 (k_Fs_tr z2 y2) ?_ lo' Q'
            rw [hσ', if_pos gt]
            exact y3
    · have gf : goes = false := by rw [hg, b_ff tk]; rfl
      rw [if_neg tk, if_pos rfl]
      have ew : (0 : Int32) = w := by rw [hw, if_neg tk]
      exact Ok_s ⟨ew, fin ew gf⟩
  · have a52 := i_cadd (c := (52 : Int32)) (x := l1) (n := 52) rfl (by omega) (by omega)
    delta F_X12_tell F_X12_tell_b0
    rw [e_gO X1.1, Option.bind_some, E_isHeirX X1, Option.bind_some, if_pos q1, if_neg (by decide), E_isHeirX X1, Option.bind_some, if_pos q2, if_neg (by decide), E_isThingX X1, Option.bind_some, if_pos q3, if_neg (by decide), e_sd X1 (k := 52 + a) (by omega) (by omega)]
    rw [show F_X12_isOf (σ (52 + a)) l2 M1 = some 1 from if_pos qb, Option.bind_some, if_neg (by decide), E_knowsOf X1 a1 b1 (by omega) (by omega), Option.bind_some, if_pos kn, if_neg (by decide)]
    refine Ok_b (E_keep X1.1 X1.2.1 E1.1.1.2 E1.1.2) (fun M9 z => ?_)
    have E9 := w_E_keep E1 z
    have H9 := z.1.1
    have X9 : e_V M9 σ := ⟨H9, E9.1.1.1, V⟩
    have go : ∀ {y : Int32}, y = (if lv = true then s_st σ a b else s_st σ a b / 2) → Ok (F_X12_tell_b81 (some 175) l1 l2 l3 l4 (some 175) l1 l2 l3 y M9) (fun q => q.1 = w ∧ w_E q.2 σ' (s_sz sz) (s_kp σ sz P) I rc Rr) := by
      intro y hy
      delta F_X12_tell_b81 F_X12_tell_b120 F_X12_tell_b121
      rw [e_gO H9, Option.bind_some]
      refine Ok_b (E_takes (w := lv) X9 a1 o1 b1 (by omega) (by omega) (by omega) kn hy) (fun q z => ?_)
      obtain ⟨v2, M3⟩ := q
      obtain ⟨z1, z2, z3⟩ := z
      dsimp only at z1 z2 z3 ⊢
      subst z1
      rw [← hτ] at z3
      have fin : ∀ {w1 : Int32}, w1 = w → goes = false → w_E M3 σ' (s_sz sz) (s_kp σ sz P) I rc Rr := fun _ g => by
        rw [hσ', if_neg (by rw [g]; decide)]
        exact w_E_r E9 z2 (by decide) z3.2.1
      have one0 : (1 : Int32) + 0 = 1 := by decide
      by_cases tk : s_tk σ a o b = true
      · rw [if_pos tk, if_neg (by decide)]
        by_cases c4 : l4 = 0
        · have gf : goes = false := by rw [hg, hlv, decide_eq_false (fun z => z c4)]; simp
          rw [if_pos c4, one0]
          have ew : (1 : Int32) = w := by rw [hw, if_pos tk, if_neg (by rw [gf]; decide)]
          exact Ok_s ⟨ew, fin ew gf⟩
        · have lt : lv = true := by rw [hlv]; exact decide_eq_true c4
          rw [if_neg c4, e_gO z3.1, Option.bind_some, E_valueOf z3 a1 b1 (by omega) (by omega), Option.bind_some, E_thingOf z3 b1 (w := 0) rfl (by omega) (by decide), Option.bind_some, show 10 + 4 * b + 0 = 10 + 4 * b by omega]
          by_cases cs : s_va τ a b = τ (10 + 4 * b)
          · have gf : goes = false := by rw [hg, decide_eq_false (fun z => z cs)]; simp
            rw [if_pos cs, one0]
            have ew : (1 : Int32) = w := by rw [hw, if_pos tk, if_neg (by rw [gf]; decide)]
            exact Ok_s ⟨ew, fin ew gf⟩
          · have gt : goes = true := by rw [hg, tk, lt, decide_eq_true cs]; rfl
            rw [if_neg cs]
            delta F_X12_goesOn F_X12_goesOn_b0
            refine Ok_b (E_goesOn (M0 := M3) Vτ Qτ o1 a1 b1 (by omega) (by omega) (by omega) (tok tk) g_fuel 0 (l6 := 0) (y_rf0 _ _) z3 rfl (Nat.zero_le _) (n_fu (by omega))) (fun q y => ?_)
            obtain ⟨v7, M8⟩ := q
            obtain ⟨y1, y2, y3⟩ := y
            dsimp only at y1 y2 y3 ⊢
            refine Ok_s ⟨?_, ?_⟩
            · show (1 : Int32) + v7 = w
              rw [hw, if_pos tk, if_pos gt, y1]
            · rw [hσ', if_pos gt]
              exact w_E_r E9 (y_tr z2 y2) (by decide) y3.2.1
      · have gf : goes = false := by rw [hg, b_ff tk]; rfl
        rw [if_neg tk, if_pos rfl]
        have ew : (0 : Int32) = w := by rw [hw, if_neg tk]
        exact Ok_s ⟨ew, fin ew gf⟩
    by_cases c4 : l4 = 0
    · have lf : lv = false := by rw [hlv]; exact decide_eq_false (fun z => z c4)
      rw [if_pos c4, e_gC H9, Option.bind_some, E_strengthOf X9 a1 b1 (by omega) (by omega), Option.bind_some]
      exact go (by rw [lf]; rfl)
    · have lt : lv = true := by rw [hlv]; exact decide_eq_true c4
      rw [if_neg c4, e_gC H9, Option.bind_some, E_strengthOf X9 a1 b1 (by omega) (by omega), Option.bind_some]
      exact go (by rw [lt]; rfl)
/-! UNDO -/
def s_un (σ ρ : Nat → Int32) : Nat → Int32 := fun j => if j < 157 then ρ j else σ j
theorem E_undo_go {M0 M : gM} {σ : Nat → Int32} {sz : Nat} {P I : Nat → Nat → Int32} {rc : Nat} {Rr : Nat → List (Nat × Int32) × List (Nat × Nat × Nat)} {w : Int32} (H : y_HT M) (E : w_E M σ sz P I rc Rr) (hw : w.toInt = (sz : Int)) (hs : sz < 20) (hP : ∀ j, j < 157 → M.2.1 187 (157 * sz + j) = P sz j) : Ok (F_X12_undo_L21 g_fuel (some 175) (0 : Int32) M) (fun q => q.1 = w ∧ w_E q.2 (s_un σ (P sz)) sz P I rc Rr) := by
  have z157 : (157 : Int32).toInt = 157 := rfl
  have hz := E.1.1.2
  refine e_cp (di := 185) (si := 187) (db := 0) (sb := 157 * sz) (S := 2 ^ 50) (G := fun n l M => F_X12_undo_L21 n (some 175) l M) (E := fun M => (gI 12 M (some 175) 25).bind fun v1 => some (v1, M)) (M0 := M) ⟨by decide, by decide⟩ (by decide) (by decide) (fun q => by rw [y_c185 (by decide), y_c185 (by decide)]) (fun M1 k H1 hk => ?_) (fun n l k M1 hl hk H1 o => ?_) (fun n l M1 hl => ?_) (fun M1 H1 f1 o1 ol c1 r1 => ?_) g_fuel 0 (l := 0) H (y_rf0 _ _) (fun _ _ => rfl) rfl (fun j hj => absurd hj (Nat.not_lt_zero _)) (fun _ _ => rfl) rfl (Nat.zero_le _) (n_fu (by omega))
  · rw [Nat.zero_add, ← y_t187 sz k hk]
    exact H1.2.1 187 (by decide) _
  · show F_X12_undo_b21 (F_X12_undo_L21 n) (some 175) l M1 = _
    delta F_X12_undo_b21
    have hz1 : (M1.2.1 175 25).toInt = (sz : Int) := by rw [o 175 (by decide)]; exact hz
    have a1 := i_mulL (c := (157 : Int32)) (x := M1.2.1 175 25) (n := 157) rfl (by omega) (by omega)
    have a2 := i_add (x := (157 : Int32) * M1.2.1 175 25) (y := l) (by omega) (by omega)
    have a3 : ((157 : Int32) * M1.2.1 175 25 + l).toNatClampNeg = 157 * sz + k := i_cl (by omega)
    rw [if_neg (fun z => by have := i_le z; omega), e_gR H1 (w := 185) rfl (by decide), Option.bind_some, e_gR H1 (w := 187) rfl (by decide), Option.bind_some, e_gI H1, Option.bind_some, e_aI H1 (t := 20) (i := 187) (n := 3140) rfl (by decide) (by omega) (by omega), Option.bind_some, a3, e_sI H1 (i := 185) (n := 157) rfl (by omega) (by omega), Option.bind_some, i_cl hl, Nat.zero_add]
  · show F_X12_undo_b21 (F_X12_undo_L21 n) (some 175) l M1 = _
    delta F_X12_undo_b21
    rw [if_pos (Int32.le_iff_toInt_le.mpr (by omega))]
  · rw [e_gI H1, Option.bind_some]
    refine Ok_s ⟨?_, w_E_r E f1 (by decide) ?_⟩
    · show M1.2.1 175 25 = w
      rw [o1 175 (by decide)]
      exact Int32.toInt_inj.mp (by omega)
    · funext j
      show M1.2.1 185 j = if j < 157 then P sz j else σ j
      by_cases c : j < 157
      · have := c1 j c
        rw [Nat.zero_add] at this
        rw [if_pos c, this, hP j c]
      · rw [if_neg c, r1 j (by omega), E.1.1.1]
theorem lw9_undo {L : Nat} {M : gM} (R : lw9 L M) : lw_42 L M (F_X11_undo (some 2) M) (F_X12_undo (some 175)) := by
  have R8 := R.1
  have G := R8.2
  have hl := lw8_len R8.1.1.1
  refine lw9_act R (S_X11_undo R8.1.1.1.1.1.1 R8.1.1.1.2.1.1.1) (fun M1 H W => S_X12_undo H) (by decide) (by decide) (by decide) (fun e σ nx sz P I rc Rr C h6 hf => ?_)
  have X := C.1.1.2
  have k2 : g_k M 2 = (11, 0) := k_kd G (by decide)
  have V := X.1.1.2.2
  have wh := X.1.2
  have k19 := G_k19 G
  have k20 : g_k M 20 = (24, 20) := k_kd G (by decide)
  obtain ⟨⟨⟨c1, c2⟩, cn, cs⟩, cP⟩ := C.1.2
  have z0 : (0 : Int32).toInt = 0 := rfl
  by_cases h : sz = 0
  · have e2 : M.2.1 19 2 = 0 := Int32.toInt_inj.mp (by omega)
    refine lw9_nil C (w := -1) ?_ (fun M1 X1 E1 => ?_)
    · delta F_X11_undo F_X11_undo_b0 F_X4_giveBack F_X4_giveBack_b0
      rw [t_gR k2 (G_r7 G), Option.bind_some, t_gR k2 (G_r5 G), Option.bind_some, t_gO k19, Option.bind_some, t_gI k19, Option.bind_some, if_pos e2, Option.bind_some]
      dsimp only
      rw [if_pos rfl]
    · have e25 : M1.2.1 175 25 = 0 := Int32.toInt_inj.mp (by have := E1.1.1.2; omega)
      delta F_X12_undo F_X12_undo_b0
      rw [e_gI X1.1, Option.bind_some, if_pos e25]
  · obtain ⟨n, rfl⟩ : ∃ n, sz = n + 1 := ⟨sz - 1, by omega⟩
    have on : (Int32.ofNat n).toInt = (n : Int) := i_ofNat (by omega)
    refine ⟨Int32.ofNat n, e, s_un σ (P n), (nx + 19) % 20, n, P, I, ?_, fun M1 X1 E1 _ _ => ?_⟩
    · have Xn := cP n (by omega)
      rw [show (nx + 20 - (n + 1) + n) % 20 = (nx + 19) % 20 by omega] at Xn
      have un : (nx + 19) % 20 < 20 := by omega
      have L := k_LS_of G (k_st20 un)
      have a2 := i_subc (x := M.2.1 19 2) (c := (1 : Int32)) (n := 1) rfl (by omega) (by omega)
      have b1 := i_addc (x := M.2.1 19 1) (c := (20 : Int32)) (n := 20) rfl (by omega) (by omega)
      have b2 := i_subc (x := M.2.1 19 1 + (20 : Int32)) (c := (1 : Int32)) (n := 1) rfl (by omega) (by omega)
      have b3 := n_mod (x := M.2.1 19 1 + (20 : Int32) - (1 : Int32)) (k := nx + 19) (by omega)
      have n2 : M.2.1 19 2 - (1 : Int32) = Int32.ofNat n := Int32.toInt_inj.mp (by omega)
      delta F_X11_undo F_X11_undo_b0 F_X4_giveBack F_X4_giveBack_b0
      rw [t_gR k2 (G_r7 G), Option.bind_some, t_gR k2 (G_r5 G), Option.bind_some, t_gO k19, Option.bind_some, t_gI k19, Option.bind_some, if_neg (fun z => by rw [z] at c2; omega), Option.bind_some, t_pI k19, Option.bind_some]
      rw [n2]
      obtain ⟨M3, e3⟩ : ∃ M3, M3 = mI M 19 2 (Int32.ofNat n) := ⟨_, rfl⟩
      rw [← e3]
      have k3 : g_k M3 19 = (4, 0) := by rw [e3]; exact k19
      rw [t_gI k3, Option.bind_some, t_pI k3, Option.bind_some, show M3.2.1 19 1 = M.2.1 19 1 by rw [e3]; exact mI_ne (Or.inr (by decide))]
      obtain ⟨M5, e5⟩ : ∃ M5, M5 = mI M3 19 1 (M.2.1 19 1 + (20 : Int32) - (1 : Int32) - (M.2.1 19 1 + (20 : Int32) - (1 : Int32)) / (20 : Int32) * (20 : Int32)) := ⟨_, rfl⟩
      rw [← e5]
      have F5 : w_F (fun i => i = 19) M M5 := by
        rw [e5]
        refine w_F_t ?_ (w_F_mI rfl)
        rw [e3]
        exact w_F_mI rfl
      have g5 : M5.1 = M.1 := by rw [e5, e3]; rfl
      have r5 : M5.2.2.2 = M.2.2.2 := by rw [e5, e3]; rfl
      have G5 := k_G_eq G g5 r5
      have k5 := G_k19 G5
      have i1 : (M5.2.1 19 1).toInt = (((nx + 19) % 20 : Nat) : Int) := by rw [e5, y_mI1]; exact b3
      have i2 : (M5.2.1 19 2).toInt = (n : Int) := by rw [e5, mI_ne (Or.inr (by decide)), e3, y_mI1]; exact on
      have C5 : w_C M5 e σ ((nx + 19) % 20) n P I rc Rr := by
        have X5 : ∀ {s : Nat} {ρ : Nat → Int32}, s ≠ 19 → (19 < s ∨ s + 4 < 19) → w_X M s e ρ → w_X M5 s e ρ := fun h1 h2 x => w_X_F x F5 (fun j a b z => by omega) (fun j a b z => by unfold w_h at wh; omega)
        refine ⟨⟨⟨by rw [r5]; exact C.1.1.1, X5 (by decide) (by decide) X⟩, ⟨⟨i1, i2⟩, un, by omega⟩, fun i hi => X5 (by omega) (by omega) ?_⟩, w_Ci_F C.2.1 hl F5 (fun i z => by omega), w_Cr_F C.2.2 hl F5 (by rw [(w_FN F5 hl (by decide)).1]) (fun i z => by omega)⟩
        have := cP i (by omega)
        rw [show (nx + 20 - (n + 1) + i) % 20 = ((nx + 19) % 20 + 20 - n + i) % 20 by omega] at this
        exact this
      have hl5 : 197 ≤ M5.1.length := by rw [g5]; exact hl
      have Xn5 : w_X M5 (21 + 5 * ((nx + 19) % 20)) e (P n) := w_X_F Xn F5 (fun j a b z => by omega) (fun j a b z => by unfold w_h at wh; omega)
      have k50 : g_k M5 20 = (24, 20) := k_kd G5 (by decide)
      rw [t_gR k5 (G_r19 G5), Option.bind_some, t_gI k5, Option.bind_some, t_aR (w := some (21 + 5 * ((nx + 19) % 20))) k50 (by omega) (by omega) (by rw [i_cl i1]; exact k_ref20 G5 un), Option.bind_some, t_gO (C5.1.1.2.1.1.1.2.1.1), Option.bind_some]
      obtain ⟨M10, e10, f10, X10⟩ := C_copyX (k_LS_of G5 (s := 9) (by decide)) Xn5 (by omega) (fun i h1 h2 => by unfold w_h at wh; omega)
      rw [e10, Option.bind_some, Option.bind_some]
      dsimp only
      have F10 := w_F_Fs f10
      have G10 := k_G_eq G5 f10.1.1.1 f10.1.2
      rw [if_neg (by decide), t_gR (G_k2 G10) (G_r7 G10), Option.bind_some, t_gI (G_k19 G10), Option.bind_some]
      refine Ok_s ⟨?_, w_C_now C5 hl5 F10 (by rw [f10.1.2]) (by rw [f10.2 2 (by omega)]) (fun i z => by omega) (w_X_congr X10 (fun j hj => if_pos hj))⟩
      show M10.2.1 19 2 = Int32.ofNat n
      rw [f10.2 19 (by omega)]
      exact Int32.toInt_inj.mp (by omega)
    · have z2 := E1.1.1.2
      have s1 := i_subc (x := M1.2.1 175 25) (c := (1 : Int32)) (n := 1) rfl (by omega) (by omega)
      have n2 : M1.2.1 175 25 - (1 : Int32) = Int32.ofNat n := Int32.toInt_inj.mp (by omega)
      delta F_X12_undo F_X12_undo_b0
      rw [e_gI X1.1, Option.bind_some, if_neg (fun z => by rw [z] at z2; omega), Option.bind_some, e_pI X1.1, Option.bind_some, n2]
      obtain ⟨H3, f3⟩ := y_set (M' := mI M1 175 25 (Int32.ofNat n)) (S := 2 ^ 25) X1.1 (i := 175) (k := 25) (by decide) rfl rfl y_mI1 (fun j a hj => y_mI2 hj) rfl (y_in (lo := 0) (hi := 20) rfl (by omega)) (by decide)
      have o3 : ∀ i, i ≠ 175 → (mI M1 175 25 (Int32.ofNat n)).2.1 i = M1.2.1 i := fun i hi => funext (fun q => mI_ne (Or.inl hi))
      have E3 : w_E (mI M1 175 25 (Int32.ofNat n)) σ n P I rc Rr := by
        obtain ⟨⟨⟨a1, a2⟩, a3⟩, a4, a5, a6⟩ := E1
        refine ⟨⟨⟨(o3 185 (by decide)).trans a1, by rw [y_mI1]; exact on⟩, fun i hi j hj => ?_⟩, fun k hk j hj => ?_, by rw [mI_ne (Or.inr (by decide))]; exact a5, fun t ht => r_rl_m (a6 t ht) f3 (by decide)⟩
        · rw [o3 187 (by decide)]
          exact a3 i (by omega) j hj
        · rw [o3 193 (by decide)]
          exact a4 k hk j hj
      exact E_undo_go (M0 := M1) H3 E3 on (by omega) (fun j hj => by rw [o3 187 (by decide)]; exact E1.1.2 n (by omega) j hj)
