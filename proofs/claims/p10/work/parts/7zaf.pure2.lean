/-! thing, knows, count of both -/
theorem lw9_thing {L : Nat} {M : gM} {l1 l2 : Int32} (R : lw9 L M) : ∃ w, F_X11_thing (some 2) l1 l2 M = some w ∧ F_X12_thing (some 175) l1 l2 M = some w := by
  have G := R.1.2
  have k2 := G_k2 G
  refine lw9_look R (fun e σ r11 X Y => ?_)
  have V := Y.2.2
  obtain ⟨⟨ke, ⟨e6, e7⟩, e9, e10⟩, ⟨⟨ks, _⟩, k3, k4⟩, ⟨r0, r1⟩, r2, r3⟩ := k_XE X.1.1
  by_cases kT : s_iT σ l1 = true
  · obtain ⟨a, a1, a2, a3, _⟩ := s_iT_n V kT
    have nn := s_Vn V
    have R0 : g_k M (e + 1) = (20, 7) ∧ M.2.2.2 e 0 = some (e + 1) := k_XR (i := 0) X.1.1 (by decide)
    have R1 : g_k M (e + 2) = (20, 7) ∧ M.2.2.2 e 1 = some (e + 2) := k_XR (i := 1) X.1.1 (by decide)
    have R2 : g_k M (e + 3) = (20, 7) ∧ M.2.2.2 e 2 = some (e + 3) := k_XR (i := 2) X.1.1 (by decide)
    have E3 := X.1.1.2.1.1.2.2.1 a (by omega)
    have st : M.2.1 (9 + 4) a = σ (13 + 4 * a) := X.1.1.2.1.2.2.2 a (by omega)
    have v8 : M.2.1 9 4 = σ 8 := X.1.1.2.1.2.1.1.1
    have c1 : ∀ {w : Int32}, (if l2 = (0 : Int32) then ((gR 11 M (some 2) 11).bind fun v3 => (gR 1 M v3 0).bind fun v4 => (aI 20 M v4 l1).bind fun v5 => some v5) else if l2 = (1 : Int32) then ((gR 11 M (some 2) 11).bind fun v6 => (gR 1 M v6 1).bind fun v7 => (aI 20 M v7 l1).bind fun v8 => some v8) else if l2 = (2 : Int32) then ((gR 11 M (some 2) 11).bind fun v9 => (gR 1 M v9 2).bind fun v10 => (aI 20 M v10 l1).bind fun v11 => some v11) else if l2 = (3 : Int32) then ((gR 11 M (some 2) 11).bind fun v12 => (gI 1 M v12 9).bind fun v13 => (F_X11_bit v13 l1 M).bind fun v14 => some v14) else if l2 = (4 : Int32) then ((gR 11 M (some 2) 5).bind fun v15 => (gI 8 M v15 4).bind fun v16 => (F_X11_bit v16 l1 M).bind fun v17 => some v17) else if l2 = (5 : Int32) then ((gR 11 M (some 2) 5).bind fun v18 => (gR 8 M v18 3).bind fun v19 => (aI 20 M v19 l1).bind fun v20 => some v20) else if l2 = (6 : Int32) then ((gR 11 M (some 2) 5).bind fun v21 => (gR 11 M (some 2) 11).bind fun v22 => (gO 8 M v21).bind fun i23 => (F_X8_holdersOf (some i23) v22 l1 M).bind fun v24 => some v24) else (some (-2 : Int32))) = some w → F_X11_thing (some 2) l1 l2 M = some w := fun h => by
      delta F_X11_thing F_X11_thing_b0
      rw [t_gO k2, Option.bind_some, C_isThingX k2 r11 X.1.1, Option.bind_some, if_pos kT, if_neg (by decide)]
      exact h
    have d1 : ∀ {w : Int32}, (if 0 ≤ l2.toInt ∧ l2.toInt ≤ 6 then (if (3 : Int32) ≤ l2 then (if l2 = (3 : Int32) then (some (hs_is (σ 7) l1)) else (if l2 = (4 : Int32) then (some (hs_is (σ 8) l1)) else (if l2 = (5 : Int32) then (some (σ (10 + 4 * a + 3))) else (some (s_hs σ a))))) else ((F_X12_thingOf (some 175) l1 l2 M).bind fun v10 => some v10)) else some (-2)) = some w → F_X12_thing (some 175) l1 l2 M = some w := fun h => by
      delta F_X12_thing F_X12_thing_b0 F_X12_thing_b20
      rw [e_gO Y.1, Option.bind_some, E_isThingX Y, Option.bind_some, if_pos kT, if_neg (by decide), E_in (a := 0) (b := 6) rfl rfl, Option.bind_some]
      by_cases c : 0 ≤ l2.toInt ∧ l2.toInt ≤ 6
      · rw [if_pos c] at h
        rw [if_pos c, if_neg (by decide), e_sd Y (k := 7) rfl (by decide), e_sd Y (k := 8) rfl (by decide), E_holdersOf Y a1 (by omega), Option.bind_some, E_thingOf Y a1 (w := 3) rfl (by omega) (by decide), Option.bind_some]
        exact h
      · rw [if_neg c] at h
        rw [if_neg c, if_pos rfl]
        exact h
    by_cases b0 : l2 = 0
    · subst b0
      refine ⟨σ (10 + 4 * a), c1 ?_, d1 ?_⟩
      · rw [if_pos rfl, t_gR k2 r11, Option.bind_some, t_gR ke R0.2, Option.bind_some, t_aI R0.1 (by omega) (by omega), Option.bind_some, a3, E3.1.1]
      · rw [if_pos (by decide), if_neg (by decide), E_thingOf Y a1 (w := 0) rfl (by omega) (by decide), Option.bind_some]
        rfl
    by_cases b1 : l2 = 1
    · subst b1
      refine ⟨σ (11 + 4 * a), c1 ?_, d1 ?_⟩
      · rw [if_neg (by decide), if_pos rfl, t_gR k2 r11, Option.bind_some, t_gR ke R1.2, Option.bind_some, t_aI R1.1 (by omega) (by omega), Option.bind_some, a3, E3.1.2]
      · rw [if_pos (by decide), if_neg (by decide), E_thingOf Y a1 (w := 1) rfl (by omega) (by decide), Option.bind_some, show 10 + 4 * a + 1 = 11 + 4 * a by omega]
    by_cases b2 : l2 = 2
    · subst b2
      refine ⟨σ (12 + 4 * a), c1 ?_, d1 ?_⟩
      · rw [if_neg (by decide), if_neg (by decide), if_pos rfl, t_gR k2 r11, Option.bind_some, t_gR ke R2.2, Option.bind_some, t_aI R2.1 (by omega) (by omega), Option.bind_some, a3, E3.2]
      · rw [if_pos (by decide), if_neg (by decide), E_thingOf Y a1 (w := 2) rfl (by omega) (by decide), Option.bind_some, show 10 + 4 * a + 2 = 12 + 4 * a by omega]
    by_cases b3 : l2 = 3
    · subst b3
      refine ⟨hs_is (σ 7) l1, c1 ?_, d1 rfl⟩
      rw [if_neg (by decide), if_neg (by decide), if_neg (by decide), if_pos rfl, t_gR k2 r11, Option.bind_some, t_gI ke, Option.bind_some, e9]
      rfl
    by_cases b4 : l2 = 4
    · subst b4
      refine ⟨hs_is (σ 8) l1, c1 ?_, d1 rfl⟩
      rw [if_neg (by decide), if_neg (by decide), if_neg (by decide), if_neg (by decide), if_pos rfl, t_gR k2 (G_r5 G), Option.bind_some, t_gI ks, Option.bind_some, v8]
      rfl
    by_cases b5 : l2 = 5
    · subst b5
      refine ⟨σ (13 + 4 * a), c1 ?_, d1 ?_⟩
      · rw [if_neg (by decide), if_neg (by decide), if_neg (by decide), if_neg (by decide), if_neg (by decide), if_pos rfl, t_gR k2 (G_r5 G), Option.bind_some, t_gR ks r3, Option.bind_some, t_aI k4 (by omega) (by omega), Option.bind_some, a3, st]
      · rw [show 13 + 4 * a = 10 + 4 * a + 3 by omega]
        rfl
    by_cases b6 : l2 = 6
    · subst b6
      refine ⟨s_hs σ a, c1 ?_, d1 rfl⟩
      rw [if_neg (by decide), if_neg (by decide), if_neg (by decide), if_neg (by decide), if_neg (by decide), if_neg (by decide), if_pos rfl, t_gR k2 (G_r5 G), Option.bind_some, t_gR k2 r11, Option.bind_some, t_gO ks, Option.bind_some, C_holdersOf X.1.1 a1 (by omega), Option.bind_some]
    · have ne : ∀ {k : Int32}, l2 ≠ k → l2.toInt ≠ k.toInt := fun h z => h (Int32.toInt_inj.mp z)
      have q0 := ne b0
      have q1 := ne b1
      have q2 := ne b2
      have q3 := ne b3
      have q4 := ne b4
      have q5 := ne b5
      have q6 := ne b6
      have v0 : (0 : Int32).toInt = 0 := rfl
      have v1 : (1 : Int32).toInt = 1 := rfl
      have v2 : (2 : Int32).toInt = 2 := rfl
      have v3 : (3 : Int32).toInt = 3 := rfl
      have v4 : (4 : Int32).toInt = 4 := rfl
      have v5 : (5 : Int32).toInt = 5 := rfl
      have v6 : (6 : Int32).toInt = 6 := rfl
      refine ⟨-2, c1 ?_, d1 ?_⟩
      · rw [if_neg b0, if_neg b1, if_neg b2, if_neg b3, if_neg b4, if_neg b5, if_neg b6]
      · rw [if_neg (by omega)]
  · refine ⟨-2, ?_, ?_⟩
    · delta F_X11_thing F_X11_thing_b0
      rw [t_gO k2, Option.bind_some, C_isThingX k2 r11 X.1.1, Option.bind_some, if_neg kT, if_pos rfl]
    · delta F_X12_thing F_X12_thing_b0 F_X12_thing_b20
      rw [e_gO Y.1, Option.bind_some, E_isThingX Y, Option.bind_some, if_neg kT, if_pos rfl]
theorem lw9_knows {L : Nat} {M : gM} {l1 l2 l3 : Int32} (R : lw9 L M) : ∃ w, F_X11_knows (some 2) l1 l2 l3 M = some w ∧ F_X12_knows (some 175) l1 l2 l3 M = some w := by
  have G := R.1.2
  have k2 := G_k2 G
  refine lw9_look R (fun e σ r11 X Y => ?_)
  have V := Y.2.2
  obtain ⟨_, ⟨⟨ks, j1, j2⟩, _⟩, ⟨r0, r1⟩, _⟩ := k_XE X.1.1
  have z0 : (0 : Int32).toInt = 0 := rfl
  have z1 : (1 : Int32).toInt = 1 := rfl
  by_cases kH : s_iH σ l1 = true
  · by_cases kT : s_iT σ l2 = true
    · obtain ⟨a, a1, a2, a3, _⟩ := s_iH_n V kH
      obtain ⟨b, b1, b2, b3, _⟩ := s_iT_n V kT
      have nn := s_Vn V
      have ix := k_ix a1 b1 (by omega) (by omega)
      have iy := E_ix a1 b1 (by omega) (by omega)
      have st := k_Xst X.1.1 a2 (t := b) (by omega)
      have kp := (k_Xpos X.1.1 a2 (t := b) (by omega)).2
      by_cases c : 0 ≤ l3.toInt ∧ l3.toInt ≤ 1
      · refine ⟨if l3 = 0 then s_va σ a b else s_st σ a b, ?_, ?_⟩
        · delta F_X11_knows F_X11_knows_b0
          rw [t_gO k2, Option.bind_some, C_isHeirX k2 r11 X.1.1, Option.bind_some, if_pos kH, if_neg (by decide), C_isThingX k2 r11 X.1.1, Option.bind_some, if_pos kT, if_neg (by decide), if_neg (fun z => by have := i_lt z; omega), if_pos (Int32.le_iff_toInt_le.mpr (by omega)), t_gR k2 (G_r5 G), Option.bind_some, t_gR ks r1, Option.bind_some, t_aI j2 (by omega) (by omega), Option.bind_some, i_cl ix, st.1]
          by_cases k : s_kn σ a b = true
          · have v0 := st.2 k
            rw [if_neg (fun z => by rw [kp.mp z] at k; cases k)]
            by_cases d : l3 = 0
            · rw [if_pos d, if_pos d, Option.bind_some, t_gR ks r0, Option.bind_some, t_aI j1 (by omega) (by omega), Option.bind_some, i_cl ix, v0]
            · rw [if_neg d, if_neg d, Option.bind_some, t_gR ks r1, Option.bind_some, t_aI j2 (by omega) (by omega), Option.bind_some, i_cl ix, st.1]
          · have k0 := s_kn0 V a2 (t := b) (by omega) (b_ff k)
            rw [if_pos (kp.mpr (b_ff k)), k0.1, k0.2]
            by_cases d : l3 = 0
            · rw [if_pos d, if_pos d]
            · rw [if_neg d, if_neg d]
        · delta F_X12_knows F_X12_knows_b0
          rw [e_gO Y.1, Option.bind_some, E_isHeirX Y, Option.bind_some, if_pos kH, if_neg (by decide), E_isThingX Y, Option.bind_some, if_pos kT, if_neg (by decide), E_in (a := 0) (b := 1) rfl rfl, Option.bind_some, if_pos c, if_neg (by decide)]
          by_cases d : l3 = 0
          · subst d
            rw [if_pos rfl, e_sd Y (k := 59 + 14 * a + 2 * b) (by rw [Int32.add_zero]; exact iy.1) (by omega)]
            rfl
          · have : l3.toInt ≠ 0 := fun z => d (Int32.toInt_inj.mp z)
            have d1 : l3 = 1 := Int32.toInt_inj.mp (by omega)
            subst d1
            rw [if_neg (by decide), e_sd Y (k := 60 + 14 * a + 2 * b) iy.2 (by omega)]
            rfl
      · refine ⟨-2, ?_, ?_⟩
        · delta F_X11_knows F_X11_knows_b0 F_X11_knows_b25
          rw [t_gO k2, Option.bind_some, C_isHeirX k2 r11 X.1.1, Option.bind_some, if_pos kH, if_neg (by decide), C_isThingX k2 r11 X.1.1, Option.bind_some, if_pos kT, if_neg (by decide)]
          by_cases d : l3 < 0
          · rw [if_pos d]
          · have := i_nlt d
            rw [if_neg d, if_neg (fun z => by have := i_le z; omega)]
        · delta F_X12_knows F_X12_knows_b0 F_X12_knows_b47
          rw [e_gO Y.1, Option.bind_some, E_isHeirX Y, Option.bind_some, if_pos kH, if_neg (by decide), E_isThingX Y, Option.bind_some, if_pos kT, if_neg (by decide), E_in (a := 0) (b := 1) rfl rfl, Option.bind_some, if_neg c, if_pos rfl]
    · refine ⟨-2, ?_, ?_⟩
      · delta F_X11_knows F_X11_knows_b0 F_X11_knows_b25
        rw [t_gO k2, Option.bind_some, C_isHeirX k2 r11 X.1.1, Option.bind_some, if_pos kH, if_neg (by decide), C_isThingX k2 r11 X.1.1, Option.bind_some, if_neg kT, if_pos rfl]
      · delta F_X12_knows F_X12_knows_b0 F_X12_knows_b47
        rw [e_gO Y.1, Option.bind_some, E_isHeirX Y, Option.bind_some, if_pos kH, if_neg (by decide), E_isThingX Y, Option.bind_some, if_neg kT, if_pos rfl]
  · refine ⟨-2, ?_, ?_⟩
    · delta F_X11_knows F_X11_knows_b0 F_X11_knows_b25
      rw [t_gO k2, Option.bind_some, C_isHeirX k2 r11 X.1.1, Option.bind_some, if_neg kH, if_pos rfl]
    · delta F_X12_knows F_X12_knows_b0 F_X12_knows_b47
      rw [e_gO Y.1, Option.bind_some, E_isHeirX Y, Option.bind_some, if_neg kH, if_pos rfl]
theorem lw9_count {L : Nat} {M : gM} {l1 : Int32} (R : lw9 L M) : ∃ w, F_X11_count (some 2) l1 M = some w ∧ F_X12_count (some 175) l1 M = some w := by
  obtain ⟨R8, e, σ, nx, sz, P, I, rc, Rr, C, E⟩ := R
  have G := R8.2
  have k2 := G_k2 G
  have r11 := C.1.1.1
  have X := C.1.1.2
  have H := R8.1.1.1.1.1.2
  have Y : e_V M σ := ⟨H, E.1.1.1, X.1.1.2.2⟩
  obtain ⟨⟨ke, ⟨e6, e7⟩, _⟩, ⟨⟨ks, _⟩, _⟩, _⟩ := k_XE X.1.1
  have e8 : M.2.1 e 8 = σ 3 := X.1.1.2.1.1.1.2
  have S1 := X.1.1.2.1.2.1
  have k131 : g_k M 131 = (9, 0) := k_kd G (by decide)
  have t1 : M.2.1 131 6 = M.2.1 175 1 := R8.1.1.2.1.2
  have t2 : M.2.1 2 12 = M.2.1 175 2 := R8.1.1.2.2.1
  have t3 := R8.1.2.1
  have sd : ∀ {k : Nat} {j : Int32} {β : Type} {f : Int32 → Option β}, j.toInt = (k : Int) → k < 157 → ((gR 12 M (some 175) 20).bind fun v => (aI 20 M v j).bind f) = f (σ k) := fun hj hk => e_sd Y hj hk
  delta F_X11_count F_X11_count_b0 F_X12_count F_X12_count_b0 F_X12_count_b64
  by_cases b0 : l1 = 0
  · subst b0
    rw [if_pos rfl, if_pos rfl, t_gR k2 r11, Option.bind_some, t_gI ke, Option.bind_some, e6, sd (k := 1) rfl (by decide)]
    exact ⟨_, rfl, rfl⟩
  rw [if_neg b0, if_neg b0]
  by_cases b1 : l1 = 1
  · subst b1
    rw [if_pos rfl, if_pos rfl, t_gR k2 r11, Option.bind_some, t_gI ke, Option.bind_some, e7, sd (k := 2) rfl (by decide)]
    exact ⟨_, rfl, rfl⟩
  rw [if_neg b1, if_neg b1]
  by_cases b2 : l1 = 2
  · subst b2
    rw [if_pos rfl, if_pos rfl, t_gR k2 r11, Option.bind_some, t_gI ke, Option.bind_some, e8, sd (k := 3) rfl (by decide)]
    exact ⟨_, rfl, rfl⟩
  rw [if_neg b2, if_neg b2]
  by_cases b3 : l1 = 3
  · rw [if_pos b3, if_pos b3, t_gI k2, Option.bind_some, e_gI H, Option.bind_some, t2]
    exact ⟨_, rfl, rfl⟩
  rw [if_neg b3, if_neg b3]
  by_cases b4 : l1 = 4
  · rw [if_pos b4, if_pos b4, t_gI k2, Option.bind_some, e_gI H, Option.bind_some, t3.1]
    exact ⟨_, rfl, rfl⟩
  rw [if_neg b4, if_neg b4]
  by_cases b5 : l1 = 5
  · rw [if_pos b5, if_pos b5, t_gR k2 (G_r5 G), Option.bind_some, t_gI ks, Option.bind_some, S1.1.2, sd (k := 4) rfl (by decide)]
    exact ⟨_, rfl, rfl⟩
  rw [if_neg b5, if_neg b5]
  by_cases b6 : l1 = 6
  · rw [if_pos b6, if_pos b6, t_gR k2 (G_r5 G), Option.bind_some, t_gI ks, Option.bind_some, S1.2, sd (k := 5) rfl (by decide)]
    exact ⟨_, rfl, rfl⟩
  rw [if_neg b6, if_neg b6]
  by_cases b7 : l1 = 7
  · rw [if_pos b7, if_pos b7, t_gR k2 (G_r5 G), Option.bind_some, t_gR k2 r11, Option.bind_some, t_gO ks, Option.bind_some, C_standing X.1.1, Option.bind_some, e_gO H, Option.bind_some, E_standing Y, Option.bind_some]
    exact ⟨_, rfl, rfl⟩
  rw [if_neg b7, if_neg b7]
  by_cases b8 : l1 = 8
  · rw [if_pos b8, if_pos b8, t_gR k2 (G_r5 G), Option.bind_some, t_gR k2 r11, Option.bind_some, t_gO ks, Option.bind_some, C_heldTogether X.1.1, Option.bind_some, e_gO H, Option.bind_some, E_allHolds Y, Option.bind_some]
    exact ⟨_, rfl, rfl⟩
  rw [if_neg b8, if_neg b8]
  by_cases b9 : l1 = 9
  · have eq : M.2.1 19 2 = M.2.1 175 25 := Int32.toInt_inj.mp (C.1.2.1.1.2.trans E.1.1.2.symm)
    rw [if_pos b9, if_pos b9, t_gR k2 (G_r7 G), Option.bind_some, t_gI (G_k19 G), Option.bind_some, e_gI H, Option.bind_some, eq]
    exact ⟨_, rfl, rfl⟩
  rw [if_neg b9, if_neg b9]
  by_cases b10 : l1 = 10
  · rw [if_pos b10, if_pos b10, t_gI k2, Option.bind_some, e_gI H, Option.bind_some, t3.2]
    exact ⟨_, rfl, rfl⟩
  rw [if_neg b10, if_neg b10]
  by_cases b11 : l1 = 11
  · rw [if_pos b11, if_pos b11, t_gR k2 (G_r0 G), Option.bind_some, t_gI k131, Option.bind_some, e_gI H, Option.bind_some, t1]
    exact ⟨_, rfl, rfl⟩
  rw [if_neg b11, if_neg b11]
  exact ⟨_, rfl, rfl⟩
