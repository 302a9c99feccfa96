/-! IMAGES, of both -/
theorem t_pR {c i k : Nat} {v : Option Nat} {M : gM} (h : g_k M i = (c, 0)) : pR c M (some i) k v = some (mR M i k v) := by
  unfold pR
  rw [Option.bind_some, if_pos h]
theorem mR_1 {M : gM} {i k : Nat} {v : Option Nat} : (mR M i k v).2.2.2 i k = v := by
  show g_up _ _ _ _ _ _ = _
  unfold g_up
  rw [if_pos rfl, if_pos rfl]
theorem mR_ne {M : gM} {i k j a : Nat} {v : Option Nat} (h : j ≠ i ∨ a ≠ k) : (mR M i k v).2.2.2 j a = M.2.2.2 j a := by
  show g_up _ _ _ _ _ _ = _
  unfold g_up
  by_cases e : j = i
  · subst e
    rw [if_pos rfl, if_neg (fun z => h.elim (fun y => y rfl) (fun y => y z))]
  · rw [if_neg e]
theorem k_G_mR {M : gM} {i k : Nat} {v : Option Nat} (G : k_G M) (h : (f_K i).1 = 3 ∨ q_pR (f_K i) k = false) : k_G (mR M i k v) := by
  refine ⟨G.1, fun j h0 hj h3 a ha => ?_⟩
  rw [mR_ne]
  · exact G.2 j h0 hj h3 a ha
  · by_cases e : j = i
    · subst e
      rcases h with h | h
      · exact absurd h h3
      · exact Or.inr (fun z => by rw [z, h] at ha; cases ha)
    · exact Or.inl e
theorem w_F_mR {N : Nat → Prop} {M : gM} {i k : Nat} {v : Option Nat} (h : N i) : w_F N M (mR M i k v) := ⟨⟨Nat.le_refl _, fun _ _ => rfl⟩, fun j _ hj => ⟨rfl, g_up_ne _ _ _ (fun z => hj (by rw [z]; exact h))⟩⟩
theorem C_imageX {M : gM} {e n : Nat} {σ : Nat → Int32} {nx sz : Nat} {P I : Nat → Nat → Int32} {rc : Nat} {Rr : Nat → List (Nat × Int32) × List (Nat × Nat × Nat)} {l1 : Int32} (G : k_G M) (hl : 197 ≤ M.1.length) (Im : q_Im M) (K : ∀ k, k < 4 → q_Kd M (151 + 6 * k) (3, 0)) (C : w_C M e σ nx sz P I rc Rr) (h1 : l1.toInt = (n : Int)) (hn : n < 4) : Ok (F_X11_image (some 2) l1 M) (fun q => q.1 = σ 4 ∧ w_C q.2 e σ nx sz P (fun k => if k = n then σ else I k) rc Rr) := by
  have k2 := G_k2 G
  have k121 : g_k M 121 = (26, 4) := k_kd G (by decide)
  have z0 : (0 : Int32).toInt = 0 := rfl
  have z4 : (Int32.ofNat 4).toInt = 4 := rfl
  have Kn := (K n hn).2
  have X := C.1.1.2
  have wh := X.1.2
  have Cn := C.2.1 n hn
  delta F_X11_image F_X11_image_b0
  rw [if_neg (fun z => by have := i_lt z; omega), t_gR k2 (G_r8 G), Option.bind_some, t_aN k121 (by decide), Option.bind_some, if_pos (Int32.lt_iff_toInt_lt.mpr (by omega)), Option.bind_some, t_aR (w := some (151 + 6 * n)) k121 (by omega) (by omega) (by rw [i_cl h1]; exact Im.2 n hn), Option.bind_some, t_gR k2 C.1.1.1, Option.bind_some, t_pR Kn, Option.bind_some]
  have G6 : k_G (mR M (151 + 6 * n) 1 (some e)) := k_G_mR G (Or.inl (f_Kim hn))
  have F6 : w_F (fun i => 151 + 6 * n ≤ i ∧ i ≤ 156 + 6 * n) M (mR M (151 + 6 * n) 1 (some e)) := w_F_mR (by omega)
  have r0 : (mR M (151 + 6 * n) 1 (some e)).2.2.2 (151 + 6 * n) 0 = some (152 + 6 * n) := (mR_ne (Or.inr (by decide))).trans Cn.1
  have r1 : (mR M (151 + 6 * n) 1 (some e)).2.2.2 (151 + 6 * n) 1 = some e := mR_1
  have i6 : (mR M (151 + 6 * n) 1 (some e)).2.1 = M.2.1 := rfl
  have g6 : (mR M (151 + 6 * n) 1 (some e)).1 = M.1 := rfl
  have rr6 : ∀ i, i ≠ 151 + 6 * n → (mR M (151 + 6 * n) 1 (some e)).2.2.2 i = M.2.2.2 i := fun i hi => g_up_ne _ _ _ hi
  generalize mR M (151 + 6 * n) 1 (some e) = M6 at G6 F6 r0 r1 i6 g6 rr6 ⊢
  have K6 : g_k M6 (151 + 6 * n) = (3, 0) := (q_k_of g6).trans Kn
  have k26 := G_k2 G6
  have L6 := k_LS_of G6 (k_st4 hn)
  have hl6 : 197 ≤ M6.1.length := by rw [g6]; exact hl
  have X6 : w_X M6 9 e σ := w_X_F X F6 (fun j a b z => by omega) (fun j a b z => by unfold w_h at wh; omega)
  rw [t_gR K6 r0, Option.bind_some, t_gR k26 (G_r5 G6), Option.bind_some, t_gO L6.1.1, Option.bind_some]
  refine Ok_b (C_copyX L6 X6 (by omega) (fun i a b z => by unfold w_h at wh; omega)) (fun M10 z => ?_)
  obtain ⟨f10, X10⟩ := z
  have G10 := k_G_eq G6 f10.1.1.1 f10.1.2
  have k210 := G_k2 G10
  have K10 : g_k M10 (151 + 6 * n) = (3, 0) := (q_k_of f10.1.1.1).trans K6
  have F10 : w_F (fun i => 151 + 6 * n ≤ i ∧ i ≤ 156 + 6 * n) M M10 := w_F_t F6 (w_F_w (w_F_Fs f10) (fun i h => by omega))
  rw [t_gI k210, Option.bind_some, t_pI K10, Option.bind_some]
  obtain ⟨M12, e12⟩ : ∃ M12, M12 = mI M10 (151 + 6 * n) 2 (M10.2.1 2 13) := ⟨_, rfl⟩
  rw [← e12]
  have G12 : k_G M12 := by rw [e12]; exact k_G_eq G10 rfl rfl
  have K12 : g_k M12 (151 + 6 * n) = (3, 0) := by rw [e12]; exact K10
  rw [t_gI (G_k2 G12), Option.bind_some, t_pI K12, Option.bind_some]
  obtain ⟨M14, e14⟩ : ∃ M14, M14 = mI M12 (151 + 6 * n) 3 (M12.2.1 2 14) := ⟨_, rfl⟩
  rw [← e14]
  have G14 : k_G M14 := by rw [e14]; exact k_G_eq G12 rfl rfl
  have Fa : w_F (fun i => i = 151 + 6 * n) M10 M14 := by
    rw [e14]
    refine w_F_t ?_ (w_F_mI rfl)
    rw [e12]
    exact w_F_mI rfl
  have Fx : w_F (fun i => 151 + 6 * n ≤ i ∧ i ≤ 156 + 6 * n) M M14 := w_F_t F10 (w_F_w Fa (fun i h => by omega))
  have X14 : w_X M14 (152 + 6 * n) e σ := w_X_F X10 Fa (fun j a b z => by omega) (fun j a b z => by unfold w_h at wh; omega)
  have rf14 : M14.2.2.2 = M6.2.2.2 := by rw [e14, e12]; exact f10.1.2
  have Xn : w_X M14 9 e σ := w_X_F X Fx (fun j a b z => by omega) (fun j a b z => by unfold w_h at wh; omega)
  rw [t_gR (G_k2 G14) (G_r5 G14), Option.bind_some, t_gI Xn.1.1.1.2.1.1, Option.bind_some]
  refine Ok_s ⟨Xn.1.1.2.1.2.1.1.2, ⟨⟨?_, Xn⟩, w_Cp_F C.1.2 hl wh Fx (fun i z => by omega)⟩, fun k hk => ?_, w_Cr_F C.2.2 hl Fx ?_ (fun i z => by omega)⟩
  · show M14.2.2.2 2 11 = some e
    rw [rf14, rr6 2 (by omega)]
    exact C.1.1.1
  · show M14.2.2.2 (151 + 6 * k) 0 = some (152 + 6 * k) ∧ ∀ ek, M14.2.2.2 (151 + 6 * k) 1 = some ek → w_X M14 (152 + 6 * k) ek (if k = n then σ else I k)
    by_cases c : k = n
    · subst c
      rw [if_pos rfl, rf14]
      refine ⟨r0, fun ek hek => ?_⟩
      rw [r1] at hek
      cases hek
      exact X14
    · rw [if_neg c, rf14, rr6 _ (by omega)]
      have Ck := C.2.1 k hk
      refine ⟨Ck.1, fun ek hek => ?_⟩
      have Xk := Ck.2 ek hek
      have wk := Xk.1.2
      exact w_X_F Xk Fx (fun j a b z => by omega) (fun j a b z => by unfold w_h at wk; omega)
  · show M14.2.1 2 12 = M.2.1 2 12
    rw [(w_FN Fx hl (by omega)).1]
theorem C_backX {M : gM} {e n ek : Nat} {σ : Nat → Int32} {nx sz : Nat} {P I : Nat → Nat → Int32} {rc : Nat} {Rr : Nat → List (Nat × Int32) × List (Nat × Nat × Nat)} {l1 : Int32} (G : k_G M) (hl : 197 ≤ M.1.length) (Im : q_Im M) (K : ∀ k, k < 4 → q_Kd M (151 + 6 * k) (3, 0)) (C : w_C M e σ nx sz P I rc Rr) (h1 : l1.toInt = (n : Int)) (hn : n < 4) (hk : M.2.2.2 (151 + 6 * n) 1 = some ek) : Ok (F_X11_back (some 2) l1 M) (fun q => q.1 = I n 4 ∧ w_C q.2 ek (I n) nx 0 P I rc Rr) := by
  have k2 := G_k2 G
  have k121 : g_k M 121 = (26, 4) := k_kd G (by decide)
  have z0 : (0 : Int32).toInt = 0 := rfl
  have z4 : (Int32.ofNat 4).toInt = 4 := rfl
  have Kn := (K n hn).2
  have Cn := C.2.1 n hn
  have X := Cn.2 ek hk
  have wh := X.1.2
  delta F_X11_back F_X11_back_b0
  rw [if_neg (fun z => by have := i_lt z; omega), t_gR k2 (G_r8 G), Option.bind_some, t_aN k121 (by decide), Option.bind_some, if_pos (Int32.lt_iff_toInt_lt.mpr (by omega)), Option.bind_some, t_aR (w := some (151 + 6 * n)) k121 (by omega) (by omega) (by rw [i_cl h1]; exact Im.2 n hn), Option.bind_some, t_gR Kn hk, Option.bind_some, if_neg (by simp), Option.bind_some, t_pR k2, Option.bind_some]
  have G7 : k_G (mR M 2 11 (some ek)) := k_G_mR G (Or.inr (by have := G.1 2 (by decide) (by decide); rw [k2] at this; rw [← this]; rfl))
  have F7 : w_F (fun i => i = 2) M (mR M 2 11 (some ek)) := w_F_mR rfl
  have r7 : (mR M 2 11 (some ek)).2.2.2 2 11 = some ek := mR_1
  have g7 : (mR M 2 11 (some ek)).1 = M.1 := rfl
  have i7 : (mR M 2 11 (some ek)).2.1 = M.2.1 := rfl
  generalize mR M 2 11 (some ek) = M7 at G7 F7 r7 g7 i7 ⊢
  have K7 : g_k M7 (151 + 6 * n) = (3, 0) := (q_k_of g7).trans Kn
  have r70 : M7.2.2.2 (151 + 6 * n) 0 = some (152 + 6 * n) := by rw [(F7.2 (151 + 6 * n) (by omega) (by omega)).2]; exact Cn.1
  have L7 := k_LS_of G7 (s := 9) (by decide)
  have X7 : w_X M7 (152 + 6 * n) ek (I n) := w_X_F X F7 (fun j a b z => by omega) (fun j a b z => by unfold w_h at wh; omega)
  rw [t_gR (G_k2 G7) (G_r5 G7), Option.bind_some, t_gR K7 r70, Option.bind_some, t_gO L7.1.1, Option.bind_some]
  refine Ok_b (C_copyX L7 X7 (by omega) (fun i a b z => by unfold w_h at wh; omega)) (fun M11 z => ?_)
  obtain ⟨f11, X11⟩ := z
  have G11 := k_G_eq G7 f11.1.1.1 f11.1.2
  have K11 : g_k M11 (151 + 6 * n) = (3, 0) := (q_k_of f11.1.1.1).trans K7
  rw [t_gI K11, Option.bind_some, t_pI (G_k2 G11), Option.bind_some]
  obtain ⟨M13, e13⟩ : ∃ M13, M13 = mI M11 2 13 (M11.2.1 (151 + 6 * n) 2) := ⟨_, rfl⟩
  rw [← e13]
  have G13 : k_G M13 := by rw [e13]; exact k_G_eq G11 rfl rfl
  have K13 : g_k M13 (151 + 6 * n) = (3, 0) := by rw [e13]; exact K11
  rw [t_gI K13, Option.bind_some, t_pI (G_k2 G13), Option.bind_some]
  obtain ⟨M15, e15⟩ : ∃ M15, M15 = mI M13 2 14 (M13.2.1 (151 + 6 * n) 3) := ⟨_, rfl⟩
  rw [← e15]
  have G15 : k_G M15 := by rw [e15]; exact k_G_eq G13 rfl rfl
  rw [t_gR (G_k2 G15) (G_r7 G15), Option.bind_some, t_gO (G_k19 G15), Option.bind_some]
  delta F_X4_clear F_X4_clear_b0
  rw [t_pI (G_k19 G15), Option.bind_some, Option.bind_some]
  obtain ⟨M18, e18⟩ : ∃ M18, M18 = mI M15 19 2 (0 : Int32) := ⟨_, rfl⟩
  rw [← e18]
  have G18 : k_G M18 := by rw [e18]; exact k_G_eq G15 rfl rfl
  have F18 : w_F (fun i => i = 2 ∨ i = 19) M11 M18 := by
    rw [e18]
    refine w_F_t ?_ (w_F_mI (Or.inr rfl))
    rw [e15]
    refine w_F_t ?_ (w_F_mI (Or.inl rfl))
    rw [e13]
    exact w_F_mI (Or.inl rfl)
  have Fx : w_F (fun i => i = 2 ∨ (9 ≤ i ∧ i ≤ 13) ∨ i = 19) M M18 := w_F_t (w_F_w F7 (fun i h => by omega)) (w_F_t (w_F_w (w_F_Fs f11) (fun i h => by omega)) (w_F_w F18 (fun i h => by omega)))
  have X18 : w_X M18 9 ek (I n) := w_X_F X11 F18 (fun j a b z => by omega) (fun j a b z => by unfold w_h at wh; omega)
  have rf18 : M18.2.2.2 = M7.2.2.2 := by rw [e18, e15, e13]; exact f11.1.2
  rw [t_gR (G_k2 G18) (G_r5 G18), Option.bind_some, t_gI X18.1.1.1.2.1.1, Option.bind_some]
  have i19 : M18.2.1 19 2 = 0 := by rw [e18]; exact y_mI1
  have i191 : M18.2.1 19 1 = M.2.1 19 1 := by rw [e18, mI_ne (Or.inr (by decide)), e15, mI_ne (Or.inl (by decide)), e13, mI_ne (Or.inl (by decide)), f11.2 19 (by omega), i7]
  have i212 : M18.2.1 2 12 = M.2.1 2 12 := by rw [e18, mI_ne (Or.inl (by decide)), e15, mI_ne (Or.inr (by decide)), e13, mI_ne (Or.inr (by decide)), f11.2 2 (by omega), i7]
  refine Ok_s ⟨X18.1.1.2.1.2.1.1.2, ⟨⟨?_, X18⟩, ⟨⟨?_, ?_⟩, C.1.2.1.2.1, by omega⟩, fun i hi => absurd hi (Nat.not_lt_zero _)⟩, w_Ci_F C.2.1 hl Fx (fun i z => by omega), w_Cr_F C.2.2 hl Fx i212 (fun i z => by omega)⟩
  · show M18.2.2.2 2 11 = some ek
    rw [rf18]
    exact r7
  · show (M18.2.1 19 1).toInt = _
    rw [i191]
    exact C.1.2.1.1.1
  · show (M18.2.1 19 2).toInt = _
    rw [i19]
    rfl
theorem lw9_image {L : Nat} {l : Int32} {M : gM} (R : lw9 L M) : lw_42 L M (F_X11_image (some 2) l M) (F_X12_image (some 175) l) := by
  have R8 := R.1
  have G := R8.2
  have hl := lw8_len R8.1.1.1
  obtain ⟨w1, w2, M1, M2, ⟨e1, B1, s1⟩, e2, R2, s2⟩ := lw8_image (l := l) R8
  obtain ⟨⟨⟨Q, Y⟩, W⟩, ⟨⟨K, Im⟩, k0⟩, Z⟩ := R8.1.1.1
  have KK := lw_im Q K Im
  obtain ⟨_, e, σ, nx, sz, P, I, rc, Rr, C, E⟩ := R
  by_cases c : 0 ≤ l.toInt ∧ l.toInt ≤ 3
  · obtain ⟨n, hn⟩ : ∃ n : Nat, l.toInt = (n : Int) := ⟨l.toInt.toNat, by omega⟩
    obtain ⟨r1, er1, q1, C1⟩ := C_imageX G hl Im KK C hn (by omega)
    have x1 := o_eq er1 e1
    subst x1
    obtain ⟨r0, er0, _, z0⟩ := S_X11_image (l1 := l) Q K Im
    have x0 := o_eq er0 e1
    subst x0
    obtain ⟨_, f0, _⟩ := z0 c
    have rr := lw_rc f0
    dsimp only at q1 C1 rr
    have E1 := w_E_c E rr
    obtain ⟨r2, er2, ⟨⟨Y2, f2⟩, _⟩, _, z4⟩ := Ok_and (S_X12_image (l1 := l) B1.1.1.2 B1.1.2) (E_image (l1 := l) B1.1.1.2)
    have x2 := o_eq er2 e2
    subst x2
    obtain ⟨⟨v2, a193⟩, _⟩ := z4 n hn (by omega)
    dsimp only at Y2 f2 v2 a193
    have ew : w2 = w1 := by rw [v2, q1, rr 185 (by decide), E.1.1.1]
    subst ew
    refine ⟨w2, M1, M2, ⟨e1, B1, s1⟩, e2, ⟨R2, e, σ, nx, sz, P, _, rc, Rr, w_C_r C1 (lw8_len B1) f2, ?_⟩, s2⟩
    obtain ⟨⟨⟨b1, b2⟩, b3⟩, b4, b5, b6⟩ := E1
    refine ⟨⟨⟨(funext (fun q => y_fa (i := 185) f2 (by decide) (by decide) q)).trans b1, by rw [y_fk (i := 175) (k := 25) f2 (by decide)]; exact b2⟩, fun i hi j hj => (y_fa (i := 187) f2 (by decide) (by decide) _).trans (b3 i hi j hj)⟩, fun k hk j hj => ?_, by rw [y_fk (i := 175) (k := 2) f2 (by decide)]; exact b5, fun t ht => r_rl_m (b6 t ht) f2 (by decide)⟩
    rw [a193]
    show _ = (if k = n then σ else I k) j
    by_cases ck : k = n
    · subst ck
      rw [if_pos (by omega), if_pos rfl, show 157 * k + j - 157 * k = j by omega, b1]
    · rw [if_neg (by omega), if_neg ck]
      exact b4 k hk j hj
  · obtain ⟨r0, er0, z0, _⟩ := S_X11_image (l1 := l) Q K Im
    have x0 := o_eq er0 e1
    subst x0
    have h0 := z0 c
    dsimp only at h0
    subst h0
    obtain ⟨r2, er2, z2, _⟩ := E_image (l1 := l) Y
    have x2 := o_eq er2 e2
    subst x2
    have h2 := z2 c
    cases h2
    have ew : w1 = -1 := by
      have z0' : (0 : Int32).toInt = 0 := rfl
      have k121 : g_k M1 121 = (26, 4) := k_kd G (by decide)
      have z4 : (Int32.ofNat 4).toInt = 4 := rfl
      have h : F_X11_image (some 2) l M1 = some (-1, M1) := by
        delta F_X11_image F_X11_image_b0 F_X11_image_b13
        by_cases d : l < 0
        · rw [if_pos d]
        · have := i_nlt d
          rw [if_neg d, t_gR (G_k2 G) (G_r8 G), Option.bind_some, t_aN k121 (by decide), Option.bind_some, if_neg (fun z => by have := i_lt z; omega)]
      rw [h] at e1
      cases e1
      rfl
    subst ew
    exact ⟨_, _, _, ⟨e1, B1, s1⟩, e2, ⟨R2, e, σ, nx, sz, P, I, rc, Rr, C, E⟩, s2⟩
theorem lw9_back {L : Nat} {l : Int32} {M : gM} (R : lw9 L M) : lw_42 L M (F_X11_back (some 2) l M) (F_X12_back (some 175) l) := by
  have R8 := R.1
  have G := R8.2
  have hl := lw8_len R8.1.1.1
  obtain ⟨w1, w2, M1, M2, ⟨e1, B1, s1⟩, e2, R2, s2⟩ := lw8_back (l := l) R8
  have Gp := R8.1.2
  obtain ⟨⟨⟨Q, Y⟩, W⟩, ⟨⟨K, Im⟩, k0⟩, Z⟩ := R8.1.1.1
  have KK := lw_im Q K Im
  obtain ⟨_, e, σ, nx, sz, P, I, rc, Rr, C, E⟩ := R
  by_cases c : (0 ≤ l.toInt ∧ l.toInt ≤ 3) ∧ M.2.2.2 (151 + 6 * l.toNatClampNeg) 1 ≠ none
  · obtain ⟨n, hn⟩ : ∃ n : Nat, l.toInt = (n : Int) := ⟨l.toInt.toNat, by omega⟩
    have hc : l.toNatClampNeg = n := i_cl hn
    obtain ⟨c1, c2⟩ := c
    have c3 := c2
    rw [hc] at c2
    obtain ⟨ek, hek⟩ : ∃ ek, M.2.2.2 (151 + 6 * n) 1 = some ek := by
      cases h : M.2.2.2 (151 + 6 * n) 1 with
      | none => exact absurd h c2
      | some ek => exact ⟨ek, rfl⟩
    obtain ⟨r1, er1, q1, C1⟩ := C_backX G hl Im KK C hn (by omega) hek
    have x1 := o_eq er1 e1
    subst x1
    obtain ⟨r0, er0, _, z0⟩ := S_X11_back (l1 := l) Q K Im
    have x0 := o_eq er0 e1
    subst x0
    obtain ⟨_, f0, _⟩ := z0 ⟨c1, c3⟩
    have rr := lw_rc (q_Fx_of (a := 151) f0)
    dsimp only at q1 C1 rr
    have E1 := w_E_c E rr
    have m1 : M1.2.1 196 n ≠ 0 := by
      rw [rr 196 (by decide)]
      exact (Gp.2 n (by omega)).1.1.mp c2
    obtain ⟨r2, er2, ⟨⟨Y2, f2⟩, _⟩, _, z4⟩ := Ok_and (S_X12_back (l1 := l) B1.1.1.2 B1.1.2) (E_back (l1 := l) B1.1.1.2 B1.1.2)
    have x2 := o_eq er2 e2
    subst x2
    obtain ⟨⟨v2, a185⟩, _, a25⟩ := z4 n hn (by omega) m1
    dsimp only at Y2 f2 v2 a185 a25
    obtain ⟨⟨⟨b1, b2⟩, b3⟩, b4, b5, b6⟩ := E1
    have ew : w2 = w1 := by rw [v2, q1]; exact b4 n (by omega) 4 (by decide)
    subst ew
    refine ⟨w2, M1, M2, ⟨e1, B1, s1⟩, e2, ⟨R2, ek, s_un σ (I n), nx, 0, P, I, rc, Rr, w_C_congr (w_C_r C1 (lw8_len B1) f2) (fun j hj => if_pos hj), ?_⟩, s2⟩
    refine ⟨⟨⟨funext (fun j => ?_), by rw [a25]; rfl⟩, fun i hi => absurd hi (Nat.not_lt_zero _)⟩, fun k hk j hj => (y_fa (i := 193) f2 (by decide) (by decide) _).trans (b4 k hk j hj), by rw [y_fk (i := 175) (k := 2) f2 (by decide)]; exact b5, fun t ht => r_rl_m (b6 t ht) f2 (by decide)⟩
    rw [a185]
    show _ = if j < 157 then I n j else σ j
    by_cases cj : j < 157
    · rw [if_pos cj, if_pos cj]
      exact b4 n (by omega) j cj
    · rw [if_neg cj, if_neg cj, b1]
  · obtain ⟨r0, er0, z0, _⟩ := S_X11_back (l1 := l) Q K Im
    have x0 := o_eq er0 e1
    subst x0
    have h0 := z0 c
    dsimp only at h0
    subst h0
    have cn : ¬ ((0 ≤ l.toInt ∧ l.toInt ≤ 3) ∧ M1.2.1 196 l.toNatClampNeg ≠ 0) := by
      rintro ⟨d1, d2⟩
      obtain ⟨n, hn⟩ : ∃ n : Nat, l.toInt = (n : Int) := ⟨l.toInt.toNat, by omega⟩
      have hc : l.toNatClampNeg = n := i_cl hn
      rw [hc] at d2
      refine c ⟨d1, ?_⟩
      rw [hc]
      exact (Gp.2 n (by omega)).1.1.mpr d2
    obtain ⟨r2, er2, z2, _⟩ := E_back (l1 := l) Y W
    have x2 := o_eq er2 e2
    subst x2
    have h2 := z2 cn
    cases h2
    have ew : w1 = -1 := by
      have z0' : (0 : Int32).toInt = 0 := rfl
      have k121 : g_k M1 121 = (26, 4) := k_kd G (by decide)
      have z4 : (Int32.ofNat 4).toInt = 4 := rfl
      have h : F_X11_back (some 2) l M1 = some (-1, M1) := by
        delta F_X11_back F_X11_back_b0 F_X11_back_b13
        by_cases d : l < 0
        · rw [if_pos d]
        · have := i_nlt d
          rw [if_neg d, t_gR (G_k2 G) (G_r8 G), Option.bind_some, t_aN k121 (by decide), Option.bind_some]
          by_cases d4 : l < Int32.ofNat 4
          · have d4' := i_lt d4
            obtain ⟨n, hn⟩ : ∃ n : Nat, l.toInt = (n : Int) := ⟨l.toInt.toNat, by omega⟩
            have hc : l.toNatClampNeg = n := i_cl hn
            have nn : M1.2.2.2 (151 + 6 * n) 1 = none := by
              cases h : M1.2.2.2 (151 + 6 * n) 1 with
              | none => rfl
              | some ek => exact absurd ⟨by omega, by rw [hc, h]; simp⟩ c
            rw [if_pos d4, Option.bind_some, t_aR (w := some (151 + 6 * n)) k121 (by omega) (by omega) (by rw [hc]; exact Im.2 n (by omega)), Option.bind_some, t_gR (KK n (by omega)).2 nn, Option.bind_some, if_pos rfl]
          · rw [if_neg d4]
      rw [h] at e1
      cases e1
      rfl
    subst ew
    exact ⟨_, _, _, ⟨e1, B1, s1⟩, e2, ⟨R2, e, σ, nx, sz, P, I, rc, Rr, C, E⟩, s2⟩
