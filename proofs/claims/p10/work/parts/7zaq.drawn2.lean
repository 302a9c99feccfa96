/-! DRAWN: of both -/
theorem lw9_qryX {L S : Nat} {lo hi lo2 hi2 : Int} {M : gM} {o1 : Option (Int32 × gM)} {o2 : gM → Option (Int32 × gM)} (R : lw9 L M) (z1 : Ok o1 (q_PX M lo hi 2 (M.2.1 2 14))) (z2 : ∀ M1, y_HT M1 → y_W M1 → Ok (o2 M1) (y_PI S M1 lo2 hi2)) (hW : Nat.land S y_wb = 0) (hS : Nat.land S (2 ^ 1 + 2 ^ 2 + 2 ^ 41) = 0) (h6 : Nat.land S (2 ^ 21 + 2 ^ 22 + 2 ^ 59 + 2 ^ 60 + 2 ^ 61) = 0) (h9 : Nat.land S (2 ^ 2 + 2 ^ 25 + 2 ^ 42 + 2 ^ 44 + 2 ^ 45 + 2 ^ 52 + 2 ^ 58) = 0)
    (c : 0 ≤ (M.2.1 2 14).toInt → ∀ (e : Nat) (σ : Nat → Int32) (nx sz : Nat) (P I : Nat → Nat → Int32) (rc : Nat) (Rr : Nat → List (Nat × Int32) × List (Nat × Nat × Nat)), w_C M e σ nx sz P I rc Rr → rc ≤ 6 → (M.2.1 2 13).toInt < (rc : Int) → ∃ w : Int32, Ok o1 (fun q => q.1 = w ∧ w_F q_N M q.2) ∧ ∀ M1, e_V M1 σ → w_E M1 σ sz P I rc Rr → M1.2.1 175 21 = M.2.1 2 13 → M1.2.1 175 22 = M.2.1 2 14 → Ok (o2 M1) (fun q => q.1 = w ∧ ∀ j, j < 157 → q.2.2.1 185 j = σ j)) : lw_42 L M o1 o2 := by
  obtain ⟨R8, e, σ, nx, sz, P, I, rc, Rr, C, E⟩ := R
  have W0 := R8.1.1.1.1.2
  have rc2 : (M.2.1 175 2).toInt = (rc : Int) := E.2.2.1
  have H0 := R8.1.1.1.1.1.2
  have r6 : rc ≤ 6 := by
    have := (H0.2.1 175 (by decide) 2).2
    have q : (y_tI 175 2).2 = 6 := rfl
    rw [q] at this
    omega
  have f13 := R8.1.2.1.1
  have f14 := R8.1.2.1.2
  have x0 : 0 ≤ (M.2.1 2 14).toInt := by
    have := (H0.2.1 175 (by decide) 22).1
    have q : (y_tI 175 22).1 = 0 := rfl
    rw [q] at this
    rw [f14]
    exact this
  have hf : (M.2.1 2 13).toInt < (rc : Int) := by
    rw [f13, ← rc2]
    exact W0.1.1
  obtain ⟨w, c1, c2⟩ := c x0 e σ nx sz P I rc Rr C r6 hf
  obtain ⟨⟨w1, M1⟩, e1, y1, q1, F1⟩ := Ok_and z1 c1
  dsimp only at q1 F1
  subst q1
  have fx := q_Fx_of (a := 151) y1.1.2.2
  have R1 : lw8 L M1 := ⟨⟨lw_cls R8.1.1 y1.1.2.1 y1.1.2.2 rfl rfl rfl, g6_of R8.1.2 (g6_cC R8.1.1.1 y1.1.2.2 (g6_b R8.1.1.1 y1.1.2.2 rfl) y1.2) (g6_cE fx)⟩, lw8_c R8.1.1.1 R8.2 y1.1.2.2⟩
  have s1 : M1.2.1 0 = M.2.1 0 := lw_s_cls fx
  have rr : ∀ i, y_cs i → M1.2.1 i = M.2.1 i := lw_rc fx
  have hl := lw8_len R8.1.1.1
  have n2 := w_FN F1 hl (by unfold q_N; omega)
  have C1 := w_C_F C hl F1 (by rw [n2.2]) (by rw [n2.1]) (fun i z => by unfold q_N at z; omega)
  have E1 := w_E_c E rr
  have H1 := R1.1.1.1.1.1.2
  have X1 : e_V M1 σ := ⟨H1, E1.1.1.1, C.1.1.2.1.1.2.2⟩
  obtain ⟨⟨w2, M2⟩, e2, y2, q2, E2⟩ := Ok_and (z2 M1 H1 R1.1.1.1.1.2) (c2 M1 X1 E1 (by rw [rr 175 (by decide)]; exact f13.symm) (by rw [rr 175 (by decide)]; exact f14.symm))
  dsimp only at q2 E2
  subst q2
  obtain ⟨R2, s2⟩ := lw8_gr R1 hW hS h6 y2
  exact ⟨_, M1, M2, ⟨e1, R1.1.1.1, s1⟩, e2, ⟨R2, e, M2.2.1 185, nx, sz, P, I, rc, Rr, w_C_congr (w_C_r C1 (lw8_len R1.1.1.1) y2.2.2) E2, w_E_r E1 y2.2.2 h9 rfl⟩, s2.trans s1⟩
theorem o_add {a b : Nat} (h : a + b < 1000) : Int32.ofNat a + Int32.ofNat b = Int32.ofNat (a + b) := by
  have oa : (Int32.ofNat a).toInt = _ := i_ofNat (by omega)
  have ob : (Int32.ofNat b).toInt = _ := i_ofNat (by omega)
  refine Int32.toInt_inj.mp ?_
  rw [i_add (by omega) (by omega), i_ofNat (n := a + b) (by omega)]
  omega
theorem C_drink {M0 M : gM} {e : Nat} {r : s_Ru} {ρ : Nat → Int32} {q : Int × (Nat → Int32)} (B : q_B M0 e r ρ) (V : s_V q.2) (hX : 0 ≤ q.1) (Q : q_X M0 e q.1 M q.2) : Ok (F_X11_drinkLater (some 2) M) (fun M' => q_X M0 e (s_dk q (hs_m q.2)).1 M' (s_dk q (hs_m q.2)).2) := by
  have nn := s_Vn V
  delta F_X11_drinkLater F_X11_drinkLater_b0
  exact C_drink_L2 B V hX g_fuel 0 (l1 := 0) Q rfl (Nat.zero_le _) (n_fu (by omega))
theorem C_drawn_L75 {M0 : gM} {e : Nat} {r : s_Ru} {ρ : Nat → Int32} {X0 : Int} {nn S : Nat} {l1 l2 l3 x0 l6 : Int32} {P : Int32 × gM → Prop} {k55 : Option Nat → Int32 → Int32 → Int32 → Int32 → Int32 → Int32 → gM → Option (Int32 × gM)} (B : q_B M0 e r ρ) (V : s_V ρ) (hy : 0 ≤ (ρ 4).toInt ∧ (ρ 4).toInt ≤ 999) (hX : 0 ≤ X0) (h2 : l2.toInt = (nn : Int)) (hn60 : nn ≤ 60) (hS : S ≤ 490)
    (hk : ∀ {M : gM}, q_X M0 e (s_dn r (X0, ρ) nn).1 M (s_dn r (X0, ρ) nn).2 → Ok (k55 (some 2) l1 l2 l3 x0 (Int32.ofNat (S + (if l3 = 0 then s_sn (s_dn r (X0, ρ) nn).2 else s_al (s_dn r (X0, ρ) nn).2))) (l6 + 1) M) P) : ∀ (n k : Nat) {l7 : Int32} {M : gM}, q_X M0 e (s_dn r (X0, ρ) k).1 M (s_dn r (X0, ρ) k).2 → l7.toInt = (k : Int) → k ≤ nn → nn - k < n → Ok (F_X11_drawn_L75 k55 n (some 2) l1 l2 l3 x0 (Int32.ofNat S) l6 l7 M) P := by
  intro n
  induction n with
  | zero => intro k l7 M _ _ _ _; omega
  | succ n ih =>
    intro k l7 M Q hl hkn hn
    have g := dn_g (r := r) V hX hy k (by omega)
    show Ok (F_X11_drawn_b75 k55 (F_X11_drawn_L75 k55 n) (some 2) l1 l2 l3 x0 (Int32.ofNat S) l6 l7 M) P
    delta F_X11_drawn_b75 F_X11_drawn_b145
    by_cases c : l2 ≤ l7
    · have := i_le c
      have e0 : k = nn := by omega
      subst e0
      obtain ⟨x, hx, Q'⟩ := Q
      obtain ⟨⟨G, r11⟩, _⟩ := q_G (q_B_x B) Q'.1
      have g2 := G_k2 G
      obtain ⟨_, ⟨⟨ks, _⟩, _⟩, _⟩ := k_XE Q'.2
      have nv := s_Vn g.1.1.1
      have al := s_al_le g.1.1.1
      have sn : s_sn (s_dn r (X0, ρ) k).2 ≤ 7 := Nat.le_trans (c_n_le _) nv.1.2
      refine Ok_t c ?_
      by_cases d : l3 = 0
      · have hk' := @hk M ⟨x, hx, Q'⟩
        rw [if_pos d] at hk'
        have bc : F_J6_bitCount_0f7a4 (s_sd (s_dn r (X0, ρ) k).2) M = some (Int32.ofNat (s_sn (s_dn r (X0, ρ) k).2)) := by
          unfold s_sd
          rw [C_bitCount nv.1.2, c_n_cn _ (by omega)]
          rfl
        refine Ok_t d (x_gR g2 (G_r6 G) (x_gR g2 r11 (x_gO ks (x_eq (C_standing Q'.2) (x_eq bc ?_)))))
        rw [o_add (by omega)]
        exact hk'
      · have hk' := @hk M ⟨x, hx, Q'⟩
        rw [if_neg d] at hk'
        refine Ok_e d (x_gR g2 (G_r6 G) (x_gR g2 r11 (x_gO ks (x_eq (C_heldTogether Q'.2) ?_))))
        rw [o_add (by omega)]
        exact hk'
    · have := i_nle c
      have G0 : g_k M 2 = (11, 0) := by
        obtain ⟨x, hx, Q'⟩ := Q
        exact G_k2 (q_G (q_B_x B) Q'.1).1.1
      refine Ok_e c (x_gO G0 (Ok_b (C_drink B g.1.1.1 g.1.1.2 Q) (fun M11 z => ?_)))
      obtain ⟨x, hx, Q1⟩ := z
      have Bx := q_B_x (x := x) B
      obtain ⟨⟨G, r11⟩, _⟩ := q_G Bx Q1.1
      have g2 := G_k2 G
      have D := dk_g g.1.1.1 g.1.1.2 _ (Nat.le_refl (hs_m (s_dn r (X0, ρ) k).2))
      have e4 := D.2.1 4 (by decide)
      refine x_gR g2 (G_r4 G) (x_gR g2 r11 (x_gR g2 (G_r6 G) (x_gC g2 ?_)))
      refine Ok_b (C_q_rule Bx Q1.1) (fun rl J => ?_)
      refine x_gO (G_k4 G) (Ok_b (C_q_year Bx Q1 (by rw [show (s_dk (s_dn r (X0, ρ) k) (hs_m (s_dn r (X0, ρ) k).2)).2 4 = (s_dn r (X0, ρ) k).2 4 from e4]; omega) J) (fun q z => ?_))
      obtain ⟨v, M19⟩ := q
      exact ih (k + 1) ⟨x, hx, z⟩ (i_nx hl (by omega)) (by omega) (by omega)
def s_dw (l3 : Int32) (q : Int × Nat × Nat) : Nat := if l3 = 0 then q.2.1 else q.2.2
theorem C_drawn_L55 {M0 : gM} {e : Nat} {r : s_Ru} {ρ : Nat → Int32} {X0 : Int} {nn jj : Nat} {l1 l2 l3 : Int32} (B : q_B M0 e r ρ) (V : s_V ρ) (hy : 0 ≤ (ρ 4).toInt ∧ (ρ 4).toInt ≤ 999) (hX : 0 ≤ X0) (h1 : l1.toInt = (jj : Int)) (hj10 : jj ≤ 10) (h2 : l2.toInt = (nn : Int)) (hn60 : nn ≤ 60) : ∀ (n j : Nat) {l5 l6 : Int32} {M : gM}, (∃ x : Int32, x.toInt = (s_dm r X0 ρ nn j).1 ∧ q_F (mI M0 2 14 x) M) → l5 = Int32.ofNat (s_dw l3 (s_dm r X0 ρ nn j)) → l6.toInt = (j : Int) → j ≤ jj → jj - j < n → Ok (F_X11_drawn_L55 n (some 2) l1 l2 l3 (M0.2.1 2 14) l5 l6 M) (fun q => q.1 = Int32.ofNat (s_dw l3 (s_dm r X0 ρ nn jj)) ∧ w_F q_N M0 q.2) := by
  intro n
  induction n with
  | zero => intro j l5 l6 M _ _ _ _ _; omega
  | succ n ih =>
    intro j l5 l6 M Q h5 hl hj hn
    have g := dm_g (r := r) (n := nn) V hX hy (by omega) j
    obtain ⟨x, hx, f⟩ := Q
    have Bx := q_B_x (x := x) B
    obtain ⟨⟨G, r11⟩, _⟩ := q_G Bx f
    have g2 := G_k2 G
    show Ok (F_X11_drawn_b55 (F_X11_drawn_L55 n) (some 2) l1 l2 l3 (M0.2.1 2 14) l5 l6 M) _
    delta F_X11_drawn_b55
    by_cases c : l1 ≤ l6
    · have := i_le c
      have e0 : j = jj := by omega
      subst e0
      refine Ok_t c (x_pI g2 (Ok_s ⟨h5, q_F_w ⟨⟨f.1.1, f.1.2⟩, fun i a b => ?_⟩⟩))
      have := f.2 i a b
      funext k
      have t := congrFun this k
      rw [mI_if]
      rw [mI_if] at t
      by_cases z : i = 2 ∧ k = 14
      · rw [if_pos z, z.1, z.2]
      · rw [if_neg z]
        rw [if_neg z] at t
        exact t
    · have := i_nle c
      refine Ok_e c (x_gR g2 (G_r6 G) (x_gR g2 (G_r5 G) (x_gO (k_LS_of G (s := 14) (by decide)).1.1 ?_)))
      refine Ok_b (C_q_copy Bx f) (fun M5 Q5 => ?_)
      have sb : s_dw l3 (s_dm r X0 ρ nn j) ≤ 490 := by
        unfold s_dw
        split <;> omega
      rw [h5]
      refine C_drawn_L75 (k55 := F_X11_drawn_L55 n) (e := e) (r := r) (ρ := ρ) (X0 := (s_dm r X0 ρ nn j).1) (nn := nn) B V hy g.1 h2 hn60 sb (fun {M6} Q6 => ?_) g_fuel 0 (l7 := 0) ⟨x, hx, Q5⟩ rfl (Nat.zero_le _) (n_fu (by omega))
      obtain ⟨x6, hx6, Q6⟩ := Q6
      refine ih (j + 1) ⟨x6, hx6, Q6.1⟩ ?_ (i_nx hl (by omega)) (by omega) (by omega)
      congr 1
      unfold s_dw
      show _ = (if l3 = 0 then (s_dm r X0 ρ nn j).2.1 + s_sn _ else (s_dm r X0 ρ nn j).2.2 + s_al _)
      split <;> rfl
/-! of the reference -/
def e_D (r : s_Ru) (ρ : Nat → Int32) (X : Int) (M : gM) (σ : Nat → Int32) : Prop := e_Q r ρ M σ ∧ (M.2.2.1 175 32).toInt = X
theorem E_draw {M : gM} {r : s_Ru} {ρ σ : Nat → Int32} {X : Int} {l1 : Int32} {m : Nat} (D : e_D r ρ X M σ) (h1 : l1.toInt = (m : Int)) (hm : 0 < m) : Ok (F_X12_draw (some 175) l1 M) (fun q => q.1.toInt = (s_dr X / 65536) % (m : Int) ∧ e_D r ρ (s_dr X) q.2 σ) := by
  obtain ⟨Q, hX⟩ := D
  have H := Q.1.1.1
  delta F_X12_draw F_X12_draw_b0
  have z31 : (2147483648 : Int64).toInt = 2147483648 := rfl
  have z16 : (65536 : Int64).toInt = 65536 := rfl
  refine y_gL H (fun v1 q1 => ?_)
  have hv := H.2.2
  rw [q1] at hv hX
  have a1 : (v1 * (1103515245 : Int64)).toInt = v1.toInt * 1103515245 := by
    rw [Int64.toInt_mul]
    exact j_bm (by show -9223372036854775808 ≤ v1.toInt * 1103515245; omega) (by show v1.toInt * 1103515245 ≤ 9223372036854775807; omega)
  have a2 : (v1 * (1103515245 : Int64) + (12345 : Int64)).toInt = v1.toInt * 1103515245 + 12345 := by
    rw [Int64.toInt_add, a1]
    exact j_bm (by show -9223372036854775808 ≤ v1.toInt * 1103515245 + 12345; omega) (by show v1.toInt * 1103515245 + 12345 ≤ 9223372036854775807; omega)
  have a5 := j_mod (x := v1 * (1103515245 : Int64) + (12345 : Int64)) (c := (2147483648 : Int64)) (by omega) (by decide)
  rw [a2, z31] at a5
  refine y_pL (S := 2 ^ 40) H (fun _ => by omega) (fun M2 H2 f2 o2 q2 => ?_)
  refine y_gL H2 (fun v3 q3 => ?_)
  have e3 : v3.toInt = s_dr X := by
    rw [← q3, q2, a5, hX]
    rfl
  have dr := dr_r (X := X)
  have hl : (l1.toInt64).toInt = l1.toInt := Int32.toInt_toInt64 l1
  refine Ok_e (fun e => ?_) ?_
  · rw [e] at hl
    have z : (0 : Int64).toInt = 0 := rfl
    omega
  have d1 : (v3 / (65536 : Int64)).toInt = v3.toInt / 65536 := by
    rw [Int64.toInt_div, z16, Int.tdiv_eq_ediv_of_nonneg (by omega)]
    exact j_bm (by omega) (by omega)
  have d2 := j_mod (x := v3 / (65536 : Int64)) (c := l1.toInt64) (by omega) (by omega)
  have d3 : 0 ≤ (v3 / (65536 : Int64)).toInt % l1.toInt64.toInt := Int.emod_nonneg _ (by omega)
  have d4 : (v3 / (65536 : Int64)).toInt % l1.toInt64.toInt < l1.toInt64.toInt := Int.emod_lt_of_pos _ (by omega)
  have hr := i_rng l1
  refine Ok_s ⟨?_, ⟨⟨e_V_fr Q.1.1 H2 f2 (by decide), e_I_m Q.1.2 f2 (by decide)⟩, fun j hj => by rw [y_fa (i := 188) f2 (by decide) (by decide) j]; exact Q.2.1 j hj, Q.2.2⟩, ?_⟩
  · dsimp only
    rw [Int64.toInt_toInt32, d2, i_bm (by omega) (by omega), d1, e3, hl, h1]
  · dsimp only
    rw [q2, a5, hX]
    rfl
theorem E_D_year {r : s_Ru} {ρ σ : Nat → Int32} {X : Int} {M : gM} (D : e_D r ρ X M σ) (hy : 0 ≤ (σ 4).toInt) : Ok (F_X12_passes (some 175) M) (fun q => e_D r ρ X q.2 (s_yr r σ).2) := by
  obtain ⟨q, eq, z⟩ := E_q_year D.1 hy
  have u := UL_X12_passes (some 175) M (y_k175 D.1.1.1.1) q eq
  exact ⟨q, eq, z.2, by rw [u.2]; exact D.2⟩
theorem E_D_knows {r : s_Ru} {ρ σ : Nat → Int32} {X : Int} {M : gM} {l1 l2 : Int32} {h t : Nat} (D : e_D r ρ X M σ) (h1 : l1.toInt = (h : Int)) (h2 : l2.toInt = (t : Int)) (hh : h < 7) (ht : t < 7) : Ok (F_X12_knowsNow (some 175) l1 l2 (-1 : Int32) (0 : Int32) M) (fun M' => e_D r ρ X M' (s_kw σ h t 0 0)) := by
  obtain ⟨M', em, f, X'⟩ := E_knowsNow (a := -1) (v := 0) D.1.1.1 h1 h2 hh ht (by decide) (fun z => absurd z (by decide))
  have u := UL_X12_knowsNow (some 175) l1 l2 (-1 : Int32) (0 : Int32) M (y_k175 D.1.1.1.1) M' em
  have es : s_kw σ h t (-1) 0 = s_kw σ h t 0 0 := rfl
  rw [es] at X'
  exact ⟨M', em, ⟨⟨X', e_I_m D.1.1.2 f (by decide)⟩, fun j hj => by rw [y_fa (i := 188) f (by decide) (by decide) j]; exact D.1.2.1 j hj, fun j hj => (kw_hi hh ht hj).trans (D.1.2.2 j hj)⟩, by rw [u.2]; exact D.2⟩
theorem E_drinks_L2 {r : s_Ru} {ρ σ : Nat → Int32} {X : Int} (V : s_V σ) (hX : 0 ≤ X) : ∀ (n h : Nat) {l1 : Int32} {M : gM}, e_D r ρ (s_dk (X, σ) h).1 M (s_dk (X, σ) h).2 → l1.toInt = (h : Int) → h ≤ hs_m σ → hs_m σ - h < n → Ok (F_X12_drinks_L2 n (some 175) l1 M) (fun M' => e_D r ρ (s_dk (X, σ) (hs_m σ)).1 M' (s_dk (X, σ) (hs_m σ)).2) := by
  have nn := s_Vn V
  have z0 : (0 : Int32).toInt = 0 := rfl
  intro n
  induction n with
  | zero => intro h l1 M _ _ _ _; omega
  | succ n ih =>
    intro h l1 M Q hl hh hn
    have D := dk_g V hX h hh
    have nm := dg_nm D
    have nn1 := s_Vn D.1.1
    show Ok (F_X12_drinks_b2 (F_X12_drinks_L2 n) (some 175) l1 M) _
    delta F_X12_drinks_b2
    rw [e_sd Q.1.1.1 (k := 2) rfl (by decide)]
    by_cases c : (s_dk (X, σ) h).2 2 ≤ l1
    · have := i_le c
      have eh : h = hs_m σ := by omega
      subst eh
      exact Ok_t c (Ok_s Q)
    · have := i_nle c
      refine Ok_e c (x_eq (e_gO Q.1.1.1.1) (Ok_b (E_draw Q (m := 100) rfl (by decide)) (fun q z => ?_)))
      obtain ⟨v4, M5⟩ := q
      obtain ⟨z1, Q5⟩ := z
      dsimp only at z1 Q5 ⊢
      have ix : (((38 : Int32) + ((2 : Int32) * l1)) + (1 : Int32)).toInt = ((39 + 2 * h : Nat) : Int) := by
        have m := i_mulL (c := (2 : Int32)) (x := l1) (n := 2) rfl (by omega) (by omega)
        have z38 : (38 : Int32).toInt = 38 := rfl
        have a : ((38 : Int32) + ((2 : Int32) * l1)).toInt = 38 + 2 * l1.toInt := by rw [i_add (by omega) (by omega)]; omega
        rw [i_addc (n := 1) rfl (by omega) (by omega)]
        omega
      rw [e_sd Q5.1.1.1 (k := 39 + 2 * h) ix (by omega)]
      have un : s_dk (X, σ) (h + 1) = s_dk1 (s_dk (X, σ) h) h := rfl
      have skip : s_dk (X, σ) (h + 1) = (s_dr (s_dk (X, σ) h).1, (s_dk (X, σ) h).2) → Ok (F_X12_drinks_b47 (F_X12_drinks_L2 n) (some 175) l1 M5) (fun M' => e_D r ρ (s_dk (X, σ) (hs_m σ)).1 M' (s_dk (X, σ) (hs_m σ)).2) := fun es => by
        delta F_X12_drinks_b47 F_X12_drinks_b48 F_X12_drinks_b70
        refine Ok_t rfl ?_
        exact ih (h + 1) (by rw [es]; exact Q5) (i_nx hl (by omega)) (by omega) (by omega)
      refine Ok_i (fun d => ?_) (fun d => ?_)
      · have := i_le d
        refine skip ?_
        rw [un]
        unfold s_dk1
        rw [if_neg (by omega)]
      · have := i_nle d
        rw [e_sd Q5.1.1.1 (k := 1) rfl (by decide)]
        refine Ok_i (fun d2 => ?_) (fun d2 => ?_)
        · have := i_le d2
          refine skip ?_
          rw [un]
          unfold s_dk1
          rw [if_neg (by omega)]
        · have := i_nle d2
          delta F_X12_drinks_b48 F_X12_drinks_b70
          refine Ok_e (by decide) ?_
          rw [e_sd Q5.1.1.1 (k := 1) rfl (by decide)]
          refine x_eq (e_gO Q5.1.1.1.1) (Ok_b (E_draw Q5 nn1.1.1 (by omega)) (fun q z => ?_))
          obtain ⟨v5, M6⟩ := q
          obtain ⟨z2, Q6⟩ := z
          dsimp only at z2 Q6 ⊢
          have t := dk_t (X := s_dr (s_dr (s_dk (X, σ) h).1)) (n := hs_n (s_dk (X, σ) h).2) (by omega) (by omega)
          have a := Int.emod_nonneg (s_dr (s_dr (s_dk (X, σ) h).1) / 65536) (b := (hs_n (s_dk (X, σ) h).2 : Int)) (by omega)
          refine x_eq (e_gC Q6.1.1.1.1) (Ok_b (E_D_knows (h := h) (t := ((s_dr (s_dr (s_dk (X, σ) h).1) / 65536) % (hs_n (s_dk (X, σ) h).2 : Int)).toNat) Q6 hl (by omega) (by omega) (by omega)) (fun M7 Q7 => ?_))
          have es : s_dk (X, σ) (h + 1) = (s_dr (s_dr (s_dk (X, σ) h).1), s_kw (s_dk (X, σ) h).2 h ((s_dr (s_dr (s_dk (X, σ) h).1) / 65536) % (hs_n (s_dk (X, σ) h).2 : Int)).toNat 0 0) := by
            rw [un]
            unfold s_dk1
            rw [if_pos (by omega)]
          exact ih (h + 1) (by rw [es]; exact Q7) (i_nx hl (by omega)) (by omega) (by omega)
theorem E_drinks {r : s_Ru} {ρ : Nat → Int32} {q : Int × (Nat → Int32)} {M : gM} (V : s_V q.2) (hX : 0 ≤ q.1) (Q : e_D r ρ q.1 M q.2) : Ok (F_X12_drinks (some 175) M) (fun M' => e_D r ρ (s_dk q (hs_m q.2)).1 M' (s_dk q (hs_m q.2)).2) := by
  have nn := s_Vn V
  delta F_X12_drinks F_X12_drinks_b0
  exact E_drinks_L2 V hX g_fuel 0 (l1 := 0) Q rfl (Nat.zero_le _) (n_fu (by omega))
theorem E_drawn_L74 {r : s_Ru} {ρ : Nat → Int32} {X0 : Int} {nn S T : Nat} {l1 l2 l3 l6 : Int32} {P : Int32 × gM → Prop} {k65 : Option Nat → Int32 → Int32 → Int32 → Int32 → Int32 → Int32 → gM → Option (Int32 × gM)} (V : s_V ρ) (hy : 0 ≤ (ρ 4).toInt ∧ (ρ 4).toInt ≤ 999) (hX : 0 ≤ X0) (h2 : l2.toInt = (nn : Int)) (hn60 : nn ≤ 60) (hS : S ≤ 490) (hT : T ≤ 490)
    (hk : ∀ {M : gM}, e_D r ρ (s_dn r (X0, ρ) nn).1 M ρ → Ok (k65 (some 175) l1 l2 l3 (Int32.ofNat (S + s_sn (s_dn r (X0, ρ) nn).2)) (Int32.ofNat (T + s_al (s_dn r (X0, ρ) nn).2)) (l6 + 1) M) P) : ∀ (n k : Nat) {l7 : Int32} {M : gM}, e_D r ρ (s_dn r (X0, ρ) k).1 M (s_dn r (X0, ρ) k).2 → l7.toInt = (k : Int) → k ≤ nn → nn - k < n → Ok (F_X12_drawn_L74 k65 n (some 175) l1 l2 l3 (Int32.ofNat S) (Int32.ofNat T) l6 l7 M) P := by
  intro n
  induction n with
  | zero => intro k l7 M _ _ _ _; omega
  | succ n ih =>
    intro k l7 M Q hl hkn hn
    have g := dn_g (r := r) V hX hy k (by omega)
    have H := Q.1.1.1.1
    show Ok (F_X12_drawn_b74 k65 (F_X12_drawn_L74 k65 n) (some 175) l1 l2 l3 (Int32.ofNat S) (Int32.ofNat T) l6 l7 M) P
    delta F_X12_drawn_b74
    by_cases c : l2 ≤ l7
    · have := i_le c
      have e0 : k = nn := by omega
      subst e0
      have nv := s_Vn g.1.1.1
      have al := s_al_le g.1.1.1
      have sn : s_sn (s_dn r (X0, ρ) k).2 ≤ 7 := Nat.le_trans (c_n_le _) nv.1.2
      have bc : F_X12_bits (s_sd (s_dn r (X0, ρ) k).2) M = some (Int32.ofNat (s_sn (s_dn r (X0, ρ) k).2)) := by
        unfold s_sd
        rw [E_bits nv.1.2, c_n_cn _ (by omega)]
        rfl
      refine Ok_t c (x_eq (e_gO H) (x_eq (E_standing Q.1.1.1) (x_eq bc (x_eq (E_allHolds Q.1.1.1) (Ok_b (E_q_lays V Q.1) (fun M5 z => ?_))))))
      rw [o_add (by omega), o_add (by omega)]
      exact hk ⟨z.1, by rw [z.2]; exact Q.2⟩
    · have := i_nle c
      refine Ok_e c (x_eq (e_gO H) (Ok_b (E_drinks g.1.1.1 g.1.1.2 Q) (fun M7 z => ?_)))
      have D := dk_g g.1.1.1 g.1.1.2 _ (Nat.le_refl (hs_m (s_dn r (X0, ρ) k).2))
      have e4 := D.2.1 4 (by decide)
      refine x_eq (e_gC z.1.1.1.1) (Ok_b (E_D_year z (by rw [show (s_dk (s_dn r (X0, ρ) k) (hs_m (s_dn r (X0, ρ) k).2)).2 4 = (s_dn r (X0, ρ) k).2 4 from e4]; omega)) (fun q z2 => ?_))
      obtain ⟨v, M10⟩ := q
      exact ih (k + 1) z2 (i_nx hl (by omega)) (by omega) (by omega)
theorem E_drawn_L65 {r : s_Ru} {ρ : Nat → Int32} {X0 : Int} {nn jj : Nat} {l1 l2 l3 : Int32} (V : s_V ρ) (hy : 0 ≤ (ρ 4).toInt ∧ (ρ 4).toInt ≤ 999) (hX : 0 ≤ X0) (h1 : l1.toInt = (jj : Int)) (hj10 : jj ≤ 10) (h2 : l2.toInt = (nn : Int)) (hn60 : nn ≤ 60) : ∀ (n j : Nat) {l6 : Int32} {M : gM}, e_D r ρ (s_dm r X0 ρ nn j).1 M ρ → l6.toInt = (j : Int) → j ≤ jj → jj - j < n → Ok (F_X12_drawn_L65 n (some 175) l1 l2 l3 (Int32.ofNat (s_dm r X0 ρ nn j).2.1) (Int32.ofNat (s_dm r X0 ρ nn j).2.2) l6 M) (fun q => q.1 = Int32.ofNat (s_dw l3 (s_dm r X0 ρ nn jj)) ∧ ∀ j, j < 157 → q.2.2.1 185 j = ρ j) := by
  intro n
  induction n with
  | zero => intro j l6 M _ _ _ _; omega
  | succ n ih =>
    intro j l6 M Q hl hj hn
    have g := dm_g (r := r) (n := nn) V hX hy (by omega) j
    show Ok (F_X12_drawn_b65 (F_X12_drawn_L65 n) (some 175) l1 l2 l3 _ _ l6 M) _
    delta F_X12_drawn_b65
    by_cases c : l1 ≤ l6
    · have := i_le c
      have e0 : j = jj := by omega
      subst e0
      refine Ok_t c (Ok_i (fun d => Ok_s ⟨?_, q_done Q.1⟩) (fun d => Ok_s ⟨?_, q_done Q.1⟩))
      · unfold s_dw
        rw [if_pos d]
      · unfold s_dw
        rw [if_neg d]
    · have := i_nle c
      refine Ok_e c ?_
      refine E_drawn_L74 (k65 := F_X12_drawn_L65 n) (r := r) (ρ := ρ) (X0 := (s_dm r X0 ρ nn j).1) (nn := nn) V hy g.1 h2 hn60 (by omega) (by omega) (fun {M6} Q6 => ?_) g_fuel 0 (l7 := 0) Q rfl (Nat.zero_le _) (n_fu (by omega))
      exact ih (j + 1) Q6 (i_nx hl (by omega)) (by omega) (by omega)
theorem lw9_drawn {L : Nat} {M : gM} {l1 l2 l3 : Int32} (R : lw9 L M) : lw_42 L M (F_X11_drawn (some 2) l1 l2 l3 M) (F_X12_drawn (some 175) l1 l2 l3) := by
  have R8 := R.1
  have G := R8.2
  have hl := lw8_len R8.1.1.1
  refine lw9_qryX R (S_X11_drawn R8.1.1.1.1.1.1 R8.1.1.1.2.1.1.1) (fun M1 H W => S_X12_drawn H W) (by decide) (by decide) (by decide) (by decide) (fun x0 e σ nx sz P I rc Rr C h6 hf => ?_)
  have X := C.1.1.2
  have k2 := G_k2 G
  have V := X.1.1.2.2
  have Q := X.2.2
  have B := q_B_of G hl C h6 hf
  have nn := s_Vn V
  have ke : g_k M e = (1, 0) := X.1.1.1.1.1
  have t5 := X.2.1
  have z0 : (0 : Int32).toInt = 0 := rfl
  have z1 : (1 : Int32).toInt = 1 := rfl
  have z10 : (10 : Int32).toInt = 10 := rfl
  have z60 : (60 : Int32).toInt = 60 := rfl
  by_cases good : ((1 ≤ l1.toInt ∧ l1.toInt ≤ 10) ∧ (1 ≤ l2.toInt ∧ l2.toInt ≤ 60) ∧ (0 ≤ l3.toInt ∧ l3.toInt ≤ 1)) ∧ 0 < (σ 0).toInt
  · obtain ⟨⟨p1, p2, p3⟩, kH⟩ := good
    obtain ⟨jj, hjj⟩ : ∃ N : Nat, l1.toInt = (N : Int) := ⟨l1.toInt.toNat, by omega⟩
    obtain ⟨N, hN⟩ : ∃ N : Nat, l2.toInt = (N : Int) := ⟨l2.toInt.toNat, by omega⟩
    rw [if_pos kH] at t5
    refine ⟨Int32.ofNat (s_dw l3 (s_dm (s_ru Rr (M.2.1 2 13)) (M.2.1 2 14).toInt σ N jj)), ?_, fun M1 X1 E1 f1 f2 => ?_⟩
    · delta F_X11_drawn F_X11_drawn_b0
      refine Ok_e (fun z => by have := i_lt z; omega) (Ok_e (fun z => by have := i_lt z; omega) (Ok_e (fun z => by have := i_lt z; omega) (Ok_e (fun z => by have := i_lt z; omega) (Ok_e (fun z => by have := i_lt z; omega) (Ok_e (fun z => by have := i_lt z; omega) ?_)))))
      refine x_gR k2 C.1.1.1 (x_gI ke t5 (Ok_e (by decide) (x_gI k2 rfl ?_)))
      exact C_drawn_L55 B V Q.1 x0 hjj (by omega) hN (by omega) g_fuel 0 (l5 := 0) (l6 := 0) ⟨M.2.1 2 14, rfl, ⟨rfl, rfl⟩, fun i _ _ => by funext k; rw [mI_if]; split <;> (first | rfl | (rename_i z; rw [z.1, z.2]))⟩ (by unfold s_dw; split <;> rfl) rfl (Nat.zero_le _) (n_fu (by omega))
    · have J := E_inForce E1 h6 (by rw [f1]; exact hf)
      rw [f1] at J
      delta F_X12_drawn F_X12_drawn_b0
      rw [e_gO X1.1, Option.bind_some, E_isHouseX X1, Option.bind_some, if_pos kH, if_neg (by decide), E_in (a := 1) (b := 10) rfl rfl, Option.bind_some, if_pos p1, if_neg (by decide), E_in (a := 1) (b := 60) rfl rfl, Option.bind_some, if_pos p2, if_neg (by decide), E_in (a := 0) (b := 1) rfl rfl, Option.bind_some, if_pos p3, if_neg (by decide)]
      refine y_gI X1.1 (k := 22) rfl (fun v6 e6 h6 => ?_)
      have hv : v6.toInt64.toInt = v6.toInt := Int32.toInt_toInt64 v6
      refine y_pL (S := 2 ^ 53) X1.1 (fun _ => by omega) (fun M7 H7 f7 o7 q7 => ?_)
      have X7 := e_V_fr X1 H7 f7 (by decide)
      have J7 := e_I_m J f7 (by decide)
      refine x_eq (e_gC H7) (Ok_b (E_q_keeps X7 J7) (fun M9 z => ?_))
      exact E_drawn_L65 V Q.1 x0 hjj (by omega) hN (by omega) g_fuel 0 (l6 := 0) ⟨z.1, by rw [z.2, q7, hv, ← e6, f2]; rfl⟩ rfl (Nat.zero_le _) (n_fu (by omega))
  · refine lw9_qn (w := -1) ?_ (fun M1 X1 => ?_)
    · delta F_X11_drawn F_X11_drawn_b0 F_X11_drawn_b41
      by_cases c1 : l1 < 1
      · rw [if_pos c1]
      rw [if_neg c1]
      by_cases c2 : (10 : Int32) < l1
      · rw [if_pos c2]
      rw [if_neg c2]
      by_cases c3 : l2 < 1
      · rw [if_pos c3]
      rw [if_neg c3]
      by_cases c4 : (60 : Int32) < l2
      · rw [if_pos c4]
      rw [if_neg c4]
      by_cases c5 : l3 < 0
      · rw [if_pos c5]
      rw [if_neg c5]
      by_cases c6 : (1 : Int32) < l3
      · rw [if_pos c6]
      rw [if_neg c6]
      have := i_nlt c1
      have := i_nlt c2
      have := i_nlt c3
      have := i_nlt c4
      have := i_nlt c5
      have := i_nlt c6
      rw [if_neg (by omega)] at t5
      rw [t_gR k2 C.1.1.1, Option.bind_some, t_gI ke, Option.bind_some, t5, if_pos rfl]
    · delta F_X12_drawn F_X12_drawn_b0 F_X12_drawn_b41
      rw [e_gO X1.1, Option.bind_some, E_isHouseX X1, Option.bind_some]
      by_cases kH : 0 < (σ 0).toInt
      · rw [if_pos kH, if_neg (by decide), E_in (a := 1) (b := 10) rfl rfl, Option.bind_some]
        by_cases p1 : 1 ≤ l1.toInt ∧ l1.toInt ≤ 10
        · rw [if_pos p1, if_neg (by decide), E_in (a := 1) (b := 60) rfl rfl, Option.bind_some]
          by_cases p2 : 1 ≤ l2.toInt ∧ l2.toInt ≤ 60
          · rw [if_pos p2, if_neg (by decide), E_in (a := 0) (b := 1) rfl rfl, Option.bind_some]
            have p3 : ¬ (0 ≤ l3.toInt ∧ l3.toInt ≤ 1) := fun z => good ⟨⟨p1, p2, z⟩, kH⟩
            rw [if_neg p3, if_pos rfl]
          · rw [if_neg p2, if_pos rfl]
        · rw [if_neg p1, if_pos rfl]
      · rw [if_neg kH, if_pos rfl]
