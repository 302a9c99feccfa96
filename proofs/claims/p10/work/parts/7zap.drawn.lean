/-! DRAWN -/
def s_dr (X : Int) : Int := (X * 1103515245 + 12345) % 2147483648
theorem dr_r {X : Int} : 0 ≤ s_dr X ∧ s_dr X < 2147483648 := by unfold s_dr; omega
def s_dk1 (q : Int × (Nat → Int32)) (h : Nat) : Int × (Nat → Int32) := if (s_dr q.1 / 65536) % 100 < (q.2 (39 + 2 * h)).toInt ∧ 0 < hs_n q.2 then (s_dr (s_dr q.1), s_kw q.2 h ((s_dr (s_dr q.1) / 65536) % (hs_n q.2 : Int)).toNat 0 0) else (s_dr q.1, q.2)
def s_dk (q : Int × (Nat → Int32)) : Nat → Int × (Nat → Int32)
  | 0 => q
  | h + 1 => s_dk1 (s_dk q h) h
noncomputable def s_dy (r : s_Ru) (q : Int × (Nat → Int32)) : Int × (Nat → Int32) := ((s_dk q (hs_m q.2)).1, (s_yr r (s_dk q (hs_m q.2)).2).2)
noncomputable def s_dn (r : s_Ru) (q : Int × (Nat → Int32)) : Nat → Int × (Nat → Int32)
  | 0 => q
  | k + 1 => s_dy r (s_dn r q k)
def s_sn (σ : Nat → Int32) : Nat := c_n (fun t => decide ((σ (13 + 4 * t)).toInt < 0)) (hs_n σ)
/-- runs: the number, what stands together, what is HELD together -/
noncomputable def s_dm (r : s_Ru) (X : Int) (ρ : Nat → Int32) (n : Nat) : Nat → Int × Nat × Nat
  | 0 => (X, 0, 0)
  | j + 1 => ((s_dn r ((s_dm r X ρ n j).1, ρ) n).1, (s_dm r X ρ n j).2.1 + s_sn (s_dn r ((s_dm r X ρ n j).1, ρ) n).2, (s_dm r X ρ n j).2.2 + s_al (s_dn r ((s_dm r X ρ n j).1, ρ) n).2)
/-- what stays over a drink -/
def s_dg (ρ : Nat → Int32) (q : Int × (Nat → Int32)) : Prop := (s_V q.2 ∧ 0 ≤ q.1) ∧ (∀ j, j < 59 → q.2 j = ρ j) ∧ ∀ j, 157 ≤ j → q.2 j = ρ j
theorem dg_nm {ρ : Nat → Int32} {q : Int × (Nat → Int32)} (D : s_dg ρ q) : hs_n q.2 = hs_n ρ ∧ hs_m q.2 = hs_m ρ := nm_of (fun j hj => D.2.1 j (by omega))
theorem dk_t {n : Nat} {X : Int} (hn : 0 < n) (h7 : n ≤ 7) : ((X / 65536) % (n : Int)).toNat < n := by
  have a := Int.emod_nonneg (X / 65536) (b := (n : Int)) (by omega)
  have b := Int.emod_lt_of_pos (X / 65536) (b := (n : Int)) (by omega)
  omega
theorem dk1_g {ρ : Nat → Int32} {q : Int × (Nat → Int32)} {h : Nat} (D : s_dg ρ q) (hh : h < hs_m ρ) : s_dg ρ (s_dk1 q h) := by
  obtain ⟨⟨V, hX⟩, D1, D2⟩ := D
  have nn := s_Vn V
  have nm := dg_nm ⟨⟨V, hX⟩, D1, D2⟩
  unfold s_dk1
  split
  · rename_i c
    have t := dk_t (X := s_dr (s_dr q.1)) c.2 nn.1.2
    refine ⟨⟨kw_V V (by omega) (by decide) (fun z => absurd z (by decide)), dr_r.1⟩, fun j hj => (kw_lo hj).trans (D1 j hj), fun j hj => ?_⟩
    exact (kw_hi (by omega) (by omega) hj).trans (D2 j hj)
  · exact ⟨⟨V, dr_r.1⟩, D1, D2⟩
theorem dk_g {ρ : Nat → Int32} {X : Int} (V : s_V ρ) (hX : 0 ≤ X) : ∀ h, h ≤ hs_m ρ → s_dg ρ (s_dk (X, ρ) h) := by
  intro h
  induction h with
  | zero => intro _; exact ⟨⟨V, hX⟩, fun _ _ => rfl, fun _ _ => rfl⟩
  | succ h ih => intro hh; exact dk1_g (ih (by omega)) (by omega)
/-- after k YEARS -/
theorem dn_g {r : s_Ru} {ρ : Nat → Int32} {X : Int} (V : s_V ρ) (hX : 0 ≤ X) (hy : 0 ≤ (ρ 4).toInt ∧ (ρ 4).toInt ≤ 999) : ∀ k, k ≤ 100 → ((s_V (s_dn r (X, ρ) k).2 ∧ 0 ≤ (s_dn r (X, ρ) k).1) ∧ ((s_dn r (X, ρ) k).2 4).toInt = (ρ 4).toInt + k) ∧ ∀ j, j < 10 → j ≠ 4 → (s_dn r (X, ρ) k).2 j = ρ j := by
  intro k
  induction k with
  | zero => intro _; exact ⟨⟨⟨V, hX⟩, by show (ρ 4).toInt = (ρ 4).toInt + 0; omega⟩, fun _ _ _ => rfl⟩
  | succ k ih =>
    intro hk
    obtain ⟨⟨⟨a1, a2⟩, a3⟩, a4⟩ := ih (by omega)
    have D := dk_g (ρ := (s_dn r (X, ρ) k).2) (X := (s_dn r (X, ρ) k).1) a1 a2 _ (Nat.le_refl _)
    have e4 := D.2.1 4 (by decide)
    refine ⟨⟨⟨yr_Vx D.1.1 (by rw [e4]; omega), D.1.2⟩, ?_⟩, fun j h1 h2 => (yr_lo D.1.1 h1 h2).trans ((D.2.1 j (by omega)).trans (a4 j h1 h2))⟩
    show ((s_yr r (s_dk ((s_dn r (X, ρ) k).1, (s_dn r (X, ρ) k).2) (hs_m (s_dn r (X, ρ) k).2)).2).2 4).toInt = _
    rw [yr_4 D.1.1, e4, i_addc (n := 1) rfl (by omega) (by omega)]
    omega
theorem dn_nm {r : s_Ru} {ρ : Nat → Int32} {X : Int} (V : s_V ρ) (hX : 0 ≤ X) (hy : 0 ≤ (ρ 4).toInt ∧ (ρ 4).toInt ≤ 999) {k : Nat} (hk : k ≤ 100) : hs_n (s_dn r (X, ρ) k).2 = hs_n ρ ∧ hs_m (s_dn r (X, ρ) k).2 = hs_m ρ := nm_of (fun j hj => (dn_g V hX hy k hk).2 j (by omega) (by omega))
theorem dm_g {r : s_Ru} {ρ : Nat → Int32} {X : Int} {n : Nat} (V : s_V ρ) (hX : 0 ≤ X) (hy : 0 ≤ (ρ 4).toInt ∧ (ρ 4).toInt ≤ 999) (hn : n ≤ 100) : ∀ j, 0 ≤ (s_dm r X ρ n j).1 ∧ (s_dm r X ρ n j).2.1 ≤ 49 * j ∧ (s_dm r X ρ n j).2.2 ≤ 49 * j := by
  intro j
  induction j with
  | zero => exact ⟨hX, Nat.le_refl _, Nat.le_refl _⟩
  | succ j ih =>
    have g := dn_g (r := r) V ih.1 hy n hn
    have a := s_al_le g.1.1.1
    have nn := s_Vn g.1.1.1
    have b : s_sn (s_dn r ((s_dm r X ρ n j).1, ρ) n).2 ≤ 7 := Nat.le_trans (c_n_le _) nn.1.2
    refine ⟨g.1.1.2, ?_, ?_⟩
    · show (s_dm r X ρ n j).2.1 + s_sn _ ≤ _
      omega
    · show (s_dm r X ρ n j).2.2 + s_al _ ≤ _
      omega
/-! of the class -/
def q_X (M0 : gM) (e : Nat) (X : Int) (M : gM) (σ : Nat → Int32) : Prop := ∃ x : Int32, x.toInt = X ∧ q_C (mI M0 2 14 x) M e σ
theorem q_B_x {M0 : gM} {e : Nat} {r : s_Ru} {ρ : Nat → Int32} {x : Int32} (B : q_B M0 e r ρ) : q_B (mI M0 2 14 x) e r ρ := by
  obtain ⟨⟨⟨G, hl⟩, r11, X⟩, rc, Rr, ⟨Cr, h6⟩, hf, er⟩ := B
  have wh := X.1.2
  have f : w_F (fun i => i = 2) M0 (mI M0 2 14 x) := w_F_mI rfl
  refine ⟨⟨⟨k_G_eq G rfl rfl, hl⟩, r11, w_X_F X f (fun i a b => by omega) (fun i a b => by unfold w_h at wh; omega)⟩, rc, Rr, ⟨w_Cr_F Cr hl f (mI_ne (by omega)) (fun i z => by omega), h6⟩, ?_, ?_⟩
  · rw [mI_ne (by omega)]
    exact hf
  · rw [mI_ne (by omega)]
    exact er
theorem q_C_x {M0 M : gM} {e : Nat} {r : s_Ru} {ρ σ : Nat → Int32} {x y : Int32} (B : q_B M0 e r ρ) (Q : q_C (mI M0 2 14 x) M e σ) : q_C (mI M0 2 14 y) (mI M 2 14 y) e σ := by
  have wh := B.1.2.2.1.2
  refine ⟨⟨⟨Q.1.1.1, Q.1.1.2⟩, fun i a b => ?_⟩, ?_⟩
  · by_cases c : i = 2
    · subst c
      funext k
      have := congrFun (Q.1.2 2 a b) k
      rw [mI_if, mI_if]
      rw [mI_if] at this
      by_cases k14 : k = 14
      · rw [if_pos ⟨rfl, k14⟩, if_pos ⟨rfl, k14⟩]
      · rw [if_neg (fun z => k14 z.2), if_neg (fun z => k14 z.2), this, if_neg (fun z => k14 z.2)]
    · funext k
      have := congrFun (Q.1.2 i a b) k
      rw [mI_ne (Or.inl c)] at this
      rw [mI_ne (Or.inl c), mI_ne (Or.inl c), this]
  · have X := Q.2
    exact ⟨⟨k_LEm X.1.1 (fun i => rfl) rfl, k_LSm X.1.2 (fun i => rfl) rfl⟩, ⟨k_Em X.2.1.1 (fun i k h1 h2 _ => mI_ne (by unfold w_h at wh; omega)), k_Sm X.2.1.2 (fun i k h1 h2 => mI_ne (by omega))⟩, X.2.2⟩
theorem C_draw {M0 M : gM} {e : Nat} {r : s_Ru} {ρ σ : Nat → Int32} {X : Int} (B : q_B M0 e r ρ) (Q : q_X M0 e X M σ) (hX : 0 ≤ X) : Ok (F_X11_draw (some 2) M) (fun q => q.1.toInt = s_dr X / 65536 ∧ q_X M0 e (s_dr X) q.2 σ) := by
  obtain ⟨x, hx, Q⟩ := Q
  have G := (q_G (q_B_x B) Q.1).1.1
  have g2 := G_k2 G
  have ex : M.2.1 2 14 = x := by
    rw [Q.1.2 2 (by omega) (by omega)]
    exact y_mI1
  have xr := i_rng x
  delta F_X11_draw F_X11_draw_b0
  refine x_gI g2 ex (x_pI g2 ?_)
  have hl := q_lcg (v := x) (by omega)
  rw [hx] at hl
  obtain ⟨y, hy⟩ : ∃ y : Int32, y = (((((x).toInt64 * (1103515245 : Int64)) + (12345 : Int64)) - (((x).toInt64 * (1103515245 : Int64)) + (12345 : Int64)) / (2147483648 : Int64) * (2147483648 : Int64))).toInt32 := ⟨_, rfl⟩
  rw [← hy] at hl ⊢
  have g2' : g_k (mI M 2 14 y) 2 = (11, 0) := g2
  refine x_gI g2' y_mI1 (Ok_s ⟨?_, y, hl, q_C_x B Q⟩)
  have d := dr_r (X := X)
  have e : y.toInt = s_dr X := hl
  have := i_div (x := y) (c := (65536 : Int32)) (n := 65536) rfl (by decide) (by omega)
  dsimp only
  rw [this, e]
theorem C_drink_L2 {M0 : gM} {e : Nat} {r : s_Ru} {ρ : Nat → Int32} {σ : Nat → Int32} {X : Int} (B : q_B M0 e r ρ) (V : s_V σ) (hX : 0 ≤ X) : ∀ (n h : Nat) {l1 : Int32} {M : gM}, q_X M0 e (s_dk (X, σ) h).1 M (s_dk (X, σ) h).2 → l1.toInt = (h : Int) → h ≤ hs_m σ → hs_m σ - h < n → Ok (F_X11_drinkLater_L2 n (some 2) l1 M) (fun M' => q_X M0 e (s_dk (X, σ) (hs_m σ)).1 M' (s_dk (X, σ) (hs_m σ)).2) := by
  have nn := s_Vn V
  have wh := B.1.2.2.1.2
  have z0 : (0 : Int32).toInt = 0 := rfl
  intro n
  induction n with
  | zero => intro h l1 M _ _ _ _; omega
  | succ n ih =>
    intro h l1 M Q hl hh hn
    have D := dk_g V hX h hh
    have nm := dg_nm D
    have nn1 := s_Vn D.1.1
    obtain ⟨x, hx, Q'⟩ := Q
    obtain ⟨⟨G, r11⟩, _⟩ := q_G (q_B_x B) Q'.1
    have g2 := G_k2 G
    obtain ⟨⟨ke, ⟨e6, e7⟩, _⟩, _⟩ := k_XE Q'.2
    show Ok (F_X11_drinkLater_b2 (F_X11_drinkLater_L2 n) (some 2) l1 M) _
    delta F_X11_drinkLater_b2
    refine x_gR g2 r11 (x_gI ke e7 ?_)
    by_cases c : (s_dk (X, σ) h).2 2 ≤ l1
    · have := i_le c
      have eh : h = hs_m σ := by omega
      subst eh
      exact Ok_t c (Ok_s ⟨x, hx, Q'⟩)
    · have := i_nle c
      refine Ok_e c (x_gO g2 (Ok_b (C_draw B ⟨x, hx, Q'⟩ D.1.2) (fun q z => ?_)))
      obtain ⟨v4, M5⟩ := q
      obtain ⟨z1, z2⟩ := z
      dsimp only at z1 z2 ⊢
      obtain ⟨x5, hx5, Q5⟩ := z2
      obtain ⟨⟨G5, r5⟩, _⟩ := q_G (q_B_x B) Q5.1
      have k5 := k_XE Q5.2
      have R3 : g_k M5 (e + 4) = (20, 7) ∧ M5.2.2.2 e 3 = some (e + 4) := k_XR (i := 3) Q5.2 (by decide)
      have e39 : M5.2.1 (e + 4) h = (s_dk (X, σ) h).2 (39 + 2 * h) := (Q5.2.2.1.1.2.2.2 h (by omega)).1
      have m100 := i_mod (x := v4) (c := (100 : Int32)) (n := 100) rfl (by decide) (by have := dr_r (X := (s_dk (X, σ) h).1); omega)
      rw [z1] at m100
      have skip : ∀ {s0 : Int32}, (s0 = 0 ∨ hs_n σ = 0) → s_dk (X, σ) (h + 1) = (s_dr (s_dk (X, σ) h).1, (s_dk (X, σ) h).2) → Ok (F_X11_drinkLater_b37 (F_X11_drinkLater_L2 n) (some 2) l1 s0 M5) (fun M' => q_X M0 e (s_dk (X, σ) (hs_m σ)).1 M' (s_dk (X, σ) (hs_m σ)).2) := by
        intro s0 hs es
        have go : Ok (F_X11_drinkLater_b72 (F_X11_drinkLater_L2 n) (some 2) l1 M5) (fun M' => q_X M0 e (s_dk (X, σ) (hs_m σ)).1 M' (s_dk (X, σ) (hs_m σ)).2) := by
          delta F_X11_drinkLater_b72
          exact ih (h + 1) (by rw [es]; exact ⟨x5, hx5, Q5⟩) (i_nx hl (by omega)) (by omega) (by omega)
        delta F_X11_drinkLater_b37
        refine Ok_i (fun _ => go) (fun d => ?_)
        have hs0 : hs_n σ = 0 := by
          rcases hs with z | z
          · exact absurd z d
          · exact z
        refine x_gR (G_k2 G5) r5 (x_gI k5.1.1 k5.1.2.1.1 (Ok_t (Int32.le_iff_toInt_le.mpr (by omega)) go))
      refine x_gR (G_k2 G5) r5 (x_gR k5.1.1 R3.2 (x_aI R3.1 hl (by omega) e39 ?_))
      have un : s_dk (X, σ) (h + 1) = s_dk1 (s_dk (X, σ) h) h := rfl
      refine Ok_i (fun d => ?_) (fun d => ?_)
      · have := i_le d
        refine skip (Or.inl rfl) ?_
        rw [un]
        unfold s_dk1
        rw [if_neg (by omega)]
      · have := i_nle d
        by_cases n0 : hs_n σ = 0
        · refine skip (Or.inr n0) ?_
          rw [un]
          unfold s_dk1
          rw [if_neg (by omega)]
        · delta F_X11_drinkLater_b37 F_X11_drinkLater_b72
          refine Ok_e (by decide) (x_gR (G_k2 G5) r5 (x_gI k5.1.1 k5.1.2.1.1 (Ok_e (fun z => by have := i_le z; omega) ?_)))
          refine x_gR (G_k2 G5) (G_r6 G5) (x_gO (G_k2 G5) ?_)
          refine Ok_b (C_draw B ⟨x5, hx5, Q5⟩ dr_r.1) (fun q z => ?_)
          obtain ⟨v5, M6⟩ := q
          obtain ⟨y1, y2⟩ := z
          dsimp only at y1 y2 ⊢
          obtain ⟨x6, hx6, Q6⟩ := y2
          obtain ⟨⟨G6, r6⟩, _⟩ := q_G (q_B_x B) Q6.1
          have k6 := k_XE Q6.2
          have t := dk_t (X := s_dr (s_dr (s_dk (X, σ) h).1)) (n := hs_n (s_dk (X, σ) h).2) (by omega) (by omega)
          have a := Int.emod_nonneg (s_dr (s_dr (s_dk (X, σ) h).1) / 65536) (b := (hs_n (s_dk (X, σ) h).2 : Int)) (by omega)
          have mo := i_mod (x := v5) (c := (s_dk (X, σ) h).2 1) nn1.1.1 (by omega) (by have := dr_r (X := s_dr (s_dk (X, σ) h).1); omega)
          rw [y1] at mo
          refine x_gR (G_k2 G6) r6 (x_gI k6.1.1 k6.1.2.1.1 (Ok_e (fun z => by rw [z] at nn1; omega) ?_))
          refine x_gO (k_LS_of G6 (s := 14) (by decide)).1.1 ?_
          refine Ok_b (C_forgetX (a := 0) (h := h) (t := ((s_dr (s_dr (s_dk (X, σ) h).1) / 65536) % (hs_n (s_dk (X, σ) h).2 : Int)).toNat) Q6.2 (by unfold w_h at wh; omega) hl (by rw [mo]; omega) (by omega) (by omega)) (fun M11 z => ?_)
          have es : s_dk (X, σ) (h + 1) = (s_dr (s_dr (s_dk (X, σ) h).1), s_kw (s_dk (X, σ) h).2 h ((s_dr (s_dr (s_dk (X, σ) h).1) / 65536) % (hs_n (s_dk (X, σ) h).2 : Int)).toNat 0 0) := by
            rw [un]
            unfold s_dk1
            rw [if_pos (by omega)]
          exact ih (h + 1) (by rw [es]; exact ⟨x6, hx6, q_F_t Q6.1 (q_F_s z.1), z.2⟩) (i_nx hl (by omega)) (by omega) (by omega)
