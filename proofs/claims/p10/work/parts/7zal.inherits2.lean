/-! INHERITS of both -/
theorem wo_neg {σ : Nat → Int32} (V : s_V σ) : ((s_wo σ).toInt < 0 ↔ s_an σ = false) ∧ -1 ≤ (s_wo σ).toInt := by
  have nn := s_Vn V
  unfold s_wo s_an
  cases e : s_mb σ (hs_m σ) with
  | none => exact ⟨⟨fun _ => rfl, fun _ => by decide⟩, by decide⟩
  | some b =>
    have := mb_lt _ _ e
    have h : (Int32.ofNat b).toInt = (b : Int) := i_ofNat (by omega)
    dsimp only
    rw [h]
    exact ⟨⟨fun z => by omega, fun z => by cases z⟩, by omega⟩
noncomputable def s_lp (r : s_Ru) (σ : Nat → Int32) : Nat → Option Nat
  | 0 => none
  | k + 1 => if s_an (s_ny r σ k) = true then some k else s_lp r σ k
theorem lp_lt {r : s_Ru} {σ : Nat → Int32} : ∀ k j, s_lp r σ k = some j → j < k := by
  intro k
  induction k with
  | zero => intro j h; cases h
  | succ k ih =>
    intro j h
    unfold s_lp at h
    split at h
    · obtain rfl := Option.some.inj h
      omega
    · have := ih j h
      omega
/-- none HELD at i: none later -/
theorem ny_an {r : s_Ru} {σ : Nat → Int32} (V : s_V σ) (hy : 0 ≤ (σ 4).toInt ∧ (σ 4).toInt ≤ 999) {i : Nat} (c : s_an (s_ny r σ i) = false) : ∀ d, i + d ≤ 1000 → s_an (s_ny r σ (i + d)) = false := by
  intro d
  induction d with
  | zero => intro _; exact c
  | succ d ih =>
    intro hd
    have V1 := ny_i (r := r) V hy (i + d) (by omega)
    exact yr_an (r := r) (σ := s_ny r σ (i + d)) V1.1.1 (by omega) (ih (by omega))
theorem lp_stay {r : s_Ru} {σ : Nat → Int32} (V : s_V σ) (hy : 0 ≤ (σ 4).toInt ∧ (σ 4).toInt ≤ 999) {i : Nat} (c : s_an (s_ny r σ i) = false) : ∀ d, i + d ≤ 1000 → s_lp r σ (i + d) = s_lp r σ i := by
  intro d
  induction d with
  | zero => intro _; rfl
  | succ d ih =>
    intro hd
    show (if s_an (s_ny r σ (i + d)) = true then some (i + d) else s_lp r σ (i + d)) = _
    rw [if_neg (by rw [ny_an V hy c d (by omega)]; decide)]
    exact ih (by omega)
noncomputable def s_iw (r : s_Ru) (σ : Nat → Int32) (o : Option Nat) : Int32 := match o with
  | none => -2
  | some j => s_wo (s_ny r σ j)
noncomputable def s_iy (r : s_Ru) (σ : Nat → Int32) (o : Option Nat) : Int32 := match o with
  | none => -2
  | some j => s_ny r σ j 4
noncomputable def s_ia (r : s_Ru) (σ : Nat → Int32) (l1 : Int32) : Int32 := if s_lp r σ 201 = some 200 then -3 else if l1 = 0 then s_iw r σ (s_lp r σ 201) else s_iy r σ (s_lp r σ 201)
theorem E_inherits_L32 {r : s_Ru} {ρ : Nat → Int32} {l1 : Int32} (V : s_V ρ) (hy : 0 ≤ (ρ 4).toInt ∧ (ρ 4).toInt ≤ 999) : ∀ (n k : Nat) {l2 l3 l4 : Int32} {M : gM}, e_Q r ρ M (s_ny r ρ k) → l2 = s_iw r ρ (s_lp r ρ k) → l3 = s_iy r ρ (s_lp r ρ k) → l4.toInt = (k : Int) → k ≤ 201 → 201 - k < n → Ok (F_X12_inherits_L32 n (some 175) l1 l2 l3 l4 M) (fun q => q.1 = s_ia r ρ l1 ∧ ∀ j, j < 157 → q.2.2.1 185 j = ρ j) := by
  have z200 : (200 : Int32).toInt = 200 := rfl
  have z0 : (0 : Int32).toInt = 0 := rfl
  intro n
  induction n with
  | zero => intro k l2 l3 l4 M _ _ _ _ _ _; omega
  | succ n ih =>
    intro k l2 l3 l4 M Q h2 h3 hl hk hn
    have V1 := ny_i (r := r) V hy k (by omega)
    show Ok (F_X12_inherits_b32 (F_X12_inherits_L32 n) (some 175) l1 l2 l3 l4 M) _
    delta F_X12_inherits_b32 F_X12_inherits_b61
    by_cases c : (200 : Int32) < l4
    · have := i_lt c
      have e : k = 201 := by omega
      subst e
      refine Ok_t c (x_eq (e_gO Q.1.1.1) (Ok_b (E_q_lays V Q) (fun M2 z => ?_)))
      have X2 := z.1.1.1
      rw [e_sd X2 (k := 4) rfl (by decide)]
      have a4 := i_addc (x := ρ 4) (c := (200 : Int32)) (n := 200) rfl (by omega) (by omega)
      have main : l3 = ρ 4 + (200 : Int32) ↔ s_lp r ρ 201 = some 200 := by
        rw [h3]
        cases e : s_lp r ρ 201 with
        | none =>
          constructor
          · intro z
            have : (-2 : Int32).toInt = (ρ 4 + (200 : Int32)).toInt := congrArg Int32.toInt z
            have z2 : (-2 : Int32).toInt = -2 := rfl
            omega
          · intro z; cases z
        | some j =>
          have lj := lp_lt _ _ e
          have Vj := ny_i (r := r) V hy j (by omega)
          constructor
          · intro z
            have : (s_ny r ρ j 4).toInt = (ρ 4 + (200 : Int32)).toInt := congrArg Int32.toInt z
            have : j = 200 := by omega
            rw [this]
          · intro z
            obtain rfl := Option.some.inj z
            exact Int32.toInt_inj.mp (by show (s_ny r ρ 200 4).toInt = _; omega)
      unfold s_ia
      by_cases d : s_lp r ρ 201 = some 200
      · rw [if_pos d]
        exact Ok_t (main.mpr d) (Ok_s ⟨rfl, q_done z.1⟩)
      · rw [if_neg d]
        refine Ok_e (mt main.mp d) ?_
        by_cases l0 : l1 = 0
        · rw [if_pos l0, if_pos l0]
          exact Ok_s ⟨h2, q_done z.1⟩
        · rw [if_neg l0, if_neg l0]
          exact Ok_s ⟨h3, q_done z.1⟩
    · have := i_nlt c
      refine Ok_e c (x_eq (e_gO Q.1.1.1) (x_eq (E_most Q.1.1) ?_))
      have wn := (wo_neg V1.1.1).1
      refine Ok_i (fun d => ?_) (fun d => ?_)
      · have d := i_lt d
        have ea := wn.mp d
        refine x_eq (e_gO Q.1.1.1) (Ok_b (E_q_year Q (by omega)) (fun q z => ?_))
        obtain ⟨v, M6⟩ := q
        have el : s_lp r ρ (k + 1) = s_lp r ρ k := if_neg (by rw [ea]; decide)
        exact ih (k + 1) z.2 (by rw [el]; exact h2) (by rw [el]; exact h3) (i_nx hl (by omega)) (by omega) (by omega)
      · have d := i_nlt d
        have ea : s_an (s_ny r ρ k) = true := by
          cases e : s_an (s_ny r ρ k) with
          | true => rfl
          | false => have := wn.mpr e; omega
        rw [e_sd Q.1.1 (k := 4) rfl (by decide)]
        refine x_eq (e_gO Q.1.1.1) (Ok_b (E_q_year Q (by omega)) (fun q z => ?_))
        obtain ⟨v, M6⟩ := q
        have el : s_lp r ρ (k + 1) = some k := if_pos ea
        exact ih (k + 1) z.2 (by rw [el]; rfl) (by rw [el]; rfl) (i_nx hl (by omega)) (by omega) (by omega)
theorem C_inherits_L56 {M0 : gM} {e : Nat} {r : s_Ru} {ρ : Nat → Int32} {l1 : Int32} (B : q_B M0 e r ρ) (V : s_V ρ) (hy : 0 ≤ (ρ 4).toInt ∧ (ρ 4).toInt ≤ 999) (ha : s_an ρ = true) : ∀ (n k : Nat) {l2 l3 l4 : Int32} {M : gM}, q_C M0 M e (s_ny r ρ k) → (k = 0 ∨ ∃ j, k = j + 1 ∧ s_lp r ρ k = some j ∧ l2 = s_wo (s_ny r ρ j) ∧ l3 = s_ny r ρ j 4) → l4.toInt = (k : Int) → k ≤ 200 → 200 - k < n → Ok (F_X11_inherits_L56 n (some 2) l1 l2 l3 l4 M) (fun q => q.1 = s_ia r ρ l1 ∧ q_F M0 q.2) := by
  have z200 : (200 : Int32).toInt = 200 := rfl
  have z0 : (0 : Int32).toInt = 0 := rfl
  intro n
  induction n with
  | zero => intro k l2 l3 l4 M _ _ _ _ _; omega
  | succ n ih =>
    intro k l2 l3 l4 M Q hp hl hk hn
    obtain ⟨⟨G, r11⟩, _⟩ := q_G B Q.1
    have g2 := G_k2 G
    obtain ⟨_, ⟨⟨ks, _⟩, _⟩, _⟩ := k_XE Q.2
    have V1 := ny_i (r := r) V hy k (by omega)
    have y5 : M.2.1 14 5 = s_ny r ρ k 4 := Q.2.2.1.2.1.1.2
    have out : (s_an (s_ny r ρ k) = true → k = 200) → Ok (F_X11_inherits_b124 (some 2) l1 l2 l3 M) (fun q => q.1 = s_ia r ρ l1 ∧ q_F M0 q.2) := by
      intro hk2
      delta F_X11_inherits_b124
      refine x_gR g2 (G_r6 G) (x_gR g2 r11 (x_gO ks (x_eq (C_isAnyHeld Q.2) ?_)))
      unfold s_ia
      cases ea : s_an (s_ny r ρ k) with
      | true =>
        have e := hk2 ea
        subst e
        have el : s_lp r ρ 201 = some 200 := if_pos ea
        rw [if_pos rfl, if_neg (by decide), if_pos el]
        exact Ok_s ⟨rfl, Q.1⟩
      | false =>
        have st := lp_stay V hy ea (201 - k) (by omega)
        rw [show k + (201 - k) = 201 by omega] at st
        rcases hp with hp | ⟨j, e1, e2, e3, e4⟩
        · subst hp
          have : s_an ρ = false := ea
          rw [ha] at this
          cases this
        · refine Ok_t rfl ?_
          have nd : ¬ s_lp r ρ 201 = some 200 := by
            rw [st, e2]
            intro z
            have := Option.some.inj z
            omega
          rw [if_neg nd, st, e2]
          by_cases l0 : l1 = 0
          · rw [if_pos l0, if_pos l0]
            exact Ok_s ⟨e3, Q.1⟩
          · rw [if_neg l0, if_neg l0]
            exact Ok_s ⟨e4, Q.1⟩
    show Ok (F_X11_inherits_b56 (F_X11_inherits_L56 n) (some 2) l1 l2 l3 l4 M) _
    delta F_X11_inherits_b56
    by_cases c : (200 : Int32) ≤ l4
    · have := i_le c
      exact Ok_t c (out (fun _ => by omega))
    · have := i_nle c
      refine Ok_e c (x_gR g2 (G_r6 G) (x_gR g2 r11 (x_gO ks (x_eq (C_isAnyHeld Q.2) ?_))))
      cases ea : s_an (s_ny r ρ k) with
      | false =>
        exact Ok_t rfl (out (fun z => by rw [ea] at z; cases z))
      | true =>
        rw [if_pos rfl]
        refine Ok_e (by decide) (x_gR g2 (G_r6 G) (x_gR g2 r11 (x_gO ks (x_eq (C_holdsMost Q.2) ?_))))
        refine x_gR g2 (G_r6 G) (x_gI ks y5 (x_gR g2 (G_r4 G) (x_gR g2 r11 (x_gR g2 (G_r6 G) (x_gO g2 ?_)))))
        refine Ok_b (C_q_rule B Q.1) (fun rl J => ?_)
        refine x_gO (G_k4 G) (Ok_b (C_q_year B Q (by omega) J) (fun q z => ?_))
        obtain ⟨v, M18⟩ := q
        exact ih (k + 1) z (Or.inr ⟨k, rfl, if_pos ea, rfl, rfl⟩) (i_nx hl (by omega)) (by omega) (by omega)
theorem lw9_inherits {L : Nat} {M : gM} {l1 : Int32} (R : lw9 L M) : lw_42 L M (F_X11_inherits (some 2) l1 M) (F_X12_inherits (some 175) l1) := by
  have R8 := R.1
  have G := R8.2
  have hl := lw8_len R8.1.1.1
  refine lw9_qry R (S_X11_inherits R8.1.1.1.1.1.1 R8.1.1.1.2.1.1.1) (fun M1 H W => S_X12_inherits H W) (by decide) (by decide) (by decide) (by decide) (fun e σ nx sz P I rc Rr C h6 hf => ?_)
  have X := C.1.1.2
  have k2 := G_k2 G
  have V := X.1.1.2.2
  have Q := X.2.2
  have z0 : (0 : Int32).toInt = 0 := rfl
  have z1 : (1 : Int32).toInt = 1 := rfl
  have B := q_B_of G hl C h6 hf
  have nn := s_Vn V
  have ke : g_k M e = (1, 0) := X.1.1.1.1.1
  have ks : g_k M 9 = (8, 0) := X.1.1.1.2.1.1
  have t5 := X.2.1
  by_cases c : 0 ≤ l1.toInt ∧ l1.toInt ≤ 1
  · by_cases kH : 0 < (σ 0).toInt
    · rw [if_pos kH] at t5
      refine ⟨s_ia (s_ru Rr (M.2.1 2 13)) σ l1, ?_, fun M1 X1 E1 f1 _ => ?_⟩
      · delta F_X11_inherits F_X11_inherits_b0
        rw [if_neg (fun z => by have := i_lt z; omega), if_neg (fun z => by have := i_lt z; omega)]
        refine x_gR k2 C.1.1.1 (x_gI ke t5 ?_)
        rw [if_neg (by decide)]
        refine x_gR k2 (G_r5 G) (x_gR k2 C.1.1.1 (x_gO ks (x_eq (C_isAnyHeld X.1.1) ?_)))
        cases ea : s_an σ with
        | false =>
          have st := lp_stay (r := s_ru Rr (M.2.1 2 13)) (i := 0) V Q.1 ea 201 (by omega)
          have st' : s_lp (s_ru Rr (M.2.1 2 13)) σ 201 = none := st
          refine Ok_t rfl (Ok_s ⟨?_, w_F_r⟩)
          unfold s_ia
          have nd : ¬ s_lp (s_ru Rr (M.2.1 2 13)) σ 201 = some 200 := by
            rw [st']
            intro z
            cases z
          rw [if_neg nd, st']
          by_cases l0 : l1 = 0
          · rw [if_pos l0]; rfl
          · rw [if_neg l0]; rfl
        | true =>
          rw [if_pos rfl]
          refine Ok_e (by decide) (x_gR k2 (G_r6 G) (x_gR k2 (G_r5 G) (x_gO (k_LS_of G (s := 14) (by decide)).1.1 ?_)))
          refine Ok_b (C_q_copy B q_F_r) (fun M10 q => ?_)
          exact Ok_w (C_inherits_L56 B V Q.1 ea g_fuel 0 (l4 := 0) q (Or.inl rfl) rfl (Nat.zero_le _) (n_fu (by omega))) (fun x z => ⟨z.1, q_F_w z.2⟩)
      · have J := E_inForce E1 h6 (by rw [f1]; exact hf)
        rw [f1] at J
        delta F_X12_inherits F_X12_inherits_b0
        rw [e_gO X1.1, Option.bind_some, E_isHouseX X1, Option.bind_some, if_pos kH, if_neg (by decide), E_in (a := 0) (b := 1) rfl rfl, Option.bind_some, if_pos c, if_neg (by decide)]
        refine Ok_b (E_q_keeps X1 J) (fun M4 z => ?_)
        exact E_inherits_L32 V Q.1 g_fuel 0 (l4 := 0) z.1 rfl rfl rfl (Nat.zero_le _) (n_fu (by omega))
    · rw [if_neg kH] at t5
      refine lw9_qn (w := -1) ?_ (fun M1 X1 => ?_)
      · delta F_X11_inherits F_X11_inherits_b0 F_X11_inherits_b19
        rw [if_neg (fun z => by have := i_lt z; omega), if_neg (fun z => by have := i_lt z; omega), t_gR k2 C.1.1.1, Option.bind_some, t_gI ke, Option.bind_some, t5, if_pos rfl]
      · delta F_X12_inherits F_X12_inherits_b0 F_X12_inherits_b17
        rw [e_gO X1.1, Option.bind_some, E_isHouseX X1, Option.bind_some, if_neg kH, if_pos rfl]
  · refine lw9_qn (w := -1) ?_ (fun M1 X1 => ?_)
    · delta F_X11_inherits F_X11_inherits_b0 F_X11_inherits_b19
      by_cases d : l1 < 0
      · rw [if_pos d]
      · have := i_nlt d
        rw [if_neg d, if_pos (Int32.lt_iff_toInt_lt.mpr (by omega))]
    · delta F_X12_inherits F_X12_inherits_b0 F_X12_inherits_b17
      rw [e_gO X1.1, Option.bind_some, E_isHouseX X1, Option.bind_some]
      by_cases kH : 0 < (σ 0).toInt
      · rw [if_pos kH, if_neg (by decide), E_in (a := 0) (b := 1) rfl rfl, Option.bind_some, if_neg c, if_pos rfl]
      · rw [if_neg kH, if_pos rfl]
