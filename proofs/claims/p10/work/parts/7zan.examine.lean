/-! EXAMINE -/
def s_xa (σ : Nat → Int32) (i : Nat) : Nat := s_al (s_ak σ (i / hs_n σ) (i % hs_n σ))
def s_bx (σ : Nat → Int32) : Nat → Nat
  | 0 => 0
  | i + 1 => if s_xa σ (i + 1) < s_xa σ (s_bx σ i) then i + 1 else s_bx σ i
theorem bx_le {σ : Nat → Int32} : ∀ k, s_bx σ k ≤ k := by
  intro k
  induction k with
  | zero => exact Nat.le_refl _
  | succ k ih =>
    unfold s_bx
    split
    · exact Nat.le_refl _
    · omega
theorem ak_V {σ : Nat → Int32} {h t : Nat} (V : s_V σ) (ht : t < 7) : s_V (s_ak σ h t) := by
  unfold s_ak
  split
  · exact kw_V V ht (by decide) (fun z => absurd z (by decide))
  · exact V
theorem ak_hi {σ : Nat → Int32} {h t j : Nat} (hh : h < 7) (ht : t < 7) (hj : 157 ≤ j) : s_ak σ h t j = σ j := by
  unfold s_ak
  split
  · exact kw_hi hh ht hj
  · rfl
theorem C_behind {M0 M : gM} {e a b : Nat} {r : s_Ru} {ρ : Nat → Int32} {l1 : Int32} (B : q_B M0 e r ρ) (f : q_F M0 M) (V : s_V ρ) (h1 : l1.toInt = ((7 * a + b : Nat) : Int)) (ha : a < hs_m ρ) (hb : b < hs_n ρ) : Ok (F_X11_heldBehindAsk (some 2) l1 M) (fun q => q.1 = Int32.ofNat (s_al (s_ak ρ a b)) ∧ q_F M0 q.2) := by
  obtain ⟨⟨G, r11⟩, X9⟩ := q_G B f
  have g2 := G_k2 G
  have nn := s_Vn V
  have wh := X9.1.2
  delta F_X11_heldBehindAsk F_X11_heldBehindAsk_b0
  refine x_gR g2 (G_r6 G) (x_gR g2 (G_r5 G) (x_gO (k_LS_of G (s := 14) (by decide)).1.1 ?_))
  refine Ok_b (C_q_copy B f) (fun M4 q => ?_)
  obtain ⟨⟨G4, r4⟩, _⟩ := q_G B q.1
  have d7 := i_div (x := l1) (c := (7 : Int32)) (n := 7) rfl (by omega) (by omega)
  have m7 := i_mod (x := l1) (c := (7 : Int32)) (n := 7) rfl (by omega) (by omega)
  refine x_gR (G_k2 G4) (G_r6 G4) (x_gR (G_k2 G4) r4 (x_gO (k_LS_of G4 (s := 14) (by decide)).1.1 ?_))
  refine Ok_b (C_isAsked q.2 (by unfold w_h at wh; omega) (h := a) (t := b) (by omega) (by omega) ha (by omega)) (fun M8 z => ?_)
  have q8 : q_C M0 M8 e (s_ak ρ a b) := ⟨q_F_t q.1 (q_F_s z.1), z.2⟩
  obtain ⟨⟨G8, r8⟩, _⟩ := q_G B q8.1
  refine x_gR (G_k2 G8) (G_r6 G8) (x_gR (G_k2 G8) r8 (x_gO (k_LS_of G8 (s := 14) (by decide)).1.1 (x_eq (C_heldTogether q8.2) ?_)))
  exact Ok_s ⟨rfl, q8.1⟩
theorem xa_of {σ : Nat → Int32} {a b : Nat} (hb : b < hs_n σ) : s_xa σ (hs_n σ * a + b) = s_al (s_ak σ a b) := by
  unfold s_xa
  rw [Nat.mul_add_div (by omega), Nat.div_eq_of_lt hb, Nat.mul_add_mod, Nat.mod_eq_of_lt hb, Nat.add_zero]
def s_xw (σ : Nat → Int32) (l1 : Int32) : Int32 := if l1 = 2 then Int32.ofNat (s_xa σ (s_bx σ (hs_n σ * hs_m σ - 1))) else if l1 = 0 then Int32.ofNat (s_bx σ (hs_n σ * hs_m σ - 1) / hs_n σ) else Int32.ofNat (s_bx σ (hs_n σ * hs_m σ - 1) % hs_n σ)
theorem xa_le {σ : Nat → Int32} (V : s_V σ) (hn : 0 < hs_n σ) (i : Nat) : s_xa σ i ≤ 49 := by
  have nn := s_Vn V
  have := Nat.mod_lt i hn
  exact s_al_le (ak_V V (by omega))
theorem C_examine_L55 {M0 : gM} {e : Nat} {r : s_Ru} {ρ : Nat → Int32} {l1 : Int32} (B : q_B M0 e r ρ) (V : s_V ρ) (hn0 : 0 < hs_n ρ) (hm0 : 0 < hs_m ρ) : ∀ (n a b k : Nat) {l2 l3 l4 : Int32} {M : gM}, q_F M0 M → b < 7 → a ≤ hs_m ρ → (a < hs_m ρ ∨ b = 0) → k + 1 = hs_n ρ * a + (if b < hs_n ρ then b else hs_n ρ) → l2.toInt = ((7 * (s_bx ρ k / hs_n ρ) + s_bx ρ k % hs_n ρ : Nat) : Int) → l3 = Int32.ofNat (s_xa ρ (s_bx ρ k)) → l4.toInt = ((7 * a + b : Nat) : Int) → 7 * hs_m ρ - (7 * a + b) < n → Ok (F_X11_examine_L55 n (some 2) l1 l2 l3 l4 M) (fun q => q.1 = s_xw ρ l1 ∧ q_F M0 q.2) := by
  have nn := s_Vn V
  have z7 : (7 : Int32).toInt = 7 := rfl
  have mul7 := i_mulR (c := (7 : Int32)) (x := ρ 2) (n := 7) rfl (by omega) (by omega)
  intro n
  induction n with
  | zero => intro a b k l2 l3 l4 M _ _ _ _ _ _ _ _ _; omega
  | succ n ih =>
    intro a b k l2 l3 l4 M f hb7 ham hab hk h2 h3 h4 hn
    obtain ⟨⟨G, r11⟩, X9⟩ := q_G B f
    have g2 := G_k2 G
    obtain ⟨⟨ke, ⟨e6, e7⟩, _⟩, _⟩ := k_XE X9.1.1
    have bl := bx_le (σ := ρ) k
    have na : hs_n ρ * a ≤ hs_n ρ * hs_m ρ := Nat.mul_le_mul_left _ ham
    have nm49 : hs_n ρ * hs_m ρ ≤ 49 := Nat.mul_le_mul nn.1.2 nn.2.2
    have kk : k < hs_n ρ * hs_m ρ := by
      rcases hab with z | z
      · have : hs_n ρ * (a + 1) ≤ hs_n ρ * hs_m ρ := Nat.mul_le_mul_left _ z
        rw [Nat.mul_succ] at this
        split at hk <;> omega
      · rw [z, if_pos hn0] at hk
        omega
    have dv : s_bx ρ k / hs_n ρ < hs_m ρ := Nat.div_lt_of_lt_mul (by omega)
    have md := Nat.mod_lt (s_bx ρ k) hn0
    show Ok (F_X11_examine_b55 (F_X11_examine_L55 n) (some 2) l1 l2 l3 l4 M) _
    delta F_X11_examine_b55 F_X11_examine_b105
    refine x_gR g2 r11 (x_gI ke e7 ?_)
    by_cases c : ρ 2 * (7 : Int32) ≤ l4
    · have := i_le c
      have ea : a = hs_m ρ := by omega
      have eb : b = 0 := by omega
      have ek : k = hs_n ρ * hs_m ρ - 1 := by
        rw [eb, if_pos hn0, ea] at hk
        omega
      refine Ok_t c ?_
      have d7 := i_div (x := l2) (c := (7 : Int32)) (n := 7) rfl (by omega) (by omega)
      have m7 := i_mod (x := l2) (c := (7 : Int32)) (n := 7) rfl (by omega) (by omega)
      unfold s_xw
      rw [← ek]
      obtain ⟨A, hA⟩ : ∃ A, A = s_bx ρ k / hs_n ρ := ⟨_, rfl⟩
      obtain ⟨D, hD⟩ : ∃ D, D = s_bx ρ k % hs_n ρ := ⟨_, rfl⟩
      rw [← hA, ← hD] at h2
      rw [← hA] at dv
      rw [← hD] at md
      have y1 : (l2 / (7 : Int32)).toInt = (A : Int) := by omega
      have y2 : (l2 - l2 / (7 : Int32) * (7 : Int32)).toInt = (D : Int) := by omega
      rw [← hA, ← hD]
      by_cases q2 : l1 = 2
      · rw [if_pos q2, if_pos q2]
        exact Ok_s ⟨h3, f⟩
      · rw [if_neg q2, if_neg q2]
        by_cases q0 : l1 = 0
        · rw [if_pos q0, if_pos q0]
          exact Ok_s ⟨i_of y1 (by omega), f⟩
        · rw [if_neg q0, if_neg q0]
          exact Ok_s ⟨i_of y2 (by omega), f⟩
    · have := i_nle c
      have ham2 : a < hs_m ρ := by omega
      have m4 := i_mod (x := l4) (c := (7 : Int32)) (n := 7) rfl (by omega) (by omega)
      have next : ∀ {l2 l3 : Int32} {M : gM} (k : Nat), q_F M0 M → k + 1 = hs_n ρ * a + (if b < hs_n ρ then b + 1 else hs_n ρ) → l2.toInt = ((7 * (s_bx ρ k / hs_n ρ) + s_bx ρ k % hs_n ρ : Nat) : Int) → l3 = Int32.ofNat (s_xa ρ (s_bx ρ k)) → Ok (F_X11_examine_L55 n (some 2) l1 l2 l3 (l4 + 1) M) (fun q => q.1 = s_xw ρ l1 ∧ q_F M0 q.2) := by
        intro l2 l3 M k f hk h2 h3
        have nx := i_nx h4 (by omega)
        by_cases c6 : b = 6
        · refine ih (a + 1) 0 k f (by omega) (by omega) (Or.inr rfl) ?_ h2 h3 (by rw [nx]; omega) (by omega)
          rw [Nat.mul_succ, if_pos hn0, hk]
          split <;> omega
        · refine ih a (b + 1) k f (by omega) (by omega) (Or.inl ham2) ?_ h2 h3 (by rw [nx]; omega) (by omega)
          rw [hk]
          by_cases c1 : b < hs_n ρ
          · rw [if_pos c1]
            split <;> omega
          · rw [if_neg c1, if_neg (by omega)]
      refine Ok_e c (x_gR g2 r11 (x_gI ke e6 ?_))
      refine Ok_i (fun d => ?_) (fun d => ?_)
      · have := i_le d
        refine next k f ?_ h2 h3
        rw [hk, if_neg (by omega), if_neg (by omega)]
      · have := i_nle d
        have hb : b < hs_n ρ := by omega
        rw [if_pos hb] at hk
        refine x_gO g2 (Ok_b (C_behind B f V h4 ham2 hb) (fun q z => ?_))
        obtain ⟨v6, M7⟩ := q
        obtain ⟨z1, z2⟩ := z
        dsimp only at z1 z2 ⊢
        rw [← xa_of hb, ← hk] at z1
        have o1 : v6.toInt = (s_xa ρ (k + 1) : Int) := by rw [z1]; exact i_ofNat (by have := xa_le V hn0 (k + 1); omega)
        have o2 : l3.toInt = (s_xa ρ (s_bx ρ k) : Int) := by rw [h3]; exact i_ofNat (by have := xa_le V hn0 (s_bx ρ k); omega)
        have un : s_bx ρ (k + 1) = if s_xa ρ (k + 1) < s_xa ρ (s_bx ρ k) then k + 1 else s_bx ρ k := rfl
        refine Ok_i (fun d2 => ?_) (fun d2 => ?_)
        · have := i_le d2
          rw [if_neg (by omega)] at un
          refine next (k + 1) z2 (by rw [if_pos hb]; omega) (by rw [un]; exact h2) (by rw [un]; exact h3)
        · have := i_nle d2
          rw [if_pos (by omega)] at un
          refine next (k + 1) z2 (by rw [if_pos hb]; omega) ?_ (by rw [un]; exact z1)
          rw [un, hk, Nat.mul_add_div (by omega), Nat.div_eq_of_lt hb, Nat.mul_add_mod, Nat.mod_eq_of_lt hb, Nat.add_zero]
          exact h4
theorem E_examine_L34 {r : s_Ru} {ρ : Nat → Int32} {l1 : Int32} (V : s_V ρ) (hl : 0 ≤ l1.toInt ∧ l1.toInt ≤ 2) : ∀ (n i : Nat) {l2 l3 l4 : Int32} {M : gM}, e_Q r ρ M ρ → (i = 0 ∧ l2 = -2 ∨ ∃ u, i = u + 1 ∧ l2.toInt = (s_bx ρ u : Int) ∧ l3 = Int32.ofNat (s_xa ρ (s_bx ρ u))) → l4.toInt = (i : Int) → i ≤ hs_n ρ * hs_m ρ → hs_n ρ * hs_m ρ - i < n → Ok (F_X12_examine_L34 n (some 175) l1 l2 l3 l4 M) (fun q => q.1 = (if hs_n ρ * hs_m ρ = 0 then -2 else s_xw ρ l1) ∧ ∀ j, j < 157 → q.2.2.1 185 j = ρ j) := by
  have nn := s_Vn V
  have z0 : (0 : Int32).toInt = 0 := rfl
  have z1 : (1 : Int32).toInt = 1 := rfl
  have z2 : (2 : Int32).toInt = 2 := rfl
  have nm49 : hs_n ρ * hs_m ρ ≤ 49 := Nat.mul_le_mul nn.1.2 nn.2.2
  have pr : (ρ 2).toInt * (ρ 1).toInt = ((hs_n ρ * hs_m ρ : Nat) : Int) := by
    rw [nn.1.1, nn.2.1, Int.natCast_mul, Int.mul_comm]
  have mm := i_mul (x := ρ 2) (y := ρ 1) (by omega) (by omega)
  rw [pr] at mm
  intro n
  induction n with
  | zero => intro i l2 l3 l4 M _ _ _ _ _; omega
  | succ n ih =>
    intro i l2 l3 l4 M Q h1 h4 hi hn
    have X := Q.1.1
    show Ok (F_X12_examine_b34 (F_X12_examine_L34 n) (some 175) l1 l2 l3 l4 M) _
    delta F_X12_examine_b34 F_X12_examine_b98 F_X12_examine_b104
    rw [e_sd X (k := 2) rfl (by decide), e_sd X (k := 1) rfl (by decide)]
    by_cases c : ρ 2 * ρ 1 ≤ l4
    · have := i_le c
      refine Ok_t c ?_
      rcases h1 with ⟨a, b⟩ | ⟨u, a, b, b2⟩
      · have p0 : hs_n ρ * hs_m ρ = 0 := by omega
        rw [if_pos p0, b]
        exact Ok_e (by decide) (Ok_s ⟨rfl, q_done Q⟩)
      · have bu := bx_le (σ := ρ) u
        have hn0 : 0 < hs_n ρ := Nat.pos_of_ne_zero (fun z => by rw [z, Nat.zero_mul] at hi; omega)
        have eu : u = hs_n ρ * hs_m ρ - 1 := by omega
        have n0 : ¬ ρ 1 = 0 := fun z => by rw [z] at nn; omega
        have dd := i_div (x := l2) (c := ρ 1) nn.1.1 (by omega) (by omega)
        have mo := i_mod (x := l2) (c := ρ 1) nn.1.1 (by omega) (by omega)
        rw [b] at dd mo
        rw [← Int.natCast_ediv] at dd
        rw [← Int.natCast_emod] at mo
        have ld := Nat.div_le_self (s_bx ρ u) (hs_n ρ)
        have lm := Nat.mod_lt (s_bx ρ u) hn0
        have p0 : ¬ hs_n ρ * hs_m ρ = 0 := by omega
        rw [if_neg p0]
        refine Ok_t (Int32.le_iff_toInt_le.mpr (by omega)) ?_
        unfold s_xw
        rw [← eu]
        by_cases q0 : l1 = 0
        · rw [if_pos q0, if_neg (by rw [q0]; decide), if_pos q0, e_sd X (k := 1) rfl (by decide), if_neg n0]
          exact Ok_s ⟨i_of dd (by omega), q_done Q⟩
        · by_cases q1 : l1 = 1
          · rw [if_neg q0, if_pos q1, if_neg (by rw [q1]; decide), if_neg q0, e_sd X (k := 1) rfl (by decide), if_neg n0]
            exact Ok_s ⟨i_of mo (by omega), q_done Q⟩
          · have q2 : l1 = 2 := by
              have a0 := i_ne q0
              have a1 := i_ne q1
              exact Int32.toInt_inj.mp (by omega)
            rw [if_neg q0, if_neg q1, if_pos q2]
            exact Ok_s ⟨b2, q_done Q⟩
    · have := i_nle c
      have hn0 : 0 < hs_n ρ := Nat.pos_of_ne_zero (fun z => by rw [z, Nat.zero_mul] at mm; rw [mm] at this; omega)
      have n0 : ¬ ρ 1 = 0 := fun z => by rw [z] at nn; omega
      have dd := i_div (x := l4) (c := ρ 1) nn.1.1 (by omega) (by omega)
      have mo := i_mod (x := l4) (c := ρ 1) nn.1.1 (by omega) (by omega)
      rw [h4] at dd mo
      rw [← Int.natCast_ediv] at dd
      rw [← Int.natCast_emod] at mo
      have ld : i / hs_n ρ < hs_m ρ := Nat.div_lt_of_lt_mul (by omega)
      have lm := Nat.mod_lt i hn0
      refine Ok_e c ?_
      rw [e_sd X (k := 1) rfl (by decide), if_neg n0, e_sd X (k := 1) rfl (by decide), if_neg n0]
      refine x_eq (e_gO X.1) (Ok_b (E_asks X dd mo (by omega) (by omega)) (fun q z => ?_))
      obtain ⟨v18, M19⟩ := q
      obtain ⟨_, f19, X19⟩ := z
      dsimp only at f19 X19 ⊢
      have Q19 : e_Q r ρ M19 (s_ak ρ (i / hs_n ρ) (i % hs_n ρ)) := ⟨⟨X19, e_I_m Q.1.2 f19 (by decide)⟩, fun j hj => by rw [y_fa (i := 188) f19 (by decide) (by decide) j]; exact Q.2.1 j hj, fun j hj => ak_hi (by omega) (by omega) hj⟩
      rw [e_gC X19.1, Option.bind_some]
      refine x_eq (E_allHolds X19) (Ok_b (E_q_lays V Q19) (fun M22 z => ?_))
      have Q22 := z.1
      have o1 : (Int32.ofNat (s_xa ρ i)).toInt = (s_xa ρ i : Int) := i_ofNat (by have := xa_le V hn0 i; omega)
      have fold : Int32.ofNat (s_al (s_ak ρ (i / hs_n ρ) (i % hs_n ρ))) = Int32.ofNat (s_xa ρ i) := rfl
      rw [fold]
      rcases h1 with ⟨a, b⟩ | ⟨u, a, b, b2⟩
      · subst a
        refine Ok_t (by rw [b]; decide) ?_
        exact ih 1 Q22 (Or.inr ⟨0, rfl, h4, rfl⟩) (i_nx h4 (by omega)) (by omega) (by omega)
      · subst a
        have bu := bx_le (σ := ρ) u
        have o2 : l3.toInt = (s_xa ρ (s_bx ρ u) : Int) := by rw [b2]; exact i_ofNat (by have := xa_le V hn0 (s_bx ρ u); omega)
        have un : s_bx ρ (u + 1) = if s_xa ρ (u + 1) < s_xa ρ (s_bx ρ u) then u + 1 else s_bx ρ u := rfl
        refine Ok_e (fun z => by have := i_lt z; omega) ?_
        refine Ok_i (fun d => ?_) (fun d => ?_)
        · have := i_lt d
          rw [if_pos (by omega)] at un
          exact ih (u + 1 + 1) Q22 (Or.inr ⟨u + 1, rfl, by rw [un]; exact h4, by rw [un]⟩) (i_nx h4 (by omega)) (by omega) (by omega)
        · have := i_nlt d
          rw [if_neg (by omega)] at un
          exact ih (u + 1 + 1) Q22 (Or.inr ⟨u + 1, rfl, by rw [un]; exact b, by rw [un]; exact b2⟩) (i_nx h4 (by omega)) (by omega) (by omega)
theorem lw9_examine {L : Nat} {M : gM} {l1 : Int32} (R : lw9 L M) : lw_42 L M (F_X11_examine (some 2) l1 M) (F_X12_examine (some 175) l1) := by
  have R8 := R.1
  have G := R8.2
  have hl := lw8_len R8.1.1.1
  refine lw9_qry R (S_X11_examine R8.1.1.1.1.1.1 R8.1.1.1.2.1.1.1) (fun M1 H W => S_X12_examine H) (by decide) (by decide) (by decide) (by decide) (fun e σ nx sz P I rc Rr C h6 hf => ?_)
  have X := C.1.1.2
  have k2 := G_k2 G
  have V := X.1.1.2.2
  have Q := X.2.2
  have z0 : (0 : Int32).toInt = 0 := rfl
  have z2 : (2 : Int32).toInt = 2 := rfl
  have B := q_B_of G hl C h6 hf
  have nn := s_Vn V
  have ke : g_k M e = (1, 0) := X.1.1.1.1.1
  have e6 : M.2.1 e 6 = σ 1 := X.1.1.2.1.1.1.1.1
  have e7 : M.2.1 e 7 = σ 2 := X.1.1.2.1.1.1.1.2
  have t5 := X.2.1
  by_cases c : 0 ≤ l1.toInt ∧ l1.toInt ≤ 2
  · by_cases kH : 0 < (σ 0).toInt
    · rw [if_pos kH] at t5
      refine ⟨(if hs_n σ * hs_m σ = 0 then -2 else s_xw σ l1), ?_, fun M1 X1 E1 f1 _ => ?_⟩
      · delta F_X11_examine F_X11_examine_b0 F_X11_examine_b41
        rw [if_neg (fun z => by have := i_lt z; omega), if_neg (fun z => by have := i_lt z; omega)]
        refine x_gR k2 C.1.1.1 (x_gI ke t5 ?_)
        rw [if_neg (by decide)]
        refine x_gR k2 C.1.1.1 (x_gI ke e7 ?_)
        by_cases m0 : σ 2 = 0
        · have e0 : hs_m σ = 0 := by have : (σ 2).toInt = 0 := by rw [m0]; rfl
                                     omega
          rw [e0, Nat.mul_zero, if_pos rfl]
          exact Ok_t m0 (Ok_s ⟨rfl, w_F_r⟩)
        · have := i_ne m0
          refine Ok_e m0 (x_gR k2 C.1.1.1 (x_gI ke e6 ?_))
          by_cases n0 : σ 1 = 0
          · have e0 : hs_n σ = 0 := by have : (σ 1).toInt = 0 := by rw [n0]; rfl
                                       omega
            rw [e0, Nat.zero_mul, if_pos rfl]
            exact Ok_t n0 (Ok_s ⟨rfl, w_F_r⟩)
          · have := i_ne n0
            have p1 : 0 < hs_n σ := by omega
            have p2 : 0 < hs_m σ := by omega
            have pp : 0 < hs_n σ * hs_m σ := Nat.mul_pos p1 p2
            have p0 : ¬ hs_n σ * hs_m σ = 0 := by omega
            rw [if_neg p0]
            refine Ok_e n0 (x_gO k2 ?_)
            refine Ok_b (C_behind (a := 0) (b := 0) (l1 := 0) B q_F_r V rfl p2 p1) (fun q z => ?_)
            obtain ⟨v8, M9⟩ := q
            obtain ⟨z1, z2⟩ := z
            dsimp only at z1 z2 ⊢
            have xz := xa_of (σ := σ) (a := 0) (b := 0) p1
            rw [Nat.mul_zero] at xz
            by_cases b1 : 1 < hs_n σ
            · exact Ok_w (C_examine_L55 B V p1 p2 g_fuel 0 1 0 (l4 := 1) z2 (by omega) (by omega) (Or.inl p2) (by rw [if_pos b1]; omega) (by show (0 : Int) = ((7 * (0 / hs_n σ) + 0 % hs_n σ : Nat) : Int); rw [Nat.zero_div, Nat.zero_mod]; rfl) (by rw [z1, ← xz]; rfl) rfl (n_fu (by omega))) (fun x z => ⟨z.1, q_F_w z.2⟩)
            · exact Ok_w (C_examine_L55 B V p1 p2 g_fuel 0 1 0 (l4 := 1) z2 (by omega) (by omega) (Or.inl p2) (by rw [if_neg b1]; omega) (by show (0 : Int) = ((7 * (0 / hs_n σ) + 0 % hs_n σ : Nat) : Int); rw [Nat.zero_div, Nat.zero_mod]; rfl) (by rw [z1, ← xz]; rfl) rfl (n_fu (by omega))) (fun x z => ⟨z.1, q_F_w z.2⟩)
      · have J := E_inForce E1 h6 (by rw [f1]; exact hf)
        rw [f1] at J
        have nm49 : hs_n σ * hs_m σ ≤ 49 := Nat.mul_le_mul nn.1.2 nn.2.2
        delta F_X12_examine F_X12_examine_b0
        rw [e_gO X1.1, Option.bind_some, E_isHouseX X1, Option.bind_some, if_pos kH, if_neg (by decide), E_in (a := 0) (b := 2) rfl rfl, Option.bind_some, if_pos c, if_neg (by decide)]
        refine Ok_b (E_q_keeps X1 J) (fun M4 z => ?_)
        exact E_examine_L34 V c g_fuel 0 (l2 := -2) (l4 := 0) z.1 (Or.inl ⟨rfl, rfl⟩) rfl (Nat.zero_le _) (n_fu (by omega))
    · rw [if_neg kH] at t5
      refine lw9_qn (w := -1) ?_ (fun M1 X1 => ?_)
      · delta F_X11_examine F_X11_examine_b0 F_X11_examine_b19
        rw [if_neg (fun z => by have := i_lt z; omega), if_neg (fun z => by have := i_lt z; omega), t_gR k2 C.1.1.1, Option.bind_some, t_gI ke, Option.bind_some, t5, if_pos rfl]
      · delta F_X12_examine F_X12_examine_b0 F_X12_examine_b19
        rw [e_gO X1.1, Option.bind_some, E_isHouseX X1, Option.bind_some, if_neg kH, if_pos rfl]
  · refine lw9_qn (w := -1) ?_ (fun M1 X1 => ?_)
    · delta F_X11_examine F_X11_examine_b0 F_X11_examine_b19
      by_cases d : l1 < 0
      · rw [if_pos d]
      · have := i_nlt d
        rw [if_neg d, if_pos (Int32.lt_iff_toInt_lt.mpr (by omega))]
    · delta F_X12_examine F_X12_examine_b0 F_X12_examine_b19
      rw [e_gO X1.1, Option.bind_some, E_isHouseX X1, Option.bind_some]
      by_cases kH : 0 < (σ 0).toInt
      · rw [if_pos kH, if_neg (by decide), E_in (a := 0) (b := 2) rfl rfl, Option.bind_some, if_neg c, if_pos rfl]
      · rw [if_neg kH, if_pos rfl]
