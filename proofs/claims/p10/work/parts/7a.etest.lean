/-! TESTS of the reference as the document says -/
theorem t_M_pop {T : gM} {t : Nat} {M : gM} {τ : List Int32} {x : sS} {v : Int32} {m : Nat} (H : y_HT M) (X : t_M T t M (91 :: τ) x) (hm : n_o M = m + 1) (hv : v.toInt = ((t_dp (91 :: τ) : Nat) : Int) - 1) : t_M T t (mI (mI M 175 16 (Int32.ofNat m)) 175 13 v) τ x ∧ t_dp (91 :: τ) = t_dp τ + 1 := by
  obtain ⟨X0, ⟨no, sS0⟩, ⟨dp, dp2⟩, W⟩ := X
  have no : n_o M = τ.length + 1 := no
  have ed := t_dp_1 (σ := τ) (w := 91) (Or.inl rfl)
  have w : n_w2 (mI (mI M 175 16 (Int32.ofNat m)) 175 13 v) = n_w2 M := funext (fun q => by
    show (mI (mI M 175 16 (Int32.ofNat m)) 175 13 v).2.1 182 q = M.2.1 182 q
    rw [mI_ne (Or.inl (by decide)), mI_ne (Or.inl (by decide))])
  refine ⟨⟨r_Xw (r_Xw X0 (Or.inl ⟨rfl, Or.inr rfl⟩)) (Or.inl ⟨rfl, Or.inl rfl⟩), ⟨?_, by rw [w]; exact sS0.2⟩, ⟨by rw [y_mI1, hv]; omega, by omega⟩, W.2⟩, ed⟩
  have o1 := n_o1 H
  unfold n_o
  rw [mI_ne (Or.inr (by decide)), y_mI1, i_ofNat (by omega)]
  omega
/-- behind closes: no NOT waits, no bracket that could be closed -/
def t_C (T : gM) (t : Nat) (r0 : s_R) (M' : gM) : Prop := ∃ σ z, t_M T t M' σ z ∧ r0 = t_K T σ false z ∧ (t_top σ < 3 ∧ n_x M' = z.1) ∧ (k_kind T z.1 = 93 → ¬ (91 : Int32) ∈ σ)
theorem E_closes_L5 {T : gM} {t a c : Nat} : ∀ (n : Nat) {M : gM} {σ : List Int32} {x : sS}, p_J t a 1 c M → t_M T t M σ x → t_top σ < 3 → n_s M - n_x M < n → Ok (F_X12_closes_L5 n (some 175) M) (t_C T t (t_K T σ false x)) := by
  intro n
  induction n with
  | zero => intro M σ x J X ht h; omega
  | succ n ih =>
    intro M σ x J X ht h
    show Ok (F_X12_closes_b5 (F_X12_closes_L5 n) (some 175) M) _
    have H := J.1.1.1.1
    have hx := J.1.2.1
    have s1 := n_s1 H
    obtain ⟨p, hp⟩ : ∃ p, p = n_sk M (n_x M) := ⟨_, rfl⟩
    have k1 := n_sk_le hx.2
    obtain ⟨ex, X1⟩ := t_Msee X H hx.2
    have px : p = x.1 := hp.trans ex
    rw [← px] at X1
    rw [← hp] at k1
    have J1 : p_J t a 1 c (n_at M p) := p_J_at J (by omega) (by omega)
    have H1 := J1.1.1.1.1
    have x1 : n_x (n_at M p) = p := n_at_x (by omega)
    have s2 : n_s (n_at M p) = n_s M := n_at_s
    have ec : n_c M p = n_c T p := congrFun (n_T X.1.1.1 X.1.1.2).2.2.1.2 p
    have k93 := k_s1 (T := T) (p := p) (c := (93 : Int32)) (n := 93) rfl (by omega) (by omega) (by omega) (by omega)
    have mem := t_S_m X1.2.1.2
    have no1 := X1.2.1.1
    delta F_X12_closes_b5
    rw [e_gO H, Option.bind_some, R_see H hx.2, ← hp, Option.bind_some]
    dsimp only
    refine Ok_i (fun e => ?_) (fun e => ?_)
    · have hlt := n_c_lt e (by decide)
      rw [ec] at e
      have kx : k_kind T x.1 = 93 := by rw [← px]; exact k93.1.mp e
      have kg : n_sk T (p + 1) = k_go T x.1 := by rw [← px]; exact (k93.2 e).symm
      generalize n_at M p = M3 at J1 H1 x1 s2 X1 mem no1 ⊢
      rw [e_gC H1, Option.bind_some]
      refine Ok_b (R_isInside H1) (fun v5 z => ?_)
      rcases z with ⟨z, z2⟩ | ⟨z, j, hj, z2⟩
      · subst z
        rw [if_pos rfl]
        refine Ok_s ⟨σ, x, X1, rfl, ⟨ht, x1.trans px⟩, fun _ hm => ?_⟩
        obtain ⟨j, h1, h2⟩ := mem.mp hm
        exact z2 j (by omega) h2
      · subst z
        rw [if_neg (by decide)]
        have inn : (91 : Int32) ∈ σ := mem.mpr ⟨j, by omega, z2⟩
        refine Ok_b (Ok_and (P_settles (least := 1) (by decide) J1) (E_settles (least := 1) (by decide) J1 X1)) (fun M6 q => ?_)
        obtain ⟨⟨⟨H6, F6⟩, J6, ⟨x6, w6⟩, ⟨o6, b6⟩, t6⟩, X6⟩ := q
        have val := t_K_set1 σ x X1.2.2.2 ht (by rw [kx]; decide)
        have pl := t_sv_pl (least := 1) σ x
        obtain ⟨τ, et⟩ := (t_sv1_in (σ := σ) (y := x) X1.2.2.2).1 inn
        rw [et] at X6 val
        generalize (t_sv 1 σ x).2 = y6 at X6 val pl
        obtain ⟨m, hm⟩ : ∃ m, n_o M6 = m + 1 := ⟨n_o M6 - 1, by have : n_o M6 = τ.length + 1 := X6.2.1.1; omega⟩
        have top : n_w2 M6 m = 91 := by
          have : n_o M6 = τ.length + 1 := X6.2.1.1
          have e : m = τ.length := by omega
          rw [e]
          exact X6.2.1.2.1
        have o16 := n_o1 H6
        have em : M6.2.1 175 16 - (1 : Int32) = Int32.ofNat m := i_of (by rw [i_subc (n := 1) rfl (by omega) (by omega)]; omega) (by omega)
        rw [e_gI H6, Option.bind_some, e_pI H6, Option.bind_some, em]
        obtain ⟨J8, F8, x8, s8⟩ := p_J_pop J6 hm top
        have H8 := J8.1.1.1.1
        have d8 : (mI M6 175 16 (Int32.ofNat m)).2.1 175 13 = M6.2.1 175 13 := mI_ne (Or.inr (by decide))
        have dd := t_dp_1 (σ := τ) (w := 91) (Or.inl rfl)
        rw [e_gI H8, Option.bind_some, e_pI H8, Option.bind_some, d8]
        have X10 := (t_M_pop (v := M6.2.1 175 13 - (1 : Int32)) H6 X6 hm (by
          have h1 := X6.2.2.1.1
          have h2 := X6.2.2.1.2
          rw [i_subc (n := 1) rfl (by omega) (by omega)]
          omega)).1
        obtain ⟨J10, F10, x10, s10, -, -⟩ := p_J_deep (v := M6.2.1 175 13 - (1 : Int32)) J8
        generalize mI (mI M6 175 16 (Int32.ofNat m)) 175 13 (M6.2.1 175 13 - (1 : Int32)) = M10 at J10 F10 x10 s10 X10 ⊢
        have H10 := J10.1.1.1.1
        have s6 := n_Fs F6 (by decide)
        have h10 := J10.1.2.1
        rw [e_gI H10, Option.bind_some, e_pI H10, Option.bind_some, n_next H10]
        have J12 : p_J t a 1 c (n_at M10 (n_x M10 + 1)) := p_J_at J10 (by omega) (by omega)
        have x12 : n_x (n_at M10 (n_x M10 + 1)) = n_x M10 + 1 := n_at_x (by omega)
        have s12 : n_s (n_at M10 (n_x M10 + 1)) = n_s M10 := n_at_s
        have xp : n_x M10 = p := by omega
        have X12 : t_M T t (n_at M10 (n_x M10 + 1)) τ (k_go T x.1, y6.2) := t_Mat X10 (by omega) (by rw [xp]; exact kg)
        generalize n_at M10 (n_x M10 + 1) = M12 at J12 x12 s12 X12 ⊢
        have H12 := J12.1.1.1.1
        rw [e_gC H12, Option.bind_some]
        refine Ok_b (Ok_and (P_settles (least := 3) (by decide) J12) (E_settles (least := 3) (by decide) J12 X12)) (fun M14 q => ?_)
        obtain ⟨⟨⟨H14, F14⟩, J14, ⟨x14, w14⟩, -, -⟩, X14⟩ := q
        have s14 := n_Fs F14 (by decide)
        have fin := ih J14 X14 (t_sv_top (by decide) _ _) (by omega)
        rw [← t_K_set3 τ (k_go T x.1, y6.2) X12.2.2.2] at fin
        have v2 : t_K T (91 :: τ) true y6 = t_K T τ false (k_go T x.1, y6.2) := by
          rw [t_K_end1 (by rw [pl, kx]; decide)]
          unfold s_close
          rw [if_pos (by rw [pl]; exact kx), pl]
          rfl
        rw [val, v2]
        exact fin
    · rw [ec] at e
      have kn : k_kind T x.1 ≠ 93 := by rw [← px]; exact mt k93.1.mpr e
      exact Ok_s ⟨σ, x, X1, rfl, ⟨ht, x1.trans px⟩, fun z => absurd z kn⟩
theorem E_closes {T : gM} {t a c : Nat} {M : gM} {σ : List Int32} {x : sS} (J : p_J t a 1 c M) (X : t_M T t M σ x) : Ok (F_X12_closes (some 175) M) (t_C T t (t_K T σ false x)) := by
  have H := J.1.1.1.1
  delta F_X12_closes F_X12_closes_b0
  rw [e_gO H, Option.bind_some]
  refine Ok_b (Ok_and (P_settles (least := 3) (by decide) J) (E_settles (least := 3) (by decide) J X)) (fun M2 q => ?_)
  obtain ⟨⟨⟨H2, F2⟩, J2, ⟨x2, w2⟩, -, -⟩, X2⟩ := q
  have s2 := n_s1 H2
  rw [t_K_set3 σ x X.2.2.2]
  exact E_closes_L5 _ J2 X2 (t_sv_top (by decide) _ _) (n_fu (by omega))
