/-! TESTS of the reference: FACTS -/
theorem n_op_X {T : gM} {t : Nat} {M : gM} {w : Int32} {x : sS} (X : r_X T t M x) : r_X T t (n_op M w) x := r_Xw (r_Xw X (Or.inr rfl)) (Or.inl ⟨rfl, Or.inr rfl⟩)
theorem E_opens {T : gM} {t : Nat} {w : Int32} {M : gM} {σ : List Int32} {x : sS} (hw : w = 91 ∨ w = 11) (H : y_HT M) (h : n_o M < 400) (X : t_M T t M σ x) (hx : n_x M = x.1) : Ok (F_X12_opens (some 175) w M) (fun r => (10 ≤ t_dp σ → r.1 = 0 ∧ (r.2.2.1 175 9).toInt = ((1 + 8 * x.1 + 2 : Nat) : Int)) ∧ (¬ 10 ≤ t_dp σ → r.1 = 1 ∧ ∀ p q, p ≤ 400 → n_sk T p = q → t_M T t (n_at r.2 p) (w :: σ) (q, x.2))) := by
  obtain ⟨X0, ⟨no, sS0⟩, ⟨dp, dp2⟩, W⟩ := X
  have x1 := n_x1 H
  have z10 : (10 : Int32).toInt = 10 := rfl
  rw [R_opens H h]
  by_cases c : M.2.1 175 13 = 10
  · rw [if_pos c]
    rw [c] at dp
    exact Ok_s ⟨fun _ => ⟨rfl, n_f_0 X0.2.2.1.1 (by rw [x1.1, hx]) (by have := x1.2; omega) rfl (by decide)⟩, fun z => by omega⟩
  · rw [if_neg c]
    have dlt : t_dp σ < 10 := by
      rcases Nat.lt_or_ge (t_dp σ) 10 with e | e
      · exact e
      · exact absurd (Int32.toInt_inj.mp (by omega)) c
    refine Ok_s ⟨fun z => by omega, fun _ => ⟨rfl, fun p q hp hq => ?_⟩⟩
    have X1 := r_Xw (v := M.2.1 175 13 + (1 : Int32)) X0 (i := 175) (k := 13) (Or.inl ⟨rfl, Or.inl rfl⟩)
    have o1 : n_o (mI M 175 13 (M.2.1 175 13 + (1 : Int32))) = n_o M := by
      unfold n_o
      rw [mI_ne (Or.inr (by decide))]
    have w1 : n_w2 (mI M 175 13 (M.2.1 175 13 + (1 : Int32))) = n_w2 M := funext (fun q => mI_ne (Or.inl (by decide)))
    have d1 : (mI M 175 13 (M.2.1 175 13 + (1 : Int32))).2.1 175 13 = Int32.ofNat (t_dp σ + 1) := by rw [y_mI1, n_inc dp (by omega)]
    generalize mI M 175 13 (M.2.1 175 13 + (1 : Int32)) = M1 at X1 o1 w1 d1 ⊢
    have X2 := n_op_X (w := w) X1
    have o2 : n_o (n_op M1 w) = n_o M1 + 1 := n_op_o (by omega)
    obtain ⟨v1, v2⟩ := n_op_w (M := M1) (w := w)
    have d2 : (n_op M1 w).2.1 175 13 = Int32.ofNat (t_dp σ + 1) := by
      unfold n_op
      rw [mI_ne (Or.inr (by decide)), mI_ne (Or.inl (by decide)), d1]
    have ed := t_dp_1 (σ := σ) hw
    refine ⟨r_Xat X2 hp hq, ⟨?_, ?_, ?_⟩, ⟨?_, by omega⟩, ⟨hw.elim Or.inl (fun e => Or.inr (Or.inl e)), W⟩⟩
    · show n_o (n_at (n_op M1 w) p) = σ.length + 1
      rw [n_at_o, o2, o1, no]
    · show n_w2 (n_at (n_op M1 w) p) σ.length = w
      rw [show n_w2 (n_at (n_op M1 w) p) = n_w2 (n_op M1 w) from funext (fun q => mI_ne (Or.inl (by decide))), ← no, ← o1]
      exact v1
    · rw [show n_w2 (n_at (n_op M1 w) p) = n_w2 (n_op M1 w) from funext (fun q => mI_ne (Or.inl (by decide)))]
      refine t_S_c (fun j hj => ?_) sS0
      rw [v2 j (by omega), w1]
    · rw [n_atk (by decide), d2, i_ofNat (by omega), ed]
/-- where a TEST goes on, or a FAULT -/
def t_R (T : gM) (t : Nat) (r0 : s_R) : Int32 × gM → Prop := fun y => (y.1 = 0 ∧ ∃ e, r0 = .inl e ∧ (y.2.2.1 175 9).toInt = (e : Int)) ∨ (y.1 = 1 ∧ ∃ σ z, t_M T t y.2 σ z ∧ r0 = t_K T σ false z)
theorem t_Mat {T : gM} {t p q : Nat} {M : gM} {σ : List Int32} {x : sS} (X : t_M T t M σ x) (h : p ≤ 400) (hq : n_sk T p = q) : t_M T t (n_at M p) σ (q, x.2) := by
  obtain ⟨X0, ⟨no, sS0⟩, ⟨dp, dp2⟩, W⟩ := X
  refine ⟨r_Xat X0 h hq, ⟨by rw [n_at_o]; exact no, ?_⟩, ⟨by rw [n_atk (by decide)]; exact dp, dp2⟩, W⟩
  rw [show n_w2 (n_at M p) = n_w2 M from funext (fun q => mI_ne (Or.inl (by decide)))]
  exact sS0
theorem t_Msee {T : gM} {t : Nat} {M : gM} {σ : List Int32} {x : sS} (X : t_M T t M σ x) (H : y_HT M) (h : n_x M ≤ n_s M) : n_sk M (n_x M) = x.1 ∧ t_M T t (n_at M x.1) σ x := by
  obtain ⟨e, X1⟩ := r_Xsee X.1 H h
  have s1 := n_s1 H
  have hk := n_sk_le h
  have := t_Mat (p := x.1) (q := x.1) X (by omega) (by rw [← X.1.2.1, n_sk_sk])
  exact ⟨e, this⟩
/-- what reading a COMPARE leaves -/
theorem t_Mfr {T : gM} {t S : Nat} {M M' : gM} {σ : List Int32} {x y : sS} (X : t_M T t M σ x) (f : y_Fr S M M') (h : Nat.land S (2 ^ 13 + 2 ^ 16 + 2 ^ 47) = 0) (X2 : r_X T t M' y) : t_M T t M' σ y := by
  obtain ⟨X0, ⟨no, sS0⟩, ⟨dp, dp2⟩, W⟩ := X
  have o := n_fo f (y_dis h (by decide))
  have w : n_w2 M' = n_w2 M := funext (fun q => y_fa (i := 182) f (by decide) (y_dis h (by decide)) q)
  exact ⟨X2, ⟨by rw [o]; exact no, by rw [w]; exact sS0⟩, ⟨by rw [y_fk (i := 175) (k := 13) f (y_dis h (by decide))]; exact dp, dp2⟩, W⟩
theorem n_w_not {T : gM} {p : Nat} : n_w T p 7237492 = true ↔ k_kind T p = 280 := w_iff (i := 19) (by decide) (by decide)
theorem n_w_and {T : gM} {p : Nat} : n_w T p 6385252 = true ↔ k_kind T p = 281 := w_iff (i := 20) (by decide) (by decide)
theorem n_w_or {T : gM} {p : Nat} : n_w T p 28530 = true ↔ k_kind T p = 282 := w_iff (i := 21) (by decide) (by decide)
theorem k_go_w {T : gM} {p : Nat} (h : 260 ≤ k_kind T p) : k_go T p = n_sk T (n_le T p) := by
  refine k_go_L ?_
  by_cases c : n_L T p = true
  · exact c
  · have := k_nl_r c
    omega
theorem E_fact_L2 {T : gM} (B : z_B T) {t a c : Nat} : ∀ (n : Nat) {l1 : Int32} {M : gM} {σ : List Int32} {x : sS}, p_J t a 0 c M → t_M T t M σ x → (l1 = 0 → k_kind T x.1 ≠ 91 ∧ k_kind T x.1 ≠ 280) → (n_s M - n_x M + (if l1 = 0 then 0 else 1) < n) → Ok (F_X12_fact_L2 n (some 175) l1 M) (t_R T t (s_b (s_F T (t_dp σ) x) (t_K T σ false))) := by
  intro n
  induction n with
  | zero => intro l1 M σ x J X hk h; omega
  | succ n ih =>
    intro l1 M σ x J X hk h
    show Ok (F_X12_fact_b2 (F_X12_fact_L2 n) (some 175) l1 M) _
    have H := J.1.1.1.1
    have d10 := X.2.2.1.2
    delta F_X12_fact_b2 F_X12_fact_b72
    by_cases c1 : l1 = 0
    · obtain ⟨q1, q2⟩ := hk c1
      rw [if_pos c1, e_gO H, Option.bind_some, s_F_eq d10, if_neg q1, if_neg q2]
      refine Ok_b (Ok_and (P_compare J.1) (E_cmp B J.1 X.1)) (fun y z => ?_)
      obtain ⟨v2, M3⟩ := y
      obtain ⟨⟨⟨H3, F3⟩, P⟩, E⟩ := z
      dsimp only at P E H3 F3 ⊢
      generalize s_cmp T x = r at E ⊢
      cases r with
      | inl e =>
        obtain ⟨h3, g3⟩ := E
        dsimp only at h3 g3
        rw [if_pos (Or.inl h3)]
        exact Ok_s (Or.inl ⟨h3, e, rfl, g3⟩)
      | inr y =>
        obtain ⟨h3, X3⟩ := E
        dsimp only at h3 X3
        rw [if_pos (Or.inr h3)]
        exact Ok_s (Or.inr ⟨h3, σ, y, t_Mfr X F3.1 (by decide) X3, rfl⟩)
    rw [if_neg c1] at h
    have hx := J.1.2.1
    have s1 := n_s1 H
    obtain ⟨p, hp⟩ : ∃ p, p = n_sk M (n_x M) := ⟨_, rfl⟩
    have k1 := n_sk_le hx.2
    obtain ⟨ex, X1⟩ := t_Msee X H hx.2
    have px : p = x.1 := hp.trans ex
    rw [← px] at X1
    rw [← hp] at k1
    have J1 : p_J t a 0 c (n_at M p) := p_J_at J (by omega) (by omega)
    have H1 := J1.1.1.1.1
    have x1 : n_x (n_at M p) = p := n_at_x (by omega)
    have s2 : n_s (n_at M p) = n_s M := n_at_s
    have l2 : n_l (n_at M p) t = n_l M t := n_at_l
    have o2 : n_o (n_at M p) = n_o M := n_at_o
    obtain ⟨⟨⟨eL, eD⟩, ⟨esk, ele⟩, ede⟩, ⟨ew, ev⟩, ⟨eo, ec⟩, eh⟩ := n_T X.1.1.1 X.1.1.2
    rw [if_neg c1, e_gO H, Option.bind_some, R_see H hx.2, ← hp, Option.bind_some]
    dsimp only
    rw [e_gC H1, Option.bind_some, R_isW2 H hx.2 hp, Option.bind_some]
    dsimp only
    by_cases cw : n_w M p 7237492 = true
    · have hle := n_w_le cw
      have e2 := (n_le_le (M := M) (p := p) (by omega)).2
      have kn : k_kind T x.1 = 280 := by rw [← px]; exact n_w_not.mp (by rw [← ew]; exact cw)
      have kg : n_sk T (n_le M p) = k_go T x.1 := by rw [ele, px]; exact (k_go_w (by omega)).symm
      rw [if_pos cw, if_neg (by decide), e_gC H1, Option.bind_some, s_F_eq d10, if_neg (by rw [kn]; decide), if_pos kn]
      refine Ok_b (Ok_and (P_opens (Or.inr rfl) J1 (by omega) (by omega)) (E_opens (Or.inr rfl) H1 (by omega) X1 (by rw [x1]; exact px))) (fun y z => ?_)
      obtain ⟨v, M2⟩ := y
      obtain ⟨⟨⟨H2, F2⟩, P⟩, E1, E2⟩ := z
      dsimp only at P E1 E2 H2 F2 ⊢
      by_cases c10 : 10 ≤ t_dp σ
      · obtain ⟨h5, g5⟩ := E1 c10
        rw [if_pos h5, if_pos c10]
        exact Ok_s (Or.inl ⟨rfl, _, rfl, g5⟩)
      · obtain ⟨h5, g5⟩ := E2 c10
        subst h5
        rcases P with ⟨h5, _⟩ | ⟨_, x5, w5⟩
        · exact absurd h5 (by decide)
        have l3 : n_le M2 p = n_le M p := (congrFun (n_fle F2.1 (by decide) (by decide)) p).trans n_at_le
        have s3 := n_Fs F2 (by decide)
        rw [if_neg (by decide), e_gC H2, Option.bind_some, R_passWord H2 (by omega), Option.bind_some, x5, x1, l3, if_neg c10, t_K_11]
        have J5 := w5 (n_le M p) (by omega) (by omega)
        have X5 := g5 (n_le M p) (k_go T x.1) (by omega) kg
        refine ih J5 X5 (fun z => absurd z (by decide)) ?_
        rw [n_at_x (by omega), n_at_s, if_neg (by decide)]
        omega
    · have kn : ¬ k_kind T x.1 = 280 := by
        rw [← px]
        intro z
        exact cw (by rw [ew]; exact n_w_not.mpr z)
      rw [if_neg cw, if_pos rfl]
      have k91 := k_s1 (T := T) (p := p) (c := (91 : Int32)) (n := 91) rfl (by omega) (by omega) (by omega) (by omega)
      refine Ok_i (fun e91 => ?_) (fun e91 => ?_)
      · have hlt := n_c_lt e91 (by decide)
        rw [ec] at e91
        have kb : k_kind T x.1 = 91 := by rw [← px]; exact k91.1.mp e91
        have kg : n_sk T (p + 1) = k_go T x.1 := by rw [← px]; exact (k91.2 e91).symm
        rw [e_gC H1, Option.bind_some, s_F_eq d10, if_pos kb]
        refine Ok_b (Ok_and (P_opens (Or.inl rfl) J1 (by omega) (by omega)) (E_opens (Or.inl rfl) H1 (by omega) X1 (by rw [x1]; exact px))) (fun y z => ?_)
        obtain ⟨v, M2⟩ := y
        obtain ⟨⟨⟨H2, F2⟩, P⟩, E1, E2⟩ := z
        dsimp only at P E1 E2 H2 F2 ⊢
        by_cases c10 : 10 ≤ t_dp σ
        · obtain ⟨h5, g5⟩ := E1 c10
          rw [if_pos h5, if_pos c10]
          exact Ok_s (Or.inl ⟨rfl, _, rfl, g5⟩)
        · obtain ⟨h5, g5⟩ := E2 c10
          subst h5
          rcases P with ⟨h5, _⟩ | ⟨_, x5, w5⟩
          · exact absurd h5 (by decide)
          have s3 := n_Fs F2 (by decide)
          rw [if_neg (by decide), e_gI H2, Option.bind_some, e_pI H2, Option.bind_some, n_next H2, x5, x1, if_neg c10, t_K_91]
          have J5 := w5 (p + 1) (by omega) (by omega)
          have X5 := g5 (p + 1) (k_go T x.1) (by omega) kg
          refine ih J5 X5 (fun z => absurd z (by decide)) ?_
          rw [n_at_x (by omega), n_at_s, if_neg (by decide)]
          omega
      · rw [ec] at e91
        refine ih J1 X1 (fun _ => ⟨?_, kn⟩) ?_
        · rw [← px]
          exact mt k91.1.mpr e91
        · rw [if_pos rfl]
          omega
theorem E_fact {T : gM} (B : z_B T) {t a c : Nat} {M : gM} {σ : List Int32} {x : sS} (J : p_J t a 0 c M) (X : t_M T t M σ x) : Ok (F_X12_fact (some 175) M) (t_R T t (s_b (s_F T (t_dp σ) x) (t_K T σ false))) := by
  have s1 := n_s1 J.1.1.1.1
  delta F_X12_fact F_X12_fact_b0
  refine E_fact_L2 B _ J X (fun z => absurd z (by decide)) ?_
  rw [if_neg (by decide)]
  have : g_fuel = 1000000000 := rfl
  omega
