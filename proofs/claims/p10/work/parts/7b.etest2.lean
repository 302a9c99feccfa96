/-! whole TESTS of the reference as the document says -/
theorem t_sv_q {least : Int32} {q : Nat} : ∀ (σ : List Int32) (x : sS), t_sv least σ (q, x.2) = ((t_sv least σ x).1, (q, (t_sv least σ x).2.2)) := by
  intro σ
  induction σ with
  | nil => intro x; rfl
  | cons w σ ih =>
    intro x
    by_cases c : n_st w < least
    · rw [t_sv_stop c, t_sv_stop c]
    · rw [t_sv_pop c, t_sv_pop c]
      exact ih (s_push x (t_op w, 0))
theorem t_M_op {T : gM} {t : Nat} {M : gM} {σ : List Int32} {x : sS} {s : Int32} (X : t_M T t M σ x) (h : n_o M < 400) (hs : s = 12 ∨ s = 13) (ht : t_top σ < n_st s) : t_M T t (n_op M s) (s :: σ) x := by
  obtain ⟨X0, ⟨no, sS0⟩, ⟨dp, dp2⟩, W⟩ := X
  obtain ⟨v1, v2⟩ := n_op_w (M := M) (w := s)
  have ed := t_dp_0 (σ := σ) hs
  refine ⟨n_op_X X0, ⟨by rw [n_op_o h, no]; rfl, ?_, ?_⟩, ⟨?_, by omega⟩, ⟨Or.inr (Or.inr ⟨hs, ht⟩), W⟩⟩
  · show n_w2 (n_op M s) σ.length = s
    rw [← no]
    exact v1
  · exact t_S_c (fun j hj => v2 j (by omega)) sS0
  · unfold n_op
    rw [mI_ne (Or.inr (by decide)), mI_ne (Or.inl (by decide)), ed]
    exact dp
theorem E_tested_b76 {T : gM} (B : z_B T) {t a c p : Nat} {l1 s : Int32} {M : gM} {σ : List Int32} {x : sS} {k : Option Nat → Int32 → gM → Option (Int32 × gM)} (hs : (s = 12 ∧ k_kind T x.1 = 281) ∨ (s = 13 ∧ k_kind T x.1 = 282)) (hp : p = n_x M) (px : p = x.1) (hle : p < n_le M p) (ht : t_top σ < 3)
    (hk : ∀ {M1 : gM} {σ2 : List Int32} {y : sS}, p_J t a 0 c M1 → t_M T t M1 σ2 y → p < n_x M1 → n_s M1 = n_s M → Ok (k (some 175) l1 M1) (e_R T t (s_b (s_F T (t_dp σ2) y) (t_K T σ2 false)))) (J : p_J t a 1 c M) (X : t_M T t M σ x) : Ok (F_X12_tested_b76 k (some 175) l1 s M) (e_R T t (t_K T σ false x)) := by
  have H := J.1.1.1.1
  have hx := J.1.2.1
  have s1 := n_s1 H
  have hsB : s = 12 ∨ s = 13 := hs.imp And.left And.left
  have e2 := (n_le_le (M := M) (p := p) (by omega)).2
  have ele : n_le M = n_le T := (n_T X.1.1.1 X.1.1.2).1.2.1.2
  have kw : 260 ≤ k_kind T p := by rw [px]; rcases hs with ⟨_, e⟩ | ⟨_, e⟩ <;> (rw [e]; decide)
  have kg : n_sk T (n_le M p) = k_go T x.1 := by rw [ele, ← px]; exact (k_go_w kw).symm
  delta F_X12_tested_b76
  rw [e_gO H, Option.bind_some, R_passWord H hx.2, Option.bind_some, ← hp]
  have J2 : p_J t a 1 (c + 1) (n_at M (n_le M p)) := p_J_at J (by omega) e2
  have F2 : p_F p_T t M (n_at M (n_le M p)) := p_F_at H (by omega) (by decide)
  have x2 : n_x (n_at M (n_le M p)) = n_le M p := n_at_x (by omega)
  have X2 : t_M T t (n_at M (n_le M p)) σ (k_go T x.1, x.2) := t_Mat X (by omega) kg
  generalize n_at M (n_le M p) = M2 at J2 F2 x2 X2 ⊢
  have H2 := J2.1.1.1.1
  have hst : 1 ≤ (n_st s).toInt := by rcases hsB with e | e <;> rw [e] <;> decide
  rw [R_strength, Option.bind_some, e_gC H2, Option.bind_some]
  refine Ok_b (Ok_and (P_settles hst J2) (E_settles hst J2 X2)) (fun M5 q => ?_)
  obtain ⟨⟨⟨H5, F5⟩, J5, ⟨x5, w5⟩, ⟨o5, -⟩, -⟩, X5⟩ := q
  rw [t_sv_q] at X5
  have h5 := J5.1.2.1
  have s5 := n_s1 H5
  have o1 := n_o1 H5
  have ho : n_o M5 < 400 := by omega
  obtain ⟨J8, F8, x8⟩ := p_J_op (S := p_T) (w := s) (e := 1) (e2 := 0) (c := c) (p_J_less J5 (by omega)) ho (by rcases hsB with h9 | h9 <;> rw [h9] <;> decide) (by rcases hsB with h9 | h9 <;> subst h9 <;> rfl) (by omega) (by decide)
  have top : t_top (t_sv (n_st s) σ x).1 < n_st s := t_sv_top (by rcases hsB with e | e <;> rw [e] <;> decide) _ _
  have X8 := t_M_op X5 ho hsB top
  have H8' : y_HT (mI M5 182 (n_o M5) s) := (y_set (M' := mI M5 182 (n_o M5) s) (S := 2 ^ 47) H5 (i := 182) (k := n_o M5) (by decide) rfl rfl y_mI1 (fun j a hj => y_mI2 hj) rfl (y_full rfl) (show Nat.testBit (2 ^ 47) 47 = true by decide)).1
  have o8' : (mI M5 182 (n_o M5) s).2.1 175 16 = M5.2.1 175 16 := mI_ne (Or.inl (by decide))
  rw [e_gR H5 (w := 182) rfl (by decide), Option.bind_some, e_gI H5, Option.bind_some, e_sI H5 (i := 182) (n := 400) rfl (by omega) (by omega), Option.bind_some, show (M5.2.1 175 16).toNatClampNeg = n_o M5 from rfl, e_gI H8', Option.bind_some, e_pI H8', Option.bind_some, o8', n_inc o1.1 (by omega)]
  have F := p_F_tr F2 (p_F_tr F5 F8)
  have fin := hk J8 X8 (by show p < n_x (n_op M5 s); rw [x8]; omega) (n_Fs F (by decide))
  have W := X.2.2.2
  have W2 := t_sv_wf (least := n_st s) σ x W
  have pl := t_sv_pl (least := n_st s) σ x
  have val : t_K T σ false x = s_b (s_F T (t_dp (s :: (t_sv (n_st s) σ x).1)) (k_go T x.1, (t_sv (n_st s) σ x).2.2)) (t_K T (s :: (t_sv (n_st s) σ x).1) false) := by
    rcases hs with ⟨e, kk⟩ | ⟨e, kk⟩
    · subst e
      rw [t_dp_0 (Or.inl rfl), t_K_set2 σ x W ht]
      have := t_K_and B (σ := (t_sv 2 σ x).1) (y := (t_sv 2 σ x).2) W2 top (by rw [show (t_sv 2 σ x).2.1 = x.1 from pl]; exact kk)
      rw [show (t_sv 2 σ x).2.1 = x.1 from pl] at this
      exact this
    · subst e
      rw [t_dp_0 (Or.inr rfl), t_K_set1 σ x W ht (by rw [kk]; decide)]
      have := t_K_or B (σ := (t_sv 1 σ x).1) (y := (t_sv 1 σ x).2) W2 top (by rw [show (t_sv 1 σ x).2.1 = x.1 from pl]; exact kk)
      rw [show (t_sv 1 σ x).2.1 = x.1 from pl] at this
      exact this
  rw [val]
  exact fin
theorem t_fu1 {s s0 y x p n : Nat} (h : s0 - x + 1 < n + 1) (a : p < y) (b : x ≤ p) (b2 : y ≤ s) (e : s = s0) : s - y + 1 < n := by omega
theorem t_fu2 {s s0 x p n : Nat} (h : s0 - x + 1 < n + 1) (b : x ≤ p) (e : s = s0) : s - p + 0 < n := by omega
theorem E_tested_L12 {T : gM} (B : z_B T) {t a c : Nat} : ∀ (n : Nat) {l1 : Int32} {M : gM} {σ : List Int32} {x : sS} {r0 : s_R}, p_J t a (if l1 = 0 then 1 else 0) c M → t_M T t M σ x → (l1 ≠ 0 → r0 = s_b (s_F T (t_dp σ) x) (t_K T σ false)) → (l1 = 0 → r0 = t_K T σ false x ∧ t_top σ < 3 ∧ (k_kind T x.1 ≠ 281 ∧ k_kind T x.1 ≠ 282) ∧ (k_kind T x.1 = 93 → ¬ (91 : Int32) ∈ σ)) → (n_s M - n_x M + (if l1 = 0 then 0 else 1) < n) → Ok (F_X12_tested_L12 n (some 175) l1 M) (e_R T t r0) := by
  intro n
  induction n with
  | zero => intro l1 M σ x r0 J X h1 h0 h; omega
  | succ n ih =>
    intro l1 M σ x r0 J X h1 h0 h
    show Ok (F_X12_tested_b12 (F_X12_tested_L12 n) (some 175) l1 M) _
    have H := J.1.1.1.1
    have mem := t_S_m X.2.1.2
    have no1 := X.2.1.1
    delta F_X12_tested_b12
    by_cases c1 : l1 = 0
    · rw [if_pos c1] at J
      obtain ⟨e0, ht, ⟨ka, ko⟩, kc⟩ := h0 c1
      have W := X.2.2.2
      have pl := t_sv_pl (least := 1) σ x
      rw [t_K_set1 σ x W ht ka] at e0
      rw [if_pos c1, e_gO H, Option.bind_some]
      refine Ok_b (R_isInside H) (fun v2 z => ?_)
      rcases z with ⟨z, z2⟩ | ⟨z, j, hj, z2⟩
      · subst z
        rw [if_pos rfl]
        have nin : ¬ (91 : Int32) ∈ σ := fun hm => by
          obtain ⟨j, h1, h2⟩ := mem.mp hm
          exact z2 j (by omega) h2
        refine Ok_b (E_settles (least := 1) (by decide) J X) (fun M3 X3 => ?_)
        rw [(t_sv1_in W).2 nin] at e0 X3
        rw [t_K_end0 (by rw [pl]; exact ko)] at e0
        rw [e0]
        exact Ok_s ⟨rfl, X3.1⟩
      · subst z
        rw [if_neg (by decide)]
        have inn : (91 : Int32) ∈ σ := mem.mpr ⟨j, by omega, z2⟩
        obtain ⟨τ, et⟩ := (t_sv1_in (y := x) W).1 inn
        have hx := J.1.2.1
        have s1 := n_s1 H
        obtain ⟨ex, X1⟩ := t_Msee X H hx.2
        have k1 := n_sk_le hx.2
        have H1 : y_HT (n_at M (n_sk M (n_x M))) := n_atH H (by omega)
        have xi : (Int32.ofNat (n_sk M (n_x M))).toInt = ((n_sk M (n_x M) : Nat) : Int) := i_ofNat (by omega)
        rw [R_see H hx.2, Option.bind_some]
        dsimp only
        rw [e_gI H1, Option.bind_some, n_at8, e_gC H1, Option.bind_some, R_fails H1, Option.bind_some]
        dsimp only
        rw [if_pos (Or.inl rfl)]
        rw [et, t_K_end1 (by rw [pl]; exact ko)] at e0
        unfold s_close at e0
        rw [if_neg (by rw [pl]; exact fun z => kc z inn), pl] at e0
        rw [e0, ← ex] 
        exact Ok_s ⟨rfl, n_f_0 (by rw [n_atk (by decide)]; exact X.1.2.2.1.1) xi (by omega) rfl (by decide)⟩
    · rw [if_neg c1] at J h
      rw [h1 c1, if_neg c1, e_gO H, Option.bind_some]
      refine Ok_b (Ok_and (P_fact J) (E_fact B J X)) (fun y z => ?_)
      obtain ⟨v12, M13⟩ := y
      obtain ⟨⟨⟨H13, F13⟩, P⟩, E⟩ := z
      dsimp only at P H13 F13 ⊢
      rcases E with ⟨h5, e, e5, g5⟩ | ⟨h5, σ3, z3, X13, e5⟩
      · dsimp only at h5 g5
        rw [if_pos h5, e5]
        exact Ok_s ⟨rfl, g5⟩
      dsimp only at h5 X13
      subst h5
      rcases P with ⟨h5, _⟩ | ⟨_, J13, x13⟩
      · exact absurd h5 (by decide)
      rw [e5, if_neg (by decide), e_gC H13, Option.bind_some]
      refine Ok_b (Ok_and (P_closes J13) (E_closes J13 X13)) (fun M15 q => ?_)
      obtain ⟨⟨⟨H15, F15⟩, J15, x15⟩, σ4, z4, X15, e15, ⟨t15, xx15⟩, in15⟩ := q
      have F := p_F_tr F13 F15
      have sF := n_Fs F (by decide)
      have hx := J15.1.2.1
      have s1 := n_s1 H15
      obtain ⟨p, hp⟩ : ∃ p, p = n_sk M15 (n_x M15) := ⟨_, rfl⟩
      obtain ⟨ex, X1⟩ := t_Msee X15 H15 hx.2
      have px : p = z4.1 := hp.trans ex
      rw [← px] at X1
      have k1 := n_sk_le hx.2
      rw [← hp] at k1
      have J1 : p_J t a 1 c (n_at M15 p) := p_J_at J15 (by omega) (by omega)
      have H1 := J1.1.1.1.1
      have x1 : n_x (n_at M15 p) = p := n_at_x (by omega)
      have s2 : n_s (n_at M15 p) = n_s M15 := n_at_s
      have l1' : n_le (n_at M15 p) p = n_le M15 p := n_at_le
      have ew : n_w M15 = n_w T := (n_T X15.1.1.1 X15.1.1.2).2.1.1
      rw [e15]
      rw [e_gC H15, Option.bind_some, R_isWord H15 hx.2, ← hp, Option.bind_some]
      dsimp only
      have b76 : ∀ {s : Int32}, ((s = 12 ∧ k_kind T z4.1 = 281) ∨ (s = 13 ∧ k_kind T z4.1 = 282)) → p < n_le M15 p → Ok (F_X12_tested_b76 (F_X12_tested_L12 n) (some 175) 1 s (n_at M15 p)) (e_R T t (t_K T σ4 false z4)) := by
        intro s hs hle
        refine E_tested_b76 B (p := p) hs x1.symm px (by rw [l1']; exact hle) t15 (fun J9 X9 a1 a2 => ih (l1 := 1) (by rw [if_neg (by decide)]; exact J9) X9 (fun _ => rfl) (fun z => absurd z (by decide)) ?_) J1 X1
        rw [if_neg (by decide)]
        exact t_fu1 h a1 (Nat.le_trans x13 (Nat.le_trans x15 k1.1)) J9.1.2.1.2 (a2.trans (s2.trans sF))
      by_cases ca : n_w M15 p 6385252 = true
      · have kk : k_kind T z4.1 = 281 := by rw [← px]; exact n_w_and.mp (by rw [← ew]; exact ca)
        rw [if_pos ca, if_neg (by decide)]
        delta F_X12_tested_b49 F_X12_tested_b54
        rw [if_neg (by decide), e_gO H1, Option.bind_some, R_isW2 H15 hx.2 hp, Option.bind_some]
        dsimp only
        rw [if_pos ca, if_neg (by decide)]
        exact b76 (Or.inl ⟨rfl, kk⟩) (n_w_le ca)
      · have ka : k_kind T z4.1 ≠ 281 := by
          rw [← px]
          exact fun z => ca (by rw [ew]; exact n_w_and.mpr z)
        rw [if_neg ca, if_pos rfl, e_gC H1, Option.bind_some, R_isW2 H15 hx.2 hp, Option.bind_some]
        dsimp only
        by_cases co : n_w M15 p 28530 = true
        · have kk : k_kind T z4.1 = 282 := by rw [← px]; exact n_w_or.mp (by rw [← ew]; exact co)
          rw [if_pos co, if_neg (by decide)]
          delta F_X12_tested_b49 F_X12_tested_b54
          rw [if_neg (by decide), e_gO H1, Option.bind_some, R_isW2 H15 hx.2 hp, Option.bind_some]
          dsimp only
          rw [if_neg ca, if_pos rfl]
          exact b76 (Or.inr ⟨rfl, kk⟩) (n_w_le co)
        · have ko : k_kind T z4.1 ≠ 282 := by
            rw [← px]
            exact fun z => co (by rw [ew]; exact n_w_or.mpr z)
          rw [if_neg co, if_pos rfl]
          delta F_X12_tested_b54
          rw [if_pos rfl]
          refine ih (l1 := 0) (by rw [if_pos rfl]; exact J1) X1 (fun z => absurd rfl z) (fun _ => ⟨rfl, t15, ⟨ka, ko⟩, in15⟩) ?_
          rw [if_pos rfl, x1]
          exact t_fu2 h (Nat.le_trans x13 (Nat.le_trans x15 k1.1)) (s2.trans sF)
theorem E_tested {T : gM} (B : z_B T) {t a c : Nat} {M : gM} {x : sS} (I : p_I t a 0 c M) (X : r_X T t M x) : Ok (F_X12_tested (some 175) M) (e_R T t (s_J T 0 0 x)) := by
  have H := I.1.1.1
  delta F_X12_tested F_X12_tested_b0
  rw [e_pI H, Option.bind_some]
  obtain ⟨H1, f1⟩ := y_set (M' := mI M 175 16 (0 : Int32)) (S := 2 ^ 16) H (i := 175) (k := 16) (by decide) rfl rfl y_mI1 (fun j a hj => y_mI2 hj) rfl (y_in (lo := 0) (hi := 400) rfl (by decide)) (by decide)
  have X1 := r_Xw (v := (0 : Int32)) X (i := 175) (k := 16) (Or.inl ⟨rfl, Or.inr rfl⟩)
  have o1 : n_o (mI M 175 16 (0 : Int32)) = 0 := by
    show ((mI M 175 16 (0 : Int32)).2.1 175 16).toInt.toNat = 0
    rw [y_mI1]
    rfl
  generalize mI M 175 16 (0 : Int32) = M1 at H1 f1 o1 X1 ⊢
  have x1 := n_fx f1 (by decide)
  have J1 : p_J t a 0 c M1 := by
    unfold p_J
    rw [o1]
    exact ⟨p_I_of I H1 f1 (by decide) ⟨by rw [x1, Nat.zero_add]; exact I.2.1.1, by rw [x1]; exact I.2.1.2⟩ (by rw [n_fm f1 (by decide)]; exact Nat.le_refl _), fun k hk => absurd hk (Nat.not_lt_zero _)⟩
  rw [e_pI H1, Option.bind_some]
  obtain ⟨J2, F2, x2, s2, -, o2⟩ := p_J_deep (v := (0 : Int32)) J1
  have X2 := r_Xw (v := (0 : Int32)) X1 (i := 175) (k := 13) (Or.inl ⟨rfl, Or.inl rfl⟩)
  have s3 := n_s1 J2.1.1.1.1
  refine E_tested_L12 B _ (l1 := 1) (σ := []) (x := x) (by rw [if_neg (by decide)]; exact J2) ⟨X2, ⟨by rw [o2, o1]; rfl, trivial⟩, ⟨by rw [y_mI1]; rfl, Nat.zero_le _⟩, trivial⟩ (fun _ => t_K_J) (fun z => absurd z (by decide)) ?_
  rw [if_neg (by decide)]
  have : g_fuel = 1000000000 := rfl
  omega
