/-! clauses of the reference as the document says -/
/-- what the place in a RULE does not look at, at large -/
theorem r_Xfr {T : gM} {t S : Nat} {M M' : gM} {x : sS} (X : r_X T t M x) (f : y_Fr S M M') (h : Nat.land S (2 ^ 1 + 2 ^ 8 + 2 ^ 9 + 2 ^ 12 + 2 ^ 41 + 2 ^ 42 + 2 ^ 43) = 0) : r_X T t M' x := by
  refine ⟨⟨(funext (fun q => y_fa (i := 176) f (by decide) (y_dis h (by decide)) q)).trans X.1.1, (n_fs f (y_dis h (by decide))).trans X.1.2⟩, ?_, ⟨by rw [y_fk (i := 175) (k := 9) f (y_dis h (by decide))]; exact X.2.2.1.1, ?_⟩, ?_, ?_⟩
  · rw [n_fx f (y_dis h (by decide))]
    exact X.2.1
  · rw [n_fm f (y_dis h (by decide))]
    exact X.2.2.1.2
  · rw [n_fl (t := t) f (y_dis h (by decide))]
    exact X.2.2.2.1
  · have : y_sn M' t = y_sn M t := y_snf f (y_dis h (by decide)) t
    rw [this]
    exact X.2.2.2.2
def s_fd (T : gM) (x : sS) : s_R := s_b (s_sum T (k_go T x.1, x.2)) (fun y => if k_kind T y.1 = 279 then s_J T 0 0 (k_go T y.1, y.2) else .inr y)
def s_c1 (T : gM) (cl : Nat) (x : sS) : s_R := if k_kind T x.1 ≠ 278 then .inl (1 + 8 * x.1 + 0) else if 12 < cl then .inl (1 + 8 * x.1 + 4) else s_fd T x
theorem n_w_if {T : gM} {p : Nat} : n_w T p 26982 = true ↔ k_kind T p = 279 := w_iff (i := 18) (by decide) (by decide)
theorem n_w_fade {T : gM} {p : Nat} : n_w T p 1717658725 = true ↔ k_kind T p = 278 := w_iff (i := 17) (by decide) (by decide)
theorem E_fade_b110 {T : gM} {t c q : Nat} {l1 : Int32} {M : gM} {x : sS} (H : y_HT M) (ht : t ≤ 5) (e11 : (M.2.1 175 11).toInt = (t : Int)) (hq : q = 48 * t + 4 * c) (hl : l1.toInt = (q : Int)) (hc : c < 12) (hcc : n_cc M t = c) (X : r_X T t M x) : Ok (F_X12_isFadeHere_b110 (some 175) l1 M) (e_R T t (.inr x)) := by
  have ct : (M.2.1 175 11).toNatClampNeg = t := i_cl e11
  have z3 : (3 : Int32).toInt = 3 := rfl
  have a1 := i_addc (x := l1) (c := (3 : Int32)) z3 (by omega) (by omega)
  have c3 : (l1 + (3 : Int32)).toNatClampNeg = q + 3 := i_cl (by omega)
  have ll := n_l1 H t
  have cc1 := n_cc1 H t
  delta F_X12_isFadeHere_b110
  rw [e_gR H (w := 179) rfl (by decide), Option.bind_some, e_gR H (w := 178) rfl (by decide), Option.bind_some, e_gI H, Option.bind_some, e_aI H (t := 20) (i := 178) (n := 7) rfl (by decide) (by omega) (by omega), Option.bind_some, ct, e_sI H (i := 179) (n := 288) rfl (by omega) (by omega), Option.bind_some, c3]
  obtain ⟨H5, f5⟩ := y_set (M' := mI M 179 (q + 3) (M.2.1 178 t)) (S := 2 ^ 44) H (i := 179) (k := q + 3) (by decide) rfl rfl y_mI1 (fun j a hj => y_mI2 hj) rfl (y_in (lo := -1) (hi := 400) rfl (by omega)) (show Nat.testBit (2 ^ 44) 44 = true by decide)
  generalize mI M 179 (q + 3) (M.2.1 178 t) = M5 at H5 f5 ⊢
  have e11' := y_fk (i := 175) (k := 11) f5 (by decide)
  have e180 : ∀ k, M5.2.1 180 k = M.2.1 180 k := fun k => y_fa (i := 180) f5 (by decide) (by decide) k
  have inc : M5.2.1 180 t + (1 : Int32) = Int32.ofNat (c + 1) := n_inc (by rw [e180, cc1.1, hcc]) (by omega)
  rw [e_gR H5 (w := 180) rfl (by decide), Option.bind_some, e_gI H5, Option.bind_some, e11', e_aI H5 (t := 20) (i := 180) (n := 6) rfl (by decide) (by omega) (by omega), Option.bind_some, ct, e_sI H5 (i := 180) (n := 6) rfl (by omega) (by omega), Option.bind_some, ct, inc]
  have ci : (Int32.ofNat (c + 1)).toInt = ((c + 1 : Nat) : Int) := i_ofNat (by omega)
  obtain ⟨H9, f9⟩ := y_set (M' := mI M5 180 t (Int32.ofNat (c + 1))) (S := 2 ^ 45) H5 (i := 180) (k := t) (by decide) rfl rfl y_mI1 (fun j a hj => y_mI2 hj) rfl (y_in (lo := 0) (hi := 12) rfl (by omega)) (show Nat.testBit (2 ^ 45) 45 = true by decide)
  exact Ok_s ⟨rfl, r_Xfr (r_Xfr X f5 (by decide)) f9 (by decide)⟩
theorem E_isFadeHere {T : gM} (B : z_B T) {t c : Nat} {M : gM} {x : sS} (K : p_K t c M) (hc : c < 12) (X : r_X T t M x) (xx : n_x M = x.1) (kk : k_kind T x.1 = 278) : Ok (F_X12_isFadeHere (some 175) M) (e_R T t (s_fd T x)) := by
  obtain ⟨⟨⟨H, ht⟩, e11⟩, hx, hcc, C0⟩ := K
  have s1 := n_s1 H
  have cc1 := n_cc1 H t
  have e2 := n_le_le (M := M) (p := n_x M) hx.2
  have ele : n_le M = n_le T := (n_T X.1.1 X.1.2).1.2.1.2
  have kg : n_sk T (n_le M (n_x M)) = k_go T x.1 := by rw [ele, xx]; exact (k_go_w (by omega)).symm
  delta F_X12_isFadeHere F_X12_isFadeHere_b0
  rw [e_gO H, Option.bind_some, R_passWord H hx.2, Option.bind_some]
  have I0 : p_I t (n_l M t) 0 0 M := ⟨⟨⟨H, ht⟩, e11⟩, ⟨hx.1, hx.2⟩, ⟨Nat.le_refl _, by rw [Nat.sub_self]; rfl⟩, Nat.zero_le _⟩
  have I2 : p_I t (n_l M t) 0 0 (n_at M (n_le M (n_x M))) := p_I_at I0 (by omega) e2.2
  have X2 : r_X T t (n_at M (n_le M (n_x M))) (k_go T x.1, x.2) := r_Xat X (by omega) kg
  have c2 : n_cc (n_at M (n_le M (n_x M))) t = c := by
    unfold n_cc
    rw [n_ata (by decide)]
    exact hcc
  generalize n_at M (n_le M (n_x M)) = M2 at I2 X2 c2 ⊢
  have H2 := I2.1.1.1
  have t2 := I2.1.2
  have ct2 : (M2.2.1 175 11).toNatClampNeg = t := i_cl t2
  have ll2 := n_l1 H2 t
  have cc2 := n_cc1 H2 t
  have a1 := i_mulL (c := (48 : Int32)) (x := M2.2.1 175 11) (n := 48) rfl (by omega) (by omega)
  have a2 := i_mulL (c := (4 : Int32)) (x := M2.2.1 180 t) (n := 4) rfl (by omega) (by omega)
  have a3 := i_add (x := (48 : Int32) * M2.2.1 175 11) (y := (4 : Int32) * M2.2.1 180 t) (by omega) (by omega)
  rw [e_gI H2, Option.bind_some, e_gR H2 (w := 180) rfl (by decide), Option.bind_some, Option.bind_some, e_aI H2 (t := 20) (i := 180) (n := 6) rfl (by decide) (by omega) (by omega), Option.bind_some, ct2]
  obtain ⟨q, hq⟩ : ∃ q, q = 48 * t + 4 * c := ⟨_, rfl⟩
  obtain ⟨l, hl⟩ : ∃ l, l = (48 : Int32) * M2.2.1 175 11 + (4 : Int32) * M2.2.1 180 t := ⟨_, rfl⟩
  rw [← hl] at a3 ⊢
  have lq : l.toInt = (q : Int) := by omega
  have lc : l.toNatClampNeg = q := i_cl lq
  have b1 := i_addc (x := l) (c := (1 : Int32)) (n := 1) rfl (by omega) (by omega)
  have b2 := i_addc (x := l) (c := (2 : Int32)) (n := 2) rfl (by omega) (by omega)
  have lc1 : (l + (1 : Int32)).toNatClampNeg = q + 1 := i_cl (by omega)
  have lc2 : (l + (2 : Int32)).toNatClampNeg = q + 2 := i_cl (by omega)
  rw [e_gR H2 (w := 179) rfl (by decide), Option.bind_some, e_gR H2 (w := 178) rfl (by decide), Option.bind_some, Option.bind_some, e_aI H2 (t := 20) (i := 178) (n := 7) rfl (by decide) (by omega) (by omega), Option.bind_some, ct2, e_sI H2 (i := 179) (n := 288) rfl (by omega) (by omega), Option.bind_some, lc]
  -- a mark leaves all that is looked at
  have mk : ∀ {N : gM} {y : sS} {j : Nat} {v : Int32} {d : Nat}, p_I t (n_l M t) d 0 N → r_X T t N y → n_cc N t = c → q ≤ j → j < 288 → (-1 ≤ v.toInt ∧ v.toInt ≤ 400) → p_I t (n_l M t) d 0 (mI N 179 j v) ∧ r_X T t (mI N 179 j v) y ∧ n_cc (mI N 179 j v) t = c := by
    intro N y j v d IN XN cN h1 h2 h3
    obtain ⟨H1, f1⟩ := y_set (M' := mI N 179 j v) (S := 2 ^ 44) IN.1.1.1 (i := 179) (k := j) (by decide) rfl rfl y_mI1 (fun j a hj => y_mI2 hj) rfl h3 (show Nat.testBit (2 ^ 44) 44 = true by decide)
    refine ⟨(p_mark (S := 0) IN h1 h2 h3).1, r_Xfr XN f1 (by decide), ?_⟩
    unfold n_cc
    rw [mI_ne (Or.inl (by decide))]
    exact cN
  obtain ⟨I11, X11, c11⟩ := mk (j := q) (v := M2.2.1 178 t) I2 X2 c2 (Nat.le_refl _) (by omega) (by omega)
  generalize mI M2 179 q (M2.2.1 178 t) = M11 at I11 X11 c11 ⊢
  have H11 := I11.1.1.1
  rw [e_gC H11, Option.bind_some]
  unfold s_fd
  refine Ok_b (Ok_and (P_sum I11) (E_sum B I11 X11)) (fun y z => ?_)
  obtain ⟨v13, M14⟩ := y
  obtain ⟨⟨⟨H14, F14⟩, P⟩, E⟩ := z
  dsimp only at P E H14 F14 ⊢
  generalize s_sum T (k_go T x.1, x.2) = r at E ⊢
  cases r with
  | inl e =>
    obtain ⟨h5, g5⟩ := E
    dsimp only at h5 g5
    subst h5
    rw [if_pos rfl]
    exact Ok_s ⟨rfl, g5⟩
  | inr y =>
  obtain ⟨h5, X14⟩ := E
  dsimp only at h5 X14
  subst h5
  rcases P with ⟨h5, _⟩ | ⟨_, I14, x14⟩
  · exact absurd h5 (by decide)
  have c14 : n_cc M14 t = c := by
    unfold n_cc
    rw [y_fa (i := 180) F14.1 (by decide) (by decide) t]
    exact c11
  have t14 := I14.1.2
  have ct14 : (M14.2.1 175 11).toNatClampNeg = t := i_cl t14
  have ll14 := n_l1 H14 t
  rw [if_neg (by decide), e_gR H14 (w := 179) rfl (by decide), Option.bind_some, e_gR H14 (w := 178) rfl (by decide), Option.bind_some, e_gI H14, Option.bind_some, e_aI H14 (t := 20) (i := 178) (n := 7) rfl (by decide) (by omega) (by omega), Option.bind_some, ct14, e_sI H14 (i := 179) (n := 288) rfl (by omega) (by omega), Option.bind_some, lc1]
  obtain ⟨I19, X19, c19⟩ := mk (j := q + 1) (v := M14.2.1 178 t) I14 X14 c14 (by omega) (by omega) (by omega)
  generalize mI M14 179 (q + 1) (M14.2.1 178 t) = M19 at I19 X19 c19 ⊢
  have H19 := I19.1.1.1
  rw [e_gR H19 (w := 179) rfl (by decide), Option.bind_some, e_sI H19 (i := 179) (n := 288) rfl (by omega) (by omega), Option.bind_some, lc2]
  obtain ⟨I21, X21, c21⟩ := mk (j := q + 2) (v := (-1 : Int32)) I19 X19 c19 (by omega) (by omega) (by decide)
  generalize mI M19 179 (q + 2) (-1 : Int32) = M21 at I21 X21 c21 ⊢
  have H21 := I21.1.1.1
  have h21 := I21.2.1
  have s21 := n_s1 H21
  have k21 := n_sk_le h21.2
  obtain ⟨ex, Xs⟩ := r_Xsee X21 H21 h21.2
  obtain ⟨p, hp⟩ : ∃ p, p = n_sk M21 (n_x M21) := ⟨_, rfl⟩
  have px : p = y.1 := hp.trans ex
  have n21 := n_T X21.1.1 X21.1.2
  have ew : n_w M21 = n_w T := n21.2.1.1
  have el : n_le M21 = n_le T := n21.1.2.1.2
  rw [← hp] at k21
  rw [e_gC H21, Option.bind_some, R_takesWord H21 h21.2, Option.bind_some, ← hp]
  by_cases cw : n_w M21 p 26982 = true
  · have k9 : k_kind T y.1 = 279 := by rw [← px]; exact n_w_if.mp (by rw [← ew]; exact cw)
    rw [if_pos cw]
    dsimp only
    have e9 := n_le_le (M := M21) (p := p) (by omega)
    have I24 : p_I t (n_l M t) (0 + 1) 0 (n_at M21 (n_le M21 p)) := p_I_at I21 (by omega) e9.2
    have X24 : r_X T t (n_at M21 (n_le M21 p)) (k_go T y.1, y.2) := r_Xat X21 (by omega) (by rw [el, px]; exact (k_go_w (by omega)).symm)
    have c24 : n_cc (n_at M21 (n_le M21 p)) t = c := by
      rw [n_c9]
      exact c21
    generalize n_at M21 (n_le M21 p) = M24 at I24 X24 c24 ⊢
    have H24 := I24.1.1.1
    have t24 := I24.1.2
    have ct24 : (M24.2.1 175 11).toNatClampNeg = t := i_cl t24
    have ll24 := n_l1 H24 t
    rw [if_neg (by decide), e_gR H24 (w := 179) rfl (by decide), Option.bind_some, e_gR H24 (w := 178) rfl (by decide), Option.bind_some, e_gI H24, Option.bind_some, e_aI H24 (t := 20) (i := 178) (n := 7) rfl (by decide) (by omega) (by omega), Option.bind_some, ct24, e_sI H24 (i := 179) (n := 288) rfl (by omega) (by omega), Option.bind_some, lc2]
    obtain ⟨I29, X29, c29⟩ := mk (j := q + 2) (v := M24.2.1 178 t) I24 X24 c24 (by omega) (by omega) (by omega)
    generalize mI M24 179 (q + 2) (M24.2.1 178 t) = M29 at I29 X29 c29 ⊢
    have H29 := I29.1.1.1
    have J29 : p_I t (n_l M29 t) 0 0 M29 := ⟨I29.1, ⟨I29.2.1.1, I29.2.1.2⟩, ⟨Nat.le_refl _, by rw [Nat.sub_self]; rfl⟩, Nat.zero_le _⟩
    rw [e_gC H29, Option.bind_some]
    show Ok _ (e_R T t (if k_kind T y.1 = 279 then s_J T 0 0 (k_go T y.1, y.2) else .inr y))
    rw [if_pos k9]
    refine Ok_b (Ok_and (P_tested J29) (E_tested B J29 X29)) (fun y2 z => ?_)
    obtain ⟨v31, M32⟩ := y2
    obtain ⟨⟨⟨H32, F32⟩, P⟩, E⟩ := z
    dsimp only at P E H32 F32 ⊢
    generalize s_J T 0 0 (k_go T y.1, y.2) = r at E ⊢
    cases r with
    | inl e =>
      obtain ⟨h5, g5⟩ := E
      dsimp only at h5 g5
      subst h5
      rw [if_pos rfl]
      exact Ok_s ⟨rfl, g5⟩
    | inr y3 =>
    obtain ⟨h5, X32⟩ := E
    dsimp only at h5 X32
    subst h5
    rcases P with ⟨h5, _⟩ | ⟨_, I32, x32⟩
    · exact absurd h5 (by decide)
    rw [if_neg (by decide)]
    have c32 : n_cc M32 t = c := by
      unfold n_cc
      rw [y_fa (i := 180) F32.1 (by decide) (by decide) t]
      exact c29
    exact E_fade_b110 H32 ht I32.1.2 hq lq hc c32 X32
  · have k9 : ¬ k_kind T y.1 = 279 := by
      rw [← px]
      exact fun z => cw (by rw [ew]; exact n_w_if.mpr z)
    rw [if_neg cw]
    dsimp only
    show Ok _ (e_R T t (if k_kind T y.1 = 279 then s_J T 0 0 (k_go T y.1, y.2) else .inr y))
    rw [if_neg k9, if_pos rfl]
    rw [← px] at Xs
    have I24 : p_I t (n_l M t) (0 + 1) 0 (n_at M21 p) := p_I_at I21 (by omega) (by omega)
    exact E_fade_b110 I24.1.1.1 ht I24.1.2 hq lq hc (by rw [n_c9]; exact c21) Xs
