/-! the reference's CLAUSES as they stand behind rule() -/
def e_mk (q : Nat) (M : gM) (m : Nat × Nat × Nat) : Prop := ((M.2.1 179 q).toInt = (m.1 : Int) ∧ (M.2.1 179 (q + 1)).toInt = (m.2.1 : Int)) ∧ (M.2.1 179 (q + 2)).toInt = (if m.2.1 = m.2.2 then -1 else (m.2.1 : Int)) ∧ (M.2.1 179 (q + 3)).toInt = (m.2.2 : Int)
def e_RM (T : gM) (t q : Nat) (M0 : gM) (r : Nat ⊕ (sS × (Nat × Nat × Nat))) : Int32 × gM → Prop := fun y => match r with
  | .inl e => y.1 = 0 ∧ (y.2.2.1 175 9).toInt = (e : Int)
  | .inr (z, m) => (y.1 = 1 ∧ r_X T t y.2 z) ∧ e_mk q y.2 m ∧ ∀ j, j < q → y.2.2.1 179 j = M0.2.1 179 j
def s_fdm (T : gM) (x : sS) : Nat ⊕ (sS × (Nat × Nat × Nat)) := match s_sum T (k_go T x.1, x.2) with
  | .inl e => .inl e
  | .inr y => if k_kind T y.1 = 279 then (match s_J T 0 0 (k_go T y.1, y.2) with
    | .inl e => .inl e
    | .inr z => .inr (z, (x.2.2.length, y.2.2.length, z.2.2.length))) else .inr (y, (x.2.2.length, y.2.2.length, y.2.2.length))
theorem E_fade_b110M {T : gM} {t c q : Nat} {l1 : Int32} {M M0 : gM} {x : sS} {m : Nat × Nat × Nat} (H : y_HT M) (ht : t ≤ 5) (e11 : (M.2.1 175 11).toInt = (t : Int)) (hq : q = 48 * t + 4 * c) (hl : l1.toInt = (q : Int)) (hc : c < 12) (hcc : n_cc M t = c) (X : r_X T t M x) (h179 : ((M.2.1 179 q).toInt = (m.1 : Int) ∧ (M.2.1 179 (q + 1)).toInt = (m.2.1 : Int)) ∧ (M.2.1 179 (q + 2)).toInt = (if m.2.1 = m.2.2 then -1 else (m.2.1 : Int))) (hm : m.2.2 = x.2.2.length) (h0 : ∀ j, j < q → M.2.1 179 j = M0.2.1 179 j) : Ok (F_X12_isFadeHere_b110 (some 175) l1 M) (e_RM T t q M0 (.inr (x, m))) := by
  have ct : (M.2.1 175 11).toNatClampNeg = t := i_cl e11
  have z3 : (3 : Int32).toInt = 3 := rfl
  have a1 := i_addc (x := l1) (c := (3 : Int32)) z3 (by omega) (by omega)
  have c3 : (l1 + (3 : Int32)).toNatClampNeg = q + 3 := i_cl (by omega)
  have ll := n_l1 H t
  have cc1 := n_cc1 H t
  delta F_X12_isFadeHere_b110
  rw [e_gR H (w := 179) rfl (by decide), Option.bind_some, e_gR H (w := 178) rfl (by decide), Option.bind_some, e_gI H, Option.bind_some, e_aI H (t := 20) (i := 178) (n := 7) rfl (by decide) (by omega) (by omega), Option.bind_some, ct, e_sI H (i := 179) (n := 288) rfl (by omega) (by omega), Option.bind_some, c3]
  obtain ⟨H5, f5⟩ := y_set (M' := mI M 179 (q + 3) (M.2.1 178 t)) (S := 2 ^ 44) H (i := 179) (k := q + 3) (by decide) rfl rfl y_mI1 (fun j a hj => y_mI2 hj) rfl (y_in (lo := -1) (hi := 400) rfl (by omega)) (show Nat.testBit (2 ^ 44) 44 = true by decide)
  have w3 : (mI M 179 (q + 3) (M.2.1 178 t)).2.1 179 (q + 3) = M.2.1 178 t := y_mI1
  have o3 : ∀ j, j ≠ q + 3 → (mI M 179 (q + 3) (M.2.1 178 t)).2.1 179 j = M.2.1 179 j := fun j hj => mI_ne (Or.inr hj)
  generalize mI M 179 (q + 3) (M.2.1 178 t) = M5 at H5 f5 w3 o3 ⊢
  have e11' := y_fk (i := 175) (k := 11) f5 (by decide)
  have e180 : ∀ k, M5.2.1 180 k = M.2.1 180 k := fun k => y_fa (i := 180) f5 (by decide) (by decide) k
  have inc : M5.2.1 180 t + (1 : Int32) = Int32.ofNat (c + 1) := n_inc (by rw [e180, cc1.1, hcc]) (by omega)
  rw [e_gR H5 (w := 180) rfl (by decide), Option.bind_some, e_gI H5, Option.bind_some, e11', e_aI H5 (t := 20) (i := 180) (n := 6) rfl (by decide) (by omega) (by omega), Option.bind_some, ct, e_sI H5 (i := 180) (n := 6) rfl (by omega) (by omega), Option.bind_some, ct, inc]
  have ci : (Int32.ofNat (c + 1)).toInt = ((c + 1 : Nat) : Int) := i_ofNat (by omega)
  obtain ⟨H9, f9⟩ := y_set (M' := mI M5 180 t (Int32.ofNat (c + 1))) (S := 2 ^ 45) H5 (i := 180) (k := t) (by decide) rfl rfl y_mI1 (fun j a hj => y_mI2 hj) rfl (y_in (lo := 0) (hi := 12) rfl (by omega)) (show Nat.testBit (2 ^ 45) 45 = true by decide)
  have o9 : ∀ j, (mI M5 180 t (Int32.ofNat (c + 1))).2.1 179 j = M5.2.1 179 j := fun j => mI_ne (Or.inl (by decide))
  have xl : n_l M t = x.2.2.length := X.2.2.2.1
  refine Ok_s ⟨⟨rfl, r_Xfr (r_Xfr X f5 (by decide)) f9 (by decide)⟩, ⟨⟨?_, ?_⟩, ?_, ?_⟩, fun j hj => ?_⟩
  · show ((mI M5 180 t (Int32.ofNat (c + 1))).2.1 179 q).toInt = _
    rw [o9, o3 _ (by omega)]
    exact h179.1.1
  · show ((mI M5 180 t (Int32.ofNat (c + 1))).2.1 179 (q + 1)).toInt = _
    rw [o9, o3 _ (by omega)]
    exact h179.1.2
  · show ((mI M5 180 t (Int32.ofNat (c + 1))).2.1 179 (q + 2)).toInt = _
    rw [o9, o3 _ (by omega)]
    exact h179.2
  · show ((mI M5 180 t (Int32.ofNat (c + 1))).2.1 179 (q + 3)).toInt = _
    rw [o9, w3, hm, ll.1, xl]
  · show (mI M5 180 t (Int32.ofNat (c + 1))).2.1 179 j = _
    rw [o9, o3 _ (by omega)]
    exact h0 j hj
theorem E_isFadeHereM {T : gM} (B : z_B T) {t c : Nat} {M : gM} {x : sS} (K : p_K t c M) (hc : c < 12) (X : r_X T t M x) (xx : n_x M = x.1) (kk : k_kind T x.1 = 278) : Ok (F_X12_isFadeHere (some 175) M) (e_RM T t (48 * t + 4 * c) M (s_fdm T x)) := by
  obtain ⟨⟨⟨H, ht⟩, e11⟩, hx, hcc, C0⟩ := K
  have s1 := n_s1 H
  have cc1 := n_cc1 H t
  have e2 := n_le_le (M := M) (p := n_x M) hx.2
  have ele : n_le M = n_le T := (n_T X.1.1 X.1.2).1.2.1.2
  have kg : n_sk T (n_le M (n_x M)) = k_go T x.1 := by rw [ele, xx]; exact (k_go_w (by omega)).symm
  delta F_X12_isFadeHere F_X12_isFadeHere_b0
  rw [e_gO H, Option.bind_some, R_passWord H hx.2, Option.bind_some]
  have I0 : p_I t (n_l M t) 0 0 M := ⟨⟨⟨H, ht⟩, e11⟩, ⟨hx.1, hx.2⟩, ⟨Nat.le_refl _, by rw [Nat.sub_self]; rfl⟩, Nat.zero_le _⟩
  have I2 : p_I t (n_l M t) 0 0 (n_at M (n_le M (n_x M))) := p_I_at I0 (by omega) e2.2
  have X2 : r_X T t (n_at M (n_le M (n_x M))) (k_go T x.1, x.2) := r_Xat X (by omega) kg
  have c2 : n_cc (n_at M (n_le M (n_x M))) t = c := by
    unfold n_cc
    rw [n_ata (by decide)]
    exact hcc
  have p2 : ∀ j, (n_at M (n_le M (n_x M))).2.1 179 j = M.2.1 179 j := fun j => congrFun (n_ata (by decide)) j
  generalize n_at M (n_le M (n_x M)) = M2 at I2 X2 c2 p2 ⊢
  have H2 := I2.1.1.1
  have t2 := I2.1.2
  have ct2 : (M2.2.1 175 11).toNatClampNeg = t := i_cl t2
  have ll2 := n_l1 H2 t
  have cc2 := n_cc1 H2 t
  have a1 := i_mulL (c := (48 : Int32)) (x := M2.2.1 175 11) (n := 48) rfl (by omega) (by omega)
  have a2 := i_mulL (c := (4 : Int32)) (x := M2.2.1 180 t) (n := 4) rfl (by omega) (by omega)
  have a3 := i_add (x := (48 : Int32) * M2.2.1 175 11) (y := (4 : Int32) * M2.2.1 180 t) (by omega) (by omega)
  rw [e_gI H2, Option.bind_some, e_gR H2 (w := 180) rfl (by decide), Option.bind_some, Option.bind_some, e_aI H2 (t := 20) (i := 180) (n := 6) rfl (by decide) (by omega) (by omega), Option.bind_some, ct2]
  obtain ⟨q, hq⟩ : ∃ q, q = 48 * t + 4 * c := ⟨_, rfl⟩
  rw [← hq]
  obtain ⟨l, hl⟩ : ∃ l, l = (48 : Int32) * M2.2.1 175 11 + (4 : Int32) * M2.2.1 180 t := ⟨_, rfl⟩
  rw [← hl] at a3 ⊢
  have lq : l.toInt = (q : Int) := by omega
  have lc : l.toNatClampNeg = q := i_cl lq
  have b1 := i_addc (x := l) (c := (1 : Int32)) (n := 1) rfl (by omega) (by omega)
  have b2 := i_addc (x := l) (c := (2 : Int32)) (n := 2) rfl (by omega) (by omega)
  have lc1 : (l + (1 : Int32)).toNatClampNeg = q + 1 := i_cl (by omega)
  have lc2 : (l + (2 : Int32)).toNatClampNeg = q + 2 := i_cl (by omega)
  rw [e_gR H2 (w := 179) rfl (by decide), Option.bind_some, e_gR H2 (w := 178) rfl (by decide), Option.bind_some, Option.bind_some, e_aI H2 (t := 20) (i := 178) (n := 7) rfl (by decide) (by omega) (by omega), Option.bind_some, ct2, e_sI H2 (i := 179) (n := 288) rfl (by omega) (by omega), Option.bind_some, lc]
  -- a mark leaves all that is looked at
  have mk : ∀ {N : gM} {y : sS} {j : Nat} {v : Int32} {d : Nat}, p_I t (n_l M t) d 0 N → r_X T t N y → n_cc N t = c → q ≤ j → j < 288 → (-1 ≤ v.toInt ∧ v.toInt ≤ 400) → p_I t (n_l M t) d 0 (mI N 179 j v) ∧ r_X T t (mI N 179 j v) y ∧ n_cc (mI N 179 j v) t = c := by
    intro N y j v d IN XN cN h1 h2 h3
    obtain ⟨H1, f1⟩ := y_set (M' := mI N 179 j v) (S := 2 ^ 44) IN.1.1.1 (i := 179) (k := j) (by decide) rfl rfl y_mI1 (fun j a hj => y_mI2 hj) rfl h3 (show Nat.testBit (2 ^ 44) 44 = true by decide)
    refine ⟨(p_mark (S := 0) IN h1 h2 h3).1, r_Xfr XN f1 (by decide), ?_⟩
    unfold n_cc
    rw [mI_ne (Or.inl (by decide))]
    exact cN
  have xl : (M2.2.1 178 t).toInt = (x.2.2.length : Int) := by rw [ll2.1, X2.2.2.2.1]
  have w11 : (mI M2 179 q (M2.2.1 178 t)).2.1 179 q = M2.2.1 178 t := y_mI1
  have o11 : ∀ j, j ≠ q → (mI M2 179 q (M2.2.1 178 t)).2.1 179 j = M2.2.1 179 j := fun j hj => mI_ne (Or.inr hj)
  obtain ⟨I11, X11, c11⟩ := mk (j := q) (v := M2.2.1 178 t) I2 X2 c2 (Nat.le_refl _) (by omega) (by omega)
  generalize mI M2 179 q (M2.2.1 178 t) = M11 at I11 X11 c11 w11 o11 ⊢
  have H11 := I11.1.1.1
  rw [e_gC H11, Option.bind_some]
  unfold s_fdm
  refine Ok_b (Ok_and (P_sum I11) (E_sum B I11 X11)) (fun y z => ?_)
  obtain ⟨v13, M14⟩ := y
  obtain ⟨⟨⟨H14, F14⟩, P⟩, E⟩ := z
  dsimp only at P E H14 F14 ⊢
  generalize s_sum T (k_go T x.1, x.2) = r at E ⊢
  cases r with
  | inl e =>
    obtain ⟨h5, g5⟩ := E
    dsimp only at h5 g5
    subst h5
    rw [if_pos rfl]
    exact Ok_s ⟨rfl, g5⟩
  | inr y =>
  dsimp only
  obtain ⟨h5, X14⟩ := E
  dsimp only at h5 X14
  subst h5
  rcases P with ⟨h5, _⟩ | ⟨_, I14, x14⟩
  · exact absurd h5 (by decide)
  have c14 : n_cc M14 t = c := by
    unfold n_cc
    rw [y_fa (i := 180) F14.1 (by decide) (by decide) t]
    exact c11
  have o14 : ∀ j, M14.2.1 179 j = M11.2.1 179 j := fun j => y_fa (i := 179) F14.1 (by decide) (by decide) j
  have yl : (M14.2.1 178 t).toInt = (y.2.2.length : Int) := by rw [(n_l1 H14 t).1, X14.2.2.2.1]
  have t14 := I14.1.2
  have ct14 : (M14.2.1 175 11).toNatClampNeg = t := i_cl t14
  have ll14 := n_l1 H14 t
  rw [if_neg (by decide), e_gR H14 (w := 179) rfl (by decide), Option.bind_some, e_gR H14 (w := 178) rfl (by decide), Option.bind_some, e_gI H14, Option.bind_some, e_aI H14 (t := 20) (i := 178) (n := 7) rfl (by decide) (by omega) (by omega), Option.bind_some, ct14, e_sI H14 (i := 179) (n := 288) rfl (by omega) (by omega), Option.bind_some, lc1]
  have w19 : (mI M14 179 (q + 1) (M14.2.1 178 t)).2.1 179 (q + 1) = M14.2.1 178 t := y_mI1
  have o19 : ∀ j, j ≠ q + 1 → (mI M14 179 (q + 1) (M14.2.1 178 t)).2.1 179 j = M14.2.1 179 j := fun j hj => mI_ne (Or.inr hj)
  obtain ⟨I19, X19, c19⟩ := mk (j := q + 1) (v := M14.2.1 178 t) I14 X14 c14 (by omega) (by omega) (by omega)
  generalize mI M14 179 (q + 1) (M14.2.1 178 t) = M19 at I19 X19 c19 w19 o19 ⊢
  have H19 := I19.1.1.1
  rw [e_gR H19 (w := 179) rfl (by decide), Option.bind_some, e_sI H19 (i := 179) (n := 288) rfl (by omega) (by omega), Option.bind_some, lc2]
  have w21 : (mI M19 179 (q + 2) (-1 : Int32)).2.1 179 (q + 2) = -1 := y_mI1
  have o21 : ∀ j, j ≠ q + 2 → (mI M19 179 (q + 2) (-1 : Int32)).2.1 179 j = M19.2.1 179 j := fun j hj => mI_ne (Or.inr hj)
  obtain ⟨I21, X21, c21⟩ := mk (j := q + 2) (v := (-1 : Int32)) I19 X19 c19 (by omega) (by omega) (by decide)
  generalize mI M19 179 (q + 2) (-1 : Int32) = M21 at I21 X21 c21 w21 o21 ⊢
  have H21 := I21.1.1.1
  have d0 : (M21.2.1 179 q).toInt = (x.2.2.length : Int) := by rw [o21 _ (by omega), o19 _ (by omega), o14, w11]; exact xl
  have d1 : (M21.2.1 179 (q + 1)).toInt = (y.2.2.length : Int) := by rw [o21 _ (by omega), w19]; exact yl
  have d9 : ∀ j, j < q → M21.2.1 179 j = M.2.1 179 j := fun j hj => by rw [o21 _ (by omega), o19 _ (by omega), o14, o11 _ (by omega), p2]
  have h21 := I21.2.1
  have s21 := n_s1 H21
  have k21 := n_sk_le h21.2
  obtain ⟨ex, Xs⟩ := r_Xsee X21 H21 h21.2
  obtain ⟨p, hp⟩ : ∃ p, p = n_sk M21 (n_x M21) := ⟨_, rfl⟩
  have px : p = y.1 := hp.trans ex
  have n21 := n_T X21.1.1 X21.1.2
  have ew : n_w M21 = n_w T := n21.2.1.1
  have el : n_le M21 = n_le T := n21.1.2.1.2
  rw [← hp] at k21
  rw [e_gC H21, Option.bind_some, R_takesWord H21 h21.2, Option.bind_some, ← hp]
  by_cases cw : n_w M21 p 26982 = true
  · have k9 : k_kind T y.1 = 279 := by rw [← px]; exact n_w_if.mp (by rw [← ew]; exact cw)
    rw [if_pos cw]
    dsimp only
    have e9 := n_le_le (M := M21) (p := p) (by omega)
    have I24 : p_I t (n_l M t) (0 + 1) 0 (n_at M21 (n_le M21 p)) := p_I_at I21 (by omega) e9.2
    have X24 : r_X T t (n_at M21 (n_le M21 p)) (k_go T y.1, y.2) := r_Xat X21 (by omega) (by rw [el, px]; exact (k_go_w (by omega)).symm)
    have c24 : n_cc (n_at M21 (n_le M21 p)) t = c := by
      rw [n_c9]
      exact c21
    have p24 : ∀ j, (n_at M21 (n_le M21 p)).2.1 179 j = M21.2.1 179 j := fun j => congrFun (n_ata (by decide)) j
    have l24 : (n_at M21 (n_le M21 p)).2.1 178 t = M21.2.1 178 t := congrFun (n_ata (by decide)) t
    generalize n_at M21 (n_le M21 p) = M24 at I24 X24 c24 p24 l24 ⊢
    have H24 := I24.1.1.1
    have t24 := I24.1.2
    have ct24 : (M24.2.1 175 11).toNatClampNeg = t := i_cl t24
    have ll24 := n_l1 H24 t
    rw [if_neg (by decide), e_gR H24 (w := 179) rfl (by decide), Option.bind_some, e_gR H24 (w := 178) rfl (by decide), Option.bind_some, e_gI H24, Option.bind_some, e_aI H24 (t := 20) (i := 178) (n := 7) rfl (by decide) (by omega) (by omega), Option.bind_some, ct24, e_sI H24 (i := 179) (n := 288) rfl (by omega) (by omega), Option.bind_some, lc2]
    have y24 : (M24.2.1 178 t).toInt = (y.2.2.length : Int) := by rw [ll24.1, X24.2.2.2.1]
    have w29 : (mI M24 179 (q + 2) (M24.2.1 178 t)).2.1 179 (q + 2) = M24.2.1 178 t := y_mI1
    have o29 : ∀ j, j ≠ q + 2 → (mI M24 179 (q + 2) (M24.2.1 178 t)).2.1 179 j = M24.2.1 179 j := fun j hj => mI_ne (Or.inr hj)
    obtain ⟨I29, X29, c29⟩ := mk (j := q + 2) (v := M24.2.1 178 t) I24 X24 c24 (by omega) (by omega) (by omega)
    generalize mI M24 179 (q + 2) (M24.2.1 178 t) = M29 at I29 X29 c29 w29 o29 ⊢
    have H29 := I29.1.1.1
    have J29 : p_I t (n_l M29 t) 0 0 M29 := ⟨I29.1, ⟨I29.2.1.1, I29.2.1.2⟩, ⟨Nat.le_refl _, by rw [Nat.sub_self]; rfl⟩, Nat.zero_le _⟩
    rw [e_gC H29, Option.bind_some]
    rw [if_pos k9]
    have JT := J_tested (T := T) (k_go T y.1, y.2)
    refine Ok_b (Ok_and (P_tested J29) (E_tested B J29 X29)) (fun y2 z => ?_)
    obtain ⟨v31, M32⟩ := y2
    obtain ⟨⟨⟨H32, F32⟩, P⟩, E⟩ := z
    dsimp only at P E H32 F32 ⊢
    generalize s_J T 0 0 (k_go T y.1, y.2) = r at E JT ⊢
    cases r with
    | inl e =>
      obtain ⟨h5, g5⟩ := E
      dsimp only at h5 g5
      subst h5
      rw [if_pos rfl]
      exact Ok_s ⟨rfl, g5⟩
    | inr y3 =>
    dsimp only
    obtain ⟨h5, X32⟩ := E
    dsimp only at h5 X32
    subst h5
    rcases P with ⟨h5, _⟩ | ⟨_, I32, x32⟩
    · exact absurd h5 (by decide)
    rw [if_neg (by decide)]
    have c32 : n_cc M32 t = c := by
      unfold n_cc
      rw [y_fa (i := 180) F32.1 (by decide) (by decide) t]
      exact c29
    have o32 : ∀ j, M32.2.1 179 j = M29.2.1 179 j := fun j => y_fa (i := 179) F32.1 (by decide) (by decide) j
    have ne : y.2.2.length ≠ y3.2.2.length := by
      obtain ⟨g, eg, ag⟩ := JT
      obtain ⟨v, hv, _⟩ := ag (fun _ => 0)
      have := (m_Ene hv).1
      rw [eg, List.length_append]
      show y.2.2.length ≠ g.length + y.2.2.length
      omega
    refine E_fade_b110M (m := (x.2.2.length, y.2.2.length, y3.2.2.length)) H32 ht I32.1.2 hq lq hc c32 X32 ⟨⟨?_, ?_⟩, ?_⟩ rfl (fun j hj => ?_)
    · rw [o32, o29 _ (by omega), p24]
      exact d0
    · rw [o32, o29 _ (by omega), p24]
      exact d1
    · show (M32.2.1 179 (q + 2)).toInt = if y.2.2.length = y3.2.2.length then -1 else (y.2.2.length : Int)
      rw [if_neg ne, o32, w29]
      exact y24
    · rw [o32, o29 _ (by omega), p24]
      exact d9 j hj
  · have k9 : ¬ k_kind T y.1 = 279 := by
      rw [← px]
      exact fun z => cw (by rw [ew]; exact n_w_if.mpr z)
    rw [if_neg cw]
    dsimp only
    rw [if_neg k9, if_pos rfl]
    rw [← px] at Xs
    have I24 : p_I t (n_l M t) (0 + 1) 0 (n_at M21 p) := p_I_at I21 (by omega) (by omega)
    have p24 : ∀ j, (n_at M21 p).2.1 179 j = M21.2.1 179 j := fun j => congrFun (n_ata (by decide)) j
    refine E_fade_b110M (m := (x.2.2.length, y.2.2.length, y.2.2.length)) I24.1.1.1 ht I24.1.2 hq lq hc (by rw [n_c9]; exact c21) Xs ⟨⟨?_, ?_⟩, ?_⟩ rfl (fun j hj => ?_)
    · rw [p24]
      exact d0
    · rw [p24]
      exact d1
    · show ((n_at M21 p).2.1 179 (q + 2)).toInt = if y.2.2.length = y.2.2.length then -1 else (y.2.2.length : Int)
      rw [if_pos rfl, p24, w21]
      rfl
    · rw [p24]
      exact d9 j hj
theorem E_clauseHereM {T : gM} (B : z_B T) {t c : Nat} {M : gM} {x : sS} (N : p_N t c M) (X : r_X T t M x) : Ok (F_X12_clauseHere (some 175) M) (fun y => e_RM T t (48 * t + 4 * c) M (s_cl T (c + 1) x) y ∧ (y.1 = 1 → (y.2.2.1 175 14).toInt = ((c + 1 : Nat) : Int))) := by
  obtain ⟨K, hl, hc⟩ := N
  have H := K.1.1.1
  have ht := K.1.1.2
  have hx := K.2.1
  have s1 := n_s1 H
  have k1 := n_sk_le hx.2
  obtain ⟨p, hp⟩ : ∃ p, p = n_sk M (n_x M) := ⟨_, rfl⟩
  obtain ⟨ex, X3⟩ := r_Xsee X H hx.2
  have px : p = x.1 := hp.trans ex
  rw [← px] at X3
  rw [← hp] at k1
  obtain ⟨H3, f3⟩ := n_at_set (p := p) H (by omega)
  have x3 : n_x (n_at M p) = p := n_at_x (by omega)
  have K3 : p_K t c (n_at M p) := p_K_of K H3 f3 (by decide) (by omega)
  have v4 : (n_at M p).2.1 175 8 = Int32.ofNat p := n_at8
  have xi : (Int32.ofNat p).toInt = (p : Int) := i_ofNat (by omega)
  have v14 : (n_at M p).2.1 175 14 = M.2.1 175 14 := n_atk (by decide)
  have e11 := K3.1.2
  have ew : n_w M = n_w T := (n_T X.1.1 X.1.2).2.1.1
  delta F_X12_clauseHere F_X12_clauseHere_b0
  rw [e_gO H, Option.bind_some, R_see H hx.2, ← hp, Option.bind_some]
  dsimp only
  rw [e_gI H3, Option.bind_some, e_gI H3, Option.bind_some, v4]
  have z6 : (6 : Int32).toInt = 6 := rfl
  refine Ok_e (fun e => by have := i_eq e; omega) ?_
  delta F_X12_clauseHere_b24
  rw [if_pos rfl, e_gO H3, Option.bind_some, R_isW2 H hx.2 hp, Option.bind_some]
  dsimp only
  have p3 : ∀ j, (n_at M p).2.1 179 j = M.2.1 179 j := fun j => congrFun (n_ata (by decide)) j
  generalize n_at M p = M3 at H3 x3 K3 v14 e11 X3 p3 ⊢
  have bad : ∀ {k : Int32} {d : Nat}, k.toInt = (d : Int) → d ≤ 7 → Ok ((F_X12_fails (some 175) k (Int32.ofNat p) M3).bind fun (v2, M4) => if v2 = 0 ∨ v2 = 1 then some (v2, M4) else none) (fun y => e_RM T t (48 * t + 4 * c) M (.inl (1 + 8 * x.1 + d)) y ∧ (y.1 = 1 → (y.2.2.1 175 14).toInt = ((c + 1 : Nat) : Int))) := by
    intro k d hk hd
    rw [R_fails H3, Option.bind_some]
    dsimp only
    rw [if_pos (Or.inl rfl), ← px]
    exact Ok_s ⟨⟨rfl, n_f_0 X3.2.2.1.1 xi (by omega) hk hd⟩, fun z => absurd z (by show ¬ (0 : Int32) = 1; decide)⟩
  unfold s_cl
  by_cases cw : n_w M p 1717658725 = true
  · have kk : k_kind T x.1 = 278 := by rw [← px]; exact n_w_fade.mp (by rw [← ew]; exact cw)
    rw [if_pos cw, if_neg (by decide), if_neg (by rw [kk]; decide)]
    delta F_X12_clauseHere_b56 F_X12_clauseHere_b71
    rw [e_gI H3, Option.bind_some, if_pos rfl]
    have z12 : (12 : Int32).toInt = 12 := rfl
    have hl3 : (M3.2.1 175 14).toInt = (c : Int) := by rw [v14]; exact hl
    by_cases c12 : M3.2.1 175 14 = 12
    · have : c = 12 := by rw [c12] at hl3; omega
      rw [if_pos c12, if_pos (by omega), e_gO H3, Option.bind_some]
      exact bad rfl (by decide)
    · have : c ≠ 12 := fun z => c12 (Int32.toInt_inj.mp (by omega))
      rw [if_neg c12, if_neg (by omega), Option.bind_some, e_pI H3, Option.bind_some, n_inc hl3 (by omega)]
      obtain ⟨H2, f2⟩ := y_set (M' := mI M3 175 14 (Int32.ofNat (c + 1))) (S := 2 ^ 14) H3 (i := 175) (k := 14) (by decide) rfl rfl y_mI1 (fun j a hj => y_mI2 hj) rfl (y_full rfl) (by decide)
      have w14 : (mI M3 175 14 (Int32.ofNat (c + 1))).2.1 175 14 = Int32.ofNat (c + 1) := y_mI1
      have p4 : ∀ j, (mI M3 175 14 (Int32.ofNat (c + 1))).2.1 179 j = M.2.1 179 j := fun j => (mI_ne (Or.inl (by decide))).trans (p3 j)
      generalize mI M3 175 14 (Int32.ofNat (c + 1)) = M2 at H2 f2 w14 p4 ⊢
      have x2 := n_fx f2 (by decide)
      have K2 : p_K t c M2 := p_K_of K3 H2 f2 (by decide) (by rw [x2]; exact K3.2.1)
      have X2 := r_Xfr X3 f2 (by decide)
      rw [if_pos rfl, e_gO H2, Option.bind_some]
      refine Ok_b (Ok_and (P_isFadeHere K2 (by omega)) (E_isFadeHereM B K2 (by omega) X2 (by rw [x2, x3]; exact px) kk)) (fun y z => ?_)
      obtain ⟨v, M5⟩ := y
      obtain ⟨z, E⟩ := z
      have E' : e_RM T t (48 * t + 4 * c) M (s_fdm T x) (v, M5) := by
        generalize s_fdm T x = r at E ⊢
        cases r with
        | inl e => exact E
        | inr zm =>
          obtain ⟨z', m'⟩ := zm
          obtain ⟨E1, E2, E3⟩ := E
          exact ⟨E1, E2, fun j hj => (E3 j hj).trans (p4 j)⟩
      refine Ok_t ?_ (Ok_s ⟨E', fun _ => ?_⟩)
      · rcases z.2 with z | z
        · exact Or.inl z.1
        · exact Or.inr z.1
      · show (M5.2.1 175 14).toInt = _
        rw [y_fk (i := 175) (k := 14) z.1.2.1 (by decide), w14, i_ofNat (by omega)]
  · have kk : k_kind T x.1 ≠ 278 := by
      rw [← px]
      exact fun z => cw (by rw [ew]; exact n_w_fade.mpr z)
    rw [if_neg cw, if_pos rfl, if_pos kk]
    delta F_X12_clauseHere_b49
    rw [e_gO H3, Option.bind_some]
    exact bad rfl (by decide)
/-- the whole text is read: a RULE's steps and CLAUSES, or a FAULT -/
def e_ZM (t : Nat) (r : Nat ⊕ (sS × List (Nat × Nat × Nat))) : Int32 × gM → Prop := fun y => match r with
  | .inl _ => True
  | .inr (z, ms) => (r_O (y_sn y.2 t) z.2.2 ∧ r_K (y.2.2.1 179) (48 * t) ms) ∧ n_cc y.2 t = ms.length
theorem E_rd_b88M {t : Nat} {r : Nat ⊕ (sS × List (Nat × Nat × Nat))} {M : gM} (H : y_HT M) (h : match r with | .inl e => (M.2.1 175 9).toInt = (e : Int) ∧ M.2.1 175 9 ≠ 0 | .inr (z, ms) => M.2.1 175 9 = 0 ∧ (r_O (y_sn M t) z.2.2 ∧ r_K (M.2.1 179) (48 * t) ms) ∧ n_cc M t = ms.length) : Ok (F_X12_readsAll_b88 (some 175) M) (e_ZM t r) := by
  delta F_X12_readsAll_b88
  rw [e_pI H, Option.bind_some]
  have H1 : y_HT (mI M 175 1 (0 : Int32)) := (y_set (M' := mI M 175 1 (0 : Int32)) (S := 2 ^ 1) H (i := 175) (k := 1) (by decide) rfl rfl y_mI1 (fun j a hj => y_mI2 hj) rfl (y_in (lo := 0) (hi := 400) rfl (by decide)) (by decide)).1
  have w9 : (mI M 175 1 (0 : Int32)).2.1 175 9 = M.2.1 175 9 := mI_ne (Or.inr (by decide))
  rw [e_gI H1, Option.bind_some, w9]
  cases r with
  | inl e =>
    rw [if_neg h.2]
    exact Ok_s trivial
  | inr y =>
    obtain ⟨z, ms⟩ := y
    rw [if_pos h.1]
    have s1 : y_sn (mI M 175 1 (0 : Int32)) t = y_sn M t := funext (fun j => mI_ne (Or.inl (by decide)))
    have s2 : (mI M 175 1 (0 : Int32)).2.1 179 = M.2.1 179 := funext (fun j => mI_ne (Or.inl (by decide)))
    have s3 : n_cc (mI M 175 1 (0 : Int32)) t = n_cc M t := by
      unfold n_cc
      rw [mI_ne (Or.inl (by decide))]
    refine Ok_s ⟨⟨?_, ?_⟩, ?_⟩
    · show r_O (y_sn (mI M 175 1 (0 : Int32)) t) z.2.2
      rw [s1]
      exact h.2.1.1
    · show r_K ((mI M 175 1 (0 : Int32)).2.1 179) (48 * t) ms
      rw [s2]
      exact h.2.1.2
    · show n_cc (mI M 175 1 (0 : Int32)) t = ms.length
      rw [s3]
      exact h.2.2
theorem E_rd_L35M {T : gM} (B : z_B T) {t : Nat} : ∀ (n m cl : Nat) {l1 : Int32} {M : gM} {ms : List (Nat × Nat × Nat)} {r : Nat ⊕ (sS × (Nat × Nat × Nat))}, y_HT M → ((l1 = 0 ∧ M.2.1 175 9 ≠ 0 ∧ ∃ e, r = .inl e ∧ (M.2.1 175 9).toInt = (e : Int)) ∨ (l1 = 1 ∧ p_N t cl M ∧ ∃ y mk1, (r = .inr (y, mk1) ∧ r_X T t M y) ∧ r_K (M.2.1 179) (48 * t) (mk1 :: ms) ∧ cl = ms.length + 1)) → (l1 = 0 → 1 ≤ n) → (l1 ≠ 0 → n_s M - n_x M < n) → cl + m = 14 → Ok (F_X12_readsAll_L35 n (some 175) l1 M) (e_ZM t (s_nx T m cl ms r)) := by
  intro n
  induction n with
  | zero =>
    intro m cl l1 M ms r H h a1 a2 hm
    exfalso
    by_cases e : l1 = 0
    · have := a1 e
      omega
    · have := a2 e
      omega
  | succ n ih =>
    intro m cl l1 M ms r H h a1 a2 hm
    show Ok (F_X12_readsAll_b35 (F_X12_readsAll_L35 n) (some 175) l1 M) _
    delta F_X12_readsAll_b35
    rcases h with ⟨h, h2, e, er, he⟩ | ⟨h, N, y, mk1, ⟨er, X⟩, KK, hcl⟩
    · subst er
      rw [if_pos h]
      delta F_X12_readsAll_b66
      rw [if_pos h]
      exact E_rd_b88M (r := (.inl e : Nat ⊕ (sS × List (Nat × Nat × Nat)))) H ⟨he, h2⟩
    · subst er
      have hx := N.1.2.1
      have s1 := n_s1 H
      have a3 := a2 (by rw [h]; decide)
      have k1 := n_sk_le hx.2
      obtain ⟨p, hp⟩ : ∃ p, p = n_sk M (n_x M) := ⟨_, rfl⟩
      obtain ⟨ex, X3⟩ := r_Xsee X H hx.2
      have px : p = y.1 := hp.trans ex
      rw [← px] at X3
      rw [← hp] at k1
      obtain ⟨H3, f3⟩ := n_at_set (p := p) H (by omega)
      have x3 : n_x (n_at M p) = p := n_at_x (by omega)
      have s3 : n_s (n_at M p) = n_s M := n_at_s
      have N3 : p_N t cl (n_at M p) := ⟨p_K_of N.1 H3 f3 (by decide) (by rw [x3]; omega), by rw [n_atk (by decide)]; exact N.2.1, N.2.2⟩
      have K3 : (n_at M p).2.1 179 = M.2.1 179 := n_ata (by decide)
      have ec : n_c M p = n_c T p := congrFun (n_T X.1.1 X.1.2).2.2.1.2 p
      have k59 := k_s1 (T := T) (p := p) (c := (59 : Int32)) (n := 59) rfl (by omega) (by omega) (by omega) (by omega)
      have v8 : (n_at M p).2.1 175 8 = Int32.ofNat p := n_at8
      have xi : (Int32.ofNat p).toInt = (p : Int) := i_ofNat (by omega)
      have c12 := N.2.2
      unfold s_nx
      dsimp only
      rw [if_neg (by rw [h]; decide), e_gO H, Option.bind_some, R_see H hx.2, ← hp, Option.bind_some]
      dsimp only
      refine Ok_i (fun e => ?_) (fun e => ?_)
      · have hlt := n_c_lt e (by decide)
        rw [ec] at e
        have kk : k_kind T y.1 = 59 := by rw [← px]; exact k59.1.mp e
        have kg : n_sk T (p + 1) = k_go T y.1 := by rw [← px]; exact (k59.2 e).symm
        rw [if_neg (show ¬ k_kind T y.1 = 256 by rw [kk]; decide), if_pos kk]
        generalize n_at M p = M3 at H3 x3 s3 N3 X3 K3 ⊢
        rw [e_gI H3, Option.bind_some, e_pI H3, Option.bind_some, n_next H3]
        have h9 := N3.1.2.1
        obtain ⟨H5, f5⟩ := n_at_set (p := n_x M3 + 1) H3 (by omega)
        have x5 : n_x (n_at M3 (n_x M3 + 1)) = n_x M3 + 1 := n_at_x (by omega)
        have s5 : n_s (n_at M3 (n_x M3 + 1)) = n_s M3 := n_at_s
        have N5 : p_N t cl (n_at M3 (n_x M3 + 1)) := ⟨p_K_of N3.1 H5 f5 (by decide) (by rw [x5]; omega), by rw [n_atk (by decide)]; exact N3.2.1, N3.2.2⟩
        have X5 : r_X T t (n_at M3 (n_x M3 + 1)) (k_go T y.1, y.2) := r_Xat X3 (by omega) (by rw [x3]; exact kg)
        have K5 : (n_at M3 (n_x M3 + 1)).2.1 179 = M.2.1 179 := (n_ata (by decide)).trans K3
        generalize n_at M3 (n_x M3 + 1) = M5 at H5 x5 s5 N5 X5 K5 ⊢
        rw [e_gC H5, Option.bind_some]
        refine Ok_b (Ok_and (P_clauseHere N5) (E_clauseHereM B N5 X5)) (fun y2 z => ?_)
        obtain ⟨v7, M8⟩ := y2
        obtain ⟨⟨⟨H8, G8⟩, z⟩, E, E14⟩ := z
        have s8 := n_fs G8.1 (by decide)
        dsimp only at H8 G8 z s8 E E14 ⊢
        obtain ⟨m', rfl⟩ : ∃ m', m = m' + 1 := ⟨m - 1, by omega⟩
        rw [s_tl_S]
        refine ih m' (cl + 1) H8 ?_ (fun _ => by omega) (fun hne => ?_) (by omega)
        · cases hit : s_cl T (cl + 1) (k_go T y.1, y.2) with
          | inl e =>
            rw [hit] at E
            obtain ⟨E1, E2⟩ := E
            dsimp only at E1 E2
            rcases z with z | ⟨z, _⟩
            · exact Or.inl ⟨E1, z.2, e, rfl, E2⟩
            · rw [E1] at z
              exact absurd z (by decide)
          | inr ym =>
            obtain ⟨y', m''⟩ := ym
            rw [hit] at E
            obtain ⟨⟨E1, E2⟩, E3, E4⟩ := E
            dsimp only at E1 E2 E3 E4
            rcases z with z | ⟨_, ⟨c2, N8⟩, _⟩
            · rw [E1] at z
              exact absurd z.1 (by decide)
            · have q1 := E14 E1
              have q2 := N8.2.1
              have : c2 = cl + 1 := by omega
              subst this
              refine Or.inr ⟨E1, N8, y', m'', ⟨rfl, E2⟩, ⟨?_, ?_⟩, by show cl + 1 = ms.length + 1 + 1; omega⟩
              · show ((M8.2.1 179 (48 * t + 4 * (ms.length + 1))).toInt = _ ∧ (M8.2.1 179 (48 * t + 4 * (ms.length + 1) + 1)).toInt = _) ∧ (M8.2.1 179 (48 * t + 4 * (ms.length + 1) + 2)).toInt = _ ∧ (M8.2.1 179 (48 * t + 4 * (ms.length + 1) + 3)).toInt = _
                rw [← hcl]
                exact E3
              · refine r_K_c (fun q h1 h2 => ?_) KK
                have : q < 48 * t + 4 * (ms.length + 1) := h2
                rw [E4 q (by omega), K5]
        · rcases z with z | ⟨_, ⟨c2, N8⟩, z3⟩
          · exact absurd z.1 hne
          · have := N8.1.2.1.2
            omega
      · rw [ec] at e
        have kn : k_kind T y.1 ≠ 59 := by rw [← px]; exact mt k59.1.mpr e
        delta F_X12_readsAll_b66
        have X3b := X3
        have se2 : F_X12_see (some 175) (n_at M p) = some (n_c M p, n_at M p) := R_see2 H hx.2 hp
        rw [if_neg (by rw [h]; decide), e_gO H3, Option.bind_some, se2, Option.bind_some]
        dsimp only
        by_cases cE : n_s T ≤ p
        · rw [if_pos (show n_c M p = -1 by rw [ec]; exact (n_c_end B).mpr cE), if_pos (show k_kind T y.1 = 256 by rw [← px]; exact (k_256 B).mpr cE)]
          refine E_rd_b88M H3 ?_
          refine ⟨X3.2.2.1.1, ⟨X3.2.2.2.2, ?_⟩, ?_⟩
          · show r_K ((n_at M p).2.1 179) (48 * t) (mk1 :: ms)
            rw [K3]
            exact KK
          · rw [N3.1.2.2.1]
            exact hcl
        · rw [if_neg (show ¬ n_c M p = -1 by rw [ec]; exact mt (n_c_end B).mp cE), if_neg (show ¬ k_kind T y.1 = 256 by rw [← px]; exact mt (k_256 B).mp cE), if_neg kn]
          rw [e_gI H3, Option.bind_some, v8, e_gC H3, Option.bind_some, R_fails H3, Option.bind_some]
          dsimp only
          obtain ⟨H9, f9⟩ := n_f_set (k := 0) (p := Int32.ofNat p) H3
          refine E_rd_b88M H9 ⟨?_, n_f9 xi (by omega) (by decide)⟩
          rw [← px]
          exact n_f_0 X3.2.2.1.1 xi (by omega) rfl (by decide)
theorem E_readsAllM {T : gM} (B : z_B T) {t : Nat} {M : gM} (H : y_HT M) (ht : t ≤ 5) (e11 : (M.2.1 175 11).toInt = (t : Int)) (hc : n_cc M t = 0) (hb : n_b M = n_b T) (hs : n_s M = n_s T) : Ok (F_X12_readsAll (some 175) M) (e_ZM t (s_text T)) := by
  delta F_X12_readsAll F_X12_readsAll_b0
  have ct : (M.2.1 175 11).toNatClampNeg = t := i_cl e11
  rw [e_gR H (w := 178) rfl (by decide), Option.bind_some, e_gI H, Option.bind_some, e_sI H (i := 178) (n := 7) rfl (by omega) (by omega), Option.bind_some, ct]
  obtain ⟨H3, f3⟩ := y_set (M' := mI M 178 t (0 : Int32)) (S := p_C) H (i := 178) (k := t) (by decide) rfl rfl y_mI1 (fun j a hj => y_mI2 hj) rfl (y_in (lo := 0) (hi := 400) rfl (by decide)) (show Nat.testBit p_C 43 = true by decide)
  have l3 : (mI M 178 t (0 : Int32)).2.1 178 t = 0 := y_mI1
  have r3 : ∀ i k, i ≠ 178 → (mI M 178 t (0 : Int32)).2.1 i k = M.2.1 i k := fun i k h => mI_ne (Or.inl h)
  generalize mI M 178 t (0 : Int32) = M3 at H3 f3 l3 r3 ⊢
  rw [e_pI H3, Option.bind_some]
  obtain ⟨H4, f4⟩ := y_set (M' := mI M3 175 14 (0 : Int32)) (S := p_C) H3 (i := 175) (k := 14) (by decide) rfl rfl y_mI1 (fun j a hj => y_mI2 hj) rfl (y_full rfl) (by decide)
  have w4 : (mI M3 175 14 (0 : Int32)).2.1 175 14 = 0 := y_mI1
  have r4 : ∀ i k, i ≠ 175 ∨ k ≠ 14 → (mI M3 175 14 (0 : Int32)).2.1 i k = M3.2.1 i k := fun i k h => mI_ne h
  generalize mI M3 175 14 (0 : Int32) = M4 at H4 f4 w4 r4 ⊢
  rw [e_pI H4, Option.bind_some]
  obtain ⟨H5, f5⟩ := y_set (M' := mI M4 175 8 (0 : Int32)) (S := p_C) H4 (i := 175) (k := 8) (by decide) rfl rfl y_mI1 (fun j a hj => y_mI2 hj) rfl (y_in (lo := 0) (hi := 400) rfl (by decide)) (by decide)
  have w5 : (mI M4 175 8 (0 : Int32)).2.1 175 8 = 0 := y_mI1
  have r5 : ∀ i k, i ≠ 175 ∨ k ≠ 8 → (mI M4 175 8 (0 : Int32)).2.1 i k = M4.2.1 i k := fun i k h => mI_ne h
  generalize mI M4 175 8 (0 : Int32) = M5 at H5 f5 w5 r5 ⊢
  rw [e_pI H5, Option.bind_some]
  obtain ⟨H6, f6⟩ := y_set (M' := mI M5 175 9 (0 : Int32)) (S := p_C) H5 (i := 175) (k := 9) (by decide) rfl rfl y_mI1 (fun j a hj => y_mI2 hj) rfl (y_full rfl) (by decide)
  have w6 : (mI M5 175 9 (0 : Int32)).2.1 175 9 = 0 := y_mI1
  have r6 : ∀ i k, i ≠ 175 ∨ k ≠ 9 → (mI M5 175 9 (0 : Int32)).2.1 i k = M5.2.1 i k := fun i k h => mI_ne h
  generalize mI M5 175 9 (0 : Int32) = M6 at H6 f6 w6 r6 ⊢
  rw [e_pI H6, Option.bind_some]
  obtain ⟨H7, f7⟩ := y_set (M' := mI M6 175 12 (0 : Int32)) (S := p_C) H6 (i := 175) (k := 12) (by decide) rfl rfl y_mI1 (fun j a hj => y_mI2 hj) rfl (y_in (lo := 0) (hi := 60) rfl (by decide)) (by decide)
  have w7 : (mI M6 175 12 (0 : Int32)).2.1 175 12 = 0 := y_mI1
  have r7 : ∀ i k, i ≠ 175 ∨ k ≠ 12 → (mI M6 175 12 (0 : Int32)).2.1 i k = M6.2.1 i k := fun i k h => mI_ne h
  generalize mI M6 175 12 (0 : Int32) = M7 at H7 f7 w7 r7 ⊢
  have e : ∀ i, i ≠ 175 → i ≠ 178 → ∀ k, M7.2.1 i k = M.2.1 i k := fun i h1 h2 k => by rw [r7 i k (Or.inl h1), r6 i k (Or.inl h1), r5 i k (Or.inl h1), r4 i k (Or.inl h1), r3 i k h2]
  have e11' : M7.2.1 175 11 = M.2.1 175 11 := by rw [r7 _ _ (Or.inr (by decide)), r6 _ _ (Or.inr (by decide)), r5 _ _ (Or.inr (by decide)), r4 _ _ (Or.inr (by decide)), r3 _ _ (by decide)]
  have e1 : M7.2.1 175 1 = M.2.1 175 1 := by rw [r7 _ _ (Or.inr (by decide)), r6 _ _ (Or.inr (by decide)), r5 _ _ (Or.inr (by decide)), r4 _ _ (Or.inr (by decide)), r3 _ _ (by decide)]
  have e14 : M7.2.1 175 14 = 0 := by rw [r7 _ _ (Or.inr (by decide)), r6 _ _ (Or.inr (by decide)), r5 _ _ (Or.inr (by decide)), w4]
  have e8 : M7.2.1 175 8 = 0 := by rw [r7 _ _ (Or.inr (by decide)), r6 _ _ (Or.inr (by decide)), w5]
  have e9 : M7.2.1 175 9 = 0 := by rw [r7 _ _ (Or.inr (by decide)), w6]
  have el : M7.2.1 178 t = 0 := by rw [r7 _ _ (Or.inl (by decide)), r6 _ _ (Or.inl (by decide)), r5 _ _ (Or.inl (by decide)), r4 _ _ (Or.inl (by decide)), l3]
  have x7 : n_x M7 = 0 := by unfold n_x; rw [e8]; rfl
  have l7 : n_l M7 t = 0 := by unfold n_l; rw [el]; rfl
  have s7 : n_s M7 = n_s M := by unfold n_s; rw [e1]
  have N7 : p_N t 0 M7 := by
    refine ⟨⟨⟨⟨H7, ht⟩, by rw [e11']; exact e11⟩, ⟨by rw [l7]; exact Nat.zero_le _, by rw [x7]; exact Nat.zero_le _⟩, ?_, fun k hk => absurd hk (Nat.not_lt_zero _)⟩, by rw [e14]; rfl, by omega⟩
    unfold n_cc
    rw [e 180 (by decide) (by decide) t]
    exact hc
  have X7 : r_X T t M7 (n_sk T 0, 0, []) := by
    refine ⟨⟨(funext (fun q => e 176 (by decide) (by decide) q)).trans hb, s7.trans hs⟩, by rw [x7], ⟨e9, by unfold n_m; rw [w7]; rfl⟩, l7, trivial⟩
  rw [e_gO H7, Option.bind_some]
  refine Ok_b (Ok_and (P_clauseHere N7) (E_clauseHereM B N7 X7)) (fun y z => ?_)
  obtain ⟨v9, M10⟩ := y
  obtain ⟨⟨⟨H10, G10⟩, z⟩, E, E14⟩ := z
  dsimp only at H10 G10 z E E14 ⊢
  have s10 := n_s1 H10
  have ht1 : s_text T = s_nx T 13 1 [] (s_cl T 1 (n_sk T 0, 0, [])) := s_tl_S
  rw [ht1]
  refine E_rd_L35M B (t := t) _ 13 1 H10 ?_ (fun _ => n_fu (by omega)) (fun _ => n_fu (by omega)) rfl
  cases hit : s_cl T (0 + 1) (n_sk T 0, 0, []) with
  | inl e =>
    have hit2 : s_cl T 1 (n_sk T 0, 0, []) = .inl e := hit
    rw [hit] at E
    obtain ⟨E1, E2⟩ := E
    dsimp only at E1 E2
    rcases z with z | ⟨z, _⟩
    · exact Or.inl ⟨E1, z.2, e, rfl, E2⟩
    · rw [E1] at z
      exact absurd z (by decide)
  | inr ym =>
    obtain ⟨y', m''⟩ := ym
    have hit2 : s_cl T 1 (n_sk T 0, 0, []) = .inr (y', m'') := hit
    rw [hit] at E
    obtain ⟨⟨E1, E2⟩, E3, E4⟩ := E
    dsimp only at E1 E2 E3 E4
    rcases z with z | ⟨_, ⟨c2, N8⟩, _⟩
    · rw [E1] at z
      exact absurd z.1 (by decide)
    · have q1 := E14 E1
      have q2 := N8.2.1
      have : c2 = 1 := by omega
      subst this
      exact Or.inr ⟨E1, N8, y', m'', ⟨rfl, E2⟩, ⟨E3, trivial⟩, rfl⟩
/-- rule(), of the reference: what it leaves -/
theorem E_ruleM {T M : gM} {rc : Nat} (B : z_B T) (H : y_HT M) (hb : n_b M = n_b T) (hs : n_s M = n_s T) (hr : (M.2.1 175 2).toInt = (rc : Int)) (h6 : rc < 6) : Ok (F_X12_rule (some 175) M) (fun r => ((∀ q, q < 400 * rc → r.2.2.1 177 q = M.2.1 177 q) ∧ (∀ q, q < 48 * rc → r.2.2.1 179 q = M.2.1 179 q) ∧ ∀ k, k ≠ rc → r.2.2.1 180 k = M.2.1 180 k) ∧ (match s_text T with
    | .inl e => True
    | .inr (y, ms) => (r_O (y_sn r.2 rc) y.2.2 ∧ r_K (r.2.2.1 179) (48 * rc) ms) ∧ (r.2.2.1 180 rc).toInt = (ms.length : Int))) := by
  delta F_X12_rule F_X12_rule_b0
  have z6 : (6 : Int32).toInt = 6 := rfl
  rw [e_gI H, Option.bind_some, if_neg (fun z => by rw [z] at hr; omega)]
  rw [Option.bind_some, e_pI H, Option.bind_some]
  obtain ⟨H3, f3⟩ := y_set (M' := mI M 175 11 (M.2.1 175 2)) (S := p_C + 2 ^ 2 + 2 ^ 11) H (i := 175) (k := 11) (by decide) rfl rfl y_mI1 (fun j a hj => y_mI2 hj) rfl (y_in (lo := 0) (hi := 6) rfl ⟨by omega, by omega⟩) (by decide)
  have w3 : (mI M 175 11 (M.2.1 175 2)).2.1 175 11 = M.2.1 175 2 := y_mI1
  have r3 : ∀ i k, i ≠ 175 ∨ k ≠ 11 → (mI M 175 11 (M.2.1 175 2)).2.1 i k = M.2.1 i k := fun i k h => mI_ne h
  generalize mI M 175 11 (M.2.1 175 2) = M3 at H3 f3 w3 r3 ⊢
  have ct : (M3.2.1 175 11).toNatClampNeg = rc := i_cl (by rw [w3]; exact hr)
  rw [e_gR H3 (w := 180) rfl (by decide), Option.bind_some, e_gI H3, Option.bind_some, e_sI H3 (i := 180) (n := 6) rfl (by rw [w3]; omega) (by rw [w3]; omega), Option.bind_some, ct]
  obtain ⟨H6, f6⟩ := y_set (M' := mI M3 180 rc (0 : Int32)) (S := p_C + 2 ^ 2 + 2 ^ 11) H3 (i := 180) (k := rc) (by decide) rfl rfl y_mI1 (fun j a hj => y_mI2 hj) rfl (y_in (lo := 0) (hi := 12) rfl (by decide)) (show Nat.testBit (p_C + 2 ^ 2 + 2 ^ 11) 45 = true by decide)
  have w6 : (mI M3 180 rc (0 : Int32)).2.1 180 rc = 0 := y_mI1
  have r6 : ∀ i k, i ≠ 180 ∨ k ≠ rc → (mI M3 180 rc (0 : Int32)).2.1 i k = M3.2.1 i k := fun i k h => mI_ne h
  generalize mI M3 180 rc (0 : Int32) = M6 at H6 f6 w6 r6 ⊢
  have e11 : (M6.2.1 175 11).toInt = (rc : Int) := by rw [r6 _ _ (Or.inl (by decide)), w3]; exact hr
  have e1 : M6.2.1 175 1 = M.2.1 175 1 := (r6 _ _ (Or.inl (by decide))).trans (r3 _ _ (Or.inr (by decide)))
  have e176 : n_b M6 = n_b M := funext (fun q => (r6 176 q (Or.inl (by decide))).trans (r3 176 q (Or.inl (by decide))))
  have c6 : n_cc M6 rc = 0 := by unfold n_cc; rw [w6]; rfl
  have e177 : ∀ q, M6.2.1 177 q = M.2.1 177 q := fun q => (r6 177 q (Or.inl (by decide))).trans (r3 177 q (Or.inl (by decide)))
  have e179 : ∀ q, M6.2.1 179 q = M.2.1 179 q := fun q => (r6 179 q (Or.inl (by decide))).trans (r3 179 q (Or.inl (by decide)))
  have e180 : ∀ q, q ≠ rc → M6.2.1 180 q = M.2.1 180 q := fun q hq => (r6 180 q (Or.inr hq)).trans (r3 180 q (Or.inl (by decide)))
  rw [e_gO H6, Option.bind_some]
  have sT : n_s M6 = n_s T := by rw [← hs]; unfold n_s; rw [e1]
  refine Ok_b (Ok_and (P_readsAllR H6 (by omega) e11 c6) (Ok_and (E_readsAll B H6 (by omega) e11 c6 (e176.trans hb) sT) (E_readsAllM B H6 (by omega) e11 c6 (e176.trans hb) sT))) (fun y z => ?_)
  obtain ⟨v8, M9⟩ := y
  obtain ⟨⟨⟨H9, G9⟩, z⟩, ⟨E1, E⟩, EM⟩ := z
  dsimp only at H9 G9 z E1 E EM ⊢
  have fr : (∀ q, q < 400 * rc → M9.2.1 177 q = M.2.1 177 q) ∧ (∀ q, q < 48 * rc → M9.2.1 179 q = M.2.1 179 q) ∧ ∀ k, k ≠ rc → M9.2.1 180 k = M.2.1 180 k := ⟨fun q hq => (G9.2.1 q hq).trans (e177 q), fun q hq => (G9.2.2.1 q hq).trans (e179 q), fun k hk => (G9.2.2.2 k hk).trans (e180 k hk)⟩
  generalize s_text T = r at E EM ⊢
  cases r with
  | inl e =>
    obtain ⟨h5, g5⟩ := E
    subst h5
    rw [if_pos rfl, e_gI H9, Option.bind_some]
    exact Ok_s ⟨fr, trivial⟩
  | inr y =>
    obtain ⟨yy, ms⟩ := y
    have h5 : v8 = 1 := E
    subst h5
    have k2 : M9.2.1 175 2 = M.2.1 175 2 := (y_fk (i := 175) (k := 2) G9.1 (by decide)).trans ((r6 _ _ (Or.inl (by decide))).trans (r3 _ _ (Or.inr (by decide))))
    have inc := n_inc (x := M9.2.1 175 2) (n := rc) (by rw [k2]; exact hr) (by omega)
    have ci : (Int32.ofNat (rc + 1)).toInt = ((rc + 1 : Nat) : Int) := i_ofNat (by omega)
    rw [if_neg (by decide), e_gI H9, Option.bind_some, e_pI H9, Option.bind_some, inc]
    have H11 : y_HT (mI M9 175 2 (Int32.ofNat (rc + 1))) := (y_set (M' := mI M9 175 2 (Int32.ofNat (rc + 1))) (S := p_C + 2 ^ 2 + 2 ^ 11) H9 (i := 175) (k := 2) (by decide) rfl rfl y_mI1 (fun j a hj => y_mI2 hj) rfl (y_in (lo := 0) (hi := 6) rfl (by omega)) (by decide)).1
    rw [e_gI H11, Option.bind_some]
    have o11 : ∀ i, i ≠ 175 → (mI M9 175 2 (Int32.ofNat (rc + 1))).2.1 i = M9.2.1 i := fun i hi => funext (fun q => mI_ne (Or.inl hi))
    have sn : y_sn (mI M9 175 2 (Int32.ofNat (rc + 1))) rc = y_sn M9 rc := funext (fun j => mI_ne (Or.inl (by decide)))
    refine Ok_s ⟨?_, ⟨?_, ?_⟩, ?_⟩
    · show (∀ q, q < 400 * rc → (mI M9 175 2 (Int32.ofNat (rc + 1))).2.1 177 q = M.2.1 177 q) ∧ (∀ q, q < 48 * rc → (mI M9 175 2 (Int32.ofNat (rc + 1))).2.1 179 q = M.2.1 179 q) ∧ ∀ k, k ≠ rc → (mI M9 175 2 (Int32.ofNat (rc + 1))).2.1 180 k = M.2.1 180 k
      rw [o11 177 (by decide), o11 179 (by decide), o11 180 (by decide)]
      exact fr
    · show r_O (y_sn (mI M9 175 2 (Int32.ofNat (rc + 1))) rc) yy.2.2
      rw [sn]
      exact EM.1.1
    · show r_K ((mI M9 175 2 (Int32.ofNat (rc + 1))).2.1 179) (48 * rc) ms
      rw [o11 179 (by decide)]
      exact EM.1.2
    · show ((mI M9 175 2 (Int32.ofNat (rc + 1))).2.1 180 rc).toInt = _
      rw [o11 180 (by decide)]
      have q := EM.2
      have r := n_cc1 H9 rc
      rw [r.1, q]
